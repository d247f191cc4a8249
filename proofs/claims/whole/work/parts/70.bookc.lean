/-! The book, by the class. -/
theorem stE_e {D D' : ax_Dn} {l m s d v : Int32} {n : Nat} (h5 : D 2 5 = nI n) (hn : n < 20) (h1 : ∀ c w, (c, w) ∈ [(7, l), (8, m), (9, s), (10, d), (11, v)] → D' c = ins_ (D c) (ip_ (D 10) d n) n w) (h2 : ∀ c, ¬ c = 2 → ¬ (7 ≤ c ∧ c ≤ 11) → D' c = D c) (h3 : D' 2 = ax_up (D 2) 5 (nI (n + 1))) : D' = stE D l m s d v := by
  have cn : (nI n).toNatClampNeg = n := nI_clamp (by omega)
  funext c
  unfold stE
  split
  · rw [h3, h5, nI_1]
  · rw [h1 7 l (by simp), h5, cn]
  · rw [h1 8 m (by simp), h5, cn]
  · rw [h1 9 s (by simp), h5, cn]
  · rw [h1 10 d (by simp), h5, cn]
  · rw [h1 11 v (by simp), h5, cn]
  · rename_i a1 a2 a3 a4 a5 a6
    refine h2 c (fun q => a1 q) (fun q => ?_)
    have z : c = 7 ∨ c = 8 ∨ c = 9 ∨ c = 10 ∨ c = 11 := by omega
    exact z.elim a2 (fun z => z.elim a3 (fun z => z.elim a4 (fun z => z.elim a5 a6)))
theorem dg_in {x : Int32} {b : Nat} (h : rg_ x 0 9) (hb : 10 ≤ b) : vp_in x b := na_in h.1 (by have := h.2; omega)
/-- what a statement must be so that it can come -/
abbrev rc_ (l m s : Int32) : Prop := lt_ l ∧ (l = 107 → rg_ s 0 9) ∧ (¬ l = 109 → ¬ l = 107 → rg_ m 0 9)
set_option maxRecDepth 10000 in
theorem lp_16 {g : ax_G} {K : ax_Po} {E : ax_En} {n : Nat} (hn : n ≤ 22) {t m s d v : Nat → Int32} {P : Nat → Nat} : ∀ (j i M N : Nat) (D : ax_Dn), i + j = n → D 43 4 = nI n → D 44 = t → (∀ x, x < n → D 45 x = nI (P x) ∧ P x < 64 ∧ rc_ (t (P x)) (m x) (s x)) → D 46 = m → D 47 = s → D 48 = d → D 49 = v → D 2 0 = nI M → D 2 5 = nI N → M ≤ 6 → N ≤ 20 → fw_ (fun x => t (P x)) m d v j i M N = n → K (some (.int (nI n))) (ax_S (itC (fun x => t (P x)) m s d v j i D) E) → ax_WP g (ax_hy 16) K 92 92 2 [some (.ref 43), some (.ref 2), some (.int (nI i))] [] (ax_S D E) := by
  intro j
  induction j with
  | zero =>
    intro i M N D hi h4 ht hP e46 e47 e48 e49 h20 h25 hM hN hf h
    obtain rfl : i = n := by omega
    have hc : nI i ≤ nI i := nI_le (by omega) (by omega)
    refine ax_WPo (l := [(61, cy_61), (62, cy_62)]) (ax_oc sy_61 (ax_oc sy_62 ax_on)) ax_ok16 (fun t => t == 2) 400 2 rfl ?_
    simp +decide only [↓ax_B, ax_B, ax_kds, ax_gvs, ax_mcs, ax_ia_S, ax_up_ap, ax_vinL, and_self_left, ax_up_up, ax_up_sw, Nat.reduceAdd, Nat.reduceBEq, Nat.reduceLeDiff, Nat.reduceLT, Nat.reduceEqDiff, ↓reduceIte, true_and, and_true, List.cons_append, List.nil_append, Int32.reduceLT, Int32.reduceLE, Int32.reduceAdd, Int32.reduceToNatClampNeg, Int32.reduceOfNat, true_imp_iff, false_imp_iff, not_true_eq_false, not_false_eq_true, or_true, true_or, or_false, false_or, and_self, Bool.or_true, Bool.or_false, Bool.true_or, Bool.false_or, implies_true, forall_const, Bool.false_eq_true, Int32.neg_neg, ax_X16, ry_61, ry_62, h4,hc]
    exact h
  | succ j ih =>
    intro i M N D hi h4 ht hP e46 e47 e48 e49 h20 h25 hM hN hf h
    obtain ⟨p1, p2, hl, p3, p4⟩ := hP i (by omega)
    have hw : ¬ wr_ (t (P i)) (m i) (d i) (v i) M N := by
      intro q
      unfold fw_ at hf
      rw [if_pos q] at hf
      omega
    unfold fw_ at hf
    rw [if_neg hw] at hf
    have hc : ¬ nI n ≤ nI i := nI_ge (by omega) (by omega)
    have h1 : vp_in (nI i) 22 := vp_in_nI (by omega) (by omega)
    have h2 : (nI i).toNatClampNeg = i := nI_clamp (by omega)
    have h3 : nI i + 1 = nI (i + 1) := nI_1 i
    have e3 : (nI (P i)).toNatClampNeg = P i := nI_clamp (by omega)
    have e4 : vp_in (nI (P i)) 64 := vp_in_nI p2 (by omega)
    have w1 : ¬ (¬ t (P i) = 109 ∧ ¬ t (P i) = 107 ∧ ¬ m i < nI M) := fun q => hw (Or.inl q)
    have w2 : ¬ 6 < (if t (P i) = 109 then M + 1 else M) := fun q => hw (Or.inr (Or.inl q))
    have w3 : ¬ 20 < (if ev_ (t (P i)) then N + 1 else N) := fun q => hw (Or.inr (Or.inr (Or.inl q)))
    have cM : (nI M).toNatClampNeg = M := nI_clamp (by omega)
    have iM : nI M + 1 = nI (M + 1) := nI_1 M
    have iN : nI N + 1 = nI (N + 1) := nI_1 N
    have o2 : ∀ x, ¬ x = 0 → ¬ x = 5 → stC D (t (P i)) (m i) (s i) (d i) (v i) 2 x = D 2 x := fun x a b => stC_2 D _ _ _ _ _ x ⟨a, b⟩
    have oo : ∀ c, (¬ (2 ≤ c ∧ c ≤ 5) ∧ ¬ (7 ≤ c ∧ c ≤ 11)) → stC D (t (P i)) (m i) (s i) (d i) (v i) c = D c := fun c hc => stC_o D _ _ _ _ _ c hc
    -- behind a statement
    have nx : ∀ D', D' = stC D (t (P i)) (m i) (s i) (d i) (v i) → D' 2 0 = nI (if t (P i) = 109 then M + 1 else M) → D' 2 5 = nI (if ev_ (t (P i)) then N + 1 else N) → ax_WP g (ax_hy 16) K 92 92 2 [some (.ref 43), some (.ref 2), some (.int (nI (i + 1)))] [] (ax_S D' E) := by
      intro D' e q1 q2
      refine ih (i + 1) _ _ D' (by omega) ?_ ?_ (fun x hx => ?_) ?_ ?_ ?_ ?_ q1 q2 (Nat.not_lt.mp w2) (Nat.not_lt.mp w3) hf ?_
      · rw [e, oo 43 (by decide)]; exact h4
      · rw [e, oo 44 (by decide)]; exact ht
      · rw [e, oo 45 (by decide)]; exact hP x hx
      · rw [e, oo 46 (by decide)]; exact e46
      · rw [e, oo 47 (by decide)]; exact e47
      · rw [e, oo 48 (by decide)]; exact e48
      · rw [e, oo 49 (by decide)]; exact e49
      · rw [e]; exact h
    refine ax_WPo (l := [(61, cy_61), (62, cy_62)]) (ax_oc sy_61 (ax_oc sy_62 ax_on)) ax_ok16 (fun t => t == 2) 400 2 rfl ?_
    simp +decide only [↓ax_B, ax_B, ax_kds, ax_gvs, ax_mcs, ax_ia_S, ax_up_ap, ax_vinL, and_self_left, ax_up_up, ax_up_sw, Nat.reduceAdd, Nat.reduceBEq, Nat.reduceLeDiff, Nat.reduceLT, Nat.reduceEqDiff, ↓reduceIte, true_and, and_true, List.cons_append, List.nil_append, Int32.reduceLT, Int32.reduceLE, Int32.reduceAdd, Int32.reduceToNatClampNeg, Int32.reduceOfNat, true_imp_iff, false_imp_iff, not_true_eq_false, not_false_eq_true, or_true, true_or, or_false, false_or, and_self, Bool.or_true, Bool.or_false, Bool.true_or, Bool.false_or, implies_true, forall_const, Bool.false_eq_true, Int32.neg_neg, ax_X16, ry_61, ry_62, h4,hc,h1,h2,h3,p1,e3,e4,ht,e46,e47,e48,e49,h20,h25,cM,iM,iN]
    have tM : (nI M).toInt = M := na_nI (by omega)
    refine ⟨fun q => ⟨?_, ?_⟩, fun q99 => ⟨fun q => ⟨?_, ?_⟩, fun q107 => ⟨fun q => ⟨fun z => ?_, fun z => ⟨?_, ?_⟩⟩, fun q109 => ?_⟩⟩⟩
    · have a := p4 (by rw [q]; decide) (by rw [q]; decide)
      have b : m i < nI M := Classical.not_not.mp (fun z => w1 ⟨by rw [q]; decide, by rw [q]; decide, z⟩)
      have b := na_lt.mp b
      exact na_in a.1 (by rw [tM] at b; omega)
    · refine nx _ ?_ ?_ ?_
      · unfold stC
        rw [if_neg (by rw [q]; decide), if_neg (by rw [q]; decide), if_pos q]
      · rw [if_neg (by rw [q]; decide)]; exact h20
      · rw [if_neg (by rw [q]; decide)]; exact h25
    · exact dg_in (p3 q) (by decide)
    · refine nx _ ?_ ?_ ?_
      · unfold stC
        rw [if_neg (by rw [q]; decide), if_pos q]
      · rw [if_neg (by rw [q]; decide)]; exact h20
      · rw [if_neg (by rw [q]; decide)]; exact h25
    · rw [if_pos q] at w2
      have z := na_le.mp z
      rw [tM, show (6 : Int32).toInt = 6 from rfl] at z
      omega
    · rw [if_pos q] at w2
      exact vp_in_nI (by omega) (by omega)
    · refine nx _ ?_ ?_ ?_
      · unfold stC
        rw [if_pos q, h20, cM, iM]
      · rw [if_pos q]; rfl
      · rw [if_neg (by rw [q]; decide)]
        simp only [ax_up_ap, Nat.reduceEqDiff, ↓reduceIte]
        exact h25
    · have le : ev_ (t (P i)) := by
        rcases hl with q | q | q | q | q | q
        · exact absurd q q109
        · exact absurd q q107
        · exact Or.inl q
        · exact Or.inr (Or.inl q)
        · exact Or.inr (Or.inr q)
        · exact absurd q q99
      rw [if_pos le] at w3
      refine ⟨N, rfl, by omega, fun D' g1 g2 g3 => ?_⟩
      have e : D' = stC D (t (P i)) (m i) (s i) (d i) (v i) := by
        unfold stC
        rw [if_neg q109, if_neg q107, if_neg q99]
        exact stE_e h25 (by omega) g1 g2 g3
      refine nx D' e ?_ ?_
      · rw [if_neg q109, g3, ax_up_n _ _ (by decide)]; exact h20
      · rw [if_pos le, g3, ax_up_s]
/-- AskewLetters$Book.bringTo(LAskewLetters$Shop;)I -/
def cy_16 : ax_P1 := fun as z K => ∃ (D : ax_Dn) (E : ax_En), as = [.ref 43, .ref 2] ∧ z = ax_S D E ∧ (∃ (n M N : Nat) (P : Nat → Nat), D 43 4 = nI n ∧ n ≤ 22 ∧ D 2 0 = nI M ∧ D 2 5 = nI N ∧ M ≤ 6 ∧ N ≤ 20 ∧ (∀ x, x < n → D 45 x = nI (P x) ∧ P x < 64 ∧ rc_ (D 44 (P x)) (D 46 x) (D 47 x)) ∧ fw_ (fun x => D 44 (P x)) (D 46) (D 48) (D 49) n 0 M N = n ∧ K (some (.int (nI n))) (ax_S (itC (fun x => D 44 (P x)) (D 46) (D 47) (D 48) (D 49) n 0 D) E))
theorem ry_16  (D : ax_Dn) (E : ax_En) (K : ax_Po) : cy_16 [.ref 43, .ref 2] (ax_S D E) K = (∃ (n M N : Nat) (P : Nat → Nat), D 43 4 = nI n ∧ n ≤ 22 ∧ D 2 0 = nI M ∧ D 2 5 = nI N ∧ M ≤ 6 ∧ N ≤ 20 ∧ (∀ x, x < n → D 45 x = nI (P x) ∧ P x < 64 ∧ rc_ (D 44 (P x)) (D 46 x) (D 47 x)) ∧ fw_ (fun x => D 44 (P x)) (D 46) (D 48) (D 49) n 0 M N = n ∧ K (some (.int (nI n))) (ax_S (itC (fun x => D 44 (P x)) (D 46) (D 47) (D 48) (D 49) n 0 D) E)) := propext ⟨fun ⟨D', E', h1, h2, h3⟩ => by cases h1; obtain ⟨rfl, rfl⟩ := ax_S_inj h2; exact h3, fun h => ⟨D, E, rfl, rfl, h⟩⟩
theorem sy_16 {g : ax_G} : ∀ as z K, cy_16 as z K → ax_MM g 16 as z K := by
  rintro _ _ K ⟨D, E, rfl, rfl, h⟩
  refine ax_go16 _ _ ?_
  obtain ⟨n, M, N, P, h1, h2, h3, h4, h5, h6, h7, h8, h⟩ := h
  refine ax_WPo (l := [(61, cy_61), (62, cy_62)]) (ax_oc sy_61 (ax_oc sy_62 ax_on)) ax_ok16 (fun t => t == 2) 400 0 rfl ?_
  simp +decide only [↓ax_B, ax_B, ax_kds, ax_gvs, ax_mcs, ax_ia_S, ax_up_ap, ax_vinL, and_self_left, ax_up_up, ax_up_sw, Nat.reduceAdd, Nat.reduceBEq, Nat.reduceLeDiff, Nat.reduceLT, Nat.reduceEqDiff, ↓reduceIte, true_and, and_true, List.cons_append, List.nil_append, Int32.reduceLT, Int32.reduceLE, Int32.reduceAdd, Int32.reduceToNatClampNeg, Int32.reduceOfNat, true_imp_iff, false_imp_iff, not_true_eq_false, not_false_eq_true, or_true, true_or, or_false, false_or, and_self, Bool.or_true, Bool.or_false, Bool.true_or, Bool.false_or, implies_true, forall_const, Bool.false_eq_true, Int32.neg_neg, ax_X16, ry_61, ry_62]
  exact lp_16 h2 n 0 M N D (by omega) h1 rfl (fun x hx => h7 x hx) rfl rfl rfl rfl h3 h4 h5 h6 h8 h
theorem r_row {D D' : ax_Dn} (h : r_ D D') (x : Nat) (hx : ¬ x = 43 ∧ ¬ (45 ≤ x ∧ x ≤ 49)) : D' x = D x := funext fun i => h x i (fun q => hx.1 q.1) hx.2
abbrev wx_ (t : Nat → Int32) (n s M N : Nat) (D : ax_Dn) : Nat := fw_ (fun i => t (ps_ t n i)) (D 46) (D 48) (D 49) s 0 M N
/-- AskewLetters$Book.faultFor(LAskewLetters$Shop;)I -/
def cy_2 : ax_P1 := fun as z K => ∃ (D : ax_Dn) (E : ax_En), as = [.ref 43, .ref 2] ∧ z = ax_S D E ∧ (∃ t n M N, D 44 = t ∧ D 43 1 = nI n ∧ n ≤ 64 ∧ D 2 0 = nI M ∧ D 2 5 = nI N ∧ M ≤ 6 ∧ N ≤ 20 ∧ (∀ s D', rd_ t n s D D' → s < 22 → (0 < s → ps_ t n s < n) → (sP_ t n (ps_ t n s)).1 = false → K (some (.int (-1000 - nI (ps_ t n (s + 1))))) (ax_S D' E)) ∧ (∀ s D', rd_ t n s D D' → 0 < s → s < 22 → ps_ t n s = n → (wx_ t n s M N D' < s → K (some (.int (-2000 - nI (ps_ t n (wx_ t n s M N D'))))) (ax_S D' E)) ∧ (wx_ t n s M N D' = s → K (some (.int 0)) (ax_S D' E))))
theorem ry_2  (D : ax_Dn) (E : ax_En) (K : ax_Po) : cy_2 [.ref 43, .ref 2] (ax_S D E) K = (∃ t n M N, D 44 = t ∧ D 43 1 = nI n ∧ n ≤ 64 ∧ D 2 0 = nI M ∧ D 2 5 = nI N ∧ M ≤ 6 ∧ N ≤ 20 ∧ (∀ s D', rd_ t n s D D' → s < 22 → (0 < s → ps_ t n s < n) → (sP_ t n (ps_ t n s)).1 = false → K (some (.int (-1000 - nI (ps_ t n (s + 1))))) (ax_S D' E)) ∧ (∀ s D', rd_ t n s D D' → 0 < s → s < 22 → ps_ t n s = n → (wx_ t n s M N D' < s → K (some (.int (-2000 - nI (ps_ t n (wx_ t n s M N D'))))) (ax_S D' E)) ∧ (wx_ t n s M N D' = s → K (some (.int 0)) (ax_S D' E)))) := propext ⟨fun ⟨D', E', h1, h2, h3⟩ => by cases h1; obtain ⟨rfl, rfl⟩ := ax_S_inj h2; exact h3, fun h => ⟨D, E, rfl, rfl, h⟩⟩
set_option maxRecDepth 10000 in
theorem sy_2 {g : ax_G} : ∀ as z K, cy_2 as z K → ax_MM g 2 as z K := by
  rintro _ _ K ⟨D, E, rfl, rfl, h⟩
  refine ax_go2 _ _ ?_
  obtain ⟨t, n, M, N, h1, h2, h3, h4, h5, h6, h7, k1, k2⟩ := h
  refine ax_WPo (l := [(3, cy_3), (13, cy_13)]) (ax_oc sy_3 (ax_oc sy_13 ax_on)) ax_ok2 (fun _ => false) 400 0 rfl ?_
  simp +decide only [↓ax_B, ax_B, ax_kds, ax_gvs, ax_mcs, ax_ia_S, ax_up_ap, ax_vinL, and_self_left, ax_up_up, ax_up_sw, Nat.reduceAdd, Nat.reduceBEq, Nat.reduceLeDiff, Nat.reduceLT, Nat.reduceEqDiff, ↓reduceIte, true_and, and_true, List.cons_append, List.nil_append, Int32.reduceLT, Int32.reduceLE, Int32.reduceAdd, Int32.reduceToNatClampNeg, Int32.reduceOfNat, true_imp_iff, false_imp_iff, not_true_eq_false, not_false_eq_true, or_true, true_or, or_false, false_or, and_self, Bool.or_true, Bool.or_false, Bool.true_or, Bool.false_or, implies_true, forall_const, Bool.false_eq_true, Int32.neg_neg, ax_X2, ry_3, ry_13]
  refine ⟨t, n, h1, h2, h3, fun s D' hr s1 s2 s3 _ => ?_, fun s D' hr s1 s2 s3 s4 => ?_, fun D' hr s1 _ => ?_⟩
  · obtain ⟨g1, g2⟩ := ps_ge s (fun i hi => (hr.2.2 i hi).1)
    have q2 := k2 s D' hr s2 (by omega) s3
    have e44 : D' 44 = t := (r_row hr.1 44 (by decide)).trans h1
    have e2 : D' 2 = D 2 := r_row hr.1 2 (by decide)
    have hw : 0 ≤ wx_ t n s M N D' ∧ wx_ t n s M N D' ≤ 0 + s := fw_ge (fun i => t (ps_ t n i)) (D' 46) (D' 48) (D' 49) s 0 M N
    have hp : ∀ i, i < s → ps_ t n i < n := fun i hi => (sP_t (hr.2.2 i hi).1).1
    refine ⟨s, M, N, ps_ t n, hr.2.1, s1, by rw [e2]; exact h4, by rw [e2]; exact h5, h6, h7, fun i hi => ⟨(hr.2.2 i hi).2.2.1, by have := hp i hi; omega⟩, ?_⟩
    rw [e44, hr.2.1]
    rw [show fw_ (fun i => t (ps_ t n i)) (D' 46) (D' 48) (D' 49) s 0 M N = wx_ t n s M N D' from rfl]
    generalize hW : wx_ t n s M N D' = w at *
    rw [nI_leI (by omega) (by omega)]
    refine ⟨fun c => q2.2 (by omega), fun c => ⟨vp_in_nI (by omega) (by omega), ?_⟩⟩
    rw [nI_clamp (by omega), (hr.2.2 w (by omega)).2.2.1]
    exact q2.1 (by omega)
  · rw [s4]
    exact k1 s D' hr s1 s2 s3
  · have := (ps_ge 22 (fun i hi => (hr.2.2 i hi).1)).1
    omega
/-- no fault is 0 -/
theorem nz1_ {x : Nat} (h : x ≤ 64) : ¬ (-1000 - nI x : Int32) = 0 := by
  intro q
  have z : (-1000 : Int32).toInt = -1000 := rfl
  have e : (-1000 - nI x : Int32).toInt = -1000 - x := by rw [na_sub (by rw [z, na_nI (by omega)]; omega) (by rw [z, na_nI (by omega)]; omega), z, na_nI (by omega)]
  rw [q] at e
  have z0 : (0 : Int32).toInt = 0 := rfl
  omega
theorem nz2_ {x : Nat} (h : x ≤ 64) : ¬ (-2000 - nI x : Int32) = 0 := by
  intro q
  have z : (-2000 : Int32).toInt = -2000 := rfl
  have e : (-2000 - nI x : Int32).toInt = -2000 - x := by rw [na_sub (by rw [z, na_nI (by omega)]; omega) (by rw [z, na_nI (by omega)]; omega), z, na_nI (by omega)]
  rw [q] at e
  have z0 : (0 : Int32).toInt = 0 := rfl
  omega
theorem rc_of {t : Nat → Int32} {n p i : Nat} {D : ax_Dn} (h : (sP_ t n p).1 = true) (hf : sF_ t n p i D) : rc_ (t p) (D 46 i) (D 47 i) := by
  obtain ⟨hp, hl, hi, -, -⟩ := sP_t h
  obtain ⟨f1, f2, f3, f4, f5, f6⟩ := hf
  refine ⟨hl, fun q => ?_, fun q1 q2 => ?_⟩
  · rw [(f2 q).1]
    rw [q] at hi
    exact dg_rg (iP_107 hi).1
  · by_cases c : t p = 99
    · rw [(f6 c).1]
      rw [c] at hi
      exact dg_rg (iP_99 hi).1
    · have q : ev_ (t p) := by
        rcases hl with q | q | q | q | q | q
        · exact absurd q q1
        · exact absurd q q2
        · exact Or.inl q
        · exact Or.inr (Or.inl q)
        · exact Or.inr (Or.inr q)
        · exact absurd q c
      rw [(f3 q).1]
      have hb : (bP_ t n (p + 1)).1 = true := by
        rcases q with q | q | q
        · rw [q] at hi; exact (iP_98 hi).1
        · rw [q] at hi; exact (iP_115 hi).1
        · rw [q] at hi; exact (iP_110 hi).1
      exact dg_rg (bP_t hb).1
abbrev cl_ (D : ax_Dn) : ax_Dn := ax_up D 43 (ax_up (D 43) 1 0)
/-- AskewLetters.book()I -/
def cy_74 : ax_P1 := fun as z K => ∃ (D : ax_Dn) (E : ax_En), as = [.ref 0] ∧ z = ax_S D E ∧ (∃ t n M N, D 44 = t ∧ D 43 1 = nI n ∧ n ≤ 64 ∧ D 2 0 = nI M ∧ D 2 5 = nI N ∧ M ≤ 6 ∧ N ≤ 20 ∧ (∀ s D', rd_ t n s D D' → s < 22 → (0 < s → ps_ t n s < n) → (sP_ t n (ps_ t n s)).1 = false → K (some (.int (-1000 - nI (ps_ t n (s + 1))))) (ax_S (cl_ D') E)) ∧ (∀ s D', rd_ t n s D D' → 0 < s → s < 22 → ps_ t n s = n → (wx_ t n s M N D' < s → K (some (.int (-2000 - nI (ps_ t n (wx_ t n s M N D'))))) (ax_S (cl_ D') E)) ∧ (wx_ t n s M N D' = s → K (some (.int (nI s))) (ax_S (cl_ (itC (fun i => t (ps_ t n i)) (D' 46) (D' 47) (D' 48) (D' 49) s 0 D')) E))))
theorem ry_74  (D : ax_Dn) (E : ax_En) (K : ax_Po) : cy_74 [.ref 0] (ax_S D E) K = (∃ t n M N, D 44 = t ∧ D 43 1 = nI n ∧ n ≤ 64 ∧ D 2 0 = nI M ∧ D 2 5 = nI N ∧ M ≤ 6 ∧ N ≤ 20 ∧ (∀ s D', rd_ t n s D D' → s < 22 → (0 < s → ps_ t n s < n) → (sP_ t n (ps_ t n s)).1 = false → K (some (.int (-1000 - nI (ps_ t n (s + 1))))) (ax_S (cl_ D') E)) ∧ (∀ s D', rd_ t n s D D' → 0 < s → s < 22 → ps_ t n s = n → (wx_ t n s M N D' < s → K (some (.int (-2000 - nI (ps_ t n (wx_ t n s M N D'))))) (ax_S (cl_ D') E)) ∧ (wx_ t n s M N D' = s → K (some (.int (nI s))) (ax_S (cl_ (itC (fun i => t (ps_ t n i)) (D' 46) (D' 47) (D' 48) (D' 49) s 0 D')) E)))) := propext ⟨fun ⟨D', E', h1, h2, h3⟩ => by cases h1; obtain ⟨rfl, rfl⟩ := ax_S_inj h2; exact h3, fun h => ⟨D, E, rfl, rfl, h⟩⟩
set_option maxRecDepth 10000 in
theorem sy_74 {g : ax_G} : ∀ as z K, cy_74 as z K → ax_MM g 74 as z K := by
  rintro _ _ K ⟨D, E, rfl, rfl, h⟩
  refine ax_go74 _ ?_
  obtain ⟨t, n, M, N, h1, h2, h3, h4, h5, h6, h7, k1, k2⟩ := h
  refine ax_WPo (l := [(2, cy_2), (16, cy_16)]) (ax_oc sy_2 (ax_oc sy_16 ax_on)) ax_ok74 (fun _ => false) 400 0 rfl ?_
  simp +decide only [↓ax_B, ax_B, ax_kds, ax_gvs, ax_mcs, ax_ia_S, ax_up_ap, ax_vinL, and_self_left, ax_up_up, ax_up_sw, Nat.reduceAdd, Nat.reduceBEq, Nat.reduceLeDiff, Nat.reduceLT, Nat.reduceEqDiff, ↓reduceIte, true_and, and_true, List.cons_append, List.nil_append, Int32.reduceLT, Int32.reduceLE, Int32.reduceAdd, Int32.reduceToNatClampNeg, Int32.reduceOfNat, true_imp_iff, false_imp_iff, not_true_eq_false, not_false_eq_true, or_true, true_or, or_false, false_or, and_self, Bool.or_true, Bool.or_false, Bool.true_or, Bool.false_or, implies_true, forall_const, Bool.false_eq_true, Int32.neg_neg, ax_X74, ry_2, ry_16]
  refine ⟨t, n, M, N, h1, h2, h3, h4, h5, h6, h7, fun s D' hr s1 s2 s3 => ⟨fun _ => k1 s D' hr s1 s2 s3, fun z => ?_⟩, fun s D' hr s1 s2 s3 => ⟨fun w => ⟨fun _ => (k2 s D' hr s1 s2 s3).1 w, fun z => ?_⟩, fun w => ?_⟩⟩
  · have g := sP_le (t := t) (ps_ge s (fun i hi => (hr.2.2 i hi).1)).2
    exact absurd z (nz1_ (by show (sP_ t n (ps_ t n s)).2 ≤ 64; omega))
  · have g := (sP_t (hr.2.2 _ w).1).1
    exact absurd z (nz2_ (by omega))
  · have k3 := (k2 s D' hr s1 s2 s3).2 w
    have e44 : D' 44 = t := (r_row hr.1 44 (by decide)).trans h1
    have e2 : D' 2 = D 2 := r_row hr.1 2 (by decide)
    rw [e44, e2]
    refine ⟨s, M, N, ps_ t n, hr.2.1, by omega, h4, h5, h6, h7, fun x hx => ⟨(hr.2.2 x hx).2.2.1, ?_, rc_of (hr.2.2 x hx).1 (hr.2.2 x hx).2.2.2⟩, w, k3⟩
    have := (sP_t (hr.2.2 x hx).1).1
    omega
