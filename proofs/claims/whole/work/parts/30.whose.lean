/-! Hands. -/
theorem ix_ {h : Nat} {s : Int32} (hh : h < 4) (hs : ax_cnt s 9) : nI h * 10 + s = nI (h * 10 + s.toNatClampNeg) ∧ 10 * nI h + s = nI (h * 10 + s.toNatClampNeg) ∧ s.toNatClampNeg ≤ 9 := by
  obtain ⟨k, rfl, hk, e⟩ := ax_cnt_of hs (by decide)
  have e10 : (10 : Int32).toInt = 10 := rfl
  have e1 : (nI h * 10).toInt = h * 10 := by
    rw [na_mul (by rw [na_nI (by omega), e10]; omega) (by rw [na_nI (by omega), e10]; omega), na_nI (by omega), e10]
  have e2 : (10 * nI h).toInt = h * 10 := by
    rw [na_mul (by rw [na_nI (by omega), e10]; omega) (by rw [na_nI (by omega), e10]; omega), na_nI (by omega), e10]
    omega
  rw [e]
  refine ⟨?_, ?_, hk⟩
  · apply na_eq.mpr
    rw [na_add (by rw [e1, na_nI (by omega)]; omega) (by rw [e1, na_nI (by omega)]; omega), e1, na_nI (by omega), na_nI (by omega)]
    omega
  · apply na_eq.mpr
    rw [na_add (by rw [e2, na_nI (by omega)]; omega) (by rw [e2, na_nI (by omega)]; omega), e2, na_nI (by omega), na_nI (by omega)]
    omega
/-- how like a page's forces are to a hand's -/
def hl_ (sg fc hf : Nat → Int32) (h : Nat) : Nat → Nat → Int32 → Int32
  | 0, _, a => a
  | j + 1, k, a => hl_ sg fc hf h j (k + 1) (a + mx_ (6 - ab_ (fc k - hf (h * 10 + (sg k).toNatClampNeg))))
theorem lp_41 {g : ax_G} {K : ax_Po} {D : ax_Dn} {E : ax_En} {n : Nat} (hn : D 12 0 = nI n) (h30 : n ≤ 30) (hs : sg_ok (D 13)) {h : Nat} (hh : h < 4) : ∀ (j k : Nat) (a : Int32), k + j = n → K (some (.int (hl_ (D 13) (D 17) (D 20) h j k a))) (ax_S D E) → ax_WP g (ax_hy 41) K 92 92 5 [some (.ref 19), some (.int (nI h)), some (.ref 12), some (.int a), some (.int (nI k))] [] (ax_S D E) := by
  intro j
  induction j with
  | zero =>
    intro k a hk q
    have hc : nI n ≤ nI k := nI_le (by omega) (by omega)
    refine ax_WPo (l := [(40, cy_40)]) (ax_oc sy_40 ax_on) ax_ok41 (fun t => t == 5) 400 5 rfl ?_
    simp +decide only [↓ax_B, ax_B, ax_kds, ax_gvs, ax_mcs, ax_ia_S, ax_up_ap, ax_vinL, and_self_left, ax_up_up, ax_up_sw, Nat.reduceAdd, Nat.reduceBEq, Nat.reduceLeDiff, Nat.reduceLT, Nat.reduceEqDiff, ↓reduceIte, true_and, and_true, List.cons_append, List.nil_append, Int32.reduceLT, Int32.reduceLE, Int32.reduceAdd, Int32.reduceToNatClampNeg, Int32.reduceOfNat, true_imp_iff, false_imp_iff, not_true_eq_false, not_false_eq_true, or_true, true_or, or_false, false_or, and_self, Bool.or_true, Bool.or_false, Bool.true_or, Bool.false_or, implies_true, forall_const, Bool.false_eq_true, Int32.neg_neg, ax_X41, ry_40, hn, hc]
    exact q
  | succ j ih =>
    intro k a hk q
    have hc : ¬ nI n ≤ nI k := nI_ge (by omega) (by omega)
    have h1 : vp_in (nI k) 30 := vp_in_nI (by omega) (by omega)
    have h2 : (nI k).toNatClampNeg = k := nI_clamp (by omega)
    have h3 : nI k + 1 = nI (k + 1) := nI_1 k
    obtain ⟨i1, i2, i3⟩ := ix_ hh (hs k)
    have h4 : vp_in (nI (h * 10 + (D 13 k).toNatClampNeg)) 40 := vp_in_nI (by omega) (by omega)
    have h5 : (nI (h * 10 + (D 13 k).toNatClampNeg)).toNatClampNeg = h * 10 + (D 13 k).toNatClampNeg := nI_clamp (by omega)
    unfold hl_ at q
    refine ax_WPo (l := [(40, cy_40)]) (ax_oc sy_40 ax_on) ax_ok41 (fun t => t == 5) 400 5 rfl ?_
    simp +decide only [↓ax_B, ax_B, ax_kds, ax_gvs, ax_mcs, ax_ia_S, ax_up_ap, ax_vinL, and_self_left, ax_up_up, ax_up_sw, Nat.reduceAdd, Nat.reduceBEq, Nat.reduceLeDiff, Nat.reduceLT, Nat.reduceEqDiff, ↓reduceIte, true_and, and_true, List.cons_append, List.nil_append, Int32.reduceLT, Int32.reduceLE, Int32.reduceAdd, Int32.reduceToNatClampNeg, Int32.reduceOfNat, true_imp_iff, false_imp_iff, not_true_eq_false, not_false_eq_true, or_true, true_or, or_false, false_or, and_self, Bool.or_true, Bool.or_false, Bool.true_or, Bool.false_or, implies_true, forall_const, Bool.false_eq_true, Int32.neg_neg, ax_X41, ry_40, hn, hc, h1, h2, h3, i1, h4, h5]
    exact ih (k + 1) _ (by omega) q
/-- AskewLetters$Hands.likeOf(ILAskewLetters$Page;)I -/
def cy_41 : ax_P1 := fun as z K => ∃ (p1 : Int32) (D : ax_Dn) (E : ax_En), as = [.ref 19, .int p1, .ref 12] ∧ z = ax_S D E ∧ (vp_in p1 4 ∧ ax_cnt (D 12 0) 30 ∧ sg_ok (D 13) ∧ K (some (.int (hl_ (D 13) (D 17) (D 20) p1.toNatClampNeg (D 12 0).toNatClampNeg 0 0))) (ax_S D E))
theorem ry_41 (p1 : Int32) (D : ax_Dn) (E : ax_En) (K : ax_Po) : cy_41 [.ref 19, .int p1, .ref 12] (ax_S D E) K = (vp_in p1 4 ∧ ax_cnt (D 12 0) 30 ∧ sg_ok (D 13) ∧ K (some (.int (hl_ (D 13) (D 17) (D 20) p1.toNatClampNeg (D 12 0).toNatClampNeg 0 0))) (ax_S D E)) := propext ⟨fun ⟨p1', D', E', h1, h2, h3⟩ => by cases h1; obtain ⟨rfl, rfl⟩ := ax_S_inj h2; exact h3, fun h => ⟨p1, D, E, rfl, rfl, h⟩⟩
theorem sy_41 {g : ax_G} : ∀ as z K, cy_41 as z K → ax_MM g 41 as z K := by
  rintro _ _ K ⟨p1, D, E, rfl, rfl, h⟩
  refine ax_go41 _ _ _ ?_
  obtain ⟨h1, h2, h3, h⟩ := h
  obtain ⟨i, hi, rfl⟩ := vp_in_of h1 (by decide)
  obtain ⟨n, hn, h30, hc⟩ := ax_cnt_of h2 (by decide)
  rw [nI_clamp (by omega), hc] at h
  refine ax_WPo (l := [(40, cy_40)]) (ax_oc sy_40 ax_on) ax_ok41 (fun t => t == 5) 400 0 rfl ?_
  simp +decide only [↓ax_B, ax_B, ax_kds, ax_gvs, ax_mcs, ax_ia_S, ax_up_ap, ax_vinL, and_self_left, ax_up_up, ax_up_sw, Nat.reduceAdd, Nat.reduceBEq, Nat.reduceLeDiff, Nat.reduceLT, Nat.reduceEqDiff, ↓reduceIte, true_and, and_true, List.cons_append, List.nil_append, Int32.reduceLT, Int32.reduceLE, Int32.reduceAdd, Int32.reduceToNatClampNeg, Int32.reduceOfNat, true_imp_iff, false_imp_iff, not_true_eq_false, not_false_eq_true, or_true, true_or, or_false, false_or, and_self, Bool.or_true, Bool.or_false, Bool.true_or, Bool.false_or, implies_true, forall_const, Bool.false_eq_true, Int32.neg_neg, ax_X41, ry_40]
  exact lp_41 hn h30 h3 hi n 0 0 (by omega) h
theorem cnt_rg {x : Int32} {n : Nat} (h : ax_cnt x n) (hn : n ≤ 100) : rg_ x (-100) 100 := ⟨by have := h.1; omega, by have := h.2; omega⟩
theorem lp_186 {g : ax_G} {K : ax_Po} {D : ax_Dn} {E : ax_En} {n : Nat} (hn : D 58 32 = nI n) (h30 : n ≤ 30) (hok : okM D) {h : Nat} (hh : h < 4) : ∀ (j k : Nat) (a : Int32), k + j = n → K (some (.int (hl_ (D 81) (D 85) (D 86) h j k a))) (ax_S D E) → ax_WP g (ax_hy 186) K 92 92 4 [some (.ref 58), some (.int (nI h)), some (.int a), some (.int (nI k))] [] (ax_S D E) := by
  have hs := hok.2.2.2.1
  have r1 : ∀ k, rg_ (D 85 k) (-100) 100 := fun k => cnt_rg (hok.2.2.2.2.2.2.2.1 k) (by decide)
  have r2 : ∀ k, rg_ (D 86 k) (-100) 100 := fun k => cnt_rg (hok.2.2.2.2.2.2.2.2.2.2.2.2.2.2.2.2 k) (by decide)
  intro j
  induction j with
  | zero =>
    intro k a hk q
    have hc : nI n ≤ nI k := nI_le (by omega) (by omega)
    refine ax_WPo (l := [(157, cy_157), (158, cy_158)]) (ax_oc sy_157 (ax_oc sy_158 ax_on)) ax_ok186 (fun t => t == 4) 400 4 rfl ?_
    simp +decide only [↓ax_B, ax_B, ax_kds, ax_gvs, ax_mcs, ax_ia_S, ax_up_ap, ax_vinL, and_self_left, ax_up_up, ax_up_sw, Nat.reduceAdd, Nat.reduceBEq, Nat.reduceLeDiff, Nat.reduceLT, Nat.reduceEqDiff, ↓reduceIte, true_and, and_true, List.cons_append, List.nil_append, Int32.reduceLT, Int32.reduceLE, Int32.reduceAdd, Int32.reduceToNatClampNeg, Int32.reduceOfNat, true_imp_iff, false_imp_iff, not_true_eq_false, not_false_eq_true, or_true, true_or, or_false, false_or, and_self, Bool.or_true, Bool.or_false, Bool.true_or, Bool.false_or, implies_true, forall_const, Bool.false_eq_true, Int32.neg_neg, ax_X186, ry_157, ry_158, hn, hc]
    exact q
  | succ j ih =>
    intro k a hk q
    have hc : ¬ nI n ≤ nI k := nI_ge (by omega) (by omega)
    have h1 : vp_in (nI k) 30 := vp_in_nI (by omega) (by omega)
    have h2 : (nI k).toNatClampNeg = k := nI_clamp (by omega)
    have h3 : nI k + 1 = nI (k + 1) := nI_1 k
    obtain ⟨i1, i2, i3⟩ := ix_ hh (hs k)
    have h4 : vp_in (nI (h * 10 + (D 81 k).toNatClampNeg)) 40 := vp_in_nI (by omega) (by omega)
    have h5 : (nI (h * 10 + (D 81 k).toNatClampNeg)).toNatClampNeg = h * 10 + (D 81 k).toNatClampNeg := nI_clamp (by omega)
    unfold hl_ at q
    refine ax_WPo (l := [(157, cy_157), (158, cy_158)]) (ax_oc sy_157 (ax_oc sy_158 ax_on)) ax_ok186 (fun t => t == 4) 400 4 rfl ?_
    simp +decide only [↓ax_B, ax_B, ax_kds, ax_gvs, ax_mcs, ax_ia_S, ax_up_ap, ax_vinL, and_self_left, ax_up_up, ax_up_sw, Nat.reduceAdd, Nat.reduceBEq, Nat.reduceLeDiff, Nat.reduceLT, Nat.reduceEqDiff, ↓reduceIte, true_and, and_true, List.cons_append, List.nil_append, Int32.reduceLT, Int32.reduceLE, Int32.reduceAdd, Int32.reduceToNatClampNeg, Int32.reduceOfNat, true_imp_iff, false_imp_iff, not_true_eq_false, not_false_eq_true, or_true, true_or, or_false, false_or, and_self, Bool.or_true, Bool.or_false, Bool.true_or, Bool.false_or, implies_true, forall_const, Bool.false_eq_true, Int32.neg_neg, ax_X186, ry_157, ry_158, hn, hc, h1, h2, h3, i2, h4, h5]
    refine ⟨fun q1 => ⟨fun q2 => ?_, fun q2 => ?_⟩, fun q1 => ⟨fun q2 => ?_, fun q2 => ?_⟩⟩
    · rw [al1_ q2, ap1_ (r1 _) (r2 _) q1]; exact ih (k + 1) _ (by omega) q
    · rw [ap1_ (r1 _) (r2 _) q1] at q2; rw [al2_ q2]; exact ih (k + 1) _ (by omega) q
    · rw [al1_ q2, ap2_ (r1 _) (r2 _) q1]; exact ih (k + 1) _ (by omega) q
    · rw [ap2_ (r1 _) (r2 _) q1] at q2; rw [al2_ q2]; exact ih (k + 1) _ (by omega) q
/-- AskewLettersModel.handLikeOf(I)I -/
def cy_186 : ax_P1 := fun as z K => ∃ (p1 : Int32) (D : ax_Dn) (E : ax_En), as = [.ref 58, .int p1] ∧ z = ax_S D E ∧ (vp_in p1 4 ∧ okM D ∧ K (some (.int (hl_ (D 81) (D 85) (D 86) p1.toNatClampNeg (D 58 32).toNatClampNeg 0 0))) (ax_S D E))
theorem ry_186 (p1 : Int32) (D : ax_Dn) (E : ax_En) (K : ax_Po) : cy_186 [.ref 58, .int p1] (ax_S D E) K = (vp_in p1 4 ∧ okM D ∧ K (some (.int (hl_ (D 81) (D 85) (D 86) p1.toNatClampNeg (D 58 32).toNatClampNeg 0 0))) (ax_S D E)) := propext ⟨fun ⟨p1', D', E', h1, h2, h3⟩ => by cases h1; obtain ⟨rfl, rfl⟩ := ax_S_inj h2; exact h3, fun h => ⟨p1, D, E, rfl, rfl, h⟩⟩
theorem sy_186 {g : ax_G} : ∀ as z K, cy_186 as z K → ax_MM g 186 as z K := by
  rintro _ _ K ⟨p1, D, E, rfl, rfl, h⟩
  refine ax_go186 _ _ ?_
  obtain ⟨h1, h2, h⟩ := h
  obtain ⟨i, hi, rfl⟩ := vp_in_of h1 (by decide)
  obtain ⟨n, hn, h30, hc⟩ := ax_cnt_of h2.2.2.1 (by decide)
  rw [nI_clamp (by omega), hc] at h
  refine ax_WPo (l := [(157, cy_157), (158, cy_158)]) (ax_oc sy_157 (ax_oc sy_158 ax_on)) ax_ok186 (fun t => t == 4) 400 0 rfl ?_
  simp +decide only [↓ax_B, ax_B, ax_kds, ax_gvs, ax_mcs, ax_ia_S, ax_up_ap, ax_vinL, and_self_left, ax_up_up, ax_up_sw, Nat.reduceAdd, Nat.reduceBEq, Nat.reduceLeDiff, Nat.reduceLT, Nat.reduceEqDiff, ↓reduceIte, true_and, and_true, List.cons_append, List.nil_append, Int32.reduceLT, Int32.reduceLE, Int32.reduceAdd, Int32.reduceToNatClampNeg, Int32.reduceOfNat, true_imp_iff, false_imp_iff, not_true_eq_false, not_false_eq_true, or_true, true_or, or_false, false_or, and_self, Bool.or_true, Bool.or_false, Bool.true_or, Bool.false_or, implies_true, forall_const, Bool.false_eq_true, Int32.neg_neg, ax_X186, ry_157, ry_158]
  exact lp_186 hn h30 h2 hi n 0 0 (by omega) h
/-- the first of the most like: none so far, or one -/
def wh_ (f : Nat → Int32) : Nat → Nat → Option Nat → Option Nat
  | 0, _, b => b
  | j + 1, k, b => wh_ f j (k + 1) (match b with
    | none => some k
    | some q => if f k ≤ f q then some q else some k)
def wa_ (b : Option Nat) : Int32 := match b with
  | none => -9
  | some q => nI q
theorem lp_42 {g : ax_G} {K : ax_Po} {D : ax_Dn} {E : ax_En} {n : Nat} (hn : D 19 0 = nI n) (h4 : n ≤ 4) (hp : ax_cnt (D 12 0) 30) (hs : sg_ok (D 13)) (f : Nat → Int32) (hf : f = fun h => hl_ (D 13) (D 17) (D 20) h (D 12 0).toNatClampNeg 0 0) : ∀ (j k : Nat) (b : Option Nat) (x y : Int32) u, k + j = n → (match b with | none => x = -9 | some q => q < 4 ∧ x = nI q ∧ y = f q) → K (some (.int (wa_ (wh_ f j k b)))) (ax_S D E) → ax_WP g (ax_hy 42) K 92 92 8 [some (.ref 19), some (.ref 12), some (.int x), some (.int y), some (.int (nI k)), u] [] (ax_S D E) := by
  intro j
  induction j with
  | zero =>
    intro k b x y u hk hb h
    have hc : nI n ≤ nI k := nI_le (by omega) (by omega)
    have hx : x = wa_ b := by
      unfold wa_
      cases b with
      | none => exact hb
      | some q => exact hb.2.1
    refine ax_WPo (l := [(41, cy_41)]) (ax_oc sy_41 ax_on) ax_ok42 (fun t => t == 8) 400 8 rfl ?_
    simp +decide only [↓ax_B, ax_B, ax_kds, ax_gvs, ax_mcs, ax_ia_S, ax_up_ap, ax_vinL, and_self_left, ax_up_up, ax_up_sw, Nat.reduceAdd, Nat.reduceBEq, Nat.reduceLeDiff, Nat.reduceLT, Nat.reduceEqDiff, ↓reduceIte, true_and, and_true, List.cons_append, List.nil_append, Int32.reduceLT, Int32.reduceLE, Int32.reduceAdd, Int32.reduceToNatClampNeg, Int32.reduceOfNat, true_imp_iff, false_imp_iff, not_true_eq_false, not_false_eq_true, or_true, true_or, or_false, false_or, and_self, Bool.or_true, Bool.or_false, Bool.true_or, Bool.false_or, implies_true, forall_const, Bool.false_eq_true, Int32.neg_neg, ax_X42, ry_41, hn, hc]
    rw [hx]
    exact h
  | succ j ih =>
    intro k b x y u hk hb h
    have hc : ¬ nI n ≤ nI k := nI_ge (by omega) (by omega)
    have h1 : vp_in (nI k) 4 := vp_in_nI (by omega) (by omega)
    have h2 : (nI k).toNatClampNeg = k := nI_clamp (by omega)
    have h3 : nI k + 1 = nI (k + 1) := nI_1 k
    have hfk : hl_ (D 13) (D 17) (D 20) k (D 12 0).toNatClampNeg 0 0 = f k := by rw [hf]
    unfold wh_ at h
    refine ax_WPo (l := [(41, cy_41)]) (ax_oc sy_41 ax_on) ax_ok42 (fun t => t == 8) 400 8 rfl ?_
    simp +decide only [↓ax_B, ax_B, ax_kds, ax_gvs, ax_mcs, ax_ia_S, ax_up_ap, ax_vinL, and_self_left, ax_up_up, ax_up_sw, Nat.reduceAdd, Nat.reduceBEq, Nat.reduceLeDiff, Nat.reduceLT, Nat.reduceEqDiff, ↓reduceIte, true_and, and_true, List.cons_append, List.nil_append, Int32.reduceLT, Int32.reduceLE, Int32.reduceAdd, Int32.reduceToNatClampNeg, Int32.reduceOfNat, true_imp_iff, false_imp_iff, not_true_eq_false, not_false_eq_true, or_true, true_or, or_false, false_or, and_self, Bool.or_true, Bool.or_false, Bool.true_or, Bool.false_or, implies_true, forall_const, Bool.false_eq_true, Int32.neg_neg, ax_X42, ry_41, hn, hc, h1, h2, h3, hp, hs, hfk]
    refine ⟨fun c => ?_, fun c => ⟨fun c2 => ?_, fun c2 => ?_⟩⟩
    · cases b with
      | none => exact ih (k + 1) (some k) _ _ _ (by omega) ⟨by omega, rfl, rfl⟩ h
      | some q =>
        exfalso
        obtain ⟨b1, b2, b3⟩ := hb
        rw [b2] at c
        have := congrArg Int32.toInt c
        rw [na_nI (by omega)] at this
        have e : (-9 : Int32).toInt = -9 := rfl
        rw [e] at this
        omega
    · cases b with
      | none => exact absurd hb c
      | some q =>
        obtain ⟨b1, b2, b3⟩ := hb
        rw [b3] at c2
        have h : K (some (.int (wa_ (wh_ f j (k + 1) (if f k ≤ f q then some q else some k))))) (ax_S D E) := h
        rw [if_pos c2] at h
        exact ih (k + 1) (some q) _ _ _ (by omega) ⟨b1, b2, b3⟩ h
    · cases b with
      | none => exact absurd hb c
      | some q =>
        obtain ⟨b1, b2, b3⟩ := hb
        rw [b3] at c2
        have h : K (some (.int (wa_ (wh_ f j (k + 1) (if f k ≤ f q then some q else some k))))) (ax_S D E) := h
        rw [if_neg c2] at h
        exact ih (k + 1) (some k) _ _ _ (by omega) ⟨by omega, rfl, rfl⟩ h
/-- AskewLetters$Hands.likest(LAskewLetters$Page;)I -/
def cy_42 : ax_P1 := fun as z K => ∃ (D : ax_Dn) (E : ax_En), as = [.ref 19, .ref 12] ∧ z = ax_S D E ∧ (ax_cnt (D 19 0) 4 ∧ ax_cnt (D 12 0) 30 ∧ sg_ok (D 13) ∧ K (some (.int (wa_ (wh_ (fun h => hl_ (D 13) (D 17) (D 20) h (D 12 0).toNatClampNeg 0 0) (D 19 0).toNatClampNeg 0 none)))) (ax_S D E))
theorem ry_42  (D : ax_Dn) (E : ax_En) (K : ax_Po) : cy_42 [.ref 19, .ref 12] (ax_S D E) K = (ax_cnt (D 19 0) 4 ∧ ax_cnt (D 12 0) 30 ∧ sg_ok (D 13) ∧ K (some (.int (wa_ (wh_ (fun h => hl_ (D 13) (D 17) (D 20) h (D 12 0).toNatClampNeg 0 0) (D 19 0).toNatClampNeg 0 none)))) (ax_S D E)) := propext ⟨fun ⟨D', E', h1, h2, h3⟩ => by cases h1; obtain ⟨rfl, rfl⟩ := ax_S_inj h2; exact h3, fun h => ⟨D, E, rfl, rfl, h⟩⟩
theorem sy_42 {g : ax_G} : ∀ as z K, cy_42 as z K → ax_MM g 42 as z K := by
  rintro _ _ K ⟨D, E, rfl, rfl, h⟩
  refine ax_go42 _ _ ?_
  obtain ⟨h1, h2, h3, h⟩ := h
  obtain ⟨n, hn, h4, hc⟩ := ax_cnt_of h1 (by decide)
  rw [hc] at h
  refine ax_WPo (l := [(41, cy_41)]) (ax_oc sy_41 ax_on) ax_ok42 (fun t => t == 8) 400 0 rfl ?_
  simp +decide only [↓ax_B, ax_B, ax_kds, ax_gvs, ax_mcs, ax_ia_S, ax_up_ap, ax_vinL, and_self_left, ax_up_up, ax_up_sw, Nat.reduceAdd, Nat.reduceBEq, Nat.reduceLeDiff, Nat.reduceLT, Nat.reduceEqDiff, ↓reduceIte, true_and, and_true, List.cons_append, List.nil_append, Int32.reduceLT, Int32.reduceLE, Int32.reduceAdd, Int32.reduceToNatClampNeg, Int32.reduceOfNat, true_imp_iff, false_imp_iff, not_true_eq_false, not_false_eq_true, or_true, true_or, or_false, false_or, and_self, Bool.or_true, Bool.or_false, Bool.true_or, Bool.false_or, implies_true, forall_const, Bool.false_eq_true, Int32.neg_neg, ax_X42, ry_41]
  exact lp_42 hn h4 h2 h3 _ rfl n 0 none (-9) 0 none (by omega) rfl h
theorem lp_188 {g : ax_G} {K : ax_Po} {D : ax_Dn} {E : ax_En} {n : Nat} (hn : D 58 35 = nI n) (h4 : n ≤ 4) (hok : okM D) (f : Nat → Int32) (hf : f = fun h => hl_ (D 81) (D 85) (D 86) h (D 58 32).toNatClampNeg 0 0) : ∀ (j k : Nat) (b : Option Nat), k + j = n → (∀ q, b = some q → q < 4) → K (some (.int (wa_ (wh_ f j k b)))) (ax_S D E) → ax_WP g (ax_hy 188) K 92 92 5 [some (.ref 58), some (.int (wa_ b)), some (.int (nI k))] [] (ax_S D E) := by
  intro j
  induction j with
  | zero =>
    intro k b hk hb h
    have hc : nI n ≤ nI k := nI_le (by omega) (by omega)
    refine ax_WPo (l := [(186, cy_186)]) (ax_oc sy_186 ax_on) ax_ok188 (fun t => t == 5) 400 5 rfl ?_
    simp +decide only [↓ax_B, ax_B, ax_kds, ax_gvs, ax_mcs, ax_ia_S, ax_up_ap, ax_vinL, and_self_left, ax_up_up, ax_up_sw, Nat.reduceAdd, Nat.reduceBEq, Nat.reduceLeDiff, Nat.reduceLT, Nat.reduceEqDiff, ↓reduceIte, true_and, and_true, List.cons_append, List.nil_append, Int32.reduceLT, Int32.reduceLE, Int32.reduceAdd, Int32.reduceToNatClampNeg, Int32.reduceOfNat, true_imp_iff, false_imp_iff, not_true_eq_false, not_false_eq_true, or_true, true_or, or_false, false_or, and_self, Bool.or_true, Bool.or_false, Bool.true_or, Bool.false_or, implies_true, forall_const, Bool.false_eq_true, Int32.neg_neg, ax_X188, ry_186, hn, hc]
    exact h
  | succ j ih =>
    intro k b hk hb h
    have hc : ¬ nI n ≤ nI k := nI_ge (by omega) (by omega)
    have h1 : vp_in (nI k) 4 := vp_in_nI (by omega) (by omega)
    have h2 : (nI k).toNatClampNeg = k := nI_clamp (by omega)
    have h3 : nI k + 1 = nI (k + 1) := nI_1 k
    have hfk : ∀ i, hl_ (D 81) (D 85) (D 86) i (D 58 32).toNatClampNeg 0 0 = f i := by rw [hf]; intro i; rfl
    unfold wh_ at h
    cases b with
    | none =>
      have e : wa_ none = -9 := rfl
      rw [e]
      have := ih (k + 1) (some k) (by omega) (fun q z => by cases z; omega) h
      refine ax_WPo (l := [(186, cy_186)]) (ax_oc sy_186 ax_on) ax_ok188 (fun t => t == 5) 400 5 rfl ?_
      simp +decide only [↓ax_B, ax_B, ax_kds, ax_gvs, ax_mcs, ax_ia_S, ax_up_ap, ax_vinL, and_self_left, ax_up_up, ax_up_sw, Nat.reduceAdd, Nat.reduceBEq, Nat.reduceLeDiff, Nat.reduceLT, Nat.reduceEqDiff, ↓reduceIte, true_and, and_true, List.cons_append, List.nil_append, Int32.reduceLT, Int32.reduceLE, Int32.reduceAdd, Int32.reduceToNatClampNeg, Int32.reduceOfNat, true_imp_iff, false_imp_iff, not_true_eq_false, not_false_eq_true, or_true, true_or, or_false, false_or, and_self, Bool.or_true, Bool.or_false, Bool.true_or, Bool.false_or, implies_true, forall_const, Bool.false_eq_true, Int32.neg_neg, ax_X188, ry_186, hn, hc, h1, h2, h3]
      exact this
    | some q =>
      have e : ∀ q, wa_ (some q) = nI q := fun _ => rfl
      rw [e]
      have hq := hb q rfl
      have q0 : ¬ nI q < 0 := by
        intro z
        have := na_lt.mp z
        rw [na_nI (by omega)] at this
        have e : (0 : Int32).toInt = 0 := rfl
        rw [e] at this
        omega
      have q1 : vp_in (nI q) 4 := vp_in_nI (by omega) (by omega)
      have q2 : (nI q).toNatClampNeg = q := nI_clamp (by omega)
      refine ax_WPo (l := [(186, cy_186)]) (ax_oc sy_186 ax_on) ax_ok188 (fun t => t == 5) 400 5 rfl ?_
      simp +decide only [↓ax_B, ax_B, ax_kds, ax_gvs, ax_mcs, ax_ia_S, ax_up_ap, ax_vinL, and_self_left, ax_up_up, ax_up_sw, Nat.reduceAdd, Nat.reduceBEq, Nat.reduceLeDiff, Nat.reduceLT, Nat.reduceEqDiff, ↓reduceIte, true_and, and_true, List.cons_append, List.nil_append, Int32.reduceLT, Int32.reduceLE, Int32.reduceAdd, Int32.reduceToNatClampNeg, Int32.reduceOfNat, true_imp_iff, false_imp_iff, not_true_eq_false, not_false_eq_true, or_true, true_or, or_false, false_or, and_self, Bool.or_true, Bool.or_false, Bool.true_or, Bool.false_or, implies_true, forall_const, Bool.false_eq_true, Int32.neg_neg, ax_X188, ry_186, hn, hc, h1, h2, h3, q0, q1, q2, hfk, hok]
      have h : K (some (.int (wa_ (wh_ f j (k + 1) (if f k ≤ f q then some q else some k))))) (ax_S D E) := h
      refine ⟨fun c => ?_, fun c => ?_⟩
      · rw [if_pos c] at h
        exact ih (k + 1) (some q) (by omega) hb h
      · rw [if_neg c] at h
        exact ih (k + 1) (some k) (by omega) (fun q z => by cases z; omega) h
/-- AskewLettersModel.whose()I -/
def cy_188 : ax_P1 := fun as z K => ∃ (D : ax_Dn) (E : ax_En), as = [.ref 58] ∧ z = ax_S D E ∧ (okM D ∧ K (some (.int (wa_ (wh_ (fun h => hl_ (D 81) (D 85) (D 86) h (D 58 32).toNatClampNeg 0 0) (D 58 35).toNatClampNeg 0 none)))) (ax_S D E))
theorem ry_188  (D : ax_Dn) (E : ax_En) (K : ax_Po) : cy_188 [.ref 58] (ax_S D E) K = (okM D ∧ K (some (.int (wa_ (wh_ (fun h => hl_ (D 81) (D 85) (D 86) h (D 58 32).toNatClampNeg 0 0) (D 58 35).toNatClampNeg 0 none)))) (ax_S D E)) := propext ⟨fun ⟨D', E', h1, h2, h3⟩ => by cases h1; obtain ⟨rfl, rfl⟩ := ax_S_inj h2; exact h3, fun h => ⟨D, E, rfl, rfl, h⟩⟩
theorem sy_188 {g : ax_G} : ∀ as z K, cy_188 as z K → ax_MM g 188 as z K := by
  rintro _ _ K ⟨D, E, rfl, rfl, h⟩
  refine ax_go188 _ ?_
  obtain ⟨h2, h⟩ := h
  obtain ⟨n, hn, h4, hc⟩ := ax_cnt_of h2.2.2.2.2.2.2.2.2.2.2.2.2.2.2.2.1 (by decide)
  rw [hc] at h
  refine ax_WPo (l := [(186, cy_186)]) (ax_oc sy_186 ax_on) ax_ok188 (fun t => t == 5) 400 0 rfl ?_
  simp +decide only [↓ax_B, ax_B, ax_kds, ax_gvs, ax_mcs, ax_ia_S, ax_up_ap, ax_vinL, and_self_left, ax_up_up, ax_up_sw, Nat.reduceAdd, Nat.reduceBEq, Nat.reduceLeDiff, Nat.reduceLT, Nat.reduceEqDiff, ↓reduceIte, true_and, and_true, List.cons_append, List.nil_append, Int32.reduceLT, Int32.reduceLE, Int32.reduceAdd, Int32.reduceToNatClampNeg, Int32.reduceOfNat, true_imp_iff, false_imp_iff, not_true_eq_false, not_false_eq_true, or_true, true_or, or_false, false_or, and_self, Bool.or_true, Bool.or_false, Bool.true_or, Bool.false_or, implies_true, forall_const, Bool.false_eq_true, Int32.neg_neg, ax_X188, ry_186]
  exact lp_188 hn h4 h2 _ rfl n 0 none (by omega) (fun q z => by cases z) h
