/-! The model's walks. -/
theorem pk_nil (sg : Nat → Int32) (f : Nat) : pk_ sg f f = [] := by unfold pk_; rw [Nat.sub_self]; rfl
theorem lp_167 {g : ax_G} {K : ax_Po} {D : ax_Dn} {E : ax_En} (hok : okM D) (N : Nat) (h30 : N ≤ 30) (h : K (some (.int (nI (pk_ (D 81) 0 N).length))) (ax_S D E)) :
    ∀ (j k : Nat), k + j = N → ax_WP g (ax_hy 167) K 92 92 4 [some (.ref 58), some (.int (nI N)), some (.int (nI (pk_ (D 81) 0 k).length)), some (.int (nI k))] [] (ax_S D E) := by
  intro j
  induction j with
  | zero =>
    intro k hk
    have hc : nI N ≤ nI k := nI_le (by omega) (by omega)
    obtain rfl : k = N := by omega
    refine ax_WPo (l := [(154, cy_154)]) (ax_oc sy_154 ax_on) ax_ok167 (fun t => t == 4) 400 4 rfl ?_
    simp +decide only [↓ax_B, ax_B, ax_kds, ax_gvs, ax_mcs, ax_ia_S, ax_up_ap, ax_vinL, and_self_left, ax_up_up, ax_up_sw, Nat.reduceAdd, Nat.reduceBEq, Nat.reduceLeDiff, Nat.reduceLT, Nat.reduceEqDiff, ↓reduceIte, true_and, and_true, List.cons_append, List.nil_append, Int32.reduceLT, Int32.reduceLE, Int32.reduceAdd, Int32.reduceToNatClampNeg, Int32.reduceOfNat, true_imp_iff, false_imp_iff, not_true_eq_false, not_false_eq_true, or_true, true_or, or_false, false_or, and_self, Bool.or_true, Bool.or_false, Bool.true_or, Bool.false_or, implies_true, forall_const, Bool.false_eq_true, Int32.neg_neg, ax_X167, ry_154, hc]
    exact h
  | succ j ih =>
    intro k hk
    have hc : ¬ nI N ≤ nI k := nI_ge (by omega) (by omega)
    have h1 : vp_in (nI k) 30 := vp_in_nI (by omega) (by omega)
    have h2 : (nI k).toNatClampNeg = k := nI_clamp (by omega)
    have h3 : nI k + 1 = nI (k + 1) := nI_1 k
    have h4 := hok.2.2.2.1
    have h5 : (0 : Int32) ≤ nI k := nI_pos' (by omega)
    have h6 : ∀ n, nI n + 1 = nI (n + 1) := nI_1
    have e := pk_step (D 81) 0 k
    rw [Nat.zero_add, Nat.zero_add] at e
    have := ih (k + 1) (by omega)
    rw [e] at this
    refine ax_WPo (l := [(154, cy_154)]) (ax_oc sy_154 ax_on) ax_ok167 (fun t => t == 4) 400 4 rfl ?_
    simp +decide only [↓ax_B, ax_B, ax_kds, ax_gvs, ax_mcs, ax_ia_S, ax_up_ap, ax_vinL, and_self_left, ax_up_up, ax_up_sw, Nat.reduceAdd, Nat.reduceBEq, Nat.reduceLeDiff, Nat.reduceLT, Nat.reduceEqDiff, ↓reduceIte, true_and, and_true, List.cons_append, List.nil_append, Int32.reduceLT, Int32.reduceLE, Int32.reduceAdd, Int32.reduceToNatClampNeg, Int32.reduceOfNat, true_imp_iff, false_imp_iff, not_true_eq_false, not_false_eq_true, or_true, true_or, or_false, false_or, and_self, Bool.or_true, Bool.or_false, Bool.true_or, Bool.false_or, implies_true, forall_const, Bool.false_eq_true, Int32.neg_neg, ax_X167, ry_154, hc, h1, h2, h3, h4, h5, h6, Int32.add_zero]
    refine ⟨fun c => ?_, fun c => ?_⟩
    · rw [if_pos c, List.length_append] at this
      exact this
    · rw [if_neg (by rw [c]; decide)] at this
      exact this
/-- AskewLettersModel.countOf(I)I -/
def cy_167 : ax_P1 := fun as z K => ∃ (p1 : Int32) (D : ax_Dn) (E : ax_En), as = [.ref 58, .int p1] ∧ z = ax_S D E ∧ (okM D ∧ 0 ≤ p1 ∧ p1 ≤ 30 ∧ K (some (.int (nI (pk_ (D 81) 0 p1.toNatClampNeg).length))) (ax_S D E))
theorem ry_167 (p1 : Int32) (D : ax_Dn) (E : ax_En) (K : ax_Po) : cy_167 [.ref 58, .int p1] (ax_S D E) K = (okM D ∧ 0 ≤ p1 ∧ p1 ≤ 30 ∧ K (some (.int (nI (pk_ (D 81) 0 p1.toNatClampNeg).length))) (ax_S D E)) := propext ⟨fun ⟨p1', D', E', h1, h2, h3⟩ => by cases h1; obtain ⟨rfl, rfl⟩ := ax_S_inj h2; exact h3, fun h => ⟨p1, D, E, rfl, rfl, h⟩⟩
theorem sy_167 {g : ax_G} : ∀ as z K, cy_167 as z K → ax_MM g 167 as z K := by
  rintro _ _ K ⟨p1, D, E, rfl, rfl, h⟩
  refine ax_go167 _ _ ?_
  obtain ⟨hok, h1, h2, h⟩ := h
  obtain ⟨n, rfl, q1, q2⟩ := na_of (na_le.mp h1)
  have h2' : (nI n).toInt ≤ 30 := na_le.mp h2
  rw [na_nI (by omega)] at h2'
  rw [nI_clamp (by omega)] at h
  refine ax_WPo (l := [(154, cy_154)]) (ax_oc sy_154 ax_on) ax_ok167 (fun t => t == 4) 400 0 rfl ?_
  simp +decide only [↓ax_B, ax_B, ax_kds, ax_gvs, ax_mcs, ax_ia_S, ax_up_ap, ax_vinL, and_self_left, ax_up_up, ax_up_sw, Nat.reduceAdd, Nat.reduceBEq, Nat.reduceLeDiff, Nat.reduceLT, Nat.reduceEqDiff, ↓reduceIte, true_and, and_true, List.cons_append, List.nil_append, Int32.reduceLT, Int32.reduceLE, Int32.reduceAdd, Int32.reduceToNatClampNeg, Int32.reduceOfNat, true_imp_iff, false_imp_iff, not_true_eq_false, not_false_eq_true, or_true, true_or, or_false, false_or, and_self, Bool.or_true, Bool.or_false, Bool.true_or, Bool.false_or, implies_true, forall_const, Bool.false_eq_true, Int32.neg_neg, ax_X167, ry_154]
  have := lp_167 (g := g) hok n (by omega) h n 0 (by omega)
  rw [pk_nil] at this
  exact this
/-- AskewLettersModel.pageLike(II)J -/
def cy_163 : ax_P1 := fun as z K => ∃ (p1 : Int32) (p2 : Int32) (D : ax_Dn) (E : ax_En), as = [.ref 58, .int p1, .int p2] ∧ z = ax_S D E ∧ (okM D ∧ vp_in p1 6 ∧ K (some (.long (LM D (D 76 1) p1 p2 0 (D 58 32).toNatClampNeg))) (ax_S D E))
theorem ry_163 (p1 : Int32) (p2 : Int32) (D : ax_Dn) (E : ax_En) (K : ax_Po) : cy_163 [.ref 58, .int p1, .int p2] (ax_S D E) K = (okM D ∧ vp_in p1 6 ∧ K (some (.long (LM D (D 76 1) p1 p2 0 (D 58 32).toNatClampNeg))) (ax_S D E)) := propext ⟨fun ⟨p1', p2', D', E', h1, h2, h3⟩ => by cases h1; obtain ⟨rfl, rfl⟩ := ax_S_inj h2; exact h3, fun h => ⟨p1, p2, D, E, rfl, rfl, h⟩⟩
theorem sy_163 {g : ax_G} : ∀ as z K, cy_163 as z K → ax_MM g 163 as z K := by
  rintro _ _ K ⟨p1, p2, D, E, rfl, rfl, h⟩
  refine ax_go163 _ _ _ ?_
  obtain ⟨hok, h1, h⟩ := h
  obtain ⟨n, hn, h30, hc⟩ := ax_cnt_of hok.2.2.1 (by decide)
  rw [hc] at h
  have q0 : (0 : Int32) ≤ nI n := nI_pos' (by omega)
  refine ax_WPo (l := [(162, cy_162)]) (ax_oc sy_162 ax_on) ax_ok163 (fun _ => false) 400 0 rfl ?_
  simp +decide only [↓ax_B, ax_B, ax_kds, ax_gvs, ax_mcs, ax_ia_S, ax_up_ap, ax_vinL, and_self_left, ax_up_up, ax_up_sw, Nat.reduceAdd, Nat.reduceBEq, Nat.reduceLeDiff, Nat.reduceLT, Nat.reduceEqDiff, ↓reduceIte, true_and, and_true, List.cons_append, List.nil_append, Int32.reduceLT, Int32.reduceLE, Int32.reduceAdd, Int32.reduceToNatClampNeg, Int32.reduceOfNat, true_imp_iff, false_imp_iff, not_true_eq_false, not_false_eq_true, or_true, true_or, or_false, false_or, and_self, Bool.or_true, Bool.or_false, Bool.true_or, Bool.false_or, implies_true, forall_const, Bool.false_eq_true, Int32.neg_neg, ry_162, hok, h1, hn, q0, le30_ h30, nI_clamp (show n < 2 ^ 31 by omega)]
  exact h
/-- weight times like, in the model -/
def wm_ (D : ax_Dn) (d : Int32) (n i : Nat) : Int64 := if i < 6 then (D 67 i).toInt64 * LM D (D 76 1) (nI i) d 0 n else (D 76 2).toInt64 <<< ((nI (pk_ (D 81) 0 n).length).toInt64 &&& 63)
/-- AskewLettersModel.weighed(III)J -/
def cy_168 : ax_P1 := fun as z K => ∃ (p1 : Int32) (p2 : Int32) (p3 : Int32) (D : ax_Dn) (E : ax_En), as = [.ref 58, .int p1, .int p2, .int p3] ∧ z = ax_S D E ∧ (okM D ∧ vp_in p1 7 ∧ 0 ≤ p3 ∧ p3 ≤ 30 ∧ K (some (.long (wm_ D p2 p3.toNatClampNeg p1.toNatClampNeg))) (ax_S D E))
theorem ry_168 (p1 : Int32) (p2 : Int32) (p3 : Int32) (D : ax_Dn) (E : ax_En) (K : ax_Po) : cy_168 [.ref 58, .int p1, .int p2, .int p3] (ax_S D E) K = (okM D ∧ vp_in p1 7 ∧ 0 ≤ p3 ∧ p3 ≤ 30 ∧ K (some (.long (wm_ D p2 p3.toNatClampNeg p1.toNatClampNeg))) (ax_S D E)) := propext ⟨fun ⟨p1', p2', p3', D', E', h1, h2, h3⟩ => by cases h1; obtain ⟨rfl, rfl⟩ := ax_S_inj h2; exact h3, fun h => ⟨p1, p2, p3, D, E, rfl, rfl, h⟩⟩
theorem sy_168 {g : ax_G} : ∀ as z K, cy_168 as z K → ax_MM g 168 as z K := by
  rintro _ _ K ⟨p1, p2, p3, D, E, rfl, rfl, h⟩
  refine ax_go168 _ _ _ _ ?_
  obtain ⟨hok, h1, h2, h3, h⟩ := h
  obtain ⟨i, hi, rfl⟩ := vp_in_of h1 (by decide)
  obtain ⟨n, rfl, q1, q2⟩ := na_of (na_le.mp h2)
  rw [nI_clamp (by omega), nI_clamp (by omega)] at h
  have e6 : (nI i = 6) ↔ i = 6 := by rw [show (6 : Int32) = nI 6 by decide, nI_eq (by omega) (by omega)]
  unfold wm_ at h
  refine ax_WPo (l := [(162, cy_162), (167, cy_167)]) (ax_oc sy_162 (ax_oc sy_167 ax_on)) ax_ok168 (fun _ => false) 400 0 rfl ?_
  simp +decide only [↓ax_B, ax_B, ax_kds, ax_gvs, ax_mcs, ax_ia_S, ax_up_ap, ax_vinL, and_self_left, ax_up_up, ax_up_sw, Nat.reduceAdd, Nat.reduceBEq, Nat.reduceLeDiff, Nat.reduceLT, Nat.reduceEqDiff, ↓reduceIte, true_and, and_true, List.cons_append, List.nil_append, Int32.reduceLT, Int32.reduceLE, Int32.reduceAdd, Int32.reduceToNatClampNeg, Int32.reduceOfNat, true_imp_iff, false_imp_iff, not_true_eq_false, not_false_eq_true, or_true, true_or, or_false, false_or, and_self, Bool.or_true, Bool.or_false, Bool.true_or, Bool.false_or, implies_true, forall_const, Bool.false_eq_true, Int32.neg_neg, ax_X168, ry_162, ry_167, hok, h2, h3, e6, nI_clamp (show n < 2 ^ 31 by omega), nI_clamp (show i < 2 ^ 31 by omega)]
  refine ⟨fun c => ?_, fun c => ?_⟩
  · have h6 : vp_in (nI i) 6 := vp_in_nI (by omega) (by omega)
    rw [if_pos (by omega)] at h
    exact ⟨h6, h⟩
  · rw [if_neg (by omega)] at h
    exact h
def al_ (f : Nat → Int64) : Nat → Int64
  | 0 => f 6
  | n + 1 => al_ f n + f n
theorem al_sl (f : Nat → Int64) : ∀ n, al_ f n = sl_ f n + f 6 := by
  intro n
  induction n with
  | zero => unfold al_ sl_; rw [Int64.zero_add]
  | succ n ih => unfold al_ sl_; rw [ih, Int64.add_assoc, Int64.add_assoc, Int64.add_comm (f 6)]
theorem lp_169 {g : ax_G} {K : ax_Po} {D : ax_Dn} {E : ax_En} (hok : okM D) (d : Int32) (n : Nat) (h30 : n ≤ 30) (N : Nat) (hN : D 58 22 = nI N) (h6 : N ≤ 6) (h : K (some (.long (al_ (wm_ D d n) N))) (ax_S D E)) :
    ∀ (j k : Nat), k + j = N → ax_WP g (ax_hy 169) K 92 92 12 [some (.ref 58), some (.int d), some (.int (nI n)), some (.long (al_ (wm_ D d n) k)), none, some (.int (nI k))] [] (ax_S D E) := by
  intro j
  induction j with
  | zero =>
    intro k hk
    have hc : nI N ≤ nI k := nI_le (by omega) (by omega)
    obtain rfl : k = N := by omega
    refine ax_WPo (l := [(168, cy_168)]) (ax_oc sy_168 ax_on) ax_ok169 (fun t => t == 12) 400 12 rfl ?_
    simp +decide only [↓ax_B, ax_B, ax_kds, ax_gvs, ax_mcs, ax_ia_S, ax_up_ap, ax_vinL, and_self_left, ax_up_up, ax_up_sw, Nat.reduceAdd, Nat.reduceBEq, Nat.reduceLeDiff, Nat.reduceLT, Nat.reduceEqDiff, ↓reduceIte, true_and, and_true, List.cons_append, List.nil_append, Int32.reduceLT, Int32.reduceLE, Int32.reduceAdd, Int32.reduceToNatClampNeg, Int32.reduceOfNat, true_imp_iff, false_imp_iff, not_true_eq_false, not_false_eq_true, or_true, true_or, or_false, false_or, and_self, Bool.or_true, Bool.or_false, Bool.true_or, Bool.false_or, implies_true, forall_const, Bool.false_eq_true, Int32.neg_neg, ax_X169, ry_168, hN, hc]
    exact h
  | succ j ih =>
    intro k hk
    have hc : ¬ nI N ≤ nI k := nI_ge (by omega) (by omega)
    have h1 : vp_in (nI k) 7 := vp_in_nI (by omega) (by omega)
    have h2 : (nI k).toNatClampNeg = k := nI_clamp (by omega)
    have h2' : (nI n).toNatClampNeg = n := nI_clamp (by omega)
    have h3 : nI k + 1 = nI (k + 1) := nI_1 k
    have h5 : (0 : Int32) ≤ nI n := nI_pos' (by omega)
    have := ih (k + 1) (by omega)
    unfold al_ at this
    refine ax_WPo (l := [(168, cy_168)]) (ax_oc sy_168 ax_on) ax_ok169 (fun t => t == 12) 400 12 rfl ?_
    simp +decide only [↓ax_B, ax_B, ax_kds, ax_gvs, ax_mcs, ax_ia_S, ax_up_ap, ax_vinL, and_self_left, ax_up_up, ax_up_sw, Nat.reduceAdd, Nat.reduceBEq, Nat.reduceLeDiff, Nat.reduceLT, Nat.reduceEqDiff, ↓reduceIte, true_and, and_true, List.cons_append, List.nil_append, Int32.reduceLT, Int32.reduceLE, Int32.reduceAdd, Int32.reduceToNatClampNeg, Int32.reduceOfNat, true_imp_iff, false_imp_iff, not_true_eq_false, not_false_eq_true, or_true, true_or, or_false, false_or, and_self, Bool.or_true, Bool.or_false, Bool.true_or, Bool.false_or, implies_true, forall_const, Bool.false_eq_true, Int32.neg_neg, ax_X169, ry_168, hN, hc, h1, h2, h2', h3, h5, le30_ h30, hok]
    exact this
/-- AskewLettersModel.allWeighed(II)J -/
def cy_169 : ax_P1 := fun as z K => ∃ (p1 : Int32) (p2 : Int32) (D : ax_Dn) (E : ax_En), as = [.ref 58, .int p1, .int p2] ∧ z = ax_S D E ∧ (okM D ∧ 0 ≤ p2 ∧ p2 ≤ 30 ∧ K (some (.long (al_ (wm_ D p1 p2.toNatClampNeg) (D 58 22).toNatClampNeg))) (ax_S D E))
theorem ry_169 (p1 : Int32) (p2 : Int32) (D : ax_Dn) (E : ax_En) (K : ax_Po) : cy_169 [.ref 58, .int p1, .int p2] (ax_S D E) K = (okM D ∧ 0 ≤ p2 ∧ p2 ≤ 30 ∧ K (some (.long (al_ (wm_ D p1 p2.toNatClampNeg) (D 58 22).toNatClampNeg))) (ax_S D E)) := propext ⟨fun ⟨p1', p2', D', E', h1, h2, h3⟩ => by cases h1; obtain ⟨rfl, rfl⟩ := ax_S_inj h2; exact h3, fun h => ⟨p1, p2, D, E, rfl, rfl, h⟩⟩
theorem sy_169 {g : ax_G} : ∀ as z K, cy_169 as z K → ax_MM g 169 as z K := by
  rintro _ _ K ⟨p1, p2, D, E, rfl, rfl, h⟩
  refine ax_go169 _ _ _ ?_
  obtain ⟨hok, h2, h3, h⟩ := h
  obtain ⟨n, rfl, q1, q2⟩ := na_of (na_le.mp h2)
  obtain ⟨N, hN, h6, hc⟩ := ax_cnt_of hok.1 (by decide)
  have h3' : (nI n).toInt ≤ 30 := na_le.mp h3
  rw [na_nI (by omega)] at h3'
  rw [nI_clamp (by omega), hc] at h
  have v6 : vp_in 6 7 := na_in (by decide) (by decide)
  refine ax_WPo (l := [(168, cy_168)]) (ax_oc sy_168 ax_on) ax_ok169 (fun t => t == 12) 400 0 rfl ?_
  simp +decide only [↓ax_B, ax_B, ax_kds, ax_gvs, ax_mcs, ax_ia_S, ax_up_ap, ax_vinL, and_self_left, ax_up_up, ax_up_sw, Nat.reduceAdd, Nat.reduceBEq, Nat.reduceLeDiff, Nat.reduceLT, Nat.reduceEqDiff, ↓reduceIte, true_and, and_true, List.cons_append, List.nil_append, Int32.reduceLT, Int32.reduceLE, Int32.reduceAdd, Int32.reduceToNatClampNeg, Int32.reduceOfNat, true_imp_iff, false_imp_iff, not_true_eq_false, not_false_eq_true, or_true, true_or, or_false, false_or, and_self, Bool.or_true, Bool.or_false, Bool.true_or, Bool.false_or, implies_true, forall_const, Bool.false_eq_true, Int32.neg_neg, ax_X169, ry_168, hok, h2, h3, v6, nI_clamp (show n < 2 ^ 31 by omega)]
  exact lp_169 hok p1 n (by omega) N hN h6 h N 0 (by omega)
/-- does a stroke fit a machine, in the model -/
def FTM (D : ax_Dn) (m d : Int32) (i : Nat) : Bool := decide (ab_ (D 82 i - lM_ (D 69) (D 71) (D 72) (D 73) (D 74) (D 75) (D 58 23).toNatClampNeg m (D 81 i) d) ≤ D 76 0) && decide (D 83 i &&& (nM_ (D 71) (D 72) (D 73) (D 74) (D 75) (D 58 23).toNatClampNeg m (D 81 i) d ^^^ -1) = 0)
set_option maxRecDepth 10000 in
theorem lp_174 {g : ax_G} {K : ax_Po} {D : ax_Dn} {E : ax_En} (hok : okM D) (m d : Int32) (hm : vp_in m 6) (N : Nat) (hN : D 58 32 = nI N) (h30 : N ≤ 30) (ht : (pk_ (D 81) 0 N).all (FTM D m d) = true → K (some (.int 1)) (ax_S D E)) (hf : (pk_ (D 81) 0 N).all (FTM D m d) = false → K (some (.int 0)) (ax_S D E)) :
    ∀ (j k : Nat), k + j = N → (pk_ (D 81) 0 k).all (FTM D m d) = true → ax_WP g (ax_hy 174) K 92 92 2 [some (.ref 58), some (.int m), some (.int d), some (.int (nI k))] [] (ax_S D E) := by
  intro j
  induction j with
  | zero =>
    intro k hk hall
    have hc : nI N ≤ nI k := nI_le (by omega) (by omega)
    obtain rfl : k = N := by omega
    refine ax_WPo (l := [(141, cy_141), (142, cy_142), (154, cy_154), (157, cy_157)]) (ax_oc sy_141 (ax_oc sy_142 (ax_oc sy_154 (ax_oc sy_157 ax_on)))) ax_ok174 (fun t => t == 2) 400 2 rfl ?_
    simp +decide only [↓ax_B, ax_B, ax_kds, ax_gvs, ax_mcs, ax_ia_S, ax_up_ap, ax_vinL, and_self_left, ax_up_up, ax_up_sw, Nat.reduceAdd, Nat.reduceBEq, Nat.reduceLeDiff, Nat.reduceLT, Nat.reduceEqDiff, ↓reduceIte, true_and, and_true, List.cons_append, List.nil_append, Int32.reduceLT, Int32.reduceLE, Int32.reduceAdd, Int32.reduceToNatClampNeg, Int32.reduceOfNat, true_imp_iff, false_imp_iff, not_true_eq_false, not_false_eq_true, or_true, true_or, or_false, false_or, and_self, Bool.or_true, Bool.or_false, Bool.true_or, Bool.false_or, implies_true, forall_const, Bool.false_eq_true, Int32.neg_neg, ax_X174, ry_141, ry_142, ry_154, ry_157, hN, hc]
    exact ht hall
  | succ j ih =>
    intro k hk hall
    have hc : ¬ nI N ≤ nI k := nI_ge (by omega) (by omega)
    have h1 : vp_in (nI k) 30 := vp_in_nI (by omega) (by omega)
    have h2 : (nI k).toNatClampNeg = k := nI_clamp (by omega)
    have h3 : nI k + 1 = nI (k + 1) := nI_1 k
    have h4 := hok.2.2.2.1
    have h5 : (0 : Int32) ≤ nI k := nI_pos' (by omega)
    have g3 : vp_in (D 81 k) 10 := cnt_in (h4 k) (by decide)
    have g4 := hok.2.1
    have r1 := rg_mono (hok.2.2.2.2.1 k) (show (-100 : Int) ≤ -9 by decide) (show (9 : Int) ≤ 100 by decide)
    have r2 : rg_ (lM_ (D 69) (D 71) (D 72) (D 73) (D 74) (D 75) (D 58 23).toNatClampNeg m (D 81 k) d) (-100) 100 := rg_mono (hd9_rg _) (by decide) (by decide)
    have e := pk_step (D 81) 0 k
    rw [Nat.zero_add, Nat.zero_add] at e
    have hnx : ct_ (D 81) 0 k = true → FTM D m d k = false → K (some (.int 0)) (ax_S D E) := by
      intro c q
      refine hf ?_
      obtain ⟨t, htl⟩ := fs_pre (D 81) 0 (show k + 1 ≤ N by omega)
      have hmem : k ∈ pk_ (D 81) 0 N := (pk_ct (by omega)).mpr c
      rw [List.all_eq_false]
      exact ⟨k, hmem, by rw [q]; decide⟩
    have hgo : (ct_ (D 81) 0 k = true → FTM D m d k = true) → ax_WP g (ax_hy 174) K 92 92 2 [some (.ref 58), some (.int m), some (.int d), some (.int (nI (k + 1)))] [] (ax_S D E) := by
      intro q
      refine ih (k + 1) (by omega) ?_
      rw [e]
      split
      · rename_i c
        rw [List.all_append, hall, Bool.true_and, List.all_cons, q c, Bool.true_and]
        rfl
      · exact hall
    refine ax_WPo (l := [(141, cy_141), (142, cy_142), (154, cy_154), (157, cy_157)]) (ax_oc sy_141 (ax_oc sy_142 (ax_oc sy_154 (ax_oc sy_157 ax_on)))) ax_ok174 (fun t => t == 2) 400 2 rfl ?_
    simp +decide only [↓ax_B, ax_B, ax_kds, ax_gvs, ax_mcs, ax_ia_S, ax_up_ap, ax_vinL, and_self_left, ax_up_up, ax_up_sw, Nat.reduceAdd, Nat.reduceBEq, Nat.reduceLeDiff, Nat.reduceLT, Nat.reduceEqDiff, ↓reduceIte, true_and, and_true, List.cons_append, List.nil_append, Int32.reduceLT, Int32.reduceLE, Int32.reduceAdd, Int32.reduceToNatClampNeg, Int32.reduceOfNat, true_imp_iff, false_imp_iff, not_true_eq_false, not_false_eq_true, or_true, true_or, or_false, false_or, and_self, Bool.or_true, Bool.or_false, Bool.true_or, Bool.false_or, implies_true, forall_const, Bool.false_eq_true, Int32.neg_neg, ax_X174, ry_141, ry_142, ry_154, ry_157, hN, hc, h1, h2, h3, h4, h5, g3, g4]
    refine ⟨fun c => ⟨fun q => ⟨fun w => hnx c ?_, fun w => ⟨fun z => hgo (fun _ => ?_), fun z => hnx c ?_⟩⟩, fun q => ⟨fun w => hnx c ?_, fun w => ⟨fun z => hgo (fun _ => ?_), fun z => hnx c ?_⟩⟩⟩, fun c => hgo (fun z => by rw [c] at z; cases z)⟩
    · rw [ap1_ r1 r2 q] at w
      unfold FTM
      rw [decide_eq_false (Int32.not_le.mpr w), Bool.false_and]
    · rw [ap1_ r1 r2 q] at w
      unfold FTM
      rw [decide_eq_true (Int32.not_lt.mp w), decide_eq_true z]
      rfl
    · unfold FTM
      rw [decide_eq_false z, Bool.and_false]
    · rw [ap2_ r1 r2 q] at w
      unfold FTM
      rw [decide_eq_false (Int32.not_le.mpr w), Bool.false_and]
    · rw [ap2_ r1 r2 q] at w
      unfold FTM
      rw [decide_eq_true (Int32.not_lt.mp w), decide_eq_true z]
      rfl
    · unfold FTM
      rw [decide_eq_false z, Bool.and_false]
/-- AskewLettersModel.isFit(II)Z -/
def cy_174 : ax_P1 := fun as z K => ∃ (p1 : Int32) (p2 : Int32) (D : ax_Dn) (E : ax_En), as = [.ref 58, .int p1, .int p2] ∧ z = ax_S D E ∧ (okM D ∧ vp_in p1 6 ∧ ((pk_ (D 81) 0 (D 58 32).toNatClampNeg).all (FTM D p1 p2) = true → K (some (.int 1)) (ax_S D E)) ∧ ((pk_ (D 81) 0 (D 58 32).toNatClampNeg).all (FTM D p1 p2) = false → K (some (.int 0)) (ax_S D E)))
theorem ry_174 (p1 : Int32) (p2 : Int32) (D : ax_Dn) (E : ax_En) (K : ax_Po) : cy_174 [.ref 58, .int p1, .int p2] (ax_S D E) K = (okM D ∧ vp_in p1 6 ∧ ((pk_ (D 81) 0 (D 58 32).toNatClampNeg).all (FTM D p1 p2) = true → K (some (.int 1)) (ax_S D E)) ∧ ((pk_ (D 81) 0 (D 58 32).toNatClampNeg).all (FTM D p1 p2) = false → K (some (.int 0)) (ax_S D E))) := propext ⟨fun ⟨p1', p2', D', E', h1, h2, h3⟩ => by cases h1; obtain ⟨rfl, rfl⟩ := ax_S_inj h2; exact h3, fun h => ⟨p1, p2, D, E, rfl, rfl, h⟩⟩
theorem sy_174 {g : ax_G} : ∀ as z K, cy_174 as z K → ax_MM g 174 as z K := by
  rintro _ _ K ⟨p1, p2, D, E, rfl, rfl, h⟩
  refine ax_go174 _ _ _ ?_
  obtain ⟨hok, h1, h2, h3⟩ := h
  obtain ⟨n, hn, h30, hc⟩ := ax_cnt_of hok.2.2.1 (by decide)
  rw [hc] at h2 h3
  refine ax_WPo (l := [(141, cy_141), (142, cy_142), (154, cy_154), (157, cy_157)]) (ax_oc sy_141 (ax_oc sy_142 (ax_oc sy_154 (ax_oc sy_157 ax_on)))) ax_ok174 (fun t => t == 2) 400 0 rfl ?_
  simp +decide only [↓ax_B, ax_B, ax_kds, ax_gvs, ax_mcs, ax_ia_S, ax_up_ap, ax_vinL, and_self_left, ax_up_up, ax_up_sw, Nat.reduceAdd, Nat.reduceBEq, Nat.reduceLeDiff, Nat.reduceLT, Nat.reduceEqDiff, ↓reduceIte, true_and, and_true, List.cons_append, List.nil_append, Int32.reduceLT, Int32.reduceLE, Int32.reduceAdd, Int32.reduceToNatClampNeg, Int32.reduceOfNat, true_imp_iff, false_imp_iff, not_true_eq_false, not_false_eq_true, or_true, true_or, or_false, false_or, and_self, Bool.or_true, Bool.or_false, Bool.true_or, Bool.false_or, implies_true, forall_const, Bool.false_eq_true, Int32.neg_neg, ax_X174, ry_141, ry_142, ry_154, ry_157]
  exact lp_174 hok p1 p2 h1 n hn h30 h2 h3 n 0 (by omega) (by rw [pk_nil]; rfl)
theorem lp_177 {g : ax_G} {K : ax_Po} {D : ax_Dn} {E : ax_En} (hok : okM D) (m : Int32) (hm : vp_in m 6) (f t : Nat) (hft : f ≤ t) (h30 : t ≤ 30) (us : Int32) (h : K (some (.long (gl_ (fun q => LM D us m (nI (q * 10)) f t) 37))) (ax_S D E)) :
    ∀ (j k : Nat), k + j = 37 → ax_WP g (ax_hy 177) K 92 92 6 [some (.ref 58), some (.int m), some (.int (nI f)), some (.int (nI t)), some (.int us), some (.long (gl_ (fun q => LM D us m (nI (q * 10)) f t) k)), none, some (.int (nI k)), none, none] [] (ax_S D E) := by
  have e37 : (37 : Int32) = nI 37 := by decide
  have e10 : (10 : Int32) = nI 10 := by decide
  intro j
  induction j with
  | zero =>
    intro k hk
    have hc : (37 : Int32) ≤ nI k := by rw [e37]; exact nI_le (by omega) (by omega)
    obtain rfl : k = 37 := by omega
    refine ax_WPo (l := [(162, cy_162)]) (ax_oc sy_162 ax_on) ax_ok177 (fun t => t == 6) 400 6 rfl ?_
    simp +decide only [↓ax_B, ax_B, ax_kds, ax_gvs, ax_mcs, ax_ia_S, ax_up_ap, ax_vinL, and_self_left, ax_up_up, ax_up_sw, Nat.reduceAdd, Nat.reduceBEq, Nat.reduceLeDiff, Nat.reduceLT, Nat.reduceEqDiff, ↓reduceIte, true_and, and_true, List.cons_append, List.nil_append, Int32.reduceLT, Int32.reduceLE, Int32.reduceAdd, Int32.reduceToNatClampNeg, Int32.reduceOfNat, true_imp_iff, false_imp_iff, not_true_eq_false, not_false_eq_true, or_true, true_or, or_false, false_or, and_self, Bool.or_true, Bool.or_false, Bool.true_or, Bool.false_or, implies_true, forall_const, Bool.false_eq_true, Int32.neg_neg, ax_X177, ry_162, hc]
    exact h
  | succ j ih =>
    intro k hk
    have hc : ¬ (37 : Int32) ≤ nI k := by rw [e37]; exact nI_ge (by omega) (by omega)
    have h3 : nI k + 1 = nI (k + 1) := nI_1 k
    have h4 : 10 * nI k = nI (k * 10) := by rw [e10, nI_mul, Nat.mul_comm]
    have h5 : (0 : Int32) ≤ nI f := nI_pos' (by omega)
    have h6 : nI f ≤ nI t := nI_le (by omega) (by omega)
    have := ih (k + 1) (by omega)
    unfold gl_ at this
    refine ax_WPo (l := [(162, cy_162)]) (ax_oc sy_162 ax_on) ax_ok177 (fun t => t == 6) 400 6 rfl ?_
    simp +decide only [↓ax_B, ax_B, ax_kds, ax_gvs, ax_mcs, ax_ia_S, ax_up_ap, ax_vinL, and_self_left, ax_up_up, ax_up_sw, Nat.reduceAdd, Nat.reduceBEq, Nat.reduceLeDiff, Nat.reduceLT, Nat.reduceEqDiff, ↓reduceIte, true_and, and_true, List.cons_append, List.nil_append, Int32.reduceLT, Int32.reduceLE, Int32.reduceAdd, Int32.reduceToNatClampNeg, Int32.reduceOfNat, true_imp_iff, false_imp_iff, not_true_eq_false, not_false_eq_true, or_true, true_or, or_false, false_or, and_self, Bool.or_true, Bool.or_false, Bool.true_or, Bool.false_or, implies_true, forall_const, Bool.false_eq_true, Int32.neg_neg, ax_X177, ry_162, hc, h3, h4, h5, h6, le30_ h30, hm, hok, nI_clamp (show f < 2 ^ 31 by omega), nI_clamp (show t < 2 ^ 31 by omega), cm_le0]
    have hL : lk_ (pk_ (D 81) f t) (fun i => pr_ us (FM D i m (nI (k * 10))) 5 0 1) 1 = LM D us m (nI (k * 10)) f t := rfl
    rw [hL]
    refine ⟨fun c => ?_, fun c => ?_⟩
    · rw [if_neg (Int64.not_lt.mpr c)] at this
      exact ax_WP_w (by simp only [ax_le, and_self]) this
    · rw [if_pos (Int64.not_le.mp c)] at this
      exact ax_WP_w (by simp only [ax_le, and_self]) this
/-- AskewLettersModel.greatest(IIII)J -/
def cy_177 : ax_P1 := fun as z K => ∃ (p1 : Int32) (p2 : Int32) (p3 : Int32) (p4 : Int32) (D : ax_Dn) (E : ax_En), as = [.ref 58, .int p1, .int p2, .int p3, .int p4] ∧ z = ax_S D E ∧ (okM D ∧ vp_in p1 6 ∧ 0 ≤ p2 ∧ p2 ≤ p3 ∧ p3 ≤ 30 ∧ K (some (.long (gl_ (fun q => LM D p4 p1 (nI (q * 10)) p2.toNatClampNeg p3.toNatClampNeg) 37))) (ax_S D E))
theorem ry_177 (p1 : Int32) (p2 : Int32) (p3 : Int32) (p4 : Int32) (D : ax_Dn) (E : ax_En) (K : ax_Po) : cy_177 [.ref 58, .int p1, .int p2, .int p3, .int p4] (ax_S D E) K = (okM D ∧ vp_in p1 6 ∧ 0 ≤ p2 ∧ p2 ≤ p3 ∧ p3 ≤ 30 ∧ K (some (.long (gl_ (fun q => LM D p4 p1 (nI (q * 10)) p2.toNatClampNeg p3.toNatClampNeg) 37))) (ax_S D E)) := propext ⟨fun ⟨p1', p2', p3', p4', D', E', h1, h2, h3⟩ => by cases h1; obtain ⟨rfl, rfl⟩ := ax_S_inj h2; exact h3, fun h => ⟨p1, p2, p3, p4, D, E, rfl, rfl, h⟩⟩
theorem sy_177 {g : ax_G} : ∀ as z K, cy_177 as z K → ax_MM g 177 as z K := by
  rintro _ _ K ⟨p1, p2, p3, p4, D, E, rfl, rfl, h⟩
  refine ax_go177 _ _ _ _ _ ?_
  obtain ⟨hok, hm, h1, h2, h3, h⟩ := h
  obtain ⟨f, rfl, q1, q2⟩ := na_of (na_le.mp h1)
  have h2' := na_le.mp h2
  have h3' : p3.toInt ≤ 30 := na_le.mp h3
  obtain ⟨t, rfl, q3, q4⟩ := na_of (x := p3) (by omega)
  rw [nI_clamp (by omega), nI_clamp (by omega)] at h
  refine ax_WPo (l := [(162, cy_162)]) (ax_oc sy_162 ax_on) ax_ok177 (fun t => t == 6) 400 0 rfl ?_
  simp +decide only [↓ax_B, ax_B, ax_kds, ax_gvs, ax_mcs, ax_ia_S, ax_up_ap, ax_vinL, and_self_left, ax_up_up, ax_up_sw, Nat.reduceAdd, Nat.reduceBEq, Nat.reduceLeDiff, Nat.reduceLT, Nat.reduceEqDiff, ↓reduceIte, true_and, and_true, List.cons_append, List.nil_append, Int32.reduceLT, Int32.reduceLE, Int32.reduceAdd, Int32.reduceToNatClampNeg, Int32.reduceOfNat, true_imp_iff, false_imp_iff, not_true_eq_false, not_false_eq_true, or_true, true_or, or_false, false_or, and_self, Bool.or_true, Bool.or_false, Bool.true_or, Bool.false_or, implies_true, forall_const, Bool.false_eq_true, Int32.neg_neg, ax_X177, ry_162]
  exact lp_177 hok p1 hm f t (by omega) (by omega) p4 h 37 0 rfl
def LGM (D : ax_Dn) (m : Int32) (f t : Nat) : Int64 := gl_ (fun q => LM D 6 m (nI (q * 10)) f t) 37
theorem lp_179 {g : ax_G} {K : ax_Po} {D : ax_Dn} (hok : okM D) (m : Int32) (hm : vp_in m 6) (N : Nat) (hN : D 58 32 = nI N) (h30 : N ≤ 30) (v : Nat → Int64) (hv : ∀ p, v p = LGM D m 0 p * LGM D m p N) (h : ∀ E', E' 58 33 = (pt_ v (-1) (N - 1)).2 → K (some (.int (nI (pt_ v (-1) (N - 1)).1))) (ax_S D E')) :
    ∀ (j k : Nat) (E : ax_En), k + j = N - 1 → E 58 33 = (pt_ v (-1) k).2 → ax_WP g (ax_hy 179) K 92 92 11 [some (.ref 58), some (.int m), some (.int (nI (pt_ v (-1) k).1)), some (.int (nI (k + 1))), none, none] [] (ax_S D E) := by
  intro j
  induction j with
  | zero =>
    intro k E hk hE
    have hc : nI N ≤ nI (k + 1) := nI_le (by omega) (by omega)
    obtain rfl : k = N - 1 := by omega
    refine ax_WPo (l := [(177, cy_177)]) (ax_oc sy_177 ax_on) ax_ok179 (fun t => t == 11) 400 11 rfl ?_
    simp +decide only [↓ax_B, ax_B, ax_kds, ax_gvs, ax_mcs, ax_ia_S, ax_up_ap, ax_vinL, and_self_left, ax_up_up, ax_up_sw, Nat.reduceAdd, Nat.reduceBEq, Nat.reduceLeDiff, Nat.reduceLT, Nat.reduceEqDiff, ↓reduceIte, true_and, and_true, List.cons_append, List.nil_append, Int32.reduceLT, Int32.reduceLE, Int32.reduceAdd, Int32.reduceToNatClampNeg, Int32.reduceOfNat, true_imp_iff, false_imp_iff, not_true_eq_false, not_false_eq_true, or_true, true_or, or_false, false_or, and_self, Bool.or_true, Bool.or_false, Bool.true_or, Bool.false_or, implies_true, forall_const, Bool.false_eq_true, Int32.neg_neg, ax_X179, ry_177, hN, hc]
    exact h E hE
  | succ j ih =>
    intro k E hk hE
    have hc : ¬ nI N ≤ nI (k + 1) := nI_ge (by omega) (by omega)
    have h3 : nI (k + 1) + 1 = nI (k + 1 + 1) := nI_1 _
    have h5 : (0 : Int32) ≤ nI (k + 1) := nI_pos' (by omega)
    have h6 : nI (k + 1) ≤ nI N := nI_le (by omega) (by omega)
    have h7 : nI (k + 1) ≤ 30 := le30_ (by omega)
    have hvk : gl_ (fun q => LM D 6 m (nI (q * 10)) 0 (k + 1)) 37 * gl_ (fun q => LM D 6 m (nI (q * 10)) (k + 1) N) 37 = v (k + 1) := (hv (k + 1)).symm
    refine ax_WPo (l := [(177, cy_177)]) (ax_oc sy_177 ax_on) ax_ok179 (fun t => t == 11) 400 11 rfl ?_
    simp +decide only [↓ax_B, ax_B, ax_kds, ax_gvs, ax_mcs, ax_ia_S, ax_up_ap, ax_vinL, and_self_left, ax_up_up, ax_up_sw, Nat.reduceAdd, Nat.reduceBEq, Nat.reduceLeDiff, Nat.reduceLT, Nat.reduceEqDiff, ↓reduceIte, true_and, and_true, List.cons_append, List.nil_append, Int32.reduceLT, Int32.reduceLE, Int32.reduceAdd, Int32.reduceToNatClampNeg, Int32.reduceOfNat, true_imp_iff, false_imp_iff, not_true_eq_false, not_false_eq_true, or_true, true_or, or_false, false_or, and_self, Bool.or_true, Bool.or_false, Bool.true_or, Bool.false_or, implies_true, forall_const, Bool.false_eq_true, Int32.neg_neg, ax_X179, ry_177, hN, hc, h3, h5, h6, h7, le30_ h30, hm, hok, nI_clamp (show k + 1 < 2 ^ 31 by omega), nI_clamp (show N < 2 ^ 31 by omega), cm_gt0, hvk, hE]
    refine ⟨fun c => ?_, fun c => ?_⟩
    · have := ih (k + 1) (ax_up E 58 (ax_up (E 58) 33 (v (k + 1)))) (by omega) (by rw [ax_up_s, ax_up_s]; unfold pt_; rw [if_pos c])
      unfold pt_ at this
      rw [if_pos c] at this
      exact ax_WP_w (by simp only [ax_le, and_self]) this
    · have := ih (k + 1) E (by omega) (by unfold pt_; rw [if_neg c]; exact hE)
      unfold pt_ at this
      rw [if_neg c] at this
      exact ax_WP_w (by simp only [ax_le, and_self]) this
/-- AskewLettersModel.parted(I)I -/
def cy_179 : ax_P1 := fun as z K => ∃ (p1 : Int32) (D : ax_Dn) (E : ax_En), as = [.ref 58, .int p1] ∧ z = ax_S D E ∧ (okM D ∧ vp_in p1 6 ∧ ∀ E', E' 58 33 = (pt_ (fun p => LGM D p1 0 p * LGM D p1 p (D 58 32).toNatClampNeg) (-1) ((D 58 32).toNatClampNeg - 1)).2 → K (some (.int (nI (pt_ (fun p => LGM D p1 0 p * LGM D p1 p (D 58 32).toNatClampNeg) (-1) ((D 58 32).toNatClampNeg - 1)).1))) (ax_S D E'))
theorem ry_179 (p1 : Int32) (D : ax_Dn) (E : ax_En) (K : ax_Po) : cy_179 [.ref 58, .int p1] (ax_S D E) K = (okM D ∧ vp_in p1 6 ∧ ∀ E', E' 58 33 = (pt_ (fun p => LGM D p1 0 p * LGM D p1 p (D 58 32).toNatClampNeg) (-1) ((D 58 32).toNatClampNeg - 1)).2 → K (some (.int (nI (pt_ (fun p => LGM D p1 0 p * LGM D p1 p (D 58 32).toNatClampNeg) (-1) ((D 58 32).toNatClampNeg - 1)).1))) (ax_S D E')) := propext ⟨fun ⟨p1', D', E', h1, h2, h3⟩ => by cases h1; obtain ⟨rfl, rfl⟩ := ax_S_inj h2; exact h3, fun h => ⟨p1, D, E, rfl, rfl, h⟩⟩
theorem sy_179 {g : ax_G} : ∀ as z K, cy_179 as z K → ax_MM g 179 as z K := by
  rintro _ _ K ⟨p1, D, E, rfl, rfl, h⟩
  refine ax_go179 _ _ ?_
  obtain ⟨hok, hm, h⟩ := h
  obtain ⟨n, hn, h30, hc⟩ := ax_cnt_of hok.2.2.1 (by decide)
  rw [hc] at h
  refine ax_WPo (l := [(177, cy_177)]) (ax_oc sy_177 ax_on) ax_ok179 (fun t => t == 11) 400 0 rfl ?_
  simp +decide only [↓ax_B, ax_B, ax_kds, ax_gvs, ax_mcs, ax_ia_S, ax_up_ap, ax_vinL, and_self_left, ax_up_up, ax_up_sw, Nat.reduceAdd, Nat.reduceBEq, Nat.reduceLeDiff, Nat.reduceLT, Nat.reduceEqDiff, ↓reduceIte, true_and, and_true, List.cons_append, List.nil_append, Int32.reduceLT, Int32.reduceLE, Int32.reduceAdd, Int32.reduceToNatClampNeg, Int32.reduceOfNat, true_imp_iff, false_imp_iff, not_true_eq_false, not_false_eq_true, or_true, true_or, or_false, false_or, and_self, Bool.or_true, Bool.or_false, Bool.true_or, Bool.false_or, implies_true, forall_const, Bool.false_eq_true, Int32.neg_neg, ax_X179, ry_177]
  exact lp_179 hok p1 hm n hn h30 _ (fun _ => rfl) h (n - 1) 0 _ (by omega) (by rw [ax_up_s, ax_up_s]; rfl)
