/-! Readers of the page, the ribbon, the hands. -/
def ax_le : ax_Lo → ax_Lo → Prop
  | [], [] => True
  | none :: l, _ :: l' => ax_le l l'
  | some v :: l, some w :: l' => v = w ∧ ax_le l l'
  | _, _ => False
theorem ax_le_at : ∀ {L L' : ax_Lo}, ax_le L L' → ∀ (j : Nat) (v : Value), L[j]? = some (some v) → L'[j]? = some (some v) := by
  intro L
  induction L with
  | nil => intro L' _ j v hj; simp at hj
  | cons a l ih =>
    intro L' h j v hj
    cases L' with
    | nil => cases a <;> exact False.elim h
    | cons b l' =>
      cases a with
      | none =>
        cases j with
        | zero => simp at hj
        | succ j => exact ih h j v (by simpa using hj)
      | some x =>
        cases b with
        | none => exact False.elim h
        | some y =>
          obtain ⟨rfl, h⟩ := h
          cases j with
          | zero => exact hj
          | succ j => exact ih h j v (by simpa using hj)
/-- a place that holds more is as good -/
theorem ax_WP_w {g : ax_G} {h : ax_H} {ret : ax_Po} {n0 top pc : Nat} {L L' : ax_Lo} {st : ax_Sk} {z : ax_St} (hl : ax_le L L') (hw : ax_WP g h ret n0 top pc L st z) : ax_WP g h ret n0 top pc L' st z := by
  intro p e R s m args below meth c Q B hn hR h0 ls H locs hls hRep hS
  refine hw p e R s m args below meth c Q B hn hR h0 ls H locs ⟨hls.1, hls.2.1, fun q hq => hls.2.2 q ?_⟩ hRep hS
  obtain ⟨j, v, h1, h2⟩ := ax_asc_mem.mp hq
  exact ax_asc_mem.mpr ⟨j, v, ax_le_at hl j v h1, h2⟩
def ov_ (l pl : Int32) : Nat → Nat → Int32 → Int32
  | 0, _, acc => acc
  | j + 1, k, acc => ov_ l pl j (k + 1) (if pl_F (nI k) l = pl then acc + 1 else acc)
theorem lp_55 {g : ax_G} {K : ax_Po} {D : ax_Dn} {E : ax_En} {n : Nat} (hn : D 12 0 = nI n) (h30 : n ≤ 30) (pl l : Int32) (hl : 1 ≤ l) (hl2 : ¬ 2 * l = 0) : ∀ (j k : Nat) (acc : Int32), k + j = n → K (some (.int (ov_ l pl j k acc))) (ax_S D E) → ax_WP g (ax_hy 55) K 92 92 5 [some (.ref 12), some (.int pl), some (.int l), some (.int acc), some (.int (nI k))] [] (ax_S D E) := by
  intro j
  induction j with
  | zero =>
    intro k acc hk h
    have hc : nI n ≤ nI k := nI_le (by omega) (by omega)
    refine ax_WPo (l := [(54, cy_54)]) (ax_oc sy_54 ax_on) ax_ok55 (fun t => t == 5) 400 5 rfl ?_
    simp +decide only [↓ax_B, ax_B, ax_kds, ax_gvs, ax_mcs, ax_ia_S, ax_up_ap, ax_vinL, and_self_left, ax_up_up, ax_up_sw, Nat.reduceAdd, Nat.reduceBEq, Nat.reduceLeDiff, Nat.reduceLT, Nat.reduceEqDiff, ↓reduceIte, true_and, and_true, List.cons_append, List.nil_append, Int32.reduceLT, Int32.reduceLE, Int32.reduceAdd, Int32.reduceToNatClampNeg, Int32.reduceOfNat, true_imp_iff, false_imp_iff, not_true_eq_false, not_false_eq_true, or_true, true_or, or_false, false_or, and_self, Bool.or_true, Bool.or_false, Bool.true_or, Bool.false_or, implies_true, forall_const, Bool.false_eq_true, Int32.neg_neg, ax_X55, ry_54, hn, hc]
    exact h
  | succ j ih =>
    intro k acc hk h
    have hc : ¬ nI n ≤ nI k := nI_ge (by omega) (by omega)
    have h1 : vp_in (nI k) 30 := vp_in_nI (by omega) (by omega)
    have h2 : (nI k).toNatClampNeg = k := nI_clamp (by omega)
    have h3 : nI k + 1 = nI (k + 1) := nI_1 k
    unfold ov_ at h
    refine ax_WPo (l := [(54, cy_54)]) (ax_oc sy_54 ax_on) ax_ok55 (fun t => t == 5) 400 5 rfl ?_
    simp +decide only [↓ax_B, ax_B, ax_kds, ax_gvs, ax_mcs, ax_ia_S, ax_up_ap, ax_vinL, and_self_left, ax_up_up, ax_up_sw, Nat.reduceAdd, Nat.reduceBEq, Nat.reduceLeDiff, Nat.reduceLT, Nat.reduceEqDiff, ↓reduceIte, true_and, and_true, List.cons_append, List.nil_append, Int32.reduceLT, Int32.reduceLE, Int32.reduceAdd, Int32.reduceToNatClampNeg, Int32.reduceOfNat, true_imp_iff, false_imp_iff, not_true_eq_false, not_false_eq_true, or_true, true_or, or_false, false_or, and_self, Bool.or_true, Bool.or_false, Bool.true_or, Bool.false_or, implies_true, forall_const, Bool.false_eq_true, Int32.neg_neg, ax_X55, ry_54, hn, hc, h1, h2, h3, hl, hl2]
    repeat' (first | with_reducible apply And.intro | with_reducible intro _)
    all_goals first | (simpa [*] using h) | (refine ih (k + 1) _ (by omega) ?_; simpa [*] using h)
/-- AskewLetters$Page.strokesAt(II)I -/
def cy_55 : ax_P1 := fun as z K => ∃ (p1 : Int32) (p2 : Int32) (D : ax_Dn) (E : ax_En), as = [.ref 12, .int p1, .int p2] ∧ z = ax_S D E ∧ (1 ≤ p2 ∧ ¬ 2 * p2 = 0 ∧ ax_cnt (D 12 0) 30 ∧ K (some (.int (ov_ p2 p1 (D 12 0).toNatClampNeg 0 0))) (ax_S D E))
theorem ry_55 (p1 : Int32) (p2 : Int32) (D : ax_Dn) (E : ax_En) (K : ax_Po) : cy_55 [.ref 12, .int p1, .int p2] (ax_S D E) K = (1 ≤ p2 ∧ ¬ 2 * p2 = 0 ∧ ax_cnt (D 12 0) 30 ∧ K (some (.int (ov_ p2 p1 (D 12 0).toNatClampNeg 0 0))) (ax_S D E)) := propext ⟨fun ⟨p1', p2', D', E', h1, h2, h3⟩ => by cases h1; obtain ⟨rfl, rfl⟩ := ax_S_inj h2; exact h3, fun h => ⟨p1, p2, D, E, rfl, rfl, h⟩⟩
theorem sy_55 {g : ax_G} : ∀ as z K, cy_55 as z K → ax_MM g 55 as z K := by
  rintro _ _ K ⟨p1, p2, D, E, rfl, rfl, h⟩
  refine ax_go55 _ _ _ ?_
  obtain ⟨g1, g2, h1, h⟩ := h
  obtain ⟨n, hn, h30, hc⟩ := ax_cnt_of h1 (by decide)
  rw [hc] at h
  refine ax_WPo (l := [(54, cy_54)]) (ax_oc sy_54 ax_on) ax_ok55 (fun t => t == 5) 400 0 rfl ?_
  simp +decide only [↓ax_B, ax_B, ax_kds, ax_gvs, ax_mcs, ax_ia_S, ax_up_ap, ax_vinL, and_self_left, ax_up_up, ax_up_sw, Nat.reduceAdd, Nat.reduceBEq, Nat.reduceLeDiff, Nat.reduceLT, Nat.reduceEqDiff, ↓reduceIte, true_and, and_true, List.cons_append, List.nil_append, Int32.reduceLT, Int32.reduceLE, Int32.reduceAdd, Int32.reduceToNatClampNeg, Int32.reduceOfNat, true_imp_iff, false_imp_iff, not_true_eq_false, not_false_eq_true, or_true, true_or, or_false, false_or, and_self, Bool.or_true, Bool.or_false, Bool.true_or, Bool.false_or, implies_true, forall_const, Bool.false_eq_true, Int32.neg_neg, ax_X55, ry_54]
  exact lp_55 hn h30 p1 p2 g1 g2 n 0 0 (by omega) h
theorem lp_192 {g : ax_G} {K : ax_Po} {D : ax_Dn} {E : ax_En} {n : Nat} (hn : D 58 32 = nI n) (h30 : n ≤ 30) (pl : Int32) (hl2 : ¬ 2 * D 76 4 = 0) : ∀ (j k : Nat) (acc : Int32), k + j = n → K (some (.int (ov_ (D 76 4) pl j k acc))) (ax_S D E) → ax_WP g (ax_hy 192) K 92 92 26 [some (.ref 58), some (.int pl), some (.int acc), some (.int (nI k))] [] (ax_S D E) := by
  intro j
  induction j with
  | zero =>
    intro k acc hk h
    have hc : nI n ≤ nI k := nI_le (by omega) (by omega)
    refine ax_WPo (l := [(191, cy_191)]) (ax_oc sy_191 ax_on) ax_ok192 (fun t => t == 26) 400 26 rfl ?_
    simp +decide only [↓ax_B, ax_B, ax_kds, ax_gvs, ax_mcs, ax_ia_S, ax_up_ap, ax_vinL, and_self_left, ax_up_up, ax_up_sw, Nat.reduceAdd, Nat.reduceBEq, Nat.reduceLeDiff, Nat.reduceLT, Nat.reduceEqDiff, ↓reduceIte, true_and, and_true, List.cons_append, List.nil_append, Int32.reduceLT, Int32.reduceLE, Int32.reduceAdd, Int32.reduceToNatClampNeg, Int32.reduceOfNat, true_imp_iff, false_imp_iff, not_true_eq_false, not_false_eq_true, or_true, true_or, or_false, false_or, and_self, Bool.or_true, Bool.or_false, Bool.true_or, Bool.false_or, implies_true, forall_const, Bool.false_eq_true, Int32.neg_neg, ax_X192, ry_191, hn, hc]
    exact h
  | succ j ih =>
    intro k acc hk h
    have hc : ¬ nI n ≤ nI k := nI_ge (by omega) (by omega)
    have h1 : vp_in (nI k) 30 := vp_in_nI (by omega) (by omega)
    have h2 : (nI k).toNatClampNeg = k := nI_clamp (by omega)
    have h3 : nI k + 1 = nI (k + 1) := nI_1 k
    unfold ov_ at h
    refine ax_WPo (l := [(191, cy_191)]) (ax_oc sy_191 ax_on) ax_ok192 (fun t => t == 26) 400 26 rfl ?_
    simp +decide only [↓ax_B, ax_B, ax_kds, ax_gvs, ax_mcs, ax_ia_S, ax_up_ap, ax_vinL, and_self_left, ax_up_up, ax_up_sw, Nat.reduceAdd, Nat.reduceBEq, Nat.reduceLeDiff, Nat.reduceLT, Nat.reduceEqDiff, ↓reduceIte, true_and, and_true, List.cons_append, List.nil_append, Int32.reduceLT, Int32.reduceLE, Int32.reduceAdd, Int32.reduceToNatClampNeg, Int32.reduceOfNat, true_imp_iff, false_imp_iff, not_true_eq_false, not_false_eq_true, or_true, true_or, or_false, false_or, and_self, Bool.or_true, Bool.or_false, Bool.true_or, Bool.false_or, implies_true, forall_const, Bool.false_eq_true, Int32.neg_neg, ax_X192, ry_191, hn, hc, h1, h2, h3, hl2]
    repeat' (first | with_reducible apply And.intro | with_reducible intro _)
    all_goals first | (simpa [*] using h) | (refine ih (k + 1) _ (by omega) ?_; simpa [*] using h)
/-- AskewLettersModel.over(I)I -/
def cy_192 : ax_P1 := fun as z K => ∃ (p1 : Int32) (D : ax_Dn) (E : ax_En), as = [.ref 58, .int p1] ∧ z = ax_S D E ∧ ((p1 < 0 → K (some (.int (-1))) (ax_S (ax_up D 59 (ax_up (D 59) 1 (D 59 1 + 1))) E)) ∧ (¬ p1 < 0 → (D 76 4 - 1 < p1 → K (some (.int (-1))) (ax_S (ax_up D 59 (ax_up (D 59) 1 (D 59 1 + 1))) E)) ∧ (¬ D 76 4 - 1 < p1 → ¬ 2 * D 76 4 = 0 ∧ ax_cnt (D 58 32) 30 ∧ K (some (.int (ov_ (D 76 4) p1 (D 58 32).toNatClampNeg 0 0))) (ax_S D E))))
theorem ry_192 (p1 : Int32) (D : ax_Dn) (E : ax_En) (K : ax_Po) : cy_192 [.ref 58, .int p1] (ax_S D E) K = ((p1 < 0 → K (some (.int (-1))) (ax_S (ax_up D 59 (ax_up (D 59) 1 (D 59 1 + 1))) E)) ∧ (¬ p1 < 0 → (D 76 4 - 1 < p1 → K (some (.int (-1))) (ax_S (ax_up D 59 (ax_up (D 59) 1 (D 59 1 + 1))) E)) ∧ (¬ D 76 4 - 1 < p1 → ¬ 2 * D 76 4 = 0 ∧ ax_cnt (D 58 32) 30 ∧ K (some (.int (ov_ (D 76 4) p1 (D 58 32).toNatClampNeg 0 0))) (ax_S D E)))) := propext ⟨fun ⟨p1', D', E', h1, h2, h3⟩ => by cases h1; obtain ⟨rfl, rfl⟩ := ax_S_inj h2; exact h3, fun h => ⟨p1, D, E, rfl, rfl, h⟩⟩
theorem sy_192 {g : ax_G} : ∀ as z K, cy_192 as z K → ax_MM g 192 as z K := by
  rintro _ _ K ⟨p1, D, E, rfl, rfl, h⟩
  refine ax_go192 _ _ ?_
  refine ax_WPo (l := [(125, cy_125), (128, cy_128), (191, cy_191)]) (ax_oc sy_125 (ax_oc sy_128 (ax_oc sy_191 ax_on))) ax_ok192 (fun t => t == 26) 400 0 rfl ?_
  simp +decide only [↓ax_B, ax_B, ax_kds, ax_gvs, ax_mcs, ax_ia_S, ax_up_ap, ax_vinL, and_self_left, ax_up_up, ax_up_sw, Nat.reduceAdd, Nat.reduceBEq, Nat.reduceLeDiff, Nat.reduceLT, Nat.reduceEqDiff, ↓reduceIte, true_and, and_true, List.cons_append, List.nil_append, Int32.reduceLT, Int32.reduceLE, Int32.reduceAdd, Int32.reduceToNatClampNeg, Int32.reduceOfNat, true_imp_iff, false_imp_iff, not_true_eq_false, not_false_eq_true, or_true, true_or, or_false, false_or, and_self, Bool.or_true, Bool.or_false, Bool.true_or, Bool.false_or, implies_true, forall_const, Bool.false_eq_true, Int32.neg_neg, ax_X192, ry_125, ry_128, ry_191]
  refine ⟨h.1, fun c => ⟨(h.2 c).1, fun c2 => ?_⟩⟩
  obtain ⟨g2, h1, h⟩ := (h.2 c).2 c2
  obtain ⟨n, hn, h30, hc⟩ := ax_cnt_of h1 (by decide)
  rw [hc] at h
  exact lp_192 hn h30 p1 g2 n 0 0 (by omega) h
/-- the latest at a place -/
def rb_ (l pl : Int32) (sg : Nat → Int32) : Nat → Int32
  | 0 => -9
  | n + 1 => if pl_F (nI n) l = pl then sg n else rb_ l pl sg n
theorem lp_56 {g : ax_G} {K : ax_Po} {D : ax_Dn} {E : ax_En} (pl l : Int32) (hl : 1 ≤ l) (hl2 : ¬ 2 * l = 0) : ∀ (k : Nat), k ≤ 30 → K (some (.int (rb_ l pl (D 13) k))) (ax_S D E) → ax_WP g (ax_hy 56) K 92 92 7 [some (.ref 12), some (.int pl), some (.int l), some (.int (nI k - 1))] [] (ax_S D E) := by
  intro k
  induction k with
  | zero =>
    intro hk h
    have hc : nI 0 - 1 < 0 := by decide
    refine ax_WPo (l := [(54, cy_54)]) (ax_oc sy_54 ax_on) ax_ok56 (fun t => t == 7) 400 7 rfl ?_
    simp +decide only [↓ax_B, ax_B, ax_kds, ax_gvs, ax_mcs, ax_ia_S, ax_up_ap, ax_vinL, and_self_left, ax_up_up, ax_up_sw, Nat.reduceAdd, Nat.reduceBEq, Nat.reduceLeDiff, Nat.reduceLT, Nat.reduceEqDiff, ↓reduceIte, true_and, and_true, List.cons_append, List.nil_append, Int32.reduceLT, Int32.reduceLE, Int32.reduceAdd, Int32.reduceToNatClampNeg, Int32.reduceOfNat, true_imp_iff, false_imp_iff, not_true_eq_false, not_false_eq_true, or_true, true_or, or_false, false_or, and_self, Bool.or_true, Bool.or_false, Bool.true_or, Bool.false_or, implies_true, forall_const, Bool.false_eq_true, Int32.neg_neg, ax_X56, ry_54, hc]
    exact h
  | succ k ih =>
    intro hk h
    have e : nI (k + 1) - 1 = nI k := nI_pred k
    have hc : ¬ nI k < 0 := nI_pos (by omega)
    have h1 : vp_in (nI k) 30 := vp_in_nI (by omega) (by omega)
    have h2 : (nI k).toNatClampNeg = k := nI_clamp (by omega)
    have h3 : nI k + -1 = nI k - 1 := (Int32.sub_eq_add_neg _ _).symm
    rw [e]
    unfold rb_ at h
    refine ax_WPo (l := [(54, cy_54)]) (ax_oc sy_54 ax_on) ax_ok56 (fun t => t == 7) 400 7 rfl ?_
    simp +decide only [↓ax_B, ax_B, ax_kds, ax_gvs, ax_mcs, ax_ia_S, ax_up_ap, ax_vinL, and_self_left, ax_up_up, ax_up_sw, Nat.reduceAdd, Nat.reduceBEq, Nat.reduceLeDiff, Nat.reduceLT, Nat.reduceEqDiff, ↓reduceIte, true_and, and_true, List.cons_append, List.nil_append, Int32.reduceLT, Int32.reduceLE, Int32.reduceAdd, Int32.reduceToNatClampNeg, Int32.reduceOfNat, true_imp_iff, false_imp_iff, not_true_eq_false, not_false_eq_true, or_true, true_or, or_false, false_or, and_self, Bool.or_true, Bool.or_false, Bool.true_or, Bool.false_or, implies_true, forall_const, Bool.false_eq_true, Int32.neg_neg, ax_X56, ry_54, hc, h1, h2, h3, hl, hl2]
    refine ⟨fun c => ?_, fun c => ?_⟩
    · rw [if_neg c] at h
      exact ih (by omega) h
    · rw [if_pos c] at h
      exact h
/-- AskewLetters$Page.latestAt(II)I -/
def cy_56 : ax_P1 := fun as z K => ∃ (p1 : Int32) (p2 : Int32) (D : ax_Dn) (E : ax_En), as = [.ref 12, .int p1, .int p2] ∧ z = ax_S D E ∧ (1 ≤ p2 ∧ ¬ 2 * p2 = 0 ∧ ax_cnt (D 12 0) 30 ∧ K (some (.int (rb_ p2 p1 (D 13) (D 12 0).toNatClampNeg))) (ax_S D E))
theorem ry_56 (p1 : Int32) (p2 : Int32) (D : ax_Dn) (E : ax_En) (K : ax_Po) : cy_56 [.ref 12, .int p1, .int p2] (ax_S D E) K = (1 ≤ p2 ∧ ¬ 2 * p2 = 0 ∧ ax_cnt (D 12 0) 30 ∧ K (some (.int (rb_ p2 p1 (D 13) (D 12 0).toNatClampNeg))) (ax_S D E)) := propext ⟨fun ⟨p1', p2', D', E', h1, h2, h3⟩ => by cases h1; obtain ⟨rfl, rfl⟩ := ax_S_inj h2; exact h3, fun h => ⟨p1, p2, D, E, rfl, rfl, h⟩⟩
theorem sy_56 {g : ax_G} : ∀ as z K, cy_56 as z K → ax_MM g 56 as z K := by
  rintro _ _ K ⟨p1, p2, D, E, rfl, rfl, h⟩
  refine ax_go56 _ _ _ ?_
  obtain ⟨g1, g2, h1, h⟩ := h
  obtain ⟨n, hn, h30, hc⟩ := ax_cnt_of h1 (by decide)
  rw [hc] at h
  refine ax_WPo (l := [(54, cy_54)]) (ax_oc sy_54 ax_on) ax_ok56 (fun t => t == 7) 400 0 rfl ?_
  simp +decide only [↓ax_B, ax_B, ax_kds, ax_gvs, ax_mcs, ax_ia_S, ax_up_ap, ax_vinL, and_self_left, ax_up_up, ax_up_sw, Nat.reduceAdd, Nat.reduceBEq, Nat.reduceLeDiff, Nat.reduceLT, Nat.reduceEqDiff, ↓reduceIte, true_and, and_true, List.cons_append, List.nil_append, Int32.reduceLT, Int32.reduceLE, Int32.reduceAdd, Int32.reduceToNatClampNeg, Int32.reduceOfNat, true_imp_iff, false_imp_iff, not_true_eq_false, not_false_eq_true, or_true, true_or, or_false, false_or, and_self, Bool.or_true, Bool.or_false, Bool.true_or, Bool.false_or, implies_true, forall_const, Bool.false_eq_true, Int32.neg_neg, ax_X56, ry_54, hn]
  exact lp_56 p1 p2 g1 g2 n h30 h
theorem lp_193 {g : ax_G} {K : ax_Po} {D : ax_Dn} {E : ax_En} {n : Nat} (hn : D 58 32 = nI n) (h30 : n ≤ 30) (pl : Int32) (hl2 : ¬ 2 * D 76 4 = 0) (h : K (some (.int (rb_ (D 76 4) pl (D 81) n))) (ax_S D E)) : ∀ (j k : Nat), k + j = n → ax_WP g (ax_hy 193) K 92 92 27 [some (.ref 58), some (.int pl), some (.int (rb_ (D 76 4) pl (D 81) k)), some (.int (nI k))] [] (ax_S D E) := by
  intro j
  induction j with
  | zero =>
    intro k hk
    have hc : nI n ≤ nI k := nI_le (by omega) (by omega)
    refine ax_WPo (l := [(191, cy_191)]) (ax_oc sy_191 ax_on) ax_ok193 (fun t => t == 27) 400 27 rfl ?_
    simp +decide only [↓ax_B, ax_B, ax_kds, ax_gvs, ax_mcs, ax_ia_S, ax_up_ap, ax_vinL, and_self_left, ax_up_up, ax_up_sw, Nat.reduceAdd, Nat.reduceBEq, Nat.reduceLeDiff, Nat.reduceLT, Nat.reduceEqDiff, ↓reduceIte, true_and, and_true, List.cons_append, List.nil_append, Int32.reduceLT, Int32.reduceLE, Int32.reduceAdd, Int32.reduceToNatClampNeg, Int32.reduceOfNat, true_imp_iff, false_imp_iff, not_true_eq_false, not_false_eq_true, or_true, true_or, or_false, false_or, and_self, Bool.or_true, Bool.or_false, Bool.true_or, Bool.false_or, implies_true, forall_const, Bool.false_eq_true, Int32.neg_neg, ax_X193, ry_191, hn, hc]
    rw [show k = n by omega]
    exact h
  | succ j ih =>
    intro k hk
    have hc : ¬ nI n ≤ nI k := nI_ge (by omega) (by omega)
    have h1 : vp_in (nI k) 30 := vp_in_nI (by omega) (by omega)
    have h2 : (nI k).toNatClampNeg = k := nI_clamp (by omega)
    have h3 : nI k + 1 = nI (k + 1) := nI_1 k
    have := ih (k + 1) (by omega)
    unfold rb_ at this
    refine ax_WPo (l := [(191, cy_191)]) (ax_oc sy_191 ax_on) ax_ok193 (fun t => t == 27) 400 27 rfl ?_
    simp +decide only [↓ax_B, ax_B, ax_kds, ax_gvs, ax_mcs, ax_ia_S, ax_up_ap, ax_vinL, and_self_left, ax_up_up, ax_up_sw, Nat.reduceAdd, Nat.reduceBEq, Nat.reduceLeDiff, Nat.reduceLT, Nat.reduceEqDiff, ↓reduceIte, true_and, and_true, List.cons_append, List.nil_append, Int32.reduceLT, Int32.reduceLE, Int32.reduceAdd, Int32.reduceToNatClampNeg, Int32.reduceOfNat, true_imp_iff, false_imp_iff, not_true_eq_false, not_false_eq_true, or_true, true_or, or_false, false_or, and_self, Bool.or_true, Bool.or_false, Bool.true_or, Bool.false_or, implies_true, forall_const, Bool.false_eq_true, Int32.neg_neg, ax_X193, ry_191, hn, hc, h1, h2, h3, hl2]
    refine ⟨fun c => ?_, fun c => ?_⟩
    · rw [if_neg c] at this
      exact this
    · rw [if_pos c] at this
      exact this
/-- AskewLettersModel.readBack(I)I -/
def cy_193 : ax_P1 := fun as z K => ∃ (p1 : Int32) (D : ax_Dn) (E : ax_En), as = [.ref 58, .int p1] ∧ z = ax_S D E ∧ ((p1 < 0 → K (some (.int (-1))) (ax_S (ax_up D 59 (ax_up (D 59) 1 (D 59 1 + 1))) E)) ∧ (¬ p1 < 0 → (D 76 4 - 1 < p1 → K (some (.int (-1))) (ax_S (ax_up D 59 (ax_up (D 59) 1 (D 59 1 + 1))) E)) ∧ (¬ D 76 4 - 1 < p1 → ¬ 2 * D 76 4 = 0 ∧ ax_cnt (D 58 32) 30 ∧ K (some (.int (rb_ (D 76 4) p1 (D 81) (D 58 32).toNatClampNeg))) (ax_S D E))))
theorem ry_193 (p1 : Int32) (D : ax_Dn) (E : ax_En) (K : ax_Po) : cy_193 [.ref 58, .int p1] (ax_S D E) K = ((p1 < 0 → K (some (.int (-1))) (ax_S (ax_up D 59 (ax_up (D 59) 1 (D 59 1 + 1))) E)) ∧ (¬ p1 < 0 → (D 76 4 - 1 < p1 → K (some (.int (-1))) (ax_S (ax_up D 59 (ax_up (D 59) 1 (D 59 1 + 1))) E)) ∧ (¬ D 76 4 - 1 < p1 → ¬ 2 * D 76 4 = 0 ∧ ax_cnt (D 58 32) 30 ∧ K (some (.int (rb_ (D 76 4) p1 (D 81) (D 58 32).toNatClampNeg))) (ax_S D E)))) := propext ⟨fun ⟨p1', D', E', h1, h2, h3⟩ => by cases h1; obtain ⟨rfl, rfl⟩ := ax_S_inj h2; exact h3, fun h => ⟨p1, D, E, rfl, rfl, h⟩⟩
theorem sy_193 {g : ax_G} : ∀ as z K, cy_193 as z K → ax_MM g 193 as z K := by
  rintro _ _ K ⟨p1, D, E, rfl, rfl, h⟩
  refine ax_go193 _ _ ?_
  refine ax_WPo (l := [(125, cy_125), (128, cy_128), (191, cy_191)]) (ax_oc sy_125 (ax_oc sy_128 (ax_oc sy_191 ax_on))) ax_ok193 (fun t => t == 27) 400 0 rfl ?_
  simp +decide only [↓ax_B, ax_B, ax_kds, ax_gvs, ax_mcs, ax_ia_S, ax_up_ap, ax_vinL, and_self_left, ax_up_up, ax_up_sw, Nat.reduceAdd, Nat.reduceBEq, Nat.reduceLeDiff, Nat.reduceLT, Nat.reduceEqDiff, ↓reduceIte, true_and, and_true, List.cons_append, List.nil_append, Int32.reduceLT, Int32.reduceLE, Int32.reduceAdd, Int32.reduceToNatClampNeg, Int32.reduceOfNat, true_imp_iff, false_imp_iff, not_true_eq_false, not_false_eq_true, or_true, true_or, or_false, false_or, and_self, Bool.or_true, Bool.or_false, Bool.true_or, Bool.false_or, implies_true, forall_const, Bool.false_eq_true, Int32.neg_neg, ax_X193, ry_125, ry_128, ry_191]
  refine ⟨h.1, fun c => ⟨(h.2 c).1, fun c2 => ?_⟩⟩
  obtain ⟨g2, h1, h⟩ := (h.2 c).2 c2
  obtain ⟨n, hn, h30, hc⟩ := ax_cnt_of h1 (by decide)
  rw [hc] at h
  exact lp_193 hn h30 p1 g2 h n 0 (by omega)
def li_ (l : Int32) (sg : Nat → Int32) (i : Nat) : Nat → Nat → Bool
  | 0, _ => false
  | j + 1, k => if pl_F (nI k) l = pl_F (nI i) l then (if sg k = sg i then li_ l sg i j (k + 1) else true) else li_ l sg i j (k + 1)
def lo_ (l : Int32) (sg : Nat → Int32) (n : Nat) : Nat → Nat → Int32
  | 0, _ => -9
  | j + 1, i => if li_ l sg i (n - (i + 1)) (i + 1) = true then nI i else lo_ l sg n j (i + 1)
theorem lp_57b {g : ax_G} {K : ax_Po} {D : ax_Dn} {E : ax_En} {n : Nat} (hn : D 12 0 = nI n) (h30 : n ≤ 30) (l : Int32) (hl : 1 ≤ l) (hl2 : ¬ 2 * l = 0) (i : Nat) (hi : i < n) : ∀ (j k : Nat), k + j = n → (li_ l (D 13) i j k = true → K (some (.int (nI i))) (ax_S D E)) → (li_ l (D 13) i j k = false → ax_WP g (ax_hy 57) K 92 92 2 [some (.ref 12), some (.int l), some (.int (nI (i + 1))), none] [] (ax_S D E)) → ax_WP g (ax_hy 57) K 92 92 14 [some (.ref 12), some (.int l), some (.int (nI i)), some (.int (nI k))] [] (ax_S D E) := by
  have hi1 : vp_in (nI i) 30 := vp_in_nI (by omega) (by omega)
  have hi2 : (nI i).toNatClampNeg = i := nI_clamp (by omega)
  have hi3 : nI i + 1 = nI (i + 1) := nI_1 i
  intro j
  induction j with
  | zero =>
    intro k hk ht hf
    have hc : nI n ≤ nI k := nI_le (by omega) (by omega)
    refine ax_WPo (l := [(54, cy_54)]) (ax_oc sy_54 ax_on) ax_ok57 (fun t => t == 2 || t == 14) 400 14 rfl ?_
    simp +decide only [↓ax_B, ax_B, ax_kds, ax_gvs, ax_mcs, ax_ia_S, ax_up_ap, ax_vinL, and_self_left, ax_up_up, ax_up_sw, Nat.reduceAdd, Nat.reduceBEq, Nat.reduceLeDiff, Nat.reduceLT, Nat.reduceEqDiff, ↓reduceIte, true_and, and_true, List.cons_append, List.nil_append, Int32.reduceLT, Int32.reduceLE, Int32.reduceAdd, Int32.reduceToNatClampNeg, Int32.reduceOfNat, true_imp_iff, false_imp_iff, not_true_eq_false, not_false_eq_true, or_true, true_or, or_false, false_or, and_self, Bool.or_true, Bool.or_false, Bool.true_or, Bool.false_or, implies_true, forall_const, Bool.false_eq_true, Int32.neg_neg, ax_X57, ry_54, hn, hc, hi3]
    exact ax_WP_w (by simp only [ax_le, and_self]) (hf rfl)
  | succ j ih =>
    intro k hk ht hf
    have hc : ¬ nI n ≤ nI k := nI_ge (by omega) (by omega)
    have h1 : vp_in (nI k) 30 := vp_in_nI (by omega) (by omega)
    have h2 : (nI k).toNatClampNeg = k := nI_clamp (by omega)
    have h3 : nI k + 1 = nI (k + 1) := nI_1 k
    unfold li_ at ht hf
    refine ax_WPo (l := [(54, cy_54)]) (ax_oc sy_54 ax_on) ax_ok57 (fun t => t == 2 || t == 14) 400 14 rfl ?_
    simp +decide only [↓ax_B, ax_B, ax_kds, ax_gvs, ax_mcs, ax_ia_S, ax_up_ap, ax_vinL, and_self_left, ax_up_up, ax_up_sw, Nat.reduceAdd, Nat.reduceBEq, Nat.reduceLeDiff, Nat.reduceLT, Nat.reduceEqDiff, ↓reduceIte, true_and, and_true, List.cons_append, List.nil_append, Int32.reduceLT, Int32.reduceLE, Int32.reduceAdd, Int32.reduceToNatClampNeg, Int32.reduceOfNat, true_imp_iff, false_imp_iff, not_true_eq_false, not_false_eq_true, or_true, true_or, or_false, false_or, and_self, Bool.or_true, Bool.or_false, Bool.true_or, Bool.false_or, implies_true, forall_const, Bool.false_eq_true, Int32.neg_neg, ax_X57, ry_54, hn, hc, h1, h2, h3, hl, hl2, hi1, hi2]
    refine ⟨fun c => ?_, fun c => ⟨fun c2 => ?_, fun c2 => ?_⟩⟩
    · refine ih (k + 1) (by omega) (fun q => ht ?_) (fun q => hf ?_)
      · rw [if_pos c, q]; split <;> rfl
      · rw [if_pos c, q]; split <;> rfl
    · rw [if_neg c2] at ht hf
      exact ih (k + 1) (by omega) ht hf
    · rw [if_pos c2, if_neg c] at ht
      exact ht rfl
theorem lp_57a {g : ax_G} {K : ax_Po} {D : ax_Dn} {E : ax_En} {n : Nat} (hn : D 12 0 = nI n) (h30 : n ≤ 30) (l : Int32) (hl : 1 ≤ l) (hl2 : ¬ 2 * l = 0) : ∀ (j i : Nat), i + j = n → K (some (.int (lo_ l (D 13) n j i))) (ax_S D E) → ax_WP g (ax_hy 57) K 92 92 2 [some (.ref 12), some (.int l), some (.int (nI i)), none] [] (ax_S D E) := by
  intro j
  induction j with
  | zero =>
    intro i hi h
    have hc : nI n ≤ nI i := nI_le (by omega) (by omega)
    refine ax_WPo (l := [(54, cy_54)]) (ax_oc sy_54 ax_on) ax_ok57 (fun t => t == 2 || t == 14) 400 2 rfl ?_
    simp +decide only [↓ax_B, ax_B, ax_kds, ax_gvs, ax_mcs, ax_ia_S, ax_up_ap, ax_vinL, and_self_left, ax_up_up, ax_up_sw, Nat.reduceAdd, Nat.reduceBEq, Nat.reduceLeDiff, Nat.reduceLT, Nat.reduceEqDiff, ↓reduceIte, true_and, and_true, List.cons_append, List.nil_append, Int32.reduceLT, Int32.reduceLE, Int32.reduceAdd, Int32.reduceToNatClampNeg, Int32.reduceOfNat, true_imp_iff, false_imp_iff, not_true_eq_false, not_false_eq_true, or_true, true_or, or_false, false_or, and_self, Bool.or_true, Bool.or_false, Bool.true_or, Bool.false_or, implies_true, forall_const, Bool.false_eq_true, Int32.neg_neg, ax_X57, ry_54, hn, hc]
    exact h
  | succ j ih =>
    intro i hi h
    have hc : ¬ nI n ≤ nI i := nI_ge (by omega) (by omega)
    have h1 : vp_in (nI i) 30 := vp_in_nI (by omega) (by omega)
    have h2 : (nI i).toNatClampNeg = i := nI_clamp (by omega)
    have h3 : nI i + 1 = nI (i + 1) := nI_1 i
    unfold lo_ at h
    refine ax_WPo (l := [(54, cy_54)]) (ax_oc sy_54 ax_on) ax_ok57 (fun t => t == 2 || t == 14) 400 2 rfl ?_
    simp +decide only [↓ax_B, ax_B, ax_kds, ax_gvs, ax_mcs, ax_ia_S, ax_up_ap, ax_vinL, and_self_left, ax_up_up, ax_up_sw, Nat.reduceAdd, Nat.reduceBEq, Nat.reduceLeDiff, Nat.reduceLT, Nat.reduceEqDiff, ↓reduceIte, true_and, and_true, List.cons_append, List.nil_append, Int32.reduceLT, Int32.reduceLE, Int32.reduceAdd, Int32.reduceToNatClampNeg, Int32.reduceOfNat, true_imp_iff, false_imp_iff, not_true_eq_false, not_false_eq_true, or_true, true_or, or_false, false_or, and_self, Bool.or_true, Bool.or_false, Bool.true_or, Bool.false_or, implies_true, forall_const, Bool.false_eq_true, Int32.neg_neg, ax_X57, ry_54, hn, hc, h3]
    refine lp_57b hn h30 l hl hl2 i (by omega) (n - (i + 1)) (i + 1) (by omega) (fun q => ?_) (fun q => ?_)
    · rw [if_pos q] at h
      exact h
    · rw [if_neg (by rw [q]; decide)] at h
      exact ih (i + 1) (by omega) h
/-- AskewLetters$Page.firstLaidOver(I)I -/
def cy_57 : ax_P1 := fun as z K => ∃ (p1 : Int32) (D : ax_Dn) (E : ax_En), as = [.ref 12, .int p1] ∧ z = ax_S D E ∧ (1 ≤ p1 ∧ ¬ 2 * p1 = 0 ∧ ax_cnt (D 12 0) 30 ∧ K (some (.int (lo_ p1 (D 13) (D 12 0).toNatClampNeg (D 12 0).toNatClampNeg 0))) (ax_S D E))
theorem ry_57 (p1 : Int32) (D : ax_Dn) (E : ax_En) (K : ax_Po) : cy_57 [.ref 12, .int p1] (ax_S D E) K = (1 ≤ p1 ∧ ¬ 2 * p1 = 0 ∧ ax_cnt (D 12 0) 30 ∧ K (some (.int (lo_ p1 (D 13) (D 12 0).toNatClampNeg (D 12 0).toNatClampNeg 0))) (ax_S D E)) := propext ⟨fun ⟨p1', D', E', h1, h2, h3⟩ => by cases h1; obtain ⟨rfl, rfl⟩ := ax_S_inj h2; exact h3, fun h => ⟨p1, D, E, rfl, rfl, h⟩⟩
theorem sy_57 {g : ax_G} : ∀ as z K, cy_57 as z K → ax_MM g 57 as z K := by
  rintro _ _ K ⟨p1, D, E, rfl, rfl, h⟩
  refine ax_go57 _ _ ?_
  obtain ⟨g1, g2, h1, h⟩ := h
  obtain ⟨n, hn, h30, hc⟩ := ax_cnt_of h1 (by decide)
  rw [hc] at h
  refine ax_WPo (l := [(54, cy_54)]) (ax_oc sy_54 ax_on) ax_ok57 (fun t => t == 2 || t == 14) 400 0 rfl ?_
  simp +decide only [↓ax_B, ax_B, ax_kds, ax_gvs, ax_mcs, ax_ia_S, ax_up_ap, ax_vinL, and_self_left, ax_up_up, ax_up_sw, Nat.reduceAdd, Nat.reduceBEq, Nat.reduceLeDiff, Nat.reduceLT, Nat.reduceEqDiff, ↓reduceIte, true_and, and_true, List.cons_append, List.nil_append, Int32.reduceLT, Int32.reduceLE, Int32.reduceAdd, Int32.reduceToNatClampNeg, Int32.reduceOfNat, true_imp_iff, false_imp_iff, not_true_eq_false, not_false_eq_true, or_true, true_or, or_false, false_or, and_self, Bool.or_true, Bool.or_false, Bool.true_or, Bool.false_or, implies_true, forall_const, Bool.false_eq_true, Int32.neg_neg, ax_X57, ry_54]
  exact lp_57a hn h30 p1 g1 g2 n 0 (by omega) h
theorem lp_194b {g : ax_G} {K : ax_Po} {D : ax_Dn} {E : ax_En} {n : Nat} (hn : D 58 32 = nI n) (h30 : n ≤ 30) (hl2 : ¬ 2 * D 76 4 = 0) (i : Nat) (hi : i < n) : ∀ (j k : Nat), k + j = n → (li_ (D 76 4) (D 81) i j k = true → K (some (.int (nI i))) (ax_S D E)) → (li_ (D 76 4) (D 81) i j k = false → ax_WP g (ax_hy 194) K 92 92 2 [some (.ref 58), some (.int (nI (i + 1))), none] [] (ax_S D E)) → ax_WP g (ax_hy 194) K 92 92 14 [some (.ref 58), some (.int (nI i)), some (.int (nI k))] [] (ax_S D E) := by
  have hi1 : vp_in (nI i) 30 := vp_in_nI (by omega) (by omega)
  have hi2 : (nI i).toNatClampNeg = i := nI_clamp (by omega)
  have hi3 : nI i + 1 = nI (i + 1) := nI_1 i
  intro j
  induction j with
  | zero =>
    intro k hk ht hf
    have hc : nI n ≤ nI k := nI_le (by omega) (by omega)
    refine ax_WPo (l := [(191, cy_191)]) (ax_oc sy_191 ax_on) ax_ok194 (fun t => t == 2 || t == 14) 400 14 rfl ?_
    simp +decide only [↓ax_B, ax_B, ax_kds, ax_gvs, ax_mcs, ax_ia_S, ax_up_ap, ax_vinL, and_self_left, ax_up_up, ax_up_sw, Nat.reduceAdd, Nat.reduceBEq, Nat.reduceLeDiff, Nat.reduceLT, Nat.reduceEqDiff, ↓reduceIte, true_and, and_true, List.cons_append, List.nil_append, Int32.reduceLT, Int32.reduceLE, Int32.reduceAdd, Int32.reduceToNatClampNeg, Int32.reduceOfNat, true_imp_iff, false_imp_iff, not_true_eq_false, not_false_eq_true, or_true, true_or, or_false, false_or, and_self, Bool.or_true, Bool.or_false, Bool.true_or, Bool.false_or, implies_true, forall_const, Bool.false_eq_true, Int32.neg_neg, ax_X194, ry_191, hn, hc, hi3]
    exact ax_WP_w (by simp only [ax_le, and_self]) (hf rfl)
  | succ j ih =>
    intro k hk ht hf
    have hc : ¬ nI n ≤ nI k := nI_ge (by omega) (by omega)
    have h1 : vp_in (nI k) 30 := vp_in_nI (by omega) (by omega)
    have h2 : (nI k).toNatClampNeg = k := nI_clamp (by omega)
    have h3 : nI k + 1 = nI (k + 1) := nI_1 k
    unfold li_ at ht hf
    refine ax_WPo (l := [(191, cy_191)]) (ax_oc sy_191 ax_on) ax_ok194 (fun t => t == 2 || t == 14) 400 14 rfl ?_
    simp +decide only [↓ax_B, ax_B, ax_kds, ax_gvs, ax_mcs, ax_ia_S, ax_up_ap, ax_vinL, and_self_left, ax_up_up, ax_up_sw, Nat.reduceAdd, Nat.reduceBEq, Nat.reduceLeDiff, Nat.reduceLT, Nat.reduceEqDiff, ↓reduceIte, true_and, and_true, List.cons_append, List.nil_append, Int32.reduceLT, Int32.reduceLE, Int32.reduceAdd, Int32.reduceToNatClampNeg, Int32.reduceOfNat, true_imp_iff, false_imp_iff, not_true_eq_false, not_false_eq_true, or_true, true_or, or_false, false_or, and_self, Bool.or_true, Bool.or_false, Bool.true_or, Bool.false_or, implies_true, forall_const, Bool.false_eq_true, Int32.neg_neg, ax_X194, ry_191, hn, hc, h1, h2, h3, hl2, hi1, hi2]
    refine ⟨fun c2 => ?_, fun c2 => ⟨fun c => ?_, fun c => ?_⟩⟩
    · rw [if_neg c2] at ht hf
      exact ih (k + 1) (by omega) ht hf
    · rw [if_pos c2, if_pos c] at ht hf
      exact ih (k + 1) (by omega) ht hf
    · rw [if_pos c2, if_neg c] at ht
      exact ht rfl
theorem lp_194a {g : ax_G} {K : ax_Po} {D : ax_Dn} {E : ax_En} {n : Nat} (hn : D 58 32 = nI n) (h30 : n ≤ 30) (hl2 : ¬ 2 * D 76 4 = 0) : ∀ (j i : Nat), i + j = n → K (some (.int (lo_ (D 76 4) (D 81) n j i))) (ax_S D E) → ax_WP g (ax_hy 194) K 92 92 2 [some (.ref 58), some (.int (nI i)), none] [] (ax_S D E) := by
  intro j
  induction j with
  | zero =>
    intro i hi h
    have hc : nI n ≤ nI i := nI_le (by omega) (by omega)
    refine ax_WPo (l := [(191, cy_191)]) (ax_oc sy_191 ax_on) ax_ok194 (fun t => t == 2 || t == 14) 400 2 rfl ?_
    simp +decide only [↓ax_B, ax_B, ax_kds, ax_gvs, ax_mcs, ax_ia_S, ax_up_ap, ax_vinL, and_self_left, ax_up_up, ax_up_sw, Nat.reduceAdd, Nat.reduceBEq, Nat.reduceLeDiff, Nat.reduceLT, Nat.reduceEqDiff, ↓reduceIte, true_and, and_true, List.cons_append, List.nil_append, Int32.reduceLT, Int32.reduceLE, Int32.reduceAdd, Int32.reduceToNatClampNeg, Int32.reduceOfNat, true_imp_iff, false_imp_iff, not_true_eq_false, not_false_eq_true, or_true, true_or, or_false, false_or, and_self, Bool.or_true, Bool.or_false, Bool.true_or, Bool.false_or, implies_true, forall_const, Bool.false_eq_true, Int32.neg_neg, ax_X194, ry_191, hn, hc]
    exact h
  | succ j ih =>
    intro i hi h
    have hc : ¬ nI n ≤ nI i := nI_ge (by omega) (by omega)
    have h1 : vp_in (nI i) 30 := vp_in_nI (by omega) (by omega)
    have h2 : (nI i).toNatClampNeg = i := nI_clamp (by omega)
    have h3 : nI i + 1 = nI (i + 1) := nI_1 i
    unfold lo_ at h
    refine ax_WPo (l := [(191, cy_191)]) (ax_oc sy_191 ax_on) ax_ok194 (fun t => t == 2 || t == 14) 400 2 rfl ?_
    simp +decide only [↓ax_B, ax_B, ax_kds, ax_gvs, ax_mcs, ax_ia_S, ax_up_ap, ax_vinL, and_self_left, ax_up_up, ax_up_sw, Nat.reduceAdd, Nat.reduceBEq, Nat.reduceLeDiff, Nat.reduceLT, Nat.reduceEqDiff, ↓reduceIte, true_and, and_true, List.cons_append, List.nil_append, Int32.reduceLT, Int32.reduceLE, Int32.reduceAdd, Int32.reduceToNatClampNeg, Int32.reduceOfNat, true_imp_iff, false_imp_iff, not_true_eq_false, not_false_eq_true, or_true, true_or, or_false, false_or, and_self, Bool.or_true, Bool.or_false, Bool.true_or, Bool.false_or, implies_true, forall_const, Bool.false_eq_true, Int32.neg_neg, ax_X194, ry_191, hn, hc, h3]
    refine lp_194b hn h30 hl2 i (by omega) (n - (i + 1)) (i + 1) (by omega) (fun q => ?_) (fun q => ?_)
    · rw [if_pos q] at h
      exact h
    · rw [if_neg (by rw [q]; decide)] at h
      exact ih (i + 1) (by omega) h
/-- AskewLettersModel.laid()I -/
def cy_194 : ax_P1 := fun as z K => ∃ (D : ax_Dn) (E : ax_En), as = [.ref 58] ∧ z = ax_S D E ∧ (¬ 2 * D 76 4 = 0 ∧ ax_cnt (D 58 32) 30 ∧ K (some (.int (lo_ (D 76 4) (D 81) (D 58 32).toNatClampNeg (D 58 32).toNatClampNeg 0))) (ax_S D E))
theorem ry_194  (D : ax_Dn) (E : ax_En) (K : ax_Po) : cy_194 [.ref 58] (ax_S D E) K = (¬ 2 * D 76 4 = 0 ∧ ax_cnt (D 58 32) 30 ∧ K (some (.int (lo_ (D 76 4) (D 81) (D 58 32).toNatClampNeg (D 58 32).toNatClampNeg 0))) (ax_S D E)) := propext ⟨fun ⟨D', E', h1, h2, h3⟩ => by cases h1; obtain ⟨rfl, rfl⟩ := ax_S_inj h2; exact h3, fun h => ⟨D, E, rfl, rfl, h⟩⟩
theorem sy_194 {g : ax_G} : ∀ as z K, cy_194 as z K → ax_MM g 194 as z K := by
  rintro _ _ K ⟨D, E, rfl, rfl, h⟩
  refine ax_go194 _ ?_
  obtain ⟨g2, h1, h⟩ := h
  obtain ⟨n, hn, h30, hc⟩ := ax_cnt_of h1 (by decide)
  rw [hc] at h
  refine ax_WPo (l := [(191, cy_191)]) (ax_oc sy_191 ax_on) ax_ok194 (fun t => t == 2 || t == 14) 400 0 rfl ?_
  simp +decide only [↓ax_B, ax_B, ax_kds, ax_gvs, ax_mcs, ax_ia_S, ax_up_ap, ax_vinL, and_self_left, ax_up_up, ax_up_sw, Nat.reduceAdd, Nat.reduceBEq, Nat.reduceLeDiff, Nat.reduceLT, Nat.reduceEqDiff, ↓reduceIte, true_and, and_true, List.cons_append, List.nil_append, Int32.reduceLT, Int32.reduceLE, Int32.reduceAdd, Int32.reduceToNatClampNeg, Int32.reduceOfNat, true_imp_iff, false_imp_iff, not_true_eq_false, not_false_eq_true, or_true, true_or, or_false, false_or, and_self, Bool.or_true, Bool.or_false, Bool.true_or, Bool.false_or, implies_true, forall_const, Bool.false_eq_true, Int32.neg_neg, ax_X194, ry_191]
  exact lp_194a hn h30 g2 n 0 (by omega) h
