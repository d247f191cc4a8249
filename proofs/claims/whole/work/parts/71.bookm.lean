/-! The book, by the model: a statement comes. -/
abbrev we_ (D : ax_Dn) (k M N : Nat) : Prop := nI M ≤ D 62 k ∨ 365 < D 64 k ∨ (D 61 k = 110 ∧ 3 < D 65 k) ∨ N = 20
abbrev sE_ (D : ax_Dn) (l a b d v : Int32) : ax_Dn := ax_up (ax_up (ax_up (ax_up (ax_up (ax_up D 58 (ax_up (D 58) 23 (D 58 23 + 1))) 71 (ax_up (D 71) (D 58 23).toNatClampNeg l)) 72 (ax_up (D 72) (D 58 23).toNatClampNeg a)) 73 (ax_up (D 73) (D 58 23).toNatClampNeg b)) 74 (ax_up (D 74) (D 58 23).toNatClampNeg d)) 75 (ax_up (D 75) (D 58 23).toNatClampNeg v)
/-- AskewLettersModel.comesEvent(I)Z -/
def cy_136 : ax_P1 := fun as z K => ∃ (p1 : Int32) (D : ax_Dn) (E : ax_En), as = [.ref 58, .int p1] ∧ z = ax_S D E ∧ (∃ (k M N : Nat), p1 = nI k ∧ k < 32 ∧ D 58 22 = nI M ∧ D 58 23 = nI N ∧ M ≤ 6 ∧ N ≤ 20 ∧ (we_ D k M N → K (some (.int 0)) (ax_S D E)) ∧ (¬ we_ D k M N → K (some (.int 1)) (ax_S (sE_ D (D 61 k) (D 62 k) (D 63 k) (D 64 k) (D 65 k)) E)))
theorem ry_136 (p1 : Int32) (D : ax_Dn) (E : ax_En) (K : ax_Po) : cy_136 [.ref 58, .int p1] (ax_S D E) K = (∃ (k M N : Nat), p1 = nI k ∧ k < 32 ∧ D 58 22 = nI M ∧ D 58 23 = nI N ∧ M ≤ 6 ∧ N ≤ 20 ∧ (we_ D k M N → K (some (.int 0)) (ax_S D E)) ∧ (¬ we_ D k M N → K (some (.int 1)) (ax_S (sE_ D (D 61 k) (D 62 k) (D 63 k) (D 64 k) (D 65 k)) E))) := propext ⟨fun ⟨p1', D', E', h1, h2, h3⟩ => by cases h1; obtain ⟨rfl, rfl⟩ := ax_S_inj h2; exact h3, fun h => ⟨p1, D, E, rfl, rfl, h⟩⟩
set_option maxRecDepth 10000 in
theorem sy_136 {g : ax_G} : ∀ as z K, cy_136 as z K → ax_MM g 136 as z K := by
  rintro _ _ K ⟨p1, D, E, rfl, rfl, h⟩
  refine ax_go136 _ _ ?_
  obtain ⟨k, M, N, rfl, h1, h2, h3, h4, h5, k1, k2⟩ := h
  have c1 : (nI k).toNatClampNeg = k := nI_clamp (by omega)
  have c2 : vp_in (nI k) 32 := vp_in_nI h1 (by omega)
  have cN : (nI N).toNatClampNeg = N := nI_clamp (by omega)
  have e20 : nI N = 20 ↔ N = 20 := by
    rw [na_eq, na_nI (by omega), show (20 : Int32).toInt = 20 from rfl]; omega
  unfold we_ at k1 k2
  unfold sE_ at k2
  rw [h3, cN] at k2
  refine ax_WPo (l := []) ax_on ax_ok136 (fun _ => false) 400 0 rfl ?_
  simp +decide only [↓ax_B, ax_B, ax_kds, ax_gvs, ax_mcs, ax_ia_S, ax_up_ap, ax_vinL, and_self_left, ax_up_up, ax_up_sw, Nat.reduceAdd, Nat.reduceBEq, Nat.reduceLeDiff, Nat.reduceLT, Nat.reduceEqDiff, ↓reduceIte, true_and, and_true, List.cons_append, List.nil_append, Int32.reduceLT, Int32.reduceLE, Int32.reduceAdd, Int32.reduceToNatClampNeg, Int32.reduceOfNat, true_imp_iff, false_imp_iff, not_true_eq_false, not_false_eq_true, or_true, true_or, or_false, false_or, and_self, Bool.or_true, Bool.or_false, Bool.true_or, Bool.false_or, implies_true, forall_const, Bool.false_eq_true, Int32.neg_neg, ax_X136, c1,c2,h2,h3,cN,e20]
  have vN : ¬ N = 20 → vp_in (nI N) 20 := fun z => vp_in_nI (by omega) (by omega)
  exact ⟨fun a => k1 (Or.inl a), fun a => ⟨fun b => k1 (Or.inr (Or.inl b)), fun b => ⟨fun c => ⟨fun z => ⟨vN z, k2 (fun w => w.elim a (fun w => w.elim b (fun w => w.elim (fun w => c w.1) z)))⟩, fun z => k1 (Or.inr (Or.inr (Or.inr z)))⟩, fun c => ⟨fun y => k1 (Or.inr (Or.inr (Or.inl ⟨c, y⟩))), fun y => ⟨fun z => ⟨vN z, k2 (fun w => w.elim a (fun w => w.elim b (fun w => w.elim (fun w => y w.2) z)))⟩, fun z => k1 (Or.inr (Or.inr (Or.inr z)))⟩⟩⟩⟩⟩
/-- AskewLettersModel.comes(I)Z -/
def cy_137 : ax_P1 := fun as z K => ∃ (p1 : Int32) (D : ax_Dn) (E : ax_En), as = [.ref 58, .int p1] ∧ z = ax_S D E ∧ (∃ (k M N : Nat) (m s d v : Int32), p1 = nI k ∧ k < 32 ∧ D 58 22 = nI M ∧ D 58 23 = nI N ∧ M ≤ 6 ∧ N ≤ 20 ∧ rst_ (D 61 k) m s d v (D 62 k) (D 63 k) (D 64 k) (D 65 k) ∧ (wr_ (D 61 k) m d v M N → K (some (.int 0)) (ax_S D E)) ∧ (¬ wr_ (D 61 k) m d v M N → K (some (.int 1)) (ax_S (stM D (D 61 k) (D 62 k) (D 63 k) (D 64 k) (D 65 k)) E)))
theorem ry_137 (p1 : Int32) (D : ax_Dn) (E : ax_En) (K : ax_Po) : cy_137 [.ref 58, .int p1] (ax_S D E) K = (∃ (k M N : Nat) (m s d v : Int32), p1 = nI k ∧ k < 32 ∧ D 58 22 = nI M ∧ D 58 23 = nI N ∧ M ≤ 6 ∧ N ≤ 20 ∧ rst_ (D 61 k) m s d v (D 62 k) (D 63 k) (D 64 k) (D 65 k) ∧ (wr_ (D 61 k) m d v M N → K (some (.int 0)) (ax_S D E)) ∧ (¬ wr_ (D 61 k) m d v M N → K (some (.int 1)) (ax_S (stM D (D 61 k) (D 62 k) (D 63 k) (D 64 k) (D 65 k)) E))) := propext ⟨fun ⟨p1', D', E', h1, h2, h3⟩ => by cases h1; obtain ⟨rfl, rfl⟩ := ax_S_inj h2; exact h3, fun h => ⟨p1, D, E, rfl, rfl, h⟩⟩
set_option maxRecDepth 10000 in
theorem sy_137 {g : ax_G} : ∀ as z K, cy_137 as z K → ax_MM g 137 as z K := by
  rintro _ _ K ⟨p1, D, E, rfl, rfl, h⟩
  refine ax_go137 _ _ ?_
  obtain ⟨k, M, N, m, s, d, v, rfl, h1, h2, h3, h4, h5, hr, k1, k2⟩ := h
  have c1 : (nI k).toNatClampNeg = k := nI_clamp (by omega)
  have c2 : vp_in (nI k) 32 := vp_in_nI h1 (by omega)
  have cM : (nI M).toNatClampNeg = M := nI_clamp (by omega)
  have cN : (nI N).toNatClampNeg = N := nI_clamp (by omega)
  have e6 : nI M = 6 ↔ M = 6 := by
    rw [na_eq, na_nI (by omega), show (6 : Int32).toInt = 6 from rfl]; omega
  refine ax_WPo (l := [(136, cy_136)]) (ax_oc sy_136 ax_on) ax_ok137 (fun _ => false) 400 0 rfl ?_
  simp +decide only [↓ax_B, ax_B, ax_kds, ax_gvs, ax_mcs, ax_ia_S, ax_up_ap, ax_vinL, and_self_left, ax_up_up, ax_up_sw, Nat.reduceAdd, Nat.reduceBEq, Nat.reduceLeDiff, Nat.reduceLT, Nat.reduceEqDiff, ↓reduceIte, true_and, and_true, List.cons_append, List.nil_append, Int32.reduceLT, Int32.reduceLE, Int32.reduceAdd, Int32.reduceToNatClampNeg, Int32.reduceOfNat, true_imp_iff, false_imp_iff, not_true_eq_false, not_false_eq_true, or_true, true_or, or_false, false_or, and_self, Bool.or_true, Bool.or_false, Bool.true_or, Bool.false_or, implies_true, forall_const, Bool.false_eq_true, Int32.neg_neg, ax_X137, ry_136, c1,c2,h2,h3,cM,cN,e6]
  obtain ⟨hl, r1, r2, r3, r4⟩ := hr
  have hev : ev_ (D 61 k) → (we_ D k M N ↔ wr_ (D 61 k) m d v M N) := by
    intro e
    obtain ⟨q1, q2, q3, -, -, -, q4, q5⟩ := r4 e
    have n9 : ¬ D 61 k = 109 := by rcases e with e | e | e <;> (rw [e]; decide)
    have n7 : ¬ D 61 k = 107 := by rcases e with e | e | e <;> (rw [e]; decide)
    have n99 : ¬ D 61 k = 99 := by rcases e with e | e | e <;> (rw [e]; decide)
    unfold we_ wr_ in_
    rw [if_neg n9, if_pos e, ← q1, ← q3]
    constructor
    · rintro (z | z | ⟨z1, z2⟩ | z)
      · exact Or.inl ⟨n9, n7, Int32.not_lt.mpr z⟩
      · exact Or.inr (Or.inr (Or.inr (fun w => absurd (w.1 e) (Int32.not_le.mpr z))))
      · rw [← q4 (by rw [z1]; decide)] at z2
        exact Or.inr (Or.inr (Or.inr (fun w => absurd (w.2.2.1 z1) (Int32.not_le.mpr z2))))
      · exact Or.inr (Or.inr (Or.inl (by omega)))
    · rintro (⟨-, -, z⟩ | z | z | z)
      · exact Or.inl (Int32.not_lt.mp z)
      · exact absurd z (by omega)
      · exact Or.inr (Or.inr (Or.inr (by omega)))
      · by_cases c : d ≤ 365
        · by_cases c2 : D 61 k = 110 ∧ 3 < D 65 k
          · exact Or.inr (Or.inr (Or.inl c2))
          · refine absurd ⟨fun _ => c, fun w => absurd w n9, fun w => ?_, fun w => absurd w n99⟩ z
            rw [q4 (by rw [w]; decide)]
            exact Int32.not_lt.mp (fun y => c2 ⟨w, y⟩)
        · exact Or.inr (Or.inl (Int32.not_le.mp c))
  refine ⟨fun e => ?_, fun l99 => ⟨fun e => ?_, fun l107 => ⟨fun e => ?_, fun l109 => ?_⟩⟩⟩
  · obtain ⟨rfl, rfl, q1, q2⟩ := r3 e
    unfold wr_ in_ at k1 k2
    unfold stM at k2
    rw [e] at k1 k2
    refine ⟨fun z => k1 (Or.inl ⟨by decide, by decide, Int32.not_lt.mpr z⟩), fun z => ⟨fun y => ⟨?_, ?_⟩, fun y => k1 (Or.inr (Or.inr (Or.inr (fun w => y (w.2.2.2 rfl)))))⟩⟩
    · have z := na_lt.mp (Int32.not_le.mp z)
      rw [na_nI (by omega)] at z
      exact na_in q1.1 (by omega)
    · have := k2 (by
        rintro (⟨-, -, w⟩ | w | w | w)
        · exact w (Int32.not_le.mp z)
        · rw [if_neg (by decide)] at w; omega
        · rw [if_neg (by decide)] at w; omega
        · exact w ⟨fun w => absurd w (by decide), fun w => absurd w (by decide), fun w => absurd w (by decide), fun _ => y⟩)
      rw [if_neg (by decide), if_neg (by decide), if_pos rfl] at this
      exact this
  · obtain ⟨rfl, rfl, q1, q2⟩ := r2 e
    unfold wr_ in_ at k2
    unfold stM at k2
    rw [e] at k2
    refine ⟨dg_in q1 (by decide), ?_⟩
    have := k2 (by
        rintro (⟨-, w, -⟩ | w | w | w)
        · exact w rfl
        · rw [if_neg (by decide)] at w; omega
        · rw [if_neg (by decide)] at w; omega
        · exact w ⟨fun w => absurd w (by decide), fun w => absurd w (by decide), fun w => absurd w (by decide), fun w => absurd w (by decide)⟩)
    rw [if_neg (by decide), if_pos rfl] at this
    exact this
  · obtain ⟨rfl, q1⟩ := r1 e
    unfold wr_ in_ at k1 k2
    unfold stM at k2
    rw [e] at k1 k2
    have z1 : (1 : Int32).toInt = 1 := rfl
    have z0 : (0 : Int32).toInt = 0 := rfl
    refine ⟨fun z => k1 (Or.inr (Or.inr (Or.inr (fun w => ?_)))), fun z => ⟨fun y => ⟨vp_in_nI (by omega) (by omega), ?_⟩, fun y => k1 (Or.inr (Or.inl (by rw [if_pos rfl]; omega)))⟩⟩
    · have := w.2.1 rfl
      rw [z] at this
      exact absurd this (by decide)
    · have := k2 (by
        rintro (⟨w, -, -⟩ | w | w | w)
        · exact w rfl
        · rw [if_pos rfl] at w; omega
        · rw [if_neg (by decide)] at w; omega
        · refine w ⟨fun w => absurd w (by decide), fun _ => ?_, fun w => absurd w (by decide), fun w => absurd w (by decide)⟩
          have a := q1.1
          have b : ¬ (D 62 k).toInt = 0 := fun q => z (na_eq.mpr q)
          rw [na_le, z1]
          omega)
      rw [if_pos rfl, h2, cM] at this
      exact this
  · have le : ev_ (D 61 k) := by
      rcases hl with q | q | q | q | q | q
      · exact absurd q l109
      · exact absurd q l107
      · exact Or.inl q
      · exact Or.inr (Or.inl q)
      · exact Or.inr (Or.inr q)
      · exact absurd q l99
    refine ⟨k, M, N, rfl, h1, rfl, rfl, h4, h5, fun w => k1 ((hev le).mp w), fun w => ?_⟩
    have := k2 (fun z => w ((hev le).mpr z))
    unfold stM at this
    rw [if_neg l109, if_neg l107, if_neg l99] at this
    exact this
