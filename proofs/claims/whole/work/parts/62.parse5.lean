/-! The book's statements are judged: the class. -/
abbrev ev_ (l : Int32) : Prop := l = 98 ∨ l = 115 ∨ l = 110
/-- a statement's numbers lie in their ranges -/
abbrev in_ (l d v : Int32) : Prop := (ev_ l → d ≤ 365) ∧ (l = 109 → 1 ≤ v) ∧ (l = 110 → v ≤ 3) ∧ (l = 99 → v ≤ 6)
/-- AskewLetters$Book.isEvent(I)Z -/
def cy_14e : ax_P1 := fun as z K => ∃ (p1 : Int32) (D : ax_Dn) (E : ax_En), as = [.int p1] ∧ z = ax_S D E ∧ (K (some (.int (if ev_ p1 then 1 else 0))) (ax_S D E))
theorem ry_14e (p1 : Int32) (D : ax_Dn) (E : ax_En) (K : ax_Po) : cy_14e [.int p1] (ax_S D E) K = (K (some (.int (if ev_ p1 then 1 else 0))) (ax_S D E)) := propext ⟨fun ⟨p1', D', E', h1, h2, h3⟩ => by cases h1; obtain ⟨rfl, rfl⟩ := ax_S_inj h2; exact h3, fun h => ⟨p1, D, E, rfl, rfl, h⟩⟩
theorem sy_14e {g : ax_G} : ∀ as z K, cy_14e as z K → ax_MM g 14 as z K := by
  rintro _ _ K ⟨p1, D, E, rfl, rfl, h⟩
  refine ax_go14 _ ?_
  refine ax_WPo (l := []) ax_on ax_ok14 (fun _ => false) 400 0 rfl ?_
  simp +decide only [↓ax_B, ax_B, ax_kds, ax_gvs, ax_mcs, ax_ia_S, ax_up_ap, ax_vinL, and_self_left, ax_up_up, ax_up_sw, Nat.reduceAdd, Nat.reduceBEq, Nat.reduceLeDiff, Nat.reduceLT, Nat.reduceEqDiff, ↓reduceIte, true_and, and_true, List.cons_append, List.nil_append, Int32.reduceLT, Int32.reduceLE, Int32.reduceAdd, Int32.reduceToNatClampNeg, Int32.reduceOfNat, true_imp_iff, false_imp_iff, not_true_eq_false, not_false_eq_true, or_true, true_or, or_false, false_or, and_self, Bool.or_true, Bool.or_false, Bool.true_or, Bool.false_or, implies_true, forall_const, Bool.false_eq_true, Int32.neg_neg, ax_X14]
  by_cases c0 : p1 = 98
  · rw [if_pos (Or.inl c0)] at h
    exact ⟨fun _ => h, fun z => absurd c0 z⟩
  · by_cases c1 : p1 = 115
    · rw [if_pos (Or.inr (Or.inl c1))] at h
      exact ⟨fun z => absurd z c0, fun _ => ⟨fun _ => h, fun z => absurd c1 z⟩⟩
    · by_cases c2 : p1 = 110
      · rw [if_pos (Or.inr (Or.inr c2))] at h
        exact ⟨fun z => absurd z c0, fun _ => ⟨fun z => absurd z c1, fun _ => ⟨fun z => absurd c2 z, fun _ => h⟩⟩⟩
      · rw [if_neg (fun z => z.elim c0 (fun z => z.elim c1 c2))] at h
        exact ⟨fun z => absurd z c0, fun _ => ⟨fun z => absurd z c1, fun _ => ⟨fun _ => h, fun z => absurd z c2⟩⟩⟩
/-- AskewLetters$Book.isInRange(II)Z -/
def cy_15 : ax_P1 := fun as z K => ∃ (p1 : Int32) (p2 : Int32) (D : ax_Dn) (E : ax_En), as = [.ref 43, .int p1, .int p2] ∧ z = ax_S D E ∧ (vp_in p2 22 ∧ K (some (.int (if in_ p1 (D 48 p2.toNatClampNeg) (D 49 p2.toNatClampNeg) then 1 else 0))) (ax_S D E))
theorem ry_15 (p1 : Int32) (p2 : Int32) (D : ax_Dn) (E : ax_En) (K : ax_Po) : cy_15 [.ref 43, .int p1, .int p2] (ax_S D E) K = (vp_in p2 22 ∧ K (some (.int (if in_ p1 (D 48 p2.toNatClampNeg) (D 49 p2.toNatClampNeg) then 1 else 0))) (ax_S D E)) := propext ⟨fun ⟨p1', p2', D', E', h1, h2, h3⟩ => by cases h1; obtain ⟨rfl, rfl⟩ := ax_S_inj h2; exact h3, fun h => ⟨p1, p2, D, E, rfl, rfl, h⟩⟩
theorem sy_15 {g : ax_G} : ∀ as z K, cy_15 as z K → ax_MM g 15 as z K := by
  rintro _ _ K ⟨p1, p2, D, E, rfl, rfl, h⟩
  refine ax_go15 _ _ _ ?_
  obtain ⟨hi, h⟩ := h
  refine ax_WPo (l := [(14, cy_14)]) (ax_oc sy_14 ax_on) ax_ok15 (fun _ => false) 400 0 rfl ?_
  simp +decide only [↓ax_B, ax_B, ax_kds, ax_gvs, ax_mcs, ax_ia_S, ax_up_ap, ax_vinL, and_self_left, ax_up_up, ax_up_sw, Nat.reduceAdd, Nat.reduceBEq, Nat.reduceLeDiff, Nat.reduceLT, Nat.reduceEqDiff, ↓reduceIte, true_and, and_true, List.cons_append, List.nil_append, Int32.reduceLT, Int32.reduceLE, Int32.reduceAdd, Int32.reduceToNatClampNeg, Int32.reduceOfNat, true_imp_iff, false_imp_iff, not_true_eq_false, not_false_eq_true, or_true, true_or, or_false, false_or, and_self, Bool.or_true, Bool.or_false, Bool.true_or, Bool.false_or, implies_true, forall_const, Bool.false_eq_true, Int32.neg_neg, ax_X15, ry_14, hi]
  have f1 : in_ p1 (D 48 p2.toNatClampNeg) (D 49 p2.toNatClampNeg) → K (some (.int 1)) (ax_S D E) := fun c => by rw [if_pos c] at h; exact h
  have f0 : ¬ in_ p1 (D 48 p2.toNatClampNeg) (D 49 p2.toNatClampNeg) → K (some (.int 0)) (ax_S D E) := fun c => by rw [if_neg c] at h; exact h
  clear h
  generalize D 48 p2.toNatClampNeg = d at *
  generalize D 49 p2.toNatClampNeg = v at *
  by_cases c98 : p1 = 98
  · subst c98
    simp (decide := true) only [not_false_eq_true, not_true_eq_false, true_and, and_true, true_implies, false_implies, and_self, forall_const]
    exact ⟨fun a => f1 ⟨fun _ => a, (fun q => absurd q (by decide)), (fun q => absurd q (by decide)), (fun q => absurd q (by decide))⟩, fun a => f0 (fun z => a (z.1 (by decide)))⟩
  by_cases c115 : p1 = 115
  · subst c115
    simp (decide := true) only [not_false_eq_true, not_true_eq_false, true_and, and_true, true_implies, false_implies, and_self, forall_const]
    exact ⟨fun a => f1 ⟨fun _ => a, (fun q => absurd q (by decide)), (fun q => absurd q (by decide)), (fun q => absurd q (by decide))⟩, fun a => f0 (fun z => a (z.1 (by decide)))⟩
  by_cases c110 : p1 = 110
  · subst c110
    simp (decide := true) only [not_false_eq_true, not_true_eq_false, true_and, and_true, true_implies, false_implies, and_self, forall_const]
    exact ⟨fun a => ⟨fun b => f0 (fun z => absurd (z.2.2.1 rfl) (Int32.not_le.mpr b)), fun b => f1 ⟨fun _ => a, (fun q => absurd q (by decide)), fun _ => Int32.not_lt.mp b, (fun q => absurd q (by decide))⟩⟩, fun a => f0 (fun z => a (z.1 (by decide)))⟩
  by_cases c99 : p1 = 99
  · subst c99
    simp (decide := true) only [not_false_eq_true, not_true_eq_false, true_and, and_true, true_implies, false_implies, and_self, forall_const]
    exact ⟨fun b => f0 (fun z => absurd (z.2.2.2 rfl) (Int32.not_le.mpr b)), fun b => f1 ⟨(fun q => absurd q (by decide)), (fun q => absurd q (by decide)), (fun q => absurd q (by decide)), fun _ => Int32.not_lt.mp b⟩⟩
  by_cases c109 : p1 = 109
  · subst c109
    simp (decide := true) only [not_false_eq_true, not_true_eq_false, true_and, and_true, true_implies, false_implies, and_self, forall_const]
    exact ⟨fun b => f0 (fun z => absurd (z.2.1 rfl) (Int32.not_le.mpr b)), fun b => f1 ⟨(fun q => absurd q (by decide)), fun _ => Int32.not_lt.mp b, (fun q => absurd q (by decide)), (fun q => absurd q (by decide))⟩⟩
  simp (decide := true) only [c98, c115, c110, c99, c109, not_false_eq_true, not_true_eq_false, true_and, and_true, true_implies, false_implies, and_self, forall_const]
  exact f1 ⟨fun q => absurd q (fun z => z.elim c98 (fun z => z.elim c115 c110)), fun q => absurd q c109, fun q => absurd q c110, fun q => absurd q c99⟩
/-- a statement is wrong for so many machines and events -/
abbrev wr_ (l m d v : Int32) (M N : Nat) : Prop := (¬ l = 109 ∧ ¬ l = 107 ∧ ¬ m < nI M) ∨ (6 < (if l = 109 then M + 1 else M)) ∨ (20 < (if ev_ l then N + 1 else N)) ∨ ¬ in_ l d v
/-- the first wrong statement -/
def fw_ (L m d v : Nat → Int32) : Nat → Nat → Nat → Nat → Nat
  | 0, i, _, _ => i
  | j + 1, i, M, N => if wr_ (L i) (m i) (d i) (v i) M N then i else fw_ L m d v j (i + 1) (if L i = 109 then M + 1 else M) (if ev_ (L i) then N + 1 else N)
/-- AskewLetters$Book.firstWrong(II)I -/
def cy_13 : ax_P1 := fun as z K => ∃ (p1 : Int32) (p2 : Int32) (D : ax_Dn) (E : ax_En), as = [.ref 43, .int p1, .int p2] ∧ z = ax_S D E ∧ (∃ (n M N : Nat) (P : Nat → Nat), D 43 4 = nI n ∧ n ≤ 22 ∧ p1 = nI M ∧ p2 = nI N ∧ M ≤ 6 ∧ N ≤ 20 ∧ (∀ i, i < n → D 45 i = nI (P i) ∧ P i < 64) ∧ K (some (.int (nI (fw_ (fun i => D 44 (P i)) (D 46) (D 48) (D 49) n 0 M N)))) (ax_S D E))
theorem ry_13 (p1 : Int32) (p2 : Int32) (D : ax_Dn) (E : ax_En) (K : ax_Po) : cy_13 [.ref 43, .int p1, .int p2] (ax_S D E) K = (∃ (n M N : Nat) (P : Nat → Nat), D 43 4 = nI n ∧ n ≤ 22 ∧ p1 = nI M ∧ p2 = nI N ∧ M ≤ 6 ∧ N ≤ 20 ∧ (∀ i, i < n → D 45 i = nI (P i) ∧ P i < 64) ∧ K (some (.int (nI (fw_ (fun i => D 44 (P i)) (D 46) (D 48) (D 49) n 0 M N)))) (ax_S D E)) := propext ⟨fun ⟨p1', p2', D', E', h1, h2, h3⟩ => by cases h1; obtain ⟨rfl, rfl⟩ := ax_S_inj h2; exact h3, fun h => ⟨p1, p2, D, E, rfl, rfl, h⟩⟩
theorem iz_ {c : Prop} [Decidable c] : (if c then (1 : Int32) else 0) = 0 ↔ ¬ c := by
  by_cases h : c
  · rw [if_pos h]; exact ⟨fun z => absurd z (by decide), fun z => absurd h z⟩
  · rw [if_neg h]; exact ⟨fun _ => h, fun _ => rfl⟩
theorem lp_13 {g : ax_G} {K : ax_Po} {D : ax_Dn} {E : ax_En} (n : Nat) (P : Nat → Nat) (a1 a2 : Int32) (l6 : Option Value) (hn : D 43 4 = nI n) (hn' : n ≤ 22) (hP : ∀ i, i < n → D 45 i = nI (P i) ∧ P i < 64) : ∀ (j i M N : Nat) (l6 : Option Value), i + j = n → M ≤ 6 → N ≤ 20 → K (some (.int (nI (fw_ (fun i => D 44 (P i)) (D 46) (D 48) (D 49) j i M N)))) (ax_S D E) → ax_WP g (ax_hy 13) K 92 92 8 [some (.ref 43), some (.int a1), some (.int a2), some (.int (nI M)), some (.int (nI N)), some (.int (nI i)), l6] [] (ax_S D E) := by
  intro j
  induction j with
  | zero =>
    intro i M N l6 hi hM hN h
    have hc : nI n ≤ nI i := nI_le (by omega) (by omega)
    refine ax_WPo (l := [(14, cy_14e), (15, cy_15)]) (ax_oc sy_14e (ax_oc sy_15 ax_on)) ax_ok13 (fun t => t == 8) 400 8 rfl ?_
    simp +decide only [↓ax_B, ax_B, ax_kds, ax_gvs, ax_mcs, ax_ia_S, ax_up_ap, ax_vinL, and_self_left, ax_up_up, ax_up_sw, Nat.reduceAdd, Nat.reduceBEq, Nat.reduceLeDiff, Nat.reduceLT, Nat.reduceEqDiff, ↓reduceIte, true_and, and_true, List.cons_append, List.nil_append, Int32.reduceLT, Int32.reduceLE, Int32.reduceAdd, Int32.reduceToNatClampNeg, Int32.reduceOfNat, true_imp_iff, false_imp_iff, not_true_eq_false, not_false_eq_true, or_true, true_or, or_false, false_or, and_self, Bool.or_true, Bool.or_false, Bool.true_or, Bool.false_or, implies_true, forall_const, Bool.false_eq_true, Int32.neg_neg, ax_X13, ry_14e, ry_15, hn,hc]
    obtain rfl : i = n := by omega
    exact h
  | succ j ih =>
    intro i M N l6 hi hM hN h
    obtain ⟨e1, e2⟩ := hP i (by omega)
    have hc : ¬ nI n ≤ nI i := nI_ge (by omega) (by omega)
    have h1 : vp_in (nI i) 22 := vp_in_nI (by omega) (by omega)
    have h2 : (nI i).toNatClampNeg = i := nI_clamp (by omega)
    have h3 : nI i + 1 = nI (i + 1) := nI_1 i
    have e3 : (nI (P i)).toNatClampNeg = P i := nI_clamp (by omega)
    have e4 : vp_in (nI (P i)) 64 := vp_in_nI e2 (by omega)
    have b1 : ¬ 6 < nI M := by
      rw [show (6 : Int32) = nI 6 from rfl, nI_ltI (by omega) (by omega)]; omega
    have b2 : nI M + 1 = nI (M + 1) := nI_1 M
    have b3 : 6 < nI (M + 1) ↔ 6 < M + 1 := by
      rw [show (6 : Int32) = nI 6 from rfl, nI_ltI (by omega) (by omega)]
    have b4 : ¬ 20 < nI N := by
      rw [show (20 : Int32) = nI 20 from rfl, nI_ltI (by omega) (by omega)]; omega
    have b5 : nI N + 1 = nI (N + 1) := nI_1 N
    have b6 : 20 < nI (N + 1) ↔ 20 < N + 1 := by
      rw [show (20 : Int32) = nI 20 from rfl, nI_ltI (by omega) (by omega)]
    have kw : wr_ (D 44 (P i)) (D 46 i) (D 48 i) (D 49 i) M N → K (some (.int (nI i))) (ax_S D E) := by
      intro c
      unfold fw_ at h
      rw [if_pos c] at h
      exact h
    have kr : ¬ wr_ (D 44 (P i)) (D 46 i) (D 48 i) (D 49 i) M N → ∀ l6, ax_WP g (ax_hy 13) K 92 92 8 [some (.ref 43), some (.int a1), some (.int a2), some (.int (nI (if D 44 (P i) = 109 then M + 1 else M))), some (.int (nI (if ev_ (D 44 (P i)) then N + 1 else N))), some (.int (nI (i + 1))), l6] [] (ax_S D E) := by
      intro c l6
      unfold fw_ at h
      rw [if_neg c] at h
      refine ih (i + 1) _ _ l6 (by omega) ?_ ?_ h
      · exact Nat.not_lt.mp (fun z => c (Or.inr (Or.inl z)))
      · exact Nat.not_lt.mp (fun z => c (Or.inr (Or.inr (Or.inl z))))
    clear h
    have core : ∀ M', (if D 44 (P i) = 109 then M + 1 else M) = M' → ¬ (¬ D 44 (P i) = 109 ∧ ¬ D 44 (P i) = 107 ∧ ¬ D 46 i < nI M) → ¬ 6 < M' →
        (¬ ev_ (D 44 (P i)) → (in_ (D 44 (P i)) (D 48 i) (D 49 i) → ax_WP g (ax_hy 13) K 92 92 8 [some (.ref 43), some (.int a1), some (.int a2), some (.int (nI M')), some (.int (nI N)), some (.int (nI (i + 1))), some (.int (D 44 (P i)))] [] (ax_S D E)) ∧ (¬ in_ (D 44 (P i)) (D 48 i) (D 49 i) → K (some (.int (nI i))) (ax_S D E)))
        ∧ (ev_ (D 44 (P i)) → (20 < N + 1 → K (some (.int (nI i))) (ax_S D E)) ∧ (¬ 20 < N + 1 → (in_ (D 44 (P i)) (D 48 i) (D 49 i) → ax_WP g (ax_hy 13) K 92 92 8 [some (.ref 43), some (.int a1), some (.int a2), some (.int (nI M')), some (.int (nI (N + 1))), some (.int (nI (i + 1))), some (.int (D 44 (P i)))] [] (ax_S D E)) ∧ (¬ in_ (D 44 (P i)) (D 48 i) (D 49 i) → K (some (.int (nI i))) (ax_S D E)))) := by
      intro M' hM' w1 w2
      rw [hM'] at kr
      refine ⟨fun e => ⟨fun q => ?_, fun q => kw (Or.inr (Or.inr (Or.inr q)))⟩, fun e => ⟨fun z => kw (Or.inr (Or.inr (Or.inl (by rw [if_pos e]; exact z)))), fun z => ⟨fun q => ?_, fun q => kw (Or.inr (Or.inr (Or.inr q)))⟩⟩⟩
      · rw [if_neg e] at kr
        exact kr (fun w => w.elim w1 (fun w => w.elim (by rw [hM']; exact w2) (fun w => w.elim (by rw [if_neg e]; omega) (fun w => w q)))) _
      · rw [if_pos e] at kr
        exact kr (fun w => w.elim w1 (fun w => w.elim (by rw [hM']; exact w2) (fun w => w.elim (by rw [if_pos e]; exact z) (fun w => w q)))) _
    have k6 : D 44 (P i) = 109 → 6 < M + 1 → K (some (.int (nI i))) (ax_S D E) := fun a z => kw (Or.inr (Or.inl (by rw [if_pos a]; exact z)))
    refine ax_WPo (l := [(14, cy_14e), (15, cy_15)]) (ax_oc sy_14e (ax_oc sy_15 ax_on)) ax_ok13 (fun t => t == 8) 400 8 rfl ?_
    simp +decide only [↓ax_B, ax_B, ax_kds, ax_gvs, ax_mcs, ax_ia_S, ax_up_ap, ax_vinL, and_self_left, ax_up_up, ax_up_sw, Nat.reduceAdd, Nat.reduceBEq, Nat.reduceLeDiff, Nat.reduceLT, Nat.reduceEqDiff, ↓reduceIte, true_and, and_true, List.cons_append, List.nil_append, Int32.reduceLT, Int32.reduceLE, Int32.reduceAdd, Int32.reduceToNatClampNeg, Int32.reduceOfNat, true_imp_iff, false_imp_iff, not_true_eq_false, not_false_eq_true, or_true, true_or, or_false, false_or, and_self, Bool.or_true, Bool.or_false, Bool.true_or, Bool.false_or, implies_true, forall_const, Bool.false_eq_true, Int32.neg_neg, ax_X13, ry_14e, ry_15, hn,hc,h1,h2,h3,e1,e3,e4,b1,b2,b3,b4,b5,b6]
    simp only [iz_, Classical.not_not]
    exact ⟨fun a9 => ⟨fun a7 => core M (if_neg a9) (fun q => q.2.1 a7) (by omega), fun a7 => ⟨fun am => core M (if_neg a9) (fun q => q.2.2 am) (by omega), fun am => kw (Or.inl ⟨a9, a7, am⟩)⟩⟩, fun a9 => ⟨fun ae => ⟨fun z => k6 a9 z, fun z => (core (M + 1) (if_pos a9) (fun q => q.1 a9) z).1 ae⟩, fun ae => ⟨fun z => k6 a9 z, fun z => (core (M + 1) (if_pos a9) (fun q => q.1 a9) z).2 ae⟩⟩⟩
theorem sy_13 {g : ax_G} : ∀ as z K, cy_13 as z K → ax_MM g 13 as z K := by
  rintro _ _ K ⟨p1, p2, D, E, rfl, rfl, h⟩
  refine ax_go13 _ _ _ ?_
  obtain ⟨n, M, N, P, h1, h2, rfl, rfl, h3, h4, h5, h⟩ := h
  refine ax_WPo (l := [(14, cy_14e), (15, cy_15)]) (ax_oc sy_14e (ax_oc sy_15 ax_on)) ax_ok13 (fun t => t == 8) 400 0 rfl ?_
  simp +decide only [↓ax_B, ax_B, ax_kds, ax_gvs, ax_mcs, ax_ia_S, ax_up_ap, ax_vinL, and_self_left, ax_up_up, ax_up_sw, Nat.reduceAdd, Nat.reduceBEq, Nat.reduceLeDiff, Nat.reduceLT, Nat.reduceEqDiff, ↓reduceIte, true_and, and_true, List.cons_append, List.nil_append, Int32.reduceLT, Int32.reduceLE, Int32.reduceAdd, Int32.reduceToNatClampNeg, Int32.reduceOfNat, true_imp_iff, false_imp_iff, not_true_eq_false, not_false_eq_true, or_true, true_or, or_false, false_or, and_self, Bool.or_true, Bool.or_false, Bool.true_or, Bool.false_or, implies_true, forall_const, Bool.false_eq_true, Int32.neg_neg, ax_X13, ry_14e, ry_15]
  exact lp_13 n P _ _ none h1 h2 h5 n 0 M N none (by omega) h3 h4 h
