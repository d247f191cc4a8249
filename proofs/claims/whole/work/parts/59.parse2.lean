/-! The book's text is read: the class's statement. -/
abbrev tq_ (D : ax_Dn) (t : Nat → Int32) (n p : Nat) : Prop := D 44 = t ∧ tp_ D n p
/-- what reading may change -/
def q_ (S : List Nat) (s : Nat) (D D' : ax_Dn) : Prop := ∀ x i, ¬ (x = 43 ∧ (i = 2 ∨ i = 3)) → ¬ (x ∈ S ∧ i = s) → D' x i = D x i
theorem q_rf {S : List Nat} {s : Nat} {D : ax_Dn} : q_ S s D D := fun _ _ _ _ => rfl
theorem q_tr {S S' T : List Nat} {s : Nat} {D D' D'' : ax_Dn} (h : q_ S s D D') (h' : q_ S' s D' D'') (hS : S ⊆ T) (hS' : S' ⊆ T) : q_ T s D D'' := fun x i a b =>
  (h' x i a (fun q => b ⟨hS' q.1, q.2⟩)).trans (h x i a (fun q => b ⟨hS q.1, q.2⟩))
theorem q_43 {S : List Nat} {s : Nat} {D D' : ax_Dn} (h : q_ S s D D') {G : Nat → Int32} (hG : ∀ y, ¬ y = 2 → ¬ y = 3 → G y = D' 43 y) : q_ S s D (ax_up D' 43 G) := by
  intro x i a b
  by_cases hx : x = 43
  · subst hx
    rw [ax_up_s, hG i (fun q => a ⟨rfl, Or.inl q⟩) (fun q => a ⟨rfl, Or.inr q⟩)]
    exact h 43 i a b
  · rw [ax_up_n _ _ hx]
    exact h x i a b
theorem q_up {S : List Nat} {s : Nat} {D D' : ax_Dn} (h : q_ S s D D') (c : Nat) (hc : c ∈ S) (v : Int32) : q_ S s D (ax_up D' c (ax_up (D' c) s v)) := by
  intro x i a b
  by_cases hx : x = c
  · subst hx
    rw [ax_up_s, ax_up_n _ _ (fun q => b ⟨hc, q⟩)]
    exact h x i a b
  · rw [ax_up_n _ _ hx]
    exact h x i a b
/-- AskewLetters$Book.isMachineAt(I)Z -/
def cy_8 : ax_P1 := fun as z K => ∃ (p1 : Int32) (D : ax_Dn) (E : ax_En), as = [.ref 43, .int p1] ∧ z = ax_S D E ∧ (∃ t n p s, tq_ D t n p ∧ p1 = nI s ∧ s < 22 ∧ (dgt t n p → ∀ D', q_ [46] s D D' → tq_ D' t n (p + 1) → D' 46 s = t p - 48 → K (some (.int 1)) (ax_S D' E)) ∧ (¬ dgt t n p → ∀ D', q_ [46] s D D' → tq_ D' t n p → K (some (.int 0)) (ax_S D' E)))
theorem ry_8 (p1 : Int32) (D : ax_Dn) (E : ax_En) (K : ax_Po) : cy_8 [.ref 43, .int p1] (ax_S D E) K = (∃ t n p s, tq_ D t n p ∧ p1 = nI s ∧ s < 22 ∧ (dgt t n p → ∀ D', q_ [46] s D D' → tq_ D' t n (p + 1) → D' 46 s = t p - 48 → K (some (.int 1)) (ax_S D' E)) ∧ (¬ dgt t n p → ∀ D', q_ [46] s D D' → tq_ D' t n p → K (some (.int 0)) (ax_S D' E))) := propext ⟨fun ⟨p1', D', E', h1, h2, h3⟩ => by cases h1; obtain ⟨rfl, rfl⟩ := ax_S_inj h2; exact h3, fun h => ⟨p1, D, E, rfl, rfl, h⟩⟩
theorem sy_8 {g : ax_G} : ∀ as z K, cy_8 as z K → ax_MM g 8 as z K := by
  rintro _ _ K ⟨p1, D, E, rfl, rfl, h⟩
  refine ax_go8 _ _ ?_
  obtain ⟨t, n, p, s, ⟨rfl, ht⟩, rfl, hs, h1, h2⟩ := h
  have c1 : (nI s).toNatClampNeg = s := nI_clamp (by omega)
  have c2 : vp_in (nI s) 22 := vp_in_nI hs (by omega)
  refine ax_WPo (l := [(7, cy_7d)]) (ax_oc sy_7d ax_on) ax_ok8 (fun _ => false) 400 0 rfl ?_
  simp +decide only [↓ax_B, ax_B, ax_kds, ax_gvs, ax_mcs, ax_ia_S, ax_up_ap, ax_vinL, and_self_left, ax_up_up, ax_up_sw, Nat.reduceAdd, Nat.reduceBEq, Nat.reduceLeDiff, Nat.reduceLT, Nat.reduceEqDiff, ↓reduceIte, true_and, and_true, List.cons_append, List.nil_append, Int32.reduceLT, Int32.reduceLE, Int32.reduceAdd, Int32.reduceToNatClampNeg, Int32.reduceOfNat, true_imp_iff, false_imp_iff, not_true_eq_false, not_false_eq_true, or_true, true_or, or_false, false_or, and_self, Bool.or_true, Bool.or_false, Bool.true_or, Bool.false_or, implies_true, forall_const, Bool.false_eq_true, Int32.neg_neg, ry_7d, c1]
  refine ⟨n, p, ht, fun d => ⟨c2, h1 d _ (q_up (q_43 q_rf (fun y a b => by rw [ax_up_n _ _ b, ax_up_n _ _ a])) 46 (by decide) _) ⟨rfl, ht.1, rfl, ht.2.2.1, d.1⟩ (by rw [ax_up_s, ax_up_s])⟩, fun d => ⟨c2, h2 d _ (q_up (q_43 q_rf (fun y a b => by rw [ax_up_n _ _ b])) 46 (by decide) _) ⟨rfl, ht.1, ht.2.1, ht.2.2.1, ht.2.2.2⟩⟩⟩
/-- AskewLetters$Book.isSignAt(I)Z -/
def cy_9 : ax_P1 := fun as z K => ∃ (p1 : Int32) (D : ax_Dn) (E : ax_En), as = [.ref 43, .int p1] ∧ z = ax_S D E ∧ (∃ t n p s, tq_ D t n p ∧ p1 = nI s ∧ s < 22 ∧ (dgt t n p → ∀ D', q_ [47] s D D' → tq_ D' t n (p + 1) → D' 47 s = t p - 48 → K (some (.int 1)) (ax_S D' E)) ∧ (¬ dgt t n p → ∀ D', q_ [47] s D D' → tq_ D' t n p → K (some (.int 0)) (ax_S D' E)))
theorem ry_9 (p1 : Int32) (D : ax_Dn) (E : ax_En) (K : ax_Po) : cy_9 [.ref 43, .int p1] (ax_S D E) K = (∃ t n p s, tq_ D t n p ∧ p1 = nI s ∧ s < 22 ∧ (dgt t n p → ∀ D', q_ [47] s D D' → tq_ D' t n (p + 1) → D' 47 s = t p - 48 → K (some (.int 1)) (ax_S D' E)) ∧ (¬ dgt t n p → ∀ D', q_ [47] s D D' → tq_ D' t n p → K (some (.int 0)) (ax_S D' E))) := propext ⟨fun ⟨p1', D', E', h1, h2, h3⟩ => by cases h1; obtain ⟨rfl, rfl⟩ := ax_S_inj h2; exact h3, fun h => ⟨p1, D, E, rfl, rfl, h⟩⟩
theorem sy_9 {g : ax_G} : ∀ as z K, cy_9 as z K → ax_MM g 9 as z K := by
  rintro _ _ K ⟨p1, D, E, rfl, rfl, h⟩
  refine ax_go9 _ _ ?_
  obtain ⟨t, n, p, s, ⟨rfl, ht⟩, rfl, hs, h1, h2⟩ := h
  have c1 : (nI s).toNatClampNeg = s := nI_clamp (by omega)
  have c2 : vp_in (nI s) 22 := vp_in_nI hs (by omega)
  refine ax_WPo (l := [(7, cy_7d)]) (ax_oc sy_7d ax_on) ax_ok9 (fun _ => false) 400 0 rfl ?_
  simp +decide only [↓ax_B, ax_B, ax_kds, ax_gvs, ax_mcs, ax_ia_S, ax_up_ap, ax_vinL, and_self_left, ax_up_up, ax_up_sw, Nat.reduceAdd, Nat.reduceBEq, Nat.reduceLeDiff, Nat.reduceLT, Nat.reduceEqDiff, ↓reduceIte, true_and, and_true, List.cons_append, List.nil_append, Int32.reduceLT, Int32.reduceLE, Int32.reduceAdd, Int32.reduceToNatClampNeg, Int32.reduceOfNat, true_imp_iff, false_imp_iff, not_true_eq_false, not_false_eq_true, or_true, true_or, or_false, false_or, and_self, Bool.or_true, Bool.or_false, Bool.true_or, Bool.false_or, implies_true, forall_const, Bool.false_eq_true, Int32.neg_neg, ry_7d, c1]
  refine ⟨n, p, ht, fun d => ⟨c2, h1 d _ (q_up (q_43 q_rf (fun y a b => by rw [ax_up_n _ _ b, ax_up_n _ _ a])) 47 (by decide) _) ⟨rfl, ht.1, rfl, ht.2.2.1, d.1⟩ (by rw [ax_up_s, ax_up_s])⟩, fun d => ⟨c2, h2 d _ (q_up (q_43 q_rf (fun y a b => by rw [ax_up_n _ _ b])) 47 (by decide) _) ⟨rfl, ht.1, ht.2.1, ht.2.2.1, ht.2.2.2⟩⟩⟩
/-- AskewLetters$Book.isDigitAt(I)Z -/
def cy_10 : ax_P1 := fun as z K => ∃ (p1 : Int32) (D : ax_Dn) (E : ax_En), as = [.ref 43, .int p1] ∧ z = ax_S D E ∧ (∃ t n p s, tq_ D t n p ∧ p1 = nI s ∧ s < 22 ∧ (dgt t n p → ∀ D', q_ [49] s D D' → tq_ D' t n (p + 1) → D' 49 s = t p - 48 → K (some (.int 1)) (ax_S D' E)) ∧ (¬ dgt t n p → ∀ D', q_ [49] s D D' → tq_ D' t n p → K (some (.int 0)) (ax_S D' E)))
theorem ry_10 (p1 : Int32) (D : ax_Dn) (E : ax_En) (K : ax_Po) : cy_10 [.ref 43, .int p1] (ax_S D E) K = (∃ t n p s, tq_ D t n p ∧ p1 = nI s ∧ s < 22 ∧ (dgt t n p → ∀ D', q_ [49] s D D' → tq_ D' t n (p + 1) → D' 49 s = t p - 48 → K (some (.int 1)) (ax_S D' E)) ∧ (¬ dgt t n p → ∀ D', q_ [49] s D D' → tq_ D' t n p → K (some (.int 0)) (ax_S D' E))) := propext ⟨fun ⟨p1', D', E', h1, h2, h3⟩ => by cases h1; obtain ⟨rfl, rfl⟩ := ax_S_inj h2; exact h3, fun h => ⟨p1, D, E, rfl, rfl, h⟩⟩
theorem sy_10 {g : ax_G} : ∀ as z K, cy_10 as z K → ax_MM g 10 as z K := by
  rintro _ _ K ⟨p1, D, E, rfl, rfl, h⟩
  refine ax_go10 _ _ ?_
  obtain ⟨t, n, p, s, ⟨rfl, ht⟩, rfl, hs, h1, h2⟩ := h
  have c1 : (nI s).toNatClampNeg = s := nI_clamp (by omega)
  have c2 : vp_in (nI s) 22 := vp_in_nI hs (by omega)
  refine ax_WPo (l := [(7, cy_7d)]) (ax_oc sy_7d ax_on) ax_ok10 (fun _ => false) 400 0 rfl ?_
  simp +decide only [↓ax_B, ax_B, ax_kds, ax_gvs, ax_mcs, ax_ia_S, ax_up_ap, ax_vinL, and_self_left, ax_up_up, ax_up_sw, Nat.reduceAdd, Nat.reduceBEq, Nat.reduceLeDiff, Nat.reduceLT, Nat.reduceEqDiff, ↓reduceIte, true_and, and_true, List.cons_append, List.nil_append, Int32.reduceLT, Int32.reduceLE, Int32.reduceAdd, Int32.reduceToNatClampNeg, Int32.reduceOfNat, true_imp_iff, false_imp_iff, not_true_eq_false, not_false_eq_true, or_true, true_or, or_false, false_or, and_self, Bool.or_true, Bool.or_false, Bool.true_or, Bool.false_or, implies_true, forall_const, Bool.false_eq_true, Int32.neg_neg, ry_7d, c1]
  refine ⟨n, p, ht, fun d => ⟨c2, h1 d _ (q_up (q_43 q_rf (fun y a b => by rw [ax_up_n _ _ b, ax_up_n _ _ a])) 49 (by decide) _) ⟨rfl, ht.1, rfl, ht.2.2.1, d.1⟩ (by rw [ax_up_s, ax_up_s])⟩, fun d => ⟨c2, h2 d _ (q_up (q_43 q_rf (fun y a b => by rw [ax_up_n _ _ b])) 49 (by decide) _) ⟨rfl, ht.1, ht.2.1, ht.2.2.1, ht.2.2.2⟩⟩⟩
/-- a lean is read: does it hold, and where it ends -/
def lP_ (t : Nat → Int32) (n p : Nat) : Bool × Nat := if byt t n p 45 ∨ byt t n p 43 then (if dgt t n (p + 1) then (true, p + 2) else (false, p + 1)) else (false, p)
def lV_ (t : Nat → Int32) (p : Nat) : Int32 := if t p = 45 then - (t (p + 1) - 48) else t (p + 1) - 48
/-- AskewLetters$Book.isLeanAt(I)Z -/
def cy_12 : ax_P1 := fun as z K => ∃ (p1 : Int32) (D : ax_Dn) (E : ax_En), as = [.ref 43, .int p1] ∧ z = ax_S D E ∧ (∃ t n p s, tq_ D t n p ∧ p1 = nI s ∧ s < 22 ∧ (∀ D', q_ [49] s D D' → tq_ D' t n (lP_ t n p).2 → ((lP_ t n p).1 = true → D' 49 s = lV_ t p) → K (some (.int (if (lP_ t n p).1 = true then 1 else 0))) (ax_S D' E)))
theorem ry_12 (p1 : Int32) (D : ax_Dn) (E : ax_En) (K : ax_Po) : cy_12 [.ref 43, .int p1] (ax_S D E) K = (∃ t n p s, tq_ D t n p ∧ p1 = nI s ∧ s < 22 ∧ (∀ D', q_ [49] s D D' → tq_ D' t n (lP_ t n p).2 → ((lP_ t n p).1 = true → D' 49 s = lV_ t p) → K (some (.int (if (lP_ t n p).1 = true then 1 else 0))) (ax_S D' E))) := propext ⟨fun ⟨p1', D', E', h1, h2, h3⟩ => by cases h1; obtain ⟨rfl, rfl⟩ := ax_S_inj h2; exact h3, fun h => ⟨p1, D, E, rfl, rfl, h⟩⟩
theorem sy_12 {g : ax_G} : ∀ as z K, cy_12 as z K → ax_MM g 12 as z K := by
  rintro _ _ K ⟨p1, D, E, rfl, rfl, h⟩
  refine ax_go12 _ _ ?_
  obtain ⟨t, n, p, s, ⟨rfl, ht⟩, rfl, hs, h⟩ := h
  have c1 : (nI s).toNatClampNeg = s := nI_clamp (by omega)
  have c2 : vp_in (nI s) 22 := vp_in_nI hs (by omega)
  have e45 : byt (D 44) n p 45 ↔ hr_ (D 44) n p = 45 := hr_b (by decide)
  have k1 : (byt (D 44) n p 45 ∨ byt (D 44) n p 43) → dgt (D 44) n (p + 1) → ∀ w v, v = lV_ (D 44) p → K (some (.int 1)) (ax_S (ax_up (ax_up D 43 (ax_up (ax_up (D 43) 2 (nI (p + 1 + 1))) 3 w)) 49 (ax_up (D 49) s v)) E) := by
    intro o d w v hv
    rw [show lP_ (D 44) n p = (true, p + 2) by unfold lP_; rw [if_pos o, if_pos d]] at h
    simp only [↓reduceIte] at h
    exact h _ (q_up (q_43 q_rf (fun y a b => by rw [ax_up_n _ _ b, ax_up_n _ _ a])) 49 (by decide) _) ⟨rfl, ht.1, rfl, ht.2.2.1, d.1⟩ (fun _ => by rw [ax_up_s, ax_up_s]; exact hv)
  have k2 : (byt (D 44) n p 45 ∨ byt (D 44) n p 43) → ¬ dgt (D 44) n (p + 1) → ∀ w v, K (some (.int 0)) (ax_S (ax_up (ax_up D 43 (ax_up (ax_up (D 43) 2 (nI (p + 1))) 3 w)) 49 (ax_up (D 49) s v)) E) := by
    intro o d w v
    rw [show lP_ (D 44) n p = (false, p + 1) by unfold lP_; rw [if_pos o, if_neg d]] at h
    simp only [Bool.false_eq_true, ↓reduceIte] at h
    exact h _ (q_up (q_43 q_rf (fun y a b => by rw [ax_up_n _ _ b, ax_up_n _ _ a])) 49 (by decide) _) ⟨rfl, ht.1, rfl, ht.2.2.1, o.elim (fun b => b.1) (fun b => b.1)⟩ (fun z => False.elim z)
  have k3 : ¬ (byt (D 44) n p 45 ∨ byt (D 44) n p 43) → ∀ v, K (some (.int 0)) (ax_S (ax_up D 49 (ax_up (D 49) s v)) E) := by
    intro o v
    rw [show lP_ (D 44) n p = (false, p) by unfold lP_; rw [if_neg o]] at h
    simp only [Bool.false_eq_true, ↓reduceIte] at h
    exact h _ (q_up q_rf 49 (by decide) _) ⟨rfl, ht⟩ (fun z => False.elim z)
  refine ax_WPo (l := [(4, cy_4h), (6, cy_6b), (7, cy_7d)]) (ax_oc sy_4h (ax_oc sy_6b (ax_oc sy_7d ax_on))) ax_ok12 (fun _ => false) 400 0 rfl ?_
  simp +decide only [↓ax_B, ax_B, ax_kds, ax_gvs, ax_mcs, ax_ia_S, ax_up_ap, ax_vinL, and_self_left, ax_up_up, ax_up_sw, Nat.reduceAdd, Nat.reduceBEq, Nat.reduceLeDiff, Nat.reduceLT, Nat.reduceEqDiff, ↓reduceIte, true_and, and_true, List.cons_append, List.nil_append, Int32.reduceLT, Int32.reduceLE, Int32.reduceAdd, Int32.reduceToNatClampNeg, Int32.reduceOfNat, true_imp_iff, false_imp_iff, not_true_eq_false, not_false_eq_true, or_true, true_or, or_false, false_or, and_self, Bool.or_true, Bool.or_false, Bool.true_or, Bool.false_or, implies_true, forall_const, Bool.false_eq_true, Int32.neg_neg, ax_X12, ry_4h, ry_6b, ry_7d, c1]
  refine ⟨n, p, ht, fun c => ⟨n, p, ht, fun b => absurd (e45.mp b) c, fun c' => ⟨n, p, ht, fun b => ⟨n, p + 1, ⟨ht.1, rfl, ht.2.2.1, b.1⟩, fun d => ⟨c2, k1 (Or.inr b) d _ _ ?_⟩, fun d => ⟨c2, k2 (Or.inr b) d _ _⟩⟩, fun b => ⟨c2, k3 (fun o => o.elim c' b) _⟩⟩⟩, fun c => ⟨n, p, ht, fun b => ⟨n, p + 1, ⟨ht.1, rfl, ht.2.2.1, b.1⟩, fun d => ⟨c2, k1 (Or.inl b) d _ _ ?_⟩, fun d => ⟨c2, k2 (Or.inl b) d _ _⟩⟩, fun b => absurd (e45.mpr c) b⟩⟩
  · unfold lV_
    rw [if_neg (fun q => c (e45.mp ⟨b.1, q⟩))]
  · unfold lV_
    rw [if_pos b.2]
/-- a bar's beginning is read -/
def bP_ (t : Nat → Int32) (n p : Nat) : Bool × Nat := if dgt t n p then (if dgt t n (p + 1) then (if byt t n (p + 2) 64 then (if (nu_ t n 3 (p + 3) 0).1 = p + 3 then (false, p + 3) else (true, (nu_ t n 3 (p + 3) 0).1)) else (false, p + 2)) else (false, p + 1)) else (false, p)
/-- AskewLetters$Book.isBarAt(I)Z -/
def cy_11 : ax_P1 := fun as z K => ∃ (p1 : Int32) (D : ax_Dn) (E : ax_En), as = [.ref 43, .int p1] ∧ z = ax_S D E ∧ (∃ t n p s, tq_ D t n p ∧ p1 = nI s ∧ s < 22 ∧ (∀ D', q_ [46, 47, 48] s D D' → tq_ D' t n (bP_ t n p).2 → ((bP_ t n p).1 = true → D' 46 s = t p - 48 ∧ D' 47 s = t (p + 1) - 48 ∧ D' 48 s = (nu_ t n 3 (p + 3) 0).2) → K (some (.int (if (bP_ t n p).1 = true then 1 else 0))) (ax_S D' E)))
theorem ry_11 (p1 : Int32) (D : ax_Dn) (E : ax_En) (K : ax_Po) : cy_11 [.ref 43, .int p1] (ax_S D E) K = (∃ t n p s, tq_ D t n p ∧ p1 = nI s ∧ s < 22 ∧ (∀ D', q_ [46, 47, 48] s D D' → tq_ D' t n (bP_ t n p).2 → ((bP_ t n p).1 = true → D' 46 s = t p - 48 ∧ D' 47 s = t (p + 1) - 48 ∧ D' 48 s = (nu_ t n 3 (p + 3) 0).2) → K (some (.int (if (bP_ t n p).1 = true then 1 else 0))) (ax_S D' E))) := propext ⟨fun ⟨p1', D', E', h1, h2, h3⟩ => by cases h1; obtain ⟨rfl, rfl⟩ := ax_S_inj h2; exact h3, fun h => ⟨p1, D, E, rfl, rfl, h⟩⟩
theorem sy_11 {g : ax_G} : ∀ as z K, cy_11 as z K → ax_MM g 11 as z K := by
  rintro _ _ K ⟨p1, D, E, rfl, rfl, h⟩
  refine ax_go11 _ _ ?_
  obtain ⟨t, n, p, s, ⟨rfl, ht⟩, rfl, hs, h⟩ := h
  have c1 : (nI s).toNatClampNeg = s := nI_clamp (by omega)
  have c2 : vp_in (nI s) 22 := vp_in_nI hs (by omega)
  refine ax_WPo (l := [(8, cy_8), (9, cy_9), (6, cy_6b), (7, cy_7)]) (ax_oc sy_8 (ax_oc sy_9 (ax_oc sy_6b (ax_oc sy_7 ax_on)))) ax_ok11 (fun _ => false) 400 0 rfl ?_
  simp +decide only [↓ax_B, ax_B, ax_kds, ax_gvs, ax_mcs, ax_ia_S, ax_up_ap, ax_vinL, and_self_left, ax_up_up, ax_up_sw, Nat.reduceAdd, Nat.reduceBEq, Nat.reduceLeDiff, Nat.reduceLT, Nat.reduceEqDiff, ↓reduceIte, true_and, and_true, List.cons_append, List.nil_append, Int32.reduceLT, Int32.reduceLE, Int32.reduceAdd, Int32.reduceToNatClampNeg, Int32.reduceOfNat, true_imp_iff, false_imp_iff, not_true_eq_false, not_false_eq_true, or_true, true_or, or_false, false_or, and_self, Bool.or_true, Bool.or_false, Bool.true_or, Bool.false_or, implies_true, forall_const, Bool.false_eq_true, Int32.neg_neg, ax_X11, ry_8, ry_9, ry_6b, ry_7, c1]
  refine ⟨D 44, n, p, s, ⟨rfl, ht⟩, rfl, hs, fun d1 D1 q1 t1 f1 => ⟨D 44, n, p + 1, s, t1, rfl, hs, fun d2 D2 q2 t2 f2 => ⟨n, p + 2, t2.2, fun b => ⟨n, p + 3, ⟨t2.2.1, rfl, ht.2.2.1, b.1⟩, fun z => ⟨c2, ?_⟩, fun z => ⟨c2, ?_⟩⟩, fun b => ⟨c2, ?_⟩⟩, fun d2 D2 q2 t2 => ⟨c2, ?_⟩⟩, fun d1 D1 q1 t1 => ⟨c2, ?_⟩⟩
  · rw [t2.1] at b z ⊢
    have z' : (nu_ (D 44) n 3 (p + 3) 0).1 = p + 3 := by
      by_cases q : (nu_ (D 44) n 3 (p + 3) 0).1 = p + 3
      · exact q
      · rw [if_neg q] at z; exact absurd z (by decide)
    rw [show bP_ (D 44) n p = (false, p + 3) by unfold bP_; rw [if_pos d1, if_pos d2, if_pos b, if_pos z']] at h
    simp only [Bool.false_eq_true, ↓reduceIte] at h
    rw [z']
    exact h _ (q_up (q_43 (q_tr q1 q2 (by decide) (by decide)) (fun y a b => by rw [ax_up_n _ _ b, ax_up_n _ _ a])) 48 (by decide) _) ⟨t2.1, t2.2.1, rfl, ht.2.2.1, b.1⟩ (fun z => False.elim z)
  · rw [t2.1] at b z ⊢
    have z' : ¬ (nu_ (D 44) n 3 (p + 3) 0).1 = p + 3 := fun q => z (by rw [if_pos q])
    rw [show bP_ (D 44) n p = (true, (nu_ (D 44) n 3 (p + 3) 0).1) by unfold bP_; rw [if_pos d1, if_pos d2, if_pos b, if_neg z']] at h
    simp only [↓reduceIte] at h
    exact h _ (q_up (q_43 (q_tr q1 q2 (by decide) (by decide)) (fun y a b => by rw [ax_up_n _ _ b, ax_up_n _ _ a])) 48 (by decide) _) ⟨t2.1, t2.2.1, rfl, ht.2.2.1, (nu_le (D 44) n 3 (p + 3) 0).2.2 b.1⟩ (fun _ => ⟨(q2 46 s (fun q => absurd q.1 (by decide)) (fun q => absurd q.1 (by decide))).trans f1, f2, by rw [ax_up_s, ax_up_s]⟩)
  · rw [t2.1] at b
    rw [show bP_ (D 44) n p = (false, p + 2) by unfold bP_; rw [if_pos d1, if_pos d2, if_neg b]] at h
    simp only [Bool.false_eq_true, ↓reduceIte] at h
    exact h _ (q_up (q_tr q1 q2 (by decide) (by decide)) 48 (by decide) _) t2 (fun z => False.elim z)
  · rw [show bP_ (D 44) n p = (false, p + 1) by unfold bP_; rw [if_pos d1, if_neg d2]] at h
    simp only [Bool.false_eq_true, ↓reduceIte] at h
    exact h _ (q_up (q_tr q1 q2 (by decide) (by decide)) 48 (by decide) _) t2 (fun z => False.elim z)
  · rw [show bP_ (D 44) n p = (false, p) by unfold bP_; rw [if_neg d1]] at h
    simp only [Bool.false_eq_true, ↓reduceIte] at h
    exact h _ (q_up (q_tr q1 q_rf (by decide) (List.Subset.refl _)) 48 (by decide) _) t1 (fun z => False.elim z)
/-- a statement's inside, after its letter l -/
def iP_ (t : Nat → Int32) (n : Nat) (l : Int32) (p : Nat) : Bool × Nat :=
  if l = 109 then (if (nu_ t n 2 p 0).1 = p then (false, p) else (true, (nu_ t n 2 p 0).1))
  else if l = 107 then (if dgt t n p then lP_ t n (p + 1) else (false, p))
  else if l = 98 then (if (bP_ t n p).1 = true then lP_ t n (bP_ t n p).2 else (false, (bP_ t n p).2))
  else if l = 115 then bP_ t n p
  else if l = 110 then (if (bP_ t n p).1 = true then (if byt t n (bP_ t n p).2 58 then (if dgt t n ((bP_ t n p).2 + 1) then (true, (bP_ t n p).2 + 2) else (false, (bP_ t n p).2 + 1)) else (false, (bP_ t n p).2)) else (false, (bP_ t n p).2))
  else (if dgt t n p then (if dgt t n (p + 1) then (true, p + 2) else (false, p + 1)) else (false, p))
abbrev lt_ (l : Int32) : Prop := l = 109 ∨ l = 107 ∨ l = 98 ∨ l = 115 ∨ l = 110 ∨ l = 99
/-- a statement, with its end -/
def sP_ (t : Nat → Int32) (n p : Nat) : Bool × Nat :=
  if lt_ (hr_ t n p) then (if (iP_ t n (hr_ t n p) (p + 1)).1 = true then (if byt t n (iP_ t n (hr_ t n p) (p + 1)).2 59 then (true, (iP_ t n (hr_ t n p) (p + 1)).2 + 1) else (false, (iP_ t n (hr_ t n p) (p + 1)).2)) else (false, (iP_ t n (hr_ t n p) (p + 1)).2)) else (false, p)
/-- what a statement at p leaves in the class's rows -/
def sF_ (t : Nat → Int32) (n p s : Nat) (D : ax_Dn) : Prop :=
  (t p = 109 → D 49 s = (nu_ t n 2 (p + 1) 0).2) ∧ (t p = 107 → D 47 s = t (p + 1) - 48 ∧ D 49 s = lV_ t (p + 2))
  ∧ ((t p = 98 ∨ t p = 115 ∨ t p = 110) → D 46 s = t (p + 1) - 48 ∧ D 47 s = t (p + 2) - 48 ∧ D 48 s = (nu_ t n 3 (p + 4) 0).2)
  ∧ (t p = 98 → D 49 s = lV_ t (bP_ t n (p + 1)).2) ∧ (t p = 110 → D 49 s = t ((bP_ t n (p + 1)).2 + 1) - 48)
  ∧ (t p = 99 → D 46 s = t (p + 1) - 48 ∧ D 49 s = t (p + 2) - 48)
