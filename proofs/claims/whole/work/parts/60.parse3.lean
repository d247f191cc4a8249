/-! The book's text is read: the class's statement, whole. -/
/-- AskewLetters$Book.isStatement(I)Z -/
def cy_5 : ax_P1 := fun as z K => ∃ (p1 : Int32) (D : ax_Dn) (E : ax_En), as = [.ref 43, .int p1] ∧ z = ax_S D E ∧ (∃ t n p s, tq_ D t n p ∧ p1 = nI s ∧ s < 22 ∧ (∀ D', q_ [45, 46, 47, 48, 49] s D D' → tq_ D' t n (sP_ t n p).2 → D' 45 s = nI p → ((sP_ t n p).1 = true → sF_ t n p s D') → K (some (.int (if (sP_ t n p).1 = true then 1 else 0))) (ax_S D' E)))
theorem ry_5 (p1 : Int32) (D : ax_Dn) (E : ax_En) (K : ax_Po) : cy_5 [.ref 43, .int p1] (ax_S D E) K = (∃ t n p s, tq_ D t n p ∧ p1 = nI s ∧ s < 22 ∧ (∀ D', q_ [45, 46, 47, 48, 49] s D D' → tq_ D' t n (sP_ t n p).2 → D' 45 s = nI p → ((sP_ t n p).1 = true → sF_ t n p s D') → K (some (.int (if (sP_ t n p).1 = true then 1 else 0))) (ax_S D' E))) := propext ⟨fun ⟨p1', D', E', h1, h2, h3⟩ => by cases h1; obtain ⟨rfl, rfl⟩ := ax_S_inj h2; exact h3, fun h => ⟨p1, D, E, rfl, rfl, h⟩⟩
/-- AskewLetters$Book.here()I -/
def cy_4f : ax_P1 := fun as z K => ∃ (D : ax_Dn) (E : ax_En), as = [.ref 43] ∧ z = ax_S D E ∧ (tp_ D (D 43 1).toNatClampNeg (D 43 2).toNatClampNeg ∧ K (some (.int (hr_ (D 44) (D 43 1).toNatClampNeg (D 43 2).toNatClampNeg))) (ax_S D E))
theorem ry_4f  (D : ax_Dn) (E : ax_En) (K : ax_Po) : cy_4f [.ref 43] (ax_S D E) K = (tp_ D (D 43 1).toNatClampNeg (D 43 2).toNatClampNeg ∧ K (some (.int (hr_ (D 44) (D 43 1).toNatClampNeg (D 43 2).toNatClampNeg))) (ax_S D E)) := propext ⟨fun ⟨D', E', h1, h2, h3⟩ => by cases h1; obtain ⟨rfl, rfl⟩ := ax_S_inj h2; exact h3, fun h => ⟨D, E, rfl, rfl, h⟩⟩
theorem sy_4f {g : ax_G} : ∀ as z K, cy_4f as z K → ax_MM g 4 as z K := by
  rintro _ _ K ⟨D, E, rfl, rfl, h1, h2⟩
  exact sy_4h _ _ _ ⟨D, E, rfl, rfl, _, _, h1, h2⟩
theorem q_k {S : List Nat} {s : Nat} {D D' : ax_Dn} {x i : Nat} (h : q_ S s D D') (hx : ¬ x = 43) (hS : ¬ x ∈ S) : D' x i = D x i := h x i (fun q => hx q.1) (fun q => hS q.1)
theorem bz0 {b : Bool} (h : (if b = true then (1 : Int32) else 0) = 0) : b = false := by
  cases b
  · rfl
  · exact absurd h (by decide)
theorem bz1 {b : Bool} (h : ¬ (if b = true then (1 : Int32) else 0) = 0) : b = true := by
  cases b
  · exact absurd rfl h
  · rfl
abbrev L5 : List Nat := [45, 46, 47, 48, 49]
theorem en_5 {K : ax_Po} {E : ax_En} {D : ax_Dn} {t : Nat → Int32} {n p s : Nat} {l : Int32} {ok : Bool} {q : Nat} (hl : hr_ t n p = l) (hL : lt_ l) (h : ∀ D', q_ L5 s D D' → tq_ D' t n (sP_ t n p).2 → D' 45 s = nI p → ((sP_ t n p).1 = true → sF_ t n p s D') → K (some (.int (if (sP_ t n p).1 = true then 1 else 0))) (ax_S D' E)) (e : iP_ t n l (p + 1) = (ok, q)) :
    (ok = false ∨ ¬ byt t n q 59 → ∀ D', q_ L5 s D D' → tq_ D' t n q → D' 45 s = nI p → K (some (.int 0)) (ax_S D' E)) ∧ (ok = true → byt t n q 59 → ∀ D', q_ L5 s D D' → tq_ D' t n (q + 1) → D' 45 s = nI p → sF_ t n p s D' → K (some (.int 1)) (ax_S D' E)) := by
  constructor
  · intro o D' Q T F
    have e' : sP_ t n p = (false, q) := by
      unfold sP_
      rw [hl, if_pos hL, e]
      cases ok
      · simp only [Bool.false_eq_true, ↓reduceIte]
      · simp only [↓reduceIte]
        rw [if_neg (o.elim (fun z => absurd z (by decide)) (fun z => z))]
    rw [e'] at h
    exact h D' Q T F (fun z => absurd z Bool.false_ne_true)
  · intro o b D' Q T F S
    have e' : sP_ t n p = (true, q + 1) := by
      unfold sP_
      rw [hl, if_pos hL, e, o]
      simp only [↓reduceIte]
      rw [if_pos b]
    rw [e'] at h
    exact h D' Q T F (fun _ => S)
theorem ta_5 {K : ax_Po} {E : ax_En} {D : ax_Dn} {t : Nat → Int32} {n p s : Nat} {ok : Bool} {q : Nat} (H : (ok = false ∨ ¬ byt t n q 59 → ∀ D', q_ L5 s D D' → tq_ D' t n q → D' 45 s = nI p → K (some (.int 0)) (ax_S D' E)) ∧ (ok = true → byt t n q 59 → ∀ D', q_ L5 s D D' → tq_ D' t n (q + 1) → D' 45 s = nI p → sF_ t n p s D' → K (some (.int 1)) (ax_S D' E))) (o : ok = true) (D1 : ax_Dn) (Q : q_ L5 s D D1) (T : tq_ D1 t n q) (F : D1 45 s = nI p) (S : sF_ t n p s D1) :
    ∃ n p, tp_ D1 n p ∧ (byt (D1 44) n p 59 → K (some (.int 1)) (ax_S (ax_up D1 43 (ax_up (D1 43) 2 (nI (p + 1)))) E)) ∧ (¬ byt (D1 44) n p 59 → K (some (.int 0)) (ax_S D1 E)) := by
  refine ⟨n, q, T.2, fun b => ?_, fun b => ?_⟩
  · rw [T.1] at b
    exact H.2 o b _ (q_43 Q (fun y a b => by rw [ax_up_n _ _ a])) ⟨T.1, T.2.1, rfl, T.2.2.2.1, b.1⟩ F S
  · rw [T.1] at b
    exact H.1 (Or.inr b) _ Q T F
theorem sf109 {t : Nat → Int32} {n p s : Nat} {D : ax_Dn} (h : t p = 109) (a : D 49 s = (nu_ t n 2 (p + 1) 0).2) : sF_ t n p s D := by
  unfold sF_
  rw [h]
  exact ⟨fun _ => a, fun q => absurd q (by decide), fun q => absurd q (by decide), fun q => absurd q (by decide), fun q => absurd q (by decide), fun q => absurd q (by decide)⟩
theorem sf107 {t : Nat → Int32} {n p s : Nat} {D : ax_Dn} (h : t p = 107) (a : D 47 s = t (p + 1) - 48) (b : D 49 s = lV_ t (p + 2)) : sF_ t n p s D := by
  unfold sF_
  rw [h]
  exact ⟨fun q => absurd q (by decide), fun _ => ⟨a, b⟩, fun q => absurd q (by decide), fun q => absurd q (by decide), fun q => absurd q (by decide), fun q => absurd q (by decide)⟩
theorem sf98 {t : Nat → Int32} {n p s : Nat} {D : ax_Dn} (h : t p = 98) (a : D 46 s = t (p + 1) - 48) (b : D 47 s = t (p + 2) - 48) (c : D 48 s = (nu_ t n 3 (p + 4) 0).2) (d : D 49 s = lV_ t (bP_ t n (p + 1)).2) : sF_ t n p s D := by
  unfold sF_
  rw [h]
  exact ⟨fun q => absurd q (by decide), fun q => absurd q (by decide), fun _ => ⟨a, b, c⟩, fun _ => d, fun q => absurd q (by decide), fun q => absurd q (by decide)⟩
theorem sf115 {t : Nat → Int32} {n p s : Nat} {D : ax_Dn} (h : t p = 115) (a : D 46 s = t (p + 1) - 48) (b : D 47 s = t (p + 2) - 48) (c : D 48 s = (nu_ t n 3 (p + 4) 0).2) : sF_ t n p s D := by
  unfold sF_
  rw [h]
  exact ⟨fun q => absurd q (by decide), fun q => absurd q (by decide), fun _ => ⟨a, b, c⟩, fun q => absurd q (by decide), fun q => absurd q (by decide), fun q => absurd q (by decide)⟩
theorem sf110 {t : Nat → Int32} {n p s : Nat} {D : ax_Dn} (h : t p = 110) (a : D 46 s = t (p + 1) - 48) (b : D 47 s = t (p + 2) - 48) (c : D 48 s = (nu_ t n 3 (p + 4) 0).2) (d : D 49 s = t ((bP_ t n (p + 1)).2 + 1) - 48) : sF_ t n p s D := by
  unfold sF_
  rw [h]
  exact ⟨fun q => absurd q (by decide), fun q => absurd q (by decide), fun _ => ⟨a, b, c⟩, fun q => absurd q (by decide), fun _ => d, fun q => absurd q (by decide)⟩
theorem sf99 {t : Nat → Int32} {n p s : Nat} {D : ax_Dn} (h : t p = 99) (a : D 46 s = t (p + 1) - 48) (b : D 49 s = t (p + 2) - 48) : sF_ t n p s D := by
  unfold sF_
  rw [h]
  exact ⟨fun q => absurd q (by decide), fun q => absurd q (by decide), fun q => absurd q (by decide), fun q => absurd q (by decide), fun q => absurd q (by decide), fun _ => ⟨a, b⟩⟩
set_option maxRecDepth 10000 in
theorem sy_5 {g : ax_G} : ∀ as z K, cy_5 as z K → ax_MM g 5 as z K := by
  rintro _ _ K ⟨p1, D, E, rfl, rfl, h⟩
  refine ax_go5 _ _ ?_
  obtain ⟨t, n, p, s, ⟨rfl, ht⟩, rfl, hs, h⟩ := h
  have c1 : (nI s).toNatClampNeg = s := nI_clamp (by omega)
  have c2 : vp_in (nI s) 22 := vp_in_nI hs (by omega)
  have h1 := ht.1
  have h2 := ht.2.1
  have q1 : (nI n).toNatClampNeg = n := nI_clamp (by have := ht.2.2; omega)
  have q2 : (nI p).toNatClampNeg = p := nI_clamp (by have := ht.2.2; omega)
  have h3 : nI p + 1 = nI (p + 1) := nI_1 p
  have Q0 : q_ [45] s D (ax_up (ax_up D 43 (ax_up (D 43) 2 (nI (p + 1)))) 45 (ax_up (D 45) s (nI p))) := q_up (q_43 q_rf (fun y a b => by rw [ax_up_n _ _ a])) 45 (by decide) _
  have F0 : (ax_up (ax_up D 43 (ax_up (D 43) 2 (nI (p + 1)))) 45 (ax_up (D 45) s (nI p))) 45 s = nI p := by rw [ax_up_s, ax_up_s]
  refine ax_WPo (l := [(4, cy_4f), (6, cy_6b), (7, cy_7), (8, cy_8), (9, cy_9), (10, cy_10), (11, cy_11), (12, cy_12)]) (ax_oc sy_4f (ax_oc sy_6b (ax_oc sy_7 (ax_oc sy_8 (ax_oc sy_9 (ax_oc sy_10 (ax_oc sy_11 (ax_oc sy_12 ax_on)))))))) ax_ok5 (fun _ => false) 400 0 rfl ?_
  simp +decide only [↓ax_B, ax_B, ax_kds, ax_gvs, ax_mcs, ax_ia_S, ax_up_ap, ax_vinL, and_self_left, ax_up_up, ax_up_sw, Nat.reduceAdd, Nat.reduceBEq, Nat.reduceLeDiff, Nat.reduceLT, Nat.reduceEqDiff, ↓reduceIte, true_and, and_true, List.cons_append, List.nil_append, Int32.reduceLT, Int32.reduceLE, Int32.reduceAdd, Int32.reduceToNatClampNeg, Int32.reduceOfNat, true_imp_iff, false_imp_iff, not_true_eq_false, not_false_eq_true, or_true, true_or, or_false, false_or, and_self, Bool.or_true, Bool.or_false, Bool.true_or, Bool.false_or, implies_true, forall_const, Bool.false_eq_true, Int32.neg_neg, ax_X5, ry_4f, ry_6b, ry_7, ry_8, ry_9, ry_10, ry_11, ry_12, c1,h1,h2,h3,q1,q2]
  refine ⟨ht, c2, ?_⟩
  by_cases l0 : hr_ (D 44) n p = 109
  · have b0 : byt (D 44) n p 109 := (hr_b (by decide)).mpr l0
    have T0 : tq_ (ax_up (ax_up D 43 (ax_up (D 43) 2 (nI (p + 1)))) 45 (ax_up (D 45) s (nI p))) (D 44) n (p + 1) := ⟨rfl, ht.1, rfl, ht.2.2.1, b0.1⟩
    simp (decide := true) only [l0, not_false_eq_true, not_true_eq_false, true_and, and_true, true_implies, false_implies, and_self, ↓reduceIte]
    refine ⟨n, p + 1, T0.2, c2, fun z => ?_, fun z => ?_⟩
    · have z' : (nu_ (D 44) n 2 (p + 1) 0).1 = p + 1 := by
        by_cases q : (nu_ (D 44) n 2 (p + 1) 0).1 = p + 1
        · exact q
        · rw [if_neg q] at z; exact absurd z (by decide)
      have H := en_5 (ok := false) (q := (nu_ (D 44) n 2 (p + 1) 0).1) l0 (Or.inl rfl) h (by unfold iP_; rw [if_pos rfl, if_pos z', z'] <;> rfl)
      exact H.1 (Or.inl rfl) _ (q_up (q_up (q_43 q_rf (fun y a b => by rw [ax_up_n _ _ b, ax_up_n _ _ a])) 45 (by decide) _) 49 (by decide) _) ⟨rfl, ht.1, rfl, ht.2.2.1, (nu_le (D 44) n 2 (p + 1) 0).2.2 b0.1⟩ (by rw [ax_up_n _ _ (by decide), ax_up_s, ax_up_s])
    · have z' : ¬ (nu_ (D 44) n 2 (p + 1) 0).1 = p + 1 := fun q => z (by rw [if_pos q])
      have H := en_5 (ok := true) (q := (nu_ (D 44) n 2 (p + 1) 0).1) l0 (Or.inl rfl) h (by unfold iP_; rw [if_pos rfl, if_neg z'] <;> rfl)
      refine ⟨n, (nu_ (D 44) n 2 (p + 1) 0).1, ⟨ht.1, rfl, ht.2.2.1, (nu_le (D 44) n 2 (p + 1) 0).2.2 b0.1⟩, fun b => ?_, fun b => ?_⟩
      · exact H.2 rfl b _ (q_up (q_up (q_43 q_rf (fun y a b => by rw [ax_up_n _ _ b, ax_up_n _ _ a])) 45 (by decide) _) 49 (by decide) _) ⟨rfl, ht.1, rfl, ht.2.2.1, b.1⟩ (by rw [ax_up_n _ _ (by decide), ax_up_s, ax_up_s]) (sf109 b0.2 (by rw [ax_up_s, ax_up_s]))
      · exact H.1 (Or.inr b) _ (q_up (q_up (q_43 q_rf (fun y a b => by rw [ax_up_n _ _ b, ax_up_n _ _ a])) 45 (by decide) _) 49 (by decide) _) ⟨rfl, ht.1, rfl, ht.2.2.1, (nu_le (D 44) n 2 (p + 1) 0).2.2 b0.1⟩ (by rw [ax_up_n _ _ (by decide), ax_up_s, ax_up_s])
  by_cases l1 : hr_ (D 44) n p = 107
  · have b0 : byt (D 44) n p 107 := (hr_b (by decide)).mpr l1
    have T0 : tq_ (ax_up (ax_up D 43 (ax_up (D 43) 2 (nI (p + 1)))) 45 (ax_up (D 45) s (nI p))) (D 44) n (p + 1) := ⟨rfl, ht.1, rfl, ht.2.2.1, b0.1⟩
    simp (decide := true) only [l1, not_false_eq_true, not_true_eq_false, true_and, and_true, true_implies, false_implies, and_self, ↓reduceIte]
    refine ⟨D 44, n, p + 1, s, T0, rfl, hs, fun d D1 q1 t1 f1 => ⟨D 44, n, p + 2, s, t1, rfl, hs, fun D2 q2 t2 f2 => ?_⟩, fun d D1 q1 t1 => ?_⟩
    · have H := en_5 (ok := (lP_ (D 44) n (p + 2)).1) (q := (lP_ (D 44) n (p + 2)).2) l1 (Or.inr (Or.inl rfl)) h (by unfold iP_; rw [if_neg (by decide), if_pos rfl, if_pos d] <;> rfl)
      have Q : q_ L5 s D D2 := q_tr (q_tr Q0 q1 (T := [45, 47]) (by decide) (by decide)) q2 (by decide) (by decide)
      have F : D2 45 s = nI p := (q_k q2 (by decide) (by decide)).trans ((q_k q1 (by decide) (by decide)).trans F0)
      exact ⟨fun z => H.1 (Or.inl (bz0 z)) _ Q t2 F, fun z => ta_5 H (bz1 z) _ Q t2 F (sf107 b0.2 ((q_k q2 (by decide) (by decide)).trans f1) (f2 (bz1 z)))⟩
    · have H := en_5 (ok := false) (q := p + 1) l1 (Or.inr (Or.inl rfl)) h (by unfold iP_; rw [if_neg (by decide), if_pos rfl, if_neg d] <;> rfl)
      exact H.1 (Or.inl rfl) _ (q_tr Q0 q1 (by decide) (by decide)) t1 ((q_k q1 (by decide) (by decide)).trans F0)
  by_cases l2 : hr_ (D 44) n p = 98
  · have b0 : byt (D 44) n p 98 := (hr_b (by decide)).mpr l2
    have T0 : tq_ (ax_up (ax_up D 43 (ax_up (D 43) 2 (nI (p + 1)))) 45 (ax_up (D 45) s (nI p))) (D 44) n (p + 1) := ⟨rfl, ht.1, rfl, ht.2.2.1, b0.1⟩
    simp (decide := true) only [l2, not_false_eq_true, not_true_eq_false, true_and, and_true, true_implies, false_implies, and_self, ↓reduceIte]
    refine ⟨D 44, n, p + 1, s, T0, rfl, hs, fun D1 q1 t1 f1 => ⟨fun z => ?_, fun z => ⟨D 44, n, (bP_ (D 44) n (p + 1)).2, s, t1, rfl, hs, fun D2 q2 t2 f2 => ?_⟩⟩⟩
    · have H := en_5 (ok := false) (q := (bP_ (D 44) n (p + 1)).2) l2 (Or.inr (Or.inr (Or.inl rfl))) h (by unfold iP_; rw [if_neg (by decide), if_neg (by decide), if_pos rfl, if_neg (by rw [bz0 z]; decide)] <;> rfl)
      exact H.1 (Or.inl rfl) _ (q_tr Q0 q1 (by decide) (by decide)) t1 ((q_k q1 (by decide) (by decide)).trans F0)
    · have H := en_5 (ok := (lP_ (D 44) n (bP_ (D 44) n (p + 1)).2).1) (q := (lP_ (D 44) n (bP_ (D 44) n (p + 1)).2).2) l2 (Or.inr (Or.inr (Or.inl rfl))) h (by unfold iP_; rw [if_neg (by decide), if_neg (by decide), if_pos rfl, if_pos (bz1 z)] <;> rfl)
      obtain ⟨m1, m2, m3⟩ := f1 (bz1 z)
      have Q : q_ L5 s D D2 := q_tr (q_tr Q0 q1 (T := [45, 46, 47, 48]) (by decide) (by decide)) q2 (by decide) (by decide)
      have F : D2 45 s = nI p := (q_k q2 (by decide) (by decide)).trans ((q_k q1 (by decide) (by decide)).trans F0)
      exact ⟨fun z => H.1 (Or.inl (bz0 z)) _ Q t2 F, fun z => ta_5 H (bz1 z) _ Q t2 F (sf98 b0.2 ((q_k q2 (by decide) (by decide)).trans m1) ((q_k q2 (by decide) (by decide)).trans m2) ((q_k q2 (by decide) (by decide)).trans m3) (f2 (bz1 z)))⟩
  by_cases l3 : hr_ (D 44) n p = 115
  · have b0 : byt (D 44) n p 115 := (hr_b (by decide)).mpr l3
    have T0 : tq_ (ax_up (ax_up D 43 (ax_up (D 43) 2 (nI (p + 1)))) 45 (ax_up (D 45) s (nI p))) (D 44) n (p + 1) := ⟨rfl, ht.1, rfl, ht.2.2.1, b0.1⟩
    simp (decide := true) only [l3, not_false_eq_true, not_true_eq_false, true_and, and_true, true_implies, false_implies, and_self, ↓reduceIte]
    refine ⟨D 44, n, p + 1, s, T0, rfl, hs, fun D1 q1 t1 f1 => ?_⟩
    have H := en_5 (ok := (bP_ (D 44) n (p + 1)).1) (q := (bP_ (D 44) n (p + 1)).2) l3 (Or.inr (Or.inr (Or.inr (Or.inl rfl)))) h (by unfold iP_; rw [if_neg (by decide), if_neg (by decide), if_neg (by decide), if_pos rfl] <;> rfl)
    have Q : q_ L5 s D D1 := q_tr Q0 q1 (by decide) (by decide)
    have F : D1 45 s = nI p := (q_k q1 (by decide) (by decide)).trans F0
    exact ⟨fun z => H.1 (Or.inl (bz0 z)) _ Q t1 F, fun z => ta_5 H (bz1 z) _ Q t1 F (sf115 b0.2 (f1 (bz1 z)).1 (f1 (bz1 z)).2.1 (f1 (bz1 z)).2.2)⟩
  by_cases l4 : hr_ (D 44) n p = 110
  · have b0 : byt (D 44) n p 110 := (hr_b (by decide)).mpr l4
    have T0 : tq_ (ax_up (ax_up D 43 (ax_up (D 43) 2 (nI (p + 1)))) 45 (ax_up (D 45) s (nI p))) (D 44) n (p + 1) := ⟨rfl, ht.1, rfl, ht.2.2.1, b0.1⟩
    simp (decide := true) only [l4, not_false_eq_true, not_true_eq_false, true_and, and_true, true_implies, false_implies, and_self, ↓reduceIte]
    refine ⟨D 44, n, p + 1, s, T0, rfl, hs, fun D1 q1 t1 f1 => ?_⟩
    have Q1 : q_ [45, 46, 47, 48] s D D1 := q_tr Q0 q1 (by decide) (by decide)
    have F1 : D1 45 s = nI p := (q_k q1 (by decide) (by decide)).trans F0
    refine ⟨fun z => ?_, fun z => ⟨n, (bP_ (D 44) n (p + 1)).2, t1.2, fun b => ⟨D 44, n, (bP_ (D 44) n (p + 1)).2 + 1, s, ⟨t1.1, t1.2.1, rfl, ht.2.2.1, b.1⟩, rfl, hs, fun d D2 q2 t2 f2 => ?_, fun d D2 q2 t2 => ?_⟩, fun b => ?_⟩⟩
    · have H := en_5 (ok := false) (q := (bP_ (D 44) n (p + 1)).2) l4 (Or.inr (Or.inr (Or.inr (Or.inr (Or.inl rfl))))) h (by unfold iP_; rw [if_neg (by decide), if_neg (by decide), if_neg (by decide), if_neg (by decide), if_pos rfl, if_neg (by rw [bz0 z]; decide)] <;> rfl)
      exact H.1 (Or.inl rfl) _ (q_tr Q1 q_rf (S' := []) (by decide) (by decide)) t1 F1
    · rw [t1.1] at b
      have H := en_5 (ok := true) (q := (bP_ (D 44) n (p + 1)).2 + 2) l4 (Or.inr (Or.inr (Or.inr (Or.inr (Or.inl rfl))))) h (by unfold iP_; rw [if_neg (by decide), if_neg (by decide), if_neg (by decide), if_neg (by decide), if_pos rfl, if_pos (bz1 z), if_pos b, if_pos d] <;> rfl)
      obtain ⟨m1, m2, m3⟩ := f1 (bz1 z)
      have Q2 : q_ [45, 46, 47, 48] s D (ax_up D1 43 (ax_up (D1 43) 2 (nI ((bP_ (D 44) n (p + 1)).2 + 1)))) := q_43 Q1 (fun y a b => by rw [ax_up_n _ _ a])
      exact ta_5 H rfl _ (q_tr Q2 q2 (by decide) (by decide)) t2 ((q_k q2 (by decide) (by decide)).trans F1) (sf110 b0.2 ((q_k q2 (by decide) (by decide)).trans m1) ((q_k q2 (by decide) (by decide)).trans m2) ((q_k q2 (by decide) (by decide)).trans m3) f2)
    · rw [t1.1] at b
      have H := en_5 (ok := false) (q := (bP_ (D 44) n (p + 1)).2 + 1) l4 (Or.inr (Or.inr (Or.inr (Or.inr (Or.inl rfl))))) h (by unfold iP_; rw [if_neg (by decide), if_neg (by decide), if_neg (by decide), if_neg (by decide), if_pos rfl, if_pos (bz1 z), if_pos b, if_neg d] <;> rfl)
      have Q2 : q_ [45, 46, 47, 48] s D (ax_up D1 43 (ax_up (D1 43) 2 (nI ((bP_ (D 44) n (p + 1)).2 + 1)))) := q_43 Q1 (fun y a b => by rw [ax_up_n _ _ a])
      exact H.1 (Or.inl rfl) _ (q_tr Q2 q2 (by decide) (by decide)) t2 ((q_k q2 (by decide) (by decide)).trans F1)
    · rw [t1.1] at b
      have H := en_5 (ok := false) (q := (bP_ (D 44) n (p + 1)).2) l4 (Or.inr (Or.inr (Or.inr (Or.inr (Or.inl rfl))))) h (by unfold iP_; rw [if_neg (by decide), if_neg (by decide), if_neg (by decide), if_neg (by decide), if_pos rfl, if_pos (bz1 z), if_neg b] <;> rfl)
      exact H.1 (Or.inl rfl) _ (q_tr Q1 q_rf (S' := []) (by decide) (by decide)) t1 F1
  by_cases l5 : hr_ (D 44) n p = 99
  · have b0 : byt (D 44) n p 99 := (hr_b (by decide)).mpr l5
    have T0 : tq_ (ax_up (ax_up D 43 (ax_up (D 43) 2 (nI (p + 1)))) 45 (ax_up (D 45) s (nI p))) (D 44) n (p + 1) := ⟨rfl, ht.1, rfl, ht.2.2.1, b0.1⟩
    simp (decide := true) only [l5, not_false_eq_true, not_true_eq_false, true_and, and_true, true_implies, false_implies, and_self, ↓reduceIte]
    refine ⟨D 44, n, p + 1, s, T0, rfl, hs, fun d D1 q1 t1 f1 => ⟨D 44, n, p + 2, s, t1, rfl, hs, fun d2 D2 q2 t2 f2 => ?_, fun d2 D2 q2 t2 => ?_⟩, fun d D1 q1 t1 => ?_⟩
    · have H := en_5 (ok := true) (q := p + 3) l5 (Or.inr (Or.inr (Or.inr (Or.inr (Or.inr rfl))))) h (by unfold iP_; rw [if_neg (by decide), if_neg (by decide), if_neg (by decide), if_neg (by decide), if_neg (by decide), if_pos d, if_pos d2] <;> rfl)
      have Q : q_ L5 s D D2 := q_tr (q_tr Q0 q1 (T := [45, 46]) (by decide) (by decide)) q2 (by decide) (by decide)
      have F : D2 45 s = nI p := (q_k q2 (by decide) (by decide)).trans ((q_k q1 (by decide) (by decide)).trans F0)
      exact ta_5 H rfl _ Q t2 F (sf99 b0.2 ((q_k q2 (by decide) (by decide)).trans f1) f2)
    · have H := en_5 (ok := false) (q := p + 2) l5 (Or.inr (Or.inr (Or.inr (Or.inr (Or.inr rfl))))) h (by unfold iP_; rw [if_neg (by decide), if_neg (by decide), if_neg (by decide), if_neg (by decide), if_neg (by decide), if_pos d, if_neg d2] <;> rfl)
      have Q : q_ L5 s D D2 := q_tr (q_tr Q0 q1 (T := [45, 46]) (by decide) (by decide)) q2 (by decide) (by decide)
      exact H.1 (Or.inl rfl) _ Q t2 ((q_k q2 (by decide) (by decide)).trans ((q_k q1 (by decide) (by decide)).trans F0))
    · have H := en_5 (ok := false) (q := p + 1) l5 (Or.inr (Or.inr (Or.inr (Or.inr (Or.inr rfl))))) h (by unfold iP_; rw [if_neg (by decide), if_neg (by decide), if_neg (by decide), if_neg (by decide), if_neg (by decide), if_neg d] <;> rfl)
      exact H.1 (Or.inl rfl) _ (q_tr Q0 q1 (by decide) (by decide)) t1 ((q_k q1 (by decide) (by decide)).trans F0)
  · simp (decide := true) only [l0, l1, l2, l3, l4, l5, not_false_eq_true, not_true_eq_false, true_and, and_true, true_implies, false_implies, and_self, ↓reduceIte]
    have e : sP_ (D 44) n p = (false, p) := by
      unfold sP_
      rw [if_neg (fun z => z.elim l0 (fun z => z.elim l1 (fun z => z.elim l2 (fun z => z.elim l3 (fun z => z.elim l4 l5)))))]
    rw [e] at h
    exact h _ (q_up q_rf 45 (by decide) _) ⟨rfl, ht⟩ (by rw [ax_up_s, ax_up_s]) (fun z => absurd z Bool.false_ne_true)
