/-! The class's days and odds. -/
theorem up_all {α : Type} {f h : Nat → α} {k : Nat} {v : α} (h0 : ∀ t, t < k → h t = f t) (hv : v = f k) : ∀ t, t < k + 1 → ax_up h k v t = f t := by
  intro t ht
  by_cases q : t = k
  · subst q; rw [ax_up_s]; exact hv
  · rw [ax_up_n _ _ q]; exact h0 t (by omega)
/-- the first day near the best -/
def fr_ (f : Nat → Int64) (b : Nat) : Nat → Nat → Nat
  | 0, _ => b
  | j + 1, k => if f b ≤ 2 * f k then k else fr_ f b j (k + 1)
def la_ (f : Nat → Int64) (b : Nat) : Nat → Nat
  | 0 => b
  | j + 1 => if f b ≤ 2 * f (b + (j + 1)) then b + (j + 1) else la_ f b j
theorem lp_21 {g : ax_G} {K : ax_Po} {D : ax_Dn} {E : ax_En} (b : Nat) (hb : b ≤ 36) : ∀ (j k : Nat), k + j = b → K (some (.int (nI (fr_ (E 55) b j k)))) (ax_S D E) → ax_WP g (ax_hy 21) K 92 92 7 [some (.ref 54), some (.int (nI b)), some (.int (nI k))] [] (ax_S D E) := by
  intro j
  induction j with
  | zero =>
    intro k hk h
    have hc : nI b ≤ nI k := nI_le (by omega) (by omega)
    refine ax_WPo (l := [(20, cy_20)]) (ax_oc sy_20 ax_on) ax_ok21 (fun t => t == 7) 400 7 rfl ?_
    simp +decide only [↓ax_B, ax_B, ax_kds, ax_gvs, ax_mcs, ax_ia_S, ax_up_ap, ax_vinL, and_self_left, ax_up_up, ax_up_sw, Nat.reduceAdd, Nat.reduceBEq, Nat.reduceLeDiff, Nat.reduceLT, Nat.reduceEqDiff, ↓reduceIte, true_and, and_true, List.cons_append, List.nil_append, Int32.reduceLT, Int32.reduceLE, Int32.reduceAdd, Int32.reduceToNatClampNeg, Int32.reduceOfNat, true_imp_iff, false_imp_iff, not_true_eq_false, not_false_eq_true, or_true, true_or, or_false, false_or, and_self, Bool.or_true, Bool.or_false, Bool.true_or, Bool.false_or, implies_true, forall_const, Bool.false_eq_true, Int32.neg_neg, ax_X21, ry_20, hc]
    exact h
  | succ j ih =>
    intro k hk h
    have hc : ¬ nI b ≤ nI k := nI_ge (by omega) (by omega)
    have h1 : vp_in (nI k) 37 := vp_in_nI (by omega) (by omega)
    have h2 : (nI k).toNatClampNeg = k := nI_clamp (by omega)
    have h1' : vp_in (nI b) 37 := vp_in_nI (by omega) (by omega)
    have h2' : (nI b).toNatClampNeg = b := nI_clamp (by omega)
    have h3 : nI k + 1 = nI (k + 1) := nI_1 _
    unfold fr_ at h
    refine ax_WPo (l := [(20, cy_20)]) (ax_oc sy_20 ax_on) ax_ok21 (fun t => t == 7) 400 7 rfl ?_
    simp +decide only [↓ax_B, ax_B, ax_kds, ax_gvs, ax_mcs, ax_ia_S, ax_up_ap, ax_vinL, and_self_left, ax_up_up, ax_up_sw, Nat.reduceAdd, Nat.reduceBEq, Nat.reduceLeDiff, Nat.reduceLT, Nat.reduceEqDiff, ↓reduceIte, true_and, and_true, List.cons_append, List.nil_append, Int32.reduceLT, Int32.reduceLE, Int32.reduceAdd, Int32.reduceToNatClampNeg, Int32.reduceOfNat, true_imp_iff, false_imp_iff, not_true_eq_false, not_false_eq_true, or_true, true_or, or_false, false_or, and_self, Bool.or_true, Bool.or_false, Bool.true_or, Bool.false_or, implies_true, forall_const, Bool.false_eq_true, Int32.neg_neg, ax_X21, ry_20, hc, h1, h2, h1', h2', h3, cm_lt0]
    refine ⟨fun c => ?_, fun c => ?_⟩
    · rw [if_neg (Int64.not_le.mpr c)] at h
      exact ih (k + 1) (by omega) h
    · rw [if_pos (Int64.not_lt.mp c)] at h
      exact h
/-- AskewLetters$Days.firstNear()I -/
def cy_21 : ax_P1 := fun as z K => ∃ (D : ax_Dn) (E : ax_En), as = [.ref 54] ∧ z = ax_S D E ∧ (K (some (.int (nI (fr_ (E 55) (be_ (E 55) 36) (be_ (E 55) 36) 0)))) (ax_S D E))
theorem ry_21  (D : ax_Dn) (E : ax_En) (K : ax_Po) : cy_21 [.ref 54] (ax_S D E) K = (K (some (.int (nI (fr_ (E 55) (be_ (E 55) 36) (be_ (E 55) 36) 0)))) (ax_S D E)) := propext ⟨fun ⟨D', E', h1, h2, h3⟩ => by cases h1; obtain ⟨rfl, rfl⟩ := ax_S_inj h2; exact h3, fun h => ⟨D, E, rfl, rfl, h⟩⟩
theorem sy_21 {g : ax_G} : ∀ as z K, cy_21 as z K → ax_MM g 21 as z K := by
  rintro _ _ K ⟨D, E, rfl, rfl, h⟩
  refine ax_go21 _ ?_
  refine ax_WPo (l := [(20, cy_20)]) (ax_oc sy_20 ax_on) ax_ok21 (fun t => t == 7) 400 0 rfl ?_
  simp +decide only [↓ax_B, ax_B, ax_kds, ax_gvs, ax_mcs, ax_ia_S, ax_up_ap, ax_vinL, and_self_left, ax_up_up, ax_up_sw, Nat.reduceAdd, Nat.reduceBEq, Nat.reduceLeDiff, Nat.reduceLT, Nat.reduceEqDiff, ↓reduceIte, true_and, and_true, List.cons_append, List.nil_append, Int32.reduceLT, Int32.reduceLE, Int32.reduceAdd, Int32.reduceToNatClampNeg, Int32.reduceOfNat, true_imp_iff, false_imp_iff, not_true_eq_false, not_false_eq_true, or_true, true_or, or_false, false_or, and_self, Bool.or_true, Bool.or_false, Bool.true_or, Bool.false_or, implies_true, forall_const, Bool.false_eq_true, Int32.neg_neg, ax_X21, ry_20]
  exact lp_21 _ (be_le _ 36) _ 0 (by omega) h
theorem lp_22 {g : ax_G} {K : ax_Po} {D : ax_Dn} {E : ax_En} (b : Nat) : ∀ (j : Nat), b + j ≤ 36 → K (some (.int (nI (la_ (E 55) b j)))) (ax_S D E) → ax_WP g (ax_hy 22) K 92 92 8 [some (.ref 54), some (.int (nI b)), some (.int (nI (b + j)))] [] (ax_S D E) := by
  intro j
  induction j with
  | zero =>
    intro hk h
    have hc : nI b ≤ nI b := nI_le (by omega) (by omega)
    refine ax_WPo (l := [(20, cy_20)]) (ax_oc sy_20 ax_on) ax_ok22 (fun t => t == 8) 400 8 rfl ?_
    simp +decide only [↓ax_B, ax_B, ax_kds, ax_gvs, ax_mcs, ax_ia_S, ax_up_ap, ax_vinL, and_self_left, ax_up_up, ax_up_sw, Nat.reduceAdd, Nat.reduceBEq, Nat.reduceLeDiff, Nat.reduceLT, Nat.reduceEqDiff, ↓reduceIte, true_and, and_true, List.cons_append, List.nil_append, Int32.reduceLT, Int32.reduceLE, Int32.reduceAdd, Int32.reduceToNatClampNeg, Int32.reduceOfNat, true_imp_iff, false_imp_iff, not_true_eq_false, not_false_eq_true, or_true, true_or, or_false, false_or, and_self, Bool.or_true, Bool.or_false, Bool.true_or, Bool.false_or, implies_true, forall_const, Bool.false_eq_true, Int32.neg_neg, ax_X22, ry_20, hc, Nat.add_zero]
    exact h
  | succ j ih =>
    intro hk h
    have hc : ¬ nI (b + (j + 1)) ≤ nI b := nI_ge (by omega) (by omega)
    have h1 : vp_in (nI (b + (j + 1))) 37 := vp_in_nI (by omega) (by omega)
    have h2 : (nI (b + (j + 1))).toNatClampNeg = b + (j + 1) := nI_clamp (by omega)
    have h1' : vp_in (nI b) 37 := vp_in_nI (by omega) (by omega)
    have h2' : (nI b).toNatClampNeg = b := nI_clamp (by omega)
    have h3 : nI (b + (j + 1)) + -1 = nI (b + j) := by
      rw [← Int32.sub_eq_add_neg]
      exact nI_pred (b + j)
    unfold la_ at h
    refine ax_WPo (l := [(20, cy_20)]) (ax_oc sy_20 ax_on) ax_ok22 (fun t => t == 8) 400 8 rfl ?_
    simp +decide only [↓ax_B, ax_B, ax_kds, ax_gvs, ax_mcs, ax_ia_S, ax_up_ap, ax_vinL, and_self_left, ax_up_up, ax_up_sw, Nat.reduceAdd, Nat.reduceBEq, Nat.reduceLeDiff, Nat.reduceLT, Nat.reduceEqDiff, ↓reduceIte, true_and, and_true, List.cons_append, List.nil_append, Int32.reduceLT, Int32.reduceLE, Int32.reduceAdd, Int32.reduceToNatClampNeg, Int32.reduceOfNat, true_imp_iff, false_imp_iff, not_true_eq_false, not_false_eq_true, or_true, true_or, or_false, false_or, and_self, Bool.or_true, Bool.or_false, Bool.true_or, Bool.false_or, implies_true, forall_const, Bool.false_eq_true, Int32.neg_neg, ax_X22, ry_20, hc, h1, h2, h1', h2', h3, cm_lt0]
    refine ⟨fun c => ?_, fun c => ?_⟩
    · rw [if_neg (Int64.not_le.mpr c)] at h
      exact ih (by omega) h
    · rw [if_pos (Int64.not_lt.mp c)] at h
      exact h
/-- AskewLetters$Days.lastNear()I -/
def cy_22 : ax_P1 := fun as z K => ∃ (D : ax_Dn) (E : ax_En), as = [.ref 54] ∧ z = ax_S D E ∧ (K (some (.int (nI (la_ (E 55) (be_ (E 55) 36) (36 - be_ (E 55) 36))))) (ax_S D E))
theorem ry_22  (D : ax_Dn) (E : ax_En) (K : ax_Po) : cy_22 [.ref 54] (ax_S D E) K = (K (some (.int (nI (la_ (E 55) (be_ (E 55) 36) (36 - be_ (E 55) 36))))) (ax_S D E)) := propext ⟨fun ⟨D', E', h1, h2, h3⟩ => by cases h1; obtain ⟨rfl, rfl⟩ := ax_S_inj h2; exact h3, fun h => ⟨D, E, rfl, rfl, h⟩⟩
theorem sy_22 {g : ax_G} : ∀ as z K, cy_22 as z K → ax_MM g 22 as z K := by
  rintro _ _ K ⟨D, E, rfl, rfl, h⟩
  refine ax_go22 _ ?_
  have hb := be_le (E 55) 36
  have e : (36 : Int32) = nI (be_ (E 55) 36 + (36 - be_ (E 55) 36)) := by rw [show be_ (E 55) 36 + (36 - be_ (E 55) 36) = 36 by omega]; decide
  refine ax_WPo (l := [(20, cy_20)]) (ax_oc sy_20 ax_on) ax_ok22 (fun t => t == 8) 400 0 rfl ?_
  simp +decide only [↓ax_B, ax_B, ax_kds, ax_gvs, ax_mcs, ax_ia_S, ax_up_ap, ax_vinL, and_self_left, ax_up_up, ax_up_sw, Nat.reduceAdd, Nat.reduceBEq, Nat.reduceLeDiff, Nat.reduceLT, Nat.reduceEqDiff, ↓reduceIte, true_and, and_true, List.cons_append, List.nil_append, Int32.reduceLT, Int32.reduceLE, Int32.reduceAdd, Int32.reduceToNatClampNeg, Int32.reduceOfNat, true_imp_iff, false_imp_iff, not_true_eq_false, not_false_eq_true, or_true, true_or, or_false, false_or, and_self, Bool.or_true, Bool.or_false, Bool.true_or, Bool.false_or, implies_true, forall_const, Bool.false_eq_true, Int32.neg_neg, ax_X22, ry_20]
  rw [e]
  exact lp_22 _ _ (by omega) h
/-- what a machine, or nobody's, has of the odds by the first n strokes -/
def sh_ (D : ax_Dn) (d : Int32) (n i : Nat) : Int64 := if i < 6 then (if nI i < D 2 0 then (D 3 i).toInt64 * LC D (D 21 1) (nI i) d 0 n else 0) else (D 21 2).toInt64 <<< ((nI (pk_ (D 13) 0 n).length).toInt64 &&& 63)
theorem sm_sh {D D' : ax_Dn} (h : sm D D') : sh_ D' = sh_ D := by
  funext d n i
  unfold sh_
  rw [sm_LC h, sm_at h 2, sm_at h 3, sm_at h 21, sm_at h 13]
theorem lp_44 {g : ax_G} {K : ax_Po} {D : ax_Dn} (hok : okC D) (d p2 : Int32) (n : Nat) (hp : pkd D (pk_ (D 13) 0 n)) (h : ∀ E', (∀ i, i < 7 → E' 53 i = sh_ D d n i) → E' 52 1 = sl_ (sh_ D d n) 7 → K (some (.long (sl_ (sh_ D d n) 7))) (ax_S D E')) :
    ∀ (j k : Nat) (E : ax_En), k + j = 6 → (∀ i, i < k → E 53 i = sh_ D d n i) → E 52 1 = sl_ (sh_ D d n) k → ax_WP g (ax_hy 44) K 92 92 19 [some (.ref 52), some (.ref 1), some (.int p2), some (.int d), some (.int (nI (pk_ (D 13) 0 n).length)), some (.int (nI k))] [] (ax_S D E) := by
  have e6 : (6 : Int32) = nI 6 := by decide
  intro j
  induction j with
  | zero =>
    intro k E hk hE hT
    have hc : (6 : Int32) ≤ nI k := by rw [e6]; exact nI_le (by omega) (by omega)
    obtain rfl : k = 6 := by omega
    have hs : sh_ D d n 6 = (D 21 2).toInt64 <<< ((nI (pk_ (D 13) 0 n).length).toInt64 &&& 63) := by unfold sh_; rw [if_neg (by decide)]
    have hsl : sl_ (sh_ D d n) 7 = sl_ (sh_ D d n) 6 + sh_ D d n 6 := rfl
    refine ax_WPo (l := [(31, cy_31)]) (ax_oc sy_31 ax_on) ax_ok44 (fun t => t == 19) 400 19 rfl ?_
    simp +decide only [↓ax_B, ax_B, ax_kds, ax_gvs, ax_mcs, ax_ia_S, ax_up_ap, ax_vinL, and_self_left, ax_up_up, ax_up_sw, Nat.reduceAdd, Nat.reduceBEq, Nat.reduceLeDiff, Nat.reduceLT, Nat.reduceEqDiff, ↓reduceIte, true_and, and_true, List.cons_append, List.nil_append, Int32.reduceLT, Int32.reduceLE, Int32.reduceAdd, Int32.reduceToNatClampNeg, Int32.reduceOfNat, true_imp_iff, false_imp_iff, not_true_eq_false, not_false_eq_true, or_true, true_or, or_false, false_or, and_self, Bool.or_true, Bool.or_false, Bool.true_or, Bool.false_or, implies_true, forall_const, Bool.false_eq_true, Int32.neg_neg, ax_X44, ry_31, hc]
    rw [hT, ← hs, ← hsl]
    refine h _ (fun i hi => ?_) ?_
    · simp only [ax_up_ap, Nat.reduceEqDiff, ↓reduceIte]
      exact up_all hE rfl i hi
    · simp only [ax_up_ap, Nat.reduceEqDiff, ↓reduceIte]
  | succ j ih =>
    intro k E hk hE hT
    have hc : ¬ (6 : Int32) ≤ nI k := by rw [e6]; exact nI_ge (by omega) (by omega)
    have h1 : vp_in (nI k) 7 := vp_in_nI (by omega) (by omega)
    have h1' : vp_in (nI k) 6 := vp_in_nI (by omega) (by omega)
    have h2 : (nI k).toNatClampNeg = k := nI_clamp (by omega)
    have h3 : nI k + 1 = nI (k + 1) := nI_1 k
    have hsl : sl_ (sh_ D d n) (k + 1) = sl_ (sh_ D d n) k + sh_ D d n k := rfl
    refine ax_WPo (l := [(31, cy_31)]) (ax_oc sy_31 ax_on) ax_ok44 (fun t => t == 19) 400 19 rfl ?_
    simp +decide only [↓ax_B, ax_B, ax_kds, ax_gvs, ax_mcs, ax_ia_S, ax_up_ap, ax_vinL, and_self_left, ax_up_up, ax_up_sw, Nat.reduceAdd, Nat.reduceBEq, Nat.reduceLeDiff, Nat.reduceLT, Nat.reduceEqDiff, ↓reduceIte, true_and, and_true, List.cons_append, List.nil_append, Int32.reduceLT, Int32.reduceLE, Int32.reduceAdd, Int32.reduceToNatClampNeg, Int32.reduceOfNat, true_imp_iff, false_imp_iff, not_true_eq_false, not_false_eq_true, or_true, true_or, or_false, false_or, and_self, Bool.or_true, Bool.or_false, Bool.true_or, Bool.false_or, implies_true, forall_const, Bool.false_eq_true, Int32.neg_neg, ax_X44, ry_31, hc, h1, h1', h2, h3, hok]
    have step : ∀ v, v = sh_ D d n k → ax_WP g (ax_hy 44) K 92 92 19 [some (.ref 52), some (.ref 1), some (.int p2), some (.int d), some (.int (nI (pk_ (D 13) 0 n).length)), some (.int (nI (k + 1)))] [] (ax_S D (ax_up (ax_up E 52 (ax_up (E 52) 1 (E 52 1 + v))) 53 (ax_up (E 53) k v))) := by
      intro v hv
      refine ih (k + 1) _ (by omega) (fun i hi => ?_) ?_
      · simp only [ax_up_ap, Nat.reduceEqDiff, ↓reduceIte]
        exact up_all hE hv i hi
      · simp only [ax_up_ap, Nat.reduceEqDiff, ↓reduceIte]
        rw [hT, hv, hsl]
    refine ⟨fun c => ⟨_, hp.1, hp.2.1, hp.2.2.1, hp.2.2.2, ?_⟩, fun c => ?_⟩
    · refine step _ ?_
      unfold sh_
      rw [if_pos (by omega), if_pos c]
      rfl
    · refine step _ ?_
      unfold sh_
      rw [if_pos (by omega), if_neg c]
/-- AskewLetters$Odds.weigh(LAskewLetters$Desk;II)J -/
def cy_44 : ax_P1 := fun as z K => ∃ (p2 : Int32) (p3 : Int32) (D : ax_Dn) (E : ax_En), as = [.ref 52, .ref 1, .int p2, .int p3] ∧ z = ax_S D E ∧ (okC D ∧ 0 ≤ p2 ∧ p2 ≤ 30 ∧ ∀ D' E', sm1 D D' → (∀ i, i < 7 → E' 53 i = sh_ D p3 p2.toNatClampNeg i) → E' 52 1 = sl_ (sh_ D p3 p2.toNatClampNeg) 7 → K (some (.long (sl_ (sh_ D p3 p2.toNatClampNeg) 7))) (ax_S D' E'))
theorem ry_44 (p2 : Int32) (p3 : Int32) (D : ax_Dn) (E : ax_En) (K : ax_Po) : cy_44 [.ref 52, .ref 1, .int p2, .int p3] (ax_S D E) K = (okC D ∧ 0 ≤ p2 ∧ p2 ≤ 30 ∧ ∀ D' E', sm1 D D' → (∀ i, i < 7 → E' 53 i = sh_ D p3 p2.toNatClampNeg i) → E' 52 1 = sl_ (sh_ D p3 p2.toNatClampNeg) 7 → K (some (.long (sl_ (sh_ D p3 p2.toNatClampNeg) 7))) (ax_S D' E')) := propext ⟨fun ⟨p2', p3', D', E', h1, h2, h3⟩ => by cases h1; obtain ⟨rfl, rfl⟩ := ax_S_inj h2; exact h3, fun h => ⟨p2, p3, D, E, rfl, rfl, h⟩⟩
theorem sy_44 {g : ax_G} : ∀ as z K, cy_44 as z K → ax_MM g 44 as z K := by
  rintro _ _ K ⟨p2, p3, D, E, rfl, rfl, h⟩
  refine ax_go44 _ _ _ _ ?_
  obtain ⟨hok, h1, h2, h⟩ := h
  obtain ⟨n, rfl, q1, q2⟩ := na_of (na_le.mp h1)
  rw [nI_clamp (by omega)] at h
  refine ax_WPo (l := [(51, cy_51s), (31, cy_31)]) (ax_oc sy_51s (ax_oc sy_31 ax_on)) ax_ok44 (fun t => t == 19) 400 0 rfl ?_
  simp +decide only [↓ax_B, ax_B, ax_kds, ax_gvs, ax_mcs, ax_ia_S, ax_up_ap, ax_vinL, and_self_left, ax_up_up, ax_up_sw, Nat.reduceAdd, Nat.reduceBEq, Nat.reduceLeDiff, Nat.reduceLT, Nat.reduceEqDiff, ↓reduceIte, true_and, and_true, List.cons_append, List.nil_append, Int32.reduceLT, Int32.reduceLE, Int32.reduceAdd, Int32.reduceToNatClampNeg, Int32.reduceOfNat, true_imp_iff, false_imp_iff, not_true_eq_false, not_false_eq_true, or_true, true_or, or_false, false_or, and_self, Bool.or_true, Bool.or_false, Bool.true_or, Bool.false_or, implies_true, forall_const, Bool.false_eq_true, Int32.neg_neg, ax_X44, ry_51s, ry_31, nI_clamp (show n < 2 ^ 31 by omega)]
  refine ⟨hok.2.2.2.1, h1, h2, fun D' hs hp => ?_⟩
  have e13 : D' 13 = D 13 := hs.1 13 (by decide) (by decide)
  have := lp_44 (g := g) (K := K) (sm_okC (sm1_sm hs) hok) p3 (nI n) n (by rw [e13]; exact hp) (fun E' hE hT => by
    rw [sm_sh (sm1_sm hs)] at *
    exact h D' E' hs hE hT) 6 0 (ax_up E 52 (ax_up (E 52) 1 0)) (by omega) (fun i hi => absurd hi (Nat.not_lt_zero _)) (by simp only [ax_up_ap, Nat.reduceEqDiff, ↓reduceIte]; rfl)
  rw [e13] at this
  exact this
theorem lp_45 {g : ax_G} {K : ax_Po} {D : ax_Dn} {E : ax_En} (h : K (some (.int (nI (be_ (E 53) 6)))) (ax_S D E)) :
    ∀ (j k : Nat), k + j = 6 → ax_WP g (ax_hy 45) K 92 92 4 [some (.ref 52), some (.int (nI (be_ (E 53) k))), some (.int (nI (k + 1)))] [] (ax_S D E) := by
  have e7 : (7 : Int32) = nI 7 := by decide
  intro j
  induction j with
  | zero =>
    intro k hk
    have hc : (7 : Int32) ≤ nI (k + 1) := by rw [e7]; exact nI_le (by omega) (by omega)
    obtain rfl : k = 6 := by omega
    refine ax_WPo (l := []) ax_on ax_ok45 (fun t => t == 4) 400 4 rfl ?_
    simp +decide only [↓ax_B, ax_B, ax_kds, ax_gvs, ax_mcs, ax_ia_S, ax_up_ap, ax_vinL, and_self_left, ax_up_up, ax_up_sw, Nat.reduceAdd, Nat.reduceBEq, Nat.reduceLeDiff, Nat.reduceLT, Nat.reduceEqDiff, ↓reduceIte, true_and, and_true, List.cons_append, List.nil_append, Int32.reduceLT, Int32.reduceLE, Int32.reduceAdd, Int32.reduceToNatClampNeg, Int32.reduceOfNat, true_imp_iff, false_imp_iff, not_true_eq_false, not_false_eq_true, or_true, true_or, or_false, false_or, and_self, Bool.or_true, Bool.or_false, Bool.true_or, Bool.false_or, implies_true, forall_const, Bool.false_eq_true, Int32.neg_neg, ax_X45, hc]
    exact h
  | succ j ih =>
    intro k hk
    have hc : ¬ (7 : Int32) ≤ nI (k + 1) := by rw [e7]; exact nI_ge (by omega) (by omega)
    have hb := be_le (E 53) k
    have h1 : vp_in (nI (k + 1)) 7 := vp_in_nI (by omega) (by omega)
    have h2 : (nI (k + 1)).toNatClampNeg = k + 1 := nI_clamp (by omega)
    have h1' : vp_in (nI (be_ (E 53) k)) 7 := vp_in_nI (by omega) (by omega)
    have h2' : (nI (be_ (E 53) k)).toNatClampNeg = be_ (E 53) k := nI_clamp (by omega)
    have h3 : nI (k + 1) + 1 = nI (k + 1 + 1) := nI_1 _
    have := ih (k + 1) (by omega)
    unfold be_ at this
    refine ax_WPo (l := []) ax_on ax_ok45 (fun t => t == 4) 400 4 rfl ?_
    simp +decide only [↓ax_B, ax_B, ax_kds, ax_gvs, ax_mcs, ax_ia_S, ax_up_ap, ax_vinL, and_self_left, ax_up_up, ax_up_sw, Nat.reduceAdd, Nat.reduceBEq, Nat.reduceLeDiff, Nat.reduceLT, Nat.reduceEqDiff, ↓reduceIte, true_and, and_true, List.cons_append, List.nil_append, Int32.reduceLT, Int32.reduceLE, Int32.reduceAdd, Int32.reduceToNatClampNeg, Int32.reduceOfNat, true_imp_iff, false_imp_iff, not_true_eq_false, not_false_eq_true, or_true, true_or, or_false, false_or, and_self, Bool.or_true, Bool.or_false, Bool.true_or, Bool.false_or, implies_true, forall_const, Bool.false_eq_true, Int32.neg_neg, ax_X45, hc, h1, h2, h1', h2', h3, cm_le0]
    refine ⟨fun c => ?_, fun c => ?_⟩
    · rw [if_neg (Int64.not_lt.mpr c)] at this
      exact this
    · rw [if_pos (Int64.not_le.mp c)] at this
      exact this
/-- AskewLetters$Odds.greatest()I -/
def cy_45 : ax_P1 := fun as z K => ∃ (D : ax_Dn) (E : ax_En), as = [.ref 52] ∧ z = ax_S D E ∧ (K (some (.int (nI (be_ (E 53) 6)))) (ax_S D E))
theorem ry_45  (D : ax_Dn) (E : ax_En) (K : ax_Po) : cy_45 [.ref 52] (ax_S D E) K = (K (some (.int (nI (be_ (E 53) 6)))) (ax_S D E)) := propext ⟨fun ⟨D', E', h1, h2, h3⟩ => by cases h1; obtain ⟨rfl, rfl⟩ := ax_S_inj h2; exact h3, fun h => ⟨D, E, rfl, rfl, h⟩⟩
theorem sy_45 {g : ax_G} : ∀ as z K, cy_45 as z K → ax_MM g 45 as z K := by
  rintro _ _ K ⟨D, E, rfl, rfl, h⟩
  refine ax_go45 _ ?_
  refine ax_WPo (l := []) ax_on ax_ok45 (fun t => t == 4) 400 0 rfl ?_
  simp +decide only [↓ax_B, ax_B, ax_kds, ax_gvs, ax_mcs, ax_ia_S, ax_up_ap, ax_vinL, and_self_left, ax_up_up, ax_up_sw, Nat.reduceAdd, Nat.reduceBEq, Nat.reduceLeDiff, Nat.reduceLT, Nat.reduceEqDiff, ↓reduceIte, true_and, and_true, List.cons_append, List.nil_append, Int32.reduceLT, Int32.reduceLE, Int32.reduceAdd, Int32.reduceToNatClampNeg, Int32.reduceOfNat, true_imp_iff, false_imp_iff, not_true_eq_false, not_false_eq_true, or_true, true_or, or_false, false_or, and_self, Bool.or_true, Bool.or_false, Bool.true_or, Bool.false_or, implies_true, forall_const, Bool.false_eq_true, Int32.neg_neg, ax_X45]
  exact lp_45 h 6 0 rfl
def hh_ (sh tot : Int64) (h : Int32) : Bool := decide ((h.toInt64 * (tot - tot / 100 * 100) + 99) / 100 ≤ sh - h.toInt64 * (tot / 100))
/-- AskewLetters$Odds.hasHundredths(II)Z -/
def cy_47 : ax_P1 := fun as z K => ∃ (p1 : Int32) (p2 : Int32) (D : ax_Dn) (E : ax_En), as = [.ref 52, .int p1, .int p2] ∧ z = ax_S D E ∧ (vp_in p1 7 ∧ (hh_ (E 53 p1.toNatClampNeg) (E 52 1) p2 = true → K (some (.int 1)) (ax_S D E)) ∧ (hh_ (E 53 p1.toNatClampNeg) (E 52 1) p2 = false → K (some (.int 0)) (ax_S D E)))
theorem ry_47 (p1 : Int32) (p2 : Int32) (D : ax_Dn) (E : ax_En) (K : ax_Po) : cy_47 [.ref 52, .int p1, .int p2] (ax_S D E) K = (vp_in p1 7 ∧ (hh_ (E 53 p1.toNatClampNeg) (E 52 1) p2 = true → K (some (.int 1)) (ax_S D E)) ∧ (hh_ (E 53 p1.toNatClampNeg) (E 52 1) p2 = false → K (some (.int 0)) (ax_S D E))) := propext ⟨fun ⟨p1', p2', D', E', h1, h2, h3⟩ => by cases h1; obtain ⟨rfl, rfl⟩ := ax_S_inj h2; exact h3, fun h => ⟨p1, p2, D, E, rfl, rfl, h⟩⟩
theorem sy_47 {g : ax_G} : ∀ as z K, cy_47 as z K → ax_MM g 47 as z K := by
  rintro _ _ K ⟨p1, p2, D, E, rfl, rfl, h⟩
  refine ax_go47 _ _ _ ?_
  obtain ⟨h1, h⟩ := h
  unfold hh_ at h
  have z100 : ¬ (100 : Int64) = 0 := by decide
  refine ax_WPo (l := []) ax_on ax_ok47 (fun _ => false) 400 0 rfl ?_
  simp +decide only [↓ax_B, ax_B, ax_kds, ax_gvs, ax_mcs, ax_ia_S, ax_up_ap, ax_vinL, and_self_left, ax_up_up, ax_up_sw, Nat.reduceAdd, Nat.reduceBEq, Nat.reduceLeDiff, Nat.reduceLT, Nat.reduceEqDiff, ↓reduceIte, true_and, and_true, List.cons_append, List.nil_append, Int32.reduceLT, Int32.reduceLE, Int32.reduceAdd, Int32.reduceToNatClampNeg, Int32.reduceOfNat, true_imp_iff, false_imp_iff, not_true_eq_false, not_false_eq_true, or_true, true_or, or_false, false_or, and_self, Bool.or_true, Bool.or_false, Bool.true_or, Bool.false_or, implies_true, forall_const, Bool.false_eq_true, Int32.neg_neg, ax_X47, h1, cm_lt0, z100]
  refine ⟨fun c => h.2 ?_, fun c => h.1 ?_⟩
  · exact decide_eq_false (Int64.not_le.mpr c)
  · exact decide_eq_true (Int64.not_lt.mp c)
/-- the least number of first strokes by which a machine has the hundredths; only one that counts can tell -/
def ne_ (D : ax_Dn) (m : Nat) (d h : Int32) : Nat → Nat → Int32
  | 0, _ => -9
  | j + 1, n => if (pk_ (D 13) 0 n).length < (pk_ (D 13) 0 (n + 1)).length ∧ hh_ (sh_ D d (n + 1) m) (sl_ (sh_ D d (n + 1)) 7) h = true then nI (n + 1) else ne_ D m d h j (n + 1)
theorem lp_46 {g : ax_G} {K : ax_Po} {D : ax_Dn} (hok : okC D) (m : Nat) (hm : m < 7) (d h : Int32) (N : Nat) (hN : D 12 0 = nI N) (hN30 : N ≤ 30) : ∀ (j n : Nat) (D' : ax_Dn) (E : ax_En), n + j = N → sm1 D D' → (∀ D' E', sm1 D D' → K (some (.int (ne_ D m d h j n))) (ax_S D' E')) → ax_WP g (ax_hy 46) K 92 92 6 [some (.ref 52), some (.ref 1), some (.int (nI m)), some (.int d), some (.int h), some (.int (nI (pk_ (D 13) 0 n).length)), some (.int (nI (n + 1))), none] [] (ax_S D' E) := by
  intro j
  induction j with
  | zero =>
    intro n D' E hn hs hK
    have hN' : D' 12 0 = nI N := by rw [sm_12 (sm1_sm hs)]; exact hN
    have hc : nI N < nI (n + 1) := nI_lt (by omega) (by omega)
    refine ax_WPo (l := [(44, cy_44), (47, cy_47), (51, cy_51s)]) (ax_oc sy_44 (ax_oc sy_47 (ax_oc sy_51s ax_on))) ax_ok46 (fun t => t == 6) 400 6 rfl ?_
    simp +decide only [↓ax_B, ax_B, ax_kds, ax_gvs, ax_mcs, ax_ia_S, ax_up_ap, ax_vinL, and_self_left, ax_up_up, ax_up_sw, Nat.reduceAdd, Nat.reduceBEq, Nat.reduceLeDiff, Nat.reduceLT, Nat.reduceEqDiff, ↓reduceIte, true_and, and_true, List.cons_append, List.nil_append, Int32.reduceLT, Int32.reduceLE, Int32.reduceAdd, Int32.reduceToNatClampNeg, Int32.reduceOfNat, true_imp_iff, false_imp_iff, not_true_eq_false, not_false_eq_true, or_true, true_or, or_false, false_or, and_self, Bool.or_true, Bool.or_false, Bool.true_or, Bool.false_or, implies_true, forall_const, Bool.false_eq_true, Int32.neg_neg, ax_X46, ry_44, ry_47, ry_51s, hN', hc]
    exact hK D' E hs
  | succ j ih =>
    intro n D' E hn hs hK
    have hN' : D' 12 0 = nI N := by rw [sm_12 (sm1_sm hs)]; exact hN
    have hc : ¬ nI N < nI (n + 1) := nI_nlt (by omega) (by omega)
    have h2 : (nI (n + 1)).toNatClampNeg = n + 1 := nI_clamp (by omega)
    have hm1 : vp_in (nI m) 7 := vp_in_nI hm (by omega)
    have hm2 : (nI m).toNatClampNeg = m := nI_clamp (by omega)
    have h3 : nI (n + 1) + 1 = nI (n + 1 + 1) := nI_1 _
    have e13 : D' 13 = D 13 := hs.1 13 (by decide) (by decide)
    have l1 := pk_len (D 13) 0 n
    have l2 := pk_len (D 13) 0 (n + 1)
    unfold ne_ at hK
    refine ax_WPo (l := [(44, cy_44), (47, cy_47), (51, cy_51s)]) (ax_oc sy_44 (ax_oc sy_47 (ax_oc sy_51s ax_on))) ax_ok46 (fun t => t == 6) 400 6 rfl ?_
    simp +decide only [↓ax_B, ax_B, ax_kds, ax_gvs, ax_mcs, ax_ia_S, ax_up_ap, ax_vinL, and_self_left, ax_up_up, ax_up_sw, Nat.reduceAdd, Nat.reduceBEq, Nat.reduceLeDiff, Nat.reduceLT, Nat.reduceEqDiff, ↓reduceIte, true_and, and_true, List.cons_append, List.nil_append, Int32.reduceLT, Int32.reduceLE, Int32.reduceAdd, Int32.reduceToNatClampNeg, Int32.reduceOfNat, true_imp_iff, false_imp_iff, not_true_eq_false, not_false_eq_true, or_true, true_or, or_false, false_or, and_self, Bool.or_true, Bool.or_false, Bool.true_or, Bool.false_or, implies_true, forall_const, Bool.false_eq_true, Int32.neg_neg, ax_X46, ry_44, ry_47, ry_51s, hN', hc, h2, hm1, hm2, h3, e13]
    refine ⟨hok.2.2.2.1, nI_pos' (by omega), le30_ (by omega), fun D2 hs2 hp => ⟨fun c => ?_, fun c => ?_⟩⟩
    · rw [nI_leI (by omega) (by omega)] at c
      refine ax_WP_w ?_ (ih (n + 1) D2 E (by omega) (sm1_tr hs hs2) (fun D3 E3 hs3 => ?_))
      · simp only [ax_le, and_self]
      · have := hK D3 E3 hs3
        rw [if_neg (by omega)] at this
        exact this
    · rw [nI_leI (by omega) (by omega)] at c
      have hs12 := sm1_tr hs hs2
      refine ⟨sm_okC (sm1_sm hs12) hok, nI_pos' (by omega), le30_ (by omega), fun D3 E3 hs3 hE hT => ⟨?_, ?_⟩⟩
      all_goals
        rw [hE m hm, hT, sm_sh (sm1_sm hs12)]
      · intro q
        have := hK D3 E3 (sm1_tr hs12 hs3)
        rw [if_pos ⟨by omega, q⟩] at this
        exact this
      · intro q
        refine ax_WP_w ?_ (ih (n + 1) D3 E3 (by omega) (sm1_tr hs12 hs3) (fun D4 E4 hs4 => ?_))
        · simp only [ax_le, and_self]
        · have := hK D4 E4 hs4
          rw [if_neg (by rw [q]; simp)] at this
          exact this
/-- AskewLetters$Odds.strokesFor(LAskewLetters$Desk;III)I -/
def cy_46 : ax_P1 := fun as z K => ∃ (p2 : Int32) (p3 : Int32) (p4 : Int32) (D : ax_Dn) (E : ax_En), as = [.ref 52, .ref 1, .int p2, .int p3, .int p4] ∧ z = ax_S D E ∧ (okC D ∧ vp_in p2 7 ∧ ∀ D' E', sm1 D D' → K (some (.int (ne_ D p2.toNatClampNeg p3 p4 (D 12 0).toNatClampNeg 0))) (ax_S D' E'))
theorem ry_46 (p2 : Int32) (p3 : Int32) (p4 : Int32) (D : ax_Dn) (E : ax_En) (K : ax_Po) : cy_46 [.ref 52, .ref 1, .int p2, .int p3, .int p4] (ax_S D E) K = (okC D ∧ vp_in p2 7 ∧ ∀ D' E', sm1 D D' → K (some (.int (ne_ D p2.toNatClampNeg p3 p4 (D 12 0).toNatClampNeg 0))) (ax_S D' E')) := propext ⟨fun ⟨p2', p3', p4', D', E', h1, h2, h3⟩ => by cases h1; obtain ⟨rfl, rfl⟩ := ax_S_inj h2; exact h3, fun h => ⟨p2, p3, p4, D, E, rfl, rfl, h⟩⟩
theorem sy_46 {g : ax_G} : ∀ as z K, cy_46 as z K → ax_MM g 46 as z K := by
  rintro _ _ K ⟨p2, p3, p4, D, E, rfl, rfl, h⟩
  refine ax_go46 _ _ _ _ _ ?_
  obtain ⟨hok, h1, h⟩ := h
  obtain ⟨n, hn, h30, hc⟩ := ax_cnt_of hok.2.2.1 (by decide)
  obtain ⟨m, hm, rfl⟩ := vp_in_of h1 (by decide)
  rw [hc, nI_clamp (by omega)] at h
  refine ax_WPo (l := [(44, cy_44), (47, cy_47), (51, cy_51s)]) (ax_oc sy_44 (ax_oc sy_47 (ax_oc sy_51s ax_on))) ax_ok46 (fun t => t == 6) 400 0 rfl ?_
  simp +decide only [↓ax_B, ax_B, ax_kds, ax_gvs, ax_mcs, ax_ia_S, ax_up_ap, ax_vinL, and_self_left, ax_up_up, ax_up_sw, Nat.reduceAdd, Nat.reduceBEq, Nat.reduceLeDiff, Nat.reduceLT, Nat.reduceEqDiff, ↓reduceIte, true_and, and_true, List.cons_append, List.nil_append, Int32.reduceLT, Int32.reduceLE, Int32.reduceAdd, Int32.reduceToNatClampNeg, Int32.reduceOfNat, true_imp_iff, false_imp_iff, not_true_eq_false, not_false_eq_true, or_true, true_or, or_false, false_or, and_self, Bool.or_true, Bool.or_false, Bool.true_or, Bool.false_or, implies_true, forall_const, Bool.false_eq_true, Int32.neg_neg, ax_X46, ry_44, ry_47, ry_51s]
  exact lp_46 hok m hm p3 p4 n hn h30 n 0 D E (by omega) (sm1_rf D) h
