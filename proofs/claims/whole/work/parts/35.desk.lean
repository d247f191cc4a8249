/-! The class's desk: what walks over it leave as it is. -/
def sm1 (D D' : ax_Dn) : Prop := (∀ k, k ≠ 12 → k ≠ 18 → D' k = D k) ∧ ∀ j, j ≠ 6 → D' 12 j = D 12 j
def sm (D D' : ax_Dn) : Prop := (∀ k, k ≠ 12 → k ≠ 18 → k ≠ 56 → k ≠ 57 → D' k = D k) ∧ ∀ j, j ≠ 6 → D' 12 j = D 12 j
theorem sm_rf (D : ax_Dn) : sm D D := ⟨fun _ _ _ _ _ => rfl, fun _ _ => rfl⟩
theorem sm_tr {A B C : ax_Dn} (h1 : sm A B) (h2 : sm B C) : sm A C := ⟨fun k a b c d => (h2.1 k a b c d).trans (h1.1 k a b c d), fun j a => (h2.2 j a).trans (h1.2 j a)⟩
theorem sm1_rf (D : ax_Dn) : sm1 D D := ⟨fun _ _ _ => rfl, fun _ _ => rfl⟩
theorem sm1_tr {A B C : ax_Dn} (h1 : sm1 A B) (h2 : sm1 B C) : sm1 A C := ⟨fun k a b => (h2.1 k a b).trans (h1.1 k a b), fun j a => (h2.2 j a).trans (h1.2 j a)⟩
theorem sm1_sm {A B : ax_Dn} (h : sm1 A B) : sm A B := ⟨fun k a b _ _ => h.1 k a b, h.2⟩
theorem sm_at {D D' : ax_Dn} (h : sm D D') (k : Nat) (hk : (k ≠ 12 ∧ k ≠ 18 ∧ k ≠ 56 ∧ k ≠ 57) := by decide) : D' k = D k := h.1 k hk.1 hk.2.1 hk.2.2.1 hk.2.2.2
theorem sm_12 {D D' : ax_Dn} (h : sm D D') : D' 12 0 = D 12 0 := h.2 0 (by decide)
theorem sm_okC {D D' : ax_Dn} (h : sm D D') (hok : okC D) : okC D' := by
  unfold okC at *
  simp only [sm_at h 2, sm_at h 5, sm_at h 6, sm_at h 13, sm_at h 14, sm_at h 15, sm_at h 16, sm_at h 17, sm_at h 19, sm_at h 20, sm_at h 21, sm_12 h]
  exact hok
theorem sm_FC {D D' : ax_Dn} (h : sm D D') : FC D' = FC D := by
  funext i m d q
  unfold FC
  simp only [sm_at h 2, sm_at h 4, sm_at h 5, sm_at h 6, sm_at h 7, sm_at h 8, sm_at h 9, sm_at h 10, sm_at h 11, sm_at h 13, sm_at h 14, sm_at h 15, sm_at h 16, sm_at h 21]
theorem sm_LC {D D' : ax_Dn} (h : sm D D') : LC D' = LC D := by
  funext u m d f t
  unfold LC
  rw [sm_FC h, sm_at h 13]
/-- these strokes are picked -/
def pkd (D : ax_Dn) (P : List Nat) : Prop := P.length ≤ 5 ∧ D 12 6 = nI P.length ∧ (∀ i, i < P.length → D 18 i = nI (P.getD i 0)) ∧ ∀ i ∈ P, i < 30
theorem pk_mem {sg : Nat → Int32} {f t i : Nat} (h : i ∈ pk_ sg f t) : f ≤ i ∧ i < t := by
  have := fs_mem (List.mem_of_mem_take h)
  omega
/-- AskewLetters$Page.pick(II)I -/
def cy_51s : ax_P1 := fun as z K => ∃ (p1 : Int32) (p2 : Int32) (D : ax_Dn) (E : ax_En), as = [.ref 12, .int p1, .int p2] ∧ z = ax_S D E ∧ (sg_ok (D 13) ∧ 0 ≤ p1 ∧ p1 ≤ p2 ∧ p2 ≤ 30 ∧ ∀ D', sm1 D D' → pkd D' (pk_ (D 13) p1.toNatClampNeg p2.toNatClampNeg) → K (some (.int (nI (pk_ (D 13) p1.toNatClampNeg p2.toNatClampNeg).length))) (ax_S D' E))
theorem ry_51s (p1 : Int32) (p2 : Int32) (D : ax_Dn) (E : ax_En) (K : ax_Po) : cy_51s [.ref 12, .int p1, .int p2] (ax_S D E) K = (sg_ok (D 13) ∧ 0 ≤ p1 ∧ p1 ≤ p2 ∧ p2 ≤ 30 ∧ ∀ D', sm1 D D' → pkd D' (pk_ (D 13) p1.toNatClampNeg p2.toNatClampNeg) → K (some (.int (nI (pk_ (D 13) p1.toNatClampNeg p2.toNatClampNeg).length))) (ax_S D' E)) := propext ⟨fun ⟨p1', p2', D', E', h1, h2, h3⟩ => by cases h1; obtain ⟨rfl, rfl⟩ := ax_S_inj h2; exact h3, fun h => ⟨p1, p2, D, E, rfl, rfl, h⟩⟩
theorem sy_51s {g : ax_G} : ∀ as z K, cy_51s as z K → ax_MM g 51 as z K := by
  rintro _ _ K ⟨p1, p2, D, E, rfl, rfl, h1, h2, h3, h4, h⟩
  refine sy_51 _ _ _ ⟨p1, p2, D, E, rfl, rfl, h1, h2, h3, h4, fun arr harr => h _ ⟨fun k a b => ?_, fun j a => ?_⟩ ⟨pk_len _ _ _, ?_, fun i hi => ?_, fun i hi => ?_⟩⟩
  · rw [ax_up_n _ _ b, ax_up_n _ _ a]
  · rw [ax_up_n _ _ (show 12 ≠ 18 by decide), ax_up_s, ax_up_n _ _ a]
  · rw [ax_up_n _ _ (show 12 ≠ 18 by decide), ax_up_s, ax_up_s]
  · rw [ax_up_s]
    exact harr i hi
  · have := (pk_mem hi).2
    obtain ⟨f, rfl, q1, q2⟩ := na_of (na_le.mp h2)
    have h3' := na_le.mp h3
    have h4' : p2.toInt ≤ 30 := na_le.mp h4
    obtain ⟨t, rfl, q3, q4⟩ := na_of (x := p2) (by omega)
    rw [nI_clamp (by omega)] at this
    rw [na_nI (by omega)] at h4'
    omega
theorem le30_ {n : Nat} (h : n ≤ 30) : nI n ≤ 30 := by
  rw [show (30 : Int32) = nI 30 by decide]
  exact nI_le h (by omega)
/-- AskewLetters$Desk.likeOf(III)J -/
def cy_30 : ax_P1 := fun as z K => ∃ (p1 : Int32) (p2 : Int32) (p3 : Int32) (D : ax_Dn) (E : ax_En), as = [.ref 1, .int p1, .int p2, .int p3] ∧ z = ax_S D E ∧ (okC D ∧ vp_in p2 6 ∧ ∀ D', sm1 D D' → K (some (.long (LC D p1 p2 p3 0 (D 12 0).toNatClampNeg))) (ax_S D' E))
theorem ry_30 (p1 : Int32) (p2 : Int32) (p3 : Int32) (D : ax_Dn) (E : ax_En) (K : ax_Po) : cy_30 [.ref 1, .int p1, .int p2, .int p3] (ax_S D E) K = (okC D ∧ vp_in p2 6 ∧ ∀ D', sm1 D D' → K (some (.long (LC D p1 p2 p3 0 (D 12 0).toNatClampNeg))) (ax_S D' E)) := propext ⟨fun ⟨p1', p2', p3', D', E', h1, h2, h3⟩ => by cases h1; obtain ⟨rfl, rfl⟩ := ax_S_inj h2; exact h3, fun h => ⟨p1, p2, p3, D, E, rfl, rfl, h⟩⟩
theorem sy_30 {g : ax_G} : ∀ as z K, cy_30 as z K → ax_MM g 30 as z K := by
  rintro _ _ K ⟨p1, p2, p3, D, E, rfl, rfl, h⟩
  refine ax_go30 _ _ _ _ ?_
  obtain ⟨hok, h2, h⟩ := h
  obtain ⟨n, hn, h30, hc⟩ := ax_cnt_of hok.2.2.1 (by decide)
  rw [hc] at h
  refine ax_WPo (l := [(51, cy_51s), (31, cy_31)]) (ax_oc sy_51s (ax_oc sy_31 ax_on)) ax_ok30 (fun _ => false) 400 0 rfl ?_
  simp +decide only [↓ax_B, ax_B, ax_kds, ax_gvs, ax_mcs, ax_ia_S, ax_up_ap, ax_vinL, and_self_left, ax_up_up, ax_up_sw, Nat.reduceAdd, Nat.reduceBEq, Nat.reduceLeDiff, Nat.reduceLT, Nat.reduceEqDiff, ↓reduceIte, true_and, and_true, List.cons_append, List.nil_append, Int32.reduceLT, Int32.reduceLE, Int32.reduceAdd, Int32.reduceToNatClampNeg, Int32.reduceOfNat, true_imp_iff, false_imp_iff, not_true_eq_false, not_false_eq_true, or_true, true_or, or_false, false_or, and_self, Bool.or_true, Bool.or_false, Bool.true_or, Bool.false_or, implies_true, forall_const, Bool.false_eq_true, Int32.neg_neg, ry_51s, ry_31, hn, hc, nI_clamp (show n < 2 ^ 31 by omega)]
  refine ⟨hok.2.2.2.1, nI_pos' (by omega), le30_ h30, fun D' hs hp => ⟨sm_okC (sm1_sm hs) hok, h2, _, hp.1, hp.2.1, hp.2.2.1, hp.2.2.2, ?_⟩⟩
  rw [sm_FC (sm1_sm hs)]
  exact h D' hs
/-! LIKE on all the days. -/
theorem lp_18 {g : ax_G} {K : ax_Po} {D : ax_Dn} (hok : okC D) (m : Int32) (hm : vp_in m 6) (P : List Nat) (hp : pkd D P) (f : Nat → Int64) (hf : ∀ t, t < 37 → lk_ P (fun i => pr_ (D 21 1) (FC D i m (nI (t * 10))) 5 0 1) 1 = f t) (h : ∀ E', (∀ t, t < 37 → E' 55 t = f t) → K none (ax_S D E')) :
    ∀ (j k : Nat) (E : ax_En), k + j = 37 → (∀ t, t < k → E 55 t = f t) → ax_WP g (ax_hy 18) K 92 92 18 [some (.ref 54), some (.ref 1), some (.int m), some (.int (nI k))] [] (ax_S D E) := by
  have e37 : (37 : Int32) = nI 37 := by decide
  have e10 : (10 : Int32) = nI 10 := by decide
  intro j
  induction j with
  | zero =>
    intro k E hk hE
    have hc : (37 : Int32) ≤ nI k := by rw [e37]; exact nI_le (by omega) (by omega)
    refine ax_WPo (l := [(31, cy_31)]) (ax_oc sy_31 ax_on) ax_ok18 (fun t => t == 18) 400 18 rfl ?_
    simp +decide only [↓ax_B, ax_B, ax_kds, ax_gvs, ax_mcs, ax_ia_S, ax_up_ap, ax_vinL, and_self_left, ax_up_up, ax_up_sw, Nat.reduceAdd, Nat.reduceBEq, Nat.reduceLeDiff, Nat.reduceLT, Nat.reduceEqDiff, ↓reduceIte, true_and, and_true, List.cons_append, List.nil_append, Int32.reduceLT, Int32.reduceLE, Int32.reduceAdd, Int32.reduceToNatClampNeg, Int32.reduceOfNat, true_imp_iff, false_imp_iff, not_true_eq_false, not_false_eq_true, or_true, true_or, or_false, false_or, and_self, Bool.or_true, Bool.or_false, Bool.true_or, Bool.false_or, implies_true, forall_const, Bool.false_eq_true, Int32.neg_neg, ax_X18, ry_31, hc]
    exact h E (fun t ht => hE t (by omega))
  | succ j ih =>
    intro k E hk hE
    have hc : ¬ (37 : Int32) ≤ nI k := by rw [e37]; exact nI_ge (by omega) (by omega)
    have h1 : vp_in (nI k) 37 := vp_in_nI (by omega) (by omega)
    have h2 : (nI k).toNatClampNeg = k := nI_clamp (by omega)
    have h3 : nI k + 1 = nI (k + 1) := nI_1 k
    have h4 : nI k * 10 = nI (k * 10) := by rw [e10, nI_mul]
    refine ax_WPo (l := [(31, cy_31)]) (ax_oc sy_31 ax_on) ax_ok18 (fun t => t == 18) 400 18 rfl ?_
    simp +decide only [↓ax_B, ax_B, ax_kds, ax_gvs, ax_mcs, ax_ia_S, ax_up_ap, ax_vinL, and_self_left, ax_up_up, ax_up_sw, Nat.reduceAdd, Nat.reduceBEq, Nat.reduceLeDiff, Nat.reduceLT, Nat.reduceEqDiff, ↓reduceIte, true_and, and_true, List.cons_append, List.nil_append, Int32.reduceLT, Int32.reduceLE, Int32.reduceAdd, Int32.reduceToNatClampNeg, Int32.reduceOfNat, true_imp_iff, false_imp_iff, not_true_eq_false, not_false_eq_true, or_true, true_or, or_false, false_or, and_self, Bool.or_true, Bool.or_false, Bool.true_or, Bool.false_or, implies_true, forall_const, Bool.false_eq_true, Int32.neg_neg, ax_X18, ry_31, hc, h1, h2, h3, h4, hm, hok]
    refine ⟨P, hp.1, hp.2.1, hp.2.2.1, hp.2.2.2, ?_⟩
    refine ih (k + 1) _ (by omega) (fun t ht => ?_)
    rw [ax_up_s]
    by_cases q : t = k
    · subst q
      rw [ax_up_s]
      exact hf t (by omega)
    · rw [ax_up_n _ _ q]
      exact hE t (by omega)
/-- AskewLetters$Days.weigh(LAskewLetters$Desk;I)V -/
def cy_18 : ax_P1 := fun as z K => ∃ (p2 : Int32) (D : ax_Dn) (E : ax_En), as = [.ref 54, .ref 1, .int p2] ∧ z = ax_S D E ∧ (okC D ∧ vp_in p2 6 ∧ ∀ D' E', sm1 D D' → (∀ t, t < 37 → E' 55 t = LC D (D 21 1) p2 (nI (t * 10)) 0 (D 12 0).toNatClampNeg) → K none (ax_S D' E'))
theorem ry_18 (p2 : Int32) (D : ax_Dn) (E : ax_En) (K : ax_Po) : cy_18 [.ref 54, .ref 1, .int p2] (ax_S D E) K = (okC D ∧ vp_in p2 6 ∧ ∀ D' E', sm1 D D' → (∀ t, t < 37 → E' 55 t = LC D (D 21 1) p2 (nI (t * 10)) 0 (D 12 0).toNatClampNeg) → K none (ax_S D' E')) := propext ⟨fun ⟨p2', D', E', h1, h2, h3⟩ => by cases h1; obtain ⟨rfl, rfl⟩ := ax_S_inj h2; exact h3, fun h => ⟨p2, D, E, rfl, rfl, h⟩⟩
theorem sy_18 {g : ax_G} : ∀ as z K, cy_18 as z K → ax_MM g 18 as z K := by
  rintro _ _ K ⟨p2, D, E, rfl, rfl, h⟩
  refine ax_go18 _ _ _ ?_
  obtain ⟨hok, h2, h⟩ := h
  obtain ⟨n, hn, h30, hc⟩ := ax_cnt_of hok.2.2.1 (by decide)
  rw [hc] at h
  refine ax_WPo (l := [(51, cy_51s), (31, cy_31)]) (ax_oc sy_51s (ax_oc sy_31 ax_on)) ax_ok18 (fun t => t == 18) 400 0 rfl ?_
  simp +decide only [↓ax_B, ax_B, ax_kds, ax_gvs, ax_mcs, ax_ia_S, ax_up_ap, ax_vinL, and_self_left, ax_up_up, ax_up_sw, Nat.reduceAdd, Nat.reduceBEq, Nat.reduceLeDiff, Nat.reduceLT, Nat.reduceEqDiff, ↓reduceIte, true_and, and_true, List.cons_append, List.nil_append, Int32.reduceLT, Int32.reduceLE, Int32.reduceAdd, Int32.reduceToNatClampNeg, Int32.reduceOfNat, true_imp_iff, false_imp_iff, not_true_eq_false, not_false_eq_true, or_true, true_or, or_false, false_or, and_self, Bool.or_true, Bool.or_false, Bool.true_or, Bool.false_or, implies_true, forall_const, Bool.false_eq_true, Int32.neg_neg, ax_X18, ry_51s, ry_31, hn, hc, nI_clamp (show n < 2 ^ 31 by omega)]
  refine ⟨hok.2.2.2.1, nI_pos' (by omega), le30_ h30, fun D' hs hp => ?_⟩
  refine lp_18 (sm_okC (sm1_sm hs) hok) p2 h2 _ hp (fun t => LC D (D 21 1) p2 (nI (t * 10)) 0 n) (fun t ht => ?_) (fun E' hE => h D' E' hs hE) 37 0 E (by omega) (fun t ht => absurd ht (Nat.not_lt_zero _))
  rw [sm_FC (sm1_sm hs), sm_at (sm1_sm hs) 21]
  rfl
/-- what is added up of the first j rows -/
def sl_ (f : Nat → Int64) : Nat → Int64
  | 0 => 0
  | n + 1 => sl_ f n + f n
theorem sl_congr {f f' : Nat → Int64} : ∀ {n : Nat}, (∀ i, i < n → f i = f' i) → sl_ f n = sl_ f' n := by
  intro n
  induction n with
  | zero => intro _; rfl
  | succ n ih =>
    intro h
    unfold sl_
    rw [ih (fun i hi => h i (by omega)), h n (by omega)]
theorem lp_19 {g : ax_G} {K : ax_Po} {D : ax_Dn} {E : ax_En} (h : K (some (.long (sl_ (E 55) 37))) (ax_S D E)) :
    ∀ (j k : Nat), k + j = 37 → ax_WP g (ax_hy 19) K 92 92 4 [some (.ref 54), some (.long (sl_ (E 55) k)), none, some (.int (nI k))] [] (ax_S D E) := by
  have e37 : (37 : Int32) = nI 37 := by decide
  intro j
  induction j with
  | zero =>
    intro k hk
    have hc : (37 : Int32) ≤ nI k := by rw [e37]; exact nI_le (by omega) (by omega)
    obtain rfl : k = 37 := by omega
    refine ax_WPo (l := []) ax_on ax_ok19 (fun t => t == 4) 400 4 rfl ?_
    simp +decide only [↓ax_B, ax_B, ax_kds, ax_gvs, ax_mcs, ax_ia_S, ax_up_ap, ax_vinL, and_self_left, ax_up_up, ax_up_sw, Nat.reduceAdd, Nat.reduceBEq, Nat.reduceLeDiff, Nat.reduceLT, Nat.reduceEqDiff, ↓reduceIte, true_and, and_true, List.cons_append, List.nil_append, Int32.reduceLT, Int32.reduceLE, Int32.reduceAdd, Int32.reduceToNatClampNeg, Int32.reduceOfNat, true_imp_iff, false_imp_iff, not_true_eq_false, not_false_eq_true, or_true, true_or, or_false, false_or, and_self, Bool.or_true, Bool.or_false, Bool.true_or, Bool.false_or, implies_true, forall_const, Bool.false_eq_true, Int32.neg_neg, ax_X19, hc]
    exact h
  | succ j ih =>
    intro k hk
    have hc : ¬ (37 : Int32) ≤ nI k := by rw [e37]; exact nI_ge (by omega) (by omega)
    have h1 : vp_in (nI k) 37 := vp_in_nI (by omega) (by omega)
    have h2 : (nI k).toNatClampNeg = k := nI_clamp (by omega)
    have h3 : nI k + 1 = nI (k + 1) := nI_1 k
    have := ih (k + 1) (by omega)
    unfold sl_ at this
    refine ax_WPo (l := []) ax_on ax_ok19 (fun t => t == 4) 400 4 rfl ?_
    simp +decide only [↓ax_B, ax_B, ax_kds, ax_gvs, ax_mcs, ax_ia_S, ax_up_ap, ax_vinL, and_self_left, ax_up_up, ax_up_sw, Nat.reduceAdd, Nat.reduceBEq, Nat.reduceLeDiff, Nat.reduceLT, Nat.reduceEqDiff, ↓reduceIte, true_and, and_true, List.cons_append, List.nil_append, Int32.reduceLT, Int32.reduceLE, Int32.reduceAdd, Int32.reduceToNatClampNeg, Int32.reduceOfNat, true_imp_iff, false_imp_iff, not_true_eq_false, not_false_eq_true, or_true, true_or, or_false, false_or, and_self, Bool.or_true, Bool.or_false, Bool.true_or, Bool.false_or, implies_true, forall_const, Bool.false_eq_true, Int32.neg_neg, ax_X19, hc, h1, h2, h3]
    exact this
/-- AskewLetters$Days.total()J -/
def cy_19 : ax_P1 := fun as z K => ∃ (D : ax_Dn) (E : ax_En), as = [.ref 54] ∧ z = ax_S D E ∧ (K (some (.long (sl_ (E 55) 37))) (ax_S D E))
theorem ry_19  (D : ax_Dn) (E : ax_En) (K : ax_Po) : cy_19 [.ref 54] (ax_S D E) K = (K (some (.long (sl_ (E 55) 37))) (ax_S D E)) := propext ⟨fun ⟨D', E', h1, h2, h3⟩ => by cases h1; obtain ⟨rfl, rfl⟩ := ax_S_inj h2; exact h3, fun h => ⟨D, E, rfl, rfl, h⟩⟩
theorem sy_19 {g : ax_G} : ∀ as z K, cy_19 as z K → ax_MM g 19 as z K := by
  rintro _ _ K ⟨D, E, rfl, rfl, h⟩
  refine ax_go19 _ ?_
  refine ax_WPo (l := []) ax_on ax_ok19 (fun t => t == 4) 400 0 rfl ?_
  simp +decide only [↓ax_B, ax_B, ax_kds, ax_gvs, ax_mcs, ax_ia_S, ax_up_ap, ax_vinL, and_self_left, ax_up_up, ax_up_sw, Nat.reduceAdd, Nat.reduceBEq, Nat.reduceLeDiff, Nat.reduceLT, Nat.reduceEqDiff, ↓reduceIte, true_and, and_true, List.cons_append, List.nil_append, Int32.reduceLT, Int32.reduceLE, Int32.reduceAdd, Int32.reduceToNatClampNeg, Int32.reduceOfNat, true_imp_iff, false_imp_iff, not_true_eq_false, not_false_eq_true, or_true, true_or, or_false, false_or, and_self, Bool.or_true, Bool.or_false, Bool.true_or, Bool.false_or, implies_true, forall_const, Bool.false_eq_true, Int32.neg_neg, ax_X19]
  exact lp_19 h 37 0 rfl
/-- the first of the greatest of n + 1 rows -/
def be_ (f : Nat → Int64) : Nat → Nat
  | 0 => 0
  | n + 1 => if f (be_ f n) < f (n + 1) then n + 1 else be_ f n
theorem be_le (f : Nat → Int64) : ∀ n, be_ f n ≤ n := by
  intro n
  induction n with
  | zero => exact Nat.le_refl _
  | succ n ih => unfold be_; split <;> omega
theorem lp_20 {g : ax_G} {K : ax_Po} {D : ax_Dn} {E : ax_En} (h : K (some (.int (nI (be_ (E 55) 36)))) (ax_S D E)) :
    ∀ (j k : Nat), k + j = 36 → ax_WP g (ax_hy 20) K 92 92 4 [some (.ref 54), some (.int (nI (be_ (E 55) k))), some (.int (nI (k + 1)))] [] (ax_S D E) := by
  have e37 : (37 : Int32) = nI 37 := by decide
  intro j
  induction j with
  | zero =>
    intro k hk
    have hc : (37 : Int32) ≤ nI (k + 1) := by rw [e37]; exact nI_le (by omega) (by omega)
    obtain rfl : k = 36 := by omega
    refine ax_WPo (l := []) ax_on ax_ok20 (fun t => t == 4) 400 4 rfl ?_
    simp +decide only [↓ax_B, ax_B, ax_kds, ax_gvs, ax_mcs, ax_ia_S, ax_up_ap, ax_vinL, and_self_left, ax_up_up, ax_up_sw, Nat.reduceAdd, Nat.reduceBEq, Nat.reduceLeDiff, Nat.reduceLT, Nat.reduceEqDiff, ↓reduceIte, true_and, and_true, List.cons_append, List.nil_append, Int32.reduceLT, Int32.reduceLE, Int32.reduceAdd, Int32.reduceToNatClampNeg, Int32.reduceOfNat, true_imp_iff, false_imp_iff, not_true_eq_false, not_false_eq_true, or_true, true_or, or_false, false_or, and_self, Bool.or_true, Bool.or_false, Bool.true_or, Bool.false_or, implies_true, forall_const, Bool.false_eq_true, Int32.neg_neg, ax_X20, hc]
    exact h
  | succ j ih =>
    intro k hk
    have hc : ¬ (37 : Int32) ≤ nI (k + 1) := by rw [e37]; exact nI_ge (by omega) (by omega)
    have hb := be_le (E 55) k
    have h1 : vp_in (nI (k + 1)) 37 := vp_in_nI (by omega) (by omega)
    have h2 : (nI (k + 1)).toNatClampNeg = k + 1 := nI_clamp (by omega)
    have h1' : vp_in (nI (be_ (E 55) k)) 37 := vp_in_nI (by omega) (by omega)
    have h2' : (nI (be_ (E 55) k)).toNatClampNeg = be_ (E 55) k := nI_clamp (by omega)
    have h3 : nI (k + 1) + 1 = nI (k + 1 + 1) := nI_1 _
    have := ih (k + 1) (by omega)
    unfold be_ at this
    refine ax_WPo (l := []) ax_on ax_ok20 (fun t => t == 4) 400 4 rfl ?_
    simp +decide only [↓ax_B, ax_B, ax_kds, ax_gvs, ax_mcs, ax_ia_S, ax_up_ap, ax_vinL, and_self_left, ax_up_up, ax_up_sw, Nat.reduceAdd, Nat.reduceBEq, Nat.reduceLeDiff, Nat.reduceLT, Nat.reduceEqDiff, ↓reduceIte, true_and, and_true, List.cons_append, List.nil_append, Int32.reduceLT, Int32.reduceLE, Int32.reduceAdd, Int32.reduceToNatClampNeg, Int32.reduceOfNat, true_imp_iff, false_imp_iff, not_true_eq_false, not_false_eq_true, or_true, true_or, or_false, false_or, and_self, Bool.or_true, Bool.or_false, Bool.true_or, Bool.false_or, implies_true, forall_const, Bool.false_eq_true, Int32.neg_neg, ax_X20, hc, h1, h2, h1', h2', h3, cm_le0]
    refine ⟨fun c => ?_, fun c => ?_⟩
    · rw [if_neg (Int64.not_lt.mpr c)] at this
      exact this
    · rw [if_pos (Int64.not_le.mp c)] at this
      exact this
/-- AskewLetters$Days.best()I -/
def cy_20 : ax_P1 := fun as z K => ∃ (D : ax_Dn) (E : ax_En), as = [.ref 54] ∧ z = ax_S D E ∧ (K (some (.int (nI (be_ (E 55) 36)))) (ax_S D E))
theorem ry_20  (D : ax_Dn) (E : ax_En) (K : ax_Po) : cy_20 [.ref 54] (ax_S D E) K = (K (some (.int (nI (be_ (E 55) 36)))) (ax_S D E)) := propext ⟨fun ⟨D', E', h1, h2, h3⟩ => by cases h1; obtain ⟨rfl, rfl⟩ := ax_S_inj h2; exact h3, fun h => ⟨D, E, rfl, rfl, h⟩⟩
theorem sy_20 {g : ax_G} : ∀ as z K, cy_20 as z K → ax_MM g 20 as z K := by
  rintro _ _ K ⟨D, E, rfl, rfl, h⟩
  refine ax_go20 _ ?_
  refine ax_WPo (l := []) ax_on ax_ok20 (fun t => t == 4) 400 0 rfl ?_
  simp +decide only [↓ax_B, ax_B, ax_kds, ax_gvs, ax_mcs, ax_ia_S, ax_up_ap, ax_vinL, and_self_left, ax_up_up, ax_up_sw, Nat.reduceAdd, Nat.reduceBEq, Nat.reduceLeDiff, Nat.reduceLT, Nat.reduceEqDiff, ↓reduceIte, true_and, and_true, List.cons_append, List.nil_append, Int32.reduceLT, Int32.reduceLE, Int32.reduceAdd, Int32.reduceToNatClampNeg, Int32.reduceOfNat, true_imp_iff, false_imp_iff, not_true_eq_false, not_false_eq_true, or_true, true_or, or_false, false_or, and_self, Bool.or_true, Bool.or_false, Bool.true_or, Bool.false_or, implies_true, forall_const, Bool.false_eq_true, Int32.neg_neg, ax_X20]
  exact lp_20 h 36 0 rfl
