/-! An event is put among the others. -/
def ip_ (f : Nat → Int32) (d : Int32) : Nat → Nat
  | 0 => 0
  | k + 1 => if d < f k then ip_ f d k else k + 1
def shf_ (f : Nat → Int32) (k n : Nat) : Nat → Int32 := fun i => if k < i ∧ i ≤ n then f (i - 1) else f i
def ins_ (f : Nat → Int32) (k n : Nat) (v : Int32) : Nat → Int32 := ax_up (shf_ f k n) k v
theorem shf_0 (f : Nat → Int32) (n : Nat) : shf_ f n n = f := by
  funext i
  unfold shf_
  rw [if_neg (by omega)]
theorem shf_1 (f : Nat → Int32) (k n : Nat) (h : k < n) : ax_up (shf_ f (k + 1) n) (k + 1) (shf_ f (k + 1) n k) = shf_ f k n := by
  funext i
  by_cases hi : i = k + 1
  · subst hi
    rw [ax_up_s]
    unfold shf_
    rw [if_neg (by omega), if_pos (by omega), Nat.add_sub_cancel]
  · rw [ax_up_n _ _ hi]
    unfold shf_
    by_cases c : k + 1 < i ∧ i ≤ n
    · rw [if_pos c, if_pos (by omega)]
    · rw [if_neg c, if_neg (by omega)]
/-- the five rows of events, moved up behind k -/
def mv_ (D : ax_Dn) (k n : Nat) (D' : ax_Dn) : Prop := (∀ c, 7 ≤ c → c ≤ 11 → D' c = shf_ (D c) k n) ∧ ∀ c, ¬ (7 ≤ c ∧ c ≤ 11) → D' c = D c
theorem ip_le (f : Nat → Int32) (d : Int32) : ∀ k, ip_ f d k ≤ k := by
  intro k
  induction k with
  | zero => exact Nat.le_refl _
  | succ k ih =>
    unfold ip_
    split
    · omega
    · exact Nat.le_refl _
theorem lp_62 {g : ax_G} {K : ax_Po} {D0 : ax_Dn} {E : ax_En} (n : Nat) (p1 p2 p3 p4 p5 : Int32) (hn : D0 2 5 = nI n) (hn' : n < 20) (h : ∀ D', (∀ c v, (c, v) ∈ [(7, p1), (8, p2), (9, p3), (10, p4), (11, p5)] → D' c = ins_ (D0 c) (ip_ (D0 10) p4 n) n v) → (∀ c, ¬ c = 2 → ¬ (7 ≤ c ∧ c ≤ 11) → D' c = D0 c) → D' 2 = ax_up (D0 2) 5 (nI (n + 1)) → K none (ax_S D' E)) : ∀ (k : Nat) (D : ax_Dn), k ≤ n → ip_ (D0 10) p4 k = ip_ (D0 10) p4 n → mv_ D0 k n D → ax_WP g (ax_hy 62) K 92 92 16 [some (.ref 2), some (.int p1), some (.int p2), some (.int p3), some (.int p4), some (.int p5), some (.int (nI k))] [] (ax_S D E) := by
  have fin : ∀ (k : Nat) (D : ax_Dn), k ≤ n → k = ip_ (D0 10) p4 n → mv_ D0 k n D → K none (ax_S (ax_up (ax_up (ax_up (ax_up (ax_up (ax_up D 2 (ax_up (D 2) 5 (D 2 5 + 1))) 7 (ax_up (D 7) k p1)) 8 (ax_up (D 8) k p2)) 9 (ax_up (D 9) k p3)) 10 (ax_up (D 10) k p4)) 11 (ax_up (D 11) k p5)) E) := by
    intro k D hk hi hm
    have e2 : D 2 = D0 2 := hm.2 2 (by omega)
    refine h _ (fun c v hc => ?_) (fun c a b => ?_) ?_
    · simp only [List.mem_cons, Prod.mk.injEq, List.not_mem_nil, or_false] at hc
      rw [← hi]
      unfold ins_
      rcases hc with ⟨rfl, rfl⟩ | ⟨rfl, rfl⟩ | ⟨rfl, rfl⟩ | ⟨rfl, rfl⟩ | ⟨rfl, rfl⟩
      · rw [← hm.1 7 (by decide) (by decide)]; rfl
      · rw [← hm.1 8 (by decide) (by decide)]; rfl
      · rw [← hm.1 9 (by decide) (by decide)]; rfl
      · rw [← hm.1 10 (by decide) (by decide)]; rfl
      · rw [← hm.1 11 (by decide) (by decide)]; rfl
    · rw [ax_up_n _ _ (by omega), ax_up_n _ _ (by omega), ax_up_n _ _ (by omega), ax_up_n _ _ (by omega), ax_up_n _ _ (by omega), ax_up_n _ _ a]
      exact hm.2 c b
    · rw [ax_up_n _ _ (by decide), ax_up_n _ _ (by decide), ax_up_n _ _ (by decide), ax_up_n _ _ (by decide), ax_up_n _ _ (by decide), ax_up_s, e2, hn, nI_1]
  intro k
  induction k with
  | zero =>
    intro D hk hi hm
    have f := fin 0 D hk hi hm
    have e2 : D 2 = D0 2 := hm.2 2 (by omega)
    have c1 : nI 0 = 0 := rfl
    have c2 : vp_in 0 20 := (vp_in_nI (by decide) (by decide) : vp_in (nI 0) 20)
    refine ax_WPo (l := [(63, cy_63)]) (ax_oc sy_63 ax_on) ax_ok62 (fun t => t == 16) 400 16 rfl ?_
    simp +decide only [↓ax_B, ax_B, ax_kds, ax_gvs, ax_mcs, ax_ia_S, ax_up_ap, ax_vinL, and_self_left, ax_up_up, ax_up_sw, Nat.reduceAdd, Nat.reduceBEq, Nat.reduceLeDiff, Nat.reduceLT, Nat.reduceEqDiff, ↓reduceIte, true_and, and_true, List.cons_append, List.nil_append, Int32.reduceLT, Int32.reduceLE, Int32.reduceAdd, Int32.reduceToNatClampNeg, Int32.reduceOfNat, true_imp_iff, false_imp_iff, not_true_eq_false, not_false_eq_true, or_true, true_or, or_false, false_or, and_self, Bool.or_true, Bool.or_false, Bool.true_or, Bool.false_or, implies_true, forall_const, Bool.false_eq_true, Int32.neg_neg, ax_X62, ry_63, c1,c2]
    exact f
  | succ k ih =>
    intro D hk hi hm
    have c1 : ¬ nI (k + 1) ≤ 0 := by
      rw [show (0 : Int32) = nI 0 from rfl, nI_leI (by omega) (by omega)]; omega
    have c3 : nI (k + 1) - 1 = nI k := by rw [← nI_1]; simp
    have c4 : nI k + 1 = nI (k + 1) := nI_1 k
    have c5 : vp_in (nI k) 20 := vp_in_nI (by omega) (by omega)
    have c7 : (nI k).toNatClampNeg = k := nI_clamp (by omega)
    have c8 : (nI (k + 1)).toNatClampNeg = k + 1 := nI_clamp (by omega)
    have f := fin (k + 1) D hk
    refine ax_WPo (l := [(63, cy_63)]) (ax_oc sy_63 ax_on) ax_ok62 (fun t => t == 16) 400 16 rfl ?_
    simp +decide only [↓ax_B, ax_B, ax_kds, ax_gvs, ax_mcs, ax_ia_S, ax_up_ap, ax_vinL, and_self_left, ax_up_up, ax_up_sw, Nat.reduceAdd, Nat.reduceBEq, Nat.reduceLeDiff, Nat.reduceLT, Nat.reduceEqDiff, ↓reduceIte, true_and, and_true, List.cons_append, List.nil_append, Int32.reduceLT, Int32.reduceLE, Int32.reduceAdd, Int32.reduceToNatClampNeg, Int32.reduceOfNat, true_imp_iff, false_imp_iff, not_true_eq_false, not_false_eq_true, or_true, true_or, or_false, false_or, and_self, Bool.or_true, Bool.or_false, Bool.true_or, Bool.false_or, implies_true, forall_const, Bool.false_eq_true, Int32.neg_neg, ax_X62, ry_63, c1,c3,c4,c5,c7,c8]
    have e10 : D 10 k = D0 10 k := by
      rw [hm.1 10 (by decide) (by decide)]
      unfold shf_
      rw [if_neg (by omega)]
    have c9 : nI (k + 1) + -1 = nI k := by rw [← c3]; exact (Int32.sub_eq_add_neg _ _).symm
    have c6 : vp_in (nI (k + 1)) 20 := vp_in_nI (by omega) (by omega)
    rw [e10, c9]
    refine ⟨fun c => ⟨c6, f ?_ hm⟩, fun c => ⟨c6, ih _ (by omega) ?_ ⟨fun x a b => ?_, fun x a => ?_⟩⟩⟩
    · rw [← hi]
      unfold ip_
      rw [if_neg (Int32.not_lt.mpr c)]
    · rw [← hi]
      conv => rhs; unfold ip_
      rw [if_pos (Int32.not_le.mp c)]
    · have hx : x = 7 ∨ x = 8 ∨ x = 9 ∨ x = 10 ∨ x = 11 := by omega
      rcases hx with rfl | rfl | rfl | rfl | rfl
      · have e : shf_ (D0 7) k n = ax_up (D 7) (k + 1) (D 7 k) := by
          rw [hm.1 7 (by decide) (by decide)]; exact (shf_1 (D0 7) k n (by omega)).symm
        rw [e]
        first | rfl | (rw [← e10]; rfl)
      · have e : shf_ (D0 8) k n = ax_up (D 8) (k + 1) (D 8 k) := by
          rw [hm.1 8 (by decide) (by decide)]; exact (shf_1 (D0 8) k n (by omega)).symm
        rw [e]
        first | rfl | (rw [← e10]; rfl)
      · have e : shf_ (D0 9) k n = ax_up (D 9) (k + 1) (D 9 k) := by
          rw [hm.1 9 (by decide) (by decide)]; exact (shf_1 (D0 9) k n (by omega)).symm
        rw [e]
        first | rfl | (rw [← e10]; rfl)
      · have e : shf_ (D0 10) k n = ax_up (D 10) (k + 1) (D 10 k) := by
          rw [hm.1 10 (by decide) (by decide)]; exact (shf_1 (D0 10) k n (by omega)).symm
        rw [e]
        first | rfl | (rw [← e10]; rfl)
      · have e : shf_ (D0 11) k n = ax_up (D 11) (k + 1) (D 11 k) := by
          rw [hm.1 11 (by decide) (by decide)]; exact (shf_1 (D0 11) k n (by omega)).symm
        rw [e]
        first | rfl | (rw [← e10]; rfl)
    · rw [ax_up_n _ _ (by omega), ax_up_n _ _ (by omega), ax_up_n _ _ (by omega), ax_up_n _ _ (by omega), ax_up_n _ _ (by omega)]
      exact hm.2 x a
/-- AskewLetters$Shop.addEvent(IIIII)V -/
def cy_62 : ax_P1 := fun as z K => ∃ (p1 : Int32) (p2 : Int32) (p3 : Int32) (p4 : Int32) (p5 : Int32) (D : ax_Dn) (E : ax_En), as = [.ref 2, .int p1, .int p2, .int p3, .int p4, .int p5] ∧ z = ax_S D E ∧ (∃ n : Nat, D 2 5 = nI n ∧ n < 20 ∧ (∀ D', (∀ c v, (c, v) ∈ [(7, p1), (8, p2), (9, p3), (10, p4), (11, p5)] → D' c = ins_ (D c) (ip_ (D 10) p4 n) n v) → (∀ c, ¬ c = 2 → ¬ (7 ≤ c ∧ c ≤ 11) → D' c = D c) → D' 2 = ax_up (D 2) 5 (nI (n + 1)) → K none (ax_S D' E)))
theorem ry_62 (p1 : Int32) (p2 : Int32) (p3 : Int32) (p4 : Int32) (p5 : Int32) (D : ax_Dn) (E : ax_En) (K : ax_Po) : cy_62 [.ref 2, .int p1, .int p2, .int p3, .int p4, .int p5] (ax_S D E) K = (∃ n : Nat, D 2 5 = nI n ∧ n < 20 ∧ (∀ D', (∀ c v, (c, v) ∈ [(7, p1), (8, p2), (9, p3), (10, p4), (11, p5)] → D' c = ins_ (D c) (ip_ (D 10) p4 n) n v) → (∀ c, ¬ c = 2 → ¬ (7 ≤ c ∧ c ≤ 11) → D' c = D c) → D' 2 = ax_up (D 2) 5 (nI (n + 1)) → K none (ax_S D' E))) := propext ⟨fun ⟨p1', p2', p3', p4', p5', D', E', h1, h2, h3⟩ => by cases h1; obtain ⟨rfl, rfl⟩ := ax_S_inj h2; exact h3, fun h => ⟨p1, p2, p3, p4, p5, D, E, rfl, rfl, h⟩⟩
theorem sy_62 {g : ax_G} : ∀ as z K, cy_62 as z K → ax_MM g 62 as z K := by
  rintro _ _ K ⟨p1, p2, p3, p4, p5, D, E, rfl, rfl, h⟩
  refine ax_go62 _ _ _ _ _ _ ?_
  obtain ⟨n, h1, h2, h⟩ := h
  have c1 : nI n < 20 := by
    rw [show (20 : Int32) = nI 20 from rfl, nI_ltI (by omega) (by omega)]; omega
  refine ax_WPo (l := [(63, cy_63)]) (ax_oc sy_63 ax_on) ax_ok62 (fun t => t == 16) 400 0 rfl ?_
  simp +decide only [↓ax_B, ax_B, ax_kds, ax_gvs, ax_mcs, ax_ia_S, ax_up_ap, ax_vinL, and_self_left, ax_up_up, ax_up_sw, Nat.reduceAdd, Nat.reduceBEq, Nat.reduceLeDiff, Nat.reduceLT, Nat.reduceEqDiff, ↓reduceIte, true_and, and_true, List.cons_append, List.nil_append, Int32.reduceLT, Int32.reduceLE, Int32.reduceAdd, Int32.reduceToNatClampNeg, Int32.reduceOfNat, true_imp_iff, false_imp_iff, not_true_eq_false, not_false_eq_true, or_true, true_or, or_false, false_or, and_self, Bool.or_true, Bool.or_false, Bool.true_or, Bool.false_or, implies_true, forall_const, Bool.false_eq_true, Int32.neg_neg, ax_X62, ry_63, h1,c1]
  refine lp_62 n p1 p2 p3 p4 p5 h1 h2 h n D (Nat.le_refl n) rfl ⟨fun c a b => ?_, fun c a => rfl⟩
  exact (shf_0 (D c) n).symm
