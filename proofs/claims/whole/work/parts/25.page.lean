/-! Which strokes count: the first ones of their signs, and of these the first five. -/
def sg_ok (sg : Nat → Int32) : Prop := ∀ k, ax_cnt (sg k) 9
def fs_ (sg : Nat → Int32) (f : Nat) : Nat → List Nat
  | 0 => []
  | n + 1 => if sg (f + n) ∈ (fs_ sg f n).map sg then fs_ sg f n else fs_ sg f n ++ [f + n]
def mk_ (sg : Nat → Int32) (f : Nat) : Nat → Nat
  | 0 => 0
  | n + 1 => mk_ sg f n ||| 2 ^ (sg (f + n)).toNatClampNeg
theorem bt_all {m s : Nat} (hm : m < 1024) (hs : s < 10) : (nI m ||| 1 <<< (nI s &&& 31) = nI (m ||| 2 ^ s)) ∧ (nI m >>> (nI s &&& 31) &&& 1 = nI (if m.testBit s = true then 1 else 0)) ∧ m ||| 2 ^ s < 1024 ∧ pp_ (m ||| 2 ^ s) 10 = pp_ m 10 + (if m.testBit s = true then 0 else 1) := by
  have h := List.all_eq_true.mp (List.all_eq_true.mp bt_dec m (List.mem_range.mpr hm)) s (List.mem_range.mpr hs)
  simp only [Bool.and_eq_true, decide_eq_true_eq] at h
  exact ⟨h.1.1.1, h.1.1.2, h.1.2, h.2⟩
theorem sg_of {sg : Nat → Int32} (h : sg_ok sg) (k : Nat) : ∃ s : Nat, sg k = nI s ∧ s < 10 ∧ (sg k).toNatClampNeg = s := by
  obtain ⟨s, h1, h2, h3⟩ := ax_cnt_of (h k) (by decide)
  exact ⟨s, h1, by omega, h3⟩
theorem mk_lt {sg : Nat → Int32} (h : sg_ok sg) (f : Nat) : ∀ n, mk_ sg f n < 1024 := by
  intro n
  induction n with
  | zero => show 0 < 1024; decide
  | succ n ih =>
    obtain ⟨s, -, h2, h3⟩ := sg_of h (f + n)
    unfold mk_
    rw [h3]
    exact (bt_all ih h2).2.2.1
theorem fs_vals {sg : Nat → Int32} {f : Nat} {v : Int32} : ∀ {n}, v ∈ (fs_ sg f n).map sg ↔ ∃ k, k < n ∧ sg (f + k) = v := by
  intro n
  induction n with
  | zero => simp [fs_]
  | succ n ih =>
    unfold fs_
    split
    · rename_i hc
      rw [ih]
      constructor
      · rintro ⟨k, h1, h2⟩; exact ⟨k, by omega, h2⟩
      · rintro ⟨k, h1, h2⟩
        by_cases hk : k = n
        · subst hk
          rw [← h2]
          exact ih.mp (h2 ▸ hc) |>.elim fun k' hk' => ⟨k', hk'.1, by rw [hk'.2, h2]⟩
        · exact ⟨k, by omega, h2⟩
    · rw [List.map_append, List.mem_append, ih]
      constructor
      · rintro (⟨k, h1, h2⟩ | h)
        · exact ⟨k, by omega, h2⟩
        · simp at h
          exact ⟨n, by omega, h.symm⟩
      · rintro ⟨k, h1, h2⟩
        by_cases hk : k = n
        · subst hk
          exact Or.inr (by simp [h2])
        · exact Or.inl ⟨k, by omega, h2⟩
theorem mk_bit {sg : Nat → Int32} (h : sg_ok sg) {f s : Nat} (hs : s < 10) : ∀ {n}, (mk_ sg f n).testBit s = true ↔ ∃ k, k < n ∧ sg (f + k) = nI s := by
  intro n
  induction n with
  | zero => simp [mk_]
  | succ n ih =>
    obtain ⟨s2, h1, h2, h3⟩ := sg_of h (f + n)
    unfold mk_
    rw [h3, Nat.testBit_or, Bool.or_eq_true, ih, Nat.testBit_two_pow]
    constructor
    · rintro (⟨k, q1, q2⟩ | q)
      · exact ⟨k, by omega, q2⟩
      · have : s2 = s := by simpa using q
        exact ⟨n, by omega, by rw [h1, this]⟩
    · rintro ⟨k, q1, q2⟩
      by_cases hk : k = n
      · subst hk
        rw [h1] at q2
        exact Or.inr (by simpa using (nI_eq (by omega) (by omega)).mp q2)
      · exact Or.inl ⟨k, by omega, q2⟩
theorem mk_fs {sg : Nat → Int32} (h : sg_ok sg) {f s n : Nat} (hs : s < 10) : (mk_ sg f n).testBit s = true ↔ nI s ∈ (fs_ sg f n).map sg := by
  rw [mk_bit h hs, fs_vals]
theorem pp_fs {sg : Nat → Int32} (h : sg_ok sg) (f : Nat) : ∀ n, pp_ (mk_ sg f n) 10 = (fs_ sg f n).length := by
  intro n
  induction n with
  | zero => show pp_ 0 10 = 0; decide
  | succ n ih =>
    obtain ⟨s, h1, h2, h3⟩ := sg_of h (f + n)
    unfold mk_ fs_
    rw [h3, (bt_all (mk_lt h f n) h2).2.2.2, ih, h1]
    by_cases hb : (mk_ sg f n).testBit s = true
    · rw [if_pos hb, if_pos ((mk_fs h h2).mp hb)]
      rfl
    · rw [if_neg hb, if_neg (fun q => hb ((mk_fs h h2).mpr q))]
      simp
theorem fs_pre (sg : Nat → Int32) (f : Nat) {n m : Nat} (h : n ≤ m) : ∃ t, fs_ sg f m = fs_ sg f n ++ t := by
  induction h with
  | refl => exact ⟨[], by simp⟩
  | @step m _ ih =>
    obtain ⟨t, ht⟩ := ih
    have e : fs_ sg f (m + 1) = if sg (f + m) ∈ (fs_ sg f m).map sg then fs_ sg f m else fs_ sg f m ++ [f + m] := rfl
    rw [e]
    split
    · exact ⟨t, ht⟩
    · exact ⟨t ++ [f + m], by rw [ht, List.append_assoc]⟩
theorem fs_mem {sg : Nat → Int32} {f i : Nat} : ∀ {n}, i ∈ fs_ sg f n → f ≤ i ∧ i < f + n := by
  intro n
  induction n with
  | zero => simp [fs_]
  | succ n ih =>
    intro h
    unfold fs_ at h
    split at h
    · have := ih h; omega
    · rcases List.mem_append.mp h with h | h
      · have := ih h; omega
      · simp at h; omega
/-- does stroke i count, seen from f on -/
def ct_ (sg : Nat → Int32) (f i : Nat) : Bool := decide (sg i ∉ (fs_ sg f (i - f)).map sg) && decide ((fs_ sg f (i - f)).length < 5)
theorem lp_154b {g : ax_G} {K : ax_Po} {D : ax_Dn} {E : ax_En} (i f m : Nat) (hm : m < 1024) (h : (pp_ m 10 < 5 → K (some (.int 1)) (ax_S D E)) ∧ (¬ pp_ m 10 < 5 → K (some (.int 0)) (ax_S D E))) : ∀ (j s : Nat), s + j = 10 → ax_WP g (ax_hy 154) K 92 92 53 [some (.ref 58), some (.int (nI i)), some (.int (nI f)), some (.int (nI m)), some (.int (nI (pp_ m s))), some (.int (nI s))] [] (ax_S D E) := by
  intro j
  have hp : ∀ s, pp_ m s ≤ s := by
    intro s
    induction s with
    | zero => exact Nat.le_refl _
    | succ s ih => unfold pp_; split <;> omega
  induction j with
  | zero =>
    intro s hs
    obtain rfl : s = 10 := by omega
    have hc : (10 : Int32) ≤ nI 10 := by decide
    refine ax_WPo (l := []) ax_on ax_ok154 (fun t => t == 5 || t == 53) 400 53 rfl ?_
    simp +decide only [↓ax_B, ax_B, ax_kds, ax_gvs, ax_mcs, ax_ia_S, ax_up_ap, ax_vinL, and_self_left, ax_up_up, ax_up_sw, Nat.reduceAdd, Nat.reduceBEq, Nat.reduceLeDiff, Nat.reduceLT, Nat.reduceEqDiff, ↓reduceIte, true_and, and_true, List.cons_append, List.nil_append, Int32.reduceLT, Int32.reduceLE, Int32.reduceAdd, Int32.reduceToNatClampNeg, Int32.reduceOfNat, true_imp_iff, false_imp_iff, not_true_eq_false, not_false_eq_true, or_true, true_or, or_false, false_or, and_self, Bool.or_true, Bool.or_false, Bool.true_or, Bool.false_or, implies_true, forall_const, Bool.false_eq_true, Int32.neg_neg, ax_X154, hc]
    have h10 := hp 10
    have e5 : (5 : Int32) = nI 5 := by decide
    refine ⟨fun c => h.2 ?_, fun c => h.1 ?_⟩
    · rw [e5, nI_leI (by omega) (by omega)] at c
      omega
    · rw [e5, nI_leI (by omega) (by omega)] at c
      omega
  | succ j ih =>
    intro s hs
    have e10 : (10 : Int32) = nI 10 := by decide
    have hc : ¬ (10 : Int32) ≤ nI s := by rw [e10]; exact nI_ge (by omega) (by omega)
    have h3 : nI s + 1 = nI (s + 1) := nI_1 s
    have h4 := (bt_all hm (show s < 10 by omega)).2.1
    refine ax_WPo (l := []) ax_on ax_ok154 (fun t => t == 5 || t == 53) 400 53 rfl ?_
    simp +decide only [↓ax_B, ax_B, ax_kds, ax_gvs, ax_mcs, ax_ia_S, ax_up_ap, ax_vinL, and_self_left, ax_up_up, ax_up_sw, Nat.reduceAdd, Nat.reduceBEq, Nat.reduceLeDiff, Nat.reduceLT, Nat.reduceEqDiff, ↓reduceIte, true_and, and_true, List.cons_append, List.nil_append, Int32.reduceLT, Int32.reduceLE, Int32.reduceAdd, Int32.reduceToNatClampNeg, Int32.reduceOfNat, true_imp_iff, false_imp_iff, not_true_eq_false, not_false_eq_true, or_true, true_or, or_false, false_or, and_self, Bool.or_true, Bool.or_false, Bool.true_or, Bool.false_or, implies_true, forall_const, Bool.false_eq_true, Int32.neg_neg, ax_X154, hc, h3, h4, nI_add]
    exact ih (s + 1) (by omega)
theorem lp_154a {g : ax_G} {K : ax_Po} {D : ax_Dn} {E : ax_En} (hsg : sg_ok (D 81)) (i f : Nat) (hi : i < 30) (hf : f ≤ i) (h : (ct_ (D 81) f i = true → K (some (.int 1)) (ax_S D E)) ∧ (ct_ (D 81) f i = false → K (some (.int 0)) (ax_S D E))) : ∀ (j n : Nat), f + n + j = i → (∀ k, k < n → D 81 (f + k) ≠ D 81 i) → ax_WP g (ax_hy 154) K 92 92 5 [some (.ref 58), some (.int (nI i)), some (.int (nI f)), some (.int (nI (mk_ (D 81) f n))), some (.int (nI (f + n))), none] [] (ax_S D E) := by
  intro j
  induction j with
  | zero =>
    intro n hn hne
    have hc : nI i ≤ nI (f + n) := nI_le (by omega) (by omega)
    refine ax_WPo (l := []) ax_on ax_ok154 (fun t => t == 5 || t == 53) 400 5 rfl ?_
    simp +decide only [↓ax_B, ax_B, ax_kds, ax_gvs, ax_mcs, ax_ia_S, ax_up_ap, ax_vinL, and_self_left, ax_up_up, ax_up_sw, Nat.reduceAdd, Nat.reduceBEq, Nat.reduceLeDiff, Nat.reduceLT, Nat.reduceEqDiff, ↓reduceIte, true_and, and_true, List.cons_append, List.nil_append, Int32.reduceLT, Int32.reduceLE, Int32.reduceAdd, Int32.reduceToNatClampNeg, Int32.reduceOfNat, true_imp_iff, false_imp_iff, not_true_eq_false, not_false_eq_true, or_true, true_or, or_false, false_or, and_self, Bool.or_true, Bool.or_false, Bool.true_or, Bool.false_or, implies_true, forall_const, Bool.false_eq_true, Int32.neg_neg, ax_X154, hc]
    refine lp_154b i f _ (mk_lt hsg f n) ?_ 10 0 (by omega)
    have e1 : i - f = n := by omega
    have hmem : D 81 i ∉ (fs_ (D 81) f n).map (D 81) := by
      rw [fs_vals]
      rintro ⟨k, q1, q2⟩
      exact hne k q1 q2
    rw [pp_fs hsg]
    unfold ct_ at h
    rw [e1] at h
    refine ⟨fun c => h.1 ?_, fun c => h.2 ?_⟩
    · simp [hmem, c]
    · simp [c]
  | succ j ih =>
    intro n hn hne
    have hc : ¬ nI i ≤ nI (f + n) := nI_ge (by omega) (by omega)
    have h1 : vp_in (nI (f + n)) 30 := vp_in_nI (by omega) (by omega)
    have h1' : vp_in (nI i) 30 := vp_in_nI (by omega) (by omega)
    have h2 : (nI (f + n)).toNatClampNeg = f + n := nI_clamp (by omega)
    have h2' : (nI i).toNatClampNeg = i := nI_clamp (by omega)
    have h3 : nI (f + n) + 1 = nI (f + (n + 1)) := nI_1 _
    obtain ⟨s, q1, q2, q3⟩ := sg_of hsg (f + n)
    have h4 := (bt_all (mk_lt hsg f n) q2).1
    refine ax_WPo (l := []) ax_on ax_ok154 (fun t => t == 5 || t == 53) 400 5 rfl ?_
    simp +decide only [↓ax_B, ax_B, ax_kds, ax_gvs, ax_mcs, ax_ia_S, ax_up_ap, ax_vinL, and_self_left, ax_up_up, ax_up_sw, Nat.reduceAdd, Nat.reduceBEq, Nat.reduceLeDiff, Nat.reduceLT, Nat.reduceEqDiff, ↓reduceIte, true_and, and_true, List.cons_append, List.nil_append, Int32.reduceLT, Int32.reduceLE, Int32.reduceAdd, Int32.reduceToNatClampNeg, Int32.reduceOfNat, true_imp_iff, false_imp_iff, not_true_eq_false, not_false_eq_true, or_true, true_or, or_false, false_or, and_self, Bool.or_true, Bool.or_false, Bool.true_or, Bool.false_or, implies_true, forall_const, Bool.false_eq_true, Int32.neg_neg, ax_X154, hc, h1, h1', h2, h2', h3]
    refine ⟨fun c => ?_, fun c => h.2 ?_⟩
    · have := ih (n + 1) (by omega) (fun k hk => by
        by_cases hkn : k = n
        · subst hkn; exact c
        · exact hne k (by omega))
      have e : mk_ (D 81) f (n + 1) = mk_ (D 81) f n ||| 2 ^ s := by rw [mk_, q3]
      rw [e, ← h4, ← q1] at this
      exact this
    · unfold ct_
      have : D 81 i ∈ (fs_ (D 81) f (i - f)).map (D 81) := fs_vals.mpr ⟨n, by omega, c⟩
      simp [this]
/-- AskewLettersModel.counts(II)Z -/
def cy_154 : ax_P1 := fun as z K => ∃ (p1 : Int32) (p2 : Int32) (D : ax_Dn) (E : ax_En), as = [.ref 58, .int p1, .int p2] ∧ z = ax_S D E ∧ (sg_ok (D 81) ∧ vp_in p1 30 ∧ 0 ≤ p2 ∧ p2 ≤ p1 ∧ (ct_ (D 81) p2.toNatClampNeg p1.toNatClampNeg = true → K (some (.int 1)) (ax_S D E)) ∧ (ct_ (D 81) p2.toNatClampNeg p1.toNatClampNeg = false → K (some (.int 0)) (ax_S D E)))
theorem ry_154 (p1 : Int32) (p2 : Int32) (D : ax_Dn) (E : ax_En) (K : ax_Po) : cy_154 [.ref 58, .int p1, .int p2] (ax_S D E) K = (sg_ok (D 81) ∧ vp_in p1 30 ∧ 0 ≤ p2 ∧ p2 ≤ p1 ∧ (ct_ (D 81) p2.toNatClampNeg p1.toNatClampNeg = true → K (some (.int 1)) (ax_S D E)) ∧ (ct_ (D 81) p2.toNatClampNeg p1.toNatClampNeg = false → K (some (.int 0)) (ax_S D E))) := propext ⟨fun ⟨p1', p2', D', E', h1, h2, h3⟩ => by cases h1; obtain ⟨rfl, rfl⟩ := ax_S_inj h2; exact h3, fun h => ⟨p1, p2, D, E, rfl, rfl, h⟩⟩
theorem sy_154 {g : ax_G} : ∀ as z K, cy_154 as z K → ax_MM g 154 as z K := by
  rintro _ _ K ⟨p1, p2, D, E, rfl, rfl, h⟩
  refine ax_go154 _ _ _ ?_
  obtain ⟨hsg, h1, h2, h3, h⟩ := h
  obtain ⟨i, hi, rfl⟩ := vp_in_of h1 (by decide)
  obtain ⟨f, rfl, q1, q2⟩ := na_of (na_le.mp h2)
  have hf : f ≤ i := (nI_leI (by omega) (by omega)).mp h3
  rw [nI_clamp (by omega), nI_clamp (by omega)] at h
  refine ax_WPo (l := []) ax_on ax_ok154 (fun t => t == 5 || t == 53) 400 0 rfl ?_
  simp +decide only [↓ax_B, ax_B, ax_kds, ax_gvs, ax_mcs, ax_ia_S, ax_up_ap, ax_vinL, and_self_left, ax_up_up, ax_up_sw, Nat.reduceAdd, Nat.reduceBEq, Nat.reduceLeDiff, Nat.reduceLT, Nat.reduceEqDiff, ↓reduceIte, true_and, and_true, List.cons_append, List.nil_append, Int32.reduceLT, Int32.reduceLE, Int32.reduceAdd, Int32.reduceToNatClampNeg, Int32.reduceOfNat, true_imp_iff, false_imp_iff, not_true_eq_false, not_false_eq_true, or_true, true_or, or_false, false_or, and_self, Bool.or_true, Bool.or_false, Bool.true_or, Bool.false_or, implies_true, forall_const, Bool.false_eq_true, Int32.neg_neg, ax_X154]
  exact lp_154a hsg i f hi hf h (i - f) 0 (by omega) (fun k hk => absurd hk (by omega))
/-- those that count among the strokes f .. t - 1 -/
def pk_ (sg : Nat → Int32) (f t : Nat) : List Nat := (fs_ sg f (t - f)).take 5
theorem lp_51 {g : ax_G} {K : ax_Po} {D : ax_Dn} {E : ax_En} (hsg : sg_ok (D 13)) (f t : Nat) (ht : t ≤ 30) (h : ∀ arr : Nat → Int32, (∀ i, i < (pk_ (D 13) f t).length → arr i = nI ((pk_ (D 13) f t).getD i 0)) → K (some (.int (nI (pk_ (D 13) f t).length))) (ax_S (ax_up (ax_up D 12 (ax_up (D 12) 6 (nI (pk_ (D 13) f t).length))) 18 arr) E)) :
    ∀ (j n : Nat) (arr : Nat → Int32), f + n + j = t → (fs_ (D 13) f n).length ≤ 5 → (∀ i, i < (fs_ (D 13) f n).length → arr i = nI ((fs_ (D 13) f n).getD i 0)) → ax_WP g (ax_hy 51) K 92 92 10 [some (.ref 12), some (.int (nI f)), some (.int (nI t)), some (.int (nI (mk_ (D 13) f n))), some (.int (nI (f + n)))] [] (ax_S (ax_up (ax_up D 12 (ax_up (D 12) 6 (nI (fs_ (D 13) f n).length))) 18 arr) E) := by
  intro j
  induction j with
  | zero =>
    intro n arr hn h5 harr
    have hc : nI t ≤ nI (f + n) := nI_le (by omega) (by omega)
    have e : pk_ (D 13) f t = fs_ (D 13) f n := by
      unfold pk_
      rw [show t - f = n by omega, List.take_of_length_le h5]
    rw [e] at h
    refine ax_WPo (l := []) ax_on ax_ok51 (fun t => t == 10) 400 10 rfl ?_
    simp +decide only [↓ax_B, ax_B, ax_kds, ax_gvs, ax_mcs, ax_ia_S, ax_up_ap, ax_vinL, and_self_left, ax_up_up, ax_up_sw, Nat.reduceAdd, Nat.reduceBEq, Nat.reduceLeDiff, Nat.reduceLT, Nat.reduceEqDiff, ↓reduceIte, true_and, and_true, List.cons_append, List.nil_append, Int32.reduceLT, Int32.reduceLE, Int32.reduceAdd, Int32.reduceToNatClampNeg, Int32.reduceOfNat, true_imp_iff, false_imp_iff, not_true_eq_false, not_false_eq_true, or_true, true_or, or_false, false_or, and_self, Bool.or_true, Bool.or_false, Bool.true_or, Bool.false_or, implies_true, forall_const, Bool.false_eq_true, Int32.neg_neg, ax_X51, hc]
    exact h arr harr
  | succ j ih =>
    intro n arr hn h5 harr
    have hc : ¬ nI t ≤ nI (f + n) := nI_ge (by omega) (by omega)
    have h1 : vp_in (nI (f + n)) 30 := vp_in_nI (by omega) (by omega)
    have h2 : (nI (f + n)).toNatClampNeg = f + n := nI_clamp (by omega)
    have h3 : nI (f + n) + 1 = nI (f + (n + 1)) := nI_1 _
    obtain ⟨s, q1, q2, q3⟩ := sg_of hsg (f + n)
    have h4 := bt_all (mk_lt hsg f n) q2
    have e5 : (5 : Int32) = nI 5 := by decide
    have h6 : (nI (fs_ (D 13) f n).length).toNatClampNeg = (fs_ (D 13) f n).length := nI_clamp (by omega)
    have h7 : nI (fs_ (D 13) f n).length + 1 = nI ((fs_ (D 13) f n).length + 1) := nI_1 _
    refine ax_WPo (l := []) ax_on ax_ok51 (fun t => t == 10) 400 10 rfl ?_
    simp +decide only [↓ax_B, ax_B, ax_kds, ax_gvs, ax_mcs, ax_ia_S, ax_up_ap, ax_vinL, and_self_left, ax_up_up, ax_up_sw, Nat.reduceAdd, Nat.reduceBEq, Nat.reduceLeDiff, Nat.reduceLT, Nat.reduceEqDiff, ↓reduceIte, true_and, and_true, List.cons_append, List.nil_append, Int32.reduceLT, Int32.reduceLE, Int32.reduceAdd, Int32.reduceToNatClampNeg, Int32.reduceOfNat, true_imp_iff, false_imp_iff, not_true_eq_false, not_false_eq_true, or_true, true_or, or_false, false_or, and_self, Bool.or_true, Bool.or_false, Bool.true_or, Bool.false_or, implies_true, forall_const, Bool.false_eq_true, Int32.neg_neg, ax_X51, hc, h1, h2, h3, h6, h7, q1, h4.1, h4.2.1]
    refine ⟨fun c => ?_, fun c => ⟨fun c2 => ?_, fun c2 => ⟨?_, ?_⟩⟩⟩
    · rw [e5, nI_leI (by omega) (by omega)] at c
      have e : pk_ (D 13) f t = fs_ (D 13) f n := by
        obtain ⟨tl, htl⟩ := fs_pre (D 13) f (show n ≤ t - f by omega)
        unfold pk_
        rw [htl, List.take_append_of_le_length (by omega), List.take_of_length_le h5]
      rw [e] at h
      exact h arr harr
    · have hb : (mk_ (D 13) f n).testBit s = true := by
        by_cases hb : (mk_ (D 13) f n).testBit s = true
        · exact hb
        · rw [if_neg hb] at c2
          exact absurd nI_0 c2
      have hmem := (mk_fs hsg q2).mp hb
      have e1 : fs_ (D 13) f (n + 1) = fs_ (D 13) f n := by rw [fs_, q1, if_pos hmem]
      have e2 : mk_ (D 13) f (n + 1) = mk_ (D 13) f n := by
        rw [mk_, q3]
        apply Nat.eq_of_testBit_eq
        intro i
        rw [Nat.testBit_or, Nat.testBit_two_pow]
        by_cases hi : s = i
        · subst hi; simp [hb]
        · simp [hi]
      have := ih (n + 1) arr (by omega) (by rw [e1]; exact h5) (by rw [e1]; exact harr)
      rw [e1, e2] at this
      exact this
    · rw [e5, nI_leI (by omega) (by omega)] at c
      exact vp_in_nI (by omega) (by omega)
    · rw [e5, nI_leI (by omega) (by omega)] at c
      have hb : ¬ (mk_ (D 13) f n).testBit s = true := by
        intro hb
        rw [if_pos hb] at c2
        exact absurd c2 (by decide)
      have hmem : nI s ∉ (fs_ (D 13) f n).map (D 13) := fun q => hb ((mk_fs hsg q2).mpr q)
      have e1 : fs_ (D 13) f (n + 1) = fs_ (D 13) f n ++ [f + n] := by rw [fs_, q1, if_neg hmem]
      have e2 : mk_ (D 13) f (n + 1) = mk_ (D 13) f n ||| 2 ^ s := by rw [mk_, q3]
      have := ih (n + 1) (ax_up arr (fs_ (D 13) f n).length (nI (f + n))) (by omega) (by rw [e1]; simp; omega) (by
        rw [e1]
        intro i hi
        simp only [List.length_append, List.length_singleton] at hi
        by_cases hil : i = (fs_ (D 13) f n).length
        · subst hil
          rw [ax_up_s]
          simp
        · rw [ax_up_n _ _ hil, harr i (by omega)]
          simp [List.getD_eq_getElem?_getD, List.getElem?_append_left (show i < (fs_ (D 13) f n).length by omega)])
      rw [e1, e2] at this
      simp only [List.length_append, List.length_singleton] at this
      exact this
/-- AskewLetters$Page.pick(II)I -/
def cy_51 : ax_P1 := fun as z K => ∃ (p1 : Int32) (p2 : Int32) (D : ax_Dn) (E : ax_En), as = [.ref 12, .int p1, .int p2] ∧ z = ax_S D E ∧ (sg_ok (D 13) ∧ 0 ≤ p1 ∧ p1 ≤ p2 ∧ p2 ≤ 30 ∧ ∀ arr : Nat → Int32, (∀ i, i < (pk_ (D 13) p1.toNatClampNeg p2.toNatClampNeg).length → arr i = nI ((pk_ (D 13) p1.toNatClampNeg p2.toNatClampNeg).getD i 0)) → K (some (.int (nI (pk_ (D 13) p1.toNatClampNeg p2.toNatClampNeg).length))) (ax_S (ax_up (ax_up D 12 (ax_up (D 12) 6 (nI (pk_ (D 13) p1.toNatClampNeg p2.toNatClampNeg).length))) 18 arr) E))
theorem ry_51 (p1 : Int32) (p2 : Int32) (D : ax_Dn) (E : ax_En) (K : ax_Po) : cy_51 [.ref 12, .int p1, .int p2] (ax_S D E) K = (sg_ok (D 13) ∧ 0 ≤ p1 ∧ p1 ≤ p2 ∧ p2 ≤ 30 ∧ ∀ arr : Nat → Int32, (∀ i, i < (pk_ (D 13) p1.toNatClampNeg p2.toNatClampNeg).length → arr i = nI ((pk_ (D 13) p1.toNatClampNeg p2.toNatClampNeg).getD i 0)) → K (some (.int (nI (pk_ (D 13) p1.toNatClampNeg p2.toNatClampNeg).length))) (ax_S (ax_up (ax_up D 12 (ax_up (D 12) 6 (nI (pk_ (D 13) p1.toNatClampNeg p2.toNatClampNeg).length))) 18 arr) E)) := propext ⟨fun ⟨p1', p2', D', E', h1, h2, h3⟩ => by cases h1; obtain ⟨rfl, rfl⟩ := ax_S_inj h2; exact h3, fun h => ⟨p1, p2, D, E, rfl, rfl, h⟩⟩
theorem sy_51 {g : ax_G} : ∀ as z K, cy_51 as z K → ax_MM g 51 as z K := by
  rintro _ _ K ⟨p1, p2, D, E, rfl, rfl, h⟩
  refine ax_go51 _ _ _ ?_
  obtain ⟨hsg, h1, h2, h3, h⟩ := h
  obtain ⟨f, rfl, q1, q2⟩ := na_of (na_le.mp h1)
  have h2' := na_le.mp h2
  have h3' : p2.toInt ≤ 30 := na_le.mp h3
  obtain ⟨t, rfl, q3, q4⟩ := na_of (x := p2) (by omega)
  rw [nI_clamp (by omega), nI_clamp (by omega)] at h
  refine ax_WPo (l := []) ax_on ax_ok51 (fun t => t == 10) 400 0 rfl ?_
  simp +decide only [↓ax_B, ax_B, ax_kds, ax_gvs, ax_mcs, ax_ia_S, ax_up_ap, ax_vinL, and_self_left, ax_up_up, ax_up_sw, Nat.reduceAdd, Nat.reduceBEq, Nat.reduceLeDiff, Nat.reduceLT, Nat.reduceEqDiff, ↓reduceIte, true_and, and_true, List.cons_append, List.nil_append, Int32.reduceLT, Int32.reduceLE, Int32.reduceAdd, Int32.reduceToNatClampNeg, Int32.reduceOfNat, true_imp_iff, false_imp_iff, not_true_eq_false, not_false_eq_true, or_true, true_or, or_false, false_or, and_self, Bool.or_true, Bool.or_false, Bool.true_or, Bool.false_or, implies_true, forall_const, Bool.false_eq_true, Int32.neg_neg, ax_X51]
  have := lp_51 (g := g) hsg f t (by omega) h (t - f) 0 (D 18) (by omega) (Nat.zero_le _) (fun i hi => absurd hi (Nat.not_lt_zero _))
  have e : ax_up (ax_up D 12 (ax_up (D 12) 6 (nI (fs_ (D 13) f 0).length))) 18 (D 18) = ax_up D 12 (ax_up (D 12) 6 0) := by
    funext a
    unfold ax_up
    by_cases ha : a = 18
    · subst ha; rfl
    · rw [if_neg ha]; rfl
  rw [e] at this
  exact this
