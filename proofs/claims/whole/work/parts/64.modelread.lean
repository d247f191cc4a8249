/-! The book's text is read: the model. -/
def hm_ (t : Nat → Int32) (n p : Nat) : Int32 := if p < n then t p else -1
theorem hm_b {t : Nat → Int32} {n p : Nat} {b : Int32} (hb : ¬ b = -1) : byt t n p b ↔ hm_ t n p = b := by
  unfold byt hm_
  by_cases h : p < n
  · rw [if_pos h]; exact ⟨fun q => q.2, fun q => ⟨h, q⟩⟩
  · rw [if_neg h]; exact ⟨fun q => absurd q.1 h, fun q => absurd q.symm hb⟩
/-- the model's tape, its size and the place that is read -/
def tmd_ (D : ax_Dn) (n p : Nat) : Prop := D 58 20 = nI n ∧ D 58 21 = nI p ∧ n ≤ 64 ∧ p ≤ n
/-- AskewLettersModel.sign()I -/
def cy_131h : ax_P1 := fun as z K => ∃ (D : ax_Dn) (E : ax_En), as = [.ref 58] ∧ z = ax_S D E ∧ (∃ n p : Nat, tmd_ D n p ∧ K (some (.int (hm_ (D 60) n p))) (ax_S D E))
theorem ry_131h  (D : ax_Dn) (E : ax_En) (K : ax_Po) : cy_131h [.ref 58] (ax_S D E) K = (∃ n p : Nat, tmd_ D n p ∧ K (some (.int (hm_ (D 60) n p))) (ax_S D E)) := propext ⟨fun ⟨D', E', h1, h2, h3⟩ => by cases h1; obtain ⟨rfl, rfl⟩ := ax_S_inj h2; exact h3, fun h => ⟨D, E, rfl, rfl, h⟩⟩
theorem sy_131h {g : ax_G} : ∀ as z K, cy_131h as z K → ax_MM g 131 as z K := by
  rintro _ _ K ⟨D, E, rfl, rfl, h⟩
  refine ax_go131 _ ?_
  obtain ⟨n, p, ⟨h1, h2, h3, h4⟩, h⟩ := h
  have c2 : nI n ≤ nI p ↔ n ≤ p := nI_leI (by omega) (by omega)
  have c3 : (nI p).toNatClampNeg = p := nI_clamp (by omega)
  unfold hm_ at h
  refine ax_WPo (l := []) ax_on ax_ok131 (fun _ => false) 400 0 rfl ?_
  simp +decide only [↓ax_B, ax_B, ax_kds, ax_gvs, ax_mcs, ax_ia_S, ax_up_ap, ax_vinL, and_self_left, ax_up_up, ax_up_sw, Nat.reduceAdd, Nat.reduceBEq, Nat.reduceLeDiff, Nat.reduceLT, Nat.reduceEqDiff, ↓reduceIte, true_and, and_true, List.cons_append, List.nil_append, Int32.reduceLT, Int32.reduceLE, Int32.reduceAdd, Int32.reduceToNatClampNeg, Int32.reduceOfNat, true_imp_iff, false_imp_iff, not_true_eq_false, not_false_eq_true, or_true, true_or, or_false, false_or, and_self, Bool.or_true, Bool.or_false, Bool.true_or, Bool.false_or, implies_true, forall_const, Bool.false_eq_true, Int32.neg_neg, ax_X131, h1, h2, c2, c3]
  refine ⟨fun c => ?_, fun c => ⟨vp_in_nI (by omega) (by omega), ?_⟩⟩
  · rw [if_neg (by omega)] at h; exact h
  · rw [if_pos (by omega)] at h; exact h
