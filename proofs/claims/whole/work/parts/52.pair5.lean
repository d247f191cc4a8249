/-! Pairs: odds, sittings, gain. -/
set_option maxRecDepth 10000 in
theorem pr_86 {D : ax_Dn} (E : ax_En) (hJ : J D) (p1 : Int32) (p2 : Int32) (p3 : Int32) : cy_86 [.ref 0, .int p1, .int p2, .int p3] (ax_S D E) (KL cy_172 [.ref 58, .int p1, .int p2, .int p3]) := by
  have hok := J_okC hJ
  have hokM := J_okM hJ
  obtain ⟨e22, e23, e32, e35, e40, f68, f69, f70, f81, f82, f83, f84, f85, f86, f76⟩ := J_eqs hJ
  have c22 := hok.1
  have c23 := hok.2.1
  have c32 := hok.2.2.1
  have csg := hok.2.2.2.1
  have c35 := hok.2.2.2.2.2.2.2.2.2.2.2.2.2.2.2.1
  have s32 := fun p => sb1_ (p := p) c32
  have n32 : 0 ≤ D 12 0 := na_le.mpr c32.1
  have m32 : D 12 0 ≤ 30 := na_le.mpr c32.2
  rw [ry_86]
  simp only [KL_i]
  have core : ∀ p3 : Int32, (p3 = 0 ∨ p3 = 1) → (p1 = 6 ∨ (¬p1 = 6 ∧ ¬p1 < 0 ∧ ¬D 2 0 ≤ p1)) → (0 ≤ p2 → (p2 ≤ 365 → okC D ∧ 0 ≤ D 12 0 ∧ D 12 0 ≤ 30 ∧ ∀ (D' : ax_Dn) (E' : ax_En), sm1 D D' → (∀ (i : Nat), i < 7 → E' 53 i = sh_ D p2 (D 12 0).toNatClampNeg i) → E' 52 1 = sl_ (sh_ D p2 (D 12 0).toNatClampNeg) 7 → (¬lg_cmp (sl_ (sh_ D p2 (D 12 0).toNatClampNeg) 7) 0 = 0 → vp_in p1 7 ∧ ∃ a b, E' 53 p1.toNatClampNeg = lN a ∧ E' 52 1 = lN b ∧ a < 2 ^ 63 ∧ b < 2 ^ 63 ∧ 0 < b ∧ cy_172 [.ref 58, .int p1, .int p2, .int p3] (ax_S D' E') (FL (lN (lt_N a b p3)))) ∧ (lg_cmp (sl_ (sh_ D p2 (D 12 0).toNatClampNeg) 7) 0 = 0 → cy_172 [.ref 58, .int p1, .int p2, .int p3] (ax_S (ax_up D' 51 (ax_up (D' 51) 3 (D' 51 3 + 1))) E') (FL (4000000000000000000 - (-3).toInt64)))) ∧ (¬p2 ≤ 365 → cy_172 [.ref 58, .int p1, .int p2, .int p3] (ax_S (ax_up D 51 (ax_up (D 51) 6 (D 51 6 + 1))) E) (FL (4000000000000000000 - (-6).toInt64)))) ∧ (¬0 ≤ p2 → cy_172 [.ref 58, .int p1, .int p2, .int p3] (ax_S (ax_up D 51 (ax_up (D 51) 4 (D 51 4 + 1))) E) (FL (4000000000000000000 - (-4).toInt64))) := by
    intro p3 hp hm
    have b1 : ¬ p3 < 0 := by rcases hp with rfl | rfl <;> decide
    have b2 : ¬ 1 < p3 := by rcases hp with rfl | rfl <;> decide
    have o51 := okM_up D 51 (ax_up (D 51) 6 (D 51 6 + 1)) (by decide)
    refine ⟨fun c3 => ⟨fun c4 => ⟨hok, n32, m32, fun D' E' hs hE hT => ⟨fun c5 => ?_, fun c5 => ?_⟩⟩, fun c4 => ?_⟩, fun c3 => ?_⟩
    · rw [cm_eq0] at c5
      have hsm := sm1_sm hs
      have hJ' := J_s (sm_sJ hsm) hJ
      have hokM' := J_okM hJ'
      have hLM' := J_LM hJ'
      have hFM' := J_FM hJ'
      obtain ⟨e22', e23', e32', e35', e40', f68', f69', f70', f81', f82', f83', f84', f85', f86', f76'⟩ := J_eqs hJ'
      have t2 := sm_at hsm 2
      have t3 := sm_at hsm 3
      have t12 := sm_12 hsm
      have t13 := sm_at hsm 13
      have t21 := sm_at hsm 21
      have tL := sm_LC hsm
      have tF := sm_FC hsm
      have hal := al_sh hJ' p2 (D 12 0).toNatClampNeg
      rw [t2, sm_sh hsm] at hal
      obtain ⟨b, y3, y4⟩ := sl_nat (f := sh_ D p2 (D 12 0).toNatClampNeg) (n := 7) (B := 171781259599673856) (fun i hi => by
        obtain ⟨q, x1, x2, -⟩ := sh_nat hJ p2 (D 12 0).toNatClampNeg i hi
        exact ⟨q, x1, x2⟩)
      have b0 : 0 < b := by
        rcases Nat.eq_zero_or_pos b with q | q
        · rw [y3, q] at c5; exact absurd rfl c5
        · exact q
      have c5' : ¬ lg_cmp (sl_ (sh_ D p2 (D 12 0).toNatClampNeg) 7) 0 = 0 := by rw [cm_eq0]; exact c5
      have v7 : vp_in p1 7 := by
        rcases hm with rfl | ⟨-, x1, x2⟩
        · exact na_in (by decide) (by decide)
        · exact v67_ (vm_ c22 x1 x2)
      obtain ⟨i, hi, hpi⟩ := vp_in_of v7 (by decide)
      have hcl : p1.toNatClampNeg = i := by rw [hpi, nI_clamp (by omega)]
      obtain ⟨a, x1, x2, -⟩ := sh_nat hJ p2 (D 12 0).toNatClampNeg i hi
      have hw : wm_ D' p2 (D 12 0).toNatClampNeg i = lN a := by
        rw [wm_sh hJ' p2 _ i ?_, sm_sh hsm, x1]
        rcases hm with z | ⟨z, z1, z2⟩
        · right
          rw [hpi, show (6 : Int32) = nI 6 by decide, nI_eq (by omega) (by omega)] at z
          exact z
        · left
          rw [hpi] at z z2
          refine ⟨by rw [t2]; exact Int32.not_le.mp z2, ?_⟩
          rw [show (6 : Int32) = nI 6 by decide, nI_eq (by omega) (by omega)] at z
          omega
      refine ⟨v7, a, b, by rw [hcl, hE i hi, x1], by rw [hT, y3], by omega, by omega, b0, ?_⟩
      rw [ry_172]
      rcases hm with rfl | ⟨z, z1, z2⟩
      · simp only [FL_i, e22', e32', t2, t12, hokM', hal, hcl, hw, v7, n32, m32, b1, b2, c3, c4, c5', true_imp_iff, false_imp_iff, not_true_eq_false, not_false_eq_true, true_and, and_true, implies_true]
        exact ⟨a, b, rfl, y3, by omega, by omega, b0, rfl, hJ'⟩
      · simp only [FL_i, e22', e32', t2, t12, hokM', hal, hcl, hw, v7, n32, m32, b1, b2, c3, c4, c5', z, z1, z2, true_imp_iff, false_imp_iff, not_true_eq_false, not_false_eq_true, true_and, and_true, implies_true]
        exact ⟨a, b, rfl, y3, by omega, by omega, b0, rfl, hJ'⟩
    · have c5' := c5
      have hsm := sm1_sm hs
      have hJ' := J_s (sm_sJ hsm) hJ
      have hokM' := J_okM hJ'
      have hLM' := J_LM hJ'
      have hFM' := J_FM hJ'
      obtain ⟨e22', e23', e32', e35', e40', f68', f69', f70', f81', f82', f83', f84', f85', f86', f76'⟩ := J_eqs hJ'
      have t2 := sm_at hsm 2
      have t3 := sm_at hsm 3
      have t12 := sm_12 hsm
      have t13 := sm_at hsm 13
      have t21 := sm_at hsm 21
      have tL := sm_LC hsm
      have tF := sm_FC hsm
      have hal := al_sh hJ' p2 (D 12 0).toNatClampNeg
      rw [t2, sm_sh hsm] at hal
      rw [ry_172]
      rcases hm with rfl | ⟨z, z1, z2⟩
      · simp only [FL_i, ax_up_ap, Nat.reduceEqDiff, ↓reduceIte, e22', e32', t2, t12, okM_up _ 51 _ (by decide : kM 51 = true), hokM', wm_51, hal, n32, m32, b1, b2, c3, c4, c5, true_imp_iff, false_imp_iff, not_true_eq_false, not_false_eq_true, true_and, and_true, implies_true]
        exact J_ref _ hJ'
      · simp only [FL_i, ax_up_ap, Nat.reduceEqDiff, ↓reduceIte, e22', e32', t2, t12, okM_up _ 51 _ (by decide : kM 51 = true), hokM', wm_51, hal, n32, m32, b1, b2, c3, c4, c5, z, z1, z2, true_imp_iff, false_imp_iff, not_true_eq_false, not_false_eq_true, true_and, and_true, implies_true]
        exact J_ref _ hJ'
    · rw [ry_172]
      rcases hm with rfl | ⟨z, z1, z2⟩
      · simp only [FL_i, ax_up_ap, Nat.reduceEqDiff, ↓reduceIte, e22, b1, b2, c3, c4, true_imp_iff, false_imp_iff, not_true_eq_false, not_false_eq_true, true_and, and_true, implies_true]
        exact J_ref _ hJ
      · simp only [FL_i, ax_up_ap, Nat.reduceEqDiff, ↓reduceIte, e22, b1, b2, z, z1, z2, c3, c4, true_imp_iff, false_imp_iff, not_true_eq_false, not_false_eq_true, true_and, and_true, implies_true]
        exact J_ref _ hJ
    · rw [ry_172]
      rcases hm with rfl | ⟨z, z1, z2⟩
      · simp only [FL_i, ax_up_ap, Nat.reduceEqDiff, ↓reduceIte, e22, b1, b2, c3, true_imp_iff, false_imp_iff, not_true_eq_false, not_false_eq_true, true_and, and_true, implies_true]
        exact J_ref _ hJ
      · simp only [FL_i, ax_up_ap, Nat.reduceEqDiff, ↓reduceIte, e22, b1, b2, z, z1, z2, c3, true_imp_iff, false_imp_iff, not_true_eq_false, not_false_eq_true, true_and, and_true, implies_true]
        exact J_ref _ hJ
  have bad : (¬p1 = 6 ∧ (p1 < 0 ∨ D 2 0 ≤ p1)) → cy_172 [.ref 58, .int p1, .int p2, .int p3] (ax_S (ax_up D 51 (ax_up (D 51) 1 (D 51 1 + 1))) E) (FL (4000000000000000000 - (-1).toInt64)) := by
    rintro ⟨z, z1⟩
    rw [ry_172]
    by_cases q : p1 < 0
    · simp only [FL_i, ax_up_ap, Nat.reduceEqDiff, ↓reduceIte, e22, z, q, true_imp_iff, false_imp_iff, not_true_eq_false, not_false_eq_true, true_and, and_true, implies_true]
      exact J_ref _ hJ
    · have z2 := z1.resolve_left q
      simp only [FL_i, ax_up_ap, Nat.reduceEqDiff, ↓reduceIte, e22, z, q, z2, true_imp_iff, false_imp_iff, not_true_eq_false, not_false_eq_true, true_and, and_true, implies_true]
      exact J_ref _ hJ
  have part : (p1 = 6 ∨ (¬p1 = 6 ∧ ¬p1 < 0 ∧ ¬D 2 0 ≤ p1)) → ¬p3 = 0 → ¬p3 = 1 → cy_172 [.ref 58, .int p1, .int p2, .int p3] (ax_S (ax_up D 51 (ax_up (D 51) 2 (D 51 2 + 1))) E) (FL (4000000000000000000 - (-2).toInt64)) := by
    intro hm d1 d2
    rw [ry_172]
    have d3 := fun q => i01_ d1 d2 q
    rcases hm with rfl | ⟨z, z1, z2⟩
    · simp only [FL_i, ax_up_ap, Nat.reduceEqDiff, ↓reduceIte, e22, true_imp_iff, false_imp_iff, not_true_eq_false, not_false_eq_true, true_and, and_true, implies_true]
      exact ⟨fun _ => J_ref _ hJ, fun c5 => ⟨fun _ => J_ref _ hJ, fun c6 => absurd (d3 c5) c6⟩⟩
    · simp only [FL_i, ax_up_ap, Nat.reduceEqDiff, ↓reduceIte, e22, z, z1, z2, true_imp_iff, false_imp_iff, not_true_eq_false, not_false_eq_true, true_and, and_true, implies_true]
      exact ⟨fun _ => J_ref _ hJ, fun c5 => ⟨fun _ => J_ref _ hJ, fun c6 => absurd (d3 c5) c6⟩⟩
  have all3 : (p1 = 6 ∨ (¬p1 = 6 ∧ ¬p1 < 0 ∧ ¬D 2 0 ≤ p1)) → ((p3 = 0 → (0 ≤ p2 → (p2 ≤ 365 → okC D ∧ 0 ≤ D 12 0 ∧ D 12 0 ≤ 30 ∧ ∀ (D' : ax_Dn) (E' : ax_En), sm1 D D' → (∀ (i : Nat), i < 7 → E' 53 i = sh_ D p2 (D 12 0).toNatClampNeg i) → E' 52 1 = sl_ (sh_ D p2 (D 12 0).toNatClampNeg) 7 → (¬lg_cmp (sl_ (sh_ D p2 (D 12 0).toNatClampNeg) 7) 0 = 0 → vp_in p1 7 ∧ ∃ a b, E' 53 p1.toNatClampNeg = lN a ∧ E' 52 1 = lN b ∧ a < 2 ^ 63 ∧ b < 2 ^ 63 ∧ 0 < b ∧ cy_172 [.ref 58, .int p1, .int p2, .int p3] (ax_S D' E') (FL (lN (lt_N a b p3)))) ∧ (lg_cmp (sl_ (sh_ D p2 (D 12 0).toNatClampNeg) 7) 0 = 0 → cy_172 [.ref 58, .int p1, .int p2, .int p3] (ax_S (ax_up D' 51 (ax_up (D' 51) 3 (D' 51 3 + 1))) E') (FL (4000000000000000000 - (-3).toInt64)))) ∧ (¬p2 ≤ 365 → cy_172 [.ref 58, .int p1, .int p2, .int p3] (ax_S (ax_up D 51 (ax_up (D 51) 6 (D 51 6 + 1))) E) (FL (4000000000000000000 - (-6).toInt64)))) ∧ (¬0 ≤ p2 → cy_172 [.ref 58, .int p1, .int p2, .int p3] (ax_S (ax_up D 51 (ax_up (D 51) 4 (D 51 4 + 1))) E) (FL (4000000000000000000 - (-4).toInt64)))) ∧ (¬p3 = 0 → (¬p3 = 1 → cy_172 [.ref 58, .int p1, .int p2, .int p3] (ax_S (ax_up D 51 (ax_up (D 51) 2 (D 51 2 + 1))) E) (FL (4000000000000000000 - (-2).toInt64))) ∧ (p3 = 1 → (0 ≤ p2 → (p2 ≤ 365 → okC D ∧ 0 ≤ D 12 0 ∧ D 12 0 ≤ 30 ∧ ∀ (D' : ax_Dn) (E' : ax_En), sm1 D D' → (∀ (i : Nat), i < 7 → E' 53 i = sh_ D p2 (D 12 0).toNatClampNeg i) → E' 52 1 = sl_ (sh_ D p2 (D 12 0).toNatClampNeg) 7 → (¬lg_cmp (sl_ (sh_ D p2 (D 12 0).toNatClampNeg) 7) 0 = 0 → vp_in p1 7 ∧ ∃ a b, E' 53 p1.toNatClampNeg = lN a ∧ E' 52 1 = lN b ∧ a < 2 ^ 63 ∧ b < 2 ^ 63 ∧ 0 < b ∧ cy_172 [.ref 58, .int p1, .int p2, .int p3] (ax_S D' E') (FL (lN (lt_N a b p3)))) ∧ (lg_cmp (sl_ (sh_ D p2 (D 12 0).toNatClampNeg) 7) 0 = 0 → cy_172 [.ref 58, .int p1, .int p2, .int p3] (ax_S (ax_up D' 51 (ax_up (D' 51) 3 (D' 51 3 + 1))) E') (FL (4000000000000000000 - (-3).toInt64)))) ∧ (¬p2 ≤ 365 → cy_172 [.ref 58, .int p1, .int p2, .int p3] (ax_S (ax_up D 51 (ax_up (D 51) 6 (D 51 6 + 1))) E) (FL (4000000000000000000 - (-6).toInt64)))) ∧ (¬0 ≤ p2 → cy_172 [.ref 58, .int p1, .int p2, .int p3] (ax_S (ax_up D 51 (ax_up (D 51) 4 (D 51 4 + 1))) E) (FL (4000000000000000000 - (-4).toInt64)))))) := by
    intro hm
    exact ⟨fun c => core p3 (.inl c) hm, fun c => ⟨fun c' => part hm c c', fun c' => core p3 (.inr c') hm⟩⟩
  refine ⟨fun c1 => ⟨fun c2 => bad ⟨c2, .inl c1⟩, fun c2 => all3 (.inl c2)⟩, fun c1 => ⟨fun c2 => ⟨fun c3 => bad ⟨c3, .inr c2⟩, fun c3 => all3 (.inl c3)⟩, fun c2 => ?_⟩⟩
  by_cases z : p1 = 6
  · exact all3 (.inl z)
  · exact all3 (.inr ⟨z, c1, c2⟩)
set_option maxRecDepth 10000 in
theorem pr_91 {D : ax_Dn} (E : ax_En) (hJ : J D) (p1 : Int32) : cy_91 [.ref 0, .int p1] (ax_S D E) (KI cy_181 [.ref 58, .int p1]) := by
  have hok := J_okC hJ
  have hokM := J_okM hJ
  obtain ⟨e22, e23, e32, e35, e40, f68, f69, f70, f81, f82, f83, f84, f85, f86, f76⟩ := J_eqs hJ
  have c22 := hok.1
  have c23 := hok.2.1
  have c32 := hok.2.2.1
  have csg := hok.2.2.2.1
  have c35 := hok.2.2.2.2.2.2.2.2.2.2.2.2.2.2.2.1
  have s32 := fun p => sb1_ (p := p) c32
  have n32 : 0 ≤ D 12 0 := na_le.mpr c32.1
  have m32 : D 12 0 ≤ 30 := na_le.mpr c32.2
  rw [ry_91]
  simp only [KI_i]
  refine ⟨fun c1 => ?_, fun c1 => ⟨fun c2 => ?_, fun c2 => ⟨fun c3 => ⟨hok, vm_ c22 c1 c2, fun D' E' hs hT hP hG => ?_⟩, fun c3 => ?_⟩⟩⟩
  · rw [ry_181]
    simp only [FI_i, ax_up_ap, Nat.reduceEqDiff, ↓reduceIte, e22, e32, e35, e40, s32, c1, true_imp_iff, false_imp_iff, not_true_eq_false, not_false_eq_true, true_and, and_true, implies_true]
    exact J_ref _ hJ
  · rw [ry_181]
    simp only [FI_i, ax_up_ap, Nat.reduceEqDiff, ↓reduceIte, e22, e32, e35, e40, s32, c1, c2, true_imp_iff, false_imp_iff, not_true_eq_false, not_false_eq_true, true_and, and_true, implies_true]
    exact J_ref _ hJ
  · have vm := vm_ c22 c1 c2
    have hv : ∀ p, ∃ q : Nat, (fun p => LG D p1 0 p * LG D p1 p (D 12 0).toNatClampNeg) p = lN q ∧ 1 ≤ q ∧ q < 2 ^ 63 := fun p => by
      obtain ⟨a, a1, a2, a3⟩ := LG_nat hok p1 0 p
      obtain ⟨b, b1, b2, b3⟩ := LG_nat hok p1 p (D 12 0).toNatClampNeg
      refine ⟨a * b, ?_, Nat.mul_pos a2 b2, Nat.lt_of_le_of_lt (Nat.mul_le_mul a3 b3) (by decide)⟩
      show LG D p1 0 p * LG D p1 p (D 12 0).toNatClampNeg = _
      rw [a1, b1, lN_mul]
    have h2 : 2 ≤ (D 12 0).toNatClampNeg := by
      have x1 := na_le.mp c3
      have z2 : (2 : Int32).toInt = 2 := rfl
      have x2 := na_cl (x := D 12 0) (by omega)
      omega
    have hpt := pt_eq hv ((D 12 0).toNatClampNeg - 2)
    rw [show (D 12 0).toNatClampNeg - 2 + 1 = (D 12 0).toNatClampNeg - 1 by omega] at hpt
    have hsm := hs
    have hJ' := J_s (sm_sJ hsm) hJ
    have hokM' := J_okM hJ'
    have hLM' := J_LM hJ'
    have hFM' := J_FM hJ'
    obtain ⟨e22', e23', e32', e35', e40', f68', f69', f70', f81', f82', f83', f84', f85', f86', f76'⟩ := J_eqs hJ'
    have t2 := sm_at hsm 2
    have t3 := sm_at hsm 3
    have t12 := sm_12 hsm
    have t13 := sm_at hsm 13
    have t21 := sm_at hsm 21
    have tL := sm_LC hsm
    have tF := sm_FC hsm
    have hLG := J_LGM hJ'
    have tLG := sm_LG hsm
    rw [hP, hpt, ry_181]
    simp only [FI_i, e22', e32', t2, t12, hLG, tLG, hokM', vm, c1, c2, c3, true_imp_iff, false_imp_iff, not_true_eq_false, not_false_eq_true, true_and, and_true, implies_true]
    exact fun _ _ => hJ'
  · rw [ry_181]
    simp only [FI_i, ax_up_ap, Nat.reduceEqDiff, ↓reduceIte, e22, e32, e35, e40, s32, c1, c2, c3, true_imp_iff, false_imp_iff, not_true_eq_false, not_false_eq_true, true_and, and_true, implies_true]
    exact J_ref _ hJ
set_option maxRecDepth 10000 in
theorem pr_92 {D : ax_Dn} (E : ax_En) (hJ : J D) (p1 : Int32) : cy_92 [.ref 0, .int p1] (ax_S D E) (KI cy_182 [.ref 58, .int p1]) := by
  have hok := J_okC hJ
  have hokM := J_okM hJ
  obtain ⟨e22, e23, e32, e35, e40, f68, f69, f70, f81, f82, f83, f84, f85, f86, f76⟩ := J_eqs hJ
  have c22 := hok.1
  have c23 := hok.2.1
  have c32 := hok.2.2.1
  have csg := hok.2.2.2.1
  have c35 := hok.2.2.2.2.2.2.2.2.2.2.2.2.2.2.2.1
  have s32 := fun p => sb1_ (p := p) c32
  have n32 : 0 ≤ D 12 0 := na_le.mpr c32.1
  have m32 : D 12 0 ≤ 30 := na_le.mpr c32.2
  rw [ry_92]
  simp only [KI_i]
  refine ⟨fun c1 => ?_, fun c1 => ⟨fun c2 => ?_, fun c2 => ⟨fun c3 => ⟨hok, vm_ c22 c1 c2, fun D1 E' hs1 hT hP hG => ?_⟩, fun c3 => ?_⟩⟩⟩
  · rw [ry_182]
    simp only [FI_i, ax_up_ap, Nat.reduceEqDiff, ↓reduceIte, e22, e32, e35, e40, s32, c1, true_imp_iff, false_imp_iff, not_true_eq_false, not_false_eq_true, true_and, and_true, implies_true]
    exact J_ref _ hJ
  · rw [ry_182]
    simp only [FI_i, ax_up_ap, Nat.reduceEqDiff, ↓reduceIte, e22, e32, e35, e40, s32, c1, c2, true_imp_iff, false_imp_iff, not_true_eq_false, not_false_eq_true, true_and, and_true, implies_true]
    exact J_ref _ hJ
  · have vm := vm_ c22 c1 c2
    have hv : ∀ p, ∃ q : Nat, (fun p => LG D p1 0 p * LG D p1 p (D 12 0).toNatClampNeg) p = lN q ∧ 1 ≤ q ∧ q < 2 ^ 63 := fun p => by
      obtain ⟨a, a1, a2, a3⟩ := LG_nat hok p1 0 p
      obtain ⟨b, b1, b2, b3⟩ := LG_nat hok p1 p (D 12 0).toNatClampNeg
      refine ⟨a * b, ?_, Nat.mul_pos a2 b2, Nat.lt_of_le_of_lt (Nat.mul_le_mul a3 b3) (by decide)⟩
      show LG D p1 0 p * LG D p1 p (D 12 0).toNatClampNeg = _
      rw [a1, b1, lN_mul]
    have h2 : 2 ≤ (D 12 0).toNatClampNeg := by
      have x1 := na_le.mp c3
      have z2 : (2 : Int32).toInt = 2 := rfl
      have x2 := na_cl (x := D 12 0) (by omega)
      omega
    have hpt := pt_eq hv ((D 12 0).toNatClampNeg - 2)
    rw [show (D 12 0).toNatClampNeg - 2 + 1 = (D 12 0).toNatClampNeg - 1 by omega] at hpt
    have s12 := sm_12 hs1
    have s13 := sm_at hs1 13
    rw [s12, s13]
    refine ⟨csg, c32, fun i t => pr_ 6 (FC D i p1 (nI (t * 10))) 5 0 1, fun i hi t ht => TB_at hT hi ht, fun D' hs' w hw => ?_⟩
    have hwl : w = LG D p1 0 (D 12 0).toNatClampNeg := hw
    obtain ⟨q, y1, y2, y3⟩ := LG_nat hok p1 0 (D 12 0).toNatClampNeg
    have hw1 : 1 ≤ w := by rw [hwl, y1, show (1 : Int64) = lN 1 from rfl, pk_lLE (by decide) (by omega)]; exact y2
    have hw0 : ¬ w = 0 := by
      rw [hwl, y1]
      intro z
      have := (pk_lEQ (a := q) (b := 0) (by omega) (by decide)).mp z
      omega
    refine ⟨hw1, ?_⟩
    have hsm := sm_tr hs1 (sm1_sm hs')
    have hJ' := J_s (sm_sJ hsm) hJ
    have hokM' := J_okM hJ'
    have hLM' := J_LM hJ'
    have hFM' := J_FM hJ'
    obtain ⟨e22', e23', e32', e35', e40', f68', f69', f70', f81', f82', f83', f84', f85', f86', f76'⟩ := J_eqs hJ'
    have t2 := sm_at hsm 2
    have t3 := sm_at hsm 3
    have t12 := sm_12 hsm
    have t13 := sm_at hsm 13
    have t21 := sm_at hsm 21
    have tL := sm_LC hsm
    have tF := sm_FC hsm
    have hLG := J_LGM hJ'
    have tLG := sm_LG hsm
    have hgl : gl_ (fun q => LC D 6 p1 (nI (q * 10)) 0 (D 12 0).toNatClampNeg) 37 = w := hwl.symm
    rw [hG, hpt, ry_182]
    simp only [FI_i, e22', e32', t2, t12, hLG, tLG, hLM', tL, hgl, hw0, hokM', vm, n32, m32, c1, c2, c3, cm_le0, true_imp_iff, false_imp_iff, not_true_eq_false, not_false_eq_true, true_and, and_true, implies_true]
    intro E2 hE2
    rw [hE2]
    generalize (pt_ (fun p => LG D p1 0 p * LG D p1 p (D 12 0).toNatClampNeg) (-1) ((D 12 0).toNatClampNeg - 1)).2 / w = z
    refine ⟨fun q => ⟨?_, hJ'⟩, fun q => ⟨?_, hJ'⟩⟩
    · by_cases z1 : z < 1000000000
      · rw [if_pos z1]
      · rw [if_neg z1]
        have q1 := la_le.mp q
        have q2 : ¬ z.toInt < (1000000000 : Int64).toInt := fun y => z1 (la_lt.mpr y)
        rw [show z = 1000000000 from la_eq.mpr (by omega)]
    · rw [if_neg (fun y => q (Int64.le_of_lt y))]
      rfl
  · rw [ry_182]
    simp only [FI_i, ax_up_ap, Nat.reduceEqDiff, ↓reduceIte, e22, e32, e35, e40, s32, c1, c2, c3, true_imp_iff, false_imp_iff, not_true_eq_false, not_false_eq_true, true_and, and_true, implies_true]
    exact J_ref _ hJ
