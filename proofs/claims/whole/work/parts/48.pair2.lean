/-! Pairs that pick strokes. -/
set_option maxRecDepth 10000 in
theorem pr_84 {D : ax_Dn} (E : ax_En) (hJ : J D) (p1 : Int32) (p2 : Int32) : cy_84 [.ref 0, .int p1, .int p2] (ax_S D E) (KL cy_165 [.ref 58, .int p1, .int p2]) := by
  have hok := J_okC hJ
  have hokM := J_okM hJ
  obtain ⟨e22, e23, e32, e35, e40, f68, f69, f70, f81, f82, f83, f84, f85, f86, f76⟩ := J_eqs hJ
  have c22 := hok.1
  have c23 := hok.2.1
  have c32 := hok.2.2.1
  have csg := hok.2.2.2.1
  have c35 := hok.2.2.2.2.2.2.2.2.2.2.2.2.2.2.2.1
  have s32 := fun p => sb1_ (p := p) c32
  have n32 : 0 ≤ D 12 0 := na_le.mpr c32.1
  have m32 : D 12 0 ≤ 30 := na_le.mpr c32.2
  rw [ry_84]
  simp only [KL_i]
  refine ⟨fun c1 => ?_, fun c1 => ⟨fun c2 => ?_, fun c2 => ⟨fun c3 => ⟨fun c4 => ⟨hok, vm_ c22 c1 c2, fun D' hs => ?_⟩, fun c4 => ?_⟩, fun c3 => ?_⟩⟩⟩
  · rw [ry_165]
    simp only [FL_i, ax_up_ap, Nat.reduceEqDiff, ↓reduceIte, e22, e32, e35, e40, s32, c1, true_imp_iff, false_imp_iff, not_true_eq_false, not_false_eq_true, true_and, and_true, implies_true]
    exact J_ref _ hJ
  · rw [ry_165]
    simp only [FL_i, ax_up_ap, Nat.reduceEqDiff, ↓reduceIte, e22, e32, e35, e40, s32, c1, c2, true_imp_iff, false_imp_iff, not_true_eq_false, not_false_eq_true, true_and, and_true, implies_true]
    exact J_ref _ hJ
  · have vm := vm_ c22 c1 c2
    have hsm := sm1_sm hs
    have hJ' := J_s (sm_sJ hsm) hJ
    have hokM' := J_okM hJ'
    have hLM' := J_LM hJ'
    have hFM' := J_FM hJ'
    obtain ⟨e22', e23', e32', e35', e40', f68', f69', f70', f81', f82', f83', f84', f85', f86', f76'⟩ := J_eqs hJ'
    have t2 := sm_at hsm 2
    have t3 := sm_at hsm 3
    have t12 := sm_12 hsm
    have t13 := sm_at hsm 13
    have t21 := sm_at hsm 21
    have tL := sm_LC hsm
    have tF := sm_FC hsm
    rw [ry_165]
    simp only [FL_i, e22', e32', e35', e40', f76', f81', hokM', hLM', hFM', t2, t12, t13, t21, tL, tF, n32, m32, s32, c1, c2, c3, c4, vm, true_imp_iff, false_imp_iff, not_true_eq_false, not_false_eq_true, true_and, and_true, implies_true]
    exact hJ'
  · rw [ry_165]
    simp only [FL_i, ax_up_ap, Nat.reduceEqDiff, ↓reduceIte, e22, e32, e35, e40, s32, c1, c2, c3, c4, true_imp_iff, false_imp_iff, not_true_eq_false, not_false_eq_true, true_and, and_true, implies_true]
    exact J_ref _ hJ
  · rw [ry_165]
    simp only [FL_i, ax_up_ap, Nat.reduceEqDiff, ↓reduceIte, e22, e32, e35, e40, s32, c1, c2, c3, true_imp_iff, false_imp_iff, not_true_eq_false, not_false_eq_true, true_and, and_true, implies_true]
    exact J_ref _ hJ
set_option maxRecDepth 10000 in
theorem pr_85 {D : ax_Dn} (E : ax_En) (hJ : J D) (p1 : Int32) (p2 : Int32) : cy_85 [.ref 0, .int p1, .int p2] (ax_S D E) (KL cy_166 [.ref 58, .int p1, .int p2]) := by
  have hok := J_okC hJ
  have hokM := J_okM hJ
  obtain ⟨e22, e23, e32, e35, e40, f68, f69, f70, f81, f82, f83, f84, f85, f86, f76⟩ := J_eqs hJ
  have c22 := hok.1
  have c23 := hok.2.1
  have c32 := hok.2.2.1
  have csg := hok.2.2.2.1
  have c35 := hok.2.2.2.2.2.2.2.2.2.2.2.2.2.2.2.1
  have s32 := fun p => sb1_ (p := p) c32
  have n32 : 0 ≤ D 12 0 := na_le.mpr c32.1
  have m32 : D 12 0 ≤ 30 := na_le.mpr c32.2
  rw [ry_85]
  simp only [KL_i]
  refine ⟨fun c1 => ?_, fun c1 => ⟨fun c2 => ?_, fun c2 => ⟨fun c3 => ⟨fun c4 => ⟨hok, vm_ c22 c1 c2, fun D' hs => ?_⟩, fun c4 => ?_⟩, fun c3 => ?_⟩⟩⟩
  · rw [ry_166]
    simp only [FL_i, ax_up_ap, Nat.reduceEqDiff, ↓reduceIte, e22, e32, e35, e40, s32, c1, true_imp_iff, false_imp_iff, not_true_eq_false, not_false_eq_true, true_and, and_true, implies_true]
    exact J_ref _ hJ
  · rw [ry_166]
    simp only [FL_i, ax_up_ap, Nat.reduceEqDiff, ↓reduceIte, e22, e32, e35, e40, s32, c1, c2, true_imp_iff, false_imp_iff, not_true_eq_false, not_false_eq_true, true_and, and_true, implies_true]
    exact J_ref _ hJ
  · have vm := vm_ c22 c1 c2
    have hsm := sm1_sm hs
    have hJ' := J_s (sm_sJ hsm) hJ
    have hokM' := J_okM hJ'
    have hLM' := J_LM hJ'
    have hFM' := J_FM hJ'
    obtain ⟨e22', e23', e32', e35', e40', f68', f69', f70', f81', f82', f83', f84', f85', f86', f76'⟩ := J_eqs hJ'
    have t2 := sm_at hsm 2
    have t3 := sm_at hsm 3
    have t12 := sm_12 hsm
    have t13 := sm_at hsm 13
    have t21 := sm_at hsm 21
    have tL := sm_LC hsm
    have tF := sm_FC hsm
    rw [ry_166]
    simp only [FL_i, e22', e32', e35', e40', f76', f81', hokM', hLM', hFM', t2, t12, t13, t21, tL, tF, n32, m32, s32, c1, c2, c3, c4, vm, true_imp_iff, false_imp_iff, not_true_eq_false, not_false_eq_true, true_and, and_true, implies_true]
    exact ⟨rfl, hJ'⟩
  · rw [ry_166]
    simp only [FL_i, ax_up_ap, Nat.reduceEqDiff, ↓reduceIte, e22, e32, e35, e40, s32, c1, c2, c3, c4, true_imp_iff, false_imp_iff, not_true_eq_false, not_false_eq_true, true_and, and_true, implies_true]
    exact J_ref _ hJ
  · rw [ry_166]
    simp only [FL_i, ax_up_ap, Nat.reduceEqDiff, ↓reduceIte, e22, e32, e35, e40, s32, c1, c2, c3, true_imp_iff, false_imp_iff, not_true_eq_false, not_false_eq_true, true_and, and_true, implies_true]
    exact J_ref _ hJ
set_option maxRecDepth 10000 in
theorem pr_88 {D : ax_Dn} (E : ax_En) (hJ : J D) (p1 : Int32) : cy_88 [.ref 0, .int p1] (ax_S D E) (KI cy_175 [.ref 58, .int p1]) := by
  have hok := J_okC hJ
  have hokM := J_okM hJ
  obtain ⟨e22, e23, e32, e35, e40, f68, f69, f70, f81, f82, f83, f84, f85, f86, f76⟩ := J_eqs hJ
  have c22 := hok.1
  have c23 := hok.2.1
  have c32 := hok.2.2.1
  have csg := hok.2.2.2.1
  have c35 := hok.2.2.2.2.2.2.2.2.2.2.2.2.2.2.2.1
  have s32 := fun p => sb1_ (p := p) c32
  have n32 : 0 ≤ D 12 0 := na_le.mpr c32.1
  have m32 : D 12 0 ≤ 30 := na_le.mpr c32.2
  rw [ry_88]
  simp only [KI_i]
  refine ⟨fun c1 => ⟨fun c2 => ⟨hok, fun D' hs => ?_⟩, fun c2 => ?_⟩, fun c1 => ?_⟩
  · skip
    have hsm := sm1_sm hs
    have hJ' := J_s (sm_sJ hsm) hJ
    have hokM' := J_okM hJ'
    have hLM' := J_LM hJ'
    have hFM' := J_FM hJ'
    obtain ⟨e22', e23', e32', e35', e40', f68', f69', f70', f81', f82', f83', f84', f85', f86', f76'⟩ := J_eqs hJ'
    have t2 := sm_at hsm 2
    have t3 := sm_at hsm 3
    have t12 := sm_12 hsm
    have t13 := sm_at hsm 13
    have t21 := sm_at hsm 21
    have tL := sm_LC hsm
    have tF := sm_FC hsm
    have hFT := J_FTM hJ'
    have tFT := sm_FT hsm
    rw [ry_175]
    simp only [FI_i, e22', e32', e35', e40', f76', f81', hokM', hLM', hFM', t2, t12, t13, t21, tL, tF, n32, m32, s32, c1, c2, hFT, tFT, true_imp_iff, false_imp_iff, not_true_eq_false, not_false_eq_true, true_and, and_true, implies_true]
    exact hJ'
  · rw [ry_175]
    simp only [FI_i, ax_up_ap, Nat.reduceEqDiff, ↓reduceIte, e22, e32, e35, e40, s32, c1, c2, okM_up _ 51 _ (by decide : kM 51 = true), hokM, true_imp_iff, false_imp_iff, not_true_eq_false, not_false_eq_true, true_and, and_true, implies_true]
    exact J_ref _ hJ
  · rw [ry_175]
    simp only [FI_i, ax_up_ap, Nat.reduceEqDiff, ↓reduceIte, e22, e32, e35, e40, s32, c1, okM_up _ 51 _ (by decide : kM 51 = true), hokM, true_imp_iff, false_imp_iff, not_true_eq_false, not_false_eq_true, true_and, and_true, implies_true]
    exact J_ref _ hJ
set_option maxRecDepth 10000 in
theorem pr_93 {D : ax_Dn} (E : ax_En) (hJ : J D) (p1 : Int32) (p2 : Int32) : cy_93 [.ref 0, .int p1, .int p2] (ax_S D E) (KI cy_183 [.ref 58, .int p1, .int p2]) := by
  have hok := J_okC hJ
  have hokM := J_okM hJ
  obtain ⟨e22, e23, e32, e35, e40, f68, f69, f70, f81, f82, f83, f84, f85, f86, f76⟩ := J_eqs hJ
  have c22 := hok.1
  have c23 := hok.2.1
  have c32 := hok.2.2.1
  have csg := hok.2.2.2.1
  have c35 := hok.2.2.2.2.2.2.2.2.2.2.2.2.2.2.2.1
  have s32 := fun p => sb1_ (p := p) c32
  have n32 : 0 ≤ D 12 0 := na_le.mpr c32.1
  have m32 : D 12 0 ≤ 30 := na_le.mpr c32.2
  rw [ry_93]
  simp only [KI_i]
  refine ⟨fun c1 => ?_, fun c1 => ⟨fun c2 => ?_, fun c2 => ⟨fun c3 => ⟨fun c4 => ⟨hok, vm_ c22 c1 c2, fun D' hs => ?_⟩, fun c4 => ?_⟩, fun c3 => ?_⟩⟩⟩
  · rw [ry_183]
    simp only [FI_i, ax_up_ap, Nat.reduceEqDiff, ↓reduceIte, e22, e32, e35, e40, s32, c1, true_imp_iff, false_imp_iff, not_true_eq_false, not_false_eq_true, true_and, and_true, implies_true]
    exact J_ref _ hJ
  · rw [ry_183]
    simp only [FI_i, ax_up_ap, Nat.reduceEqDiff, ↓reduceIte, e22, e32, e35, e40, s32, c1, c2, true_imp_iff, false_imp_iff, not_true_eq_false, not_false_eq_true, true_and, and_true, implies_true]
    exact J_ref _ hJ
  · have vm := vm_ c22 c1 c2
    have hsm := sm1_sm hs
    have hJ' := J_s (sm_sJ hsm) hJ
    have hokM' := J_okM hJ'
    have hLM' := J_LM hJ'
    have hFM' := J_FM hJ'
    obtain ⟨e22', e23', e32', e35', e40', f68', f69', f70', f81', f82', f83', f84', f85', f86', f76'⟩ := J_eqs hJ'
    have t2 := sm_at hsm 2
    have t3 := sm_at hsm 3
    have t12 := sm_12 hsm
    have t13 := sm_at hsm 13
    have t21 := sm_at hsm 21
    have tL := sm_LC hsm
    have tF := sm_FC hsm
    rw [ry_183]
    simp only [FI_i, e22', e32', e35', e40', f76', f81', hokM', hLM', hFM', t2, t12, t13, t21, tL, tF, n32, m32, s32, c1, c2, c3, c4, vm, true_imp_iff, false_imp_iff, not_true_eq_false, not_false_eq_true, true_and, and_true, implies_true]
    exact hJ'
  · rw [ry_183]
    simp only [FI_i, ax_up_ap, Nat.reduceEqDiff, ↓reduceIte, e22, e32, e35, e40, s32, c1, c2, c3, c4, true_imp_iff, false_imp_iff, not_true_eq_false, not_false_eq_true, true_and, and_true, implies_true]
    exact J_ref _ hJ
  · rw [ry_183]
    simp only [FI_i, ax_up_ap, Nat.reduceEqDiff, ↓reduceIte, e22, e32, e35, e40, s32, c1, c2, c3, true_imp_iff, false_imp_iff, not_true_eq_false, not_false_eq_true, true_and, and_true, implies_true]
    exact J_ref _ hJ
