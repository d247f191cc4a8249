/-! More pairs that pick strokes. -/
/-- AskewLetters.reader(I)I -/
def cy_104 : ax_P1 := fun as z K => ∃ (p1 : Int32) (D : ax_Dn) (E : ax_En), as = [.ref 0, .int p1] ∧ z = ax_S D E ∧ ((p1 = 0 → (¬D 1 4 = 0 → ∃ x b, (D 1 5).toInt64 = x.toInt64 ∧ (D 1 4).toInt64 = (nI b).toInt64 ∧ rg_ x (-1000) 1000 ∧ 0 < b ∧ b ≤ 20 ∧ K (some (Value.int ((if p1 = 0 then (D 1 5).toInt64 else (D 1 4).toInt64) / lN (x.toInt.natAbs.gcd b)).toInt32)) (ax_S D E)) ∧ (D 1 4 = 0 → K (some (Value.int (1000000000 - -3))) (ax_S (ax_up D 51 (ax_up (D 51) 3 (D 51 3 + 1))) E))) ∧ (¬p1 = 0 → (¬p1 = 1 → K (some (Value.int (1000000000 - -2))) (ax_S (ax_up D 51 (ax_up (D 51) 2 (D 51 2 + 1))) E)) ∧ (p1 = 1 → (¬D 1 4 = 0 → ∃ x b, (D 1 5).toInt64 = x.toInt64 ∧ (D 1 4).toInt64 = (nI b).toInt64 ∧ rg_ x (-1000) 1000 ∧ 0 < b ∧ b ≤ 20 ∧ K (some (Value.int ((if p1 = 0 then (D 1 5).toInt64 else (D 1 4).toInt64) / lN (x.toInt.natAbs.gcd b)).toInt32)) (ax_S D E)) ∧ (D 1 4 = 0 → K (some (Value.int (1000000000 - -3))) (ax_S (ax_up D 51 (ax_up (D 51) 3 (D 51 3 + 1))) E)))))
theorem ry_104 (p1 : Int32) (D : ax_Dn) (E : ax_En) (K : ax_Po) : cy_104 [.ref 0, .int p1] (ax_S D E) K = ((p1 = 0 → (¬D 1 4 = 0 → ∃ x b, (D 1 5).toInt64 = x.toInt64 ∧ (D 1 4).toInt64 = (nI b).toInt64 ∧ rg_ x (-1000) 1000 ∧ 0 < b ∧ b ≤ 20 ∧ K (some (Value.int ((if p1 = 0 then (D 1 5).toInt64 else (D 1 4).toInt64) / lN (x.toInt.natAbs.gcd b)).toInt32)) (ax_S D E)) ∧ (D 1 4 = 0 → K (some (Value.int (1000000000 - -3))) (ax_S (ax_up D 51 (ax_up (D 51) 3 (D 51 3 + 1))) E))) ∧ (¬p1 = 0 → (¬p1 = 1 → K (some (Value.int (1000000000 - -2))) (ax_S (ax_up D 51 (ax_up (D 51) 2 (D 51 2 + 1))) E)) ∧ (p1 = 1 → (¬D 1 4 = 0 → ∃ x b, (D 1 5).toInt64 = x.toInt64 ∧ (D 1 4).toInt64 = (nI b).toInt64 ∧ rg_ x (-1000) 1000 ∧ 0 < b ∧ b ≤ 20 ∧ K (some (Value.int ((if p1 = 0 then (D 1 5).toInt64 else (D 1 4).toInt64) / lN (x.toInt.natAbs.gcd b)).toInt32)) (ax_S D E)) ∧ (D 1 4 = 0 → K (some (Value.int (1000000000 - -3))) (ax_S (ax_up D 51 (ax_up (D 51) 3 (D 51 3 + 1))) E))))) := propext ⟨fun ⟨p1', D', E', h1, h2, h3⟩ => by cases h1; obtain ⟨rfl, rfl⟩ := ax_S_inj h2; exact h3, fun h => ⟨p1, D, E, rfl, rfl, h⟩⟩
set_option maxRecDepth 10000 in
theorem sy_104 {g : ax_G} : ∀ as z K, cy_104 as z K → ax_MM g 104 as z K := by
  rintro _ _ K ⟨p1, D, E, rfl, rfl, h⟩
  refine ax_go104 _ _ ?_
  refine ax_WPo (l := [(110, cy_110), (116, cy_116), (122, cy_122s)]) (ax_oc sy_110 (ax_oc sy_116 (ax_oc sy_122s ax_on))) ax_ok104 (fun _ => false) 400 0 rfl ?_
  simp +decide only [↓ax_B, ax_B, ax_kds, ax_gvs, ax_mcs, ax_ia_S, ax_up_ap, ax_vinL, and_self_left, ax_up_up, ax_up_sw, Nat.reduceAdd, Nat.reduceBEq, Nat.reduceLeDiff, Nat.reduceLT, Nat.reduceEqDiff, ↓reduceIte, true_and, and_true, List.cons_append, List.nil_append, Int32.reduceLT, Int32.reduceLE, Int32.reduceAdd, Int32.reduceToNatClampNeg, Int32.reduceOfNat, true_imp_iff, false_imp_iff, not_true_eq_false, not_false_eq_true, or_true, true_or, or_false, false_or, and_self, Bool.or_true, Bool.or_false, Bool.true_or, Bool.false_or, implies_true, forall_const, Bool.false_eq_true, Int32.neg_neg, ax_X104, ry_110, ry_116, ry_122s]
  exact h
theorem i45_ (p : Int32) : 4 < p ↔ ¬ p < 5 := by
  rw [na_lt, na_lt]
  have e4 : (4 : Int32).toInt = 4 := rfl
  have e5 : (5 : Int32).toInt = 5 := rfl
  omega
theorem i23_ (p : Int32) : 2 < p ↔ ¬ p ≤ 2 := by rw [Int32.not_le]
theorem i11_ (p : Int32) : p < 11 ↔ p ≤ 10 := by
  rw [na_lt, na_le]
  have e4 : (11 : Int32).toInt = 11 := rfl
  have e5 : (10 : Int32).toInt = 10 := rfl
  omega
theorem i16_ (p : Int32) : 16 < p ↔ 17 ≤ p := by
  rw [na_lt, na_le]
  have e4 : (16 : Int32).toInt = 16 := rfl
  have e5 : (17 : Int32).toInt = 17 := rfl
  omega
theorem i17_ {p : Int32} (h : 17 ≤ p) : ¬ p ≤ 10 := by
  rw [na_le] at *
  have e4 : (10 : Int32).toInt = 10 := rfl
  have e5 : (17 : Int32).toInt = 17 := rfl
  omega
theorem i01_ {p : Int32} (h0 : ¬ p = 0) (h1 : ¬ p = 1) (h2 : ¬ p < 0) : 1 < p := by
  rw [na_lt] at *
  rw [na_eq] at h0 h1
  have e0 : (0 : Int32).toInt = 0 := rfl
  have e1 : (1 : Int32).toInt = 1 := rfl
  omega
theorem v67_ {p : Int32} (h : vp_in p 6) : vp_in p 7 := by
  rw [vp_in_iff] at *
  omega
set_option maxRecDepth 10000 in
theorem pr_83 {D : ax_Dn} (E : ax_En) (hJ : J D) (p1 : Int32) (p2 : Int32) (p3 : Int32) (p4 : Int32) : cy_83 [.ref 0, .int p1, .int p2, .int p3, .int p4] (ax_S D E) (KI cy_160 [.ref 58, .int p1, .int p2, .int p3, .int p4]) := by
  have hok := J_okC hJ
  have hokM := J_okM hJ
  obtain ⟨e22, e23, e32, e35, e40, f68, f69, f70, f81, f82, f83, f84, f85, f86, f76⟩ := J_eqs hJ
  have c22 := hok.1
  have c23 := hok.2.1
  have c32 := hok.2.2.1
  have csg := hok.2.2.2.1
  have c35 := hok.2.2.2.2.2.2.2.2.2.2.2.2.2.2.2.1
  have s32 := fun p => sb1_ (p := p) c32
  have n32 : 0 ≤ D 12 0 := na_le.mpr c32.1
  have m32 : D 12 0 ≤ 30 := na_le.mpr c32.2
  rw [ry_83]
  simp only [KI_i]
  have hL := J_lean2 hJ
  have hN := J_nick2 hJ
  have i45 := i45_ p4
  have c14 := hok.2.2.2.2.1
  have c16 := hok.2.2.2.2.2.2.1
  have c6 := hok.2.2.2.2.2.2.2.2.1
  have s1 := fun p => cnt_in (csg p) (show 9 < 10 by decide)
  refine ⟨fun c1 => ?_, fun c1 => ⟨fun c2 => ?_, fun c2 => ⟨fun c3 => ?_, fun c3 => ⟨fun c4 => ?_, fun c4 => ⟨fun c5 => ?_, fun c5 => ⟨fun c6' => ⟨fun c7 => ⟨fun c8 => ⟨c23, vm_ c32 c1 c2, s1 _, vm_ c22 c3 c4, ?_⟩, fun c8 => ?_⟩, fun c7 => ?_⟩, fun c6' => ?_⟩⟩⟩⟩⟩⟩
  · rw [ry_160]
    simp only [FI_i, ax_up_ap, Nat.reduceEqDiff, ↓reduceIte, e22, e32, e35, e40, s32, c1, true_imp_iff, false_imp_iff, not_true_eq_false, not_false_eq_true, true_and, and_true, implies_true]
    exact J_ref _ hJ
  · rw [ry_160]
    simp only [FI_i, ax_up_ap, Nat.reduceEqDiff, ↓reduceIte, e22, e32, e35, e40, s32, c1, c2, true_imp_iff, false_imp_iff, not_true_eq_false, not_false_eq_true, true_and, and_true, implies_true]
    exact J_ref _ hJ
  · rw [ry_160]
    simp only [FI_i, ax_up_ap, Nat.reduceEqDiff, ↓reduceIte, e22, e32, e35, e40, s32, c1, c2, c3, true_imp_iff, false_imp_iff, not_true_eq_false, not_false_eq_true, true_and, and_true, implies_true]
    exact J_ref _ hJ
  · rw [ry_160]
    simp only [FI_i, ax_up_ap, Nat.reduceEqDiff, ↓reduceIte, e22, e32, e35, e40, s32, c1, c2, c3, c4, true_imp_iff, false_imp_iff, not_true_eq_false, not_false_eq_true, true_and, and_true, implies_true]
    exact J_ref _ hJ
  · rw [ry_160]
    simp only [FI_i, ax_up_ap, Nat.reduceEqDiff, ↓reduceIte, e22, e32, e35, e40, s32, c1, c2, c3, c4, c5, e23, i45, true_imp_iff, false_imp_iff, not_true_eq_false, not_false_eq_true, true_and, and_true, implies_true]
    exact J_ref _ hJ
  · have v30 := vm_ c32 c1 c2
    have v6 := vm_ c22 c3 c4
    rw [ry_160]
    simp only [FI_i, e22, e23, e32, e35, e40, f68, f69, f70, f81, f82, f83, f84, f85, f86, f76, hL, hN, c23, c14, c16, c6, s1, v30, v6, s32, i45, c1, c2, c3, c4, c5, c6', c7, c8, true_imp_iff, false_imp_iff, not_true_eq_false, not_false_eq_true, true_and, and_true, implies_true]
    exact hJ
  · rw [ry_160]
    simp only [FI_i, ax_up_ap, Nat.reduceEqDiff, ↓reduceIte, e22, e32, e35, e40, s32, c1, c2, c3, c4, c5, c6', c7, c8, e23, i45, true_imp_iff, false_imp_iff, not_true_eq_false, not_false_eq_true, true_and, and_true, implies_true]
    exact J_ref _ hJ
  · rw [ry_160]
    simp only [FI_i, ax_up_ap, Nat.reduceEqDiff, ↓reduceIte, e22, e32, e35, e40, s32, c1, c2, c3, c4, c5, c6', c7, e23, i45, true_imp_iff, false_imp_iff, not_true_eq_false, not_false_eq_true, true_and, and_true, implies_true]
    exact J_ref _ hJ
  · rw [ry_160]
    simp only [FI_i, ax_up_ap, Nat.reduceEqDiff, ↓reduceIte, e22, e32, e35, e40, s32, c1, c2, c3, c4, c5, c6', e23, i45, true_imp_iff, false_imp_iff, not_true_eq_false, not_false_eq_true, true_and, and_true, implies_true]
    exact J_ref _ hJ
set_option maxRecDepth 10000 in
theorem pr_81 {D : ax_Dn} (E : ax_En) (hJ : J D) (p1 : Int32) (p2 : Int32) : cy_81 [.ref 0, .int p1, .int p2] (ax_S D E) (KI cy_155 [.ref 58, .int p1, .int p2]) := by
  have hok := J_okC hJ
  have hokM := J_okM hJ
  obtain ⟨e22, e23, e32, e35, e40, f68, f69, f70, f81, f82, f83, f84, f85, f86, f76⟩ := J_eqs hJ
  have c22 := hok.1
  have c23 := hok.2.1
  have c32 := hok.2.2.1
  have csg := hok.2.2.2.1
  have c35 := hok.2.2.2.2.2.2.2.2.2.2.2.2.2.2.2.1
  have s32 := fun p => sb1_ (p := p) c32
  have n32 : 0 ≤ D 12 0 := na_le.mpr c32.1
  have m32 : D 12 0 ≤ 30 := na_le.mpr c32.2
  rw [ry_81]
  simp only [KI_i]
  refine ⟨fun c1 => ?_, fun c1 => ⟨fun c2 => ?_, fun c2 => ?_⟩⟩
  · rw [ry_155]
    simp only [FI_i, ax_up_ap, Nat.reduceEqDiff, ↓reduceIte, e22, e32, e35, e40, s32, c1, true_imp_iff, false_imp_iff, not_true_eq_false, not_false_eq_true, true_and, and_true, implies_true]
    exact J_ref _ hJ
  · rw [ry_155]
    simp only [FI_i, ax_up_ap, Nat.reduceEqDiff, ↓reduceIte, e22, e32, e35, e40, s32, c1, c2, true_imp_iff, false_imp_iff, not_true_eq_false, not_false_eq_true, true_and, and_true, implies_true]
    exact J_ref _ hJ
  have v30 := vm_ c32 c1 c2
  refine ⟨fun q0 => ⟨v30, ?_⟩, fun q0 => ⟨fun q1 => ⟨v30, ?_⟩, fun q1 => ⟨fun q2 => ⟨v30, ?_⟩, fun q2 => ⟨fun q3 => ⟨v30, ?_⟩, fun q3 => ⟨fun q4 => ⟨v30, ?_⟩, fun q4 => ⟨fun q5 => ⟨csg, c32, v30, fun D' hs => ⟨fun hm => ?_, fun hm => ?_⟩⟩, fun q5 => ?_⟩⟩⟩⟩⟩⟩
  · rw [ry_155]
    simp +decide only [FI_i, e32, f81, f82, f83, f84, f85, s32, v30, c1, c2, q0, true_imp_iff, false_imp_iff, not_true_eq_false, not_false_eq_true, true_and, and_true, implies_true]
    exact hJ
  · rw [ry_155]
    simp +decide only [FI_i, e32, f81, f82, f83, f84, f85, s32, v30, c1, c2, q0, q1, true_imp_iff, false_imp_iff, not_true_eq_false, not_false_eq_true, true_and, and_true, implies_true]
    exact hJ
  · rw [ry_155]
    simp +decide only [FI_i, e32, f81, f82, f83, f84, f85, s32, v30, c1, c2, q0, q1, q2, true_imp_iff, false_imp_iff, not_true_eq_false, not_false_eq_true, true_and, and_true, implies_true]
    exact hJ
  · rw [ry_155]
    simp +decide only [FI_i, e32, f81, f82, f83, f84, f85, s32, v30, c1, c2, q0, q1, q2, q3, true_imp_iff, false_imp_iff, not_true_eq_false, not_false_eq_true, true_and, and_true, implies_true]
    exact hJ
  · rw [ry_155]
    simp +decide only [FI_i, e32, f81, f82, f83, f84, f85, s32, v30, c1, c2, q0, q1, q2, q3, q4, true_imp_iff, false_imp_iff, not_true_eq_false, not_false_eq_true, true_and, and_true, implies_true]
    exact hJ
  · have hct := (pk_ct (sg := D 13) (i := p1.toNatClampNeg) (n := (D 12 0).toNatClampNeg) (by
      obtain ⟨b1, b2⟩ := c32
      have a1 : ¬ p1.toInt < (0 : Int32).toInt := fun q => c1 (na_lt.mpr q)
      have a2 : ¬ (D 12 0).toInt ≤ p1.toInt := fun q => c2 (na_le.mpr q)
      have z0 : (0 : Int32).toInt = 0 := rfl
      have x1 := na_cl (x := p1) (by omega)
      have x2 := na_cl (x := D 12 0) (by omega)
      omega)).mp hm
    have p0 : 0 ≤ p1 := Int32.not_lt.mp c1
    have hsm := sm1_sm hs
    have hJ' := J_s (sm_sJ hsm) hJ
    have hokM' := J_okM hJ'
    have hLM' := J_LM hJ'
    have hFM' := J_FM hJ'
    obtain ⟨e22', e23', e32', e35', e40', f68', f69', f70', f81', f82', f83', f84', f85', f86', f76'⟩ := J_eqs hJ'
    have t2 := sm_at hsm 2
    have t3 := sm_at hsm 3
    have t12 := sm_12 hsm
    have t13 := sm_at hsm 13
    have t21 := sm_at hsm 21
    have tL := sm_LC hsm
    have tF := sm_FC hsm
    have csg' := csg
    rw [ry_155]
    simp +decide only [FI_i, e32', f81', t12, t13, s32, v30, p0, csg', hct, c1, c2, q0, q1, q2, q3, q4, q5, Bool.true_eq_false, Bool.false_eq_true, true_imp_iff, false_imp_iff, not_true_eq_false, not_false_eq_true, true_and, and_true, implies_true]
    exact hJ'
  · have hct := (pk_ct (sg := D 13) (i := p1.toNatClampNeg) (n := (D 12 0).toNatClampNeg) (by
      obtain ⟨b1, b2⟩ := c32
      have a1 : ¬ p1.toInt < (0 : Int32).toInt := fun q => c1 (na_lt.mpr q)
      have a2 : ¬ (D 12 0).toInt ≤ p1.toInt := fun q => c2 (na_le.mpr q)
      have z0 : (0 : Int32).toInt = 0 := rfl
      have x1 := na_cl (x := p1) (by omega)
      have x2 := na_cl (x := D 12 0) (by omega)
      omega))
    have hct : ct_ (D 13) 0 p1.toNatClampNeg = false := by
      rw [← Bool.not_eq_true]
      exact fun q => hm (hct.mpr q)
    have p0 : 0 ≤ p1 := Int32.not_lt.mp c1
    have hsm := sm1_sm hs
    have hJ' := J_s (sm_sJ hsm) hJ
    have hokM' := J_okM hJ'
    have hLM' := J_LM hJ'
    have hFM' := J_FM hJ'
    obtain ⟨e22', e23', e32', e35', e40', f68', f69', f70', f81', f82', f83', f84', f85', f86', f76'⟩ := J_eqs hJ'
    have t2 := sm_at hsm 2
    have t3 := sm_at hsm 3
    have t12 := sm_12 hsm
    have t13 := sm_at hsm 13
    have t21 := sm_at hsm 21
    have tL := sm_LC hsm
    have tF := sm_FC hsm
    have csg' := csg
    rw [ry_155]
    simp +decide only [FI_i, e32', f81', t12, t13, s32, v30, p0, csg', hct, c1, c2, q0, q1, q2, q3, q4, q5, Bool.true_eq_false, Bool.false_eq_true, true_imp_iff, false_imp_iff, not_true_eq_false, not_false_eq_true, true_and, and_true, implies_true]
    exact hJ'
  · rw [ry_155]
    simp only [FI_i, ax_up_ap, Nat.reduceEqDiff, ↓reduceIte, e22, e32, e35, e40, s32, c1, c2, q0, q1, q2, q3, q4, q5, true_imp_iff, false_imp_iff, not_true_eq_false, not_false_eq_true, true_and, and_true, implies_true]
    exact J_ref _ hJ
set_option maxRecDepth 10000 in
theorem pr_109 {D : ax_Dn} (E : ax_En) (hJ : J D) (p1 : Int32) : cy_109 [.ref 0, .int p1] (ax_S D E) (KI cy_204 [.ref 58, .int p1]) := by
  have hok := J_okC hJ
  have hokM := J_okM hJ
  obtain ⟨e22, e23, e32, e35, e40, f68, f69, f70, f81, f82, f83, f84, f85, f86, f76⟩ := J_eqs hJ
  have c22 := hok.1
  have c23 := hok.2.1
  have c32 := hok.2.2.1
  have csg := hok.2.2.2.1
  have c35 := hok.2.2.2.2.2.2.2.2.2.2.2.2.2.2.2.1
  have s32 := fun p => sb1_ (p := p) c32
  have n32 : 0 ≤ D 12 0 := na_le.mpr c32.1
  have m32 : D 12 0 ≤ 30 := na_le.mpr c32.2
  rw [ry_109]
  simp only [KI_i]
  have x20 := hJ.2.2.1.2.1
  have x41 := hJ.2.2.2.1.2.1
  have x59 := hJ.2.1
  have i11 := i11_ p1
  have i16 := i16_ p1
  refine ⟨fun q => ?_, fun q0 => ⟨fun q => ?_, fun q1 => ⟨fun q => ?_, fun q2 => ⟨fun q => ⟨csg, n32, m32, fun D' hs hp => ?_⟩, fun q3 => ⟨fun q => ?_, fun q4 => ⟨fun q => ?_, fun q5 => ⟨fun q => ?_, fun q6 => ⟨fun q => ?_, fun q7 => ⟨fun q => ?_, fun q8 => ⟨fun q => ?_, fun q9 => ⟨?_, ?_⟩⟩⟩⟩⟩⟩⟩⟩⟩⟩⟩
  · subst q
    rw [ry_204]
    simp +decide only [FI_i, e22, e32, e23, e35, e40, f81, x20, x41, x59, Int32.reduceLT, true_imp_iff, false_imp_iff, not_true_eq_false, not_false_eq_true, true_and, and_true, implies_true]
    exact hJ
  · subst q
    rw [ry_204]
    simp +decide only [FI_i, e22, e32, e23, e35, e40, f81, x20, x41, x59, Int32.reduceLT, true_imp_iff, false_imp_iff, not_true_eq_false, not_false_eq_true, true_and, and_true, implies_true]
    exact hJ
  · subst q
    rw [ry_204]
    simp +decide only [FI_i, e22, e32, e23, e35, e40, f81, x20, x41, x59, Int32.reduceLT, true_imp_iff, false_imp_iff, not_true_eq_false, not_false_eq_true, true_and, and_true, implies_true]
    exact hJ
  · subst q
    have hsm := sm1_sm hs
    have hJ' := J_s (sm_sJ hsm) hJ
    have hokM' := J_okM hJ'
    have hLM' := J_LM hJ'
    have hFM' := J_FM hJ'
    obtain ⟨e22', e23', e32', e35', e40', f68', f69', f70', f81', f82', f83', f84', f85', f86', f76'⟩ := J_eqs hJ'
    have t2 := sm_at hsm 2
    have t3 := sm_at hsm 3
    have t12 := sm_12 hsm
    have t13 := sm_at hsm 13
    have t21 := sm_at hsm 21
    have tL := sm_LC hsm
    have tF := sm_FC hsm
    rw [ry_204]
    simp +decide only [FI_i, e32', f81', t12, t13, hokM', n32, m32, Int32.reduceLT, true_imp_iff, false_imp_iff, not_true_eq_false, not_false_eq_true, true_and, and_true, implies_true]
    exact hJ'
  · subst q
    rw [ry_204]
    simp +decide only [FI_i, e22, e32, e23, e35, e40, f81, x20, x41, x59, Int32.reduceLT, true_imp_iff, false_imp_iff, not_true_eq_false, not_false_eq_true, true_and, and_true, implies_true]
    exact hJ
  · subst q
    rw [ry_204]
    simp +decide only [FI_i, e22, e32, e23, e35, e40, f81, x20, x41, x59, Int32.reduceLT, true_imp_iff, false_imp_iff, not_true_eq_false, not_false_eq_true, true_and, and_true, implies_true]
    exact hJ
  · subst q
    rw [ry_204]
    simp +decide only [FI_i, e22, e32, e23, e35, e40, f81, x20, x41, x59, Int32.reduceLT, true_imp_iff, false_imp_iff, not_true_eq_false, not_false_eq_true, true_and, and_true, implies_true]
    exact hJ
  · subst q
    rw [ry_204]
    simp +decide only [FI_i, e22, e32, e23, e35, e40, f81, x20, x41, x59, Int32.reduceLT, true_imp_iff, false_imp_iff, not_true_eq_false, not_false_eq_true, true_and, and_true, implies_true]
    exact hJ
  · rw [ry_204]
    simp only [i11, i16, q, q0, q1, q2, q3, q4, q5, q6, q7, FI_i, e22, e32, e23, e35, e40, f81, x20, x41, x59, Int32.reduceLT, true_imp_iff, false_imp_iff, not_true_eq_false, not_false_eq_true, true_and, and_true, implies_true]
    exact hJ
  · have q8' := i17_ q
    rw [ry_204]
    simp only [i11, i16, q, q8', q0, q1, q2, q3, q4, q5, q6, q7, FI_i, e22, e32, e23, e35, e40, f81, x20, x41, x59, Int32.reduceLT, true_imp_iff, false_imp_iff, not_true_eq_false, not_false_eq_true, true_and, and_true, implies_true]
    exact hJ
  · have a1 : ¬ p1.toInt ≤ (10 : Int32).toInt := fun z => q8 (na_le.mpr z)
    have a2 : ¬ (17 : Int32).toInt ≤ p1.toInt := fun z => q9 (na_le.mpr z)
    have z10 : (10 : Int32).toInt = 10 := rfl
    have z17 : (17 : Int32).toInt = 17 := rfl
    have e : (p1 - 10).toInt = p1.toInt - 10 := by rw [na_sub (by rw [z10]; omega) (by rw [z10]; omega), z10]
    have v7 : vp_in (p1 - 10) 7 := na_in (by omega) (by omega)
    exact v7
  · have a1 : ¬ p1.toInt ≤ (10 : Int32).toInt := fun z => q8 (na_le.mpr z)
    have a2 : ¬ (17 : Int32).toInt ≤ p1.toInt := fun z => q9 (na_le.mpr z)
    have z10 : (10 : Int32).toInt = 10 := rfl
    have z17 : (17 : Int32).toInt = 17 := rfl
    have e : (p1 - 10).toInt = p1.toInt - 10 := by rw [na_sub (by rw [z10]; omega) (by rw [z10]; omega), z10]
    have v7 : vp_in (p1 - 10) 7 := na_in (by omega) (by omega)
    rw [ry_204]
    simp only [i11, i16, q8, q9, v7, FI_i, e22, e32, e23, e35, e40, f81, x20, x41, x59, Int32.reduceLT, true_imp_iff, false_imp_iff, not_true_eq_false, not_false_eq_true, true_and, and_true, implies_true]
    exact hJ
set_option maxRecDepth 10000 in
theorem pr_104 {D : ax_Dn} (E : ax_En) (hJ : J D) (p1 : Int32) : cy_104 [.ref 0, .int p1] (ax_S D E) (KI cy_196 [.ref 58, .int p1]) := by
  have hok := J_okC hJ
  have hokM := J_okM hJ
  obtain ⟨e22, e23, e32, e35, e40, f68, f69, f70, f81, f82, f83, f84, f85, f86, f76⟩ := J_eqs hJ
  have c22 := hok.1
  have c23 := hok.2.1
  have c32 := hok.2.2.1
  have csg := hok.2.2.2.1
  have c35 := hok.2.2.2.2.2.2.2.2.2.2.2.2.2.2.2.1
  have s32 := fun p => sb1_ (p := p) c32
  have n32 : 0 ≤ D 12 0 := na_le.mpr c32.1
  have m32 : D 12 0 ≤ 30 := na_le.mpr c32.2
  rw [ry_104]
  simp only [KI_i]
  have a5 := hJ.1.2.2.2.2.1
  have a6 := hJ.1.2.2.2.2.2
  have h20 := hJ.1.2.2.1.1
  have hsum := hJ.1.2.2.1.2.2.2.1
  obtain ⟨n, hn, n20, hc⟩ := ax_cnt_of h20 (by decide)
  have core : ∀ p1 : Int32, (p1 = 0 ∨ p1 = 1) → (¬D 1 4 = 0 → ∃ (x : Int32) (b : Nat), (D 1 5).toInt64 = x.toInt64 ∧ (D 1 4).toInt64 = (nI b).toInt64 ∧ rg_ x (-1000) 1000 ∧ 0 < b ∧ b ≤ 20 ∧ cy_196 [.ref 58, .int p1] (ax_S D E) (FI ((if p1 = 0 then (D 1 5).toInt64 else (D 1 4).toInt64) / lN (x.toInt.natAbs.gcd b)).toInt32)) ∧ (D 1 4 = 0 → cy_196 [.ref 58, .int p1] (ax_S (ax_up D 51 (ax_up (D 51) 3 (D 51 3 + 1))) E) (FI (1000000000 - -3))) := by
    intro p1 hp
    have b1 : ¬ p1 < 0 := by rcases hp with rfl | rfl <;> decide
    have b2 : ¬ 1 < p1 := by rcases hp with rfl | rfl <;> decide
    refine ⟨fun c => ?_, fun c => ?_⟩
    · have n0 : 0 < n := by
        rcases Nat.eq_zero_or_pos n with q | q
        · rw [hn, q] at c; exact absurd nI_0 c
        · exact q
      obtain ⟨r1, r2⟩ := su_rg a5 a6 n n20
      rw [hc] at hsum
      obtain ⟨g1, g2⟩ := gg_ (x := D 1 5) n0 n20
      refine ⟨D 1 5, n, rfl, by rw [hn], ⟨by rw [hsum]; omega, by rw [hsum]; omega⟩, n0, n20, ?_⟩
      rw [ry_196]
      simp only [FI_i, e40, b1, b2, c, h20, a5, a6, hc, true_imp_iff, false_imp_iff, not_true_eq_false, not_false_eq_true, true_and, and_true, implies_true]
      refine ⟨?_, hJ⟩
      rw [← hsum]
      unfold an_
      by_cases z : p1 = 0
      · rw [if_pos z, if_pos z, dv64 g1 g2]
      · rw [if_neg z, if_neg z, hn, dv64 g1 g2]
    · rw [ry_196]
      simp only [FI_i, ax_up_ap, Nat.reduceEqDiff, ↓reduceIte, e40, b1, b2, c, true_imp_iff, false_imp_iff, not_true_eq_false, not_false_eq_true, true_and, and_true, implies_true]
      exact J_ref _ hJ
  refine ⟨fun c1 => core p1 (.inl c1), fun c1 => ⟨fun c2 => ?_, fun c2 => core p1 (.inr c2)⟩⟩
  rw [ry_196]
  simp only [FI_i, ax_up_ap, Nat.reduceEqDiff, ↓reduceIte, e40, true_imp_iff, false_imp_iff, not_true_eq_false, not_false_eq_true, true_and, and_true, implies_true]
  refine ⟨fun _ => J_ref _ hJ, fun c3 => ⟨fun _ => J_ref _ hJ, fun c4 => absurd (i01_ c1 c2 c3) c4⟩⟩
