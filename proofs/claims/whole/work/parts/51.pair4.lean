/-! Pairs: which, need, most, when. -/
theorem wm_51 (D : ax_Dn) (a : Nat → Int32) : wm_ (ax_up D 51 a) = wm_ D := by
  funext d n i
  unfold wm_ LM
  rw [FM_up _ _ _ (by decide)]
  simp only [ax_up_ap, Nat.reduceEqDiff, ↓reduceIte]
theorem sm_ne {D D' : ax_Dn} (h : sm D D') (m : Nat) (d hh : Int32) : ∀ j n, ne_ D' m d hh j n = ne_ D m d hh j n := by
  intro j
  induction j with
  | zero => intro n; rfl
  | succ j ih =>
    intro n
    unfold ne_
    rw [sm_sh h, sm_at h 13, ih]
theorem fr_congr {f f' : Nat → Int64} (h : ∀ i, i ≤ 36 → f i = f' i) {b : Nat} (hb : b ≤ 36) : ∀ (j k : Nat), k + j = b → fr_ f b j k = fr_ f' b j k := by
  intro j
  induction j with
  | zero => intro k _; rfl
  | succ j ih =>
    intro k hk
    unfold fr_
    rw [h b hb, h k (by omega), ih (k + 1) (by omega)]
theorem la_congr {f f' : Nat → Int64} (h : ∀ i, i ≤ 36 → f i = f' i) {b : Nat} : ∀ (j : Nat), b + j ≤ 36 → la_ f b j = la_ f' b j := by
  intro j
  induction j with
  | zero => intro _; rfl
  | succ j ih =>
    intro hj
    unfold la_
    rw [h b (by omega), h (b + (j + 1)) hj, ih (by omega)]
theorem sl_nat1 {f : Nat → Int64} {B : Nat} : ∀ {n : Nat}, (∀ i, i < n → ∃ q : Nat, f i = lN q ∧ 1 ≤ q ∧ q ≤ B) → ∃ q : Nat, sl_ f n = lN q ∧ n ≤ q ∧ q ≤ n * B := by
  intro n
  induction n with
  | zero => intro _; exact ⟨0, rfl, by omega, by omega⟩
  | succ n ih =>
    intro h
    obtain ⟨q, h1, h2, h3⟩ := ih (fun i hi => h i (by omega))
    obtain ⟨r, h4, h5, h6⟩ := h n (by omega)
    refine ⟨q + r, ?_, by omega, by rw [Nat.succ_mul]; omega⟩
    unfold sl_
    rw [h1, h4, lN_add]
theorem nI10_ (k : Nat) : nI k * 10 = nI (k * 10) := by rw [show (10 : Int32) = nI 10 by decide, nI_mul]
theorem nI10l_ (k : Nat) : 10 * nI k = nI (k * 10) := by rw [show (10 : Int32) = nI 10 by decide, nI_mul, Nat.mul_comm]
set_option maxRecDepth 10000 in
theorem pr_87 {D : ax_Dn} (E : ax_En) (hJ : J D) (p1 : Int32) : cy_87 [.ref 0, .int p1] (ax_S D E) (KI cy_173 [.ref 58, .int p1]) := by
  have hok := J_okC hJ
  have hokM := J_okM hJ
  obtain ⟨e22, e23, e32, e35, e40, f68, f69, f70, f81, f82, f83, f84, f85, f86, f76⟩ := J_eqs hJ
  have c22 := hok.1
  have c23 := hok.2.1
  have c32 := hok.2.2.1
  have csg := hok.2.2.2.1
  have c35 := hok.2.2.2.2.2.2.2.2.2.2.2.2.2.2.2.1
  have s32 := fun p => sb1_ (p := p) c32
  have n32 : 0 ≤ D 12 0 := na_le.mpr c32.1
  have m32 : D 12 0 ≤ 30 := na_le.mpr c32.2
  rw [ry_87]
  simp only [KI_i]
  refine ⟨fun c1 => ⟨fun c2 => ⟨hok, n32, m32, fun D' E' hs hE hT => ⟨fun c3 => ?_, fun c3 => ?_⟩⟩, fun c2 => ?_⟩, fun c1 => ?_⟩
  · rw [cm_eq0] at c3
    have hsm := sm1_sm hs
    have hJ' := J_s (sm_sJ hsm) hJ
    have hokM' := J_okM hJ'
    have hLM' := J_LM hJ'
    have hFM' := J_FM hJ'
    obtain ⟨e22', e23', e32', e35', e40', f68', f69', f70', f81', f82', f83', f84', f85', f86', f76'⟩ := J_eqs hJ'
    have t2 := sm_at hsm 2
    have t3 := sm_at hsm 3
    have t12 := sm_12 hsm
    have t13 := sm_at hsm 13
    have t21 := sm_at hsm 21
    have tL := sm_LC hsm
    have tF := sm_FC hsm
    have hal := al_sh hJ' p1 (D 12 0).toNatClampNeg
    rw [t2, sm_sh hsm] at hal
    obtain ⟨N, hN, h6, hc, hw⟩ := J_N hJ
    rw [hc] at hal
    rw [ry_173]
    simp only [FI_i, e22', e32', t2, t12, hokM', hc, hal, c1, c2, c3, true_imp_iff, false_imp_iff, not_true_eq_false, not_false_eq_true, true_and, and_true, implies_true]
    refine ⟨?_, hJ'⟩
    rw [which_eq (s := sh_ D p1 (D 12 0).toNatClampNeg) h6 (fun i hi => ?_) (fun i h1 h2 => ?_) (fun i hi => ?_) c3]
    · rw [be_congr (fun i hi => (hE i (by omega)).symm)]
    · rw [wm_sh hJ' p1 _ i (by
        rcases hi with q | q
        · exact .inl ⟨by rw [t2, hN]; exact nI_lt q (by omega), by omega⟩
        · exact .inr q), sm_sh hsm]
    · unfold sh_
      rw [if_pos h2, if_neg (by rw [hN]; exact nI_nlt h1 (by omega))]
    · obtain ⟨q, y1, y2, -⟩ := sh_nat hJ p1 (D 12 0).toNatClampNeg i hi
      exact ⟨q, y1, by omega⟩
  · rw [cm_eq0] at c3
    have hsm := sm1_sm hs
    have hJ' := J_s (sm_sJ hsm) hJ
    have hokM' := J_okM hJ'
    have hLM' := J_LM hJ'
    have hFM' := J_FM hJ'
    obtain ⟨e22', e23', e32', e35', e40', f68', f69', f70', f81', f82', f83', f84', f85', f86', f76'⟩ := J_eqs hJ'
    have t2 := sm_at hsm 2
    have t3 := sm_at hsm 3
    have t12 := sm_12 hsm
    have t13 := sm_at hsm 13
    have t21 := sm_at hsm 21
    have tL := sm_LC hsm
    have tF := sm_FC hsm
    have hal := al_sh hJ' p1 (D 12 0).toNatClampNeg
    rw [t2, sm_sh hsm] at hal
    rw [ry_173]
    simp only [FI_i, ax_up_ap, Nat.reduceEqDiff, ↓reduceIte, e22', e32', t2, t12, okM_up _ 51 _ (by decide : kM 51 = true), hokM', wm_51, hal, c1, c2, c3, true_imp_iff, false_imp_iff, not_true_eq_false, not_false_eq_true, true_and, and_true, implies_true]
    exact J_ref _ hJ'
  · rw [ry_173]
    simp only [FI_i, ax_up_ap, Nat.reduceEqDiff, ↓reduceIte, e22, e32, e35, e40, s32, c1, c2, okM_up _ 51 _ (by decide : kM 51 = true), hokM, true_imp_iff, false_imp_iff, not_true_eq_false, not_false_eq_true, true_and, and_true, implies_true]
    exact J_ref _ hJ
  · rw [ry_173]
    simp only [FI_i, ax_up_ap, Nat.reduceEqDiff, ↓reduceIte, e22, e32, e35, e40, s32, c1, okM_up _ 51 _ (by decide : kM 51 = true), hokM, true_imp_iff, false_imp_iff, not_true_eq_false, not_false_eq_true, true_and, and_true, implies_true]
    exact J_ref _ hJ
set_option maxRecDepth 10000 in
theorem pr_94 {D : ax_Dn} (E : ax_En) (hJ : J D) (p1 : Int32) (p2 : Int32) (p3 : Int32) : cy_94 [.ref 0, .int p1, .int p2, .int p3] (ax_S D E) (KI cy_184 [.ref 58, .int p1, .int p2, .int p3]) := by
  have hok := J_okC hJ
  have hokM := J_okM hJ
  obtain ⟨e22, e23, e32, e35, e40, f68, f69, f70, f81, f82, f83, f84, f85, f86, f76⟩ := J_eqs hJ
  have c22 := hok.1
  have c23 := hok.2.1
  have c32 := hok.2.2.1
  have csg := hok.2.2.2.1
  have c35 := hok.2.2.2.2.2.2.2.2.2.2.2.2.2.2.2.1
  have s32 := fun p => sb1_ (p := p) c32
  have n32 : 0 ≤ D 12 0 := na_le.mpr c32.1
  have m32 : D 12 0 ≤ 30 := na_le.mpr c32.2
  rw [ry_94]
  simp only [KI_i]
  refine ⟨fun c1 => ?_, fun c1 => ⟨fun c2 => ?_, fun c2 => ⟨fun c3 => ?_, fun c3 => ⟨fun c4 => ⟨fun c5 => ?_, fun c5 => ⟨fun c6' => ⟨hok, v67_ (vm_ c22 c1 c2), fun D' E' hs => ?_⟩, fun c6' => ?_⟩⟩, fun c4 => ?_⟩⟩⟩⟩
  · rw [ry_184]
    simp only [FI_i, ax_up_ap, Nat.reduceEqDiff, ↓reduceIte, e22, e32, e35, e40, s32, c1, true_imp_iff, false_imp_iff, not_true_eq_false, not_false_eq_true, true_and, and_true, implies_true]
    exact J_ref _ hJ
  · rw [ry_184]
    simp only [FI_i, ax_up_ap, Nat.reduceEqDiff, ↓reduceIte, e22, e32, e35, e40, s32, c1, c2, true_imp_iff, false_imp_iff, not_true_eq_false, not_false_eq_true, true_and, and_true, implies_true]
    exact J_ref _ hJ
  · rw [ry_184]
    simp only [FI_i, ax_up_ap, Nat.reduceEqDiff, ↓reduceIte, e22, e32, e35, e40, s32, c1, c2, c3, true_imp_iff, false_imp_iff, not_true_eq_false, not_false_eq_true, true_and, and_true, implies_true]
    exact J_ref _ hJ
  · rw [ry_184]
    simp only [FI_i, ax_up_ap, Nat.reduceEqDiff, ↓reduceIte, e22, e32, e35, e40, s32, c1, c2, c3, c4, c5, true_imp_iff, false_imp_iff, not_true_eq_false, not_false_eq_true, true_and, and_true, implies_true]
    exact J_ref _ hJ
  · have vm := vm_ c22 c1 c2
    have hsm := sm1_sm hs
    have hJ' := J_s (sm_sJ hsm) hJ
    have hokM' := J_okM hJ'
    have hLM' := J_LM hJ'
    have hFM' := J_FM hJ'
    obtain ⟨e22', e23', e32', e35', e40', f68', f69', f70', f81', f82', f83', f84', f85', f86', f76'⟩ := J_eqs hJ'
    have t2 := sm_at hsm 2
    have t3 := sm_at hsm 3
    have t12 := sm_12 hsm
    have t13 := sm_at hsm 13
    have t21 := sm_at hsm 21
    have tL := sm_LC hsm
    have tF := sm_FC hsm
    rw [ry_184]
    simp only [FI_i, e22', e32', t2, t12, hokM', vm, c1, c2, c3, c4, c5, c6', true_imp_iff, false_imp_iff, not_true_eq_false, not_false_eq_true, true_and, and_true, implies_true]
    refine ⟨?_, hJ'⟩
    obtain ⟨m, hm, rfl⟩ := vp_in_of vm (by decide)
    rw [nI_clamp (by omega)]
    have := need_eq hJ' m (by rw [t2]; exact Int32.not_le.mp c2) hm p2 p3 (D 12 0).toNatClampNeg 0 (.inl rfl)
    rw [t2, sm_ne hsm] at this
    exact this.symm
  · rw [ry_184]
    simp only [FI_i, ax_up_ap, Nat.reduceEqDiff, ↓reduceIte, e22, e32, e35, e40, s32, c1, c2, c3, c4, c5, c6', true_imp_iff, false_imp_iff, not_true_eq_false, not_false_eq_true, true_and, and_true, implies_true]
    exact J_ref _ hJ
  · rw [ry_184]
    simp only [FI_i, ax_up_ap, Nat.reduceEqDiff, ↓reduceIte, e22, e32, e35, e40, s32, c1, c2, c3, c4, true_imp_iff, false_imp_iff, not_true_eq_false, not_false_eq_true, true_and, and_true, implies_true]
    exact J_ref _ hJ
set_option maxRecDepth 10000 in
theorem pr_90 {D : ax_Dn} (E : ax_En) (hJ : J D) (p1 : Int32) (p2 : Int32) : cy_90 [.ref 0, .int p1, .int p2] (ax_S D E) (KI cy_178 [.ref 58, .int p1, .int p2]) := by
  have hok := J_okC hJ
  have hokM := J_okM hJ
  obtain ⟨e22, e23, e32, e35, e40, f68, f69, f70, f81, f82, f83, f84, f85, f86, f76⟩ := J_eqs hJ
  have c22 := hok.1
  have c23 := hok.2.1
  have c32 := hok.2.2.1
  have csg := hok.2.2.2.1
  have c35 := hok.2.2.2.2.2.2.2.2.2.2.2.2.2.2.2.1
  have s32 := fun p => sb1_ (p := p) c32
  have n32 : 0 ≤ D 12 0 := na_le.mpr c32.1
  have m32 : D 12 0 ≤ 30 := na_le.mpr c32.2
  rw [ry_90]
  simp only [KI_i]
  have i23 := i23_ p2
  refine ⟨fun c1 => ?_, fun c1 => ⟨fun c2 => ?_, fun c2 => ⟨fun c3 => ?_, fun c3 => ⟨fun c4 => ⟨hok, vm_ c22 c1 c2, fun D' E' hs hE => ?_⟩, fun c4 => ?_⟩⟩⟩⟩
  · rw [ry_178]
    simp only [FI_i, ax_up_ap, Nat.reduceEqDiff, ↓reduceIte, e22, e32, e35, e40, s32, c1, true_imp_iff, false_imp_iff, not_true_eq_false, not_false_eq_true, true_and, and_true, implies_true]
    exact J_ref _ hJ
  · rw [ry_178]
    simp only [FI_i, ax_up_ap, Nat.reduceEqDiff, ↓reduceIte, e22, e32, e35, e40, s32, c1, c2, true_imp_iff, false_imp_iff, not_true_eq_false, not_false_eq_true, true_and, and_true, implies_true]
    exact J_ref _ hJ
  · rw [ry_178]
    simp only [FI_i, ax_up_ap, Nat.reduceEqDiff, ↓reduceIte, e22, e32, e35, e40, s32, c1, c2, c3, true_imp_iff, false_imp_iff, not_true_eq_false, not_false_eq_true, true_and, and_true, implies_true]
    exact J_ref _ hJ
  · have vm := vm_ c22 c1 c2
    have hsm := sm1_sm hs
    have hJ' := J_s (sm_sJ hsm) hJ
    have hokM' := J_okM hJ'
    have hLM' := J_LM hJ'
    have hFM' := J_FM hJ'
    obtain ⟨e22', e23', e32', e35', e40', f68', f69', f70', f81', f82', f83', f84', f85', f86', f76'⟩ := J_eqs hJ'
    have t2 := sm_at hsm 2
    have t3 := sm_at hsm 3
    have t12 := sm_12 hsm
    have t13 := sm_at hsm 13
    have t21 := sm_at hsm 21
    have tL := sm_LC hsm
    have tF := sm_FC hsm
    have hv : ∀ t, ∃ q : Nat, LC D (D 21 1) p1 (nI (t * 10)) 0 (D 12 0).toNatClampNeg = lN q ∧ 1 ≤ q ∧ q < 2 ^ 61 := fun t => by
      obtain ⟨q, y1, y2, y3⟩ := LC_nat hok (D 21 1) p1 (nI (t * 10)) 0 (D 12 0).toNatClampNeg
      exact ⟨q, y1, y2, by omega⟩
    have hI : ∀ k, (fun k => @decide (is_ (fun t => LC D (D 21 1) p1 (nI (t * 10)) 0 (D 12 0).toNatClampNeg) (gl_ (fun t => LC D (D 21 1) p1 (nI (t * 10)) 0 (D 12 0).toNatClampNeg) 37) p2 k) (Classical.propDecidable _)) k = true ↔ is_ (fun t => LC D (D 21 1) p1 (nI (t * 10)) 0 (D 12 0).toNatClampNeg) (gl_ (fun t => LC D (D 21 1) p1 (nI (t * 10)) 0 (D 12 0).toNatClampNeg) 37) p2 k := fun k => @decide_eq_true_iff _ (Classical.propDecidable _)
    obtain ⟨k0, k1, k2⟩ := most_eq hv hI
    have hcg : ∀ i, i ≤ 36 → E' 55 i = (fun t => LC D (D 21 1) p1 (nI (t * 10)) 0 (D 12 0).toNatClampNeg) i := fun i hi => hE i (by omega)
    have hb := be_congr (n := 36) hcg
    have hb36 := be_le (fun t => LC D (D 21 1) p1 (nI (t * 10)) 0 (D 12 0).toNatClampNeg) 36
    have mk : ∀ x : Int32, mb_ (mo_ (fun k => @decide (is_ (fun t => LC D (D 21 1) p1 (nI (t * 10)) 0 (D 12 0).toNatClampNeg) (gl_ (fun t => LC D (D 21 1) p1 (nI (t * 10)) 0 (D 12 0).toNatClampNeg) 37) p2 k) (Classical.propDecidable _)) p2 37 0 none) = x → cy_178 [.ref 58, .int p1, .int p2] (ax_S D' E') (FI x) := by
      intro x hx
      rw [ry_178]
      simp only [FI_i, e22', e32', f76', t2, t12, t21, tL, hLM', hokM', vm, i23, c1, c2, c3, c4, true_imp_iff, false_imp_iff, not_true_eq_false, not_false_eq_true, true_and, and_true, implies_true]
      exact ⟨_, hI, hx, hJ'⟩
    rw [hb, fr_congr hcg hb36 _ 0 (by omega), la_congr hcg _ (by omega), nI10_, nI10_, nI10_]
    refine ⟨fun c5 => ⟨fun c6' => mk _ (k2 ?_), fun c6' => mk _ (k1 c6')⟩, fun c5 => mk _ (k0 c5)⟩
    have a1 : ¬ p2.toInt < (0 : Int32).toInt := fun q => c3 (na_lt.mpr q)
    have a2 := na_le.mp c4
    have a3 : ¬ p2.toInt = (0 : Int32).toInt := fun q => c5 (na_eq.mpr q)
    have a4 : ¬ p2.toInt = (1 : Int32).toInt := fun q => c6' (na_eq.mpr q)
    have z0 : (0 : Int32).toInt = 0 := rfl
    have z1 : (1 : Int32).toInt = 1 := rfl
    have z2 : (2 : Int32).toInt = 2 := rfl
    exact na_eq.mpr (by omega)
  · rw [ry_178]
    simp only [FI_i, ax_up_ap, Nat.reduceEqDiff, ↓reduceIte, e22, e32, e35, e40, s32, c1, c2, c3, c4, i23, true_imp_iff, false_imp_iff, not_true_eq_false, not_false_eq_true, true_and, and_true, implies_true]
    exact J_ref _ hJ
set_option maxRecDepth 10000 in
theorem pr_89 {D : ax_Dn} (E : ax_En) (hJ : J D) (p1 : Int32) (p2 : Int32) (p3 : Int32) : cy_89 [.ref 0, .int p1, .int p2, .int p3] (ax_S D E) (KL cy_176 [.ref 58, .int p1, .int p2, .int p3]) := by
  have hok := J_okC hJ
  have hokM := J_okM hJ
  obtain ⟨e22, e23, e32, e35, e40, f68, f69, f70, f81, f82, f83, f84, f85, f86, f76⟩ := J_eqs hJ
  have c22 := hok.1
  have c23 := hok.2.1
  have c32 := hok.2.2.1
  have csg := hok.2.2.2.1
  have c35 := hok.2.2.2.2.2.2.2.2.2.2.2.2.2.2.2.1
  have s32 := fun p => sb1_ (p := p) c32
  have n32 : 0 ≤ D 12 0 := na_le.mpr c32.1
  have m32 : D 12 0 ≤ 30 := na_le.mpr c32.2
  rw [ry_89]
  simp only [KL_i]
  have core : ∀ p3 : Int32, (p3 = 0 ∨ p3 = 1) → ¬p1 < 0 → ¬D 2 0 ≤ p1 → (0 ≤ p2 → (p2 ≤ 36 → okC D ∧ vp_in p1 6 ∧ ∀ (D' : ax_Dn) (E' : ax_En), sm1 D D' → (∀ (t : Nat), t < 37 → E' 55 t = LC D (D 21 1) p1 (nI (t * 10)) 0 (D 12 0).toNatClampNeg) → vp_in p2 37 ∧ ∃ a b, E' 55 p2.toNatClampNeg = lN a ∧ sl_ (E' 55) 37 = lN b ∧ a < 2 ^ 63 ∧ b < 2 ^ 63 ∧ 0 < b ∧ cy_176 [.ref 58, .int p1, .int p2, .int p3] (ax_S D' E') (FL (lN (lt_N a b p3)))) ∧ (¬p2 ≤ 36 → cy_176 [.ref 58, .int p1, .int p2, .int p3] (ax_S (ax_up D 51 (ax_up (D 51) 6 (D 51 6 + 1))) E) (FL (4000000000000000000 - (-6).toInt64)))) ∧ (¬0 ≤ p2 → cy_176 [.ref 58, .int p1, .int p2, .int p3] (ax_S (ax_up D 51 (ax_up (D 51) 4 (D 51 4 + 1))) E) (FL (4000000000000000000 - (-4).toInt64))) := by
    intro p3 hp c1 c2
    have b1 : ¬ p3 < 0 := by rcases hp with rfl | rfl <;> decide
    have b2 : ¬ 1 < p3 := by rcases hp with rfl | rfl <;> decide
    have vm := vm_ c22 c1 c2
    refine ⟨fun c3 => ⟨fun c4 => ⟨hok, vm, fun D' E' hs hE => ?_⟩, fun c4 => ?_⟩, fun c3 => ?_⟩
    · have q0 := na_le.mp c3
      have q1 := na_le.mp c4
      have z0 : (0 : Int32).toInt = 0 := rfl
      have z36 : (36 : Int32).toInt = 36 := rfl
      have hsm := sm1_sm hs
      have hJ' := J_s (sm_sJ hsm) hJ
      have hokM' := J_okM hJ'
      have hLM' := J_LM hJ'
      have hFM' := J_FM hJ'
      obtain ⟨e22', e23', e32', e35', e40', f68', f69', f70', f81', f82', f83', f84', f85', f86', f76'⟩ := J_eqs hJ'
      have t2 := sm_at hsm 2
      have t3 := sm_at hsm 3
      have t12 := sm_12 hsm
      have t13 := sm_at hsm 13
      have t21 := sm_at hsm 21
      have tL := sm_LC hsm
      have tF := sm_FC hsm
      obtain ⟨k, hk, rfl⟩ := vp_in_of (na_in (x := p2) (n := 37) (by omega) (by omega)) (by decide)
      have hv : ∀ t, ∃ q : Nat, LC D (D 21 1) p1 (nI (t * 10)) 0 (D 12 0).toNatClampNeg = lN q ∧ 1 ≤ q ∧ q ≤ 867582119190272 + 867582119190272 := fun t => LC_nat hok (D 21 1) p1 (nI (t * 10)) 0 (D 12 0).toNatClampNeg
      obtain ⟨a, a1, a2, a3⟩ := hv k
      obtain ⟨b, b3, b4, b5⟩ := sl_nat1 (f := fun t => LC D (D 21 1) p1 (nI (t * 10)) 0 (D 12 0).toNatClampNeg) (n := 37) (fun i _ => hv i)
      have hsl : sl_ (E' 55) 37 = lN b := by rw [← b3]; exact sl_congr hE
      refine ⟨vp_in_nI hk (by omega), a, b, by rw [nI_clamp (by omega), hE k hk, a1], hsl, by omega, by omega, by omega, ?_⟩
      rw [ry_176]
      simp only [FL_i, e22', e32', f76', t2, t12, t21, tL, hLM', hokM', vm, b1, b2, c1, c2, c3, c4, true_imp_iff, false_imp_iff, not_true_eq_false, not_false_eq_true, true_and, and_true, implies_true]
      exact ⟨a, b, by rw [nI10l_]; exact a1, b3, by omega, by omega, by omega, rfl, hJ'⟩
    · rw [ry_176]
      simp only [FL_i, ax_up_ap, Nat.reduceEqDiff, ↓reduceIte, e22, e32, e35, e40, s32, b1, b2, c1, c2, c3, c4, true_imp_iff, false_imp_iff, not_true_eq_false, not_false_eq_true, true_and, and_true, implies_true]
      exact J_ref _ hJ
    · rw [ry_176]
      simp only [FL_i, ax_up_ap, Nat.reduceEqDiff, ↓reduceIte, e22, e32, e35, e40, s32, b1, b2, c1, c2, c3, true_imp_iff, false_imp_iff, not_true_eq_false, not_false_eq_true, true_and, and_true, implies_true]
      exact J_ref _ hJ
  refine ⟨fun c1 => ?_, fun c1 => ⟨fun c2 => ?_, fun c2 => ⟨fun c3 => core p3 (.inl c3) c1 c2, fun c3 => ⟨fun c4 => ?_, fun c4 => core p3 (.inr c4) c1 c2⟩⟩⟩⟩
  · rw [ry_176]
    simp only [FL_i, ax_up_ap, Nat.reduceEqDiff, ↓reduceIte, e22, e32, e35, e40, s32, c1, true_imp_iff, false_imp_iff, not_true_eq_false, not_false_eq_true, true_and, and_true, implies_true]
    exact J_ref _ hJ
  · rw [ry_176]
    simp only [FL_i, ax_up_ap, Nat.reduceEqDiff, ↓reduceIte, e22, e32, e35, e40, s32, c1, c2, true_imp_iff, false_imp_iff, not_true_eq_false, not_false_eq_true, true_and, and_true, implies_true]
    exact J_ref _ hJ
  · rw [ry_176]
    simp only [FL_i, ax_up_ap, Nat.reduceEqDiff, ↓reduceIte, e22, c1, c2, true_imp_iff, false_imp_iff, not_true_eq_false, not_false_eq_true, true_and, and_true, implies_true]
    refine ⟨fun _ => J_ref _ hJ, fun c5 => ⟨fun _ => J_ref _ hJ, fun c6' => absurd (i01_ c3 c4 c5) c6'⟩⟩
