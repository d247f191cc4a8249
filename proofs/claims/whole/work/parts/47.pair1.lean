/-! Pairs that leave the page alone. -/
theorem J_eqs {D : ax_Dn} (hJ : J D) : D 58 22 = D 2 0 ∧ D 58 23 = D 2 5 ∧ D 58 32 = D 12 0 ∧ D 58 35 = D 19 0 ∧ D 58 40 = D 1 4 ∧ (D 68 = D 4 ∧ D 69 = D 5 ∧ D 70 = D 6 ∧ D 81 = D 13 ∧ D 82 = D 14 ∧ D 83 = D 15 ∧ D 84 = D 16 ∧ D 85 = D 17 ∧ D 86 = D 20 ∧ D 76 = D 21) := ⟨hJ.1.2.1.1, hJ.1.2.1.2.1, hJ.1.2.1.2.2.1, hJ.1.2.1.2.2.2.1, hJ.1.2.1.2.2.2.2, hJ.1.2.2.2.1⟩
theorem J_okC {D : ax_Dn} (hJ : J D) : okC D := hJ.1.1
theorem J_okM {D : ax_Dn} (hJ : J D) : okM D := by
  have h := J_okC hJ
  obtain ⟨e22, e23, e32, e35, e40, f68, f69, f70, f81, f82, f83, f84, f85, f86, f76⟩ := J_eqs hJ
  unfold okC at h
  unfold okM
  rw [e22, e23, e32, e35, f69, f70, f81, f82, f83, f84, f85, f86, f76]
  exact h
theorem J_lean {D : ax_Dn} (hJ : J D) : lM_ (D 69) (D 71) (D 72) (D 73) (D 74) (D 75) (D 58 23).toNatClampNeg = lC_ (D 5) (D 7) (D 8) (D 9) (D 10) (D 11) (D 2 5).toNatClampNeg := by
  obtain ⟨e22, e23, e32, e35, e40, f68, f69, f70, f81, f82, f83, f84, f85, f86, f76⟩ := J_eqs hJ
  obtain ⟨n, hn, h20, hc⟩ := ax_cnt_of (J_okC hJ).2.1 (by decide)
  rw [e23]
  have hE := hJ.1.2.2.1.2.2.1
  rw [hc] at hE ⊢
  exact (lean_eq h20 hE f69.symm).symm
theorem J_nick {D : ax_Dn} (hJ : J D) : nM_ (D 71) (D 72) (D 73) (D 74) (D 75) (D 58 23).toNatClampNeg = nC_ (D 7) (D 8) (D 9) (D 10) (D 11) (D 2 5).toNatClampNeg := by
  obtain ⟨e22, e23, e32, e35, e40, f68, f69, f70, f81, f82, f83, f84, f85, f86, f76⟩ := J_eqs hJ
  rw [e23]
  exact (nicks_eq hJ.1.2.2.1.2.2.1).symm
theorem J_lean2 {D : ax_Dn} (hJ : J D) : lM_ (D 5) (D 71) (D 72) (D 73) (D 74) (D 75) (D 2 5).toNatClampNeg = lC_ (D 5) (D 7) (D 8) (D 9) (D 10) (D 11) (D 2 5).toNatClampNeg := by
  have h := J_lean hJ
  obtain ⟨e22, e23, e32, e35, e40, f68, f69, f70, f81, f82, f83, f84, f85, f86, f76⟩ := J_eqs hJ
  rw [e23, f69] at h
  exact h
theorem J_nick2 {D : ax_Dn} (hJ : J D) : nM_ (D 71) (D 72) (D 73) (D 74) (D 75) (D 2 5).toNatClampNeg = nC_ (D 7) (D 8) (D 9) (D 10) (D 11) (D 2 5).toNatClampNeg := by
  have h := J_nick hJ
  obtain ⟨e22, e23, e32, e35, e40, f68, f69, f70, f81, f82, f83, f84, f85, f86, f76⟩ := J_eqs hJ
  rw [e23] at h
  exact h
theorem J_FM {D : ax_Dn} (hJ : J D) : FM D = FC D := by
  obtain ⟨e22, e23, e32, e35, e40, f68, f69, f70, f81, f82, f83, f84, f85, f86, f76⟩ := J_eqs hJ
  funext i m d k
  unfold FM FC
  rw [J_lean hJ, J_nick hJ, f68, f69, f70, f81, f82, f83, f84, f76]
theorem J_LM {D : ax_Dn} (hJ : J D) : LM D = LC D := by
  obtain ⟨e22, e23, e32, e35, e40, f68, f69, f70, f81, f82, f83, f84, f85, f86, f76⟩ := J_eqs hJ
  funext u m d f t
  unfold LM LC
  rw [J_FM hJ, f81]
theorem J_VM {D : ax_Dn} (hJ : J D) : VM D = VC D := by
  obtain ⟨e22, e23, e32, e35, e40, f68, f69, f70, f81, f82, f83, f84, f85, f86, f76⟩ := J_eqs hJ
  funext m d h
  unfold VM VC
  rw [J_lean hJ, J_nick hJ, f68, f70, f76, f86]
theorem J_FTM {D : ax_Dn} (hJ : J D) : FTM D = FT D := by
  obtain ⟨e22, e23, e32, e35, e40, f68, f69, f70, f81, f82, f83, f84, f85, f86, f76⟩ := J_eqs hJ
  funext m d i
  unfold FTM FT
  rw [J_lean hJ, J_nick hJ, f81, f82, f83, f76]
/-- a number below a count is in range -/
theorem vm_ {x p : Int32} {n : Nat} (h : ax_cnt x n) (h1 : ¬ p < 0) (h2 : ¬ x ≤ p) : vp_in p n := by
  have a1 : ¬ p.toInt < (0 : Int32).toInt := fun q => h1 (na_lt.mpr q)
  have a2 : ¬ x.toInt ≤ p.toInt := fun q => h2 (na_le.mpr q)
  have z : (0 : Int32).toInt = 0 := rfl
  obtain ⟨b1, b2⟩ := h
  exact na_in (by omega) (by omega)
theorem vt_ {p : Int32} (h1 : ¬ p < 0) (h2 : ¬ 10 ≤ p) : vp_in p 10 := by
  have a1 : ¬ p.toInt < (0 : Int32).toInt := fun q => h1 (na_lt.mpr q)
  have a2 : ¬ (10 : Int32).toInt ≤ p.toInt := fun q => h2 (na_le.mpr q)
  have z : (0 : Int32).toInt = 0 := rfl
  have z10 : (10 : Int32).toInt = 10 := rfl
  exact na_in (by omega) (by omega)
theorem sb1_ {x p : Int32} {n : Nat} (h : ax_cnt x n) : x - 1 < p ↔ x ≤ p := by
  have z : (1 : Int32).toInt = 1 := rfl
  obtain ⟨b1, b2⟩ := h
  have hx := na_hi x
  have e : (x - 1).toInt = x.toInt - 1 := by rw [na_sub (by rw [z]; omega) (by rw [z]; omega), z]
  rw [na_lt, na_le, e]
  omega
theorem sb1r_ {x p : Int32} {a b : Int} (h : rg_ x a b) (ha : -1000 ≤ a) : x - 1 < p ↔ x ≤ p := by
  have z : (1 : Int32).toInt = 1 := rfl
  obtain ⟨b1, b2⟩ := h
  have hx := na_hi x
  have e : (x - 1).toInt = x.toInt - 1 := by rw [na_sub (by rw [z]; omega) (by rw [z]; omega), z]
  rw [na_lt, na_le, e]
  omega
theorem le1_ {x : Int32} {a b : Int} (h : rg_ x a b) (ha : 1 ≤ a) (hb : b ≤ 100) : 1 ≤ x ∧ ¬ 2 * x = 0 := by
  obtain ⟨b1, b2⟩ := h
  have z : (1 : Int32).toInt = 1 := rfl
  have z2 : (2 : Int32).toInt = 2 := rfl
  refine ⟨na_le.mpr (by rw [z]; omega), fun q => ?_⟩
  have e : (2 * x).toInt = 2 * x.toInt := by rw [na_mul (by rw [z2]; omega) (by rw [z2]; omega), z2]
  rw [q] at e
  have z0 : (0 : Int32).toInt = 0 := rfl
  omega
set_option maxRecDepth 10000 in
theorem pr_75 {D : ax_Dn} (E : ax_En) (hJ : J D) (p1 : Int32) (p2 : Int32) (p3 : Int32) : cy_75 [.ref 0, .int p1, .int p2, .int p3] (ax_S D E) (KI cy_147 [.ref 58, .int p1, .int p2, .int p3]) := by
  have hok := J_okC hJ
  have hokM := J_okM hJ
  have hL := J_lean2 hJ
  have hN := J_nick2 hJ
  have hF := J_FM hJ
  obtain ⟨e22, e23, e32, e35, e40, f68, f69, f70, f81, f82, f83, f84, f85, f86, f76⟩ := J_eqs hJ
  have c22 := hok.1
  have c23 := hok.2.1
  have c32 := hok.2.2.1
  have csg := hok.2.2.2.1
  have c35 := hok.2.2.2.2.2.2.2.2.2.2.2.2.2.2.2.1
  have c214 := hok.2.2.2.2.2.2.2.2.2.2.2.2.2.2.1
  have l1 := le1_ c214 (by decide) (by decide)
  have s32 := fun p => sb1_ (p := p) c32
  have s35 := fun p => sb1_ (p := p) c35
  have s214 := fun p => sb1r_ (p := p) c214 (by decide)
  have s1 := fun p => cnt_in (csg p) (show 9 < 10 by decide)
  rw [ry_75]
  simp only [KI_i, ry_147, FI_i, ax_up_ap, Nat.reduceEqDiff, ↓reduceIte, e22, e23, e32, e35, e40, f68, f69, f70, f81, f82, f83, f84, f85, f86, f76, hL, hN, hok, hokM, c22, c23, c32, csg, c35, l1.1, l1.2, s32, s35, s214, true_and, and_true, not_true_eq_false, not_false_eq_true]
  repeat' (first | with_reducible apply And.intro | (with_reducible intro hq; try simp only [hq, true_imp_iff, false_imp_iff, not_true_eq_false, not_false_eq_true, true_and, and_true, implies_true, ↓reduceIte]))
  all_goals first
    | with_reducible rfl
    | with_reducible exact hJ
    | with_reducible exact J_ref _ hJ
    | with_reducible exact s1 _
    | with_reducible exact vm_ c22 (by assumption) (by assumption)
    | with_reducible exact vm_ c32 (by assumption) (by assumption)
    | with_reducible exact vm_ c35 (by assumption) (by assumption)
    | with_reducible exact vt_ (by assumption) (by assumption)
set_option maxRecDepth 10000 in
theorem pr_76 {D : ax_Dn} (E : ax_En) (hJ : J D) (p1 : Int32) (p2 : Int32) (p3 : Int32) : cy_76 [.ref 0, .int p1, .int p2, .int p3] (ax_S D E) (KI cy_148 [.ref 58, .int p1, .int p2, .int p3]) := by
  have hok := J_okC hJ
  have hokM := J_okM hJ
  have hL := J_lean2 hJ
  have hN := J_nick2 hJ
  have hF := J_FM hJ
  obtain ⟨e22, e23, e32, e35, e40, f68, f69, f70, f81, f82, f83, f84, f85, f86, f76⟩ := J_eqs hJ
  have c22 := hok.1
  have c23 := hok.2.1
  have c32 := hok.2.2.1
  have csg := hok.2.2.2.1
  have c35 := hok.2.2.2.2.2.2.2.2.2.2.2.2.2.2.2.1
  have c214 := hok.2.2.2.2.2.2.2.2.2.2.2.2.2.2.1
  have l1 := le1_ c214 (by decide) (by decide)
  have s32 := fun p => sb1_ (p := p) c32
  have s35 := fun p => sb1_ (p := p) c35
  have s214 := fun p => sb1r_ (p := p) c214 (by decide)
  have s1 := fun p => cnt_in (csg p) (show 9 < 10 by decide)
  rw [ry_76]
  simp only [KI_i, ry_148, FI_i, ax_up_ap, Nat.reduceEqDiff, ↓reduceIte, e22, e23, e32, e35, e40, f68, f69, f70, f81, f82, f83, f84, f85, f86, f76, hL, hN, hok, hokM, c22, c23, c32, csg, c35, l1.1, l1.2, s32, s35, s214, true_and, and_true, not_true_eq_false, not_false_eq_true]
  repeat' (first | with_reducible apply And.intro | (with_reducible intro hq; try simp only [hq, true_imp_iff, false_imp_iff, not_true_eq_false, not_false_eq_true, true_and, and_true, implies_true, ↓reduceIte]))
  all_goals first
    | with_reducible rfl
    | with_reducible exact hJ
    | with_reducible exact J_ref _ hJ
    | with_reducible exact s1 _
    | with_reducible exact vm_ c22 (by assumption) (by assumption)
    | with_reducible exact vm_ c32 (by assumption) (by assumption)
    | with_reducible exact vm_ c35 (by assumption) (by assumption)
    | with_reducible exact vt_ (by assumption) (by assumption)
set_option maxRecDepth 10000 in
theorem pr_77 {D : ax_Dn} (E : ax_En) (hJ : J D) (p1 : Int32) (p2 : Int32) (p3 : Int32) : cy_77 [.ref 0, .int p1, .int p2, .int p3] (ax_S D E) (KI cy_149 [.ref 58, .int p1, .int p2, .int p3]) := by
  have hok := J_okC hJ
  have hokM := J_okM hJ
  have hL := J_lean2 hJ
  have hN := J_nick2 hJ
  have hF := J_FM hJ
  obtain ⟨e22, e23, e32, e35, e40, f68, f69, f70, f81, f82, f83, f84, f85, f86, f76⟩ := J_eqs hJ
  have c22 := hok.1
  have c23 := hok.2.1
  have c32 := hok.2.2.1
  have csg := hok.2.2.2.1
  have c35 := hok.2.2.2.2.2.2.2.2.2.2.2.2.2.2.2.1
  have c214 := hok.2.2.2.2.2.2.2.2.2.2.2.2.2.2.1
  have l1 := le1_ c214 (by decide) (by decide)
  have s32 := fun p => sb1_ (p := p) c32
  have s35 := fun p => sb1_ (p := p) c35
  have s214 := fun p => sb1r_ (p := p) c214 (by decide)
  have s1 := fun p => cnt_in (csg p) (show 9 < 10 by decide)
  rw [ry_77]
  simp only [KI_i, ry_149, FI_i, ax_up_ap, Nat.reduceEqDiff, ↓reduceIte, e22, e23, e32, e35, e40, f68, f69, f70, f81, f82, f83, f84, f85, f86, f76, hL, hN, hok, hokM, c22, c23, c32, csg, c35, l1.1, l1.2, s32, s35, s214, true_and, and_true, not_true_eq_false, not_false_eq_true]
  repeat' (first | with_reducible apply And.intro | (with_reducible intro hq; try simp only [hq, true_imp_iff, false_imp_iff, not_true_eq_false, not_false_eq_true, true_and, and_true, implies_true, ↓reduceIte]))
  all_goals first
    | with_reducible rfl
    | with_reducible exact hJ
    | with_reducible exact J_ref _ hJ
    | with_reducible exact s1 _
    | with_reducible exact vm_ c22 (by assumption) (by assumption)
    | with_reducible exact vm_ c32 (by assumption) (by assumption)
    | with_reducible exact vm_ c35 (by assumption) (by assumption)
    | with_reducible exact vt_ (by assumption) (by assumption)
set_option maxRecDepth 10000 in
theorem pr_96 {D : ax_Dn} (E : ax_En) (hJ : J D) (p1 : Int32) : cy_96 [.ref 0, .int p1] (ax_S D E) (KI cy_187 [.ref 58, .int p1]) := by
  have hok := J_okC hJ
  have hokM := J_okM hJ
  have hL := J_lean2 hJ
  have hN := J_nick2 hJ
  have hF := J_FM hJ
  obtain ⟨e22, e23, e32, e35, e40, f68, f69, f70, f81, f82, f83, f84, f85, f86, f76⟩ := J_eqs hJ
  have c22 := hok.1
  have c23 := hok.2.1
  have c32 := hok.2.2.1
  have csg := hok.2.2.2.1
  have c35 := hok.2.2.2.2.2.2.2.2.2.2.2.2.2.2.2.1
  have c214 := hok.2.2.2.2.2.2.2.2.2.2.2.2.2.2.1
  have l1 := le1_ c214 (by decide) (by decide)
  have s32 := fun p => sb1_ (p := p) c32
  have s35 := fun p => sb1_ (p := p) c35
  have s214 := fun p => sb1r_ (p := p) c214 (by decide)
  have s1 := fun p => cnt_in (csg p) (show 9 < 10 by decide)
  rw [ry_96]
  simp only [KI_i, ry_187, FI_i, ax_up_ap, Nat.reduceEqDiff, ↓reduceIte, e22, e23, e32, e35, e40, f68, f69, f70, f81, f82, f83, f84, f85, f86, f76, hL, hN, hok, hokM, c22, c23, c32, csg, c35, l1.1, l1.2, s32, s35, s214, true_and, and_true, not_true_eq_false, not_false_eq_true]
  repeat' (first | with_reducible apply And.intro | (with_reducible intro hq; try simp only [hq, true_imp_iff, false_imp_iff, not_true_eq_false, not_false_eq_true, true_and, and_true, implies_true, ↓reduceIte]))
  all_goals first
    | with_reducible rfl
    | with_reducible exact hJ
    | with_reducible exact J_ref _ hJ
    | with_reducible exact s1 _
    | with_reducible exact vm_ c22 (by assumption) (by assumption)
    | with_reducible exact vm_ c32 (by assumption) (by assumption)
    | with_reducible exact vm_ c35 (by assumption) (by assumption)
    | with_reducible exact vt_ (by assumption) (by assumption)
set_option maxRecDepth 10000 in
theorem pr_97 {D : ax_Dn} (E : ax_En) (hJ : J D)  : cy_97 [.ref 0] (ax_S D E) (KI cy_188 [.ref 58]) := by
  have hok := J_okC hJ
  have hokM := J_okM hJ
  have hL := J_lean2 hJ
  have hN := J_nick2 hJ
  have hF := J_FM hJ
  obtain ⟨e22, e23, e32, e35, e40, f68, f69, f70, f81, f82, f83, f84, f85, f86, f76⟩ := J_eqs hJ
  have c22 := hok.1
  have c23 := hok.2.1
  have c32 := hok.2.2.1
  have csg := hok.2.2.2.1
  have c35 := hok.2.2.2.2.2.2.2.2.2.2.2.2.2.2.2.1
  have c214 := hok.2.2.2.2.2.2.2.2.2.2.2.2.2.2.1
  have l1 := le1_ c214 (by decide) (by decide)
  have s32 := fun p => sb1_ (p := p) c32
  have s35 := fun p => sb1_ (p := p) c35
  have s214 := fun p => sb1r_ (p := p) c214 (by decide)
  have s1 := fun p => cnt_in (csg p) (show 9 < 10 by decide)
  rw [ry_97]
  simp only [KI_i, ry_188, FI_i, ax_up_ap, Nat.reduceEqDiff, ↓reduceIte, e22, e23, e32, e35, e40, f68, f69, f70, f81, f82, f83, f84, f85, f86, f76, hL, hN, hok, hokM, c22, c23, c32, csg, c35, l1.1, l1.2, s32, s35, s214, true_and, and_true, not_true_eq_false, not_false_eq_true]
  repeat' (first | with_reducible apply And.intro | (with_reducible intro hq; try simp only [hq, true_imp_iff, false_imp_iff, not_true_eq_false, not_false_eq_true, true_and, and_true, implies_true, ↓reduceIte]))
  all_goals first
    | with_reducible rfl
    | with_reducible exact hJ
    | with_reducible exact J_ref _ hJ
    | with_reducible exact s1 _
    | with_reducible exact vm_ c22 (by assumption) (by assumption)
    | with_reducible exact vm_ c32 (by assumption) (by assumption)
    | with_reducible exact vm_ c35 (by assumption) (by assumption)
    | with_reducible exact vt_ (by assumption) (by assumption)
set_option maxRecDepth 10000 in
theorem pr_98 {D : ax_Dn} (E : ax_En) (hJ : J D)  : cy_98 [.ref 0] (ax_S D E) (KI cy_189 [.ref 58]) := by
  have hok := J_okC hJ
  have hokM := J_okM hJ
  have hL := J_lean2 hJ
  have hN := J_nick2 hJ
  have hF := J_FM hJ
  obtain ⟨e22, e23, e32, e35, e40, f68, f69, f70, f81, f82, f83, f84, f85, f86, f76⟩ := J_eqs hJ
  have c22 := hok.1
  have c23 := hok.2.1
  have c32 := hok.2.2.1
  have csg := hok.2.2.2.1
  have c35 := hok.2.2.2.2.2.2.2.2.2.2.2.2.2.2.2.1
  have c214 := hok.2.2.2.2.2.2.2.2.2.2.2.2.2.2.1
  have l1 := le1_ c214 (by decide) (by decide)
  have s32 := fun p => sb1_ (p := p) c32
  have s35 := fun p => sb1_ (p := p) c35
  have s214 := fun p => sb1r_ (p := p) c214 (by decide)
  have s1 := fun p => cnt_in (csg p) (show 9 < 10 by decide)
  rw [ry_98]
  simp only [KI_i, ry_189, FI_i, ax_up_ap, Nat.reduceEqDiff, ↓reduceIte, e22, e23, e32, e35, e40, f68, f69, f70, f81, f82, f83, f84, f85, f86, f76, hL, hN, hok, hokM, c22, c23, c32, csg, c35, l1.1, l1.2, s32, s35, s214, true_and, and_true, not_true_eq_false, not_false_eq_true]
  repeat' (first | with_reducible apply And.intro | (with_reducible intro hq; try simp only [hq, true_imp_iff, false_imp_iff, not_true_eq_false, not_false_eq_true, true_and, and_true, implies_true, ↓reduceIte]))
  all_goals first
    | with_reducible rfl
    | with_reducible exact hJ
    | with_reducible exact J_ref _ hJ
    | with_reducible exact s1 _
    | with_reducible exact vm_ c22 (by assumption) (by assumption)
    | with_reducible exact vm_ c32 (by assumption) (by assumption)
    | with_reducible exact vm_ c35 (by assumption) (by assumption)
    | with_reducible exact vt_ (by assumption) (by assumption)
set_option maxRecDepth 10000 in
theorem pr_100 {D : ax_Dn} (E : ax_En) (hJ : J D) (p1 : Int32) : cy_100 [.ref 0, .int p1] (ax_S D E) (KI cy_192 [.ref 58, .int p1]) := by
  have hok := J_okC hJ
  have hokM := J_okM hJ
  have hL := J_lean2 hJ
  have hN := J_nick2 hJ
  have hF := J_FM hJ
  obtain ⟨e22, e23, e32, e35, e40, f68, f69, f70, f81, f82, f83, f84, f85, f86, f76⟩ := J_eqs hJ
  have c22 := hok.1
  have c23 := hok.2.1
  have c32 := hok.2.2.1
  have csg := hok.2.2.2.1
  have c35 := hok.2.2.2.2.2.2.2.2.2.2.2.2.2.2.2.1
  have c214 := hok.2.2.2.2.2.2.2.2.2.2.2.2.2.2.1
  have l1 := le1_ c214 (by decide) (by decide)
  have s32 := fun p => sb1_ (p := p) c32
  have s35 := fun p => sb1_ (p := p) c35
  have s214 := fun p => sb1r_ (p := p) c214 (by decide)
  have s1 := fun p => cnt_in (csg p) (show 9 < 10 by decide)
  rw [ry_100]
  simp only [KI_i, ry_192, FI_i, ax_up_ap, Nat.reduceEqDiff, ↓reduceIte, e22, e23, e32, e35, e40, f68, f69, f70, f81, f82, f83, f84, f85, f86, f76, hL, hN, hok, hokM, c22, c23, c32, csg, c35, l1.1, l1.2, s32, s35, s214, true_and, and_true, not_true_eq_false, not_false_eq_true]
  repeat' (first | with_reducible apply And.intro | (with_reducible intro hq; try simp only [hq, true_imp_iff, false_imp_iff, not_true_eq_false, not_false_eq_true, true_and, and_true, implies_true, ↓reduceIte]))
  all_goals first
    | with_reducible rfl
    | with_reducible exact hJ
    | with_reducible exact J_ref _ hJ
    | with_reducible exact s1 _
    | with_reducible exact vm_ c22 (by assumption) (by assumption)
    | with_reducible exact vm_ c32 (by assumption) (by assumption)
    | with_reducible exact vm_ c35 (by assumption) (by assumption)
    | with_reducible exact vt_ (by assumption) (by assumption)
set_option maxRecDepth 10000 in
theorem pr_101 {D : ax_Dn} (E : ax_En) (hJ : J D) (p1 : Int32) : cy_101 [.ref 0, .int p1] (ax_S D E) (KI cy_193 [.ref 58, .int p1]) := by
  have hok := J_okC hJ
  have hokM := J_okM hJ
  have hL := J_lean2 hJ
  have hN := J_nick2 hJ
  have hF := J_FM hJ
  obtain ⟨e22, e23, e32, e35, e40, f68, f69, f70, f81, f82, f83, f84, f85, f86, f76⟩ := J_eqs hJ
  have c22 := hok.1
  have c23 := hok.2.1
  have c32 := hok.2.2.1
  have csg := hok.2.2.2.1
  have c35 := hok.2.2.2.2.2.2.2.2.2.2.2.2.2.2.2.1
  have c214 := hok.2.2.2.2.2.2.2.2.2.2.2.2.2.2.1
  have l1 := le1_ c214 (by decide) (by decide)
  have s32 := fun p => sb1_ (p := p) c32
  have s35 := fun p => sb1_ (p := p) c35
  have s214 := fun p => sb1r_ (p := p) c214 (by decide)
  have s1 := fun p => cnt_in (csg p) (show 9 < 10 by decide)
  rw [ry_101]
  simp only [KI_i, ry_193, FI_i, ax_up_ap, Nat.reduceEqDiff, ↓reduceIte, e22, e23, e32, e35, e40, f68, f69, f70, f81, f82, f83, f84, f85, f86, f76, hL, hN, hok, hokM, c22, c23, c32, csg, c35, l1.1, l1.2, s32, s35, s214, true_and, and_true, not_true_eq_false, not_false_eq_true]
  repeat' (first | with_reducible apply And.intro | (with_reducible intro hq; try simp only [hq, true_imp_iff, false_imp_iff, not_true_eq_false, not_false_eq_true, true_and, and_true, implies_true, ↓reduceIte]))
  all_goals first
    | with_reducible rfl
    | with_reducible exact hJ
    | with_reducible exact J_ref _ hJ
    | with_reducible exact s1 _
    | with_reducible exact vm_ c22 (by assumption) (by assumption)
    | with_reducible exact vm_ c32 (by assumption) (by assumption)
    | with_reducible exact vm_ c35 (by assumption) (by assumption)
    | with_reducible exact vt_ (by assumption) (by assumption)
set_option maxRecDepth 10000 in
theorem pr_102 {D : ax_Dn} (E : ax_En) (hJ : J D)  : cy_102 [.ref 0] (ax_S D E) (KI cy_194 [.ref 58]) := by
  have hok := J_okC hJ
  have hokM := J_okM hJ
  have hL := J_lean2 hJ
  have hN := J_nick2 hJ
  have hF := J_FM hJ
  obtain ⟨e22, e23, e32, e35, e40, f68, f69, f70, f81, f82, f83, f84, f85, f86, f76⟩ := J_eqs hJ
  have c22 := hok.1
  have c23 := hok.2.1
  have c32 := hok.2.2.1
  have csg := hok.2.2.2.1
  have c35 := hok.2.2.2.2.2.2.2.2.2.2.2.2.2.2.2.1
  have c214 := hok.2.2.2.2.2.2.2.2.2.2.2.2.2.2.1
  have l1 := le1_ c214 (by decide) (by decide)
  have s32 := fun p => sb1_ (p := p) c32
  have s35 := fun p => sb1_ (p := p) c35
  have s214 := fun p => sb1r_ (p := p) c214 (by decide)
  have s1 := fun p => cnt_in (csg p) (show 9 < 10 by decide)
  rw [ry_102]
  simp only [KI_i, ry_194, FI_i, ax_up_ap, Nat.reduceEqDiff, ↓reduceIte, e22, e23, e32, e35, e40, f68, f69, f70, f81, f82, f83, f84, f85, f86, f76, hL, hN, hok, hokM, c22, c23, c32, csg, c35, l1.1, l1.2, s32, s35, s214, true_and, and_true, not_true_eq_false, not_false_eq_true]
  repeat' (first | with_reducible apply And.intro | (with_reducible intro hq; try simp only [hq, true_imp_iff, false_imp_iff, not_true_eq_false, not_false_eq_true, true_and, and_true, implies_true, ↓reduceIte]))
  all_goals first
    | with_reducible rfl
    | with_reducible exact hJ
    | with_reducible exact J_ref _ hJ
    | with_reducible exact s1 _
    | with_reducible exact vm_ c22 (by assumption) (by assumption)
    | with_reducible exact vm_ c32 (by assumption) (by assumption)
    | with_reducible exact vm_ c35 (by assumption) (by assumption)
    | with_reducible exact vt_ (by assumption) (by assumption)
