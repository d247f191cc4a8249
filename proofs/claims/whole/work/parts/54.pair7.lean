/-! More pairs that change something. -/
theorem su_c (t r : Nat → Int32) (n : Nat) : su_ t r (n + 1) = su_ t r n + (t n - r n) := rfl
theorem su_up {t r : Nat → Int32} {n : Nat} {x y : Int32} : su_ (ax_up t n x) (ax_up r n y) n = su_ t r n := by
  have key : ∀ k, k ≤ n → su_ (ax_up t n x) (ax_up r n y) k = su_ t r k := by
    intro k
    induction k with
    | zero => intro _; rfl
    | succ k ih =>
      intro hk
      rw [su_c, su_c, ih (by omega), ax_up_n _ _ (by omega), ax_up_n _ _ (by omega)]
  exact key n (Nat.le_refl _)
theorem okC_set {D : ax_Dn} (h : okC D) (i : Nat) (hi : i < 5) (v : Int32) (h1 : ls0 i ≤ v) (h2 : v ≤ gs0 i) : okC (ax_up D 21 (ax_up (D 21) i v)) := by
  have h1 := na_le.mp h1
  have h2 := na_le.mp h2
  obtain ⟨o1, o2, o3, o4, o5, o6, o7, o8, o9, p1, p2, p3, p4, p5, p6, p7, p8⟩ := h
  match i, hi with
  | 0, _ => exact ⟨o1, o2, o3, o4, o5, o6, o7, o8, o9, p1, ⟨h1, h2⟩, p3, p4, p5, p6, p7, p8⟩
  | 1, _ => exact ⟨o1, o2, o3, o4, o5, o6, o7, o8, o9, p1, p2, ⟨h1, h2⟩, p4, p5, p6, p7, p8⟩
  | 2, _ => exact ⟨o1, o2, o3, o4, o5, o6, o7, o8, o9, p1, p2, p3, ⟨h1, h2⟩, p5, p6, p7, p8⟩
  | 3, _ => exact ⟨o1, o2, o3, o4, o5, o6, o7, o8, o9, p1, p2, p3, p4, ⟨h1, h2⟩, p6, p7, p8⟩
  | 4, _ => exact ⟨o1, o2, o3, o4, o5, o6, o7, o8, o9, p1, p2, p3, p4, p5, ⟨h1, h2⟩, p7, p8⟩
  | n + 5, h => exact absurd h (by omega)
theorem J_set {D : ax_Dn} (hJ : J D) (i : Nat) (hi : i < 5) (v : Int32) (h1 : ls0 i ≤ v) (h2 : v ≤ gs0 i) : J (ax_up (ax_up D 21 (ax_up (D 21) i v)) 76 (ax_up (D 21) i v)) := by
  have hJ0 := hJ
  obtain ⟨⟨a1, a2, a3, a4, a5, a6⟩, b, c, d, e, f⟩ := hJ
  refine ⟨⟨?_, ?_, ?_, ?_, ?_, ?_⟩, ?_, ?_, ?_, ?_, J6c (fun k h1 h2 => ?_) ?_ ?_ ?_ f⟩
  · rw [okC_up _ _ _ (by decide)]
    exact okC_set a1 i hi v h1 h2
  · unfold JN at a2 ⊢
    simp only [ax_up_ap, Nat.reduceEqDiff, ↓reduceIte]
    exact a2
  · unfold JW at a3 ⊢
    simp only [ax_up_ap, Nat.reduceEqDiff, ↓reduceIte]
    exact ⟨a3.1, a3.2.1, EV_congr (fun i _ => by simp only [ax_up_ap, Nat.reduceEqDiff, ↓reduceIte, and_self]) (fun i _ => by simp only [ax_up_ap, Nat.reduceEqDiff, ↓reduceIte, and_self]) a3.2.2.1, a3.2.2.2⟩
  · unfold JF at a4 ⊢
    simp only [ax_up_ap, Nat.reduceEqDiff, ↓reduceIte]
    exact ⟨a4.1, a4.2.1, a4.2.2.1, a4.2.2.2.1, a4.2.2.2.2.1, a4.2.2.2.2.2.1, a4.2.2.2.2.2.2.1, a4.2.2.2.2.2.2.2.1, a4.2.2.2.2.2.2.2.2.1, trivial⟩
  · simp only [ax_up_ap, Nat.reduceEqDiff, ↓reduceIte]
    exact a5
  · simp only [ax_up_ap, Nat.reduceEqDiff, ↓reduceIte]
    exact a6
  · simp only [ax_up_ap, Nat.reduceEqDiff, ↓reduceIte]
    exact b
  · unfold J3 at c ⊢
    simp only [ax_up_ap, Nat.reduceEqDiff, ↓reduceIte]
    exact c
  · unfold J4 at d ⊢
    simp only [ax_up_ap, Nat.reduceEqDiff, ↓reduceIte]
    exact d
  · simp only [ax_up_ap, Nat.reduceEqDiff, ↓reduceIte]
    exact e
  · unfold sh
    rw [ax_up_n _ _ (by omega), ax_up_n _ _ (by omega)]
  · unfold im
    simp only [ax_up_ap, Nat.reduceEqDiff, ↓reduceIte]
  · simp only [ax_up_ap, Nat.reduceEqDiff, ↓reduceIte]
  · simp only [ax_up_ap, Nat.reduceEqDiff, ↓reduceIte]
set_option maxRecDepth 10000 in
theorem pr_79 {D : ax_Dn} (E : ax_En) (hJ : J D) (p1 : Int32) (p2 : Int32) : cy_79 [.ref 0, .int p1, .int p2] (ax_S D E) (KI cy_151 [.ref 58, .int p1, .int p2]) := by
  have hok := J_okC hJ
  have hokM := J_okM hJ
  obtain ⟨e22, e23, e32, e35, e40, f68, f69, f70, f81, f82, f83, f84, f85, f86, f76⟩ := J_eqs hJ
  have c22 := hok.1
  have c23 := hok.2.1
  have c32 := hok.2.2.1
  have csg := hok.2.2.2.1
  have c35 := hok.2.2.2.2.2.2.2.2.2.2.2.2.2.2.2.1
  have h20 := hJ.1.2.2.1.1
  have x20 := hJ.2.2.1.2.1
  have x43 := hJ.2.2.1.2.2.1
  have x41 := hJ.2.2.2.1.2.1
  have x05 := hJ.2.2.2.1.2.2
  have g77 := hJ.2.2.2.2.1.1
  have g78 := hJ.2.2.2.2.1.2
  have i45 := i45_ p1
  rw [ry_79]
  simp only [KI_i, ry_151, FI_i, ax_up_ap, Nat.reduceEqDiff, ↓reduceIte, e22, e23, e32, e35, e40, f70, f76, x20, x41, g77, g78, c32, c35, x43, x05, i45, true_or, or_true, false_or, or_false, true_imp_iff, false_imp_iff, not_true_eq_false, not_false_eq_true, true_and, and_true, implies_true]
  repeat' (first | with_reducible apply And.intro | (with_reducible intro hq; try simp only [hq, true_or, or_true, false_or, or_false, true_imp_iff, false_imp_iff, not_true_eq_false, not_false_eq_true, true_and, and_true, implies_true, ↓reduceIte]))
  all_goals first
    | with_reducible rfl
    | with_reducible exact J_ref _ hJ
    | skip
  all_goals
    have q1 : ¬p1 < 0 := by assumption
    have q2 : p1 < 5 := by assumption
    rw [na_lt] at q1 q2
    have z0 : (0 : Int32).toInt = 0 := rfl
    have z5 : (5 : Int32).toInt = 5 := rfl
    have v5 : vp_in p1 5 := na_in (by omega) (by omega)
    have ncl := na_cl (x := p1) (by omega)
    first
      | exact v5
      | exact J_set hJ p1.toNatClampNeg (by omega) p2 (by assumption) (by assumption)
theorem J_hand {D : ax_Dn} (hJ : J D) (N : Nat) (hN : D 19 0 = nI N) (h4 : N < 4) (x : Int64) (hx : 0 ≤ x.toInt) : J (ax_up (ax_up (ax_up (ax_up D 19 (ax_up (D 19) 0 (D 19 0 + 1))) 20 (ad_ N 10 0 x (D 20))) 58 (ax_up (D 58) 35 (D 19 0 + 1))) 86 (ad_ N 10 0 x (D 86))) := by
  have hJ0 := hJ
  obtain ⟨⟨a1, a2, a3, a4, a5, a6⟩, b, c, d, e, f⟩ := hJ
  refine ⟨⟨?_, ?_, ?_, ?_, ?_, ?_⟩, ?_, ?_, ?_, ?_, J6c (fun k h1 h2 => ?_) ?_ ?_ ?_ f⟩
  · unfold okC at a1 ⊢
    simp only [ax_up_ap, Nat.reduceEqDiff, ↓reduceIte]
    obtain ⟨o1, o2, o3, o4, o5, o6, o7, o8, o9, p1, p2, p3, p4, p5, p6, p7, p8⟩ := a1
    refine ⟨o1, o2, o3, o4, o5, o6, o7, o8, o9, p1, p2, p3, p4, p5, p6, ?_, ad_ok N 10 0 x (D 20) hx p8⟩
    rw [hN, nI_1]
    unfold ax_cnt
    rw [na_nI (by omega)]
    omega
  · unfold JN at a2 ⊢
    simp only [ax_up_ap, Nat.reduceEqDiff, ↓reduceIte]
    exact ⟨a2.1, a2.2.1, a2.2.2.1, trivial, a2.2.2.2.2⟩
  · unfold JW at a3 ⊢
    simp only [ax_up_ap, Nat.reduceEqDiff, ↓reduceIte]
    exact ⟨a3.1, a3.2.1, EV_congr (fun i _ => by simp only [ax_up_ap, Nat.reduceEqDiff, ↓reduceIte, and_self]) (fun i _ => by simp only [ax_up_ap, Nat.reduceEqDiff, ↓reduceIte, and_self]) a3.2.2.1, a3.2.2.2⟩
  · unfold JF at a4 ⊢
    simp only [ax_up_ap, Nat.reduceEqDiff, ↓reduceIte]
    exact ⟨a4.1, a4.2.1, a4.2.2.1, a4.2.2.2.1, a4.2.2.2.2.1, a4.2.2.2.2.2.1, a4.2.2.2.2.2.2.1, a4.2.2.2.2.2.2.2.1, by rw [a4.2.2.2.2.2.2.2.2.1], a4.2.2.2.2.2.2.2.2.2⟩
  · simp only [ax_up_ap, Nat.reduceEqDiff, ↓reduceIte]
    exact a5
  · simp only [ax_up_ap, Nat.reduceEqDiff, ↓reduceIte]
    exact a6
  · simp only [ax_up_ap, Nat.reduceEqDiff, ↓reduceIte]
    exact b
  · unfold J3 at c ⊢
    simp only [ax_up_ap, Nat.reduceEqDiff, ↓reduceIte]
    exact c
  · unfold J4 at d ⊢
    simp only [ax_up_ap, Nat.reduceEqDiff, ↓reduceIte]
    exact d
  · simp only [ax_up_ap, Nat.reduceEqDiff, ↓reduceIte]
    exact e
  · unfold sh
    rw [ax_up_n _ _ (by omega), ax_up_n _ _ (by omega), ax_up_n _ _ (by omega), ax_up_n _ _ (by omega)]
  · unfold im
    simp only [ax_up_ap, Nat.reduceEqDiff, ↓reduceIte]
  · simp only [ax_up_ap, Nat.reduceEqDiff, ↓reduceIte]
  · simp only [ax_up_ap, Nat.reduceEqDiff, ↓reduceIte]
set_option maxRecDepth 10000 in
theorem pr_95 {D : ax_Dn} (E : ax_En) (hJ : J D) (p1 : Int64) : cy_95 [.ref 0, .long p1] (ax_S D E) (KI cy_185 [.ref 58, .long p1]) := by
  have hok := J_okC hJ
  have hokM := J_okM hJ
  obtain ⟨e22, e23, e32, e35, e40, f68, f69, f70, f81, f82, f83, f84, f85, f86, f76⟩ := J_eqs hJ
  have c22 := hok.1
  have c23 := hok.2.1
  have c32 := hok.2.2.1
  have csg := hok.2.2.2.1
  have c35 := hok.2.2.2.2.2.2.2.2.2.2.2.2.2.2.2.1
  have h20 := hJ.1.2.2.1.1
  have x20 := hJ.2.2.1.2.1
  have x43 := hJ.2.2.1.2.2.1
  have x41 := hJ.2.2.2.1.2.1
  have x05 := hJ.2.2.2.1.2.2
  have g77 := hJ.2.2.2.2.1.1
  have g78 := hJ.2.2.2.2.1.2
  have t4 := ctl_ c35 (by decide)
  have k4 : (4 : Int32) = nI 4 := by decide
  rw [← k4] at t4
  have g0 : 0 ≤ lg_cmp p1 0 ↔ ¬p1 < 0 := by rw [cm_ge0, Int64.not_lt]
  rw [ry_95]
  simp only [KI_i, ry_185, FI_i, ax_up_ap, Nat.reduceEqDiff, ↓reduceIte, e22, e23, e32, e35, e40, f70, f76, x20, x41, g77, g78, c32, c35, x43, x05, t4, g0, cm_gt0, Classical.not_not, true_or, or_true, false_or, or_false, true_imp_iff, false_imp_iff, not_true_eq_false, not_false_eq_true, true_and, and_true, implies_true]
  repeat' (first | with_reducible apply And.intro | (with_reducible intro hq; try simp only [hq, true_or, or_true, false_or, or_false, true_imp_iff, false_imp_iff, not_true_eq_false, not_false_eq_true, true_and, and_true, implies_true, ↓reduceIte]))
  all_goals first
    | with_reducible rfl
    | with_reducible exact J_ref _ hJ
    | skip
  all_goals
    have hlt : D 19 0 < 4 := by assumption
    have hp0 : ¬p1 < 0 := by assumption
    obtain ⟨N, hN, hN4, hNc⟩ := ax_cnt_of c35 (by decide)
    rw [hN, k4, nI_ltI (by omega) (by omega)] at hlt
    first
      | exact (ctv_ (n := 4) c35 (by decide) (by rw [hN]; exact nI_lt hlt (by omega))).1
      | (have hx : 0 ≤ p1.toInt := by
           rw [la_lt] at hp0
           have z0 : (0 : Int64).toInt = 0 := rfl
           omega
         rw [hNc]
         exact J_hand hJ N hN hlt p1 hx)
theorem J_known {D : ax_Dn} (hJ : J D) (N : Nat) (hN : D 1 4 = nI N) (h20 : N < 20) (x y : Int32) (hx : rg_ x (-9) 9) (hy : rg_ y (-9) 9) : J (ax_up (ax_up (ax_up (ax_up D 1 (ax_up (ax_up (D 1) 4 (D 1 4 + 1)) 5 (D 1 5 + (x - y)))) 58 (ax_up (D 58) 40 (D 1 4 + 1))) 88 (ax_up (D 88) N x)) 89 (ax_up (D 89) N y)) := by
  have hJ0 := hJ
  obtain ⟨⟨a1, a2, a3, a4, a5, a6⟩, b, c, d, e, f⟩ := hJ
  refine ⟨⟨?_, ?_, ?_, ?_, ?_, ?_⟩, ?_, ?_, ?_, ?_, J6c (fun k h1 h2 => ?_) ?_ ?_ ?_ f⟩
  · rw [okC_up _ _ _ (by decide), okC_up _ _ _ (by decide), okC_up _ _ _ (by decide), okC_up _ _ _ (by decide)]
    exact a1
  · unfold JN at a2 ⊢
    simp only [ax_up_ap, Nat.reduceEqDiff, ↓reduceIte]
    exact ⟨a2.1, a2.2.1, a2.2.2.1, a2.2.2.2.1, trivial⟩
  · unfold JW at a3 ⊢
    simp only [ax_up_ap, Nat.reduceEqDiff, ↓reduceIte]
    obtain ⟨w1, w2, w3, w4, w5, w6⟩ := a3
    have cl : (nI N).toNatClampNeg = N := nI_clamp (by omega)
    have cl1 : (nI N + 1).toNatClampNeg = N + 1 := by rw [nI_1]; exact nI_clamp (by omega)
    refine ⟨?_, w2, EV_congr (fun i _ => by simp only [ax_up_ap, Nat.reduceEqDiff, ↓reduceIte, and_self]) (fun i _ => by simp only [ax_up_ap, Nat.reduceEqDiff, ↓reduceIte, and_self]) w3, ?_, fun k hk => ?_, w6⟩
    · rw [hN, nI_1]
      unfold ax_cnt
      rw [na_nI (by omega)]
      omega
    · rw [hN, cl1, su_c, ax_up_s, ax_up_s, su_up]
      rw [hN, cl] at w4
      rw [w4]
    · obtain ⟨y1, y2⟩ := w5 k hk
      constructor
      · split
        · exact hx
        · exact y1
      · split
        · exact hy
        · exact y2
  · unfold JF at a4 ⊢
    simp only [ax_up_ap, Nat.reduceEqDiff, ↓reduceIte]
    exact a4
  · simp only [ax_up_ap, Nat.reduceEqDiff, ↓reduceIte]
    exact up_rg a5 hx
  · simp only [ax_up_ap, Nat.reduceEqDiff, ↓reduceIte]
    exact up_rg a6 hy
  · simp only [ax_up_ap, Nat.reduceEqDiff, ↓reduceIte]
    exact b
  · unfold J3 at c ⊢
    simp only [ax_up_ap, Nat.reduceEqDiff, ↓reduceIte]
    exact c
  · unfold J4 at d ⊢
    simp only [ax_up_ap, Nat.reduceEqDiff, ↓reduceIte]
    exact d
  · simp only [ax_up_ap, Nat.reduceEqDiff, ↓reduceIte]
    exact e
  · unfold sh
    rw [ax_up_n _ _ (by omega), ax_up_n _ _ (by omega), ax_up_n _ _ (by omega), ax_up_n _ _ (by omega)]
  · unfold im
    simp only [ax_up_ap, Nat.reduceEqDiff, ↓reduceIte]
  · simp only [ax_up_ap, Nat.reduceEqDiff, ↓reduceIte]
  · simp only [ax_up_ap, Nat.reduceEqDiff, ↓reduceIte]
set_option maxRecDepth 10000 in
theorem pr_103 {D : ax_Dn} (E : ax_En) (hJ : J D) (p1 : Int32) (p2 : Int32) : cy_103 [.ref 0, .int p1, .int p2] (ax_S D E) (KI cy_195 [.ref 58, .int p1, .int p2]) := by
  have hok := J_okC hJ
  have hokM := J_okM hJ
  obtain ⟨e22, e23, e32, e35, e40, f68, f69, f70, f81, f82, f83, f84, f85, f86, f76⟩ := J_eqs hJ
  have c22 := hok.1
  have c23 := hok.2.1
  have c32 := hok.2.2.1
  have csg := hok.2.2.2.1
  have c35 := hok.2.2.2.2.2.2.2.2.2.2.2.2.2.2.2.1
  have h20 := hJ.1.2.2.1.1
  have x20 := hJ.2.2.1.2.1
  have x43 := hJ.2.2.1.2.2.1
  have x41 := hJ.2.2.2.1.2.1
  have x05 := hJ.2.2.2.1.2.2
  have g77 := hJ.2.2.2.2.1.1
  have g78 := hJ.2.2.2.2.1.2
  have t20 := ctl_ h20 (by decide)
  have k20 : (20 : Int32) = nI 20 := by decide
  rw [← k20] at t20
  rw [ry_103]
  simp only [KI_i, ry_195, FI_i, ax_up_ap, Nat.reduceEqDiff, ↓reduceIte, e22, e23, e32, e35, e40, f70, f76, x20, x41, g77, g78, c32, c35, x43, x05, t20, Classical.not_not, true_or, or_true, false_or, or_false, true_imp_iff, false_imp_iff, not_true_eq_false, not_false_eq_true, true_and, and_true, implies_true]
  repeat' (first | with_reducible apply And.intro | (with_reducible intro hq; try simp only [hq, true_or, or_true, false_or, or_false, true_imp_iff, false_imp_iff, not_true_eq_false, not_false_eq_true, true_and, and_true, implies_true, ↓reduceIte]))
  all_goals first
    | with_reducible rfl
    | with_reducible exact J_ref _ hJ
    | skip
  all_goals
    have hlt : D 1 4 < 20 := by assumption
    obtain ⟨N, hN, hN20, hNc⟩ := ax_cnt_of h20 (by decide)
    rw [hN, k20, nI_ltI (by omega) (by omega)] at hlt
    first
      | exact (ctv_ (n := 20) h20 (by decide) (by rw [hN]; exact nI_lt hlt (by omega))).1
      | (have q1 : ¬p1 < -9 := by assumption
         have q2 : -9 ≤ p2 := by assumption
         have q3 : ¬9 < p1 := by assumption
         have q4 : ¬9 < p2 := by assumption
         rw [na_lt] at q1 q3 q4
         rw [na_le] at q2
         have zm : (-9 : Int32).toInt = -9 := rfl
         have z9 : (9 : Int32).toInt = 9 := rfl
         rw [hNc]
         exact J_known hJ N hN hlt p1 p2 ⟨by omega, by omega⟩ ⟨by omega, by omega⟩)
theorem J_row {D : ax_Dn} (hJ : J D) (N : Nat) (hN : D 0 5 = nI N) (h30 : N < 30) (x : Int32) : J (ax_up (ax_up (ax_up (ax_up D 0 (ax_up (D 0) 5 (D 0 5 + 1))) 50 (ax_up (D 50) N x)) 58 (ax_up (D 58) 41 (D 0 5 + 1))) 90 (ax_up (D 90) N x)) := by
  have hJ0 := hJ
  obtain ⟨⟨a1, a2, a3, a4, a5, a6⟩, b, c, d, e, f⟩ := hJ
  refine ⟨⟨?_, ?_, ?_, ?_, ?_, ?_⟩, ?_, ?_, ?_, ?_, J6c (fun k h1 h2 => ?_) ?_ ?_ ?_ f⟩
  · unfold okC at a1 ⊢
    simp only [ax_up_ap, Nat.reduceEqDiff, ↓reduceIte]
    exact a1
  · unfold JN at a2 ⊢
    simp only [ax_up_ap, Nat.reduceEqDiff, ↓reduceIte]
    exact a2
  · unfold JW at a3 ⊢
    simp only [ax_up_ap, Nat.reduceEqDiff, ↓reduceIte]
    exact ⟨a3.1, a3.2.1, EV_congr (fun i _ => by simp only [ax_up_ap, Nat.reduceEqDiff, ↓reduceIte, and_self]) (fun i _ => by simp only [ax_up_ap, Nat.reduceEqDiff, ↓reduceIte, and_self]) a3.2.2.1, a3.2.2.2⟩
  · unfold JF at a4 ⊢
    simp only [ax_up_ap, Nat.reduceEqDiff, ↓reduceIte]
    exact a4
  · simp only [ax_up_ap, Nat.reduceEqDiff, ↓reduceIte]
    exact a5
  · simp only [ax_up_ap, Nat.reduceEqDiff, ↓reduceIte]
    exact a6
  · simp only [ax_up_ap, Nat.reduceEqDiff, ↓reduceIte]
    exact b
  · unfold J3 at c ⊢
    simp only [ax_up_ap, Nat.reduceEqDiff, ↓reduceIte]
    exact c
  · unfold J4 at d ⊢
    simp only [ax_up_ap, Nat.reduceEqDiff, ↓reduceIte]
    refine ⟨by rw [d.1], trivial, ?_⟩
    rw [hN, nI_1]
    unfold ax_cnt
    rw [na_nI (by omega)]
    omega
  · simp only [ax_up_ap, Nat.reduceEqDiff, ↓reduceIte]
    exact e
  · unfold sh
    rw [ax_up_n _ _ (by omega), ax_up_n _ _ (by omega), ax_up_n _ _ (by omega), ax_up_n _ _ (by omega)]
  · unfold im
    simp only [ax_up_ap, Nat.reduceEqDiff, ↓reduceIte]
  · simp only [ax_up_ap, Nat.reduceEqDiff, ↓reduceIte]
  · simp only [ax_up_ap, Nat.reduceEqDiff, ↓reduceIte]
set_option maxRecDepth 10000 in
theorem pr_105 {D : ax_Dn} (E : ax_En) (hJ : J D) (p1 : Int32) : cy_105 [.ref 0, .int p1] (ax_S D E) (KI cy_197 [.ref 58, .int p1]) := by
  have hok := J_okC hJ
  have hokM := J_okM hJ
  obtain ⟨e22, e23, e32, e35, e40, f68, f69, f70, f81, f82, f83, f84, f85, f86, f76⟩ := J_eqs hJ
  have c22 := hok.1
  have c23 := hok.2.1
  have c32 := hok.2.2.1
  have csg := hok.2.2.2.1
  have c35 := hok.2.2.2.2.2.2.2.2.2.2.2.2.2.2.2.1
  have h20 := hJ.1.2.2.1.1
  have x20 := hJ.2.2.1.2.1
  have x43 := hJ.2.2.1.2.2.1
  have x41 := hJ.2.2.2.1.2.1
  have x05 := hJ.2.2.2.1.2.2
  have g77 := hJ.2.2.2.2.1.1
  have g78 := hJ.2.2.2.2.1.2
  have t30 := ctl_ x05 (by decide)
  have k30 : (30 : Int32) = nI 30 := by decide
  rw [← k30] at t30
  have g9 : p1 ≤ 9 ↔ ¬ 10 ≤ p1 := by
    rw [na_le, na_le]
    have z9 : (9 : Int32).toInt = 9 := rfl
    have z10 : (10 : Int32).toInt = 10 := rfl
    omega
  rw [ry_105]
  simp only [KI_i, ry_197, FI_i, ax_up_ap, Nat.reduceEqDiff, ↓reduceIte, e22, e23, e32, e35, e40, f70, f76, x20, x41, g77, g78, c32, c35, x43, x05, t30, g9, Classical.not_not, true_or, or_true, false_or, or_false, true_imp_iff, false_imp_iff, not_true_eq_false, not_false_eq_true, true_and, and_true, implies_true]
  repeat' (first | with_reducible apply And.intro | (with_reducible intro hq; try simp only [hq, true_or, or_true, false_or, or_false, true_imp_iff, false_imp_iff, not_true_eq_false, not_false_eq_true, true_and, and_true, implies_true, ↓reduceIte]))
  all_goals first
    | with_reducible rfl
    | with_reducible exact J_ref _ hJ
    | skip
  all_goals
    have hlt : D 0 5 < 30 := by assumption
    obtain ⟨N, hN, hN30, hNc⟩ := ax_cnt_of x05 (by decide)
    rw [hN, k30, nI_ltI (by omega) (by omega)] at hlt
    first
      | exact (ctv_ (n := 30) x05 (by decide) (by rw [hN]; exact nI_lt hlt (by omega))).1
      | (rw [hNc]
         exact J_row hJ N hN hlt p1)
theorem J_judge {D : ax_Dn} (hJ : J D)  : J (ax_up (ax_up D 0 (ax_up (D 0) 5 0)) 58 (ax_up (D 58) 41 0)) := by
  have hJ0 := hJ
  obtain ⟨⟨a1, a2, a3, a4, a5, a6⟩, b, c, d, e, f⟩ := hJ
  refine ⟨⟨?_, ?_, ?_, ?_, ?_, ?_⟩, ?_, ?_, ?_, ?_, J6c (fun k h1 h2 => ?_) ?_ ?_ ?_ f⟩
  · unfold okC at a1 ⊢
    simp only [ax_up_ap, Nat.reduceEqDiff, ↓reduceIte]
    exact a1
  · unfold JN at a2 ⊢
    simp only [ax_up_ap, Nat.reduceEqDiff, ↓reduceIte]
    exact a2
  · unfold JW at a3 ⊢
    simp only [ax_up_ap, Nat.reduceEqDiff, ↓reduceIte]
    exact ⟨a3.1, a3.2.1, EV_congr (fun i _ => by simp only [ax_up_ap, Nat.reduceEqDiff, ↓reduceIte, and_self]) (fun i _ => by simp only [ax_up_ap, Nat.reduceEqDiff, ↓reduceIte, and_self]) a3.2.2.1, a3.2.2.2⟩
  · unfold JF at a4 ⊢
    simp only [ax_up_ap, Nat.reduceEqDiff, ↓reduceIte]
    exact a4
  · simp only [ax_up_ap, Nat.reduceEqDiff, ↓reduceIte]
    exact a5
  · simp only [ax_up_ap, Nat.reduceEqDiff, ↓reduceIte]
    exact a6
  · simp only [ax_up_ap, Nat.reduceEqDiff, ↓reduceIte]
    exact b
  · unfold J3 at c ⊢
    simp only [ax_up_ap, Nat.reduceEqDiff, ↓reduceIte]
    exact c
  · unfold J4 at d ⊢
    simp only [ax_up_ap, Nat.reduceEqDiff, ↓reduceIte]
    exact ⟨d.1, trivial, by decide, by decide⟩
  · simp only [ax_up_ap, Nat.reduceEqDiff, ↓reduceIte]
    exact e
  · unfold sh
    rw [ax_up_n _ _ (by omega), ax_up_n _ _ (by omega)]
  · unfold im
    simp only [ax_up_ap, Nat.reduceEqDiff, ↓reduceIte]
  · simp only [ax_up_ap, Nat.reduceEqDiff, ↓reduceIte]
  · simp only [ax_up_ap, Nat.reduceEqDiff, ↓reduceIte]
set_option maxRecDepth 10000 in
theorem pr_106 {D : ax_Dn} (E : ax_En) (hJ : J D)  : cy_106 [.ref 0] (ax_S D E) (KI cy_198 [.ref 58]) := by
  have hok := J_okC hJ
  have hokM := J_okM hJ
  obtain ⟨e22, e23, e32, e35, e40, f68, f69, f70, f81, f82, f83, f84, f85, f86, f76⟩ := J_eqs hJ
  have c22 := hok.1
  have c23 := hok.2.1
  have c32 := hok.2.2.1
  have csg := hok.2.2.2.1
  have c35 := hok.2.2.2.2.2.2.2.2.2.2.2.2.2.2.2.1
  have h20 := hJ.1.2.2.1.1
  have x20 := hJ.2.2.1.2.1
  have x43 := hJ.2.2.1.2.2.1
  have x41 := hJ.2.2.2.1.2.1
  have x05 := hJ.2.2.2.1.2.2
  have g77 := hJ.2.2.2.2.1.1
  have g78 := hJ.2.2.2.2.1.2
  have x90 := hJ.2.2.2.1.1
  rw [ry_106]
  simp only [KI_i, ry_198, FI_i, ax_up_ap, Nat.reduceEqDiff, ↓reduceIte, e22, e23, e32, e35, e40, f70, f76, x20, x41, g77, g78, c32, c35, x43, x05, f81, x90, true_or, or_true, false_or, or_false, true_imp_iff, false_imp_iff, not_true_eq_false, not_false_eq_true, true_and, and_true, implies_true]
  repeat' (first | with_reducible apply And.intro | (with_reducible intro hq; try simp only [hq, true_or, or_true, false_or, or_false, true_imp_iff, false_imp_iff, not_true_eq_false, not_false_eq_true, true_and, and_true, implies_true, ↓reduceIte]))
  all_goals first
    | with_reducible rfl
    | with_reducible exact J_ref _ hJ
    | skip
  exact J_judge hJ
