/-! Pairs that change something. -/
theorem ctl_ {x : Int32} {n : Nat} (h : ax_cnt x n) (hn : n < 1000) : (x = nI n ↔ ¬ x < nI n) := by
  obtain ⟨b1, b2⟩ := h
  rw [na_eq, na_lt, na_nI (by omega)]
  omega
theorem ctv_ {x : Int32} {n : Nat} (h : ax_cnt x n) (hn : n < 1000) (hx : x < nI n) : vp_in x n ∧ ax_cnt (x + 1) n := by
  obtain ⟨b1, b2⟩ := h
  rw [na_lt, na_nI (by omega)] at hx
  have e : (x + 1).toInt = x.toInt + 1 := by rw [na_add (by rw [na_k1]; omega) (by rw [na_k1]; omega), na_k1]
  exact ⟨na_in b1 hx, by unfold ax_cnt; rw [e]; omega⟩
theorem upP {α : Type} {P : α → Prop} {f : Nat → α} {i : Nat} {v : α} (h : ∀ k, P (f k)) (hv : P v) : ∀ k, P (ax_up f i v k) := by
  intro k
  rw [ax_up_ap]
  split
  · exact hv
  · exact h k
theorem up_cn {f : Nat → Int32} {i n : Nat} {v : Int32} (h : ∀ k, ax_cnt (f k) n) (hv : ax_cnt v n) : ∀ k, ax_cnt (ax_up f i v k) n := upP (P := fun x => ax_cnt x n) h hv
theorem up_rg {f : Nat → Int32} {i : Nat} {a b : Int} {v : Int32} (h : ∀ k, rg_ (f k) a b) (hv : rg_ v a b) : ∀ k, rg_ (ax_up f i v k) a b := upP (P := fun x => rg_ x a b) h hv
theorem cnI_ {p : Int32} {n : Nat} (h0 : 0 ≤ p.toInt) (h1 : p.toInt ≤ n) : ax_cnt p n := ⟨h0, h1⟩
/-- a page that changed the same on both sides -/
theorem J_page {D D' : ax_Dn} (hJ : J D) (h : ∀ k, k ≠ 12 → k ≠ 13 → k ≠ 14 → k ≠ 15 → k ≠ 16 → k ≠ 17 → k ≠ 58 → k ≠ 81 → k ≠ 82 → k ≠ 83 → k ≠ 84 → k ≠ 85 → D' k = D k) (h58 : ∀ j, j ≠ 32 → D' 58 j = D 58 j) (r0 : ax_cnt (D' 12 0) 30) (r1 : sg_ok (D' 13)) (r2 : ∀ k, rg_ (D' 14 k) (-9) 9) (r3 : ∀ k, ax_cnt (D' 15 k) 15) (r4 : ∀ k, ax_cnt (D' 16 k) 13) (r5 : ∀ k, ax_cnt (D' 17 k) 9) (q0 : D' 58 32 = D' 12 0) (q1 : D' 81 = D' 13) (q2 : D' 82 = D' 14) (q3 : D' 83 = D' 15) (q4 : D' 84 = D' 16) (q5 : D' 85 = D' 17) : J D' := by
  obtain ⟨⟨a1, a2, a3, a4, a5, a6⟩, b, c, d, e, f⟩ := hJ
  have g : ∀ k, decide (k ≠ 12 ∧ k ≠ 13 ∧ k ≠ 14 ∧ k ≠ 15 ∧ k ≠ 16 ∧ k ≠ 17 ∧ k ≠ 58 ∧ k ≠ 81 ∧ k ≠ 82 ∧ k ≠ 83 ∧ k ≠ 84 ∧ k ≠ 85) = true → D' k = D k := fun k hk => by
    obtain ⟨x1, x2, x3, x4, x5, x6, x7, x8, x9, y1, y2, y3⟩ := of_decide_eq_true hk
    exact h k x1 x2 x3 x4 x5 x6 x7 x8 x9 y1 y2 y3
  have g20 := h58 20 (by decide)
  have g22 := h58 22 (by decide)
  have g23 := h58 23 (by decide)
  have g35 := h58 35 (by decide)
  have g40 := h58 40 (by decide)
  have g41 := h58 41 (by decide)
  have g43 := h58 43 (by decide)
  refine ⟨⟨?_, ?_, ?_, ?_, ?_, ?_⟩, ?_, ?_, ?_, ?_, J6c (fun k h1 h2 => ?_) ?_ (by rw [g 0 rfl]) g43 f⟩
  · unfold okC at a1 ⊢
    simp only [g 2 rfl, g 5 rfl, g 6 rfl, g 19 rfl, g 20 rfl, g 21 rfl]
    obtain ⟨o1, o2, o3, o4, o5, o6, o7, o8, o9⟩ := a1
    exact ⟨o1, o2, r0, r1, r2, r3, r4, r5, o9⟩
  · unfold JN at a2 ⊢
    simp only [g 1 rfl, g 2 rfl, g 19 rfl, g22, g23, g35, g40]
    exact ⟨a2.1, a2.2.1, q0, a2.2.2.2⟩
  · unfold JW at a3 ⊢
    simp only [g 1 rfl, g 2 rfl, g 3 rfl, g 4 rfl, g 7 rfl, g 11 rfl, g 67 rfl, g 88 rfl, g 89 rfl]
    refine ⟨a3.1, a3.2.1, EV_congr (fun i _ => ?_) (fun i _ => ?_) a3.2.2.1, a3.2.2.2⟩
    · rw [g 7 rfl, g 8 rfl, g 9 rfl, g 10 rfl, g 11 rfl]; exact ⟨rfl, rfl, rfl, rfl, rfl⟩
    · rw [g 71 rfl, g 72 rfl, g 73 rfl, g 74 rfl, g 75 rfl]; exact ⟨rfl, rfl, rfl, rfl, rfl⟩
  · unfold JF at a4 ⊢
    simp only [g 4 rfl, g 5 rfl, g 6 rfl, g 20 rfl, g 21 rfl, g 68 rfl, g 69 rfl, g 70 rfl, g 86 rfl, g 76 rfl]
    exact ⟨a4.1, a4.2.1, a4.2.2.1, q1, q2, q3, q4, q5, a4.2.2.2.2.2.2.2.2⟩
  · rw [g 88 rfl]; exact a5
  · rw [g 89 rfl]; exact a6
  · rw [g 59 rfl, g 51 rfl]; exact b
  · unfold J3 at c ⊢
    simp only [g 60 rfl, g 44 rfl, g 43 rfl, g20]
    exact c
  · unfold J4 at d ⊢
    simp only [g 90 rfl, g 50 rfl, g 0 rfl, g41]
    exact d
  · rw [g 77 rfl, g 78 rfl]; exact e
  · unfold sh
    exact g (k + 21) (decide_eq_true (by omega))
  · unfold im
    rw [g 91 rfl]
/-- one stroke more on both pages -/
def pgR (C : ax_Dn) : Prop := sg_ok (C 13) ∧ (∀ k, rg_ (C 14 k) (-9) 9) ∧ (∀ k, ax_cnt (C 15 k) 15) ∧ (∀ k, ax_cnt (C 16 k) 13) ∧ ∀ k, ax_cnt (C 17 k) 9
def tyR (t : ty5) : Prop := ax_cnt t.1 9 ∧ rg_ t.2.1 (-9) 9 ∧ ax_cnt t.2.2.1 15 ∧ ax_cnt t.2.2.2.1 13 ∧ ax_cnt t.2.2.2.2 9
def pgE (C M : ax_Dn) : Prop := M 58 32 = C 12 0 ∧ M 81 = C 13 ∧ M 82 = C 14 ∧ M 83 = C 15 ∧ M 84 = C 16 ∧ M 85 = C 17
theorem pgE_1 {C M : ax_Dn} (t : ty5) (h : pgE C M) : pgE (aC C t) (aM M t) := by
  obtain ⟨h0, h1, h2, h3, h4, h5⟩ := h
  unfold pgE aC aM
  simp only [ax_up_ap, Nat.reduceEqDiff, ↓reduceIte]
  rw [h0, h1, h2, h3, h4, h5]
  exact ⟨rfl, rfl, rfl, rfl, rfl, rfl⟩
theorem pgR_1 {C : ax_Dn} {t : ty5} (ht : tyR t) (h : pgR C) : pgR (aC C t) := by
  obtain ⟨h1, h2, h3, h4, h5⟩ := h
  obtain ⟨t1, t2, t3, t4, t5⟩ := ht
  unfold pgR aC
  simp only [ax_up_ap, Nat.reduceEqDiff, ↓reduceIte]
  exact ⟨up_cn (f := C 13) h1 t1, up_rg h2 t2, up_cn h3 t3, up_cn h4 t4, up_cn h5 t5⟩
theorem pg_all : ∀ (L : List ty5) (C M : ax_Dn) (N : Nat), (∀ t ∈ L, tyR t) → pgE C M → pgR C → C 12 0 = nI N → pgE (L.foldl aC C) (L.foldl aM M) ∧ pgR (L.foldl aC C) ∧ L.foldl aC C 12 0 = nI (N + L.length) ∧ (∀ k, (k ≠ 12 ∧ k ≠ 13 ∧ k ≠ 14 ∧ k ≠ 15 ∧ k ≠ 16 ∧ k ≠ 17) → L.foldl aC C k = C k) ∧ (∀ k, (k ≠ 58 ∧ k ≠ 81 ∧ k ≠ 82 ∧ k ≠ 83 ∧ k ≠ 84 ∧ k ≠ 85) → L.foldl aM M k = M k) ∧ (∀ j, j ≠ 32 → L.foldl aM M 58 j = M 58 j) := by
  intro L
  induction L with
  | nil => intro C M N _ h1 h2 h3; exact ⟨h1, h2, h3, fun _ _ => rfl, fun _ _ => rfl, fun _ _ => rfl⟩
  | cons t L ih =>
    intro C M N ht h1 h2 h3
    obtain ⟨i1, i2, i3, i4, i5, i6⟩ := ih (aC C t) (aM M t) (N + 1) (fun q hq => ht q (List.mem_cons_of_mem _ hq)) (pgE_1 t h1) (pgR_1 (ht t List.mem_cons_self) h2) (by rw [aC_12, h3, nI_1])
    rw [List.foldl_cons, List.foldl_cons, List.length_cons]
    refine ⟨i1, i2, by rw [i3, Nat.add_assoc, Nat.add_comm 1], fun k hk => by rw [i4 k hk, aC_n _ _ hk], fun k hk => by rw [i5 k hk, aM_n _ _ hk], fun j hj => by rw [i6 j hj, aM_58 _ _ hj]⟩
theorem J_type {D X : ax_Dn} (hJ : J D) (L : List ty5) (hL : ∀ t ∈ L, tyR t) (N : Nat) (hN : D 12 0 = nI N) (h30 : N + L.length ≤ 30) (hX : sJ (L.foldl aC D) X) (hX2 : ∀ k, k ≠ 87 → X k = L.foldl aC D k) : J (L.foldl aM X) ∧ L.foldl aM X 58 32 = nI (N + L.length) := by
  have hok := J_okC hJ
  obtain ⟨e22, e23, e32, e35, e40, f68, f69, f70, f81, f82, f83, f84, f85, f86, f76⟩ := J_eqs hJ
  have p0 : pgE D D := ⟨e32, f81, f82, f83, f84, f85⟩
  have p1 : pgR D := ⟨hok.2.2.2.1, hok.2.2.2.2.1, hok.2.2.2.2.2.1, hok.2.2.2.2.2.2.1, hok.2.2.2.2.2.2.2.1⟩
  obtain ⟨-, -, -, i4, -, -⟩ := pg_all L D D N hL p0 p1 hN
  have p2 : pgE D X := by
    unfold pgE
    rw [hX2 58 (by decide), hX2 81 (by decide), hX2 82 (by decide), hX2 83 (by decide), hX2 84 (by decide), hX2 85 (by decide), i4 58 (by decide), i4 81 (by decide), i4 82 (by decide), i4 83 (by decide), i4 84 (by decide), i4 85 (by decide)]
    exact p0
  obtain ⟨j1, j2, j3, j4, j5, j6⟩ := pg_all L D X N hL p2 p1 hN
  obtain ⟨k1, k2, k3, k4, k5⟩ := j2
  obtain ⟨m0, m1, m2, m3, m4, m5⟩ := j1
  have y12 : L.foldl aM X 12 = L.foldl aC D 12 := by rw [j5 12 (by decide), hX2 12 (by decide)]
  have y13 : L.foldl aM X 13 = L.foldl aC D 13 := by rw [j5 13 (by decide), hX2 13 (by decide)]
  have y14 : L.foldl aM X 14 = L.foldl aC D 14 := by rw [j5 14 (by decide), hX2 14 (by decide)]
  have y15 : L.foldl aM X 15 = L.foldl aC D 15 := by rw [j5 15 (by decide), hX2 15 (by decide)]
  have y16 : L.foldl aM X 16 = L.foldl aC D 16 := by rw [j5 16 (by decide), hX2 16 (by decide)]
  have y17 : L.foldl aM X 17 = L.foldl aC D 17 := by rw [j5 17 (by decide), hX2 17 (by decide)]
  have hJX : J (ax_up D 87 (X 87)) := J_s ⟨fun k _ _ _ _ h87 _ _ _ _ _ _ _ _ _ _ _ _ _ _ _ => by rw [ax_up_n _ _ h87], fun j _ => by rw [ax_up_n _ _ (by decide)], fun j _ _ _ => by rw [ax_up_n _ _ (by decide)], fun j _ _ _ _ => by rw [ax_up_n _ _ (by decide)]⟩ hJ
  refine ⟨J_page hJX (fun k a b c d e f x1 x2 x3 x4 x5 x6 => ?_) (fun j hj => ?_) ?_ ?_ ?_ ?_ ?_ ?_ ?_ ?_ ?_ ?_ ?_ ?_, ?_⟩
  · rw [j5 k ⟨x1, x2, x3, x4, x5, x6⟩]
    by_cases z : k = 87
    · subst z; rw [ax_up_s]
    · rw [hX2 k z, i4 k ⟨a, b, c, d, e, f⟩, ax_up_n _ _ z]
  · rw [j6 j hj, hX2 58 (by decide), i4 58 (by decide), ax_up_n _ _ (by decide)]
  · rw [y12, j3]
    unfold ax_cnt
    rw [na_nI (by omega)]
    omega
  · rw [y13]; exact k1
  · rw [y14]; exact k2
  · rw [y15]; exact k3
  · rw [y16]; exact k4
  · rw [y17]; exact k5
  · rw [y12]; exact m0
  · rw [y13]; exact m1
  · rw [y14]; exact m2
  · rw [y15]; exact m3
  · rw [y16]; exact m4
  · rw [y17]; exact m5
  · rw [m0, j3]
theorem tyR5 {a b c d e : Int32} (h1 : ¬a < 0) (h2 : ¬10 ≤ a) (h3 : ¬b < -9) (h4 : ¬9 < b) (h5 : ¬c < 0) (h6 : ¬15 < c) (h7 : ¬d < 0) (h8 : ¬13 < d) (h9 : 0 ≤ e) (h10 : ¬9 < e) : tyR (a, b, c, d, e) := by
  rw [na_lt] at h1 h3 h4 h5 h6 h7 h8 h10
  rw [na_le] at h2 h9
  have z0 : (0 : Int32).toInt = 0 := rfl
  have z10 : (10 : Int32).toInt = 10 := rfl
  have zm : (-9 : Int32).toInt = -9 := rfl
  have z9 : (9 : Int32).toInt = 9 := rfl
  have z15 : (15 : Int32).toInt = 15 := rfl
  have z13 : (13 : Int32).toInt = 13 := rfl
  exact ⟨⟨by show 0 ≤ a.toInt; omega, by show a.toInt ≤ 9; omega⟩, ⟨by show -9 ≤ b.toInt; omega, by show b.toInt ≤ 9; omega⟩, ⟨by show 0 ≤ c.toInt; omega, by show c.toInt ≤ 15; omega⟩, ⟨by show 0 ≤ d.toInt; omega, by show d.toInt ≤ 13; omega⟩, ⟨by show 0 ≤ e.toInt; omega, by show e.toInt ≤ 9; omega⟩⟩
set_option maxRecDepth 10000 in
theorem pr_82 {D : ax_Dn} (E : ax_En) (hJ : J D)  : cy_82 [.ref 0] (ax_S D E) (KI cy_156 [.ref 58]) := by
  have hok := J_okC hJ
  have hokM := J_okM hJ
  obtain ⟨e22, e23, e32, e35, e40, f68, f69, f70, f81, f82, f83, f84, f85, f86, f76⟩ := J_eqs hJ
  have c22 := hok.1
  have c23 := hok.2.1
  have c32 := hok.2.2.1
  have csg := hok.2.2.2.1
  have c35 := hok.2.2.2.2.2.2.2.2.2.2.2.2.2.2.2.1
  have h20 := hJ.1.2.2.1.1
  have x20 := hJ.2.2.1.2.1
  have x43 := hJ.2.2.1.2.2.1
  have x41 := hJ.2.2.2.1.2.1
  have x05 := hJ.2.2.2.1.2.2
  have g77 := hJ.2.2.2.2.1.1
  have g78 := hJ.2.2.2.2.1.2
  rw [ry_82]
  simp only [KI_i, ry_156, FI_i, ax_up_ap, Nat.reduceEqDiff, ↓reduceIte, e22, e23, e32, e35, e40, f70, f76, x20, x41, g77, g78, c32, c35, x43, x05, true_or, or_true, false_or, or_false, true_imp_iff, false_imp_iff, not_true_eq_false, not_false_eq_true, true_and, and_true, implies_true]
  repeat' (first | with_reducible apply And.intro | (with_reducible intro hq; try simp only [hq, true_or, or_true, false_or, or_false, true_imp_iff, false_imp_iff, not_true_eq_false, not_false_eq_true, true_and, and_true, implies_true, ↓reduceIte]))
  all_goals first
    | with_reducible rfl
    | with_reducible exact J_ref _ hJ
    | skip
  refine J_page hJ (fun k a b c d e f x1 x2 x3 x4 x5 x6 => ?_) (fun j hj => ?_) ?_ ?_ ?_ ?_ ?_ ?_ ?_ ?_ ?_ ?_ ?_ ?_
  · simp only [ax_up_ap, a, x1, ↓reduceIte]
  · simp only [ax_up_ap, hj, Nat.reduceEqDiff, ↓reduceIte]
  all_goals simp only [ax_up_ap, Nat.reduceEqDiff, ↓reduceIte]
  · exact ⟨by decide, by decide⟩
  · exact csg
  · exact hok.2.2.2.2.1
  · exact hok.2.2.2.2.2.1
  · exact hok.2.2.2.2.2.2.1
  · exact hok.2.2.2.2.2.2.2.1
  · exact f81
  · exact f82
  · exact f83
  · exact f84
  · exact f85
set_option maxRecDepth 10000 in
theorem pr_80 {D : ax_Dn} (E : ax_En) (hJ : J D) (p1 : Int32) (p2 : Int32) (p3 : Int32) (p4 : Int32) (p5 : Int32) : cy_80 [.ref 0, .int p1, .int p2, .int p3, .int p4, .int p5] (ax_S D E) (KI cy_153 [.ref 58, .int p1, .int p2, .int p3, .int p4, .int p5]) := by
  have hok := J_okC hJ
  have hokM := J_okM hJ
  obtain ⟨e22, e23, e32, e35, e40, f68, f69, f70, f81, f82, f83, f84, f85, f86, f76⟩ := J_eqs hJ
  have c22 := hok.1
  have c23 := hok.2.1
  have c32 := hok.2.2.1
  have csg := hok.2.2.2.1
  have c35 := hok.2.2.2.2.2.2.2.2.2.2.2.2.2.2.2.1
  have h20 := hJ.1.2.2.1.1
  have x20 := hJ.2.2.1.2.1
  have x43 := hJ.2.2.1.2.2.1
  have x41 := hJ.2.2.2.1.2.1
  have x05 := hJ.2.2.2.1.2.2
  have g77 := hJ.2.2.2.2.1.1
  have g78 := hJ.2.2.2.2.1.2
  have t30 := ctl_ c32 (by decide)
  have k30 : (30 : Int32) = nI 30 := by decide
  rw [← k30] at t30
  have l30 : 30 ≤ D 12 0 ↔ ¬ D 12 0 < 30 := Int32.not_lt.symm
  rw [ry_80]
  simp only [KI_i, ry_153, FI_i, ax_up_ap, Nat.reduceEqDiff, ↓reduceIte, e22, e23, e32, e35, e40, f70, f76, x20, x41, g77, g78, c32, c35, x43, x05, t30, l30, Classical.not_not, true_or, or_true, false_or, or_false, true_imp_iff, false_imp_iff, not_true_eq_false, not_false_eq_true, true_and, and_true, implies_true]
  repeat' (first | with_reducible apply And.intro | (with_reducible intro hq; try simp only [hq, true_or, or_true, false_or, or_false, true_imp_iff, false_imp_iff, not_true_eq_false, not_false_eq_true, true_and, and_true, implies_true, ↓reduceIte]))
  all_goals first
    | with_reducible rfl
    | with_reducible exact J_ref _ hJ
    | skip
  · exact (ctv_ (n := 30) c32 (by decide) (by rw [← k30]; assumption)).1
  · exact (ctv_ (n := 30) c32 (by decide) (by rw [← k30]; assumption)).1
  · obtain ⟨N, hN, hN30, hNc⟩ := ax_cnt_of c32 (by decide)
    have hlt : D 12 0 < 30 := by assumption
    rw [hN, k30, nI_ltI (by omega) (by omega)] at hlt
    have := (J_type hJ [(p1, p2, p3, p4, p5)] (fun t ht => by
      rw [List.mem_singleton] at ht
      subst ht
      exact tyR5 (by assumption) (by assumption) (by assumption) (by assumption) (by assumption) (by assumption) (by assumption) (by assumption) (by assumption) (by assumption)) N hN (by simp; omega) (sJ_rf _) (fun _ _ => rfl)).1
    unfold aM aC at this
    simp only [List.foldl, ax_up_ap, Nat.reduceEqDiff, ↓reduceIte, e32] at this
    exact this
theorem J_rate {D : ax_Dn} (hJ : J D) (i : Nat) (v : Int32) (hv : ax_cnt v 9) : J (ax_up (ax_up D 6 (ax_up (D 6) i v)) 70 (ax_up (D 6) i v)) := by
  have hJ0 := hJ
  obtain ⟨⟨a1, a2, a3, a4, a5, a6⟩, b, c, d, e, f⟩ := hJ
  refine ⟨⟨?_, ?_, ?_, ?_, ?_, ?_⟩, ?_, ?_, ?_, ?_, J6c (fun k h1 h2 => ?_) ?_ ?_ ?_ f⟩
  · unfold okC at a1 ⊢
    simp only [ax_up_ap, Nat.reduceEqDiff, ↓reduceIte]
    obtain ⟨o1, o2, o3, o4, o5, o6, o7, o8, o9, p1, p2, p3, p4, p5, p6, p7, p8⟩ := a1
    exact ⟨o1, o2, o3, o4, o5, o6, o7, o8, up_cn o9 hv, p1, p2, p3, p4, p5, p6, p7, p8⟩
  · unfold JN at a2 ⊢
    simp only [ax_up_ap, Nat.reduceEqDiff, ↓reduceIte]
    exact a2
  · unfold JW at a3 ⊢
    simp only [ax_up_ap, Nat.reduceEqDiff, ↓reduceIte]
    exact ⟨a3.1, a3.2.1, EV_congr (fun i _ => by simp only [ax_up_ap, Nat.reduceEqDiff, ↓reduceIte, and_self]) (fun i _ => by simp only [ax_up_ap, Nat.reduceEqDiff, ↓reduceIte, and_self]) a3.2.2.1, a3.2.2.2⟩
  · unfold JF at a4 ⊢
    simp only [ax_up_ap, Nat.reduceEqDiff, ↓reduceIte]
    exact ⟨a4.1, a4.2.1, trivial, a4.2.2.2⟩
  · simp only [ax_up_ap, Nat.reduceEqDiff, ↓reduceIte]
    exact a5
  · simp only [ax_up_ap, Nat.reduceEqDiff, ↓reduceIte]
    exact a6
  · simp only [ax_up_ap, Nat.reduceEqDiff, ↓reduceIte]
    exact b
  · unfold J3 at c ⊢
    simp only [ax_up_ap, Nat.reduceEqDiff, ↓reduceIte]
    exact c
  · unfold J4 at d ⊢
    simp only [ax_up_ap, Nat.reduceEqDiff, ↓reduceIte]
    exact d
  · simp only [ax_up_ap, Nat.reduceEqDiff, ↓reduceIte]
    exact e
  · unfold sh
    rw [ax_up_n _ _ (by omega), ax_up_n _ _ (by omega)]
  · unfold im
    simp only [ax_up_ap, Nat.reduceEqDiff, ↓reduceIte]
  · simp only [ax_up_ap, Nat.reduceEqDiff, ↓reduceIte]
  · simp only [ax_up_ap, Nat.reduceEqDiff, ↓reduceIte]
set_option maxRecDepth 10000 in
theorem pr_78 {D : ax_Dn} (E : ax_En) (hJ : J D) (p1 : Int32) (p2 : Int32) : cy_78 [.ref 0, .int p1, .int p2] (ax_S D E) (KI cy_150 [.ref 58, .int p1, .int p2]) := by
  have hok := J_okC hJ
  have hokM := J_okM hJ
  obtain ⟨e22, e23, e32, e35, e40, f68, f69, f70, f81, f82, f83, f84, f85, f86, f76⟩ := J_eqs hJ
  have c22 := hok.1
  have c23 := hok.2.1
  have c32 := hok.2.2.1
  have csg := hok.2.2.2.1
  have c35 := hok.2.2.2.2.2.2.2.2.2.2.2.2.2.2.2.1
  have h20 := hJ.1.2.2.1.1
  have x20 := hJ.2.2.1.2.1
  have x43 := hJ.2.2.1.2.2.1
  have x41 := hJ.2.2.2.1.2.1
  have x05 := hJ.2.2.2.1.2.2
  have g77 := hJ.2.2.2.2.1.1
  have g78 := hJ.2.2.2.2.1.2
  rw [ry_78]
  simp only [KI_i, ry_150, FI_i, ax_up_ap, Nat.reduceEqDiff, ↓reduceIte, e22, e23, e32, e35, e40, f70, f76, x20, x41, g77, g78, c32, c35, x43, x05, true_or, or_true, false_or, or_false, true_imp_iff, false_imp_iff, not_true_eq_false, not_false_eq_true, true_and, and_true, implies_true]
  repeat' (first | with_reducible apply And.intro | (with_reducible intro hq; try simp only [hq, true_or, or_true, false_or, or_false, true_imp_iff, false_imp_iff, not_true_eq_false, not_false_eq_true, true_and, and_true, implies_true, ↓reduceIte]))
  all_goals first
    | with_reducible rfl
    | with_reducible exact J_ref _ hJ
    | skip
  · exact vt_ (by assumption) (by assumption)
  · exact vt_ (by assumption) (by assumption)
  · refine J_rate hJ _ _ ?_
    have q1 : 0 ≤ p2 := by assumption
    have q2 : p2 ≤ 9 := by assumption
    have q1 := na_le.mp q1
    have q2 := na_le.mp q2
    exact ⟨q1, q2⟩
