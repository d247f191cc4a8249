/-! What holds of both at once between two calls. -/
def sh (D : ax_Dn) : ax_Dn := fun k => D (k + 21)
/-- the image that the model keeps, seen as its own cells -/
def im (D : ax_Dn) : ax_Dn := fun k j => match k with
  | 58 => (match j with | 22 => D 91 367 | 23 => D 91 368 | 32 => D 91 369 | 35 => D 91 370 | 40 => D 91 371 | _ => 0)
  | 67 => D 91 (0 + j)
  | 68 => D 91 (6 + j)
  | 69 => D 91 (12 + j)
  | 70 => D 91 (22 + j)
  | 71 => D 91 (32 + j)
  | 72 => D 91 (52 + j)
  | 73 => D 91 (72 + j)
  | 74 => D 91 (92 + j)
  | 75 => D 91 (112 + j)
  | 76 => D 91 (132 + j)
  | 81 => D 91 (137 + j)
  | 82 => D 91 (167 + j)
  | 83 => D 91 (197 + j)
  | 84 => D 91 (227 + j)
  | 85 => D 91 (257 + j)
  | 86 => D 91 (287 + j)
  | 88 => D 91 (327 + j)
  | 89 => D 91 (347 + j)
  | _ => 0
/-- the desks agree: numbers -/
def JN (C M : ax_Dn) : Prop := M 58 22 = C 2 0 ∧ M 58 23 = C 2 5 ∧ M 58 32 = C 12 0 ∧ M 58 35 = C 19 0 ∧ M 58 40 = C 1 4
/-- the desks agree: what rests on events, weights, readers -/
def JW (C M : ax_Dn) : Prop := ax_cnt (C 1 4) 20 ∧ (∀ j : Nat, j < 6 → (j : Int) < (C 2 0).toInt → M 67 j = C 3 j ∧ rg_ (C 3 j) 1 99) ∧ EV (C 2 5).toNatClampNeg C M ∧ C 1 5 = su_ (M 88) (M 89) (C 1 4).toNatClampNeg ∧ (∀ k, k < 20 → rg_ (M 88 k) (-9) 9 ∧ rg_ (M 89 k) (-9) 9) ∧ (∀ j, j < 6 → ax_cnt (C 4 j) 6) ∧ (∀ i : Nat, (i : Int) < (C 2 5).toInt → C 7 i = 110 → ax_cnt (C 11 i) 3)
/-- the desks agree: rows, as far as they go -/
def JA (C M : ax_Dn) : Prop := (∀ j, j < 6 → M 68 j = C 4 j) ∧ (∀ j, j < 10 → M 69 j = C 5 j) ∧ (∀ j, j < 10 → M 70 j = C 6 j) ∧ (∀ j, j < 30 → M 81 j = C 13 j) ∧ (∀ j, j < 30 → M 82 j = C 14 j) ∧ (∀ j, j < 30 → M 83 j = C 15 j) ∧ (∀ j, j < 30 → M 84 j = C 16 j) ∧ (∀ j, j < 30 → M 85 j = C 17 j) ∧ (∀ j, j < 40 → M 86 j = C 20 j) ∧ (∀ j, j < 5 → M 76 j = C 21 j)
/-- the rows of the class and of the model are the same ones -/
def JF (D : ax_Dn) : Prop := D 68 = D 4 ∧ D 69 = D 5 ∧ D 70 = D 6 ∧ D 81 = D 13 ∧ D 82 = D 14 ∧ D 83 = D 15 ∧ D 84 = D 16 ∧ D 85 = D 17 ∧ D 86 = D 20 ∧ D 76 = D 21
def J1 (D : ax_Dn) : Prop := okC D ∧ JN D D ∧ JW D D ∧ JF D ∧ (∀ k, rg_ (D 88 k) (-9) 9) ∧ (∀ k, rg_ (D 89 k) (-9) 9)
def J3 (D : ax_Dn) : Prop := D 60 = D 44 ∧ D 58 20 = D 43 1 ∧ ax_cnt (D 43 1) 64 ∧ ∀ k, ax_cnt (D 44 k) 255
def J4 (D : ax_Dn) : Prop := D 90 = D 50 ∧ D 58 41 = D 0 5 ∧ ax_cnt (D 0 5) 30
def J6 (D : ax_Dn) : Prop := okC (sh D) ∧ D 58 43 = D 0 2 ∧ (D 0 2 = 0 ∨ (D 0 2 = 1 ∧ JN (sh D) (im D) ∧ JW (sh D) (im D) ∧ JA (sh D) (im D)))
def J (D : ax_Dn) : Prop := J1 D ∧ D 59 = D 51 ∧ J3 D ∧ J4 D ∧ (D 77 = ls0 ∧ D 78 = gs0) ∧ J6 D
/-- what may change with no effect on it -/
def sJ (D D' : ax_Dn) : Prop := (∀ k, k ≠ 12 → k ≠ 18 → k ≠ 56 → k ≠ 57 → k ≠ 87 → k ≠ 43 → k ≠ 58 → k ≠ 45 → k ≠ 46 → k ≠ 47 → k ≠ 48 → k ≠ 49 → k ≠ 61 → k ≠ 62 → k ≠ 63 → k ≠ 64 → k ≠ 65 → k ≠ 66 → k ≠ 79 → k ≠ 80 → D' k = D k) ∧ (∀ j, j ≠ 6 → D' 12 j = D 12 j) ∧ (∀ j, j ≠ 2 → j ≠ 3 → j ≠ 4 → D' 43 j = D 43 j) ∧ (∀ j, j ≠ 21 → j ≠ 24 → j ≠ 44 → j ≠ 45 → D' 58 j = D 58 j)
theorem sJ_at {D D' : ax_Dn} (h : sJ D D') (k : Nat) (hk : (k ≠ 12 ∧ k ≠ 18 ∧ k ≠ 56 ∧ k ≠ 57 ∧ k ≠ 87 ∧ k ≠ 43 ∧ k ≠ 58 ∧ k ≠ 45 ∧ k ≠ 46 ∧ k ≠ 47 ∧ k ≠ 48 ∧ k ≠ 49 ∧ k ≠ 61 ∧ k ≠ 62 ∧ k ≠ 63 ∧ k ≠ 64 ∧ k ≠ 65 ∧ k ≠ 66 ∧ k ≠ 79 ∧ k ≠ 80) := by decide) : D' k = D k := by
  obtain ⟨a1, a2, a3, a4, a5, a6, a7, a8, a9, b1, b2, b3, b4, b5, b6, b7, b8, b9, c1, c2⟩ := hk
  exact h.1 k a1 a2 a3 a4 a5 a6 a7 a8 a9 b1 b2 b3 b4 b5 b6 b7 b8 b9 c1 c2
theorem sJ_58 {D D' : ax_Dn} (h : sJ D D') (j : Nat) (hj : (j ≠ 21 ∧ j ≠ 24 ∧ j ≠ 44 ∧ j ≠ 45) := by decide) : D' 58 j = D 58 j := h.2.2.2 j hj.1 hj.2.1 hj.2.2.1 hj.2.2.2
theorem sm_sJ {D D' : ax_Dn} (h : sm D D') : sJ D D' := ⟨fun k a b c d _ _ _ _ _ _ _ _ _ _ _ _ _ _ _ _ => h.1 k a b c d, h.2, fun j _ _ _ => by rw [sm_at h 43], fun j _ _ _ _ => by rw [sm_at h 58]⟩
theorem sJ_tr {A B C : ax_Dn} (h1 : sJ A B) (h2 : sJ B C) : sJ A C := ⟨fun k a1 a2 a3 a4 a5 a6 a7 a8 a9 b1 b2 b3 b4 b5 b6 b7 b8 b9 c1 c2 => (h2.1 k a1 a2 a3 a4 a5 a6 a7 a8 a9 b1 b2 b3 b4 b5 b6 b7 b8 b9 c1 c2).trans (h1.1 k a1 a2 a3 a4 a5 a6 a7 a8 a9 b1 b2 b3 b4 b5 b6 b7 b8 b9 c1 c2), fun j a => (h2.2.1 j a).trans (h1.2.1 j a), fun j a b c => (h2.2.2.1 j a b c).trans (h1.2.2.1 j a b c), fun j a b c d => (h2.2.2.2 j a b c d).trans (h1.2.2.2 j a b c d)⟩
theorem sJ_rf (D : ax_Dn) : sJ D D := ⟨fun _ _ _ _ _ _ _ _ _ _ _ _ _ _ _ _ _ _ _ _ _ => rfl, fun _ _ => rfl, fun _ _ _ _ => rfl, fun _ _ _ _ _ => rfl⟩
theorem EV_congr {n : Nat} {C M C' M' : ax_Dn} (h1 : ∀ i, i < n → C' 7 i = C 7 i ∧ C' 8 i = C 8 i ∧ C' 9 i = C 9 i ∧ C' 10 i = C 10 i ∧ C' 11 i = C 11 i) (h2 : ∀ i, i < n → M' 71 i = M 71 i ∧ M' 72 i = M 72 i ∧ M' 73 i = M 73 i ∧ M' 74 i = M 74 i ∧ M' 75 i = M 75 i) (h : EV n C M) : EV n C' M' := by
  obtain ⟨p, hp, hs, hr⟩ := h
  have hlen : p.length = n := by rw [hp.length_eq, List.length_range]
  have hm : ∀ e ∈ p, e < n := fun e he => List.mem_range.mp ((hp.mem_iff).mp he)
  refine ⟨p, hp, ?_, fun i e he => ?_⟩
  · refine List.Pairwise.imp_of_mem (fun {a b} ha hb q => ?_) hs
    unfold ev_lt at *
    rw [(h2 a (hm a ha)).2.2.2.1, (h2 b (hm b hb)).2.2.2.1]
    exact q
  · have hi : i < n := by rw [← hlen]; exact (List.getElem?_eq_some_iff.mp he).1
    have hen := hm e (List.mem_of_getElem? he)
    obtain ⟨a1, a2, a3, a4, a5⟩ := h1 i hi
    obtain ⟨b1, b2, b3, b4, b5⟩ := h2 e hen
    rw [a1, a2, a3, a4, a5, b1, b2, b3, b4, b5]
    exact hr i e he
theorem J6c {D D' : ax_Dn} (hsh : ∀ k, 1 ≤ k → k < 22 → sh D' k = sh D k) (him : im D' = im D) (h02 : D' 0 2 = D 0 2) (h43 : D' 58 43 = D 58 43) (f : J6 D) : J6 D' := by
  unfold J6 at *
  rw [him]
  have hok : okC (sh D') = okC (sh D) := by
    unfold okC
    simp only [hsh 2 (by decide) (by decide), hsh 5 (by decide) (by decide), hsh 6 (by decide) (by decide), hsh 12 (by decide) (by decide), hsh 13 (by decide) (by decide), hsh 14 (by decide) (by decide), hsh 15 (by decide) (by decide), hsh 16 (by decide) (by decide), hsh 17 (by decide) (by decide), hsh 19 (by decide) (by decide), hsh 20 (by decide) (by decide), hsh 21 (by decide) (by decide)]
  have hn : JN (sh D') (im D) = JN (sh D) (im D) := by
    unfold JN
    simp only [hsh 1 (by decide) (by decide), hsh 2 (by decide) (by decide), hsh 12 (by decide) (by decide), hsh 19 (by decide) (by decide)]
  have ha : JA (sh D') (im D) = JA (sh D) (im D) := by
    unfold JA
    simp only [hsh 4 (by decide) (by decide), hsh 5 (by decide) (by decide), hsh 6 (by decide) (by decide), hsh 13 (by decide) (by decide), hsh 14 (by decide) (by decide), hsh 15 (by decide) (by decide), hsh 16 (by decide) (by decide), hsh 17 (by decide) (by decide), hsh 20 (by decide) (by decide), hsh 21 (by decide) (by decide)]
  have hw : JW (sh D') (im D) ↔ JW (sh D) (im D) := by
    unfold JW
    simp only [hsh 1 (by decide) (by decide), hsh 2 (by decide) (by decide), hsh 3 (by decide) (by decide), hsh 4 (by decide) (by decide), hsh 7 (by decide) (by decide), hsh 11 (by decide) (by decide)]
    have : EV (sh D 2 5).toNatClampNeg (sh D') (im D) ↔ EV (sh D 2 5).toNatClampNeg (sh D) (im D) := by
      constructor
      · refine EV_congr (fun i _ => ?_) (fun i _ => ⟨rfl, rfl, rfl, rfl, rfl⟩)
        rw [hsh 7 (by decide) (by decide), hsh 8 (by decide) (by decide), hsh 9 (by decide) (by decide), hsh 10 (by decide) (by decide), hsh 11 (by decide) (by decide)]; exact ⟨rfl, rfl, rfl, rfl, rfl⟩
      · refine EV_congr (fun i _ => ?_) (fun i _ => ⟨rfl, rfl, rfl, rfl, rfl⟩)
        rw [hsh 7 (by decide) (by decide), hsh 8 (by decide) (by decide), hsh 9 (by decide) (by decide), hsh 10 (by decide) (by decide), hsh 11 (by decide) (by decide)]; exact ⟨rfl, rfl, rfl, rfl, rfl⟩
    rw [this]
  rw [hok, hn, ha, hw, h02, h43]
  exact f
def c1_ : List Nat := [2, 3, 4, 5, 6, 7, 8, 9, 10, 11, 13, 14, 15, 16, 17, 19, 20, 21, 67, 68, 69, 70, 71, 72, 73, 74, 75, 76, 81, 82, 83, 84, 85, 86, 88, 89]
theorem J1c {D D' : ax_Dn} (h : ∀ k ∈ c1_, D' k = D k) (h12 : D' 12 0 = D 12 0) (h14 : D' 1 4 = D 1 4) (h15 : D' 1 5 = D 1 5) (m22 : D' 58 22 = D 58 22) (m23 : D' 58 23 = D 58 23) (m32 : D' 58 32 = D 58 32) (m35 : D' 58 35 = D 58 35) (m40 : D' 58 40 = D 58 40) (hJ : J1 D) : J1 D' := by
  obtain ⟨a1, a2, a3, a4, a5, a6⟩ := hJ
  have g : ∀ k, decide (k ∈ c1_) = true → D' k = D k := fun k hk => h k (of_decide_eq_true hk)
  refine ⟨?_, ?_, ?_, ?_, ?_, ?_⟩
  · unfold okC at *
    simp only [g 2 rfl, g 5 rfl, g 6 rfl, g 13 rfl, g 14 rfl, g 15 rfl, g 16 rfl, g 17 rfl, g 19 rfl, g 20 rfl, g 21 rfl, h12]
    exact a1
  · unfold JN at *
    simp only [g 2 rfl, g 19 rfl, m22, m23, m32, m35, m40, h12, h14]
    exact a2
  · unfold JW at *
    simp only [h14, h15, g 2 rfl, g 3 rfl, g 4 rfl, g 7 rfl, g 11 rfl, g 67 rfl, g 88 rfl, g 89 rfl]
    refine ⟨a3.1, a3.2.1, EV_congr (fun i _ => ?_) (fun i _ => ?_) a3.2.2.1, a3.2.2.2⟩
    · rw [g 7 rfl, g 8 rfl, g 9 rfl, g 10 rfl, g 11 rfl]; exact ⟨rfl, rfl, rfl, rfl, rfl⟩
    · rw [g 71 rfl, g 72 rfl, g 73 rfl, g 74 rfl, g 75 rfl]; exact ⟨rfl, rfl, rfl, rfl, rfl⟩
  · unfold JF at *
    simp only [g 4 rfl, g 5 rfl, g 6 rfl, g 13 rfl, g 14 rfl, g 15 rfl, g 16 rfl, g 17 rfl, g 20 rfl, g 21 rfl, g 68 rfl, g 69 rfl, g 70 rfl, g 81 rfl, g 82 rfl, g 83 rfl, g 84 rfl, g 85 rfl, g 86 rfl, g 76 rfl]
    exact a4
  · rw [g 88 rfl]; exact a5
  · rw [g 89 rfl]; exact a6
theorem J_s {D D' : ax_Dn} (h : sJ D D') (hJ : J D) : J D' := by
  have e12 : D' 12 0 = D 12 0 := h.2.1 0 (by decide)
  have e43 : D' 43 1 = D 43 1 := h.2.2.1 1 (by decide) (by decide) (by decide)
  obtain ⟨a, b, c, d, e, f⟩ := hJ
  refine ⟨J1c (fun k hk => ?_) e12 (by rw [sJ_at h 1]) (by rw [sJ_at h 1]) (sJ_58 h 22) (sJ_58 h 23) (sJ_58 h 32) (sJ_58 h 35) (sJ_58 h 40) a, ?_, ?_, ?_, ?_, J6c (fun k _ hk => ?_) ?_ (by rw [sJ_at h 0]) (sJ_58 h 43) f⟩
  · refine sJ_at h k ?_
    unfold c1_ at hk
    simp only [List.mem_cons, List.not_mem_nil, or_false] at hk
    omega
  · rw [sJ_at h 59, sJ_at h 51]; exact b
  · unfold J3 at *
    simp only [sJ_at h 60, sJ_at h 44, sJ_58 h 20, e43]
    exact c
  · unfold J4 at *
    simp only [sJ_at h 90, sJ_at h 50, sJ_at h 0, sJ_58 h 41]
    exact d
  · rw [sJ_at h 77, sJ_at h 78]; exact e
  · unfold sh
    exact sJ_at h (k + 21) (by omega)
  · unfold im
    rw [sJ_at h 91]
/-- a refusal on both sides -/
theorem J_ref {D : ax_Dn} (c : Nat) (hJ : J D) : J (ax_up (ax_up D 51 (ax_up (D 51) c (D 51 c + 1))) 59 (ax_up (D 59) c (D 59 c + 1))) := by
  obtain ⟨a, b, cc, d, e, f⟩ := hJ
  refine ⟨J1c (fun k hk => ?_) ?_ ?_ ?_ ?_ ?_ ?_ ?_ ?_ a, ?_, ?_, ?_, ?_, J6c (fun k _ hk => ?_) ?_ ?_ ?_ f⟩
  · unfold c1_ at hk
    simp only [List.mem_cons, List.not_mem_nil, or_false] at hk
    rw [ax_up_n _ _ (by omega), ax_up_n _ _ (by omega)]
  all_goals try simp only [ax_up_ap, Nat.reduceEqDiff, ↓reduceIte]
  · rw [b]
  · unfold J3 at *
    simp only [ax_up_ap, Nat.reduceEqDiff, ↓reduceIte]
    exact cc
  · unfold J4 at *
    simp only [ax_up_ap, Nat.reduceEqDiff, ↓reduceIte]
    exact d
  · exact e
  · unfold sh
    rw [ax_up_n _ _ (by omega), ax_up_n _ _ (by omega)]
  · unfold im
    simp only [ax_up_ap, Nat.reduceEqDiff, ↓reduceIte]
/-! Pairs: a call of the class, then the same of the model: the same answer, and J again. -/
def FI (x : Int32) : ax_Po := fun o z => o = some (.int x) ∧ ∃ D E, z = ax_S D E ∧ J D
def FL (x : Int64) : ax_Po := fun o z => o = some (.long x) ∧ ∃ D E, z = ax_S D E ∧ J D
theorem FI_i (x y : Int32) (D : ax_Dn) (E : ax_En) : FI x (some (.int y)) (ax_S D E) = (y = x ∧ J D) := propext ⟨fun ⟨h1, D', E', h2, h3⟩ => by
  cases h1; obtain ⟨rfl, rfl⟩ := ax_S_inj h2; exact ⟨rfl, h3⟩, fun ⟨h1, h2⟩ => ⟨by rw [h1], D, E, rfl, h2⟩⟩
theorem FL_i (x y : Int64) (D : ax_Dn) (E : ax_En) : FL x (some (.long y)) (ax_S D E) = (y = x ∧ J D) := propext ⟨fun ⟨h1, D', E', h2, h3⟩ => by
  cases h1; obtain ⟨rfl, rfl⟩ := ax_S_inj h2; exact ⟨rfl, h3⟩, fun ⟨h1, h2⟩ => ⟨by rw [h1], D, E, rfl, h2⟩⟩
def KI (cm : ax_P1) (bs : List Value) : ax_Po := fun o z => ∃ x D E, o = some (.int x) ∧ z = ax_S D E ∧ cm bs (ax_S D E) (FI x)
def KL (cm : ax_P1) (bs : List Value) : ax_Po := fun o z => ∃ x D E, o = some (.long x) ∧ z = ax_S D E ∧ cm bs (ax_S D E) (FL x)
theorem KI_i (cm : ax_P1) (bs : List Value) (y : Int32) (D : ax_Dn) (E : ax_En) : KI cm bs (some (.int y)) (ax_S D E) = cm bs (ax_S D E) (FI y) := propext ⟨fun ⟨x, D', E', h1, h2, h3⟩ => by
  cases h1; obtain ⟨rfl, rfl⟩ := ax_S_inj h2; exact h3, fun h => ⟨y, D, E, rfl, rfl, h⟩⟩
theorem KL_i (cm : ax_P1) (bs : List Value) (y : Int64) (D : ax_Dn) (E : ax_En) : KL cm bs (some (.long y)) (ax_S D E) = cm bs (ax_S D E) (FL y) := propext ⟨fun ⟨x, D', E', h1, h2, h3⟩ => by
  cases h1; obtain ⟨rfl, rfl⟩ := ax_S_inj h2; exact h3, fun h => ⟨y, D, E, rfl, rfl, h⟩⟩
