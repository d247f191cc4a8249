/-! A statement that comes: what it does to the class's rows, to the model's. -/
def stE (D : ax_Dn) (l m s d v : Int32) : ax_Dn := fun c => match c with
  | 2 => ax_up (D 2) 5 (D 2 5 + 1)
  | 7 => ins_ (D 7) (ip_ (D 10) d (D 2 5).toNatClampNeg) (D 2 5).toNatClampNeg l
  | 8 => ins_ (D 8) (ip_ (D 10) d (D 2 5).toNatClampNeg) (D 2 5).toNatClampNeg m
  | 9 => ins_ (D 9) (ip_ (D 10) d (D 2 5).toNatClampNeg) (D 2 5).toNatClampNeg s
  | 10 => ins_ (D 10) (ip_ (D 10) d (D 2 5).toNatClampNeg) (D 2 5).toNatClampNeg d
  | 11 => ins_ (D 11) (ip_ (D 10) d (D 2 5).toNatClampNeg) (D 2 5).toNatClampNeg v
  | c => D c
def stC (D : ax_Dn) (l m s d v : Int32) : ax_Dn :=
  if l = 109 then ax_up (ax_up (ax_up D 2 (ax_up (D 2) 0 (D 2 0 + 1))) 3 (ax_up (D 3) (D 2 0).toNatClampNeg v)) 4 (ax_up (D 4) (D 2 0).toNatClampNeg 0)
  else if l = 107 then ax_up D 5 (ax_up (D 5) s.toNatClampNeg v)
  else if l = 99 then ax_up D 4 (ax_up (D 4) m.toNatClampNeg v)
  else stE D l m s d v
def stM (D : ax_Dn) (l a b d v : Int32) : ax_Dn :=
  if l = 109 then ax_up (ax_up (ax_up D 58 (ax_up (D 58) 22 (D 58 22 + 1))) 67 (ax_up (D 67) (D 58 22).toNatClampNeg a)) 68 (ax_up (D 68) (D 58 22).toNatClampNeg 0)
  else if l = 107 then ax_up D 69 (ax_up (D 69) a.toNatClampNeg v)
  else if l = 99 then ax_up D 68 (ax_up (D 68) a.toNatClampNeg b)
  else ax_up (ax_up (ax_up (ax_up (ax_up (ax_up D 58 (ax_up (D 58) 23 (D 58 23 + 1))) 71 (ax_up (D 71) (D 58 23).toNatClampNeg l)) 72 (ax_up (D 72) (D 58 23).toNatClampNeg a)) 73 (ax_up (D 73) (D 58 23).toNatClampNeg b)) 74 (ax_up (D 74) (D 58 23).toNatClampNeg d)) 75 (ax_up (D 75) (D 58 23).toNatClampNeg v)
/-- the shops agree -/
def RS (C M : ax_Dn) : Prop := ax_cnt (C 2 0) 6 ∧ ax_cnt (C 2 5) 20 ∧ (∀ k, rg_ (C 5 k) (-9) 9) ∧ M 58 22 = C 2 0 ∧ M 58 23 = C 2 5 ∧ (∀ j : Nat, j < 6 → (j : Int) < (C 2 0).toInt → M 67 j = C 3 j ∧ rg_ (C 3 j) 1 99) ∧ EV (C 2 5).toNatClampNeg C M ∧ (∀ j, j < 6 → ax_cnt (C 4 j) 6) ∧ (∀ i : Nat, (i : Int) < (C 2 5).toInt → C 7 i = 110 → ax_cnt (C 11 i) 3) ∧ M 68 = C 4 ∧ M 69 = C 5
/-- one statement, as the class has it and as the model has it -/
def rst_ (l m s d v a b d' v' : Int32) : Prop := lt_ l ∧ (l = 109 → v = a ∧ rg_ v 0 99) ∧ (l = 107 → s = a ∧ v = v' ∧ rg_ s 0 9 ∧ rg_ v (-9) 9) ∧ (l = 99 → m = a ∧ v = b ∧ rg_ m 0 9 ∧ rg_ v 0 9) ∧ (ev_ l → m = a ∧ s = b ∧ d = d' ∧ rg_ m 0 9 ∧ rg_ s 0 9 ∧ rg_ d 0 999 ∧ (l ≠ 115 → v = v') ∧ (l = 110 → rg_ v 0 9))
theorem RS_cg {C M C' M' : ax_Dn} (c2 : C' 2 0 = C 2 0) (c25 : C' 2 5 = C 2 5) (c3 : C' 3 = C 3) (c4 : C' 4 = C 4) (c5 : C' 5 = C 5) (c7 : C' 7 = C 7) (c8 : C' 8 = C 8) (c9 : C' 9 = C 9) (c10 : C' 10 = C 10) (c11 : C' 11 = C 11) (m22 : M' 58 22 = M 58 22) (m23 : M' 58 23 = M 58 23) (m67 : ∀ j : Nat, (j : Int) < (C 2 0).toInt → M' 67 j = M 67 j) (m68 : M' 68 = M 68) (m69 : M' 69 = M 69) (m71 : ∀ i : Nat, (i : Int) < (C 2 5).toInt → M' 71 i = M 71 i ∧ M' 72 i = M 72 i ∧ M' 73 i = M 73 i ∧ M' 74 i = M 74 i ∧ M' 75 i = M 75 i) (h : RS C M) : RS C' M' := by
  obtain ⟨a1, a2, a3, a4, a5, a6, a7, a8, a9, b1, b2⟩ := h
  refine ⟨by rw [c2]; exact a1, by rw [c25]; exact a2, by rw [c5]; exact a3, by rw [m22, c2]; exact a4, by rw [m23, c25]; exact a5, ?_, ?_, by rw [c4]; exact a8, by rw [c25, c7, c11]; exact a9, by rw [m68, c4]; exact b1, by rw [m69, c5]; exact b2⟩
  · rw [c2, c3]
    intro j h1 h2
    rw [m67 j h2]
    exact a6 j h1 h2
  · rw [c25]
    have q := na_cl a2.1
    refine EV_congr (fun i _ => ?_) (fun i hi => ?_) a7
    · rw [c7, c8, c9, c10, c11]; exact ⟨rfl, rfl, rfl, rfl, rfl⟩
    · exact m71 i (by omega)
theorem rg_cnt {x : Int32} {a n : Nat} (h : rg_ x a n) : ax_cnt x n := ⟨by have := h.1; omega, h.2⟩
set_option maxHeartbeats 1000000 in
theorem RS_st {C M : ax_Dn} {l m s d v a b d' v' : Int32} {Mn Nn : Nat} (h : RS C M) (h2 : C 2 0 = nI Mn) (h5 : C 2 5 = nI Nn) (hM : Mn ≤ 6) (hN : Nn ≤ 20) (hr : rst_ l m s d v a b d' v') (hw : ¬ wr_ l m d v Mn Nn) : RS (stC C l m s d v) (stM M l a b d' v') ∧ stC C l m s d v 2 0 = nI (if l = 109 then Mn + 1 else Mn) ∧ stC C l m s d v 2 5 = nI (if ev_ l then Nn + 1 else Nn) ∧ (if l = 109 then Mn + 1 else Mn) ≤ 6 ∧ (if ev_ l then Nn + 1 else Nn) ≤ 20 := by
  obtain ⟨a1, a2, a3, a4, a5, a6, a7, a8, a9, b1, b2⟩ := h
  obtain ⟨hl, r1, r2, r3, r4⟩ := hr
  have w1 : ¬ (¬ l = 109 ∧ ¬ l = 107 ∧ ¬ m < nI Mn) := fun q => hw (Or.inl q)
  have w2 : ¬ 6 < (if l = 109 then Mn + 1 else Mn) := fun q => hw (Or.inr (Or.inl q))
  have w3 : ¬ 20 < (if ev_ l then Nn + 1 else Nn) := fun q => hw (Or.inr (Or.inr (Or.inl q)))
  have w4 : in_ l d v := Classical.not_not.mp (fun q => hw (Or.inr (Or.inr (Or.inr q))))
  have cM : (nI Mn).toNatClampNeg = Mn := nI_clamp (by omega)
  have cN : (nI Nn).toNatClampNeg = Nn := nI_clamp (by omega)
  have tM : (nI Mn).toInt = Mn := na_nI (by omega)
  have tN : (nI Nn).toInt = Nn := na_nI (by omega)
  have tM1 : (nI (Mn + 1)).toInt = (Mn + 1 : Nat) := na_nI (by omega)
  have tN1 : (nI (Nn + 1)).toInt = (Nn + 1 : Nat) := na_nI (by omega)
  have iM : nI Mn + 1 = nI (Mn + 1) := nI_1 Mn
  have iN : nI Nn + 1 = nI (Nn + 1) := nI_1 Nn
  rw [h2] at a1 a4 a6
  rw [h5] at a2 a5 a7 a9
  rw [cN] at a7
  by_cases l1 : l = 109
  · subst l1
    obtain ⟨rfl, r11⟩ := r1 rfl
    rw [if_pos rfl] at w2
    have ne : ¬ ev_ (109 : Int32) := by decide
    rw [if_pos rfl, if_neg ne]
    have hMn : Mn < 6 := by omega
    unfold stC stM
    simp only [↓reduceIte, h2, a4, cM, iM]
    refine ⟨⟨?_, ?_, ?_, ?_, ?_, ?_, ?_, ?_, ?_, ?_, ?_⟩, ?_, ?_, by omega, by omega⟩
    all_goals simp only [ax_up_ap, Nat.reduceEqDiff, ↓reduceIte]
    · exact ⟨by rw [tM1]; omega, by rw [tM1]; omega⟩
    · rw [h5]; exact a2
    · exact a3
    · rw [h5]; exact a5
    · intro j j1 j2
      rw [tM1] at j2
      by_cases c : j = Mn
      · rw [if_pos c, if_pos c]
        refine ⟨rfl, ?_, r11.2⟩
        have := na_le.mp (w4.2.1 rfl)
        rw [na_k1] at this
        exact this
      · rw [if_neg c, if_neg c]
        exact a6 j j1 (by rw [tM]; omega)
    · rw [h5, cN]
      exact EV_congr (fun i _ => ⟨rfl, rfl, rfl, rfl, rfl⟩) (fun i _ => ⟨rfl, rfl, rfl, rfl, rfl⟩) a7
    · intro j j1
      by_cases c : j = Mn
      · rw [if_pos c]; exact ⟨by decide, by decide⟩
      · rw [if_neg c]; exact a8 j j1
    · rw [h5]; exact a9
    · rw [b1]
    · exact b2
    · exact h5
  by_cases l2 : l = 107
  · subst l2
    obtain ⟨rfl, rfl, r21, r22⟩ := r2 rfl
    have n9 : ¬ (107 : Int32) = 109 := by decide
    have ne : ¬ ev_ (107 : Int32) := by decide
    rw [if_neg n9, if_neg ne]
    unfold stC stM
    rw [if_neg n9, if_pos rfl, if_neg n9, if_pos rfl]
    refine ⟨⟨?_, ?_, ?_, ?_, ?_, ?_, ?_, ?_, ?_, ?_, ?_⟩, ?_, ?_, hM, hN⟩
    all_goals simp only [ax_up_ap, Nat.reduceEqDiff, ↓reduceIte]
    · rw [h2]; exact a1
    · rw [h5]; exact a2
    · intro k
      by_cases c : k = s.toNatClampNeg
      · rw [if_pos c]; exact r22
      · rw [if_neg c]; exact a3 k
    · rw [h2]; exact a4
    · rw [h5]; exact a5
    · rw [h2]; exact a6
    · rw [h5, cN]
      exact EV_congr (fun i _ => ⟨rfl, rfl, rfl, rfl, rfl⟩) (fun i _ => ⟨rfl, rfl, rfl, rfl, rfl⟩) a7
    · exact a8
    · rw [h5]; exact a9
    · exact b1
    · rw [b2]
    · exact h2
    · exact h5
  by_cases l3 : l = 99
  · subst l3
    obtain ⟨rfl, rfl, r31, r32⟩ := r3 rfl
    have n9 : ¬ (99 : Int32) = 109 := by decide
    have n7 : ¬ (99 : Int32) = 107 := by decide
    have ne : ¬ ev_ (99 : Int32) := by decide
    rw [if_neg n9, if_neg ne]
    unfold stC stM
    rw [if_neg n9, if_neg n7, if_pos rfl, if_neg n9, if_neg n7, if_pos rfl]
    refine ⟨⟨?_, ?_, ?_, ?_, ?_, ?_, ?_, ?_, ?_, ?_, ?_⟩, ?_, ?_, hM, hN⟩
    all_goals simp only [ax_up_ap, Nat.reduceEqDiff, ↓reduceIte]
    · rw [h2]; exact a1
    · rw [h5]; exact a2
    · exact a3
    · rw [h2]; exact a4
    · rw [h5]; exact a5
    · rw [h2]; exact a6
    · rw [h5, cN]
      exact EV_congr (fun i _ => ⟨rfl, rfl, rfl, rfl, rfl⟩) (fun i _ => ⟨rfl, rfl, rfl, rfl, rfl⟩) a7
    · intro j j1
      by_cases c : j = m.toNatClampNeg
      · rw [if_pos c]
        have z6 : (6 : Int32).toInt = 6 := rfl
        have := na_le.mp (w4.2.2.2 rfl)
        rw [z6] at this
        exact ⟨r32.1, this⟩
      · rw [if_neg c]; exact a8 j j1
    · rw [h5]; exact a9
    · rw [b1]
    · exact b2
    · exact h2
    · exact h5
  have le : ev_ l := by
    rcases hl with q | q | q | q | q | q
    · exact absurd q l1
    · exact absurd q l2
    · exact Or.inl q
    · exact Or.inr (Or.inl q)
    · exact Or.inr (Or.inr q)
    · exact absurd q l3
  obtain ⟨rfl, rfl, rfl, r41, r42, r43, r44, r45⟩ := r4 le
  rw [if_pos le] at w3
  rw [if_neg l1, if_pos le]
  have hNn : Nn < 20 := by omega
  have hk : ip_ (C 10) d Nn ≤ Nn := ip_le _ _ _
  unfold stC stM
  rw [if_neg l1, if_neg l2, if_neg l3, if_neg l1, if_neg l2, if_neg l3]
  have e20 : stE C l m s d v 2 0 = C 2 0 := ax_up_n _ _ (by decide)
  have e25 : stE C l m s d v 2 5 = nI (Nn + 1) := by
    show ax_up (C 2) 5 (C 2 5 + 1) 5 = _
    rw [ax_up_s, h5, iN]
  have g : ∀ (w : Int32) (c : Nat), ins_ (C c) (ip_ (C 10) d (C 2 5).toNatClampNeg) (C 2 5).toNatClampNeg w = ins_ (C c) (ip_ (C 10) d Nn) Nn w := by
    intro w c
    rw [h5, cN]
  have e7 : stE C l m s d v 7 = ins_ (C 7) (ip_ (C 10) d Nn) Nn l := g _ _
  have e8 : stE C l m s d v 8 = ins_ (C 8) (ip_ (C 10) d Nn) Nn m := g _ _
  have e9 : stE C l m s d v 9 = ins_ (C 9) (ip_ (C 10) d Nn) Nn s := g _ _
  have e10 : stE C l m s d v 10 = ins_ (C 10) (ip_ (C 10) d Nn) Nn d := g _ _
  have e11 : stE C l m s d v 11 = ins_ (C 11) (ip_ (C 10) d Nn) Nn v := g _ _
  have e3 : stE C l m s d v 3 = C 3 := rfl
  have e4 : stE C l m s d v 4 = C 4 := rfl
  have e5 : stE C l m s d v 5 = C 5 := rfl
  rw [a5, cN, iN]
  refine ⟨⟨?_, ?_, ?_, ?_, ?_, ?_, ?_, ?_, ?_, ?_, ?_⟩, ?_, e25, hM, by omega⟩
  · rw [e20, h2]; exact a1
  · rw [e25]; exact ⟨by rw [tN1]; omega, by rw [tN1]; omega⟩
  · rw [e5]; exact a3
  · rw [e20, h2]
    simp only [ax_up_ap, Nat.reduceEqDiff, ↓reduceIte]
    exact a4
  · rw [e25]
    simp only [ax_up_ap, Nat.reduceEqDiff, ↓reduceIte]
  · rw [e20, h2, e3]
    simp only [ax_up_ap, Nat.reduceEqDiff, ↓reduceIte]
    exact a6
  · rw [e25, nI_clamp (by omega)]
    refine EV_ins (v' := v') a7 e7 e8 e9 e10 e11 ?_ ?_ ?_ ?_ ?_ r44
    all_goals simp only [ax_up_ap, Nat.reduceEqDiff, ↓reduceIte]
  · rw [e4]; exact a8
  · rw [e25, tN1, e7, e11]
    intro i i1 i2
    rcases ins_or (i := i) hk (by omega) with c | ⟨i0, c1, c2⟩
    · subst c
      rw [ins_k] at i2 ⊢
      have z3 : (3 : Int32).toInt = 3 := rfl
      have := na_le.mp (w4.2.2.1 i2)
      rw [z3] at this
      exact ⟨(r45 i2).1, this⟩
    · rw [c2] at i2 ⊢
      exact a9 i0 (by rw [tN]; omega) i2
  · rw [e4]
    simp only [ax_up_ap, Nat.reduceEqDiff, ↓reduceIte]
    exact b1
  · rw [e5]
    simp only [ax_up_ap, Nat.reduceEqDiff, ↓reduceIte]
    exact b2
  · rw [e20]; exact h2
/-- statements from i on, so many, come one behind another -/
def itC (L m s d v : Nat → Int32) : Nat → Nat → ax_Dn → ax_Dn
  | 0, _, D => D
  | j + 1, i, D => itC L m s d v j (i + 1) (stC D (L i) (m i) (s i) (d i) (v i))
def itM (L a b d v : Nat → Int32) : Nat → Nat → ax_Dn → ax_Dn
  | 0, _, D => D
  | j + 1, i, D => itM L a b d v j (i + 1) (stM D (L i) (a i) (b i) (d i) (v i))
theorem fw_ge (L m d v : Nat → Int32) : ∀ j i M N, i ≤ fw_ L m d v j i M N ∧ fw_ L m d v j i M N ≤ i + j := by
  intro j
  induction j with
  | zero => intro i M N; exact ⟨Nat.le_refl _, Nat.le_refl _⟩
  | succ j ih =>
    intro i M N
    unfold fw_
    split
    · exact ⟨Nat.le_refl _, Nat.le_add_right _ _⟩
    · have := ih (i + 1) (if L i = 109 then M + 1 else M) (if ev_ (L i) then N + 1 else N)
      omega
theorem it_RS {L m s d v a b d' v' : Nat → Int32} : ∀ (j i M N : Nat) (C Md : ax_Dn), RS C Md → C 2 0 = nI M → C 2 5 = nI N → M ≤ 6 → N ≤ 20 → (∀ x, i ≤ x → x < i + j → rst_ (L x) (m x) (s x) (d x) (v x) (a x) (b x) (d' x) (v' x)) → fw_ L m d v j i M N = i + j → RS (itC L m s d v j i C) (itM L a b d' v' j i Md) := by
  intro j
  induction j with
  | zero => intro i M N C Md h _ _ _ _ _ _; exact h
  | succ j ih =>
    intro i M N C Md h h2 h5 hM hN hr hf
    have hw : ¬ wr_ (L i) (m i) (d i) (v i) M N := by
      intro q
      unfold fw_ at hf
      rw [if_pos q] at hf
      omega
    unfold fw_ at hf
    rw [if_neg hw] at hf
    obtain ⟨k1, k2, k3, k4, k5⟩ := RS_st h h2 h5 hM hN (hr i (Nat.le_refl i) (by omega)) hw
    exact ih (i + 1) _ _ _ _ k1 k2 k3 k4 k5 (fun x x1 x2 => hr x (by omega) (by omega)) (by rw [hf]; omega)
/-- what is left alone -/
theorem stC_o (D : ax_Dn) (l m s d v : Int32) (c : Nat) (hc : ¬ (2 ≤ c ∧ c ≤ 5) ∧ ¬ (7 ≤ c ∧ c ≤ 11)) : stC D l m s d v c = D c := by
  unfold stC
  split
  · rw [ax_up_n _ _ (by omega), ax_up_n _ _ (by omega), ax_up_n _ _ (by omega)]
  · split
    · rw [ax_up_n _ _ (by omega)]
    · split
      · rw [ax_up_n _ _ (by omega)]
      · unfold stE
        split <;> first | rfl | omega
theorem stC_2 (D : ax_Dn) (l m s d v : Int32) (i : Nat) (hi : ¬ i = 0 ∧ ¬ i = 5) : stC D l m s d v 2 i = D 2 i := by
  unfold stC
  split
  · simp only [ax_up_ap, Nat.reduceEqDiff, ↓reduceIte]
    rw [if_neg hi.1]
  · split
    · rfl
    · split
      · rfl
      · show ax_up (D 2) 5 _ i = _
        rw [ax_up_n _ _ hi.2]
theorem stM_o (D : ax_Dn) (l a b d v : Int32) (c : Nat) (hc : ¬ c = 58 ∧ ¬ (67 ≤ c ∧ c ≤ 69) ∧ ¬ (71 ≤ c ∧ c ≤ 75)) : stM D l a b d v c = D c := by
  unfold stM
  split
  · rw [ax_up_n _ _ (by omega), ax_up_n _ _ (by omega), ax_up_n _ _ (by omega)]
  · split
    · rw [ax_up_n _ _ (by omega)]
    · split
      · rw [ax_up_n _ _ (by omega)]
      · rw [ax_up_n _ _ (by omega), ax_up_n _ _ (by omega), ax_up_n _ _ (by omega), ax_up_n _ _ (by omega), ax_up_n _ _ (by omega), ax_up_n _ _ (by omega)]
theorem stM_58 (D : ax_Dn) (l a b d v : Int32) (i : Nat) (hi : ¬ i = 22 ∧ ¬ i = 23) : stM D l a b d v 58 i = D 58 i := by
  unfold stM
  split
  · simp only [ax_up_ap, Nat.reduceEqDiff, ↓reduceIte]
    rw [if_neg hi.1]
  · split
    · rfl
    · split
      · rfl
      · simp only [ax_up_ap, Nat.reduceEqDiff, ↓reduceIte]
        rw [if_neg hi.2]
theorem itC_o {L m s d v : Nat → Int32} (c : Nat) (hc : ¬ (2 ≤ c ∧ c ≤ 5) ∧ ¬ (7 ≤ c ∧ c ≤ 11)) : ∀ (j i : Nat) (D : ax_Dn), itC L m s d v j i D c = D c := by
  intro j
  induction j with
  | zero => intro i D; rfl
  | succ j ih => intro i D; exact (ih _ _).trans (stC_o D _ _ _ _ _ c hc)
theorem itC_2 {L m s d v : Nat → Int32} (x : Nat) (hx : ¬ x = 0 ∧ ¬ x = 5) : ∀ (j i : Nat) (D : ax_Dn), itC L m s d v j i D 2 x = D 2 x := by
  intro j
  induction j with
  | zero => intro i D; rfl
  | succ j ih => intro i D; exact (ih _ _).trans (stC_2 D _ _ _ _ _ x hx)
theorem itM_o {L a b d v : Nat → Int32} (c : Nat) (hc : ¬ c = 58 ∧ ¬ (67 ≤ c ∧ c ≤ 69) ∧ ¬ (71 ≤ c ∧ c ≤ 75)) : ∀ (j i : Nat) (D : ax_Dn), itM L a b d v j i D c = D c := by
  intro j
  induction j with
  | zero => intro i D; rfl
  | succ j ih => intro i D; exact (ih _ _).trans (stM_o D _ _ _ _ _ c hc)
theorem itM_58 {L a b d v : Nat → Int32} (x : Nat) (hx : ¬ x = 22 ∧ ¬ x = 23) : ∀ (j i : Nat) (D : ax_Dn), itM L a b d v j i D 58 x = D 58 x := by
  intro j
  induction j with
  | zero => intro i D; rfl
  | succ j ih => intro i D; exact (ih _ _).trans (stM_58 D _ _ _ _ _ x hx)
