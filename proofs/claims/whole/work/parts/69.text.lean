/-! What a statement's text says. -/
theorem lP_t {t : Nat → Int32} {n p : Nat} (h : (lP_ t n p).1 = true) : (byt t n p 45 ∨ byt t n p 43) ∧ dgt t n (p + 1) ∧ (lP_ t n p).2 = p + 2 := by
  unfold lP_ at h ⊢
  by_cases c1 : byt t n p 45 ∨ byt t n p 43
  · rw [if_pos c1] at h ⊢
    by_cases c2 : dgt t n (p + 1)
    · rw [if_pos c2] at h ⊢
      exact ⟨c1, c2, rfl⟩
    · rw [if_neg c2] at h; exact absurd h Bool.false_ne_true
  · rw [if_neg c1] at h; exact absurd h Bool.false_ne_true
theorem bP_t {t : Nat → Int32} {n p : Nat} (h : (bP_ t n p).1 = true) : dgt t n p ∧ dgt t n (p + 1) ∧ byt t n (p + 2) 64 ∧ (bP_ t n p).2 = (nu_ t n 3 (p + 3) 0).1 ∧ ¬ (nu_ t n 3 (p + 3) 0).1 = p + 3 ∧ p + 4 ≤ (bP_ t n p).2 := by
  unfold bP_ at h ⊢
  by_cases c1 : dgt t n p
  · rw [if_pos c1] at h ⊢
    by_cases c2 : dgt t n (p + 1)
    · rw [if_pos c2] at h ⊢
      by_cases c3 : byt t n (p + 2) 64
      · rw [if_pos c3] at h ⊢
        by_cases c4 : (nu_ t n 3 (p + 3) 0).1 = p + 3
        · rw [if_pos c4] at h; exact absurd h Bool.false_ne_true
        · rw [if_neg c4]
          have := (nu_le t n 3 (p + 3) 0).1
          exact ⟨c1, c2, c3, rfl, c4, by show p + 4 ≤ (nu_ t n 3 (p + 3) 0).1; omega⟩
      · rw [if_neg c3] at h; exact absurd h Bool.false_ne_true
    · rw [if_neg c2] at h; exact absurd h Bool.false_ne_true
  · rw [if_neg c1] at h; exact absurd h Bool.false_ne_true
theorem dg_rg {t : Nat → Int32} {n p : Nat} (h : dgt t n p) : rg_ (t p - 48) 0 9 := by
  obtain ⟨-, d2, d3⟩ := h
  have d2 := na_le.mp d2
  have d3 := na_le.mp d3
  have z48 : (48 : Int32).toInt = 48 := rfl
  have z57 : (57 : Int32).toInt = 57 := rfl
  have e : (t p - 48).toInt = (t p).toInt - 48 := by rw [na_sub (by rw [z48]; omega) (by rw [z48]; omega), z48]
  unfold rg_
  omega
theorem lV_rg {t : Nat → Int32} {n p : Nat} (h : dgt t n (p + 1)) : rg_ (lV_ t p) (-9) 9 := by
  obtain ⟨a, b⟩ := dg_rg h
  unfold lV_
  split
  · unfold rg_
    rw [na_neg (by omega)]
    omega
  · exact ⟨by omega, b⟩
theorem iP_109 {t : Nat → Int32} {n p : Nat} (h : (iP_ t n 109 p).1 = true) : dgt t n p ∧ p + 1 ≤ (iP_ t n 109 p).2 := by
  unfold iP_ at h ⊢
  rw [if_pos rfl] at h ⊢
  by_cases c : (nu_ t n 2 p 0).1 = p
  · rw [if_pos c] at h; exact absurd h Bool.false_ne_true
  · rw [if_neg c]
    have := (nu_le t n 2 p 0).1
    exact ⟨(nu_p (by decide)).mpr c, by show p + 1 ≤ (nu_ t n 2 p 0).1; omega⟩
theorem iP_107 {t : Nat → Int32} {n p : Nat} (h : (iP_ t n 107 p).1 = true) : dgt t n p ∧ (lP_ t n (p + 1)).1 = true ∧ p + 1 ≤ (iP_ t n 107 p).2 := by
  unfold iP_ at h ⊢
  rw [if_neg (by decide), if_pos rfl] at h ⊢
  by_cases c : dgt t n p
  · rw [if_pos c] at h ⊢
    exact ⟨c, h, by rw [(lP_t h).2.2]; omega⟩
  · rw [if_neg c] at h; exact absurd h Bool.false_ne_true
theorem iP_98 {t : Nat → Int32} {n p : Nat} (h : (iP_ t n 98 p).1 = true) : (bP_ t n p).1 = true ∧ (lP_ t n (bP_ t n p).2).1 = true ∧ p + 1 ≤ (iP_ t n 98 p).2 := by
  unfold iP_ at h ⊢
  rw [if_neg (by decide), if_neg (by decide), if_pos rfl] at h ⊢
  by_cases c : (bP_ t n p).1 = true
  · rw [if_pos c] at h ⊢
    have := (bP_t c).2.2.2.2.2
    exact ⟨c, h, by rw [(lP_t h).2.2]; omega⟩
  · rw [if_neg c] at h; exact absurd h Bool.false_ne_true
theorem iP_115 {t : Nat → Int32} {n p : Nat} (h : (iP_ t n 115 p).1 = true) : (bP_ t n p).1 = true ∧ p + 1 ≤ (iP_ t n 115 p).2 := by
  unfold iP_ at h ⊢
  rw [if_neg (by decide), if_neg (by decide), if_neg (by decide), if_pos rfl] at h ⊢
  have := (bP_t h).2.2.2.2.2
  exact ⟨h, by omega⟩
theorem iP_110 {t : Nat → Int32} {n p : Nat} (h : (iP_ t n 110 p).1 = true) : (bP_ t n p).1 = true ∧ byt t n (bP_ t n p).2 58 ∧ dgt t n ((bP_ t n p).2 + 1) ∧ p + 1 ≤ (iP_ t n 110 p).2 := by
  unfold iP_ at h ⊢
  rw [if_neg (by decide), if_neg (by decide), if_neg (by decide), if_neg (by decide), if_pos rfl] at h ⊢
  by_cases c : (bP_ t n p).1 = true
  · rw [if_pos c] at h ⊢
    have := (bP_t c).2.2.2.2.2
    by_cases c2 : byt t n (bP_ t n p).2 58
    · rw [if_pos c2] at h ⊢
      by_cases c3 : dgt t n ((bP_ t n p).2 + 1)
      · rw [if_pos c3]
        exact ⟨c, c2, c3, by show p + 1 ≤ (bP_ t n p).2 + 2; omega⟩
      · rw [if_neg c3] at h; exact absurd h Bool.false_ne_true
    · rw [if_neg c2] at h; exact absurd h Bool.false_ne_true
  · rw [if_neg c] at h; exact absurd h Bool.false_ne_true
theorem iP_99 {t : Nat → Int32} {n p : Nat} (h : (iP_ t n 99 p).1 = true) : dgt t n p ∧ dgt t n (p + 1) ∧ p + 1 ≤ (iP_ t n 99 p).2 := by
  unfold iP_ at h ⊢
  rw [if_neg (by decide), if_neg (by decide), if_neg (by decide), if_neg (by decide), if_neg (by decide)] at h ⊢
  by_cases c : dgt t n p
  · rw [if_pos c] at h ⊢
    by_cases c2 : dgt t n (p + 1)
    · rw [if_pos c2]
      exact ⟨c, c2, by show p + 1 ≤ p + 2; omega⟩
    · rw [if_neg c2] at h; exact absurd h Bool.false_ne_true
  · rw [if_neg c] at h; exact absurd h Bool.false_ne_true
theorem iP_ge {t : Nat → Int32} {n p : Nat} {l : Int32} (hl : lt_ l) (h : (iP_ t n l p).1 = true) : p + 1 ≤ (iP_ t n l p).2 := by
  rcases hl with rfl | rfl | rfl | rfl | rfl | rfl
  · exact (iP_109 h).2
  · exact (iP_107 h).2.2
  · exact (iP_98 h).2.2
  · exact (iP_115 h).2
  · exact (iP_110 h).2.2.2
  · exact (iP_99 h).2.2
theorem sP_t {t : Nat → Int32} {n p : Nat} (h : (sP_ t n p).1 = true) : p < n ∧ lt_ (t p) ∧ (iP_ t n (t p) (p + 1)).1 = true ∧ p + 3 ≤ (sP_ t n p).2 ∧ (sP_ t n p).2 ≤ n := by
  unfold sP_ at h ⊢
  by_cases c : lt_ (hr_ t n p)
  · rw [if_pos c] at h ⊢
    have hp : p < n := by
      by_cases q : p < n
      · exact q
      · have e : hr_ t n p = -9 := by unfold hr_; rw [if_neg q]
        rw [e] at c
        exact absurd c (by decide)
    rw [hr_e hp] at c h ⊢
    by_cases c2 : (iP_ t n (t p) (p + 1)).1 = true
    · rw [if_pos c2] at h ⊢
      have g := iP_ge c c2
      by_cases c3 : byt t n (iP_ t n (t p) (p + 1)).2 59
      · rw [if_pos c3]
        exact ⟨hp, c, c2, by show p + 3 ≤ (iP_ t n (t p) (p + 1)).2 + 1; omega, c3.1⟩
      · rw [if_neg c3] at h; exact absurd h Bool.false_ne_true
    · rw [if_neg c2] at h; exact absurd h Bool.false_ne_true
  · rw [if_neg c] at h; exact absurd h Bool.false_ne_true
theorem ps_ge {t : Nat → Int32} {n : Nat} : ∀ s, (∀ i, i < s → (sP_ t n (ps_ t n i)).1 = true) → 3 * s ≤ ps_ t n s ∧ ps_ t n s ≤ n := by
  intro s
  induction s with
  | zero => intro _; exact ⟨Nat.le_refl _, Nat.zero_le _⟩
  | succ s ih =>
    intro h
    obtain ⟨a, b⟩ := ih (fun i hi => h i (by omega))
    obtain ⟨-, -, -, c, d⟩ := sP_t (h s (Nat.lt_succ_self s))
    show 3 * (s + 1) ≤ (sP_ t n (ps_ t n s)).2 ∧ (sP_ t n (ps_ t n s)).2 ≤ n
    omega
theorem sP_le {t : Nat → Int32} {n p : Nat} (h : p ≤ n) : (sP_ t n p).2 ≤ n := by
  by_cases c : (sP_ t n p).1 = true
  · exact (sP_t c).2.2.2.2
  · have lpn : ∀ p, p ≤ n → (lP_ t n p).2 ≤ n := by
      intro p h
      unfold lP_
      split
      · rename_i q
        have : p < n := q.elim (fun z => z.1) (fun z => z.1)
        split
        · rename_i q2
          have := q2.1
          show p + 2 ≤ n
          omega
        · show p + 1 ≤ n
          omega
      · exact h
    have bpn : ∀ p, p ≤ n → (bP_ t n p).2 ≤ n := by
      intro p h
      unfold bP_
      split
      · rename_i q1
        have := q1.1
        split
        · rename_i q2
          have := q2.1
          split
          · rename_i q3
            have := q3.1
            split
            · show p + 3 ≤ n
              omega
            · exact (nu_le t n 3 (p + 3) 0).2.2 (by omega)
          · show p + 2 ≤ n
            omega
        · show p + 1 ≤ n
          omega
      · exact h
    have ipn : ∀ l p, p ≤ n → (iP_ t n l p).2 ≤ n := by
      intro l p h
      unfold iP_
      split
      · split
        · exact h
        · exact (nu_le t n 2 p 0).2.2 h
      · split
        · split
          · rename_i q
            exact lpn _ q.1
          · exact h
        · split
          · split
            · exact lpn _ (bpn p h)
            · exact bpn p h
          · split
            · exact bpn p h
            · split
              · split
                · split
                  · rename_i q
                    have := q.1
                    split
                    · rename_i q2
                      have := q2.1
                      show (bP_ t n p).2 + 2 ≤ n
                      omega
                    · show (bP_ t n p).2 + 1 ≤ n
                      omega
                  · exact bpn p h
                · exact bpn p h
              · split
                · rename_i q
                  have := q.1
                  split
                  · rename_i q2
                    have := q2.1
                    show p + 2 ≤ n
                    omega
                  · show p + 1 ≤ n
                    omega
                · exact h
    unfold sP_
    split
    · rename_i q
      have hp : p < n := by
        by_cases q2 : p < n
        · exact q2
        · have e : hr_ t n p = -9 := by unfold hr_; rw [if_neg q2]
          rw [e] at q
          exact absurd q (by decide)
      split
      · split
        · rename_i q3
          exact q3.1
        · exact ipn _ _ hp
      · exact ipn _ _ hp
    · exact h
/-- what the class has of a statement, and what the model has, is one statement -/
theorem rs_of {t : Nat → Int32} {n p i : Nat} {D M : ax_Dn} (h : (sP_ t n p).1 = true) (hf : sF_ t n p i D) (hg : sG_ t n p i M) : rst_ (t p) (D 46 i) (D 47 i) (D 48 i) (D 49 i) (M 62 i) (M 63 i) (M 64 i) (M 65 i) := by
  obtain ⟨hp, hl, hi, -, -⟩ := sP_t h
  obtain ⟨f1, f2, f3, f4, f5, f6⟩ := hf
  obtain ⟨-, -, g1, g2, g3, g4, g5, g6⟩ := hg
  refine ⟨hl, fun q => ?_, fun q => ?_, fun q => ?_, fun q => ?_⟩
  · rw [f1 q, g1 q]
    refine ⟨rfl, ?_⟩
    have := nu_r0 t n (p + 1) (k := 2) (by decide)
    unfold rg_
    have e : (10 : Int) ^ 2 = 100 := by decide
    omega
  · obtain ⟨a1, a2⟩ := f2 q
    obtain ⟨b1, b2⟩ := g2 q
    rw [q] at hi
    obtain ⟨c1, c2, -⟩ := iP_107 hi
    rw [a1, a2, b1, b2]
    exact ⟨rfl, rfl, dg_rg c1, lV_rg (lP_t c2).2.1⟩
  · obtain ⟨a1, a2⟩ := f6 q
    obtain ⟨b1, b2⟩ := g6 q
    rw [q] at hi
    obtain ⟨c1, c2, -⟩ := iP_99 hi
    rw [a1, a2, b1, b2]
    exact ⟨rfl, rfl, dg_rg c1, dg_rg c2⟩
  · have hb : (bP_ t n (p + 1)).1 = true := by
      rcases q with q | q | q
      · rw [q] at hi; exact (iP_98 hi).1
      · rw [q] at hi; exact (iP_115 hi).1
      · rw [q] at hi; exact (iP_110 hi).1
    obtain ⟨c1, c2, c3, c4, c5, -⟩ := bP_t hb
    obtain ⟨a1, a2, a3⟩ := f3 q
    obtain ⟨b1, b2, b3⟩ := g3 q
    have r := nu_r0 t n (p + 4) (k := 3) (by decide)
    have e : (10 : Int) ^ 3 = 1000 := by decide
    rw [a1, a2, a3, b1, b2, b3]
    refine ⟨rfl, rfl, rfl, dg_rg c1, dg_rg c2, ⟨r.1, by omega⟩, fun z => ?_, fun z => ?_⟩
    · rcases q with q | q | q
      · rw [f4 q, g4 q]
      · exact absurd q z
      · rw [f5 q, g5 q]
    · rw [f5 z]
      rw [z] at hi
      exact dg_rg (iP_110 hi).2.2.1
