/-! How great factors, products and likes can be. -/
theorem rgN {x : Int32} {b : Nat} (h1 : 1 ≤ x.toInt) (h2 : x.toInt ≤ b) : ∃ c : Nat, x = nI c ∧ 1 ≤ c ∧ c ≤ b := by
  obtain ⟨n, rfl, q1, q2⟩ := na_of (x := x) (by omega)
  exact ⟨n, rfl, by omega, by omega⟩
theorem st_rg {sl a b : Int32} (h1 : rg_ sl 0 8) (h2 : rg_ a (-9) 9) (h3 : rg_ b (-9) 9) : 1 ≤ (st_ sl a b).toInt ∧ (st_ sl a b).toInt ≤ 9 := by
  obtain ⟨a1, a2⟩ := h1
  obtain ⟨b1, b2⟩ := h2
  obtain ⟨c1, c2⟩ := h3
  have e1 : (a - b).toInt = a.toInt - b.toInt := na_sub (by omega) (by omega)
  have e2 := ab_toInt (t := a - b) (by omega)
  have e3 : (sl + 1).toInt = sl.toInt + 1 := na_add (by rw [na_k1]; omega) (by rw [na_k1]; omega)
  have e4 : (sl + 1 - ab_ (a - b)).toInt = (sl + 1).toInt - (ab_ (a - b)).toInt := na_sub (by omega) (by omega)
  unfold st_
  rw [mx_toInt]
  omega
theorem ni_rg (a b : Int32) : 1 ≤ (ni_ a b).toInt ∧ (ni_ a b).toInt ≤ 4 := by
  unfold ni_
  split
  · decide
  · split <;> decide
theorem di_rg {a b : Int32} (h2 : ax_cnt a 13) (h3 : rg_ b (-54) 54) : 1 ≤ (mx_ (3 - ab_ (a - b) / 2)).toInt ∧ (mx_ (3 - ab_ (a - b) / 2)).toInt ≤ 3 := by
  obtain ⟨b1, b2⟩ := h2
  obtain ⟨c1, c2⟩ := h3
  have e1 : (a - b).toInt = a.toInt - b.toInt := na_sub (by omega) (by omega)
  have e2 := ab_toInt (t := a - b) (by omega)
  have e5 : (ab_ (a - b) / 2).toInt = (ab_ (a - b)).toInt.tdiv 2 := Int32.toInt_div_of_ne_right _ 2 (by decide)
  have e6 : (ab_ (a - b)).toInt.tdiv 2 = (ab_ (a - b)).toInt / 2 := Int.tdiv_eq_ediv_of_nonneg (by omega)
  have k3 : (3 : Int32).toInt = 3 := rfl
  have e4 : (3 - ab_ (a - b) / 2).toInt = (3 : Int32).toInt - (ab_ (a - b) / 2).toInt := na_sub (by rw [k3]; omega) (by rw [k3]; omega)
  rw [mx_toInt]
  omega
def kb_ (k : Nat) : Nat := [1, 9, 4, 3, 9].getD k 1
def pb_ : Nat → Nat → Nat
  | 0, _ => 1
  | j + 1, k => kb_ k * pb_ j (k + 1)
theorem FC_nat {D : ax_Dn} (h : okC D) (i : Nat) (m d : Int32) : ∀ k, k < 5 → ∃ c : Nat, FC D i m d (nI k) = nI c ∧ 1 ≤ c ∧ c ≤ kb_ k := by
  have hl := h.2.2.2.2.1 i
  have hsl := h.2.2.2.2.2.2.2.2.2.2.1
  have hd := h.2.2.2.2.2.2.1 i
  have hr := h.2.2.2.2.2.2.2.2.1
  have hL : ∀ s, rg_ (lC_ (D 5) (D 7) (D 8) (D 9) (D 10) (D 11) (D 2 5).toNatClampNeg m s d) (-9) 9 := fun s => hd9_rg _
  have s1 := st_rg hsl hl (hL (D 13 i))
  have s2 := ni_rg (D 15 i) (nC_ (D 7) (D 8) (D 9) (D 10) (D 11) (D 2 5).toNatClampNeg m (D 13 i) d)
  have s3 := di_rg hd (dr_rg (cl := D 4) (m := m) (d := d) (hr (D 13 i).toNatClampNeg))
  have o1 : 1 ≤ (1 : Int32).toInt ∧ (1 : Int32).toInt ≤ 9 := by decide
  intro k hk
  unfold FC fa_
  match k, hk with
  | 0, _ =>
    rw [if_neg (by decide), if_neg (by decide), if_neg (by decide), if_neg (by decide)]
    exact rgN (by decide) (by decide)
  | 1, _ =>
    rw [if_pos (by decide)]
    exact rgN s1.1 s1.2
  | 2, _ =>
    rw [if_neg (by decide), if_pos (by decide)]
    exact rgN s2.1 s2.2
  | 3, _ =>
    rw [if_neg (by decide), if_neg (by decide), if_pos (by decide)]
    exact rgN s3.1 s3.2
  | 4, _ =>
    rw [if_neg (by decide), if_neg (by decide), if_neg (by decide), if_pos (by decide)]
    split
    · exact rgN o1.1 o1.2
    · exact rgN s1.1 s1.2
  | n + 5, h => exact absurd h (by omega)
theorem kb_pos (k : Nat) : 1 ≤ kb_ k := by
  unfold kb_
  match k with
  | 0 => decide
  | 1 => decide
  | 2 => decide
  | 3 => decide
  | 4 => decide
  | n + 5 => exact Nat.le_refl 1
theorem pr_nat {us : Int32} {f : Int32 → Int32} (h : ∀ k, k < 5 → ∃ c : Nat, f (nI k) = nI c ∧ 1 ≤ c ∧ c ≤ kb_ k) : ∀ (j k a : Nat), k + j = 5 → 1 ≤ a → ∃ q : Nat, pr_ us f j k (nI a) = nI q ∧ 1 ≤ q ∧ q ≤ a * pb_ j k := by
  intro j
  induction j with
  | zero => intro k a _ ha; exact ⟨a, rfl, ha, by unfold pb_; omega⟩
  | succ j ih =>
    intro k a hk ha
    unfold pr_ pb_
    split
    · obtain ⟨c, h1, h2, h3⟩ := h k (by omega)
      rw [h1, nI_mul]
      obtain ⟨q, q1, q2, q3⟩ := ih (k + 1) (a * c) (by omega) (Nat.mul_pos ha h2)
      refine ⟨q, q1, q2, Nat.le_trans q3 ?_⟩
      rw [Nat.mul_assoc]
      exact Nat.mul_le_mul_left _ (Nat.mul_le_mul_right _ h3)
    · obtain ⟨q, q1, q2, q3⟩ := ih (k + 1) a (by omega) ha
      refine ⟨q, q1, q2, Nat.le_trans q3 ?_⟩
      exact Nat.mul_le_mul_left _ (Nat.le_mul_of_pos_left _ (kb_pos k))
theorem PR_nat {D : ax_Dn} (h : okC D) (us : Int32) (i : Nat) (m d : Int32) : ∃ c : Nat, pr_ us (FC D i m d) 5 0 1 = nI c ∧ 1 ≤ c ∧ c ≤ 972 := by
  obtain ⟨q, h1, h2, h3⟩ := pr_nat (us := us) (FC_nat h i m d) 5 0 1 rfl (Nat.le_refl 1)
  exact ⟨q, h1, h2, Nat.le_trans h3 (by decide)⟩
theorem lk_nat {f : Nat → Int32} (h : ∀ i, ∃ c : Nat, f i = nI c ∧ 1 ≤ c ∧ c ≤ 972) : ∀ {P : List Nat} {a : Nat}, 1 ≤ a → ∃ q : Nat, lk_ P f (lN a) = lN q ∧ 1 ≤ q ∧ q ≤ a * 972 ^ P.length := by
  intro P
  induction P with
  | nil => intro a ha; exact ⟨a, rfl, ha, by simp⟩
  | cons i P ih =>
    intro a ha
    obtain ⟨c, h1, h2, h3⟩ := h i
    obtain ⟨q, q1, q2, q3⟩ := ih (a := a * c) (Nat.mul_pos ha h2)
    refine ⟨q, ?_, q2, Nat.le_trans q3 ?_⟩
    · rw [← q1]
      unfold lk_
      rw [List.foldl_cons, h1, nI_l (by omega), lN_mul]
    · rw [List.length_cons, Nat.pow_succ, Nat.mul_comm (972 ^ P.length), ← Nat.mul_assoc]
      exact Nat.mul_le_mul_right _ (Nat.mul_le_mul_left _ h3)
/-- the like of strokes f .. t - 1, by the class's desk -/
def LC (D : ax_Dn) (us m d : Int32) (f t : Nat) : Int64 := lk_ (pk_ (D 13) f t) (fun i => pr_ us (FC D i m d) 5 0 1) 1
def LM (D : ax_Dn) (us m d : Int32) (f t : Nat) : Int64 := lk_ (pk_ (D 81) f t) (fun i => pr_ us (FM D i m d) 5 0 1) 1
theorem pk_len (sg : Nat → Int32) (f t : Nat) : (pk_ sg f t).length ≤ 5 := by
  unfold pk_
  rw [List.length_take]
  omega
theorem LC_nat {D : ax_Dn} (h : okC D) (us m d : Int32) (f t : Nat) : ∃ q : Nat, LC D us m d f t = lN q ∧ 1 ≤ q ∧ q ≤ 867582119190272 + 867582119190272 := by
  obtain ⟨q, h1, h2, h3⟩ := lk_nat (f := fun i => pr_ us (FC D i m d) 5 0 1) (fun i => PR_nat h us i m d) (P := pk_ (D 13) f t) (a := 1) (Nat.le_refl 1)
  refine ⟨q, h1, h2, Nat.le_trans h3 ?_⟩
  rw [Nat.one_mul]
  exact Nat.le_trans (Nat.pow_le_pow_right (by decide) (pk_len _ _ _)) (Nat.le_of_ble_eq_true rfl)
