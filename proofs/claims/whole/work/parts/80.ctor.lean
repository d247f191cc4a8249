/-! Constructors. -/
abbrev zD_ : Nat → Int32 := fun _ => 0
abbrev zE_ : Nat → Int64 := fun _ => 0
abbrev zR_ : Nat → Option Nat := fun _ => none
/-- nothing is there yet from cell k on -/
def zr_ (k : Nat) (D : ax_Dn) (E : ax_En) (R : ax_Rn) : Prop := ∀ j, k ≤ j → D j = zD_ ∧ E j = zE_ ∧ R j = zR_
theorem nw_r (n : Nat) (D : ax_Dn) (E : ax_En) (R : ax_Rn) : ax_nw (n, D, E, R) = (n + 1, ax_up D n zD_, ax_up E n zE_, ax_up R n zR_) := rfl
theorem d1_r (n : Nat) (D : ax_Dn) (E : ax_En) (R : ax_Rn) (k j : Nat) (v : Int32) : ax_d1 (n, D, E, R) k j v = (n, ax_up D k (ax_up (D k) j v), E, R) := rfl
theorem e1_r (n : Nat) (D : ax_Dn) (E : ax_En) (R : ax_Rn) (k j : Nat) (v : Int64) : ax_e1 (n, D, E, R) k j v = (n, D, ax_up E k (ax_up (E k) j v), R) := rfl
theorem r1_r (n : Nat) (D : ax_Dn) (E : ax_En) (R : ax_Rn) (k j : Nat) (v : Option Nat) : ax_r1 (n, D, E, R) k j v = (n, D, E, ax_up R k (ax_up (R k) j v)) := rfl
theorem gv2_r (n : Nat) (D : ax_Dn) (E : ax_En) (R : ax_Rn) (k j : Nat) : ax_gv (n, D, E, R) k j 2 = ax_rv (R k j) := rfl
theorem rv_r (a : Nat) : ax_rv (some a) = .ref a := rfl
theorem up_k {α : Type} {f : Nat → α} {k : Nat} {v : α} (h : f k = v) : ax_up f k v = f := by rw [← h, ax_up_id]
theorem up_zd {f : Nat → Nat → Int32} {k : Nat} (h : f k = zD_) : ax_up f k zD_ = f := up_k h
theorem up_ze {f : Nat → Nat → Int64} {k : Nat} (h : f k = zE_) : ax_up f k zE_ = f := up_k h
theorem up_zr {f : Nat → Nat → Option Nat} {k : Nat} (h : f k = zR_) : ax_up f k zR_ = f := up_k h
theorem up_cd (k : Nat) : ax_up zD_ k 0 = zD_ := up_k rfl
theorem up_ce (k : Nat) : ax_up zE_ k 0 = zE_ := up_k rfl
theorem zr_at {k : Nat} {D : ax_Dn} {E : ax_En} {R : ax_Rn} (h : zr_ k D E R) (j : Nat) (hj : k ≤ j) : D j = zD_ ∧ E j = zE_ ∧ R j = zR_ := h j hj
theorem zr_m {a b : Nat} {D : ax_Dn} {E : ax_En} {R : ax_Rn} (h : zr_ a D E R) (hb : a ≤ b) : zr_ b D E R := fun j hj => h j (Nat.le_trans hb hj)
theorem zr_D {b c : Nat} {D : ax_Dn} {E : ax_En} {R : ax_Rn} {f : Nat → Int32} (h : zr_ b D E R) (hc : c < b) : zr_ b (ax_up D c f) E R := fun j hj => by
  obtain ⟨h1, h2, h3⟩ := h j hj
  exact ⟨by rw [ax_up_n _ _ (by omega)]; exact h1, h2, h3⟩
theorem zr_R {b c : Nat} {D : ax_Dn} {E : ax_En} {R : ax_Rn} {f : Nat → Option Nat} (h : zr_ b D E R) (hc : c < b) : zr_ b D E (ax_up R c f) := fun j hj => by
  obtain ⟨h1, h2, h3⟩ := h j hj
  exact ⟨h1, h2, by rw [ax_up_n _ _ (by omega)]; exact h3⟩
def r4_ : Nat → Int32 := fun j => if j < 10 then 4 else 0
def s5_ : Nat → Int32 := fun j => ([4, 6, 5, 0, 20] : List Int32).getD j 0
theorem r4_e : ax_up (ax_up (ax_up (ax_up (ax_up (ax_up (ax_up (ax_up (ax_up (ax_up (zD_) 0 4) 1 4) 2 4) 3 4) 4 4) 5 4) 6 4) 7 4) 8 4) 9 4 = r4_ := by
  funext j
  match j with
  | 0 => rfl
  | 1 => rfl
  | 2 => rfl
  | 3 => rfl
  | 4 => rfl
  | 5 => rfl
  | 6 => rfl
  | 7 => rfl
  | 8 => rfl
  | 9 => rfl
  | n + 10 => exact (if_neg (by omega)).symm
theorem rw_2 : ax_up (ax_up (ax_up (ax_up (ax_up (ax_up (ax_up (ax_up (ax_up (zR_) 1 (some 3)) 2 (some 4)) 3 (some 5)) 4 (some 6)) 6 (some 7)) 7 (some 8)) 8 (some 9)) 9 (some 10)) 10 (some 11) = ax_R0 2 := by
  funext j
  match j with
  | 0 => rfl
  | 1 => rfl
  | 2 => rfl
  | 3 => rfl
  | 4 => rfl
  | 5 => rfl
  | 6 => rfl
  | 7 => rfl
  | 8 => rfl
  | 9 => rfl
  | 10 => rfl
  | n + 11 => rfl
theorem rw_12 : ax_up (ax_up (ax_up (ax_up (ax_up (ax_up (zR_) 1 (some 13)) 2 (some 14)) 3 (some 15)) 4 (some 16)) 5 (some 17)) 7 (some 18) = ax_R0 12 := by
  funext j
  match j with
  | 0 => rfl
  | 1 => rfl
  | 2 => rfl
  | 3 => rfl
  | 4 => rfl
  | 5 => rfl
  | 6 => rfl
  | 7 => rfl
  | n + 8 => rfl
theorem rw_19 : ax_up (zR_) 1 (some 20) = ax_R0 19 := by
  funext j
  match j with
  | 0 => rfl
  | 1 => rfl
  | n + 2 => rfl
theorem rw_23 : ax_up (ax_up (ax_up (ax_up (ax_up (ax_up (ax_up (ax_up (ax_up (zR_) 1 (some 24)) 2 (some 25)) 3 (some 26)) 4 (some 27)) 6 (some 28)) 7 (some 29)) 8 (some 30)) 9 (some 31)) 10 (some 32) = ax_R0 23 := by
  funext j
  match j with
  | 0 => rfl
  | 1 => rfl
  | 2 => rfl
  | 3 => rfl
  | 4 => rfl
  | 5 => rfl
  | 6 => rfl
  | 7 => rfl
  | 8 => rfl
  | 9 => rfl
  | 10 => rfl
  | n + 11 => rfl
theorem rw_33 : ax_up (ax_up (ax_up (ax_up (ax_up (ax_up (zR_) 1 (some 34)) 2 (some 35)) 3 (some 36)) 4 (some 37)) 5 (some 38)) 7 (some 39) = ax_R0 33 := by
  funext j
  match j with
  | 0 => rfl
  | 1 => rfl
  | 2 => rfl
  | 3 => rfl
  | 4 => rfl
  | 5 => rfl
  | 6 => rfl
  | 7 => rfl
  | n + 8 => rfl
theorem rw_40 : ax_up (zR_) 1 (some 41) = ax_R0 40 := by
  funext j
  match j with
  | 0 => rfl
  | 1 => rfl
  | n + 2 => rfl
theorem rw_43 : ax_up (ax_up (ax_up (ax_up (ax_up (ax_up (zR_) 0 (some 44)) 5 (some 45)) 6 (some 46)) 7 (some 47)) 8 (some 48)) 9 (some 49) = ax_R0 43 := by
  funext j
  match j with
  | 0 => rfl
  | 1 => rfl
  | 2 => rfl
  | 3 => rfl
  | 4 => rfl
  | 5 => rfl
  | 6 => rfl
  | 7 => rfl
  | 8 => rfl
  | 9 => rfl
  | n + 10 => rfl
theorem rw_52 : ax_up (zR_) 0 (some 53) = ax_R0 52 := by
  funext j
  match j with
  | 0 => rfl
  | 1 => rfl
  | n + 2 => rfl
theorem rw_54 : ax_up (zR_) 0 (some 55) = ax_R0 54 := by
  funext j
  match j with
  | 0 => rfl
  | n + 1 => rfl
theorem rw_56 : ax_up (zR_) 0 (some 57) = ax_R0 56 := by
  funext j
  match j with
  | 0 => rfl
  | 1 => rfl
  | 2 => rfl
  | n + 3 => rfl
/-- AskewLetters$Hands -/
def cy_37 : ax_P1 := fun as z K => ∃ (k : Nat) (D : ax_Dn) (E : ax_En) (R : ax_Rn), as = [.ref k] ∧ z = (k + 1, D, E, R) ∧ (k = 19 ∨ k = 40) ∧ zr_ k D E R ∧ K none (k + 2, D, E, ax_up R k (ax_R0 k))
theorem ry_37 (n k : Nat) (D : ax_Dn) (E : ax_En) (R : ax_Rn) (K : ax_Po) : cy_37 [.ref k] (n, D, E, R) K = (n = k + 1 ∧ (k = 19 ∨ k = 40) ∧ zr_ k D E R ∧ K none (k + 2, D, E, ax_up R k (ax_R0 k))) := propext ⟨fun ⟨k', D', E', R', h1, h2, h3⟩ => by
  cases h1; cases h2; exact ⟨rfl, h3⟩, fun ⟨h1, h3⟩ => ⟨k, D, E, R, rfl, by rw [h1], h3⟩⟩
set_option maxRecDepth 10000 in
theorem sy_37 {g : ax_G} : ∀ as z K, cy_37 as z K → ax_MM g 37 as z K := by
  rintro _ _ K ⟨k, D, E, R, rfl, rfl, hk, hz, h⟩
  rcases hk with rfl | rfl
  · have hW : ax_WP g (ax_hy 37) K 20 21 0 [some (.ref 19)] [] (20, D, E, R) := by
      have hz1 := fun j hj => (zr_at hz j hj).1
      have hz2 := fun j hj => (zr_at hz j hj).2.1
      have hz3 := fun j hj => (zr_at hz j hj).2.2
      refine ax_WPo (l := []) ax_on ax_ok37 (fun _ => false) 400 0 rfl ?_
      simp +decide only [↓ax_B, ax_B, ax_kds, ax_gvs, ax_mcs, ax_ia_S, ax_up_ap, ax_vinL, and_self_left, ax_up_up, ax_up_sw, Nat.reduceAdd, Nat.reduceBEq, Nat.reduceLeDiff, Nat.reduceLT, Nat.reduceEqDiff, ↓reduceIte, true_and, and_true, List.cons_append, List.nil_append, Int32.reduceLT, Int32.reduceLE, Int32.reduceAdd, Int32.reduceToNatClampNeg, Int32.reduceOfNat, true_imp_iff, false_imp_iff, not_true_eq_false, not_false_eq_true, or_true, true_or, or_false, false_or, and_self, Bool.or_true, Bool.or_false, Bool.true_or, Bool.false_or, implies_true, forall_const, Bool.false_eq_true, Int32.neg_neg, nw_r, d1_r, e1_r, r1_r, gv2_r, rv_r, up_zd, up_ze, up_zr, up_cd, up_ce, hz1, hz2, hz3]
      rw [rw_19]
      exact h
    exact ax_MM_of (by decide) (Nat.le_of_ble_eq_true rfl) (by simp) hW
  · have hW : ax_WP g (ax_hy 37) K 41 42 0 [some (.ref 40)] [] (41, D, E, R) := by
      have hz1 := fun j hj => (zr_at hz j hj).1
      have hz2 := fun j hj => (zr_at hz j hj).2.1
      have hz3 := fun j hj => (zr_at hz j hj).2.2
      refine ax_WPo (l := []) ax_on ax_ok37 (fun _ => false) 400 0 rfl ?_
      simp +decide only [↓ax_B, ax_B, ax_kds, ax_gvs, ax_mcs, ax_ia_S, ax_up_ap, ax_vinL, and_self_left, ax_up_up, ax_up_sw, Nat.reduceAdd, Nat.reduceBEq, Nat.reduceLeDiff, Nat.reduceLT, Nat.reduceEqDiff, ↓reduceIte, true_and, and_true, List.cons_append, List.nil_append, Int32.reduceLT, Int32.reduceLE, Int32.reduceAdd, Int32.reduceToNatClampNeg, Int32.reduceOfNat, true_imp_iff, false_imp_iff, not_true_eq_false, not_false_eq_true, or_true, true_or, or_false, false_or, and_self, Bool.or_true, Bool.or_false, Bool.true_or, Bool.false_or, implies_true, forall_const, Bool.false_eq_true, Int32.neg_neg, nw_r, d1_r, e1_r, r1_r, gv2_r, rv_r, up_zd, up_ze, up_zr, up_cd, up_ce, hz1, hz2, hz3]
      rw [rw_40]
      exact h
    exact ax_MM_of (by decide) (Nat.le_of_ble_eq_true rfl) (by simp) hW
/-- AskewLetters$Page -/
def cy_48 : ax_P1 := fun as z K => ∃ (k : Nat) (D : ax_Dn) (E : ax_En) (R : ax_Rn), as = [.ref k] ∧ z = (k + 1, D, E, R) ∧ (k = 12 ∨ k = 33) ∧ zr_ k D E R ∧ K none (k + 7, D, E, ax_up R k (ax_R0 k))
theorem ry_48 (n k : Nat) (D : ax_Dn) (E : ax_En) (R : ax_Rn) (K : ax_Po) : cy_48 [.ref k] (n, D, E, R) K = (n = k + 1 ∧ (k = 12 ∨ k = 33) ∧ zr_ k D E R ∧ K none (k + 7, D, E, ax_up R k (ax_R0 k))) := propext ⟨fun ⟨k', D', E', R', h1, h2, h3⟩ => by
  cases h1; cases h2; exact ⟨rfl, h3⟩, fun ⟨h1, h3⟩ => ⟨k, D, E, R, rfl, by rw [h1], h3⟩⟩
set_option maxRecDepth 10000 in
theorem sy_48 {g : ax_G} : ∀ as z K, cy_48 as z K → ax_MM g 48 as z K := by
  rintro _ _ K ⟨k, D, E, R, rfl, rfl, hk, hz, h⟩
  rcases hk with rfl | rfl
  · have hW : ax_WP g (ax_hy 48) K 13 19 0 [some (.ref 12)] [] (13, D, E, R) := by
      have hz1 := fun j hj => (zr_at hz j hj).1
      have hz2 := fun j hj => (zr_at hz j hj).2.1
      have hz3 := fun j hj => (zr_at hz j hj).2.2
      refine ax_WPo (l := []) ax_on ax_ok48 (fun _ => false) 400 0 rfl ?_
      simp +decide only [↓ax_B, ax_B, ax_kds, ax_gvs, ax_mcs, ax_ia_S, ax_up_ap, ax_vinL, and_self_left, ax_up_up, ax_up_sw, Nat.reduceAdd, Nat.reduceBEq, Nat.reduceLeDiff, Nat.reduceLT, Nat.reduceEqDiff, ↓reduceIte, true_and, and_true, List.cons_append, List.nil_append, Int32.reduceLT, Int32.reduceLE, Int32.reduceAdd, Int32.reduceToNatClampNeg, Int32.reduceOfNat, true_imp_iff, false_imp_iff, not_true_eq_false, not_false_eq_true, or_true, true_or, or_false, false_or, and_self, Bool.or_true, Bool.or_false, Bool.true_or, Bool.false_or, implies_true, forall_const, Bool.false_eq_true, Int32.neg_neg, nw_r, d1_r, e1_r, r1_r, gv2_r, rv_r, up_zd, up_ze, up_zr, up_cd, up_ce, hz1, hz2, hz3]
      rw [rw_12]
      exact h
    exact ax_MM_of (by decide) (Nat.le_of_ble_eq_true rfl) (by simp) hW
  · have hW : ax_WP g (ax_hy 48) K 34 40 0 [some (.ref 33)] [] (34, D, E, R) := by
      have hz1 := fun j hj => (zr_at hz j hj).1
      have hz2 := fun j hj => (zr_at hz j hj).2.1
      have hz3 := fun j hj => (zr_at hz j hj).2.2
      refine ax_WPo (l := []) ax_on ax_ok48 (fun _ => false) 400 0 rfl ?_
      simp +decide only [↓ax_B, ax_B, ax_kds, ax_gvs, ax_mcs, ax_ia_S, ax_up_ap, ax_vinL, and_self_left, ax_up_up, ax_up_sw, Nat.reduceAdd, Nat.reduceBEq, Nat.reduceLeDiff, Nat.reduceLT, Nat.reduceEqDiff, ↓reduceIte, true_and, and_true, List.cons_append, List.nil_append, Int32.reduceLT, Int32.reduceLE, Int32.reduceAdd, Int32.reduceToNatClampNeg, Int32.reduceOfNat, true_imp_iff, false_imp_iff, not_true_eq_false, not_false_eq_true, or_true, true_or, or_false, false_or, and_self, Bool.or_true, Bool.or_false, Bool.true_or, Bool.false_or, implies_true, forall_const, Bool.false_eq_true, Int32.neg_neg, nw_r, d1_r, e1_r, r1_r, gv2_r, rv_r, up_zd, up_ze, up_zr, up_cd, up_ce, hz1, hz2, hz3]
      rw [rw_33]
      exact h
    exact ax_MM_of (by decide) (Nat.le_of_ble_eq_true rfl) (by simp) hW
/-- AskewLetters$Shop -/
def cy_59 : ax_P1 := fun as z K => ∃ (k : Nat) (D : ax_Dn) (E : ax_En) (R : ax_Rn), as = [.ref k] ∧ z = (k + 1, D, E, R) ∧ (k = 2 ∨ k = 23) ∧ zr_ k D E R ∧ K none (k + 10, ax_up D (k + 4) r4_, E, ax_up R k (ax_R0 k))
theorem ry_59 (n k : Nat) (D : ax_Dn) (E : ax_En) (R : ax_Rn) (K : ax_Po) : cy_59 [.ref k] (n, D, E, R) K = (n = k + 1 ∧ (k = 2 ∨ k = 23) ∧ zr_ k D E R ∧ K none (k + 10, ax_up D (k + 4) r4_, E, ax_up R k (ax_R0 k))) := propext ⟨fun ⟨k', D', E', R', h1, h2, h3⟩ => by
  cases h1; cases h2; exact ⟨rfl, h3⟩, fun ⟨h1, h3⟩ => ⟨k, D, E, R, rfl, by rw [h1], h3⟩⟩
set_option maxRecDepth 10000 in
theorem sy_59 {g : ax_G} : ∀ as z K, cy_59 as z K → ax_MM g 59 as z K := by
  rintro _ _ K ⟨k, D, E, R, rfl, rfl, hk, hz, h⟩
  rcases hk with rfl | rfl
  · have hW : ax_WP g (ax_hy 59) K 3 12 0 [some (.ref 2)] [] (3, D, E, R) := by
      have hz1 := fun j hj => (zr_at hz j hj).1
      have hz2 := fun j hj => (zr_at hz j hj).2.1
      have hz3 := fun j hj => (zr_at hz j hj).2.2
      refine ax_WPo (l := []) ax_on ax_ok59 (fun _ => false) 400 0 rfl ?_
      simp +decide only [↓ax_B, ax_B, ax_kds, ax_gvs, ax_mcs, ax_ia_S, ax_up_ap, ax_vinL, and_self_left, ax_up_up, ax_up_sw, Nat.reduceAdd, Nat.reduceBEq, Nat.reduceLeDiff, Nat.reduceLT, Nat.reduceEqDiff, ↓reduceIte, true_and, and_true, List.cons_append, List.nil_append, Int32.reduceLT, Int32.reduceLE, Int32.reduceAdd, Int32.reduceToNatClampNeg, Int32.reduceOfNat, true_imp_iff, false_imp_iff, not_true_eq_false, not_false_eq_true, or_true, true_or, or_false, false_or, and_self, Bool.or_true, Bool.or_false, Bool.true_or, Bool.false_or, implies_true, forall_const, Bool.false_eq_true, Int32.neg_neg, nw_r, d1_r, e1_r, r1_r, gv2_r, rv_r, up_zd, up_ze, up_zr, up_cd, up_ce, hz1, hz2, hz3]
      rw [rw_2, r4_e]
      exact h
    exact ax_MM_of (by decide) (Nat.le_of_ble_eq_true rfl) (by simp) hW
  · have hW : ax_WP g (ax_hy 59) K 24 33 0 [some (.ref 23)] [] (24, D, E, R) := by
      have hz1 := fun j hj => (zr_at hz j hj).1
      have hz2 := fun j hj => (zr_at hz j hj).2.1
      have hz3 := fun j hj => (zr_at hz j hj).2.2
      refine ax_WPo (l := []) ax_on ax_ok59 (fun _ => false) 400 0 rfl ?_
      simp +decide only [↓ax_B, ax_B, ax_kds, ax_gvs, ax_mcs, ax_ia_S, ax_up_ap, ax_vinL, and_self_left, ax_up_up, ax_up_sw, Nat.reduceAdd, Nat.reduceBEq, Nat.reduceLeDiff, Nat.reduceLT, Nat.reduceEqDiff, ↓reduceIte, true_and, and_true, List.cons_append, List.nil_append, Int32.reduceLT, Int32.reduceLE, Int32.reduceAdd, Int32.reduceToNatClampNeg, Int32.reduceOfNat, true_imp_iff, false_imp_iff, not_true_eq_false, not_false_eq_true, or_true, true_or, or_false, false_or, and_self, Bool.or_true, Bool.or_false, Bool.true_or, Bool.false_or, implies_true, forall_const, Bool.false_eq_true, Int32.neg_neg, nw_r, d1_r, e1_r, r1_r, gv2_r, rv_r, up_zd, up_ze, up_zr, up_cd, up_ce, hz1, hz2, hz3]
      rw [rw_23, r4_e]
      exact h
    exact ax_MM_of (by decide) (Nat.le_of_ble_eq_true rfl) (by simp) hW
/-- AskewLetters$Days -/
def cy_17 : ax_P1 := fun as z K => ∃ (k : Nat) (D : ax_Dn) (E : ax_En) (R : ax_Rn), as = [.ref k] ∧ z = (k + 1, D, E, R) ∧ (k = 54) ∧ zr_ k D E R ∧ K none (k + 2, D, E, ax_up R k (ax_R0 k))
theorem ry_17 (n k : Nat) (D : ax_Dn) (E : ax_En) (R : ax_Rn) (K : ax_Po) : cy_17 [.ref k] (n, D, E, R) K = (n = k + 1 ∧ (k = 54) ∧ zr_ k D E R ∧ K none (k + 2, D, E, ax_up R k (ax_R0 k))) := propext ⟨fun ⟨k', D', E', R', h1, h2, h3⟩ => by
  cases h1; cases h2; exact ⟨rfl, h3⟩, fun ⟨h1, h3⟩ => ⟨k, D, E, R, rfl, by rw [h1], h3⟩⟩
set_option maxRecDepth 10000 in
theorem sy_17 {g : ax_G} : ∀ as z K, cy_17 as z K → ax_MM g 17 as z K := by
  rintro _ _ K ⟨k, D, E, R, rfl, rfl, hk, hz, h⟩
  obtain rfl := hk
  have hW : ax_WP g (ax_hy 17) K 55 56 0 [some (.ref 54)] [] (55, D, E, R) := by
    have hz1 := fun j hj => (zr_at hz j hj).1
    have hz2 := fun j hj => (zr_at hz j hj).2.1
    have hz3 := fun j hj => (zr_at hz j hj).2.2
    refine ax_WPo (l := []) ax_on ax_ok17 (fun _ => false) 400 0 rfl ?_
    simp +decide only [↓ax_B, ax_B, ax_kds, ax_gvs, ax_mcs, ax_ia_S, ax_up_ap, ax_vinL, and_self_left, ax_up_up, ax_up_sw, Nat.reduceAdd, Nat.reduceBEq, Nat.reduceLeDiff, Nat.reduceLT, Nat.reduceEqDiff, ↓reduceIte, true_and, and_true, List.cons_append, List.nil_append, Int32.reduceLT, Int32.reduceLE, Int32.reduceAdd, Int32.reduceToNatClampNeg, Int32.reduceOfNat, true_imp_iff, false_imp_iff, not_true_eq_false, not_false_eq_true, or_true, true_or, or_false, false_or, and_self, Bool.or_true, Bool.or_false, Bool.true_or, Bool.false_or, implies_true, forall_const, Bool.false_eq_true, Int32.neg_neg, nw_r, d1_r, e1_r, r1_r, gv2_r, rv_r, up_zd, up_ze, up_zr, up_cd, up_ce, hz1, hz2, hz3]
    rw [rw_54]
    exact h
  exact ax_MM_of (by decide) (Nat.le_of_ble_eq_true rfl) (by simp) hW
/-- AskewLetters$Odds -/
def cy_43 : ax_P1 := fun as z K => ∃ (k : Nat) (D : ax_Dn) (E : ax_En) (R : ax_Rn), as = [.ref k] ∧ z = (k + 1, D, E, R) ∧ (k = 52) ∧ zr_ k D E R ∧ K none (k + 2, D, E, ax_up R k (ax_R0 k))
theorem ry_43 (n k : Nat) (D : ax_Dn) (E : ax_En) (R : ax_Rn) (K : ax_Po) : cy_43 [.ref k] (n, D, E, R) K = (n = k + 1 ∧ (k = 52) ∧ zr_ k D E R ∧ K none (k + 2, D, E, ax_up R k (ax_R0 k))) := propext ⟨fun ⟨k', D', E', R', h1, h2, h3⟩ => by
  cases h1; cases h2; exact ⟨rfl, h3⟩, fun ⟨h1, h3⟩ => ⟨k, D, E, R, rfl, by rw [h1], h3⟩⟩
set_option maxRecDepth 10000 in
theorem sy_43 {g : ax_G} : ∀ as z K, cy_43 as z K → ax_MM g 43 as z K := by
  rintro _ _ K ⟨k, D, E, R, rfl, rfl, hk, hz, h⟩
  obtain rfl := hk
  have hW : ax_WP g (ax_hy 43) K 53 54 0 [some (.ref 52)] [] (53, D, E, R) := by
    have hz1 := fun j hj => (zr_at hz j hj).1
    have hz2 := fun j hj => (zr_at hz j hj).2.1
    have hz3 := fun j hj => (zr_at hz j hj).2.2
    refine ax_WPo (l := []) ax_on ax_ok43 (fun _ => false) 400 0 rfl ?_
    simp +decide only [↓ax_B, ax_B, ax_kds, ax_gvs, ax_mcs, ax_ia_S, ax_up_ap, ax_vinL, and_self_left, ax_up_up, ax_up_sw, Nat.reduceAdd, Nat.reduceBEq, Nat.reduceLeDiff, Nat.reduceLT, Nat.reduceEqDiff, ↓reduceIte, true_and, and_true, List.cons_append, List.nil_append, Int32.reduceLT, Int32.reduceLE, Int32.reduceAdd, Int32.reduceToNatClampNeg, Int32.reduceOfNat, true_imp_iff, false_imp_iff, not_true_eq_false, not_false_eq_true, or_true, true_or, or_false, false_or, and_self, Bool.or_true, Bool.or_false, Bool.true_or, Bool.false_or, implies_true, forall_const, Bool.false_eq_true, Int32.neg_neg, nw_r, d1_r, e1_r, r1_r, gv2_r, rv_r, up_zd, up_ze, up_zr, up_cd, up_ce, hz1, hz2, hz3]
    rw [rw_52]
    exact h
  exact ax_MM_of (by decide) (Nat.le_of_ble_eq_true rfl) (by simp) hW
/-- AskewLetters$Sittings -/
def cy_67 : ax_P1 := fun as z K => ∃ (k : Nat) (D : ax_Dn) (E : ax_En) (R : ax_Rn), as = [.ref k] ∧ z = (k + 1, D, E, R) ∧ (k = 56) ∧ zr_ k D E R ∧ K none (k + 2, D, E, ax_up R k (ax_R0 k))
theorem ry_67 (n k : Nat) (D : ax_Dn) (E : ax_En) (R : ax_Rn) (K : ax_Po) : cy_67 [.ref k] (n, D, E, R) K = (n = k + 1 ∧ (k = 56) ∧ zr_ k D E R ∧ K none (k + 2, D, E, ax_up R k (ax_R0 k))) := propext ⟨fun ⟨k', D', E', R', h1, h2, h3⟩ => by
  cases h1; cases h2; exact ⟨rfl, h3⟩, fun ⟨h1, h3⟩ => ⟨k, D, E, R, rfl, by rw [h1], h3⟩⟩
set_option maxRecDepth 10000 in
theorem sy_67 {g : ax_G} : ∀ as z K, cy_67 as z K → ax_MM g 67 as z K := by
  rintro _ _ K ⟨k, D, E, R, rfl, rfl, hk, hz, h⟩
  obtain rfl := hk
  have hW : ax_WP g (ax_hy 67) K 57 58 0 [some (.ref 56)] [] (57, D, E, R) := by
    have hz1 := fun j hj => (zr_at hz j hj).1
    have hz2 := fun j hj => (zr_at hz j hj).2.1
    have hz3 := fun j hj => (zr_at hz j hj).2.2
    refine ax_WPo (l := []) ax_on ax_ok67 (fun _ => false) 400 0 rfl ?_
    simp +decide only [↓ax_B, ax_B, ax_kds, ax_gvs, ax_mcs, ax_ia_S, ax_up_ap, ax_vinL, and_self_left, ax_up_up, ax_up_sw, Nat.reduceAdd, Nat.reduceBEq, Nat.reduceLeDiff, Nat.reduceLT, Nat.reduceEqDiff, ↓reduceIte, true_and, and_true, List.cons_append, List.nil_append, Int32.reduceLT, Int32.reduceLE, Int32.reduceAdd, Int32.reduceToNatClampNeg, Int32.reduceOfNat, true_imp_iff, false_imp_iff, not_true_eq_false, not_false_eq_true, or_true, true_or, or_false, false_or, and_self, Bool.or_true, Bool.or_false, Bool.true_or, Bool.false_or, implies_true, forall_const, Bool.false_eq_true, Int32.neg_neg, nw_r, d1_r, e1_r, r1_r, gv2_r, rv_r, up_zd, up_ze, up_zr, up_cd, up_ce, hz1, hz2, hz3]
    rw [rw_56]
    exact h
  exact ax_MM_of (by decide) (Nat.le_of_ble_eq_true rfl) (by simp) hW
/-- AskewLetters$Book -/
def cy_0 : ax_P1 := fun as z K => ∃ (k : Nat) (D : ax_Dn) (E : ax_En) (R : ax_Rn), as = [.ref k] ∧ z = (k + 1, D, E, R) ∧ (k = 43) ∧ zr_ k D E R ∧ K none (k + 7, D, E, ax_up R k (ax_R0 k))
theorem ry_0 (n k : Nat) (D : ax_Dn) (E : ax_En) (R : ax_Rn) (K : ax_Po) : cy_0 [.ref k] (n, D, E, R) K = (n = k + 1 ∧ (k = 43) ∧ zr_ k D E R ∧ K none (k + 7, D, E, ax_up R k (ax_R0 k))) := propext ⟨fun ⟨k', D', E', R', h1, h2, h3⟩ => by
  cases h1; cases h2; exact ⟨rfl, h3⟩, fun ⟨h1, h3⟩ => ⟨k, D, E, R, rfl, by rw [h1], h3⟩⟩
set_option maxRecDepth 10000 in
theorem sy_0 {g : ax_G} : ∀ as z K, cy_0 as z K → ax_MM g 0 as z K := by
  rintro _ _ K ⟨k, D, E, R, rfl, rfl, hk, hz, h⟩
  obtain rfl := hk
  have hW : ax_WP g (ax_hy 0) K 44 50 0 [some (.ref 43)] [] (44, D, E, R) := by
    have hz1 := fun j hj => (zr_at hz j hj).1
    have hz2 := fun j hj => (zr_at hz j hj).2.1
    have hz3 := fun j hj => (zr_at hz j hj).2.2
    refine ax_WPo (l := []) ax_on ax_ok0 (fun _ => false) 400 0 rfl ?_
    simp +decide only [↓ax_B, ax_B, ax_kds, ax_gvs, ax_mcs, ax_ia_S, ax_up_ap, ax_vinL, and_self_left, ax_up_up, ax_up_sw, Nat.reduceAdd, Nat.reduceBEq, Nat.reduceLeDiff, Nat.reduceLT, Nat.reduceEqDiff, ↓reduceIte, true_and, and_true, List.cons_append, List.nil_append, Int32.reduceLT, Int32.reduceLE, Int32.reduceAdd, Int32.reduceToNatClampNeg, Int32.reduceOfNat, true_imp_iff, false_imp_iff, not_true_eq_false, not_false_eq_true, or_true, true_or, or_false, false_or, and_self, Bool.or_true, Bool.or_false, Bool.true_or, Bool.false_or, implies_true, forall_const, Bool.false_eq_true, Int32.neg_neg, nw_r, d1_r, e1_r, r1_r, gv2_r, rv_r, up_zd, up_ze, up_zr, up_cd, up_ce, hz1, hz2, hz3]
    rw [rw_43]
    exact h
  exact ax_MM_of (by decide) (Nat.le_of_ble_eq_true rfl) (by simp) hW
