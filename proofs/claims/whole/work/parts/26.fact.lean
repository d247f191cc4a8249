/-! Factors, products, likes. -/
def rg_ (x : Int32) (lo hi : Int) : Prop := lo ≤ x.toInt ∧ x.toInt ≤ hi
def dr_ (cl rt : Nat → Int32) (m s d : Int32) : Int32 := (d - d / 7 * 7 + 7 - cl m.toNatClampNeg - (d - d / 7 * 7 + 7 - cl m.toNatClampNeg) / 7 * 7) * rt s.toNatClampNeg / 4
def ab_ (t : Int32) : Int32 := if 0 ≤ t then t else 0 - t
def mx_ (x : Int32) : Int32 := if 1 < x then x else 1
def st_ (sl a b : Int32) : Int32 := mx_ (sl + 1 - ab_ (a - b))
def ni_ (a b : Int32) : Int32 := if a = b then 4 else if a &&& (b ^^^ -1) = 0 then 2 else 1
def fa_ (sl : Int32) (sg ln nk dt mk : Nat → Int32) (lf nf df : Int32 → Int32 → Int32 → Int32) (i : Nat) (m d k : Int32) : Int32 :=
  if k = 1 then st_ sl (ln i) (lf m (sg i) d) else if k = 2 then ni_ (nk i) (nf m (sg i) d) else if k = 3 then mx_ (3 - ab_ (dt i - df m (sg i) d) / 2) else if k = 4 then (if lf m (sg i) d = mk (sg i).toNatClampNeg then 1 else st_ sl (ln i) (lf m (sg i) d)) else 1
theorem mx_toInt (x : Int32) : (mx_ x).toInt = max 1 x.toInt := by
  unfold mx_
  by_cases h : 1 < x
  · rw [if_pos h]
    have h : (1 : Int) < x.toInt := na_lt.mp h
    omega
  · rw [if_neg h]
    have h : ¬ (1 : Int) < x.toInt := fun q => h (na_lt.mpr q)
    show (1 : Int) = _
    omega
theorem ab_toInt {t : Int32} (h : -2147483648 < t.toInt) : (ab_ t).toInt = t.toInt.natAbs := by
  unfold ab_
  by_cases h0 : 0 ≤ t
  · rw [if_pos h0]
    have h0 : (0 : Int) ≤ t.toInt := na_le.mp h0
    omega
  · rw [if_neg h0]
    have h0 : ¬ (0 : Int) ≤ t.toInt := fun q => h0 (na_le.mpr q)
    have hh := na_hi t
    rw [na_sub (by show _ ≤ (0 : Int) - _; omega) (by show (0 : Int) - _ < _; omega)]
    show (0 : Int) - _ = _
    omega
/-- the remainder of a division by 7, and what comes of it, is small -/
theorem rem7_ (t : Int32) : -6 ≤ (t - t / 7 * 7).toInt ∧ (t - t / 7 * 7).toInt ≤ 6 := by
  have h1 := na_lo t
  have h2 := na_hi t
  have e7 : (7 : Int32).toInt = 7 := rfl
  have hd : (t / 7).toInt = t.toInt.tdiv 7 := Int32.toInt_div_of_ne_right t 7 (by decide)
  have hm : t.toInt.tdiv 7 * 7 + t.toInt.tmod 7 = t.toInt := by have := Int.tdiv_mul_add_tmod t.toInt 7; omega
  have hb1 : t.toInt.tmod 7 < 7 := Int.tmod_lt_of_pos _ (by decide)
  have hb2 : -7 < t.toInt.tmod 7 := by
    rcases Int.le_total 0 t.toInt with q | q
    · have := Int.tmod_nonneg 7 q; omega
    · have e : t.toInt.tmod 7 = -((-t.toInt).tmod 7) := by rw [Int.neg_tmod, Int.neg_neg]
      have := Int.tmod_lt_of_pos (-t.toInt) (show (0 : Int) < 7 by decide)
      omega
  have hs : t.toInt ≤ 0 → t.toInt.tmod 7 ≤ 0 := by
    intro q
    have e : t.toInt.tmod 7 = -((-t.toInt).tmod 7) := by rw [Int.neg_tmod, Int.neg_neg]
    have := Int.tmod_nonneg 7 (show (0 : Int) ≤ -t.toInt by omega)
    omega
  have hs2 : 0 ≤ t.toInt → 0 ≤ t.toInt.tmod 7 := fun q => Int.tmod_nonneg 7 q
  have hmul : (t / 7 * 7).toInt = t.toInt.tdiv 7 * 7 := by
    rw [na_mul (by rw [hd, e7]; omega) (by rw [hd, e7]; omega), hd, e7]
  rw [na_sub (by rw [hmul]; omega) (by rw [hmul]; omega), hmul]
  omega
theorem dr_rg {cl rt : Nat → Int32} {m s d : Int32} (h : ax_cnt (rt s.toNatClampNeg) 9) : rg_ (dr_ cl rt m s d) (-54) 54 := by
  unfold dr_
  obtain ⟨a1, a2⟩ := rem7_ (d - d / 7 * 7 + 7 - cl m.toNatClampNeg)
  generalize d - d / 7 * 7 + 7 - cl m.toNatClampNeg - (d - d / 7 * 7 + 7 - cl m.toNatClampNeg) / 7 * 7 = u at a1 a2 ⊢
  generalize rt s.toNatClampNeg = r at h ⊢
  obtain ⟨h1, h2⟩ := h
  have hp : -54 ≤ u.toInt * r.toInt ∧ u.toInt * r.toInt ≤ 54 := by
    have q1 : u.toInt * r.toInt ≤ 6 * r.toInt := Int.mul_le_mul_of_nonneg_right a2 h1
    have q2 : -6 * r.toInt ≤ u.toInt * r.toInt := Int.mul_le_mul_of_nonneg_right a1 h1
    omega
  have e : (u * r).toInt = u.toInt * r.toInt := na_mul (by omega) (by omega)
  have hd : (u * r / 4).toInt = (u * r).toInt.tdiv 4 := Int32.toInt_div_of_ne_right _ 4 (by decide)
  unfold rg_
  rw [hd, e]
  generalize u.toInt * r.toInt = w at hp ⊢
  have hm := Int.tdiv_mul_add_tmod w 4
  have hb1 : w.tmod 4 < 4 := Int.tmod_lt_of_pos _ (by decide)
  have hb2 : -4 < w.tmod 4 := by
    rcases Int.le_total 0 w with q | q
    · have := Int.tmod_nonneg 4 q; omega
    · have e : w.tmod 4 = -((-w).tmod 4) := by rw [Int.neg_tmod, Int.neg_neg]
      have := Int.tmod_lt_of_pos (-w) (show (0 : Int) < 4 by decide)
      omega
  omega
theorem ap1_ {a b : Int32} (ha : rg_ a (-100) 100) (hb : rg_ b (-100) 100) (h : a ≤ b) : b - a = ab_ (a - b) := by
  obtain ⟨a1, a2⟩ := ha
  obtain ⟨b1, b2⟩ := hb
  have h := na_le.mp h
  have e1 : (a - b).toInt = a.toInt - b.toInt := na_sub (by omega) (by omega)
  apply na_eq.mpr
  rw [ab_toInt (by omega), na_sub (by omega) (by omega), e1]
  omega
theorem ap2_ {a b : Int32} (ha : rg_ a (-100) 100) (hb : rg_ b (-100) 100) (h : ¬ a ≤ b) : a - b = ab_ (a - b) := by
  obtain ⟨a1, a2⟩ := ha
  obtain ⟨b1, b2⟩ := hb
  have h : ¬ a.toInt ≤ b.toInt := fun q => h (na_le.mpr q)
  have e1 : (a - b).toInt = a.toInt - b.toInt := na_sub (by omega) (by omega)
  apply na_eq.mpr
  rw [ab_toInt (by omega), e1]
  omega
theorem al1_ {v : Int32} (h : 1 ≤ v) : v = mx_ v := by
  apply na_eq.mpr
  rw [mx_toInt]
  have h : (1 : Int) ≤ v.toInt := na_le.mp h
  omega
theorem al2_ {v : Int32} (h : ¬ 1 ≤ v) : 1 = mx_ v := by
  apply na_eq.mpr
  rw [mx_toInt]
  have h : ¬ (1 : Int) ≤ v.toInt := fun q => h (na_le.mpr q)
  show (1 : Int) = _
  omega
theorem hd9_rg (x : Int32) : rg_ (hd9 x) (-9) 9 := by
  unfold rg_
  rw [hd9_toInt]
  omega
theorem rg_mono {x : Int32} {a b c d : Int} (h : rg_ x a b) (h1 : c ≤ a) (h2 : b ≤ d) : rg_ x c d := ⟨Int.le_trans h1 h.1, Int.le_trans h.2 h2⟩
/-- AskewLetters$Desk.factorOf(IIII)I -/
def cy_25 : ax_P1 := fun as z K => ∃ (p1 : Int32) (p2 : Int32) (p3 : Int32) (p4 : Int32) (D : ax_Dn) (E : ax_En), as = [.ref 1, .int p1, .int p2, .int p3, .int p4] ∧ z = ax_S D E ∧ (ax_cnt (D 2 5) 20 ∧ vp_in p1 30 ∧ vp_in (D 13 p1.toNatClampNeg) 10 ∧ vp_in p2 6 ∧ K (some (.int (fa_ (D 21 0) (D 13) (D 14) (D 15) (D 16) (D 5) (lC_ (D 5) (D 7) (D 8) (D 9) (D 10) (D 11) (D 2 5).toNatClampNeg) (nC_ (D 7) (D 8) (D 9) (D 10) (D 11) (D 2 5).toNatClampNeg) (dr_ (D 4) (D 6)) p1.toNatClampNeg p2 p3 p4))) (ax_S D E))
theorem ry_25 (p1 : Int32) (p2 : Int32) (p3 : Int32) (p4 : Int32) (D : ax_Dn) (E : ax_En) (K : ax_Po) : cy_25 [.ref 1, .int p1, .int p2, .int p3, .int p4] (ax_S D E) K = (ax_cnt (D 2 5) 20 ∧ vp_in p1 30 ∧ vp_in (D 13 p1.toNatClampNeg) 10 ∧ vp_in p2 6 ∧ K (some (.int (fa_ (D 21 0) (D 13) (D 14) (D 15) (D 16) (D 5) (lC_ (D 5) (D 7) (D 8) (D 9) (D 10) (D 11) (D 2 5).toNatClampNeg) (nC_ (D 7) (D 8) (D 9) (D 10) (D 11) (D 2 5).toNatClampNeg) (dr_ (D 4) (D 6)) p1.toNatClampNeg p2 p3 p4))) (ax_S D E)) := propext ⟨fun ⟨p1', p2', p3', p4', D', E', h1, h2, h3⟩ => by cases h1; obtain ⟨rfl, rfl⟩ := ax_S_inj h2; exact h3, fun h => ⟨p1, p2, p3, p4, D, E, rfl, rfl, h⟩⟩
theorem sy_25 {g : ax_G} : ∀ as z K, cy_25 as z K → ax_MM g 25 as z K := by
  rintro _ _ K ⟨p1, p2, p3, p4, D, E, rfl, rfl, h⟩
  refine ax_go25 _ _ _ _ _ ?_
  obtain ⟨h1, h2, h3, h4, h⟩ := h
  unfold fa_ at h
  refine ax_WPo (l := [(26, cy_26), (27, cy_27), (64, cy_64), (65, cy_65), (66, cy_66)]) (ax_oc sy_26 (ax_oc sy_27 (ax_oc sy_64 (ax_oc sy_65 (ax_oc sy_66 ax_on))))) ax_ok25 (fun _ => false) 400 0 rfl ?_
  simp +decide only [↓ax_B, ax_B, ax_kds, ax_gvs, ax_mcs, ax_ia_S, ax_up_ap, ax_vinL, and_self_left, ax_up_up, ax_up_sw, Nat.reduceAdd, Nat.reduceBEq, Nat.reduceLeDiff, Nat.reduceLT, Nat.reduceEqDiff, ↓reduceIte, true_and, and_true, List.cons_append, List.nil_append, Int32.reduceLT, Int32.reduceLE, Int32.reduceAdd, Int32.reduceToNatClampNeg, Int32.reduceOfNat, true_imp_iff, false_imp_iff, not_true_eq_false, not_false_eq_true, or_true, true_or, or_false, false_or, and_self, Bool.or_true, Bool.or_false, Bool.true_or, Bool.false_or, implies_true, forall_const, Bool.false_eq_true, Int32.neg_neg, ax_X25, ry_26, ry_27, ry_64, ry_65, ry_66, h1, h2, h3, h4]
  refine ⟨fun c => ?_, fun c => ⟨fun c2 => ?_, fun c2 => ⟨fun c3 => ?_, fun c3 => ⟨fun c4 => ?_, fun c4 => ?_⟩⟩⟩⟩
  · rw [if_pos c] at h
    exact h
  · rw [if_neg c, if_pos c2] at h
    unfold ni_ at h
    refine ⟨fun q => ⟨fun q2 => ?_, fun q2 => ?_⟩, fun q => ?_⟩
    · rw [if_neg q] at h
      exact (if_neg q2 ▸ h : _)
    · rw [if_neg q] at h
      exact (if_pos q2 ▸ h : _)
    · rw [if_pos q] at h
      exact h
  · rw [if_neg c, if_neg c2, if_pos c3] at h
    exact h
  · rw [if_neg c, if_neg c2, if_neg c3, if_pos c4] at h
    refine ⟨fun q => ?_, fun q => ?_⟩
    · split at h
      · rename_i hh; exact absurd hh q
      · exact h
    · split at h
      · exact h
      · rename_i hh; exact absurd q hh
  · rw [if_neg c, if_neg c2, if_neg c3, if_neg c4] at h
    exact h
/-- AskewLettersModel.factorOf(IIII)I -/
def cy_159 : ax_P1 := fun as z K => ∃ (p1 : Int32) (p2 : Int32) (p3 : Int32) (p4 : Int32) (D : ax_Dn) (E : ax_En), as = [.ref 58, .int p1, .int p2, .int p3, .int p4] ∧ z = ax_S D E ∧ (ax_cnt (D 58 23) 20 ∧ vp_in p1 30 ∧ vp_in (D 81 p1.toNatClampNeg) 10 ∧ vp_in p2 6 ∧ rg_ (D 82 p1.toNatClampNeg) (-9) 9 ∧ ax_cnt (D 84 p1.toNatClampNeg) 13 ∧ ax_cnt (D 70 (D 81 p1.toNatClampNeg).toNatClampNeg) 9 ∧ K (some (.int (fa_ (D 76 0) (D 81) (D 82) (D 83) (D 84) (D 69) (lM_ (D 69) (D 71) (D 72) (D 73) (D 74) (D 75) (D 58 23).toNatClampNeg) (nM_ (D 71) (D 72) (D 73) (D 74) (D 75) (D 58 23).toNatClampNeg) (dr_ (D 68) (D 70)) p1.toNatClampNeg p2 p3 p4))) (ax_S D E))
theorem ry_159 (p1 : Int32) (p2 : Int32) (p3 : Int32) (p4 : Int32) (D : ax_Dn) (E : ax_En) (K : ax_Po) : cy_159 [.ref 58, .int p1, .int p2, .int p3, .int p4] (ax_S D E) K = (ax_cnt (D 58 23) 20 ∧ vp_in p1 30 ∧ vp_in (D 81 p1.toNatClampNeg) 10 ∧ vp_in p2 6 ∧ rg_ (D 82 p1.toNatClampNeg) (-9) 9 ∧ ax_cnt (D 84 p1.toNatClampNeg) 13 ∧ ax_cnt (D 70 (D 81 p1.toNatClampNeg).toNatClampNeg) 9 ∧ K (some (.int (fa_ (D 76 0) (D 81) (D 82) (D 83) (D 84) (D 69) (lM_ (D 69) (D 71) (D 72) (D 73) (D 74) (D 75) (D 58 23).toNatClampNeg) (nM_ (D 71) (D 72) (D 73) (D 74) (D 75) (D 58 23).toNatClampNeg) (dr_ (D 68) (D 70)) p1.toNatClampNeg p2 p3 p4))) (ax_S D E)) := propext ⟨fun ⟨p1', p2', p3', p4', D', E', h1, h2, h3⟩ => by cases h1; obtain ⟨rfl, rfl⟩ := ax_S_inj h2; exact h3, fun h => ⟨p1, p2, p3, p4, D, E, rfl, rfl, h⟩⟩
theorem sy_159 {g : ax_G} : ∀ as z K, cy_159 as z K → ax_MM g 159 as z K := by
  rintro _ _ K ⟨p1, p2, p3, p4, D, E, rfl, rfl, h⟩
  refine ax_go159 _ _ _ _ _ ?_
  obtain ⟨h1, h2, h3, h4, h5, h6, h7, h⟩ := h
  unfold fa_ st_ at h
  have r1 := rg_mono h5 (show (-100 : Int) ≤ -9 by decide) (show (9 : Int) ≤ 100 by decide)
  have r2 : ∀ m s d, rg_ (lM_ (D 69) (D 71) (D 72) (D 73) (D 74) (D 75) (D 58 23).toNatClampNeg m s d) (-100) 100 := fun m s d => rg_mono (hd9_rg _) (by decide) (by decide)
  have r3 : rg_ (D 84 p1.toNatClampNeg) (-100) 100 := ⟨by have := h6.1; omega, by have := h6.2; omega⟩
  have r4 := rg_mono (dr_rg (cl := D 68) (m := p2) (d := p3) h7) (show (-100 : Int) ≤ -54 by decide) (show (54 : Int) ≤ 100 by decide)
  unfold dr_ at r4
  refine ax_WPo (l := [(141, cy_141), (142, cy_142), (143, cy_143), (157, cy_157), (158, cy_158)]) (ax_oc sy_141 (ax_oc sy_142 (ax_oc sy_143 (ax_oc sy_157 (ax_oc sy_158 ax_on))))) ax_ok159 (fun _ => false) 400 0 rfl ?_
  simp +decide only [↓ax_B, ax_B, ax_kds, ax_gvs, ax_mcs, ax_ia_S, ax_up_ap, ax_vinL, and_self_left, ax_up_up, ax_up_sw, Nat.reduceAdd, Nat.reduceBEq, Nat.reduceLeDiff, Nat.reduceLT, Nat.reduceEqDiff, ↓reduceIte, true_and, and_true, List.cons_append, List.nil_append, Int32.reduceLT, Int32.reduceLE, Int32.reduceAdd, Int32.reduceToNatClampNeg, Int32.reduceOfNat, true_imp_iff, false_imp_iff, not_true_eq_false, not_false_eq_true, or_true, true_or, or_false, false_or, and_self, Bool.or_true, Bool.or_false, Bool.true_or, Bool.false_or, implies_true, forall_const, Bool.false_eq_true, Int32.neg_neg, ax_X159, ry_141, ry_142, ry_143, ry_157, ry_158, h1, h2, h3, h4]
  refine ⟨fun c => ?_, fun c => ⟨fun c2 => ?_, fun c2 => ⟨fun c3 => ?_, fun c3 => ⟨fun c4 => ?_, fun c4 => ?_⟩⟩⟩⟩
  · rw [if_pos c] at h
    refine ⟨fun q => ⟨fun q2 => ?_, fun q2 => ?_⟩, fun q => ⟨fun q2 => ?_, fun q2 => ?_⟩⟩
    · rw [al1_ q2, ap1_ r1 (r2 _ _ _) q]; exact h
    · rw [ap1_ r1 (r2 _ _ _) q] at q2; rw [al2_ q2]; exact h
    · rw [al1_ q2, ap2_ r1 (r2 _ _ _) q]; exact h
    · rw [ap2_ r1 (r2 _ _ _) q] at q2; rw [al2_ q2]; exact h
  · rw [if_neg c, if_pos c2] at h
    unfold ni_ at h
    refine ⟨fun q => ⟨fun q2 => ?_, fun q2 => ?_⟩, fun q => ?_⟩
    · rw [if_neg q] at h
      exact (if_neg q2 ▸ h : _)
    · rw [if_neg q] at h
      exact (if_pos q2 ▸ h : _)
    · rw [if_pos q] at h
      exact h
  · rw [if_neg c, if_neg c2, if_pos c3] at h
    refine ⟨fun q => ⟨fun q2 => ?_, fun q2 => ?_⟩, fun q => ⟨fun q2 => ?_, fun q2 => ?_⟩⟩
    · rw [al1_ q2, ap1_ r3 r4 q]; exact h
    · rw [ap1_ r3 r4 q] at q2; rw [al2_ q2]; exact h
    · rw [al1_ q2, ap2_ r3 r4 q]; exact h
    · rw [ap2_ r3 r4 q] at q2; rw [al2_ q2]; exact h
  · rw [if_neg c, if_neg c2, if_neg c3, if_pos c4] at h
    refine ⟨fun q => ?_, fun q => ?_⟩
    · split at h
      · rename_i hh; exact absurd hh q
      refine ⟨fun q => ⟨fun q2 => ?_, fun q2 => ?_⟩, fun q => ⟨fun q2 => ?_, fun q2 => ?_⟩⟩
      · rw [al1_ q2, ap1_ r1 (r2 _ _ _) q]; exact h
      · rw [ap1_ r1 (r2 _ _ _) q] at q2; rw [al2_ q2]; exact h
      · rw [al1_ q2, ap2_ r1 (r2 _ _ _) q]; exact h
      · rw [ap2_ r1 (r2 _ _ _) q] at q2; rw [al2_ q2]; exact h
    · split at h
      · exact h
      · rename_i hh; exact absurd q hh
  · rw [if_neg c, if_neg c2, if_neg c3, if_neg c4] at h
    exact h
