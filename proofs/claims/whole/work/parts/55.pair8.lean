/-! Pairs: type, feed. -/
/-- AskewLetters.type(IIIII)I -/
def cy_99 : ax_P1 := fun as z K => ∃ (p1 : Int32) (p2 : Int32) (p3 : Int32) (p4 : Int32) (p5 : Int32) (D : ax_Dn) (E : ax_En), as = [.ref 0, .int p1, .int p2, .int p3, .int p4, .int p5] ∧ z = ax_S D E ∧ ((p1 < 0 → K (some (Value.int (-1))) (ax_S (ax_up D 51 (ax_up (D 51) 1 (D 51 1 + 1))) E)) ∧ (¬p1 < 0 → (D 2 0 ≤ p1 → K (some (Value.int (-1))) (ax_S (ax_up D 51 (ax_up (D 51) 1 (D 51 1 + 1))) E)) ∧ (¬D 2 0 ≤ p1 → (p3 < 0 → K (some (Value.int (-1))) (ax_S (ax_up D 51 (ax_up (D 51) 1 (D 51 1 + 1))) E)) ∧ (¬p3 < 0 → (D 19 0 ≤ p3 → K (some (Value.int (-1))) (ax_S (ax_up D 51 (ax_up (D 51) 1 (D 51 1 + 1))) E)) ∧ (¬D 19 0 ≤ p3 → (p4 < 1 → K (some (Value.int (-4))) (ax_S (ax_up D 51 (ax_up (D 51) 4 (D 51 4 + 1))) E)) ∧ (¬p4 < 1 → (0 ≤ p2 → (365 < p2 → K (some (Value.int (-6))) (ax_S (ax_up D 51 (ax_up (D 51) 6 (D 51 6 + 1))) E)) ∧ (¬365 < p2 → (D 12 0 + nI (dl_ 10 p4).length ≤ 30 → okC D ∧ vp_in p1 6 ∧ vp_in p3 4 ∧ 0 ≤ p4.toInt ∧ (D 12 0).toNatClampNeg + (dl_ 10 p4).length ≤ 30 ∧ K (some (Value.int (List.foldl aC D (tz_ (VC D p1 p2 p3.toNatClampNeg) (dl_ 10 p4) p5) 12 0))) (ax_S (List.foldl aC D (tz_ (VC D p1 p2 p3.toNatClampNeg) (dl_ 10 p4) p5)) E)) ∧ (¬D 12 0 + nI (dl_ 10 p4).length ≤ 30 → K (some (Value.int (-6))) (ax_S (ax_up D 51 (ax_up (D 51) 6 (D 51 6 + 1))) E)))) ∧ (¬0 ≤ p2 → K (some (Value.int (-4))) (ax_S (ax_up D 51 (ax_up (D 51) 4 (D 51 4 + 1))) E))))))))
theorem ry_99 (p1 : Int32) (p2 : Int32) (p3 : Int32) (p4 : Int32) (p5 : Int32) (D : ax_Dn) (E : ax_En) (K : ax_Po) : cy_99 [.ref 0, .int p1, .int p2, .int p3, .int p4, .int p5] (ax_S D E) K = ((p1 < 0 → K (some (Value.int (-1))) (ax_S (ax_up D 51 (ax_up (D 51) 1 (D 51 1 + 1))) E)) ∧ (¬p1 < 0 → (D 2 0 ≤ p1 → K (some (Value.int (-1))) (ax_S (ax_up D 51 (ax_up (D 51) 1 (D 51 1 + 1))) E)) ∧ (¬D 2 0 ≤ p1 → (p3 < 0 → K (some (Value.int (-1))) (ax_S (ax_up D 51 (ax_up (D 51) 1 (D 51 1 + 1))) E)) ∧ (¬p3 < 0 → (D 19 0 ≤ p3 → K (some (Value.int (-1))) (ax_S (ax_up D 51 (ax_up (D 51) 1 (D 51 1 + 1))) E)) ∧ (¬D 19 0 ≤ p3 → (p4 < 1 → K (some (Value.int (-4))) (ax_S (ax_up D 51 (ax_up (D 51) 4 (D 51 4 + 1))) E)) ∧ (¬p4 < 1 → (0 ≤ p2 → (365 < p2 → K (some (Value.int (-6))) (ax_S (ax_up D 51 (ax_up (D 51) 6 (D 51 6 + 1))) E)) ∧ (¬365 < p2 → (D 12 0 + nI (dl_ 10 p4).length ≤ 30 → okC D ∧ vp_in p1 6 ∧ vp_in p3 4 ∧ 0 ≤ p4.toInt ∧ (D 12 0).toNatClampNeg + (dl_ 10 p4).length ≤ 30 ∧ K (some (Value.int (List.foldl aC D (tz_ (VC D p1 p2 p3.toNatClampNeg) (dl_ 10 p4) p5) 12 0))) (ax_S (List.foldl aC D (tz_ (VC D p1 p2 p3.toNatClampNeg) (dl_ 10 p4) p5)) E)) ∧ (¬D 12 0 + nI (dl_ 10 p4).length ≤ 30 → K (some (Value.int (-6))) (ax_S (ax_up D 51 (ax_up (D 51) 6 (D 51 6 + 1))) E)))) ∧ (¬0 ≤ p2 → K (some (Value.int (-4))) (ax_S (ax_up D 51 (ax_up (D 51) 4 (D 51 4 + 1))) E)))))))) := propext ⟨fun ⟨p1', p2', p3', p4', p5', D', E', h1, h2, h3⟩ => by cases h1; obtain ⟨rfl, rfl⟩ := ax_S_inj h2; exact h3, fun h => ⟨p1, p2, p3, p4, p5, D, E, rfl, rfl, h⟩⟩
set_option maxRecDepth 10000 in
theorem sy_99 {g : ax_G} : ∀ as z K, cy_99 as z K → ax_MM g 99 as z K := by
  rintro _ _ K ⟨p1, p2, p3, p4, p5, D, E, rfl, rfl, h⟩
  refine ax_go99 _ _ _ _ _ _ ?_
  refine ax_WPo (l := [(35, cy_35), (110, cy_110), (111, cy_111), (114, cy_114), (121, cy_121)]) (ax_oc sy_35 (ax_oc sy_110 (ax_oc sy_111 (ax_oc sy_114 (ax_oc sy_121 ax_on))))) ax_ok99 (fun _ => false) 400 0 rfl ?_
  simp +decide only [↓ax_B, ax_B, ax_kds, ax_gvs, ax_mcs, ax_ia_S, ax_up_ap, ax_vinL, and_self_left, ax_up_up, ax_up_sw, Nat.reduceAdd, Nat.reduceBEq, Nat.reduceLeDiff, Nat.reduceLT, Nat.reduceEqDiff, ↓reduceIte, true_and, and_true, List.cons_append, List.nil_append, Int32.reduceLT, Int32.reduceLE, Int32.reduceAdd, Int32.reduceToNatClampNeg, Int32.reduceOfNat, true_imp_iff, false_imp_iff, not_true_eq_false, not_false_eq_true, or_true, true_or, or_false, false_or, and_self, Bool.or_true, Bool.or_false, Bool.true_or, Bool.false_or, implies_true, forall_const, Bool.false_eq_true, Int32.neg_neg, ax_X99, ry_35, ry_110, ry_111, ry_114, ry_121]
  exact h
theorem or16_dec : ((List.range 16).all fun a => (List.range 16).all fun b => decide (nI a ||| nI b = nI (a ||| b)) && decide (a ||| b < 16)) = true := by decide +kernel
theorem or16 {x y : Int32} (hx : ax_cnt x 15) (hy : ax_cnt y 15) : ax_cnt (x ||| y) 15 := by
  obtain ⟨a, rfl, ha, -⟩ := ax_cnt_of hx (by decide)
  obtain ⟨b, rfl, hb, -⟩ := ax_cnt_of hy (by decide)
  have h := List.all_eq_true.mp (List.all_eq_true.mp or16_dec a (List.mem_range.mpr (by omega))) b (List.mem_range.mpr (by omega))
  simp only [Bool.and_eq_true, decide_eq_true_eq] at h
  rw [h.1]
  unfold ax_cnt
  rw [na_nI (by omega)]
  omega
theorem sh4_ {v : Int32} (h : ax_cnt v 3) : ax_cnt (1 <<< (v &&& 31)) 15 := by
  obtain ⟨a, rfl, ha, -⟩ := ax_cnt_of h (by decide)
  match a, ha with
  | 0, _ => exact ⟨by decide, by decide⟩
  | 1, _ => exact ⟨by decide, by decide⟩
  | 2, _ => exact ⟨by decide, by decide⟩
  | 3, _ => exact ⟨by decide, by decide⟩
  | n + 4, h => exact absurd h (by omega)
theorem nk_cnt {lt mc sg dy vl : Nat → Int32} {n : Nat} (h : ∀ i, i < n → lt i = 110 → ax_cnt (vl i) 3) (m s d : Int32) : ∀ (j k : Nat) (acc : Int32), k + j = n → ax_cnt acc 15 → ax_cnt (nk_C lt mc sg dy vl m s d j k acc) 15 := by
  intro j
  induction j with
  | zero => intro k acc _ ha; exact ha
  | succ j ih =>
    intro k acc hk ha
    unfold nk_C
    split
    · exact ha
    · refine ih (k + 1) _ (by omega) ?_
      split
      · rename_i c
        split
        · split
          · exact or16 ha (sh4_ (h k (by omega) c))
          · exact ha
        · exact ha
      · exact ha
theorem d7_dec : ((List.range 366).all fun d => decide (nI d - nI d / 7 * 7 = nI (d % 7))) = true := by decide +kernel
theorem d4_dec : ((List.range 7).all fun r => (List.range 7).all fun c => (List.range 10).all fun q => decide (0 ≤ ((nI r + 7 - nI c - (nI r + 7 - nI c) / 7 * 7) * nI q / 4).toInt ∧ ((nI r + 7 - nI c - (nI r + 7 - nI c) / 7 * 7) * nI q / 4).toInt ≤ 13)) = true := by decide +kernel
theorem dr_cnt {cl rt : Nat → Int32} {m s d : Int32} (hc : ax_cnt (cl m.toNatClampNeg) 6) (hr : ax_cnt (rt s.toNatClampNeg) 9) (h0 : 0 ≤ d.toInt) (h1 : d.toInt ≤ 365) : ax_cnt (dr_ cl rt m s d) 13 := by
  obtain ⟨n, rfl, q1, q2⟩ := na_of h0
  obtain ⟨c, e1, c6, -⟩ := ax_cnt_of hc (by decide)
  obtain ⟨q, e2, q9, -⟩ := ax_cnt_of hr (by decide)
  have a1 := of_decide_eq_true (List.all_eq_true.mp d7_dec n (List.mem_range.mpr (by rw [na_nI (by omega)] at h1; omega)))
  have a2 := of_decide_eq_true (List.all_eq_true.mp (List.all_eq_true.mp (List.all_eq_true.mp d4_dec (n % 7) (List.mem_range.mpr (Nat.mod_lt _ (by decide)))) c (List.mem_range.mpr (by omega))) q (List.mem_range.mpr (by omega)))
  unfold dr_
  rw [a1, e1, e2]
  exact a2
theorem ty_all {D : ax_Dn} (hJ : J D) {m d : Int32} (hm : vp_in m 6) (h0 : 0 ≤ d) (h1 : d ≤ 365) (h : Nat) : ∀ (l : List Int32) (z : Int32), (∀ s ∈ l, ax_cnt s 9) → ∀ t ∈ tz_ (VC D m d h) l z, tyR t := by
  have hok := J_okC hJ
  have hcl := hJ.1.2.2.1.2.2.2.2.2.1
  have hnv := hJ.1.2.2.1.2.2.2.2.2.2
  have d0 := na_le.mp h0
  have d1 := na_le.mp h1
  intro l
  induction l with
  | nil => intro z _ t ht; cases ht
  | cons s l ih =>
    intro z hs t ht
    unfold tz_ at ht
    rcases List.mem_cons.mp ht with rfl | ht
    · have hs9 := hs s List.mem_cons_self
      obtain ⟨mi, hmi, rfl⟩ := vp_in_of hm (by decide)
      refine ⟨hs9, hd9_rg _, ?_, ?_, ?_⟩
      · obtain ⟨n, hn, n20, hc⟩ := ax_cnt_of hok.2.1 (by decide)
        show ax_cnt (nC_ (D 7) (D 8) (D 9) (D 10) (D 11) (D 2 5).toNatClampNeg (nI mi) s d) 15
        unfold nC_
        rw [hc]
        exact nk_cnt (n := n) (fun i hi => hnv i (by rw [hn, na_nI (by omega)]; omega)) _ s d n 0 0 (by omega) ⟨by decide, by decide⟩
      · exact dr_cnt (by rw [nI_clamp (by omega)]; exact hcl mi hmi) (hok.2.2.2.2.2.2.2.2.1 _) d0 d1
      · exact hok.2.2.2.2.2.2.2.2.2.2.2.2.2.2.2.2 _
    · exact ih _ (fun q hq => hs q (List.mem_cons_of_mem _ hq)) t ht
theorem J_r87 {D D' : ax_Dn} (hJ : J D) (c : Nat) (h : ∀ k, k ≠ 87 → D' k = ax_up D 51 (ax_up (D 51) c (D 51 c + 1)) k) : J (ax_up D' 59 (ax_up (D' 59) c (D' 59 c + 1))) := by
  refine J_s ⟨fun k _ _ _ _ h87 _ _ _ _ _ _ _ _ _ _ _ _ _ _ _ => ?_, fun j _ => ?_, fun j _ _ _ => ?_, fun j _ _ _ _ => ?_⟩ (J_ref c hJ)
  · rw [h 59 (by decide), ax_up_n D _ (show 59 ≠ 51 by decide), ax_up_ap, ax_up_ap]
    by_cases q : k = 59
    · rw [if_pos q, if_pos q]
    · rw [if_neg q, if_neg q, h k h87]
  · rw [ax_up_n _ _ (show 12 ≠ 59 by decide), ax_up_n _ _ (show 12 ≠ 59 by decide), h 12 (by decide)]
  · rw [ax_up_n _ _ (show 43 ≠ 59 by decide), ax_up_n _ _ (show 43 ≠ 59 by decide), h 43 (by decide)]
  · rw [ax_up_n _ _ (show 58 ≠ 59 by decide), ax_up_n _ _ (show 58 ≠ 59 by decide), h 58 (by decide)]
theorem lt1_ {p : Int32} : p < 1 ↔ ¬ 1 ≤ p := Int32.not_le.symm
set_option maxRecDepth 10000 in
theorem pr_99 {D : ax_Dn} (E : ax_En) (hJ : J D) (p1 p2 p3 p4 p5 : Int32) : cy_99 [.ref 0, .int p1, .int p2, .int p3, .int p4, .int p5] (ax_S D E) (KI cy_190 [.ref 58, .int p1, .int p2, .int p3, .int p4, .int p5]) := by
  have hok := J_okC hJ
  have hokM := J_okM hJ
  obtain ⟨e22, e23, e32, e35, e40, f68, f69, f70, f81, f82, f83, f84, f85, f86, f76⟩ := J_eqs hJ
  have c22 := hok.1
  have c32 := hok.2.2.1
  have c35 := hok.2.2.2.2.2.2.2.2.2.2.2.2.2.2.2.1
  have s35 := fun p => sb1_ (p := p) c35
  rw [ry_99]
  simp only [KI_i]
  refine ⟨fun c1 => ?_, fun c1 => ⟨fun c2 => ?_, fun c2 => ⟨fun c3 => ?_, fun c3 => ⟨fun c4 => ?_, fun c4 => ?_⟩⟩⟩⟩
  · rw [ry_190]
    simp only [FI_i, ax_up_ap, Nat.reduceEqDiff, ↓reduceIte, e22, e35, s35, c1, true_or, or_true, false_or, or_false, true_imp_iff, false_imp_iff, not_true_eq_false, not_false_eq_true, true_and, and_true, implies_true]
    exact J_ref _ hJ
  · rw [ry_190]
    simp only [FI_i, ax_up_ap, Nat.reduceEqDiff, ↓reduceIte, e22, e35, s35, c1, c2, true_or, or_true, false_or, or_false, true_imp_iff, false_imp_iff, not_true_eq_false, not_false_eq_true, true_and, and_true, implies_true]
    exact J_ref _ hJ
  · rw [ry_190]
    simp only [FI_i, ax_up_ap, Nat.reduceEqDiff, ↓reduceIte, e22, e35, s35, c1, c2, c3, true_or, or_true, false_or, or_false, true_imp_iff, false_imp_iff, not_true_eq_false, not_false_eq_true, true_and, and_true, implies_true]
    exact J_ref _ hJ
  · rw [ry_190]
    simp only [FI_i, ax_up_ap, Nat.reduceEqDiff, ↓reduceIte, e22, e35, s35, c1, c2, c3, c4, true_or, or_true, false_or, or_false, true_imp_iff, false_imp_iff, not_true_eq_false, not_false_eq_true, true_and, and_true, implies_true]
    exact J_ref _ hJ
  have v6 := vm_ c22 c1 c2
  have v4 := vm_ c35 c3 c4
  have bad : ∀ c : Nat, ∀ x : Int32, (∀ D', (∀ k, k ≠ 87 → D' k = ax_up D 51 (ax_up (D 51) c (D 51 c + 1)) k) → (p2 < 0 → -4 = x ∧ J (ax_up D' 59 (ax_up (D' 59) 4 (D' 59 4 + 1)))) ∧ (¬p2 < 0 → (1 ≤ p4 → (365 < p2 → -6 = x ∧ J (ax_up D' 59 (ax_up (D' 59) 6 (D' 59 6 + 1)))) ∧ (¬365 < p2 → (D' 58 32 + nI (dl_ 10 p4).length ≤ 30 → (tz_ (VM D' p1 p2 p3.toNatClampNeg) (dl_ 10 p4) p5).foldl aM D' 58 32 = x ∧ J ((tz_ (VM D' p1 p2 p3.toNatClampNeg) (dl_ 10 p4) p5).foldl aM D')) ∧ (¬D' 58 32 + nI (dl_ 10 p4).length ≤ 30 → -6 = x ∧ J (ax_up D' 59 (ax_up (D' 59) 6 (D' 59 6 + 1)))))) ∧ (¬1 ≤ p4 → -4 = x ∧ J (ax_up D' 59 (ax_up (D' 59) 4 (D' 59 4 + 1)))))) → cy_190 [.ref 58, .int p1, .int p2, .int p3, .int p4, .int p5] (ax_S (ax_up D 51 (ax_up (D 51) c (D 51 c + 1))) E) (FI x) := by
    intro c x hx
    have o51 : okM (ax_up D 51 (ax_up (D 51) c (D 51 c + 1))) := by rw [okM_up _ _ _ (by decide)]; exact hokM
    rw [ry_190]
    simp only [FI_i, ax_up_ap, Nat.reduceEqDiff, ↓reduceIte, e22, e35, s35, c1, c2, c3, c4, true_or, or_true, false_or, or_false, true_imp_iff, false_imp_iff, not_true_eq_false, not_false_eq_true, true_and, and_true, implies_true]
    exact ⟨o51, v6, v4, hx⟩
  refine ⟨fun c5 => bad 4 _ fun D' hD' => ⟨fun _ => ⟨rfl, J_r87 hJ 4 hD'⟩, fun _ => ⟨fun z => absurd z (lt1_.mp c5), fun _ => ⟨rfl, J_r87 hJ 4 hD'⟩⟩⟩, fun c5 => ⟨fun c6 => ⟨fun c7 => bad 6 _ fun D' hD' => ⟨fun z => absurd z (Int32.not_lt.mpr c6), fun _ => ⟨fun _ => ⟨fun _ => ⟨rfl, J_r87 hJ 6 hD'⟩, fun z => absurd c7 z⟩, fun z => absurd (Classical.not_not.mp (fun y => c5 (lt1_.mpr y))) z⟩⟩, fun c7 => ⟨fun c8 => ?_, fun c8 => bad 6 _ fun D' hD' => ⟨fun z => absurd z (Int32.not_lt.mpr c6), fun _ => ⟨fun _ => ⟨fun z => absurd z c7, fun _ => ⟨fun z => absurd z ?_, fun _ => ⟨rfl, J_r87 hJ 6 hD'⟩⟩⟩, fun z => absurd (Classical.not_not.mp (fun y => c5 (lt1_.mpr y))) z⟩⟩⟩⟩, fun c6 => bad 4 _ fun D' hD' => ⟨fun _ => ⟨rfl, J_r87 hJ 4 hD'⟩, fun z => absurd (Int32.not_lt.mp z) c6⟩⟩⟩
  · have p41 : 1 ≤ p4 := Classical.not_not.mp (fun y => c5 (lt1_.mpr y))
    have p4i := na_le.mp p41
    have z1 : (1 : Int32).toInt = 1 := rfl
    obtain ⟨N, hN, hN30, hNc⟩ := ax_cnt_of c32 (by decide)
    have hl := dl_len 10 p4
    have c8' := c8
    rw [hN, nI_add, show (30 : Int32) = nI 30 by decide, nI_leI (by omega) (by omega)] at c8'
    refine ⟨hok, v6, v4, by omega, by rw [hNc]; exact c8', ?_⟩
    obtain ⟨h, hh, hp3⟩ := vp_in_of v4 (by decide)
    have hL := ty_all hJ v6 c6 (Int32.not_lt.mp c7) p3.toNatClampNeg (dl_ 10 p4) p5 (dl_cnt 10 p4)
    have hlen := tz_len (VC D p1 p2 p3.toNatClampNeg) (dl_ 10 p4) p5
    have p0 : pgE D D := ⟨e32, f81, f82, f83, f84, f85⟩
    have pr : pgR D := ⟨hok.2.2.2.1, hok.2.2.2.2.1, hok.2.2.2.2.2.1, hok.2.2.2.2.2.2.1, hok.2.2.2.2.2.2.2.1⟩
    obtain ⟨-, -, i3, i4, -, -⟩ := pg_all _ D D N hL p0 pr hN
    have hVM := J_VM hJ
    generalize hLL : tz_ (VC D p1 p2 p3.toNatClampNeg) (dl_ 10 p4) p5 = L at *
    generalize hX : L.foldl aC D = X at *
    have x58 : X 58 = D 58 := i4 58 (by decide)
    have oX : okM X := by
      unfold okM at hokM ⊢
      rw [i4 58 (by decide), i4 69 (by decide), i4 70 (by decide), i4 76 (by decide), i4 81 (by decide), i4 82 (by decide), i4 83 (by decide), i4 84 (by decide), i4 85 (by decide), i4 86 (by decide)]
      exact hokM
    rw [ry_190]
    simp only [FI_i, x58, e22, e35, s35, c1, c2, c3, c4, true_or, or_true, false_or, or_false, true_imp_iff, false_imp_iff, not_true_eq_false, not_false_eq_true, true_and, and_true, implies_true]
    refine ⟨oX, v6, v4, fun D' hD' => ⟨fun z => absurd z (Int32.not_lt.mpr c6), fun _ => ⟨fun _ => ⟨fun z => absurd z c7, fun _ => ⟨fun _ => ?_, fun z => absurd ?_ z⟩⟩, fun z => absurd p41 z⟩⟩⟩
    · have hV : VM D' = VM D := by
        funext a1 a2 a3
        unfold VM
        rw [hD' 58 (by decide), hD' 68 (by decide), hD' 69 (by decide), hD' 70 (by decide), hD' 71 (by decide), hD' 72 (by decide), hD' 73 (by decide), hD' 74 (by decide), hD' 75 (by decide), hD' 76 (by decide), hD' 86 (by decide), i4 58 (by decide), i4 68 (by decide), i4 69 (by decide), i4 70 (by decide), i4 71 (by decide), i4 72 (by decide), i4 73 (by decide), i4 74 (by decide), i4 75 (by decide), i4 76 (by decide), i4 86 (by decide)]
      rw [hV, hVM, hLL]
      have := J_type hJ L hL N hN (by omega) (X := D') (by
        rw [hX]
        exact ⟨fun k _ _ _ _ h87 _ _ _ _ _ _ _ _ _ _ _ _ _ _ _ => hD' k h87, fun j _ => by rw [hD' 12 (by decide)], fun j _ _ _ => by rw [hD' 43 (by decide)], fun j _ _ _ _ => by rw [hD' 58 (by decide)]⟩) (fun k hk => by rw [hX]; exact hD' k hk)
      exact ⟨by rw [this.2, i3], this.1⟩
    · rw [hD' 58 (by decide), x58, e32]
      exact c8
  · rw [hD' 58 (by decide), ax_up_n _ _ (show 58 ≠ 51 by decide), e32]
    exact c8
theorem byc_ (b : Int64) (i : Nat) : ax_cnt (by_ b i) 255 := by
  obtain ⟨j, hj, e⟩ := pk_andE ((b.toUInt64 >>> ((8 * nI i).toInt64.toUInt64 &&& Int64.toUInt64 63)).toInt64.toInt32) (m := 255) 8 (by decide)
  unfold by_
  rw [e]
  unfold ax_cnt
  rw [na_nI (by omega)]
  omega
theorem klb_ (b : Int64) (c n : Nat) (hn : n ≤ 8) (G : Nat → Int32) : kl_ (bm_ b) c n 0 G = kl_ (by_ b) c n 0 G := by
  rw [kl_eq, kl_eq]
  funext x
  by_cases h : c + 0 ≤ x ∧ x < c + 0 + n
  · rw [if_pos h, if_pos h, by_bm b (by omega)]
  · rw [if_neg h, if_neg h]
theorem J_feed {D : ax_Dn} (hJ : J D) (c0 n : Nat) (hc : D 43 1 = nI c0) (hn : n ≤ 8) (h64 : c0 + n ≤ 64) (x : Int64) : J (ax_up (ax_up (ax_up (ax_up D 43 (ax_up (D 43) 1 (D 43 1 + nI n))) 44 (kl_ (by_ x) c0 n 0 (D 44))) 58 (ax_up (D 58) 20 (D 43 1 + nI n))) 60 (kl_ (bm_ x) c0 n 0 (D 60))) := by
  have hJ0 := hJ
  obtain ⟨⟨a1, a2, a3, a4, a5, a6⟩, b, c, d, e, f⟩ := hJ
  refine ⟨⟨?_, ?_, ?_, ?_, ?_, ?_⟩, ?_, ?_, ?_, ?_, J6c (fun k h1 h2 => ?_) ?_ ?_ ?_ f⟩
  · unfold okC at a1 ⊢
    simp only [ax_up_ap, Nat.reduceEqDiff, ↓reduceIte]
    exact a1
  · unfold JN at a2 ⊢
    simp only [ax_up_ap, Nat.reduceEqDiff, ↓reduceIte]
    exact a2
  · unfold JW at a3 ⊢
    simp only [ax_up_ap, Nat.reduceEqDiff, ↓reduceIte]
    exact ⟨a3.1, a3.2.1, EV_congr (fun i _ => by simp only [ax_up_ap, Nat.reduceEqDiff, ↓reduceIte, and_self]) (fun i _ => by simp only [ax_up_ap, Nat.reduceEqDiff, ↓reduceIte, and_self]) a3.2.2.1, a3.2.2.2⟩
  · unfold JF at a4 ⊢
    simp only [ax_up_ap, Nat.reduceEqDiff, ↓reduceIte]
    exact a4
  · simp only [ax_up_ap, Nat.reduceEqDiff, ↓reduceIte]
    exact a5
  · simp only [ax_up_ap, Nat.reduceEqDiff, ↓reduceIte]
    exact a6
  · simp only [ax_up_ap, Nat.reduceEqDiff, ↓reduceIte]
    exact b
  · unfold J3 at c ⊢
    simp only [ax_up_ap, Nat.reduceEqDiff, ↓reduceIte]
    obtain ⟨w1, w2, w3, w4⟩ := c
    refine ⟨by rw [w1, klb_ x c0 n hn], trivial, ?_, fun k => ?_⟩
    · rw [hc, nI_add]
      unfold ax_cnt
      rw [na_nI (by omega)]
      omega
    · rw [kl_eq]
      show ax_cnt (if c0 + 0 ≤ k ∧ k < c0 + 0 + n then by_ x (k - c0) else D 44 k) 255
      by_cases h : c0 + 0 ≤ k ∧ k < c0 + 0 + n
      · rw [if_pos h]; exact byc_ x _
      · rw [if_neg h]; exact w4 k
  · unfold J4 at d ⊢
    simp only [ax_up_ap, Nat.reduceEqDiff, ↓reduceIte]
    exact d
  · simp only [ax_up_ap, Nat.reduceEqDiff, ↓reduceIte]
    exact e
  · unfold sh
    rw [ax_up_n _ _ (by omega), ax_up_n _ _ (by omega), ax_up_n _ _ (by omega), ax_up_n _ _ (by omega)]
  · unfold im
    simp only [ax_up_ap, Nat.reduceEqDiff, ↓reduceIte]
  · simp only [ax_up_ap, Nat.reduceEqDiff, ↓reduceIte]
  · simp only [ax_up_ap, Nat.reduceEqDiff, ↓reduceIte]
set_option maxRecDepth 10000 in
theorem pr_73 {D : ax_Dn} (E : ax_En) (hJ : J D) (p1 : Int32) (p2 : Int64) : cy_73 [.ref 0, .int p1, .long p2] (ax_S D E) (KI cy_130 [.ref 58, .int p1, .long p2]) := by
  have hok := J_okC hJ
  have hokM := J_okM hJ
  obtain ⟨e22, e23, e32, e35, e40, f68, f69, f70, f81, f82, f83, f84, f85, f86, f76⟩ := J_eqs hJ
  have c22 := hok.1
  have c23 := hok.2.1
  have c32 := hok.2.2.1
  have csg := hok.2.2.2.1
  have c35 := hok.2.2.2.2.2.2.2.2.2.2.2.2.2.2.2.1
  have h20 := hJ.1.2.2.1.1
  have x20 := hJ.2.2.1.2.1
  have x43 := hJ.2.2.1.2.2.1
  have x41 := hJ.2.2.2.1.2.1
  have x05 := hJ.2.2.2.1.2.2
  have g77 := hJ.2.2.2.2.1.1
  have g78 := hJ.2.2.2.2.1.2
  have g8 : p1 ≤ 8 ↔ ¬ 8 < p1 := Int32.not_lt.symm
  rw [ry_73]
  simp only [KI_i, ry_130, FI_i, ax_up_ap, Nat.reduceEqDiff, ↓reduceIte, e22, e23, e32, e35, e40, f70, f76, x20, x41, g77, g78, c32, c35, x43, x05, g8, true_or, or_true, false_or, or_false, true_imp_iff, false_imp_iff, not_true_eq_false, not_false_eq_true, true_and, and_true, implies_true]
  repeat' (first | with_reducible apply And.intro | (with_reducible intro hq; try simp only [hq, true_or, or_true, false_or, or_false, true_imp_iff, false_imp_iff, not_true_eq_false, not_false_eq_true, true_and, and_true, implies_true, ↓reduceIte]))
  all_goals first
    | with_reducible rfl
    | with_reducible exact J_ref _ hJ
    | skip
  have q1 : 1 ≤ p1 := by assumption
  have q2 : ¬8 < p1 := by assumption
  have q3 : D 43 1 + p1 ≤ 64 := by assumption
  obtain ⟨n, rfl, n1, n8⟩ := p8_ q1 q2
  obtain ⟨c, hc, hc64, hcc⟩ := ax_cnt_of x43 (by decide)
  have q3' := q3
  rw [hc, nI_add, le64_ (by omega)] at q3'
  rw [hcc, nI_clamp (by omega)]
  exact J_feed hJ c n hc n8 q3' p2
