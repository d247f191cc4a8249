/-! passesAll, cut behind each call. -/
/-- AskewLetters$Desk.takeFrom(LAskewLetters$Desk;)V -/
def cy_24a : ax_P1 := fun as z K => ∃ (D : ax_Dn) (E : ax_En), as = [.ref 22, .ref 1] ∧ z = ax_S D E ∧ (K none (ax_S (ax_up (ax_up (ax_up (ax_up (ax_up (ax_up (ax_up (ax_up (ax_up (ax_up (ax_up (ax_up (ax_up (ax_up (ax_up (ax_up (ax_up (ax_up (ax_up (ax_up D 22 (ax_up (ax_up (D 22) 4 (D 1 4)) 5 (D 1 5))) 23 (ax_up (ax_up (D 23) 0 (D 2 0)) 5 (D 2 5))) 24 (va_cpy (D 3) (D 24) 0 0 6)) 25 (va_cpy (D 4) (D 25) 0 0 6)) 26 (va_cpy (D 5) (D 26) 0 0 10)) 27 (va_cpy (D 6) (D 27) 0 0 10)) 28 (va_cpy (D 7) (D 28) 0 0 20)) 29 (va_cpy (D 8) (D 29) 0 0 20)) 30 (va_cpy (D 9) (D 30) 0 0 20)) 31 (va_cpy (D 10) (D 31) 0 0 20)) 32 (va_cpy (D 11) (D 32) 0 0 20)) 33 (ax_up (D 33) 0 (D 12 0))) 34 (va_cpy (D 13) (D 34) 0 0 30)) 35 (va_cpy (D 14) (D 35) 0 0 30)) 36 (va_cpy (D 15) (D 36) 0 0 30)) 37 (va_cpy (D 16) (D 37) 0 0 30)) 38 (va_cpy (D 17) (D 38) 0 0 30)) 40 (ax_up (D 40) 0 (D 19 0))) 41 (va_cpy (D 20) (D 41) 0 0 40)) 42 (va_cpy (D 21) (D 42) 0 0 5)) E))
theorem ry_24a  (D : ax_Dn) (E : ax_En) (K : ax_Po) : cy_24a [.ref 22, .ref 1] (ax_S D E) K = (K none (ax_S (ax_up (ax_up (ax_up (ax_up (ax_up (ax_up (ax_up (ax_up (ax_up (ax_up (ax_up (ax_up (ax_up (ax_up (ax_up (ax_up (ax_up (ax_up (ax_up (ax_up D 22 (ax_up (ax_up (D 22) 4 (D 1 4)) 5 (D 1 5))) 23 (ax_up (ax_up (D 23) 0 (D 2 0)) 5 (D 2 5))) 24 (va_cpy (D 3) (D 24) 0 0 6)) 25 (va_cpy (D 4) (D 25) 0 0 6)) 26 (va_cpy (D 5) (D 26) 0 0 10)) 27 (va_cpy (D 6) (D 27) 0 0 10)) 28 (va_cpy (D 7) (D 28) 0 0 20)) 29 (va_cpy (D 8) (D 29) 0 0 20)) 30 (va_cpy (D 9) (D 30) 0 0 20)) 31 (va_cpy (D 10) (D 31) 0 0 20)) 32 (va_cpy (D 11) (D 32) 0 0 20)) 33 (ax_up (D 33) 0 (D 12 0))) 34 (va_cpy (D 13) (D 34) 0 0 30)) 35 (va_cpy (D 14) (D 35) 0 0 30)) 36 (va_cpy (D 15) (D 36) 0 0 30)) 37 (va_cpy (D 16) (D 37) 0 0 30)) 38 (va_cpy (D 17) (D 38) 0 0 30)) 40 (ax_up (D 40) 0 (D 19 0))) 41 (va_cpy (D 20) (D 41) 0 0 40)) 42 (va_cpy (D 21) (D 42) 0 0 5)) E)) := propext ⟨fun ⟨D', E', h1, h2, h3⟩ => by cases h1; obtain ⟨rfl, rfl⟩ := ax_S_inj h2; exact h3, fun h => ⟨D, E, rfl, rfl, h⟩⟩
set_option maxRecDepth 10000 in
theorem sy_24a {g : ax_G} : ∀ as z K, cy_24a as z K → ax_MM g 24 as z K := by
  rintro _ _ K ⟨D, E, rfl, rfl, h⟩
  refine ax_go24 _ _ ?_
  refine ax_WPo (l := [(38, cy_38a), (49, cy_49a), (60, cy_60a)]) (ax_oc sy_38a (ax_oc sy_49a (ax_oc sy_60a ax_on))) ax_ok24 (fun _ => false) 400 0 rfl ?_
  simp +decide only [↓ax_B, ax_B, ax_kds, ax_gvs, ax_mcs, ax_ia_S, ax_up_ap, ax_vinL, and_self_left, ax_up_up, ax_up_sw, Nat.reduceAdd, Nat.reduceBEq, Nat.reduceLeDiff, Nat.reduceLT, Nat.reduceEqDiff, ↓reduceIte, true_and, and_true, List.cons_append, List.nil_append, Int32.reduceLT, Int32.reduceLE, Int32.reduceAdd, Int32.reduceToNatClampNeg, Int32.reduceOfNat, true_imp_iff, false_imp_iff, not_true_eq_false, not_false_eq_true, or_true, true_or, or_false, false_or, and_self, Bool.or_true, Bool.or_false, Bool.true_or, Bool.false_or, implies_true, forall_const, Bool.false_eq_true, Int32.neg_neg, ry_38a, ry_49a, ry_60a]
  exact h
/-- AskewLetters$Desk.takeFrom(LAskewLetters$Desk;)V -/
def cy_24b : ax_P1 := fun as z K => ∃ (D : ax_Dn) (E : ax_En), as = [.ref 1, .ref 22] ∧ z = ax_S D E ∧ (K none (ax_S (ax_up (ax_up (ax_up (ax_up (ax_up (ax_up (ax_up (ax_up (ax_up (ax_up (ax_up (ax_up (ax_up (ax_up (ax_up (ax_up (ax_up (ax_up (ax_up (ax_up D 1 (ax_up (ax_up (D 1) 4 (D 22 4)) 5 (D 22 5))) 2 (ax_up (ax_up (D 2) 0 (D 23 0)) 5 (D 23 5))) 3 (va_cpy (D 24) (D 3) 0 0 6)) 4 (va_cpy (D 25) (D 4) 0 0 6)) 5 (va_cpy (D 26) (D 5) 0 0 10)) 6 (va_cpy (D 27) (D 6) 0 0 10)) 7 (va_cpy (D 28) (D 7) 0 0 20)) 8 (va_cpy (D 29) (D 8) 0 0 20)) 9 (va_cpy (D 30) (D 9) 0 0 20)) 10 (va_cpy (D 31) (D 10) 0 0 20)) 11 (va_cpy (D 32) (D 11) 0 0 20)) 12 (ax_up (D 12) 0 (D 33 0))) 13 (va_cpy (D 34) (D 13) 0 0 30)) 14 (va_cpy (D 35) (D 14) 0 0 30)) 15 (va_cpy (D 36) (D 15) 0 0 30)) 16 (va_cpy (D 37) (D 16) 0 0 30)) 17 (va_cpy (D 38) (D 17) 0 0 30)) 19 (ax_up (D 19) 0 (D 40 0))) 20 (va_cpy (D 41) (D 20) 0 0 40)) 21 (va_cpy (D 42) (D 21) 0 0 5)) E))
theorem ry_24b  (D : ax_Dn) (E : ax_En) (K : ax_Po) : cy_24b [.ref 1, .ref 22] (ax_S D E) K = (K none (ax_S (ax_up (ax_up (ax_up (ax_up (ax_up (ax_up (ax_up (ax_up (ax_up (ax_up (ax_up (ax_up (ax_up (ax_up (ax_up (ax_up (ax_up (ax_up (ax_up (ax_up D 1 (ax_up (ax_up (D 1) 4 (D 22 4)) 5 (D 22 5))) 2 (ax_up (ax_up (D 2) 0 (D 23 0)) 5 (D 23 5))) 3 (va_cpy (D 24) (D 3) 0 0 6)) 4 (va_cpy (D 25) (D 4) 0 0 6)) 5 (va_cpy (D 26) (D 5) 0 0 10)) 6 (va_cpy (D 27) (D 6) 0 0 10)) 7 (va_cpy (D 28) (D 7) 0 0 20)) 8 (va_cpy (D 29) (D 8) 0 0 20)) 9 (va_cpy (D 30) (D 9) 0 0 20)) 10 (va_cpy (D 31) (D 10) 0 0 20)) 11 (va_cpy (D 32) (D 11) 0 0 20)) 12 (ax_up (D 12) 0 (D 33 0))) 13 (va_cpy (D 34) (D 13) 0 0 30)) 14 (va_cpy (D 35) (D 14) 0 0 30)) 15 (va_cpy (D 36) (D 15) 0 0 30)) 16 (va_cpy (D 37) (D 16) 0 0 30)) 17 (va_cpy (D 38) (D 17) 0 0 30)) 19 (ax_up (D 19) 0 (D 40 0))) 20 (va_cpy (D 41) (D 20) 0 0 40)) 21 (va_cpy (D 42) (D 21) 0 0 5)) E)) := propext ⟨fun ⟨D', E', h1, h2, h3⟩ => by cases h1; obtain ⟨rfl, rfl⟩ := ax_S_inj h2; exact h3, fun h => ⟨D, E, rfl, rfl, h⟩⟩
set_option maxRecDepth 10000 in
theorem sy_24b {g : ax_G} : ∀ as z K, cy_24b as z K → ax_MM g 24 as z K := by
  rintro _ _ K ⟨D, E, rfl, rfl, h⟩
  refine ax_go24 _ _ ?_
  refine ax_WPo (l := [(38, cy_38b), (49, cy_49b), (60, cy_60b)]) (ax_oc sy_38b (ax_oc sy_49b (ax_oc sy_60b ax_on))) ax_ok24 (fun _ => false) 400 0 rfl ?_
  simp +decide only [↓ax_B, ax_B, ax_kds, ax_gvs, ax_mcs, ax_ia_S, ax_up_ap, ax_vinL, and_self_left, ax_up_up, ax_up_sw, Nat.reduceAdd, Nat.reduceBEq, Nat.reduceLeDiff, Nat.reduceLT, Nat.reduceEqDiff, ↓reduceIte, true_and, and_true, List.cons_append, List.nil_append, Int32.reduceLT, Int32.reduceLE, Int32.reduceAdd, Int32.reduceToNatClampNeg, Int32.reduceOfNat, true_imp_iff, false_imp_iff, not_true_eq_false, not_false_eq_true, or_true, true_or, or_false, false_or, and_self, Bool.or_true, Bool.or_false, Bool.true_or, Bool.false_or, implies_true, forall_const, Bool.false_eq_true, Int32.neg_neg, ry_38b, ry_49b, ry_60b]
  exact h
def KSt (D0 D : ax_Dn) (c : Nat) (G : Nat → Int32) : Prop := D 58 44 = 1 ∧ D 58 45 = nI c ∧ D 91 = G ∧ (∀ k, k ≠ 58 → k ≠ 91 → D k = D0 k) ∧ ∀ j, j ≠ 45 → D 58 j = D0 58 j
def RSt (D0 D : ax_Dn) (c : Nat) (S T : Nat → Option Nat) : Prop := D 58 44 = 0 ∧ D 58 45 = nI c ∧ (∀ k, k ≠ 58 → D k = match S k with | none => D0 k | some o => rs_ o (ax_kd k).2 (D0 91) (D0 k)) ∧ (∀ j, j ≠ 45 → D 58 j = match T j with | none => D0 58 j | some o => D0 91 o) ∧ S 91 = none ∧ T 44 = none
theorem KSt_a {D0 D D' : ax_Dn} {c n q : Nat} {G : Nat → Int32} (h : KSt D0 D c G) (h58 : q ≠ 58) (h91 : q ≠ 91) (e1 : D' 91 = kp_ c n (D q) (D 91)) (e2 : D' 58 = ax_up (D 58) 45 (nI (c + n))) (e3 : ∀ k, k ≠ 58 → k ≠ 91 → D' k = D k) : KSt D0 D' (c + n) (kp_ c n (D0 q) G) := by
  obtain ⟨a1, a2, a3, a4, a5⟩ := h
  refine ⟨?_, ?_, ?_, fun k x y => ?_, fun j x => ?_⟩
  · rw [e2, ax_up_n _ _ (show 44 ≠ 45 by decide), a1]
  · rw [e2, ax_up_s]
  · rw [e1, a3, a4 q h58 h91]
  · rw [e3 k x y, a4 k x y]
  · rw [e2, ax_up_n _ _ x, a5 j x]
theorem KSt_f {D0 D D' : ax_Dn} {c f : Nat} {G : Nat → Int32} (h : KSt D0 D c G) (hf : f ≠ 45) (e1 : D' 91 = ax_up (D 91) c (D 58 f)) (e2 : ∀ j, D' 58 j = if j = 45 then nI (c + 1) else D 58 j) (e3 : ∀ k, k ≠ 58 → k ≠ 91 → D' k = D k) : KSt D0 D' (c + 1) (ax_up G c (D0 58 f)) := by
  obtain ⟨a1, a2, a3, a4, a5⟩ := h
  refine ⟨?_, ?_, ?_, fun k x y => ?_, fun j x => ?_⟩
  · rw [e2, if_neg (by decide), a1]
  · rw [e2, if_pos rfl]
  · rw [e1, a3, a5 f hf]
  · rw [e3 k x y, a4 k x y]
  · rw [e2, if_neg x, a5 j x]
theorem RSt_a {D0 D D' : ax_Dn} {c n q : Nat} {S T : Nat → Option Nat} (h : RSt D0 D c S T) (h58 : q ≠ 58) (h91 : q ≠ 91) (hq : (ax_kd q).2 = n) (hS : S q = none) (e1 : D' q = rs_ c n (D 91) (D q)) (e2 : D' 58 = ax_up (D 58) 45 (nI (c + n))) (e3 : ∀ k, k ≠ 58 → k ≠ q → D' k = D k) : RSt D0 D' (c + n) (ax_up S q (some c)) T := by
  obtain ⟨a1, a2, a3, a4, a5, a6⟩ := h
  have b91 := a3 91 (by decide)
  rw [a5] at b91
  have bq := a3 q h58
  rw [hS] at bq
  refine ⟨?_, ?_, fun k x => ?_, fun j x => ?_, ?_, a6⟩
  · rw [e2, ax_up_n _ _ (show 44 ≠ 45 by decide), a1]
  · rw [e2, ax_up_s]
  · by_cases y : k = q
    · subst y
      rw [ax_up_s, e1, b91, bq, hq]
    · rw [ax_up_n _ _ y, e3 k x y, a3 k x]
  · rw [e2, ax_up_n _ _ x, a4 j x]
  · rw [ax_up_n _ _ (Ne.symm h91), a5]
theorem RSt_f {D0 D D' : ax_Dn} {c f : Nat} {S T : Nat → Option Nat} (h : RSt D0 D c S T) (hf : f ≠ 45) (hf2 : f ≠ 44) (hT : T f = none) (e2 : ∀ j, D' 58 j = if j = 45 then nI (c + 1) else if j = f then D 91 c else D 58 j) (e3 : ∀ k, k ≠ 58 → D' k = D k) : RSt D0 D' (c + 1) S (ax_up T f (some c)) := by
  obtain ⟨a1, a2, a3, a4, a5, a6⟩ := h
  have b91 := a3 91 (by decide)
  rw [a5] at b91
  refine ⟨?_, ?_, fun k x => ?_, fun j x => ?_, a5, ?_⟩
  · rw [e2, if_neg (by decide), if_neg (Ne.symm hf2), a1]
  · rw [e2, if_pos rfl]
  · rw [e3 k x, a3 k x]
  · rw [e2, if_neg x]
    by_cases y : j = f
    · subst y
      rw [if_pos rfl, ax_up_s, b91]
    · rw [if_neg y, ax_up_n _ _ y, a4 j x]
  · rw [ax_up_n _ _ (Ne.symm hf2), a6]
set_option maxRecDepth 10000 in
theorem lp_201k_5 {g : ax_G} {K : ax_Po} {E : ax_En} {D0 D : ax_Dn} {G : Nat → Int32} (h : KSt D0 D 0 G) (hx : ∀ D', KSt D0 D' 6 (kp_ 0 6 (D0 67) G) → ax_WP g (ax_hy 201) K 92 92 13 [some (.ref 58)] [] (ax_S D' E)) : ax_WP g (ax_hy 201) K 92 92 5 [some (.ref 58)] [] (ax_S D E) := by
  have h44 := h.1
  have h45 := h.2.1
  have z0 : nI 0 = 0 := nI_0
  rw [z0] at h45
  have hp : (0 : Int32) ≤ 0 := by decide
  have hcl : (0 : Int32).toNatClampNeg = 0 := rfl
  have ha : (0 : Int32) + 6 = nI 6 := by decide
  have hb : (6 : Int32) = nI 6 := by decide
  refine ax_WPo (l := [(199, cy_199k)]) (ax_oc sy_199k ax_on) ax_ok201 (fun t => t == 5 || t == 13 || t == 21 || t == 29 || t == 37 || t == 45 || t == 53 || t == 61 || t == 69 || t == 77 || t == 85 || t == 93 || t == 101 || t == 109 || t == 117 || t == 125 || t == 133 || t == 141 || t == 149 || t == 161 || t == 173 || t == 185 || t == 197 || t == 209) 400 5 rfl ?_
  simp +decide only [↓ax_B, ax_B, ax_kds, ax_gvs, ax_mcs, ax_ia_S, ax_up_ap, ax_vinL, and_self_left, ax_up_up, ax_up_sw, Nat.reduceAdd, Nat.reduceBEq, Nat.reduceLeDiff, Nat.reduceLT, Nat.reduceEqDiff, ↓reduceIte, true_and, and_true, List.cons_append, List.nil_append, Int32.reduceLT, Int32.reduceLE, Int32.reduceAdd, Int32.reduceToNatClampNeg, Int32.reduceOfNat, true_imp_iff, false_imp_iff, not_true_eq_false, not_false_eq_true, or_true, true_or, or_false, false_or, and_self, Bool.or_true, Bool.or_false, Bool.true_or, Bool.false_or, implies_true, forall_const, Bool.false_eq_true, Int32.neg_neg, ry_199k, h44, h45, hp, hcl, ha, Int32.zero_add]
  refine hx _ (KSt_a (n := 6) (q := 67) h (by decide) (by decide) ?_ ?_ (fun k x y => ?_))
  · simp only [ax_up_ap, Nat.reduceEqDiff, ↓reduceIte]
  · simp only [ax_up_ap, Nat.reduceEqDiff, ↓reduceIte, hb]
  · simp only [ax_up_ap, x, y, ↓reduceIte]
set_option maxRecDepth 10000 in
theorem lp_201r_5 {g : ax_G} {K : ax_Po} {E : ax_En} {D0 D : ax_Dn} {S T : Nat → Option Nat} (hS : S 67 = none) (h : RSt D0 D 0 S T) (hx : ∀ D', RSt D0 D' 6 (ax_up S 67 (some 0)) T → ax_WP g (ax_hy 201) K 92 92 13 [some (.ref 58)] [] (ax_S D' E)) : ax_WP g (ax_hy 201) K 92 92 5 [some (.ref 58)] [] (ax_S D E) := by
  have h44 := h.1
  have h45 := h.2.1
  have z0 : nI 0 = 0 := nI_0
  rw [z0] at h45
  have hp : (0 : Int32) ≤ 0 := by decide
  have hcl : (0 : Int32).toNatClampNeg = 0 := rfl
  have ha : (0 : Int32) + 6 = nI 6 := by decide
  have hb : (6 : Int32) = nI 6 := by decide
  refine ax_WPo (l := [(199, cy_199r)]) (ax_oc sy_199r ax_on) ax_ok201 (fun t => t == 5 || t == 13 || t == 21 || t == 29 || t == 37 || t == 45 || t == 53 || t == 61 || t == 69 || t == 77 || t == 85 || t == 93 || t == 101 || t == 109 || t == 117 || t == 125 || t == 133 || t == 141 || t == 149 || t == 161 || t == 173 || t == 185 || t == 197 || t == 209) 400 5 rfl ?_
  simp +decide only [↓ax_B, ax_B, ax_kds, ax_gvs, ax_mcs, ax_ia_S, ax_up_ap, ax_vinL, and_self_left, ax_up_up, ax_up_sw, Nat.reduceAdd, Nat.reduceBEq, Nat.reduceLeDiff, Nat.reduceLT, Nat.reduceEqDiff, ↓reduceIte, true_and, and_true, List.cons_append, List.nil_append, Int32.reduceLT, Int32.reduceLE, Int32.reduceAdd, Int32.reduceToNatClampNeg, Int32.reduceOfNat, true_imp_iff, false_imp_iff, not_true_eq_false, not_false_eq_true, or_true, true_or, or_false, false_or, and_self, Bool.or_true, Bool.or_false, Bool.true_or, Bool.false_or, implies_true, forall_const, Bool.false_eq_true, Int32.neg_neg, ry_199r, h44, h45, hp, hcl, ha, Int32.zero_add]
  refine hx _ (RSt_a (n := 6) (q := 67) h (by decide) (by decide) rfl hS ?_ ?_ (fun k x y => ?_))
  · simp only [ax_up_ap, Nat.reduceEqDiff, ↓reduceIte]
  · simp only [ax_up_ap, Nat.reduceEqDiff, ↓reduceIte, hb]
  · simp only [ax_up_ap, x, y, ↓reduceIte]
set_option maxRecDepth 10000 in
theorem lp_201k_13 {g : ax_G} {K : ax_Po} {E : ax_En} {D0 D : ax_Dn} {G : Nat → Int32} (h : KSt D0 D 6 G) (hx : ∀ D', KSt D0 D' 12 (kp_ 6 6 (D0 68) G) → ax_WP g (ax_hy 201) K 92 92 21 [some (.ref 58)] [] (ax_S D' E)) : ax_WP g (ax_hy 201) K 92 92 13 [some (.ref 58)] [] (ax_S D E) := by
  have h44 := h.1
  have h45 := h.2.1
  have hp : (0 : Int32) ≤ nI 6 := nI_pos' (by decide)
  have hcl : (nI 6).toNatClampNeg = 6 := nI_clamp (by decide)
  have ha : nI 6 + 6 = nI 12 := by decide
  refine ax_WPo (l := [(199, cy_199k)]) (ax_oc sy_199k ax_on) ax_ok201 (fun t => t == 5 || t == 13 || t == 21 || t == 29 || t == 37 || t == 45 || t == 53 || t == 61 || t == 69 || t == 77 || t == 85 || t == 93 || t == 101 || t == 109 || t == 117 || t == 125 || t == 133 || t == 141 || t == 149 || t == 161 || t == 173 || t == 185 || t == 197 || t == 209) 400 13 rfl ?_
  simp +decide only [↓ax_B, ax_B, ax_kds, ax_gvs, ax_mcs, ax_ia_S, ax_up_ap, ax_vinL, and_self_left, ax_up_up, ax_up_sw, Nat.reduceAdd, Nat.reduceBEq, Nat.reduceLeDiff, Nat.reduceLT, Nat.reduceEqDiff, ↓reduceIte, true_and, and_true, List.cons_append, List.nil_append, Int32.reduceLT, Int32.reduceLE, Int32.reduceAdd, Int32.reduceToNatClampNeg, Int32.reduceOfNat, true_imp_iff, false_imp_iff, not_true_eq_false, not_false_eq_true, or_true, true_or, or_false, false_or, and_self, Bool.or_true, Bool.or_false, Bool.true_or, Bool.false_or, implies_true, forall_const, Bool.false_eq_true, Int32.neg_neg, ry_199k, h44, h45, hp, hcl, ha]
  refine hx _ (KSt_a (n := 6) (q := 68) h (by decide) (by decide) ?_ ?_ (fun k x y => ?_))
  · simp only [ax_up_ap, Nat.reduceEqDiff, ↓reduceIte]
  · simp only [ax_up_ap, Nat.reduceEqDiff, ↓reduceIte]
  · simp only [ax_up_ap, x, y, ↓reduceIte]
set_option maxRecDepth 10000 in
theorem lp_201r_13 {g : ax_G} {K : ax_Po} {E : ax_En} {D0 D : ax_Dn} {S T : Nat → Option Nat} (hS : S 68 = none) (h : RSt D0 D 6 S T) (hx : ∀ D', RSt D0 D' 12 (ax_up S 68 (some 6)) T → ax_WP g (ax_hy 201) K 92 92 21 [some (.ref 58)] [] (ax_S D' E)) : ax_WP g (ax_hy 201) K 92 92 13 [some (.ref 58)] [] (ax_S D E) := by
  have h44 := h.1
  have h45 := h.2.1
  have hp : (0 : Int32) ≤ nI 6 := nI_pos' (by decide)
  have hcl : (nI 6).toNatClampNeg = 6 := nI_clamp (by decide)
  have ha : nI 6 + 6 = nI 12 := by decide
  refine ax_WPo (l := [(199, cy_199r)]) (ax_oc sy_199r ax_on) ax_ok201 (fun t => t == 5 || t == 13 || t == 21 || t == 29 || t == 37 || t == 45 || t == 53 || t == 61 || t == 69 || t == 77 || t == 85 || t == 93 || t == 101 || t == 109 || t == 117 || t == 125 || t == 133 || t == 141 || t == 149 || t == 161 || t == 173 || t == 185 || t == 197 || t == 209) 400 13 rfl ?_
  simp +decide only [↓ax_B, ax_B, ax_kds, ax_gvs, ax_mcs, ax_ia_S, ax_up_ap, ax_vinL, and_self_left, ax_up_up, ax_up_sw, Nat.reduceAdd, Nat.reduceBEq, Nat.reduceLeDiff, Nat.reduceLT, Nat.reduceEqDiff, ↓reduceIte, true_and, and_true, List.cons_append, List.nil_append, Int32.reduceLT, Int32.reduceLE, Int32.reduceAdd, Int32.reduceToNatClampNeg, Int32.reduceOfNat, true_imp_iff, false_imp_iff, not_true_eq_false, not_false_eq_true, or_true, true_or, or_false, false_or, and_self, Bool.or_true, Bool.or_false, Bool.true_or, Bool.false_or, implies_true, forall_const, Bool.false_eq_true, Int32.neg_neg, ry_199r, h44, h45, hp, hcl, ha]
  refine hx _ (RSt_a (n := 6) (q := 68) h (by decide) (by decide) rfl hS ?_ ?_ (fun k x y => ?_))
  · simp only [ax_up_ap, Nat.reduceEqDiff, ↓reduceIte]
  · simp only [ax_up_ap, Nat.reduceEqDiff, ↓reduceIte]
  · simp only [ax_up_ap, x, y, ↓reduceIte]
set_option maxRecDepth 10000 in
theorem lp_201k_21 {g : ax_G} {K : ax_Po} {E : ax_En} {D0 D : ax_Dn} {G : Nat → Int32} (h : KSt D0 D 12 G) (hx : ∀ D', KSt D0 D' 22 (kp_ 12 10 (D0 69) G) → ax_WP g (ax_hy 201) K 92 92 29 [some (.ref 58)] [] (ax_S D' E)) : ax_WP g (ax_hy 201) K 92 92 21 [some (.ref 58)] [] (ax_S D E) := by
  have h44 := h.1
  have h45 := h.2.1
  have hp : (0 : Int32) ≤ nI 12 := nI_pos' (by decide)
  have hcl : (nI 12).toNatClampNeg = 12 := nI_clamp (by decide)
  have ha : nI 12 + 10 = nI 22 := by decide
  refine ax_WPo (l := [(199, cy_199k)]) (ax_oc sy_199k ax_on) ax_ok201 (fun t => t == 5 || t == 13 || t == 21 || t == 29 || t == 37 || t == 45 || t == 53 || t == 61 || t == 69 || t == 77 || t == 85 || t == 93 || t == 101 || t == 109 || t == 117 || t == 125 || t == 133 || t == 141 || t == 149 || t == 161 || t == 173 || t == 185 || t == 197 || t == 209) 400 21 rfl ?_
  simp +decide only [↓ax_B, ax_B, ax_kds, ax_gvs, ax_mcs, ax_ia_S, ax_up_ap, ax_vinL, and_self_left, ax_up_up, ax_up_sw, Nat.reduceAdd, Nat.reduceBEq, Nat.reduceLeDiff, Nat.reduceLT, Nat.reduceEqDiff, ↓reduceIte, true_and, and_true, List.cons_append, List.nil_append, Int32.reduceLT, Int32.reduceLE, Int32.reduceAdd, Int32.reduceToNatClampNeg, Int32.reduceOfNat, true_imp_iff, false_imp_iff, not_true_eq_false, not_false_eq_true, or_true, true_or, or_false, false_or, and_self, Bool.or_true, Bool.or_false, Bool.true_or, Bool.false_or, implies_true, forall_const, Bool.false_eq_true, Int32.neg_neg, ry_199k, h44, h45, hp, hcl, ha]
  refine hx _ (KSt_a (n := 10) (q := 69) h (by decide) (by decide) ?_ ?_ (fun k x y => ?_))
  · simp only [ax_up_ap, Nat.reduceEqDiff, ↓reduceIte]
  · simp only [ax_up_ap, Nat.reduceEqDiff, ↓reduceIte]
  · simp only [ax_up_ap, x, y, ↓reduceIte]
set_option maxRecDepth 10000 in
theorem lp_201r_21 {g : ax_G} {K : ax_Po} {E : ax_En} {D0 D : ax_Dn} {S T : Nat → Option Nat} (hS : S 69 = none) (h : RSt D0 D 12 S T) (hx : ∀ D', RSt D0 D' 22 (ax_up S 69 (some 12)) T → ax_WP g (ax_hy 201) K 92 92 29 [some (.ref 58)] [] (ax_S D' E)) : ax_WP g (ax_hy 201) K 92 92 21 [some (.ref 58)] [] (ax_S D E) := by
  have h44 := h.1
  have h45 := h.2.1
  have hp : (0 : Int32) ≤ nI 12 := nI_pos' (by decide)
  have hcl : (nI 12).toNatClampNeg = 12 := nI_clamp (by decide)
  have ha : nI 12 + 10 = nI 22 := by decide
  refine ax_WPo (l := [(199, cy_199r)]) (ax_oc sy_199r ax_on) ax_ok201 (fun t => t == 5 || t == 13 || t == 21 || t == 29 || t == 37 || t == 45 || t == 53 || t == 61 || t == 69 || t == 77 || t == 85 || t == 93 || t == 101 || t == 109 || t == 117 || t == 125 || t == 133 || t == 141 || t == 149 || t == 161 || t == 173 || t == 185 || t == 197 || t == 209) 400 21 rfl ?_
  simp +decide only [↓ax_B, ax_B, ax_kds, ax_gvs, ax_mcs, ax_ia_S, ax_up_ap, ax_vinL, and_self_left, ax_up_up, ax_up_sw, Nat.reduceAdd, Nat.reduceBEq, Nat.reduceLeDiff, Nat.reduceLT, Nat.reduceEqDiff, ↓reduceIte, true_and, and_true, List.cons_append, List.nil_append, Int32.reduceLT, Int32.reduceLE, Int32.reduceAdd, Int32.reduceToNatClampNeg, Int32.reduceOfNat, true_imp_iff, false_imp_iff, not_true_eq_false, not_false_eq_true, or_true, true_or, or_false, false_or, and_self, Bool.or_true, Bool.or_false, Bool.true_or, Bool.false_or, implies_true, forall_const, Bool.false_eq_true, Int32.neg_neg, ry_199r, h44, h45, hp, hcl, ha]
  refine hx _ (RSt_a (n := 10) (q := 69) h (by decide) (by decide) rfl hS ?_ ?_ (fun k x y => ?_))
  · simp only [ax_up_ap, Nat.reduceEqDiff, ↓reduceIte]
  · simp only [ax_up_ap, Nat.reduceEqDiff, ↓reduceIte]
  · simp only [ax_up_ap, x, y, ↓reduceIte]
set_option maxRecDepth 10000 in
theorem lp_201k_29 {g : ax_G} {K : ax_Po} {E : ax_En} {D0 D : ax_Dn} {G : Nat → Int32} (h : KSt D0 D 22 G) (hx : ∀ D', KSt D0 D' 32 (kp_ 22 10 (D0 70) G) → ax_WP g (ax_hy 201) K 92 92 37 [some (.ref 58)] [] (ax_S D' E)) : ax_WP g (ax_hy 201) K 92 92 29 [some (.ref 58)] [] (ax_S D E) := by
  have h44 := h.1
  have h45 := h.2.1
  have hp : (0 : Int32) ≤ nI 22 := nI_pos' (by decide)
  have hcl : (nI 22).toNatClampNeg = 22 := nI_clamp (by decide)
  have ha : nI 22 + 10 = nI 32 := by decide
  refine ax_WPo (l := [(199, cy_199k)]) (ax_oc sy_199k ax_on) ax_ok201 (fun t => t == 5 || t == 13 || t == 21 || t == 29 || t == 37 || t == 45 || t == 53 || t == 61 || t == 69 || t == 77 || t == 85 || t == 93 || t == 101 || t == 109 || t == 117 || t == 125 || t == 133 || t == 141 || t == 149 || t == 161 || t == 173 || t == 185 || t == 197 || t == 209) 400 29 rfl ?_
  simp +decide only [↓ax_B, ax_B, ax_kds, ax_gvs, ax_mcs, ax_ia_S, ax_up_ap, ax_vinL, and_self_left, ax_up_up, ax_up_sw, Nat.reduceAdd, Nat.reduceBEq, Nat.reduceLeDiff, Nat.reduceLT, Nat.reduceEqDiff, ↓reduceIte, true_and, and_true, List.cons_append, List.nil_append, Int32.reduceLT, Int32.reduceLE, Int32.reduceAdd, Int32.reduceToNatClampNeg, Int32.reduceOfNat, true_imp_iff, false_imp_iff, not_true_eq_false, not_false_eq_true, or_true, true_or, or_false, false_or, and_self, Bool.or_true, Bool.or_false, Bool.true_or, Bool.false_or, implies_true, forall_const, Bool.false_eq_true, Int32.neg_neg, ry_199k, h44, h45, hp, hcl, ha]
  refine hx _ (KSt_a (n := 10) (q := 70) h (by decide) (by decide) ?_ ?_ (fun k x y => ?_))
  · simp only [ax_up_ap, Nat.reduceEqDiff, ↓reduceIte]
  · simp only [ax_up_ap, Nat.reduceEqDiff, ↓reduceIte]
  · simp only [ax_up_ap, x, y, ↓reduceIte]
set_option maxRecDepth 10000 in
theorem lp_201r_29 {g : ax_G} {K : ax_Po} {E : ax_En} {D0 D : ax_Dn} {S T : Nat → Option Nat} (hS : S 70 = none) (h : RSt D0 D 22 S T) (hx : ∀ D', RSt D0 D' 32 (ax_up S 70 (some 22)) T → ax_WP g (ax_hy 201) K 92 92 37 [some (.ref 58)] [] (ax_S D' E)) : ax_WP g (ax_hy 201) K 92 92 29 [some (.ref 58)] [] (ax_S D E) := by
  have h44 := h.1
  have h45 := h.2.1
  have hp : (0 : Int32) ≤ nI 22 := nI_pos' (by decide)
  have hcl : (nI 22).toNatClampNeg = 22 := nI_clamp (by decide)
  have ha : nI 22 + 10 = nI 32 := by decide
  refine ax_WPo (l := [(199, cy_199r)]) (ax_oc sy_199r ax_on) ax_ok201 (fun t => t == 5 || t == 13 || t == 21 || t == 29 || t == 37 || t == 45 || t == 53 || t == 61 || t == 69 || t == 77 || t == 85 || t == 93 || t == 101 || t == 109 || t == 117 || t == 125 || t == 133 || t == 141 || t == 149 || t == 161 || t == 173 || t == 185 || t == 197 || t == 209) 400 29 rfl ?_
  simp +decide only [↓ax_B, ax_B, ax_kds, ax_gvs, ax_mcs, ax_ia_S, ax_up_ap, ax_vinL, and_self_left, ax_up_up, ax_up_sw, Nat.reduceAdd, Nat.reduceBEq, Nat.reduceLeDiff, Nat.reduceLT, Nat.reduceEqDiff, ↓reduceIte, true_and, and_true, List.cons_append, List.nil_append, Int32.reduceLT, Int32.reduceLE, Int32.reduceAdd, Int32.reduceToNatClampNeg, Int32.reduceOfNat, true_imp_iff, false_imp_iff, not_true_eq_false, not_false_eq_true, or_true, true_or, or_false, false_or, and_self, Bool.or_true, Bool.or_false, Bool.true_or, Bool.false_or, implies_true, forall_const, Bool.false_eq_true, Int32.neg_neg, ry_199r, h44, h45, hp, hcl, ha]
  refine hx _ (RSt_a (n := 10) (q := 70) h (by decide) (by decide) rfl hS ?_ ?_ (fun k x y => ?_))
  · simp only [ax_up_ap, Nat.reduceEqDiff, ↓reduceIte]
  · simp only [ax_up_ap, Nat.reduceEqDiff, ↓reduceIte]
  · simp only [ax_up_ap, x, y, ↓reduceIte]
set_option maxRecDepth 10000 in
theorem lp_201k_37 {g : ax_G} {K : ax_Po} {E : ax_En} {D0 D : ax_Dn} {G : Nat → Int32} (h : KSt D0 D 32 G) (hx : ∀ D', KSt D0 D' 52 (kp_ 32 20 (D0 71) G) → ax_WP g (ax_hy 201) K 92 92 45 [some (.ref 58)] [] (ax_S D' E)) : ax_WP g (ax_hy 201) K 92 92 37 [some (.ref 58)] [] (ax_S D E) := by
  have h44 := h.1
  have h45 := h.2.1
  have hp : (0 : Int32) ≤ nI 32 := nI_pos' (by decide)
  have hcl : (nI 32).toNatClampNeg = 32 := nI_clamp (by decide)
  have ha : nI 32 + 20 = nI 52 := by decide
  refine ax_WPo (l := [(199, cy_199k)]) (ax_oc sy_199k ax_on) ax_ok201 (fun t => t == 5 || t == 13 || t == 21 || t == 29 || t == 37 || t == 45 || t == 53 || t == 61 || t == 69 || t == 77 || t == 85 || t == 93 || t == 101 || t == 109 || t == 117 || t == 125 || t == 133 || t == 141 || t == 149 || t == 161 || t == 173 || t == 185 || t == 197 || t == 209) 400 37 rfl ?_
  simp +decide only [↓ax_B, ax_B, ax_kds, ax_gvs, ax_mcs, ax_ia_S, ax_up_ap, ax_vinL, and_self_left, ax_up_up, ax_up_sw, Nat.reduceAdd, Nat.reduceBEq, Nat.reduceLeDiff, Nat.reduceLT, Nat.reduceEqDiff, ↓reduceIte, true_and, and_true, List.cons_append, List.nil_append, Int32.reduceLT, Int32.reduceLE, Int32.reduceAdd, Int32.reduceToNatClampNeg, Int32.reduceOfNat, true_imp_iff, false_imp_iff, not_true_eq_false, not_false_eq_true, or_true, true_or, or_false, false_or, and_self, Bool.or_true, Bool.or_false, Bool.true_or, Bool.false_or, implies_true, forall_const, Bool.false_eq_true, Int32.neg_neg, ry_199k, h44, h45, hp, hcl, ha]
  refine hx _ (KSt_a (n := 20) (q := 71) h (by decide) (by decide) ?_ ?_ (fun k x y => ?_))
  · simp only [ax_up_ap, Nat.reduceEqDiff, ↓reduceIte]
  · simp only [ax_up_ap, Nat.reduceEqDiff, ↓reduceIte]
  · simp only [ax_up_ap, x, y, ↓reduceIte]
set_option maxRecDepth 10000 in
theorem lp_201r_37 {g : ax_G} {K : ax_Po} {E : ax_En} {D0 D : ax_Dn} {S T : Nat → Option Nat} (hS : S 71 = none) (h : RSt D0 D 32 S T) (hx : ∀ D', RSt D0 D' 52 (ax_up S 71 (some 32)) T → ax_WP g (ax_hy 201) K 92 92 45 [some (.ref 58)] [] (ax_S D' E)) : ax_WP g (ax_hy 201) K 92 92 37 [some (.ref 58)] [] (ax_S D E) := by
  have h44 := h.1
  have h45 := h.2.1
  have hp : (0 : Int32) ≤ nI 32 := nI_pos' (by decide)
  have hcl : (nI 32).toNatClampNeg = 32 := nI_clamp (by decide)
  have ha : nI 32 + 20 = nI 52 := by decide
  refine ax_WPo (l := [(199, cy_199r)]) (ax_oc sy_199r ax_on) ax_ok201 (fun t => t == 5 || t == 13 || t == 21 || t == 29 || t == 37 || t == 45 || t == 53 || t == 61 || t == 69 || t == 77 || t == 85 || t == 93 || t == 101 || t == 109 || t == 117 || t == 125 || t == 133 || t == 141 || t == 149 || t == 161 || t == 173 || t == 185 || t == 197 || t == 209) 400 37 rfl ?_
  simp +decide only [↓ax_B, ax_B, ax_kds, ax_gvs, ax_mcs, ax_ia_S, ax_up_ap, ax_vinL, and_self_left, ax_up_up, ax_up_sw, Nat.reduceAdd, Nat.reduceBEq, Nat.reduceLeDiff, Nat.reduceLT, Nat.reduceEqDiff, ↓reduceIte, true_and, and_true, List.cons_append, List.nil_append, Int32.reduceLT, Int32.reduceLE, Int32.reduceAdd, Int32.reduceToNatClampNeg, Int32.reduceOfNat, true_imp_iff, false_imp_iff, not_true_eq_false, not_false_eq_true, or_true, true_or, or_false, false_or, and_self, Bool.or_true, Bool.or_false, Bool.true_or, Bool.false_or, implies_true, forall_const, Bool.false_eq_true, Int32.neg_neg, ry_199r, h44, h45, hp, hcl, ha]
  refine hx _ (RSt_a (n := 20) (q := 71) h (by decide) (by decide) rfl hS ?_ ?_ (fun k x y => ?_))
  · simp only [ax_up_ap, Nat.reduceEqDiff, ↓reduceIte]
  · simp only [ax_up_ap, Nat.reduceEqDiff, ↓reduceIte]
  · simp only [ax_up_ap, x, y, ↓reduceIte]
set_option maxRecDepth 10000 in
theorem lp_201k_45 {g : ax_G} {K : ax_Po} {E : ax_En} {D0 D : ax_Dn} {G : Nat → Int32} (h : KSt D0 D 52 G) (hx : ∀ D', KSt D0 D' 72 (kp_ 52 20 (D0 72) G) → ax_WP g (ax_hy 201) K 92 92 53 [some (.ref 58)] [] (ax_S D' E)) : ax_WP g (ax_hy 201) K 92 92 45 [some (.ref 58)] [] (ax_S D E) := by
  have h44 := h.1
  have h45 := h.2.1
  have hp : (0 : Int32) ≤ nI 52 := nI_pos' (by decide)
  have hcl : (nI 52).toNatClampNeg = 52 := nI_clamp (by decide)
  have ha : nI 52 + 20 = nI 72 := by decide
  refine ax_WPo (l := [(199, cy_199k)]) (ax_oc sy_199k ax_on) ax_ok201 (fun t => t == 5 || t == 13 || t == 21 || t == 29 || t == 37 || t == 45 || t == 53 || t == 61 || t == 69 || t == 77 || t == 85 || t == 93 || t == 101 || t == 109 || t == 117 || t == 125 || t == 133 || t == 141 || t == 149 || t == 161 || t == 173 || t == 185 || t == 197 || t == 209) 400 45 rfl ?_
  simp +decide only [↓ax_B, ax_B, ax_kds, ax_gvs, ax_mcs, ax_ia_S, ax_up_ap, ax_vinL, and_self_left, ax_up_up, ax_up_sw, Nat.reduceAdd, Nat.reduceBEq, Nat.reduceLeDiff, Nat.reduceLT, Nat.reduceEqDiff, ↓reduceIte, true_and, and_true, List.cons_append, List.nil_append, Int32.reduceLT, Int32.reduceLE, Int32.reduceAdd, Int32.reduceToNatClampNeg, Int32.reduceOfNat, true_imp_iff, false_imp_iff, not_true_eq_false, not_false_eq_true, or_true, true_or, or_false, false_or, and_self, Bool.or_true, Bool.or_false, Bool.true_or, Bool.false_or, implies_true, forall_const, Bool.false_eq_true, Int32.neg_neg, ry_199k, h44, h45, hp, hcl, ha]
  refine hx _ (KSt_a (n := 20) (q := 72) h (by decide) (by decide) ?_ ?_ (fun k x y => ?_))
  · simp only [ax_up_ap, Nat.reduceEqDiff, ↓reduceIte]
  · simp only [ax_up_ap, Nat.reduceEqDiff, ↓reduceIte]
  · simp only [ax_up_ap, x, y, ↓reduceIte]
set_option maxRecDepth 10000 in
theorem lp_201r_45 {g : ax_G} {K : ax_Po} {E : ax_En} {D0 D : ax_Dn} {S T : Nat → Option Nat} (hS : S 72 = none) (h : RSt D0 D 52 S T) (hx : ∀ D', RSt D0 D' 72 (ax_up S 72 (some 52)) T → ax_WP g (ax_hy 201) K 92 92 53 [some (.ref 58)] [] (ax_S D' E)) : ax_WP g (ax_hy 201) K 92 92 45 [some (.ref 58)] [] (ax_S D E) := by
  have h44 := h.1
  have h45 := h.2.1
  have hp : (0 : Int32) ≤ nI 52 := nI_pos' (by decide)
  have hcl : (nI 52).toNatClampNeg = 52 := nI_clamp (by decide)
  have ha : nI 52 + 20 = nI 72 := by decide
  refine ax_WPo (l := [(199, cy_199r)]) (ax_oc sy_199r ax_on) ax_ok201 (fun t => t == 5 || t == 13 || t == 21 || t == 29 || t == 37 || t == 45 || t == 53 || t == 61 || t == 69 || t == 77 || t == 85 || t == 93 || t == 101 || t == 109 || t == 117 || t == 125 || t == 133 || t == 141 || t == 149 || t == 161 || t == 173 || t == 185 || t == 197 || t == 209) 400 45 rfl ?_
  simp +decide only [↓ax_B, ax_B, ax_kds, ax_gvs, ax_mcs, ax_ia_S, ax_up_ap, ax_vinL, and_self_left, ax_up_up, ax_up_sw, Nat.reduceAdd, Nat.reduceBEq, Nat.reduceLeDiff, Nat.reduceLT, Nat.reduceEqDiff, ↓reduceIte, true_and, and_true, List.cons_append, List.nil_append, Int32.reduceLT, Int32.reduceLE, Int32.reduceAdd, Int32.reduceToNatClampNeg, Int32.reduceOfNat, true_imp_iff, false_imp_iff, not_true_eq_false, not_false_eq_true, or_true, true_or, or_false, false_or, and_self, Bool.or_true, Bool.or_false, Bool.true_or, Bool.false_or, implies_true, forall_const, Bool.false_eq_true, Int32.neg_neg, ry_199r, h44, h45, hp, hcl, ha]
  refine hx _ (RSt_a (n := 20) (q := 72) h (by decide) (by decide) rfl hS ?_ ?_ (fun k x y => ?_))
  · simp only [ax_up_ap, Nat.reduceEqDiff, ↓reduceIte]
  · simp only [ax_up_ap, Nat.reduceEqDiff, ↓reduceIte]
  · simp only [ax_up_ap, x, y, ↓reduceIte]
set_option maxRecDepth 10000 in
theorem lp_201k_53 {g : ax_G} {K : ax_Po} {E : ax_En} {D0 D : ax_Dn} {G : Nat → Int32} (h : KSt D0 D 72 G) (hx : ∀ D', KSt D0 D' 92 (kp_ 72 20 (D0 73) G) → ax_WP g (ax_hy 201) K 92 92 61 [some (.ref 58)] [] (ax_S D' E)) : ax_WP g (ax_hy 201) K 92 92 53 [some (.ref 58)] [] (ax_S D E) := by
  have h44 := h.1
  have h45 := h.2.1
  have hp : (0 : Int32) ≤ nI 72 := nI_pos' (by decide)
  have hcl : (nI 72).toNatClampNeg = 72 := nI_clamp (by decide)
  have ha : nI 72 + 20 = nI 92 := by decide
  refine ax_WPo (l := [(199, cy_199k)]) (ax_oc sy_199k ax_on) ax_ok201 (fun t => t == 5 || t == 13 || t == 21 || t == 29 || t == 37 || t == 45 || t == 53 || t == 61 || t == 69 || t == 77 || t == 85 || t == 93 || t == 101 || t == 109 || t == 117 || t == 125 || t == 133 || t == 141 || t == 149 || t == 161 || t == 173 || t == 185 || t == 197 || t == 209) 400 53 rfl ?_
  simp +decide only [↓ax_B, ax_B, ax_kds, ax_gvs, ax_mcs, ax_ia_S, ax_up_ap, ax_vinL, and_self_left, ax_up_up, ax_up_sw, Nat.reduceAdd, Nat.reduceBEq, Nat.reduceLeDiff, Nat.reduceLT, Nat.reduceEqDiff, ↓reduceIte, true_and, and_true, List.cons_append, List.nil_append, Int32.reduceLT, Int32.reduceLE, Int32.reduceAdd, Int32.reduceToNatClampNeg, Int32.reduceOfNat, true_imp_iff, false_imp_iff, not_true_eq_false, not_false_eq_true, or_true, true_or, or_false, false_or, and_self, Bool.or_true, Bool.or_false, Bool.true_or, Bool.false_or, implies_true, forall_const, Bool.false_eq_true, Int32.neg_neg, ry_199k, h44, h45, hp, hcl, ha]
  refine hx _ (KSt_a (n := 20) (q := 73) h (by decide) (by decide) ?_ ?_ (fun k x y => ?_))
  · simp only [ax_up_ap, Nat.reduceEqDiff, ↓reduceIte]
  · simp only [ax_up_ap, Nat.reduceEqDiff, ↓reduceIte]
  · simp only [ax_up_ap, x, y, ↓reduceIte]
set_option maxRecDepth 10000 in
theorem lp_201r_53 {g : ax_G} {K : ax_Po} {E : ax_En} {D0 D : ax_Dn} {S T : Nat → Option Nat} (hS : S 73 = none) (h : RSt D0 D 72 S T) (hx : ∀ D', RSt D0 D' 92 (ax_up S 73 (some 72)) T → ax_WP g (ax_hy 201) K 92 92 61 [some (.ref 58)] [] (ax_S D' E)) : ax_WP g (ax_hy 201) K 92 92 53 [some (.ref 58)] [] (ax_S D E) := by
  have h44 := h.1
  have h45 := h.2.1
  have hp : (0 : Int32) ≤ nI 72 := nI_pos' (by decide)
  have hcl : (nI 72).toNatClampNeg = 72 := nI_clamp (by decide)
  have ha : nI 72 + 20 = nI 92 := by decide
  refine ax_WPo (l := [(199, cy_199r)]) (ax_oc sy_199r ax_on) ax_ok201 (fun t => t == 5 || t == 13 || t == 21 || t == 29 || t == 37 || t == 45 || t == 53 || t == 61 || t == 69 || t == 77 || t == 85 || t == 93 || t == 101 || t == 109 || t == 117 || t == 125 || t == 133 || t == 141 || t == 149 || t == 161 || t == 173 || t == 185 || t == 197 || t == 209) 400 53 rfl ?_
  simp +decide only [↓ax_B, ax_B, ax_kds, ax_gvs, ax_mcs, ax_ia_S, ax_up_ap, ax_vinL, and_self_left, ax_up_up, ax_up_sw, Nat.reduceAdd, Nat.reduceBEq, Nat.reduceLeDiff, Nat.reduceLT, Nat.reduceEqDiff, ↓reduceIte, true_and, and_true, List.cons_append, List.nil_append, Int32.reduceLT, Int32.reduceLE, Int32.reduceAdd, Int32.reduceToNatClampNeg, Int32.reduceOfNat, true_imp_iff, false_imp_iff, not_true_eq_false, not_false_eq_true, or_true, true_or, or_false, false_or, and_self, Bool.or_true, Bool.or_false, Bool.true_or, Bool.false_or, implies_true, forall_const, Bool.false_eq_true, Int32.neg_neg, ry_199r, h44, h45, hp, hcl, ha]
  refine hx _ (RSt_a (n := 20) (q := 73) h (by decide) (by decide) rfl hS ?_ ?_ (fun k x y => ?_))
  · simp only [ax_up_ap, Nat.reduceEqDiff, ↓reduceIte]
  · simp only [ax_up_ap, Nat.reduceEqDiff, ↓reduceIte]
  · simp only [ax_up_ap, x, y, ↓reduceIte]
set_option maxRecDepth 10000 in
theorem lp_201k_61 {g : ax_G} {K : ax_Po} {E : ax_En} {D0 D : ax_Dn} {G : Nat → Int32} (h : KSt D0 D 92 G) (hx : ∀ D', KSt D0 D' 112 (kp_ 92 20 (D0 74) G) → ax_WP g (ax_hy 201) K 92 92 69 [some (.ref 58)] [] (ax_S D' E)) : ax_WP g (ax_hy 201) K 92 92 61 [some (.ref 58)] [] (ax_S D E) := by
  have h44 := h.1
  have h45 := h.2.1
  have hp : (0 : Int32) ≤ nI 92 := nI_pos' (by decide)
  have hcl : (nI 92).toNatClampNeg = 92 := nI_clamp (by decide)
  have ha : nI 92 + 20 = nI 112 := by decide
  refine ax_WPo (l := [(199, cy_199k)]) (ax_oc sy_199k ax_on) ax_ok201 (fun t => t == 5 || t == 13 || t == 21 || t == 29 || t == 37 || t == 45 || t == 53 || t == 61 || t == 69 || t == 77 || t == 85 || t == 93 || t == 101 || t == 109 || t == 117 || t == 125 || t == 133 || t == 141 || t == 149 || t == 161 || t == 173 || t == 185 || t == 197 || t == 209) 400 61 rfl ?_
  simp +decide only [↓ax_B, ax_B, ax_kds, ax_gvs, ax_mcs, ax_ia_S, ax_up_ap, ax_vinL, and_self_left, ax_up_up, ax_up_sw, Nat.reduceAdd, Nat.reduceBEq, Nat.reduceLeDiff, Nat.reduceLT, Nat.reduceEqDiff, ↓reduceIte, true_and, and_true, List.cons_append, List.nil_append, Int32.reduceLT, Int32.reduceLE, Int32.reduceAdd, Int32.reduceToNatClampNeg, Int32.reduceOfNat, true_imp_iff, false_imp_iff, not_true_eq_false, not_false_eq_true, or_true, true_or, or_false, false_or, and_self, Bool.or_true, Bool.or_false, Bool.true_or, Bool.false_or, implies_true, forall_const, Bool.false_eq_true, Int32.neg_neg, ry_199k, h44, h45, hp, hcl, ha]
  refine hx _ (KSt_a (n := 20) (q := 74) h (by decide) (by decide) ?_ ?_ (fun k x y => ?_))
  · simp only [ax_up_ap, Nat.reduceEqDiff, ↓reduceIte]
  · simp only [ax_up_ap, Nat.reduceEqDiff, ↓reduceIte]
  · simp only [ax_up_ap, x, y, ↓reduceIte]
set_option maxRecDepth 10000 in
theorem lp_201r_61 {g : ax_G} {K : ax_Po} {E : ax_En} {D0 D : ax_Dn} {S T : Nat → Option Nat} (hS : S 74 = none) (h : RSt D0 D 92 S T) (hx : ∀ D', RSt D0 D' 112 (ax_up S 74 (some 92)) T → ax_WP g (ax_hy 201) K 92 92 69 [some (.ref 58)] [] (ax_S D' E)) : ax_WP g (ax_hy 201) K 92 92 61 [some (.ref 58)] [] (ax_S D E) := by
  have h44 := h.1
  have h45 := h.2.1
  have hp : (0 : Int32) ≤ nI 92 := nI_pos' (by decide)
  have hcl : (nI 92).toNatClampNeg = 92 := nI_clamp (by decide)
  have ha : nI 92 + 20 = nI 112 := by decide
  refine ax_WPo (l := [(199, cy_199r)]) (ax_oc sy_199r ax_on) ax_ok201 (fun t => t == 5 || t == 13 || t == 21 || t == 29 || t == 37 || t == 45 || t == 53 || t == 61 || t == 69 || t == 77 || t == 85 || t == 93 || t == 101 || t == 109 || t == 117 || t == 125 || t == 133 || t == 141 || t == 149 || t == 161 || t == 173 || t == 185 || t == 197 || t == 209) 400 61 rfl ?_
  simp +decide only [↓ax_B, ax_B, ax_kds, ax_gvs, ax_mcs, ax_ia_S, ax_up_ap, ax_vinL, and_self_left, ax_up_up, ax_up_sw, Nat.reduceAdd, Nat.reduceBEq, Nat.reduceLeDiff, Nat.reduceLT, Nat.reduceEqDiff, ↓reduceIte, true_and, and_true, List.cons_append, List.nil_append, Int32.reduceLT, Int32.reduceLE, Int32.reduceAdd, Int32.reduceToNatClampNeg, Int32.reduceOfNat, true_imp_iff, false_imp_iff, not_true_eq_false, not_false_eq_true, or_true, true_or, or_false, false_or, and_self, Bool.or_true, Bool.or_false, Bool.true_or, Bool.false_or, implies_true, forall_const, Bool.false_eq_true, Int32.neg_neg, ry_199r, h44, h45, hp, hcl, ha]
  refine hx _ (RSt_a (n := 20) (q := 74) h (by decide) (by decide) rfl hS ?_ ?_ (fun k x y => ?_))
  · simp only [ax_up_ap, Nat.reduceEqDiff, ↓reduceIte]
  · simp only [ax_up_ap, Nat.reduceEqDiff, ↓reduceIte]
  · simp only [ax_up_ap, x, y, ↓reduceIte]
set_option maxRecDepth 10000 in
theorem lp_201k_69 {g : ax_G} {K : ax_Po} {E : ax_En} {D0 D : ax_Dn} {G : Nat → Int32} (h : KSt D0 D 112 G) (hx : ∀ D', KSt D0 D' 132 (kp_ 112 20 (D0 75) G) → ax_WP g (ax_hy 201) K 92 92 77 [some (.ref 58)] [] (ax_S D' E)) : ax_WP g (ax_hy 201) K 92 92 69 [some (.ref 58)] [] (ax_S D E) := by
  have h44 := h.1
  have h45 := h.2.1
  have hp : (0 : Int32) ≤ nI 112 := nI_pos' (by decide)
  have hcl : (nI 112).toNatClampNeg = 112 := nI_clamp (by decide)
  have ha : nI 112 + 20 = nI 132 := by decide
  refine ax_WPo (l := [(199, cy_199k)]) (ax_oc sy_199k ax_on) ax_ok201 (fun t => t == 5 || t == 13 || t == 21 || t == 29 || t == 37 || t == 45 || t == 53 || t == 61 || t == 69 || t == 77 || t == 85 || t == 93 || t == 101 || t == 109 || t == 117 || t == 125 || t == 133 || t == 141 || t == 149 || t == 161 || t == 173 || t == 185 || t == 197 || t == 209) 400 69 rfl ?_
  simp +decide only [↓ax_B, ax_B, ax_kds, ax_gvs, ax_mcs, ax_ia_S, ax_up_ap, ax_vinL, and_self_left, ax_up_up, ax_up_sw, Nat.reduceAdd, Nat.reduceBEq, Nat.reduceLeDiff, Nat.reduceLT, Nat.reduceEqDiff, ↓reduceIte, true_and, and_true, List.cons_append, List.nil_append, Int32.reduceLT, Int32.reduceLE, Int32.reduceAdd, Int32.reduceToNatClampNeg, Int32.reduceOfNat, true_imp_iff, false_imp_iff, not_true_eq_false, not_false_eq_true, or_true, true_or, or_false, false_or, and_self, Bool.or_true, Bool.or_false, Bool.true_or, Bool.false_or, implies_true, forall_const, Bool.false_eq_true, Int32.neg_neg, ry_199k, h44, h45, hp, hcl, ha]
  refine hx _ (KSt_a (n := 20) (q := 75) h (by decide) (by decide) ?_ ?_ (fun k x y => ?_))
  · simp only [ax_up_ap, Nat.reduceEqDiff, ↓reduceIte]
  · simp only [ax_up_ap, Nat.reduceEqDiff, ↓reduceIte]
  · simp only [ax_up_ap, x, y, ↓reduceIte]
set_option maxRecDepth 10000 in
theorem lp_201r_69 {g : ax_G} {K : ax_Po} {E : ax_En} {D0 D : ax_Dn} {S T : Nat → Option Nat} (hS : S 75 = none) (h : RSt D0 D 112 S T) (hx : ∀ D', RSt D0 D' 132 (ax_up S 75 (some 112)) T → ax_WP g (ax_hy 201) K 92 92 77 [some (.ref 58)] [] (ax_S D' E)) : ax_WP g (ax_hy 201) K 92 92 69 [some (.ref 58)] [] (ax_S D E) := by
  have h44 := h.1
  have h45 := h.2.1
  have hp : (0 : Int32) ≤ nI 112 := nI_pos' (by decide)
  have hcl : (nI 112).toNatClampNeg = 112 := nI_clamp (by decide)
  have ha : nI 112 + 20 = nI 132 := by decide
  refine ax_WPo (l := [(199, cy_199r)]) (ax_oc sy_199r ax_on) ax_ok201 (fun t => t == 5 || t == 13 || t == 21 || t == 29 || t == 37 || t == 45 || t == 53 || t == 61 || t == 69 || t == 77 || t == 85 || t == 93 || t == 101 || t == 109 || t == 117 || t == 125 || t == 133 || t == 141 || t == 149 || t == 161 || t == 173 || t == 185 || t == 197 || t == 209) 400 69 rfl ?_
  simp +decide only [↓ax_B, ax_B, ax_kds, ax_gvs, ax_mcs, ax_ia_S, ax_up_ap, ax_vinL, and_self_left, ax_up_up, ax_up_sw, Nat.reduceAdd, Nat.reduceBEq, Nat.reduceLeDiff, Nat.reduceLT, Nat.reduceEqDiff, ↓reduceIte, true_and, and_true, List.cons_append, List.nil_append, Int32.reduceLT, Int32.reduceLE, Int32.reduceAdd, Int32.reduceToNatClampNeg, Int32.reduceOfNat, true_imp_iff, false_imp_iff, not_true_eq_false, not_false_eq_true, or_true, true_or, or_false, false_or, and_self, Bool.or_true, Bool.or_false, Bool.true_or, Bool.false_or, implies_true, forall_const, Bool.false_eq_true, Int32.neg_neg, ry_199r, h44, h45, hp, hcl, ha]
  refine hx _ (RSt_a (n := 20) (q := 75) h (by decide) (by decide) rfl hS ?_ ?_ (fun k x y => ?_))
  · simp only [ax_up_ap, Nat.reduceEqDiff, ↓reduceIte]
  · simp only [ax_up_ap, Nat.reduceEqDiff, ↓reduceIte]
  · simp only [ax_up_ap, x, y, ↓reduceIte]
set_option maxRecDepth 10000 in
theorem lp_201k_77 {g : ax_G} {K : ax_Po} {E : ax_En} {D0 D : ax_Dn} {G : Nat → Int32} (h : KSt D0 D 132 G) (hx : ∀ D', KSt D0 D' 137 (kp_ 132 5 (D0 76) G) → ax_WP g (ax_hy 201) K 92 92 85 [some (.ref 58)] [] (ax_S D' E)) : ax_WP g (ax_hy 201) K 92 92 77 [some (.ref 58)] [] (ax_S D E) := by
  have h44 := h.1
  have h45 := h.2.1
  have hp : (0 : Int32) ≤ nI 132 := nI_pos' (by decide)
  have hcl : (nI 132).toNatClampNeg = 132 := nI_clamp (by decide)
  have ha : nI 132 + 5 = nI 137 := by decide
  refine ax_WPo (l := [(199, cy_199k)]) (ax_oc sy_199k ax_on) ax_ok201 (fun t => t == 5 || t == 13 || t == 21 || t == 29 || t == 37 || t == 45 || t == 53 || t == 61 || t == 69 || t == 77 || t == 85 || t == 93 || t == 101 || t == 109 || t == 117 || t == 125 || t == 133 || t == 141 || t == 149 || t == 161 || t == 173 || t == 185 || t == 197 || t == 209) 400 77 rfl ?_
  simp +decide only [↓ax_B, ax_B, ax_kds, ax_gvs, ax_mcs, ax_ia_S, ax_up_ap, ax_vinL, and_self_left, ax_up_up, ax_up_sw, Nat.reduceAdd, Nat.reduceBEq, Nat.reduceLeDiff, Nat.reduceLT, Nat.reduceEqDiff, ↓reduceIte, true_and, and_true, List.cons_append, List.nil_append, Int32.reduceLT, Int32.reduceLE, Int32.reduceAdd, Int32.reduceToNatClampNeg, Int32.reduceOfNat, true_imp_iff, false_imp_iff, not_true_eq_false, not_false_eq_true, or_true, true_or, or_false, false_or, and_self, Bool.or_true, Bool.or_false, Bool.true_or, Bool.false_or, implies_true, forall_const, Bool.false_eq_true, Int32.neg_neg, ry_199k, h44, h45, hp, hcl, ha]
  refine hx _ (KSt_a (n := 5) (q := 76) h (by decide) (by decide) ?_ ?_ (fun k x y => ?_))
  · simp only [ax_up_ap, Nat.reduceEqDiff, ↓reduceIte]
  · simp only [ax_up_ap, Nat.reduceEqDiff, ↓reduceIte]
  · simp only [ax_up_ap, x, y, ↓reduceIte]
set_option maxRecDepth 10000 in
theorem lp_201r_77 {g : ax_G} {K : ax_Po} {E : ax_En} {D0 D : ax_Dn} {S T : Nat → Option Nat} (hS : S 76 = none) (h : RSt D0 D 132 S T) (hx : ∀ D', RSt D0 D' 137 (ax_up S 76 (some 132)) T → ax_WP g (ax_hy 201) K 92 92 85 [some (.ref 58)] [] (ax_S D' E)) : ax_WP g (ax_hy 201) K 92 92 77 [some (.ref 58)] [] (ax_S D E) := by
  have h44 := h.1
  have h45 := h.2.1
  have hp : (0 : Int32) ≤ nI 132 := nI_pos' (by decide)
  have hcl : (nI 132).toNatClampNeg = 132 := nI_clamp (by decide)
  have ha : nI 132 + 5 = nI 137 := by decide
  refine ax_WPo (l := [(199, cy_199r)]) (ax_oc sy_199r ax_on) ax_ok201 (fun t => t == 5 || t == 13 || t == 21 || t == 29 || t == 37 || t == 45 || t == 53 || t == 61 || t == 69 || t == 77 || t == 85 || t == 93 || t == 101 || t == 109 || t == 117 || t == 125 || t == 133 || t == 141 || t == 149 || t == 161 || t == 173 || t == 185 || t == 197 || t == 209) 400 77 rfl ?_
  simp +decide only [↓ax_B, ax_B, ax_kds, ax_gvs, ax_mcs, ax_ia_S, ax_up_ap, ax_vinL, and_self_left, ax_up_up, ax_up_sw, Nat.reduceAdd, Nat.reduceBEq, Nat.reduceLeDiff, Nat.reduceLT, Nat.reduceEqDiff, ↓reduceIte, true_and, and_true, List.cons_append, List.nil_append, Int32.reduceLT, Int32.reduceLE, Int32.reduceAdd, Int32.reduceToNatClampNeg, Int32.reduceOfNat, true_imp_iff, false_imp_iff, not_true_eq_false, not_false_eq_true, or_true, true_or, or_false, false_or, and_self, Bool.or_true, Bool.or_false, Bool.true_or, Bool.false_or, implies_true, forall_const, Bool.false_eq_true, Int32.neg_neg, ry_199r, h44, h45, hp, hcl, ha]
  refine hx _ (RSt_a (n := 5) (q := 76) h (by decide) (by decide) rfl hS ?_ ?_ (fun k x y => ?_))
  · simp only [ax_up_ap, Nat.reduceEqDiff, ↓reduceIte]
  · simp only [ax_up_ap, Nat.reduceEqDiff, ↓reduceIte]
  · simp only [ax_up_ap, x, y, ↓reduceIte]
set_option maxRecDepth 10000 in
theorem lp_201k_85 {g : ax_G} {K : ax_Po} {E : ax_En} {D0 D : ax_Dn} {G : Nat → Int32} (h : KSt D0 D 137 G) (hx : ∀ D', KSt D0 D' 167 (kp_ 137 30 (D0 81) G) → ax_WP g (ax_hy 201) K 92 92 93 [some (.ref 58)] [] (ax_S D' E)) : ax_WP g (ax_hy 201) K 92 92 85 [some (.ref 58)] [] (ax_S D E) := by
  have h44 := h.1
  have h45 := h.2.1
  have hp : (0 : Int32) ≤ nI 137 := nI_pos' (by decide)
  have hcl : (nI 137).toNatClampNeg = 137 := nI_clamp (by decide)
  have ha : nI 137 + 30 = nI 167 := by decide
  refine ax_WPo (l := [(199, cy_199k)]) (ax_oc sy_199k ax_on) ax_ok201 (fun t => t == 5 || t == 13 || t == 21 || t == 29 || t == 37 || t == 45 || t == 53 || t == 61 || t == 69 || t == 77 || t == 85 || t == 93 || t == 101 || t == 109 || t == 117 || t == 125 || t == 133 || t == 141 || t == 149 || t == 161 || t == 173 || t == 185 || t == 197 || t == 209) 400 85 rfl ?_
  simp +decide only [↓ax_B, ax_B, ax_kds, ax_gvs, ax_mcs, ax_ia_S, ax_up_ap, ax_vinL, and_self_left, ax_up_up, ax_up_sw, Nat.reduceAdd, Nat.reduceBEq, Nat.reduceLeDiff, Nat.reduceLT, Nat.reduceEqDiff, ↓reduceIte, true_and, and_true, List.cons_append, List.nil_append, Int32.reduceLT, Int32.reduceLE, Int32.reduceAdd, Int32.reduceToNatClampNeg, Int32.reduceOfNat, true_imp_iff, false_imp_iff, not_true_eq_false, not_false_eq_true, or_true, true_or, or_false, false_or, and_self, Bool.or_true, Bool.or_false, Bool.true_or, Bool.false_or, implies_true, forall_const, Bool.false_eq_true, Int32.neg_neg, ry_199k, h44, h45, hp, hcl, ha]
  refine hx _ (KSt_a (n := 30) (q := 81) h (by decide) (by decide) ?_ ?_ (fun k x y => ?_))
  · simp only [ax_up_ap, Nat.reduceEqDiff, ↓reduceIte]
  · simp only [ax_up_ap, Nat.reduceEqDiff, ↓reduceIte]
  · simp only [ax_up_ap, x, y, ↓reduceIte]
set_option maxRecDepth 10000 in
theorem lp_201r_85 {g : ax_G} {K : ax_Po} {E : ax_En} {D0 D : ax_Dn} {S T : Nat → Option Nat} (hS : S 81 = none) (h : RSt D0 D 137 S T) (hx : ∀ D', RSt D0 D' 167 (ax_up S 81 (some 137)) T → ax_WP g (ax_hy 201) K 92 92 93 [some (.ref 58)] [] (ax_S D' E)) : ax_WP g (ax_hy 201) K 92 92 85 [some (.ref 58)] [] (ax_S D E) := by
  have h44 := h.1
  have h45 := h.2.1
  have hp : (0 : Int32) ≤ nI 137 := nI_pos' (by decide)
  have hcl : (nI 137).toNatClampNeg = 137 := nI_clamp (by decide)
  have ha : nI 137 + 30 = nI 167 := by decide
  refine ax_WPo (l := [(199, cy_199r)]) (ax_oc sy_199r ax_on) ax_ok201 (fun t => t == 5 || t == 13 || t == 21 || t == 29 || t == 37 || t == 45 || t == 53 || t == 61 || t == 69 || t == 77 || t == 85 || t == 93 || t == 101 || t == 109 || t == 117 || t == 125 || t == 133 || t == 141 || t == 149 || t == 161 || t == 173 || t == 185 || t == 197 || t == 209) 400 85 rfl ?_
  simp +decide only [↓ax_B, ax_B, ax_kds, ax_gvs, ax_mcs, ax_ia_S, ax_up_ap, ax_vinL, and_self_left, ax_up_up, ax_up_sw, Nat.reduceAdd, Nat.reduceBEq, Nat.reduceLeDiff, Nat.reduceLT, Nat.reduceEqDiff, ↓reduceIte, true_and, and_true, List.cons_append, List.nil_append, Int32.reduceLT, Int32.reduceLE, Int32.reduceAdd, Int32.reduceToNatClampNeg, Int32.reduceOfNat, true_imp_iff, false_imp_iff, not_true_eq_false, not_false_eq_true, or_true, true_or, or_false, false_or, and_self, Bool.or_true, Bool.or_false, Bool.true_or, Bool.false_or, implies_true, forall_const, Bool.false_eq_true, Int32.neg_neg, ry_199r, h44, h45, hp, hcl, ha]
  refine hx _ (RSt_a (n := 30) (q := 81) h (by decide) (by decide) rfl hS ?_ ?_ (fun k x y => ?_))
  · simp only [ax_up_ap, Nat.reduceEqDiff, ↓reduceIte]
  · simp only [ax_up_ap, Nat.reduceEqDiff, ↓reduceIte]
  · simp only [ax_up_ap, x, y, ↓reduceIte]
set_option maxRecDepth 10000 in
theorem lp_201k_93 {g : ax_G} {K : ax_Po} {E : ax_En} {D0 D : ax_Dn} {G : Nat → Int32} (h : KSt D0 D 167 G) (hx : ∀ D', KSt D0 D' 197 (kp_ 167 30 (D0 82) G) → ax_WP g (ax_hy 201) K 92 92 101 [some (.ref 58)] [] (ax_S D' E)) : ax_WP g (ax_hy 201) K 92 92 93 [some (.ref 58)] [] (ax_S D E) := by
  have h44 := h.1
  have h45 := h.2.1
  have hp : (0 : Int32) ≤ nI 167 := nI_pos' (by decide)
  have hcl : (nI 167).toNatClampNeg = 167 := nI_clamp (by decide)
  have ha : nI 167 + 30 = nI 197 := by decide
  refine ax_WPo (l := [(199, cy_199k)]) (ax_oc sy_199k ax_on) ax_ok201 (fun t => t == 5 || t == 13 || t == 21 || t == 29 || t == 37 || t == 45 || t == 53 || t == 61 || t == 69 || t == 77 || t == 85 || t == 93 || t == 101 || t == 109 || t == 117 || t == 125 || t == 133 || t == 141 || t == 149 || t == 161 || t == 173 || t == 185 || t == 197 || t == 209) 400 93 rfl ?_
  simp +decide only [↓ax_B, ax_B, ax_kds, ax_gvs, ax_mcs, ax_ia_S, ax_up_ap, ax_vinL, and_self_left, ax_up_up, ax_up_sw, Nat.reduceAdd, Nat.reduceBEq, Nat.reduceLeDiff, Nat.reduceLT, Nat.reduceEqDiff, ↓reduceIte, true_and, and_true, List.cons_append, List.nil_append, Int32.reduceLT, Int32.reduceLE, Int32.reduceAdd, Int32.reduceToNatClampNeg, Int32.reduceOfNat, true_imp_iff, false_imp_iff, not_true_eq_false, not_false_eq_true, or_true, true_or, or_false, false_or, and_self, Bool.or_true, Bool.or_false, Bool.true_or, Bool.false_or, implies_true, forall_const, Bool.false_eq_true, Int32.neg_neg, ry_199k, h44, h45, hp, hcl, ha]
  refine hx _ (KSt_a (n := 30) (q := 82) h (by decide) (by decide) ?_ ?_ (fun k x y => ?_))
  · simp only [ax_up_ap, Nat.reduceEqDiff, ↓reduceIte]
  · simp only [ax_up_ap, Nat.reduceEqDiff, ↓reduceIte]
  · simp only [ax_up_ap, x, y, ↓reduceIte]
set_option maxRecDepth 10000 in
theorem lp_201r_93 {g : ax_G} {K : ax_Po} {E : ax_En} {D0 D : ax_Dn} {S T : Nat → Option Nat} (hS : S 82 = none) (h : RSt D0 D 167 S T) (hx : ∀ D', RSt D0 D' 197 (ax_up S 82 (some 167)) T → ax_WP g (ax_hy 201) K 92 92 101 [some (.ref 58)] [] (ax_S D' E)) : ax_WP g (ax_hy 201) K 92 92 93 [some (.ref 58)] [] (ax_S D E) := by
  have h44 := h.1
  have h45 := h.2.1
  have hp : (0 : Int32) ≤ nI 167 := nI_pos' (by decide)
  have hcl : (nI 167).toNatClampNeg = 167 := nI_clamp (by decide)
  have ha : nI 167 + 30 = nI 197 := by decide
  refine ax_WPo (l := [(199, cy_199r)]) (ax_oc sy_199r ax_on) ax_ok201 (fun t => t == 5 || t == 13 || t == 21 || t == 29 || t == 37 || t == 45 || t == 53 || t == 61 || t == 69 || t == 77 || t == 85 || t == 93 || t == 101 || t == 109 || t == 117 || t == 125 || t == 133 || t == 141 || t == 149 || t == 161 || t == 173 || t == 185 || t == 197 || t == 209) 400 93 rfl ?_
  simp +decide only [↓ax_B, ax_B, ax_kds, ax_gvs, ax_mcs, ax_ia_S, ax_up_ap, ax_vinL, and_self_left, ax_up_up, ax_up_sw, Nat.reduceAdd, Nat.reduceBEq, Nat.reduceLeDiff, Nat.reduceLT, Nat.reduceEqDiff, ↓reduceIte, true_and, and_true, List.cons_append, List.nil_append, Int32.reduceLT, Int32.reduceLE, Int32.reduceAdd, Int32.reduceToNatClampNeg, Int32.reduceOfNat, true_imp_iff, false_imp_iff, not_true_eq_false, not_false_eq_true, or_true, true_or, or_false, false_or, and_self, Bool.or_true, Bool.or_false, Bool.true_or, Bool.false_or, implies_true, forall_const, Bool.false_eq_true, Int32.neg_neg, ry_199r, h44, h45, hp, hcl, ha]
  refine hx _ (RSt_a (n := 30) (q := 82) h (by decide) (by decide) rfl hS ?_ ?_ (fun k x y => ?_))
  · simp only [ax_up_ap, Nat.reduceEqDiff, ↓reduceIte]
  · simp only [ax_up_ap, Nat.reduceEqDiff, ↓reduceIte]
  · simp only [ax_up_ap, x, y, ↓reduceIte]
set_option maxRecDepth 10000 in
theorem lp_201k_101 {g : ax_G} {K : ax_Po} {E : ax_En} {D0 D : ax_Dn} {G : Nat → Int32} (h : KSt D0 D 197 G) (hx : ∀ D', KSt D0 D' 227 (kp_ 197 30 (D0 83) G) → ax_WP g (ax_hy 201) K 92 92 109 [some (.ref 58)] [] (ax_S D' E)) : ax_WP g (ax_hy 201) K 92 92 101 [some (.ref 58)] [] (ax_S D E) := by
  have h44 := h.1
  have h45 := h.2.1
  have hp : (0 : Int32) ≤ nI 197 := nI_pos' (by decide)
  have hcl : (nI 197).toNatClampNeg = 197 := nI_clamp (by decide)
  have ha : nI 197 + 30 = nI 227 := by decide
  refine ax_WPo (l := [(199, cy_199k)]) (ax_oc sy_199k ax_on) ax_ok201 (fun t => t == 5 || t == 13 || t == 21 || t == 29 || t == 37 || t == 45 || t == 53 || t == 61 || t == 69 || t == 77 || t == 85 || t == 93 || t == 101 || t == 109 || t == 117 || t == 125 || t == 133 || t == 141 || t == 149 || t == 161 || t == 173 || t == 185 || t == 197 || t == 209) 400 101 rfl ?_
  simp +decide only [↓ax_B, ax_B, ax_kds, ax_gvs, ax_mcs, ax_ia_S, ax_up_ap, ax_vinL, and_self_left, ax_up_up, ax_up_sw, Nat.reduceAdd, Nat.reduceBEq, Nat.reduceLeDiff, Nat.reduceLT, Nat.reduceEqDiff, ↓reduceIte, true_and, and_true, List.cons_append, List.nil_append, Int32.reduceLT, Int32.reduceLE, Int32.reduceAdd, Int32.reduceToNatClampNeg, Int32.reduceOfNat, true_imp_iff, false_imp_iff, not_true_eq_false, not_false_eq_true, or_true, true_or, or_false, false_or, and_self, Bool.or_true, Bool.or_false, Bool.true_or, Bool.false_or, implies_true, forall_const, Bool.false_eq_true, Int32.neg_neg, ry_199k, h44, h45, hp, hcl, ha]
  refine hx _ (KSt_a (n := 30) (q := 83) h (by decide) (by decide) ?_ ?_ (fun k x y => ?_))
  · simp only [ax_up_ap, Nat.reduceEqDiff, ↓reduceIte]
  · simp only [ax_up_ap, Nat.reduceEqDiff, ↓reduceIte]
  · simp only [ax_up_ap, x, y, ↓reduceIte]
set_option maxRecDepth 10000 in
theorem lp_201r_101 {g : ax_G} {K : ax_Po} {E : ax_En} {D0 D : ax_Dn} {S T : Nat → Option Nat} (hS : S 83 = none) (h : RSt D0 D 197 S T) (hx : ∀ D', RSt D0 D' 227 (ax_up S 83 (some 197)) T → ax_WP g (ax_hy 201) K 92 92 109 [some (.ref 58)] [] (ax_S D' E)) : ax_WP g (ax_hy 201) K 92 92 101 [some (.ref 58)] [] (ax_S D E) := by
  have h44 := h.1
  have h45 := h.2.1
  have hp : (0 : Int32) ≤ nI 197 := nI_pos' (by decide)
  have hcl : (nI 197).toNatClampNeg = 197 := nI_clamp (by decide)
  have ha : nI 197 + 30 = nI 227 := by decide
  refine ax_WPo (l := [(199, cy_199r)]) (ax_oc sy_199r ax_on) ax_ok201 (fun t => t == 5 || t == 13 || t == 21 || t == 29 || t == 37 || t == 45 || t == 53 || t == 61 || t == 69 || t == 77 || t == 85 || t == 93 || t == 101 || t == 109 || t == 117 || t == 125 || t == 133 || t == 141 || t == 149 || t == 161 || t == 173 || t == 185 || t == 197 || t == 209) 400 101 rfl ?_
  simp +decide only [↓ax_B, ax_B, ax_kds, ax_gvs, ax_mcs, ax_ia_S, ax_up_ap, ax_vinL, and_self_left, ax_up_up, ax_up_sw, Nat.reduceAdd, Nat.reduceBEq, Nat.reduceLeDiff, Nat.reduceLT, Nat.reduceEqDiff, ↓reduceIte, true_and, and_true, List.cons_append, List.nil_append, Int32.reduceLT, Int32.reduceLE, Int32.reduceAdd, Int32.reduceToNatClampNeg, Int32.reduceOfNat, true_imp_iff, false_imp_iff, not_true_eq_false, not_false_eq_true, or_true, true_or, or_false, false_or, and_self, Bool.or_true, Bool.or_false, Bool.true_or, Bool.false_or, implies_true, forall_const, Bool.false_eq_true, Int32.neg_neg, ry_199r, h44, h45, hp, hcl, ha]
  refine hx _ (RSt_a (n := 30) (q := 83) h (by decide) (by decide) rfl hS ?_ ?_ (fun k x y => ?_))
  · simp only [ax_up_ap, Nat.reduceEqDiff, ↓reduceIte]
  · simp only [ax_up_ap, Nat.reduceEqDiff, ↓reduceIte]
  · simp only [ax_up_ap, x, y, ↓reduceIte]
set_option maxRecDepth 10000 in
theorem lp_201k_109 {g : ax_G} {K : ax_Po} {E : ax_En} {D0 D : ax_Dn} {G : Nat → Int32} (h : KSt D0 D 227 G) (hx : ∀ D', KSt D0 D' 257 (kp_ 227 30 (D0 84) G) → ax_WP g (ax_hy 201) K 92 92 117 [some (.ref 58)] [] (ax_S D' E)) : ax_WP g (ax_hy 201) K 92 92 109 [some (.ref 58)] [] (ax_S D E) := by
  have h44 := h.1
  have h45 := h.2.1
  have hp : (0 : Int32) ≤ nI 227 := nI_pos' (by decide)
  have hcl : (nI 227).toNatClampNeg = 227 := nI_clamp (by decide)
  have ha : nI 227 + 30 = nI 257 := by decide
  refine ax_WPo (l := [(199, cy_199k)]) (ax_oc sy_199k ax_on) ax_ok201 (fun t => t == 5 || t == 13 || t == 21 || t == 29 || t == 37 || t == 45 || t == 53 || t == 61 || t == 69 || t == 77 || t == 85 || t == 93 || t == 101 || t == 109 || t == 117 || t == 125 || t == 133 || t == 141 || t == 149 || t == 161 || t == 173 || t == 185 || t == 197 || t == 209) 400 109 rfl ?_
  simp +decide only [↓ax_B, ax_B, ax_kds, ax_gvs, ax_mcs, ax_ia_S, ax_up_ap, ax_vinL, and_self_left, ax_up_up, ax_up_sw, Nat.reduceAdd, Nat.reduceBEq, Nat.reduceLeDiff, Nat.reduceLT, Nat.reduceEqDiff, ↓reduceIte, true_and, and_true, List.cons_append, List.nil_append, Int32.reduceLT, Int32.reduceLE, Int32.reduceAdd, Int32.reduceToNatClampNeg, Int32.reduceOfNat, true_imp_iff, false_imp_iff, not_true_eq_false, not_false_eq_true, or_true, true_or, or_false, false_or, and_self, Bool.or_true, Bool.or_false, Bool.true_or, Bool.false_or, implies_true, forall_const, Bool.false_eq_true, Int32.neg_neg, ry_199k, h44, h45, hp, hcl, ha]
  refine hx _ (KSt_a (n := 30) (q := 84) h (by decide) (by decide) ?_ ?_ (fun k x y => ?_))
  · simp only [ax_up_ap, Nat.reduceEqDiff, ↓reduceIte]
  · simp only [ax_up_ap, Nat.reduceEqDiff, ↓reduceIte]
  · simp only [ax_up_ap, x, y, ↓reduceIte]
set_option maxRecDepth 10000 in
theorem lp_201r_109 {g : ax_G} {K : ax_Po} {E : ax_En} {D0 D : ax_Dn} {S T : Nat → Option Nat} (hS : S 84 = none) (h : RSt D0 D 227 S T) (hx : ∀ D', RSt D0 D' 257 (ax_up S 84 (some 227)) T → ax_WP g (ax_hy 201) K 92 92 117 [some (.ref 58)] [] (ax_S D' E)) : ax_WP g (ax_hy 201) K 92 92 109 [some (.ref 58)] [] (ax_S D E) := by
  have h44 := h.1
  have h45 := h.2.1
  have hp : (0 : Int32) ≤ nI 227 := nI_pos' (by decide)
  have hcl : (nI 227).toNatClampNeg = 227 := nI_clamp (by decide)
  have ha : nI 227 + 30 = nI 257 := by decide
  refine ax_WPo (l := [(199, cy_199r)]) (ax_oc sy_199r ax_on) ax_ok201 (fun t => t == 5 || t == 13 || t == 21 || t == 29 || t == 37 || t == 45 || t == 53 || t == 61 || t == 69 || t == 77 || t == 85 || t == 93 || t == 101 || t == 109 || t == 117 || t == 125 || t == 133 || t == 141 || t == 149 || t == 161 || t == 173 || t == 185 || t == 197 || t == 209) 400 109 rfl ?_
  simp +decide only [↓ax_B, ax_B, ax_kds, ax_gvs, ax_mcs, ax_ia_S, ax_up_ap, ax_vinL, and_self_left, ax_up_up, ax_up_sw, Nat.reduceAdd, Nat.reduceBEq, Nat.reduceLeDiff, Nat.reduceLT, Nat.reduceEqDiff, ↓reduceIte, true_and, and_true, List.cons_append, List.nil_append, Int32.reduceLT, Int32.reduceLE, Int32.reduceAdd, Int32.reduceToNatClampNeg, Int32.reduceOfNat, true_imp_iff, false_imp_iff, not_true_eq_false, not_false_eq_true, or_true, true_or, or_false, false_or, and_self, Bool.or_true, Bool.or_false, Bool.true_or, Bool.false_or, implies_true, forall_const, Bool.false_eq_true, Int32.neg_neg, ry_199r, h44, h45, hp, hcl, ha]
  refine hx _ (RSt_a (n := 30) (q := 84) h (by decide) (by decide) rfl hS ?_ ?_ (fun k x y => ?_))
  · simp only [ax_up_ap, Nat.reduceEqDiff, ↓reduceIte]
  · simp only [ax_up_ap, Nat.reduceEqDiff, ↓reduceIte]
  · simp only [ax_up_ap, x, y, ↓reduceIte]
set_option maxRecDepth 10000 in
theorem lp_201k_117 {g : ax_G} {K : ax_Po} {E : ax_En} {D0 D : ax_Dn} {G : Nat → Int32} (h : KSt D0 D 257 G) (hx : ∀ D', KSt D0 D' 287 (kp_ 257 30 (D0 85) G) → ax_WP g (ax_hy 201) K 92 92 125 [some (.ref 58)] [] (ax_S D' E)) : ax_WP g (ax_hy 201) K 92 92 117 [some (.ref 58)] [] (ax_S D E) := by
  have h44 := h.1
  have h45 := h.2.1
  have hp : (0 : Int32) ≤ nI 257 := nI_pos' (by decide)
  have hcl : (nI 257).toNatClampNeg = 257 := nI_clamp (by decide)
  have ha : nI 257 + 30 = nI 287 := by decide
  refine ax_WPo (l := [(199, cy_199k)]) (ax_oc sy_199k ax_on) ax_ok201 (fun t => t == 5 || t == 13 || t == 21 || t == 29 || t == 37 || t == 45 || t == 53 || t == 61 || t == 69 || t == 77 || t == 85 || t == 93 || t == 101 || t == 109 || t == 117 || t == 125 || t == 133 || t == 141 || t == 149 || t == 161 || t == 173 || t == 185 || t == 197 || t == 209) 400 117 rfl ?_
  simp +decide only [↓ax_B, ax_B, ax_kds, ax_gvs, ax_mcs, ax_ia_S, ax_up_ap, ax_vinL, and_self_left, ax_up_up, ax_up_sw, Nat.reduceAdd, Nat.reduceBEq, Nat.reduceLeDiff, Nat.reduceLT, Nat.reduceEqDiff, ↓reduceIte, true_and, and_true, List.cons_append, List.nil_append, Int32.reduceLT, Int32.reduceLE, Int32.reduceAdd, Int32.reduceToNatClampNeg, Int32.reduceOfNat, true_imp_iff, false_imp_iff, not_true_eq_false, not_false_eq_true, or_true, true_or, or_false, false_or, and_self, Bool.or_true, Bool.or_false, Bool.true_or, Bool.false_or, implies_true, forall_const, Bool.false_eq_true, Int32.neg_neg, ry_199k, h44, h45, hp, hcl, ha]
  refine hx _ (KSt_a (n := 30) (q := 85) h (by decide) (by decide) ?_ ?_ (fun k x y => ?_))
  · simp only [ax_up_ap, Nat.reduceEqDiff, ↓reduceIte]
  · simp only [ax_up_ap, Nat.reduceEqDiff, ↓reduceIte]
  · simp only [ax_up_ap, x, y, ↓reduceIte]
set_option maxRecDepth 10000 in
theorem lp_201r_117 {g : ax_G} {K : ax_Po} {E : ax_En} {D0 D : ax_Dn} {S T : Nat → Option Nat} (hS : S 85 = none) (h : RSt D0 D 257 S T) (hx : ∀ D', RSt D0 D' 287 (ax_up S 85 (some 257)) T → ax_WP g (ax_hy 201) K 92 92 125 [some (.ref 58)] [] (ax_S D' E)) : ax_WP g (ax_hy 201) K 92 92 117 [some (.ref 58)] [] (ax_S D E) := by
  have h44 := h.1
  have h45 := h.2.1
  have hp : (0 : Int32) ≤ nI 257 := nI_pos' (by decide)
  have hcl : (nI 257).toNatClampNeg = 257 := nI_clamp (by decide)
  have ha : nI 257 + 30 = nI 287 := by decide
  refine ax_WPo (l := [(199, cy_199r)]) (ax_oc sy_199r ax_on) ax_ok201 (fun t => t == 5 || t == 13 || t == 21 || t == 29 || t == 37 || t == 45 || t == 53 || t == 61 || t == 69 || t == 77 || t == 85 || t == 93 || t == 101 || t == 109 || t == 117 || t == 125 || t == 133 || t == 141 || t == 149 || t == 161 || t == 173 || t == 185 || t == 197 || t == 209) 400 117 rfl ?_
  simp +decide only [↓ax_B, ax_B, ax_kds, ax_gvs, ax_mcs, ax_ia_S, ax_up_ap, ax_vinL, and_self_left, ax_up_up, ax_up_sw, Nat.reduceAdd, Nat.reduceBEq, Nat.reduceLeDiff, Nat.reduceLT, Nat.reduceEqDiff, ↓reduceIte, true_and, and_true, List.cons_append, List.nil_append, Int32.reduceLT, Int32.reduceLE, Int32.reduceAdd, Int32.reduceToNatClampNeg, Int32.reduceOfNat, true_imp_iff, false_imp_iff, not_true_eq_false, not_false_eq_true, or_true, true_or, or_false, false_or, and_self, Bool.or_true, Bool.or_false, Bool.true_or, Bool.false_or, implies_true, forall_const, Bool.false_eq_true, Int32.neg_neg, ry_199r, h44, h45, hp, hcl, ha]
  refine hx _ (RSt_a (n := 30) (q := 85) h (by decide) (by decide) rfl hS ?_ ?_ (fun k x y => ?_))
  · simp only [ax_up_ap, Nat.reduceEqDiff, ↓reduceIte]
  · simp only [ax_up_ap, Nat.reduceEqDiff, ↓reduceIte]
  · simp only [ax_up_ap, x, y, ↓reduceIte]
set_option maxRecDepth 10000 in
theorem lp_201k_125 {g : ax_G} {K : ax_Po} {E : ax_En} {D0 D : ax_Dn} {G : Nat → Int32} (h : KSt D0 D 287 G) (hx : ∀ D', KSt D0 D' 327 (kp_ 287 40 (D0 86) G) → ax_WP g (ax_hy 201) K 92 92 133 [some (.ref 58)] [] (ax_S D' E)) : ax_WP g (ax_hy 201) K 92 92 125 [some (.ref 58)] [] (ax_S D E) := by
  have h44 := h.1
  have h45 := h.2.1
  have hp : (0 : Int32) ≤ nI 287 := nI_pos' (by decide)
  have hcl : (nI 287).toNatClampNeg = 287 := nI_clamp (by decide)
  have ha : nI 287 + 40 = nI 327 := by decide
  refine ax_WPo (l := [(199, cy_199k)]) (ax_oc sy_199k ax_on) ax_ok201 (fun t => t == 5 || t == 13 || t == 21 || t == 29 || t == 37 || t == 45 || t == 53 || t == 61 || t == 69 || t == 77 || t == 85 || t == 93 || t == 101 || t == 109 || t == 117 || t == 125 || t == 133 || t == 141 || t == 149 || t == 161 || t == 173 || t == 185 || t == 197 || t == 209) 400 125 rfl ?_
  simp +decide only [↓ax_B, ax_B, ax_kds, ax_gvs, ax_mcs, ax_ia_S, ax_up_ap, ax_vinL, and_self_left, ax_up_up, ax_up_sw, Nat.reduceAdd, Nat.reduceBEq, Nat.reduceLeDiff, Nat.reduceLT, Nat.reduceEqDiff, ↓reduceIte, true_and, and_true, List.cons_append, List.nil_append, Int32.reduceLT, Int32.reduceLE, Int32.reduceAdd, Int32.reduceToNatClampNeg, Int32.reduceOfNat, true_imp_iff, false_imp_iff, not_true_eq_false, not_false_eq_true, or_true, true_or, or_false, false_or, and_self, Bool.or_true, Bool.or_false, Bool.true_or, Bool.false_or, implies_true, forall_const, Bool.false_eq_true, Int32.neg_neg, ry_199k, h44, h45, hp, hcl, ha]
  refine hx _ (KSt_a (n := 40) (q := 86) h (by decide) (by decide) ?_ ?_ (fun k x y => ?_))
  · simp only [ax_up_ap, Nat.reduceEqDiff, ↓reduceIte]
  · simp only [ax_up_ap, Nat.reduceEqDiff, ↓reduceIte]
  · simp only [ax_up_ap, x, y, ↓reduceIte]
set_option maxRecDepth 10000 in
theorem lp_201r_125 {g : ax_G} {K : ax_Po} {E : ax_En} {D0 D : ax_Dn} {S T : Nat → Option Nat} (hS : S 86 = none) (h : RSt D0 D 287 S T) (hx : ∀ D', RSt D0 D' 327 (ax_up S 86 (some 287)) T → ax_WP g (ax_hy 201) K 92 92 133 [some (.ref 58)] [] (ax_S D' E)) : ax_WP g (ax_hy 201) K 92 92 125 [some (.ref 58)] [] (ax_S D E) := by
  have h44 := h.1
  have h45 := h.2.1
  have hp : (0 : Int32) ≤ nI 287 := nI_pos' (by decide)
  have hcl : (nI 287).toNatClampNeg = 287 := nI_clamp (by decide)
  have ha : nI 287 + 40 = nI 327 := by decide
  refine ax_WPo (l := [(199, cy_199r)]) (ax_oc sy_199r ax_on) ax_ok201 (fun t => t == 5 || t == 13 || t == 21 || t == 29 || t == 37 || t == 45 || t == 53 || t == 61 || t == 69 || t == 77 || t == 85 || t == 93 || t == 101 || t == 109 || t == 117 || t == 125 || t == 133 || t == 141 || t == 149 || t == 161 || t == 173 || t == 185 || t == 197 || t == 209) 400 125 rfl ?_
  simp +decide only [↓ax_B, ax_B, ax_kds, ax_gvs, ax_mcs, ax_ia_S, ax_up_ap, ax_vinL, and_self_left, ax_up_up, ax_up_sw, Nat.reduceAdd, Nat.reduceBEq, Nat.reduceLeDiff, Nat.reduceLT, Nat.reduceEqDiff, ↓reduceIte, true_and, and_true, List.cons_append, List.nil_append, Int32.reduceLT, Int32.reduceLE, Int32.reduceAdd, Int32.reduceToNatClampNeg, Int32.reduceOfNat, true_imp_iff, false_imp_iff, not_true_eq_false, not_false_eq_true, or_true, true_or, or_false, false_or, and_self, Bool.or_true, Bool.or_false, Bool.true_or, Bool.false_or, implies_true, forall_const, Bool.false_eq_true, Int32.neg_neg, ry_199r, h44, h45, hp, hcl, ha]
  refine hx _ (RSt_a (n := 40) (q := 86) h (by decide) (by decide) rfl hS ?_ ?_ (fun k x y => ?_))
  · simp only [ax_up_ap, Nat.reduceEqDiff, ↓reduceIte]
  · simp only [ax_up_ap, Nat.reduceEqDiff, ↓reduceIte]
  · simp only [ax_up_ap, x, y, ↓reduceIte]
set_option maxRecDepth 10000 in
theorem lp_201k_133 {g : ax_G} {K : ax_Po} {E : ax_En} {D0 D : ax_Dn} {G : Nat → Int32} (h : KSt D0 D 327 G) (hx : ∀ D', KSt D0 D' 347 (kp_ 327 20 (D0 88) G) → ax_WP g (ax_hy 201) K 92 92 141 [some (.ref 58)] [] (ax_S D' E)) : ax_WP g (ax_hy 201) K 92 92 133 [some (.ref 58)] [] (ax_S D E) := by
  have h44 := h.1
  have h45 := h.2.1
  have hp : (0 : Int32) ≤ nI 327 := nI_pos' (by decide)
  have hcl : (nI 327).toNatClampNeg = 327 := nI_clamp (by decide)
  have ha : nI 327 + 20 = nI 347 := by decide
  refine ax_WPo (l := [(199, cy_199k)]) (ax_oc sy_199k ax_on) ax_ok201 (fun t => t == 5 || t == 13 || t == 21 || t == 29 || t == 37 || t == 45 || t == 53 || t == 61 || t == 69 || t == 77 || t == 85 || t == 93 || t == 101 || t == 109 || t == 117 || t == 125 || t == 133 || t == 141 || t == 149 || t == 161 || t == 173 || t == 185 || t == 197 || t == 209) 400 133 rfl ?_
  simp +decide only [↓ax_B, ax_B, ax_kds, ax_gvs, ax_mcs, ax_ia_S, ax_up_ap, ax_vinL, and_self_left, ax_up_up, ax_up_sw, Nat.reduceAdd, Nat.reduceBEq, Nat.reduceLeDiff, Nat.reduceLT, Nat.reduceEqDiff, ↓reduceIte, true_and, and_true, List.cons_append, List.nil_append, Int32.reduceLT, Int32.reduceLE, Int32.reduceAdd, Int32.reduceToNatClampNeg, Int32.reduceOfNat, true_imp_iff, false_imp_iff, not_true_eq_false, not_false_eq_true, or_true, true_or, or_false, false_or, and_self, Bool.or_true, Bool.or_false, Bool.true_or, Bool.false_or, implies_true, forall_const, Bool.false_eq_true, Int32.neg_neg, ry_199k, h44, h45, hp, hcl, ha]
  refine hx _ (KSt_a (n := 20) (q := 88) h (by decide) (by decide) ?_ ?_ (fun k x y => ?_))
  · simp only [ax_up_ap, Nat.reduceEqDiff, ↓reduceIte]
  · simp only [ax_up_ap, Nat.reduceEqDiff, ↓reduceIte]
  · simp only [ax_up_ap, x, y, ↓reduceIte]
set_option maxRecDepth 10000 in
theorem lp_201r_133 {g : ax_G} {K : ax_Po} {E : ax_En} {D0 D : ax_Dn} {S T : Nat → Option Nat} (hS : S 88 = none) (h : RSt D0 D 327 S T) (hx : ∀ D', RSt D0 D' 347 (ax_up S 88 (some 327)) T → ax_WP g (ax_hy 201) K 92 92 141 [some (.ref 58)] [] (ax_S D' E)) : ax_WP g (ax_hy 201) K 92 92 133 [some (.ref 58)] [] (ax_S D E) := by
  have h44 := h.1
  have h45 := h.2.1
  have hp : (0 : Int32) ≤ nI 327 := nI_pos' (by decide)
  have hcl : (nI 327).toNatClampNeg = 327 := nI_clamp (by decide)
  have ha : nI 327 + 20 = nI 347 := by decide
  refine ax_WPo (l := [(199, cy_199r)]) (ax_oc sy_199r ax_on) ax_ok201 (fun t => t == 5 || t == 13 || t == 21 || t == 29 || t == 37 || t == 45 || t == 53 || t == 61 || t == 69 || t == 77 || t == 85 || t == 93 || t == 101 || t == 109 || t == 117 || t == 125 || t == 133 || t == 141 || t == 149 || t == 161 || t == 173 || t == 185 || t == 197 || t == 209) 400 133 rfl ?_
  simp +decide only [↓ax_B, ax_B, ax_kds, ax_gvs, ax_mcs, ax_ia_S, ax_up_ap, ax_vinL, and_self_left, ax_up_up, ax_up_sw, Nat.reduceAdd, Nat.reduceBEq, Nat.reduceLeDiff, Nat.reduceLT, Nat.reduceEqDiff, ↓reduceIte, true_and, and_true, List.cons_append, List.nil_append, Int32.reduceLT, Int32.reduceLE, Int32.reduceAdd, Int32.reduceToNatClampNeg, Int32.reduceOfNat, true_imp_iff, false_imp_iff, not_true_eq_false, not_false_eq_true, or_true, true_or, or_false, false_or, and_self, Bool.or_true, Bool.or_false, Bool.true_or, Bool.false_or, implies_true, forall_const, Bool.false_eq_true, Int32.neg_neg, ry_199r, h44, h45, hp, hcl, ha]
  refine hx _ (RSt_a (n := 20) (q := 88) h (by decide) (by decide) rfl hS ?_ ?_ (fun k x y => ?_))
  · simp only [ax_up_ap, Nat.reduceEqDiff, ↓reduceIte]
  · simp only [ax_up_ap, Nat.reduceEqDiff, ↓reduceIte]
  · simp only [ax_up_ap, x, y, ↓reduceIte]
set_option maxRecDepth 10000 in
theorem lp_201k_141 {g : ax_G} {K : ax_Po} {E : ax_En} {D0 D : ax_Dn} {G : Nat → Int32} (h : KSt D0 D 347 G) (hx : ∀ D', KSt D0 D' 367 (kp_ 347 20 (D0 89) G) → ax_WP g (ax_hy 201) K 92 92 149 [some (.ref 58)] [] (ax_S D' E)) : ax_WP g (ax_hy 201) K 92 92 141 [some (.ref 58)] [] (ax_S D E) := by
  have h44 := h.1
  have h45 := h.2.1
  have hp : (0 : Int32) ≤ nI 347 := nI_pos' (by decide)
  have hcl : (nI 347).toNatClampNeg = 347 := nI_clamp (by decide)
  have ha : nI 347 + 20 = nI 367 := by decide
  refine ax_WPo (l := [(199, cy_199k)]) (ax_oc sy_199k ax_on) ax_ok201 (fun t => t == 5 || t == 13 || t == 21 || t == 29 || t == 37 || t == 45 || t == 53 || t == 61 || t == 69 || t == 77 || t == 85 || t == 93 || t == 101 || t == 109 || t == 117 || t == 125 || t == 133 || t == 141 || t == 149 || t == 161 || t == 173 || t == 185 || t == 197 || t == 209) 400 141 rfl ?_
  simp +decide only [↓ax_B, ax_B, ax_kds, ax_gvs, ax_mcs, ax_ia_S, ax_up_ap, ax_vinL, and_self_left, ax_up_up, ax_up_sw, Nat.reduceAdd, Nat.reduceBEq, Nat.reduceLeDiff, Nat.reduceLT, Nat.reduceEqDiff, ↓reduceIte, true_and, and_true, List.cons_append, List.nil_append, Int32.reduceLT, Int32.reduceLE, Int32.reduceAdd, Int32.reduceToNatClampNeg, Int32.reduceOfNat, true_imp_iff, false_imp_iff, not_true_eq_false, not_false_eq_true, or_true, true_or, or_false, false_or, and_self, Bool.or_true, Bool.or_false, Bool.true_or, Bool.false_or, implies_true, forall_const, Bool.false_eq_true, Int32.neg_neg, ry_199k, h44, h45, hp, hcl, ha]
  refine hx _ (KSt_a (n := 20) (q := 89) h (by decide) (by decide) ?_ ?_ (fun k x y => ?_))
  · simp only [ax_up_ap, Nat.reduceEqDiff, ↓reduceIte]
  · simp only [ax_up_ap, Nat.reduceEqDiff, ↓reduceIte]
  · simp only [ax_up_ap, x, y, ↓reduceIte]
set_option maxRecDepth 10000 in
theorem lp_201r_141 {g : ax_G} {K : ax_Po} {E : ax_En} {D0 D : ax_Dn} {S T : Nat → Option Nat} (hS : S 89 = none) (h : RSt D0 D 347 S T) (hx : ∀ D', RSt D0 D' 367 (ax_up S 89 (some 347)) T → ax_WP g (ax_hy 201) K 92 92 149 [some (.ref 58)] [] (ax_S D' E)) : ax_WP g (ax_hy 201) K 92 92 141 [some (.ref 58)] [] (ax_S D E) := by
  have h44 := h.1
  have h45 := h.2.1
  have hp : (0 : Int32) ≤ nI 347 := nI_pos' (by decide)
  have hcl : (nI 347).toNatClampNeg = 347 := nI_clamp (by decide)
  have ha : nI 347 + 20 = nI 367 := by decide
  refine ax_WPo (l := [(199, cy_199r)]) (ax_oc sy_199r ax_on) ax_ok201 (fun t => t == 5 || t == 13 || t == 21 || t == 29 || t == 37 || t == 45 || t == 53 || t == 61 || t == 69 || t == 77 || t == 85 || t == 93 || t == 101 || t == 109 || t == 117 || t == 125 || t == 133 || t == 141 || t == 149 || t == 161 || t == 173 || t == 185 || t == 197 || t == 209) 400 141 rfl ?_
  simp +decide only [↓ax_B, ax_B, ax_kds, ax_gvs, ax_mcs, ax_ia_S, ax_up_ap, ax_vinL, and_self_left, ax_up_up, ax_up_sw, Nat.reduceAdd, Nat.reduceBEq, Nat.reduceLeDiff, Nat.reduceLT, Nat.reduceEqDiff, ↓reduceIte, true_and, and_true, List.cons_append, List.nil_append, Int32.reduceLT, Int32.reduceLE, Int32.reduceAdd, Int32.reduceToNatClampNeg, Int32.reduceOfNat, true_imp_iff, false_imp_iff, not_true_eq_false, not_false_eq_true, or_true, true_or, or_false, false_or, and_self, Bool.or_true, Bool.or_false, Bool.true_or, Bool.false_or, implies_true, forall_const, Bool.false_eq_true, Int32.neg_neg, ry_199r, h44, h45, hp, hcl, ha]
  refine hx _ (RSt_a (n := 20) (q := 89) h (by decide) (by decide) rfl hS ?_ ?_ (fun k x y => ?_))
  · simp only [ax_up_ap, Nat.reduceEqDiff, ↓reduceIte]
  · simp only [ax_up_ap, Nat.reduceEqDiff, ↓reduceIte]
  · simp only [ax_up_ap, x, y, ↓reduceIte]
set_option maxRecDepth 10000 in
theorem lp_201k_149 {g : ax_G} {K : ax_Po} {E : ax_En} {D0 D : ax_Dn} {G : Nat → Int32} (h : KSt D0 D 367 G) (hx : ∀ D', KSt D0 D' 368 (ax_up G 367 (D0 58 22)) → ax_WP g (ax_hy 201) K 92 92 161 [some (.ref 58)] [] (ax_S D' E)) : ax_WP g (ax_hy 201) K 92 92 149 [some (.ref 58)] [] (ax_S D E) := by
  have h44 := h.1
  have h45 := h.2.1
  have hcl : (nI 367).toNatClampNeg = 367 := nI_clamp (by decide)
  have ha : nI 367 + 1 = nI 368 := by decide
  have hv : vp_in (nI 367) 500 := vp_in_nI (by decide) (by decide)
  have z10 : ¬ (1 : Int32) = 0 := by decide
  refine ax_WPo (l := [(200, cy_200k)]) (ax_oc sy_200k ax_on) ax_ok201 (fun t => t == 5 || t == 13 || t == 21 || t == 29 || t == 37 || t == 45 || t == 53 || t == 61 || t == 69 || t == 77 || t == 85 || t == 93 || t == 101 || t == 109 || t == 117 || t == 125 || t == 133 || t == 141 || t == 149 || t == 161 || t == 173 || t == 185 || t == 197 || t == 209) 400 149 rfl ?_
  simp +decide only [↓ax_B, ax_B, ax_kds, ax_gvs, ax_mcs, ax_ia_S, ax_up_ap, ax_vinL, and_self_left, ax_up_up, ax_up_sw, Nat.reduceAdd, Nat.reduceBEq, Nat.reduceLeDiff, Nat.reduceLT, Nat.reduceEqDiff, ↓reduceIte, true_and, and_true, List.cons_append, List.nil_append, Int32.reduceLT, Int32.reduceLE, Int32.reduceAdd, Int32.reduceToNatClampNeg, Int32.reduceOfNat, true_imp_iff, false_imp_iff, not_true_eq_false, not_false_eq_true, or_true, true_or, or_false, false_or, and_self, Bool.or_true, Bool.or_false, Bool.true_or, Bool.false_or, implies_true, forall_const, Bool.false_eq_true, Int32.neg_neg, ry_200k, h44, h45, hcl, ha, hv, z10]
  refine hx _ (KSt_f (f := 22) h (by decide) ?_ (fun j => ?_) (fun k x y => ?_))
  · simp only [ax_up_ap, Nat.reduceEqDiff, ↓reduceIte]
  · simp only [ax_up_ap, Nat.reduceEqDiff, ↓reduceIte]
    by_cases x : j = 45
    · subst x; rfl
    · by_cases y : j = 22
      · subst y; rfl
      · simp only [x, y, ↓reduceIte]
  · simp only [ax_up_ap, x, y, ↓reduceIte]
set_option maxRecDepth 10000 in
theorem lp_201r_149 {g : ax_G} {K : ax_Po} {E : ax_En} {D0 D : ax_Dn} {S T : Nat → Option Nat} (hT : T 22 = none) (h : RSt D0 D 367 S T) (hx : ∀ D', RSt D0 D' 368 S (ax_up T 22 (some 367)) → ax_WP g (ax_hy 201) K 92 92 161 [some (.ref 58)] [] (ax_S D' E)) : ax_WP g (ax_hy 201) K 92 92 149 [some (.ref 58)] [] (ax_S D E) := by
  have h44 := h.1
  have h45 := h.2.1
  have hcl : (nI 367).toNatClampNeg = 367 := nI_clamp (by decide)
  have ha : nI 367 + 1 = nI 368 := by decide
  have hv : vp_in (nI 367) 500 := vp_in_nI (by decide) (by decide)
  have z10 : ¬ (1 : Int32) = 0 := by decide
  refine ax_WPo (l := [(200, cy_200r)]) (ax_oc sy_200r ax_on) ax_ok201 (fun t => t == 5 || t == 13 || t == 21 || t == 29 || t == 37 || t == 45 || t == 53 || t == 61 || t == 69 || t == 77 || t == 85 || t == 93 || t == 101 || t == 109 || t == 117 || t == 125 || t == 133 || t == 141 || t == 149 || t == 161 || t == 173 || t == 185 || t == 197 || t == 209) 400 149 rfl ?_
  simp +decide only [↓ax_B, ax_B, ax_kds, ax_gvs, ax_mcs, ax_ia_S, ax_up_ap, ax_vinL, and_self_left, ax_up_up, ax_up_sw, Nat.reduceAdd, Nat.reduceBEq, Nat.reduceLeDiff, Nat.reduceLT, Nat.reduceEqDiff, ↓reduceIte, true_and, and_true, List.cons_append, List.nil_append, Int32.reduceLT, Int32.reduceLE, Int32.reduceAdd, Int32.reduceToNatClampNeg, Int32.reduceOfNat, true_imp_iff, false_imp_iff, not_true_eq_false, not_false_eq_true, or_true, true_or, or_false, false_or, and_self, Bool.or_true, Bool.or_false, Bool.true_or, Bool.false_or, implies_true, forall_const, Bool.false_eq_true, Int32.neg_neg, ry_200r, h44, h45, hcl, ha, hv, z10]
  refine hx _ (RSt_f (f := 22) h (by decide) (by decide) hT (fun j => ?_) (fun k x => ?_))
  · simp only [ax_up_ap, Nat.reduceEqDiff, ↓reduceIte]
  · simp only [ax_up_ap, x, ↓reduceIte]
set_option maxRecDepth 10000 in
theorem lp_201k_161 {g : ax_G} {K : ax_Po} {E : ax_En} {D0 D : ax_Dn} {G : Nat → Int32} (h : KSt D0 D 368 G) (hx : ∀ D', KSt D0 D' 369 (ax_up G 368 (D0 58 23)) → ax_WP g (ax_hy 201) K 92 92 173 [some (.ref 58)] [] (ax_S D' E)) : ax_WP g (ax_hy 201) K 92 92 161 [some (.ref 58)] [] (ax_S D E) := by
  have h44 := h.1
  have h45 := h.2.1
  have hcl : (nI 368).toNatClampNeg = 368 := nI_clamp (by decide)
  have ha : nI 368 + 1 = nI 369 := by decide
  have hv : vp_in (nI 368) 500 := vp_in_nI (by decide) (by decide)
  have z10 : ¬ (1 : Int32) = 0 := by decide
  refine ax_WPo (l := [(200, cy_200k)]) (ax_oc sy_200k ax_on) ax_ok201 (fun t => t == 5 || t == 13 || t == 21 || t == 29 || t == 37 || t == 45 || t == 53 || t == 61 || t == 69 || t == 77 || t == 85 || t == 93 || t == 101 || t == 109 || t == 117 || t == 125 || t == 133 || t == 141 || t == 149 || t == 161 || t == 173 || t == 185 || t == 197 || t == 209) 400 161 rfl ?_
  simp +decide only [↓ax_B, ax_B, ax_kds, ax_gvs, ax_mcs, ax_ia_S, ax_up_ap, ax_vinL, and_self_left, ax_up_up, ax_up_sw, Nat.reduceAdd, Nat.reduceBEq, Nat.reduceLeDiff, Nat.reduceLT, Nat.reduceEqDiff, ↓reduceIte, true_and, and_true, List.cons_append, List.nil_append, Int32.reduceLT, Int32.reduceLE, Int32.reduceAdd, Int32.reduceToNatClampNeg, Int32.reduceOfNat, true_imp_iff, false_imp_iff, not_true_eq_false, not_false_eq_true, or_true, true_or, or_false, false_or, and_self, Bool.or_true, Bool.or_false, Bool.true_or, Bool.false_or, implies_true, forall_const, Bool.false_eq_true, Int32.neg_neg, ry_200k, h44, h45, hcl, ha, hv, z10]
  refine hx _ (KSt_f (f := 23) h (by decide) ?_ (fun j => ?_) (fun k x y => ?_))
  · simp only [ax_up_ap, Nat.reduceEqDiff, ↓reduceIte]
  · simp only [ax_up_ap, Nat.reduceEqDiff, ↓reduceIte]
    by_cases x : j = 45
    · subst x; rfl
    · by_cases y : j = 23
      · subst y; rfl
      · simp only [x, y, ↓reduceIte]
  · simp only [ax_up_ap, x, y, ↓reduceIte]
set_option maxRecDepth 10000 in
theorem lp_201r_161 {g : ax_G} {K : ax_Po} {E : ax_En} {D0 D : ax_Dn} {S T : Nat → Option Nat} (hT : T 23 = none) (h : RSt D0 D 368 S T) (hx : ∀ D', RSt D0 D' 369 S (ax_up T 23 (some 368)) → ax_WP g (ax_hy 201) K 92 92 173 [some (.ref 58)] [] (ax_S D' E)) : ax_WP g (ax_hy 201) K 92 92 161 [some (.ref 58)] [] (ax_S D E) := by
  have h44 := h.1
  have h45 := h.2.1
  have hcl : (nI 368).toNatClampNeg = 368 := nI_clamp (by decide)
  have ha : nI 368 + 1 = nI 369 := by decide
  have hv : vp_in (nI 368) 500 := vp_in_nI (by decide) (by decide)
  have z10 : ¬ (1 : Int32) = 0 := by decide
  refine ax_WPo (l := [(200, cy_200r)]) (ax_oc sy_200r ax_on) ax_ok201 (fun t => t == 5 || t == 13 || t == 21 || t == 29 || t == 37 || t == 45 || t == 53 || t == 61 || t == 69 || t == 77 || t == 85 || t == 93 || t == 101 || t == 109 || t == 117 || t == 125 || t == 133 || t == 141 || t == 149 || t == 161 || t == 173 || t == 185 || t == 197 || t == 209) 400 161 rfl ?_
  simp +decide only [↓ax_B, ax_B, ax_kds, ax_gvs, ax_mcs, ax_ia_S, ax_up_ap, ax_vinL, and_self_left, ax_up_up, ax_up_sw, Nat.reduceAdd, Nat.reduceBEq, Nat.reduceLeDiff, Nat.reduceLT, Nat.reduceEqDiff, ↓reduceIte, true_and, and_true, List.cons_append, List.nil_append, Int32.reduceLT, Int32.reduceLE, Int32.reduceAdd, Int32.reduceToNatClampNeg, Int32.reduceOfNat, true_imp_iff, false_imp_iff, not_true_eq_false, not_false_eq_true, or_true, true_or, or_false, false_or, and_self, Bool.or_true, Bool.or_false, Bool.true_or, Bool.false_or, implies_true, forall_const, Bool.false_eq_true, Int32.neg_neg, ry_200r, h44, h45, hcl, ha, hv, z10]
  refine hx _ (RSt_f (f := 23) h (by decide) (by decide) hT (fun j => ?_) (fun k x => ?_))
  · simp only [ax_up_ap, Nat.reduceEqDiff, ↓reduceIte]
  · simp only [ax_up_ap, x, ↓reduceIte]
set_option maxRecDepth 10000 in
theorem lp_201k_173 {g : ax_G} {K : ax_Po} {E : ax_En} {D0 D : ax_Dn} {G : Nat → Int32} (h : KSt D0 D 369 G) (hx : ∀ D', KSt D0 D' 370 (ax_up G 369 (D0 58 32)) → ax_WP g (ax_hy 201) K 92 92 185 [some (.ref 58)] [] (ax_S D' E)) : ax_WP g (ax_hy 201) K 92 92 173 [some (.ref 58)] [] (ax_S D E) := by
  have h44 := h.1
  have h45 := h.2.1
  have hcl : (nI 369).toNatClampNeg = 369 := nI_clamp (by decide)
  have ha : nI 369 + 1 = nI 370 := by decide
  have hv : vp_in (nI 369) 500 := vp_in_nI (by decide) (by decide)
  have z10 : ¬ (1 : Int32) = 0 := by decide
  refine ax_WPo (l := [(200, cy_200k)]) (ax_oc sy_200k ax_on) ax_ok201 (fun t => t == 5 || t == 13 || t == 21 || t == 29 || t == 37 || t == 45 || t == 53 || t == 61 || t == 69 || t == 77 || t == 85 || t == 93 || t == 101 || t == 109 || t == 117 || t == 125 || t == 133 || t == 141 || t == 149 || t == 161 || t == 173 || t == 185 || t == 197 || t == 209) 400 173 rfl ?_
  simp +decide only [↓ax_B, ax_B, ax_kds, ax_gvs, ax_mcs, ax_ia_S, ax_up_ap, ax_vinL, and_self_left, ax_up_up, ax_up_sw, Nat.reduceAdd, Nat.reduceBEq, Nat.reduceLeDiff, Nat.reduceLT, Nat.reduceEqDiff, ↓reduceIte, true_and, and_true, List.cons_append, List.nil_append, Int32.reduceLT, Int32.reduceLE, Int32.reduceAdd, Int32.reduceToNatClampNeg, Int32.reduceOfNat, true_imp_iff, false_imp_iff, not_true_eq_false, not_false_eq_true, or_true, true_or, or_false, false_or, and_self, Bool.or_true, Bool.or_false, Bool.true_or, Bool.false_or, implies_true, forall_const, Bool.false_eq_true, Int32.neg_neg, ry_200k, h44, h45, hcl, ha, hv, z10]
  refine hx _ (KSt_f (f := 32) h (by decide) ?_ (fun j => ?_) (fun k x y => ?_))
  · simp only [ax_up_ap, Nat.reduceEqDiff, ↓reduceIte]
  · simp only [ax_up_ap, Nat.reduceEqDiff, ↓reduceIte]
    by_cases x : j = 45
    · subst x; rfl
    · by_cases y : j = 32
      · subst y; rfl
      · simp only [x, y, ↓reduceIte]
  · simp only [ax_up_ap, x, y, ↓reduceIte]
set_option maxRecDepth 10000 in
theorem lp_201r_173 {g : ax_G} {K : ax_Po} {E : ax_En} {D0 D : ax_Dn} {S T : Nat → Option Nat} (hT : T 32 = none) (h : RSt D0 D 369 S T) (hx : ∀ D', RSt D0 D' 370 S (ax_up T 32 (some 369)) → ax_WP g (ax_hy 201) K 92 92 185 [some (.ref 58)] [] (ax_S D' E)) : ax_WP g (ax_hy 201) K 92 92 173 [some (.ref 58)] [] (ax_S D E) := by
  have h44 := h.1
  have h45 := h.2.1
  have hcl : (nI 369).toNatClampNeg = 369 := nI_clamp (by decide)
  have ha : nI 369 + 1 = nI 370 := by decide
  have hv : vp_in (nI 369) 500 := vp_in_nI (by decide) (by decide)
  have z10 : ¬ (1 : Int32) = 0 := by decide
  refine ax_WPo (l := [(200, cy_200r)]) (ax_oc sy_200r ax_on) ax_ok201 (fun t => t == 5 || t == 13 || t == 21 || t == 29 || t == 37 || t == 45 || t == 53 || t == 61 || t == 69 || t == 77 || t == 85 || t == 93 || t == 101 || t == 109 || t == 117 || t == 125 || t == 133 || t == 141 || t == 149 || t == 161 || t == 173 || t == 185 || t == 197 || t == 209) 400 173 rfl ?_
  simp +decide only [↓ax_B, ax_B, ax_kds, ax_gvs, ax_mcs, ax_ia_S, ax_up_ap, ax_vinL, and_self_left, ax_up_up, ax_up_sw, Nat.reduceAdd, Nat.reduceBEq, Nat.reduceLeDiff, Nat.reduceLT, Nat.reduceEqDiff, ↓reduceIte, true_and, and_true, List.cons_append, List.nil_append, Int32.reduceLT, Int32.reduceLE, Int32.reduceAdd, Int32.reduceToNatClampNeg, Int32.reduceOfNat, true_imp_iff, false_imp_iff, not_true_eq_false, not_false_eq_true, or_true, true_or, or_false, false_or, and_self, Bool.or_true, Bool.or_false, Bool.true_or, Bool.false_or, implies_true, forall_const, Bool.false_eq_true, Int32.neg_neg, ry_200r, h44, h45, hcl, ha, hv, z10]
  refine hx _ (RSt_f (f := 32) h (by decide) (by decide) hT (fun j => ?_) (fun k x => ?_))
  · simp only [ax_up_ap, Nat.reduceEqDiff, ↓reduceIte]
  · simp only [ax_up_ap, x, ↓reduceIte]
set_option maxRecDepth 10000 in
theorem lp_201k_185 {g : ax_G} {K : ax_Po} {E : ax_En} {D0 D : ax_Dn} {G : Nat → Int32} (h : KSt D0 D 370 G) (hx : ∀ D', KSt D0 D' 371 (ax_up G 370 (D0 58 35)) → ax_WP g (ax_hy 201) K 92 92 197 [some (.ref 58)] [] (ax_S D' E)) : ax_WP g (ax_hy 201) K 92 92 185 [some (.ref 58)] [] (ax_S D E) := by
  have h44 := h.1
  have h45 := h.2.1
  have hcl : (nI 370).toNatClampNeg = 370 := nI_clamp (by decide)
  have ha : nI 370 + 1 = nI 371 := by decide
  have hv : vp_in (nI 370) 500 := vp_in_nI (by decide) (by decide)
  have z10 : ¬ (1 : Int32) = 0 := by decide
  refine ax_WPo (l := [(200, cy_200k)]) (ax_oc sy_200k ax_on) ax_ok201 (fun t => t == 5 || t == 13 || t == 21 || t == 29 || t == 37 || t == 45 || t == 53 || t == 61 || t == 69 || t == 77 || t == 85 || t == 93 || t == 101 || t == 109 || t == 117 || t == 125 || t == 133 || t == 141 || t == 149 || t == 161 || t == 173 || t == 185 || t == 197 || t == 209) 400 185 rfl ?_
  simp +decide only [↓ax_B, ax_B, ax_kds, ax_gvs, ax_mcs, ax_ia_S, ax_up_ap, ax_vinL, and_self_left, ax_up_up, ax_up_sw, Nat.reduceAdd, Nat.reduceBEq, Nat.reduceLeDiff, Nat.reduceLT, Nat.reduceEqDiff, ↓reduceIte, true_and, and_true, List.cons_append, List.nil_append, Int32.reduceLT, Int32.reduceLE, Int32.reduceAdd, Int32.reduceToNatClampNeg, Int32.reduceOfNat, true_imp_iff, false_imp_iff, not_true_eq_false, not_false_eq_true, or_true, true_or, or_false, false_or, and_self, Bool.or_true, Bool.or_false, Bool.true_or, Bool.false_or, implies_true, forall_const, Bool.false_eq_true, Int32.neg_neg, ry_200k, h44, h45, hcl, ha, hv, z10]
  refine hx _ (KSt_f (f := 35) h (by decide) ?_ (fun j => ?_) (fun k x y => ?_))
  · simp only [ax_up_ap, Nat.reduceEqDiff, ↓reduceIte]
  · simp only [ax_up_ap, Nat.reduceEqDiff, ↓reduceIte]
    by_cases x : j = 45
    · subst x; rfl
    · by_cases y : j = 35
      · subst y; rfl
      · simp only [x, y, ↓reduceIte]
  · simp only [ax_up_ap, x, y, ↓reduceIte]
set_option maxRecDepth 10000 in
theorem lp_201r_185 {g : ax_G} {K : ax_Po} {E : ax_En} {D0 D : ax_Dn} {S T : Nat → Option Nat} (hT : T 35 = none) (h : RSt D0 D 370 S T) (hx : ∀ D', RSt D0 D' 371 S (ax_up T 35 (some 370)) → ax_WP g (ax_hy 201) K 92 92 197 [some (.ref 58)] [] (ax_S D' E)) : ax_WP g (ax_hy 201) K 92 92 185 [some (.ref 58)] [] (ax_S D E) := by
  have h44 := h.1
  have h45 := h.2.1
  have hcl : (nI 370).toNatClampNeg = 370 := nI_clamp (by decide)
  have ha : nI 370 + 1 = nI 371 := by decide
  have hv : vp_in (nI 370) 500 := vp_in_nI (by decide) (by decide)
  have z10 : ¬ (1 : Int32) = 0 := by decide
  refine ax_WPo (l := [(200, cy_200r)]) (ax_oc sy_200r ax_on) ax_ok201 (fun t => t == 5 || t == 13 || t == 21 || t == 29 || t == 37 || t == 45 || t == 53 || t == 61 || t == 69 || t == 77 || t == 85 || t == 93 || t == 101 || t == 109 || t == 117 || t == 125 || t == 133 || t == 141 || t == 149 || t == 161 || t == 173 || t == 185 || t == 197 || t == 209) 400 185 rfl ?_
  simp +decide only [↓ax_B, ax_B, ax_kds, ax_gvs, ax_mcs, ax_ia_S, ax_up_ap, ax_vinL, and_self_left, ax_up_up, ax_up_sw, Nat.reduceAdd, Nat.reduceBEq, Nat.reduceLeDiff, Nat.reduceLT, Nat.reduceEqDiff, ↓reduceIte, true_and, and_true, List.cons_append, List.nil_append, Int32.reduceLT, Int32.reduceLE, Int32.reduceAdd, Int32.reduceToNatClampNeg, Int32.reduceOfNat, true_imp_iff, false_imp_iff, not_true_eq_false, not_false_eq_true, or_true, true_or, or_false, false_or, and_self, Bool.or_true, Bool.or_false, Bool.true_or, Bool.false_or, implies_true, forall_const, Bool.false_eq_true, Int32.neg_neg, ry_200r, h44, h45, hcl, ha, hv, z10]
  refine hx _ (RSt_f (f := 35) h (by decide) (by decide) hT (fun j => ?_) (fun k x => ?_))
  · simp only [ax_up_ap, Nat.reduceEqDiff, ↓reduceIte]
  · simp only [ax_up_ap, x, ↓reduceIte]
set_option maxRecDepth 10000 in
theorem lp_201k_197 {g : ax_G} {K : ax_Po} {E : ax_En} {D0 D : ax_Dn} {G : Nat → Int32} (h : KSt D0 D 371 G) (hx : ∀ D', KSt D0 D' 372 (ax_up G 371 (D0 58 40)) → ax_WP g (ax_hy 201) K 92 92 209 [some (.ref 58)] [] (ax_S D' E)) : ax_WP g (ax_hy 201) K 92 92 197 [some (.ref 58)] [] (ax_S D E) := by
  have h44 := h.1
  have h45 := h.2.1
  have hcl : (nI 371).toNatClampNeg = 371 := nI_clamp (by decide)
  have ha : nI 371 + 1 = nI 372 := by decide
  have hv : vp_in (nI 371) 500 := vp_in_nI (by decide) (by decide)
  have z10 : ¬ (1 : Int32) = 0 := by decide
  refine ax_WPo (l := [(200, cy_200k)]) (ax_oc sy_200k ax_on) ax_ok201 (fun t => t == 5 || t == 13 || t == 21 || t == 29 || t == 37 || t == 45 || t == 53 || t == 61 || t == 69 || t == 77 || t == 85 || t == 93 || t == 101 || t == 109 || t == 117 || t == 125 || t == 133 || t == 141 || t == 149 || t == 161 || t == 173 || t == 185 || t == 197 || t == 209) 400 197 rfl ?_
  simp +decide only [↓ax_B, ax_B, ax_kds, ax_gvs, ax_mcs, ax_ia_S, ax_up_ap, ax_vinL, and_self_left, ax_up_up, ax_up_sw, Nat.reduceAdd, Nat.reduceBEq, Nat.reduceLeDiff, Nat.reduceLT, Nat.reduceEqDiff, ↓reduceIte, true_and, and_true, List.cons_append, List.nil_append, Int32.reduceLT, Int32.reduceLE, Int32.reduceAdd, Int32.reduceToNatClampNeg, Int32.reduceOfNat, true_imp_iff, false_imp_iff, not_true_eq_false, not_false_eq_true, or_true, true_or, or_false, false_or, and_self, Bool.or_true, Bool.or_false, Bool.true_or, Bool.false_or, implies_true, forall_const, Bool.false_eq_true, Int32.neg_neg, ry_200k, h44, h45, hcl, ha, hv, z10]
  refine hx _ (KSt_f (f := 40) h (by decide) ?_ (fun j => ?_) (fun k x y => ?_))
  · simp only [ax_up_ap, Nat.reduceEqDiff, ↓reduceIte]
  · simp only [ax_up_ap, Nat.reduceEqDiff, ↓reduceIte]
    by_cases x : j = 45
    · subst x; rfl
    · by_cases y : j = 40
      · subst y; rfl
      · simp only [x, y, ↓reduceIte]
  · simp only [ax_up_ap, x, y, ↓reduceIte]
set_option maxRecDepth 10000 in
theorem lp_201r_197 {g : ax_G} {K : ax_Po} {E : ax_En} {D0 D : ax_Dn} {S T : Nat → Option Nat} (hT : T 40 = none) (h : RSt D0 D 371 S T) (hx : ∀ D', RSt D0 D' 372 S (ax_up T 40 (some 371)) → ax_WP g (ax_hy 201) K 92 92 209 [some (.ref 58)] [] (ax_S D' E)) : ax_WP g (ax_hy 201) K 92 92 197 [some (.ref 58)] [] (ax_S D E) := by
  have h44 := h.1
  have h45 := h.2.1
  have hcl : (nI 371).toNatClampNeg = 371 := nI_clamp (by decide)
  have ha : nI 371 + 1 = nI 372 := by decide
  have hv : vp_in (nI 371) 500 := vp_in_nI (by decide) (by decide)
  have z10 : ¬ (1 : Int32) = 0 := by decide
  refine ax_WPo (l := [(200, cy_200r)]) (ax_oc sy_200r ax_on) ax_ok201 (fun t => t == 5 || t == 13 || t == 21 || t == 29 || t == 37 || t == 45 || t == 53 || t == 61 || t == 69 || t == 77 || t == 85 || t == 93 || t == 101 || t == 109 || t == 117 || t == 125 || t == 133 || t == 141 || t == 149 || t == 161 || t == 173 || t == 185 || t == 197 || t == 209) 400 197 rfl ?_
  simp +decide only [↓ax_B, ax_B, ax_kds, ax_gvs, ax_mcs, ax_ia_S, ax_up_ap, ax_vinL, and_self_left, ax_up_up, ax_up_sw, Nat.reduceAdd, Nat.reduceBEq, Nat.reduceLeDiff, Nat.reduceLT, Nat.reduceEqDiff, ↓reduceIte, true_and, and_true, List.cons_append, List.nil_append, Int32.reduceLT, Int32.reduceLE, Int32.reduceAdd, Int32.reduceToNatClampNeg, Int32.reduceOfNat, true_imp_iff, false_imp_iff, not_true_eq_false, not_false_eq_true, or_true, true_or, or_false, false_or, and_self, Bool.or_true, Bool.or_false, Bool.true_or, Bool.false_or, implies_true, forall_const, Bool.false_eq_true, Int32.neg_neg, ry_200r, h44, h45, hcl, ha, hv, z10]
  refine hx _ (RSt_f (f := 40) h (by decide) (by decide) hT (fun j => ?_) (fun k x => ?_))
  · simp only [ax_up_ap, Nat.reduceEqDiff, ↓reduceIte]
  · simp only [ax_up_ap, x, ↓reduceIte]
def kG_ (D0 : ax_Dn) : Nat → Int32 := (ax_up (ax_up (ax_up (ax_up (ax_up (kp_ 347 20 (D0 89) (kp_ 327 20 (D0 88) (kp_ 287 40 (D0 86) (kp_ 257 30 (D0 85) (kp_ 227 30 (D0 84) (kp_ 197 30 (D0 83) (kp_ 167 30 (D0 82) (kp_ 137 30 (D0 81) (kp_ 132 5 (D0 76) (kp_ 112 20 (D0 75) (kp_ 92 20 (D0 74) (kp_ 72 20 (D0 73) (kp_ 52 20 (D0 72) (kp_ 32 20 (D0 71) (kp_ 22 10 (D0 70) (kp_ 12 10 (D0 69) (kp_ 6 6 (D0 68) (kp_ 0 6 (D0 67) (D0 91))))))))))))))))))) 367 (D0 58 22)) 368 (D0 58 23)) 369 (D0 58 32)) 370 (D0 58 35)) 371 (D0 58 40))
def rS_ : Nat → Option Nat := (ax_up (ax_up (ax_up (ax_up (ax_up (ax_up (ax_up (ax_up (ax_up (ax_up (ax_up (ax_up (ax_up (ax_up (ax_up (ax_up (ax_up (ax_up (fun _ => none) 67 (some 0)) 68 (some 6)) 69 (some 12)) 70 (some 22)) 71 (some 32)) 72 (some 52)) 73 (some 72)) 74 (some 92)) 75 (some 112)) 76 (some 132)) 81 (some 137)) 82 (some 167)) 83 (some 197)) 84 (some 227)) 85 (some 257)) 86 (some 287)) 88 (some 327)) 89 (some 347))
def rT_ : Nat → Option Nat := (ax_up (ax_up (ax_up (ax_up (ax_up (fun _ => none) 22 (some 367)) 23 (some 368)) 32 (some 369)) 35 (some 370)) 40 (some 371))
/-- AskewLettersModel.passesAll()V -/
def cy_201k : ax_P1 := fun as z K => ∃ (D : ax_Dn) (E : ax_En), as = [.ref 58] ∧ z = ax_S D E ∧ (¬ D 58 44 = 0 ∧ D 58 44 = 1 ∧ ∀ D', KSt D D' 372 (kG_ D) → K none (ax_S D' E))
theorem ry_201k  (D : ax_Dn) (E : ax_En) (K : ax_Po) : cy_201k [.ref 58] (ax_S D E) K = (¬ D 58 44 = 0 ∧ D 58 44 = 1 ∧ ∀ D', KSt D D' 372 (kG_ D) → K none (ax_S D' E)) := propext ⟨fun ⟨D', E', h1, h2, h3⟩ => by cases h1; obtain ⟨rfl, rfl⟩ := ax_S_inj h2; exact h3, fun h => ⟨D, E, rfl, rfl, h⟩⟩
theorem sy_201k {g : ax_G} : ∀ as z K, cy_201k as z K → ax_MM g 201 as z K := by
  rintro _ _ K ⟨D, E, rfl, rfl, h⟩
  refine ax_go201 _ ?_
  obtain ⟨h0, h44, h⟩ := h
  refine ax_WPo (l := []) ax_on ax_ok201 (fun t => t == 5 || t == 13 || t == 21 || t == 29 || t == 37 || t == 45 || t == 53 || t == 61 || t == 69 || t == 77 || t == 85 || t == 93 || t == 101 || t == 109 || t == 117 || t == 125 || t == 133 || t == 141 || t == 149 || t == 161 || t == 173 || t == 185 || t == 197 || t == 209) 400 0 rfl ?_
  simp +decide only [↓ax_B, ax_B, ax_kds, ax_gvs, ax_mcs, ax_ia_S, ax_up_ap, ax_vinL, and_self_left, ax_up_up, ax_up_sw, Nat.reduceAdd, Nat.reduceBEq, Nat.reduceLeDiff, Nat.reduceLT, Nat.reduceEqDiff, ↓reduceIte, true_and, and_true, List.cons_append, List.nil_append, Int32.reduceLT, Int32.reduceLE, Int32.reduceAdd, Int32.reduceToNatClampNeg, Int32.reduceOfNat, true_imp_iff, false_imp_iff, not_true_eq_false, not_false_eq_true, or_true, true_or, or_false, false_or, and_self, Bool.or_true, Bool.or_false, Bool.true_or, Bool.false_or, implies_true, forall_const, Bool.false_eq_true, Int32.neg_neg]
  have h0 : KSt D (ax_up D 58 (ax_up (D 58) 45 0)) 0 (D 91) := ⟨by simp only [ax_up_ap, Nat.reduceEqDiff, ↓reduceIte]; exact h44, by simp only [ax_up_ap, Nat.reduceEqDiff, ↓reduceIte]; exact nI_0.symm, by simp only [ax_up_ap, Nat.reduceEqDiff, ↓reduceIte], fun k x y => by simp only [ax_up_ap, x, ↓reduceIte], fun j x => by simp only [ax_up_ap, x, ↓reduceIte]⟩
  refine lp_201k_5 h0 (fun D1 h1 => ?_)
  refine lp_201k_13 h1 (fun D2 h2 => ?_)
  refine lp_201k_21 h2 (fun D3 h3 => ?_)
  refine lp_201k_29 h3 (fun D4 h4 => ?_)
  refine lp_201k_37 h4 (fun D5 h5 => ?_)
  refine lp_201k_45 h5 (fun D6 h6 => ?_)
  refine lp_201k_53 h6 (fun D7 h7 => ?_)
  refine lp_201k_61 h7 (fun D8 h8 => ?_)
  refine lp_201k_69 h8 (fun D9 h9 => ?_)
  refine lp_201k_77 h9 (fun D10 h10 => ?_)
  refine lp_201k_85 h10 (fun D11 h11 => ?_)
  refine lp_201k_93 h11 (fun D12 h12 => ?_)
  refine lp_201k_101 h12 (fun D13 h13 => ?_)
  refine lp_201k_109 h13 (fun D14 h14 => ?_)
  refine lp_201k_117 h14 (fun D15 h15 => ?_)
  refine lp_201k_125 h15 (fun D16 h16 => ?_)
  refine lp_201k_133 h16 (fun D17 h17 => ?_)
  refine lp_201k_141 h17 (fun D18 h18 => ?_)
  refine lp_201k_149 h18 (fun D19 h19 => ?_)
  refine lp_201k_161 h19 (fun D20 h20 => ?_)
  refine lp_201k_173 h20 (fun D21 h21 => ?_)
  refine lp_201k_185 h21 (fun D22 h22 => ?_)
  refine lp_201k_197 h22 (fun D23 h23 => ?_)
  refine ax_WPo (l := []) ax_on ax_ok201 (fun _ => false) 400 209 rfl ?_
  simp +decide only [↓ax_B, ax_B, ax_kds, ax_gvs, ax_mcs, ax_ia_S, ax_up_ap, ax_vinL, and_self_left, ax_up_up, ax_up_sw, Nat.reduceAdd, Nat.reduceBEq, Nat.reduceLeDiff, Nat.reduceLT, Nat.reduceEqDiff, ↓reduceIte, true_and, and_true, List.cons_append, List.nil_append, Int32.reduceLT, Int32.reduceLE, Int32.reduceAdd, Int32.reduceToNatClampNeg, Int32.reduceOfNat, true_imp_iff, false_imp_iff, not_true_eq_false, not_false_eq_true, or_true, true_or, or_false, false_or, and_self, Bool.or_true, Bool.or_false, Bool.true_or, Bool.false_or, implies_true, forall_const, Bool.false_eq_true, Int32.neg_neg]
  exact h D23 h23
/-- AskewLettersModel.passesAll()V -/
def cy_201r : ax_P1 := fun as z K => ∃ (D : ax_Dn) (E : ax_En), as = [.ref 58] ∧ z = ax_S D E ∧ (D 58 44 = 0 ∧ ∀ D', RSt D D' 372 rS_ rT_ → K none (ax_S D' E))
theorem ry_201r  (D : ax_Dn) (E : ax_En) (K : ax_Po) : cy_201r [.ref 58] (ax_S D E) K = (D 58 44 = 0 ∧ ∀ D', RSt D D' 372 rS_ rT_ → K none (ax_S D' E)) := propext ⟨fun ⟨D', E', h1, h2, h3⟩ => by cases h1; obtain ⟨rfl, rfl⟩ := ax_S_inj h2; exact h3, fun h => ⟨D, E, rfl, rfl, h⟩⟩
theorem sy_201r {g : ax_G} : ∀ as z K, cy_201r as z K → ax_MM g 201 as z K := by
  rintro _ _ K ⟨D, E, rfl, rfl, h⟩
  refine ax_go201 _ ?_
  obtain ⟨h44, h⟩ := h
  refine ax_WPo (l := []) ax_on ax_ok201 (fun t => t == 5 || t == 13 || t == 21 || t == 29 || t == 37 || t == 45 || t == 53 || t == 61 || t == 69 || t == 77 || t == 85 || t == 93 || t == 101 || t == 109 || t == 117 || t == 125 || t == 133 || t == 141 || t == 149 || t == 161 || t == 173 || t == 185 || t == 197 || t == 209) 400 0 rfl ?_
  simp +decide only [↓ax_B, ax_B, ax_kds, ax_gvs, ax_mcs, ax_ia_S, ax_up_ap, ax_vinL, and_self_left, ax_up_up, ax_up_sw, Nat.reduceAdd, Nat.reduceBEq, Nat.reduceLeDiff, Nat.reduceLT, Nat.reduceEqDiff, ↓reduceIte, true_and, and_true, List.cons_append, List.nil_append, Int32.reduceLT, Int32.reduceLE, Int32.reduceAdd, Int32.reduceToNatClampNeg, Int32.reduceOfNat, true_imp_iff, false_imp_iff, not_true_eq_false, not_false_eq_true, or_true, true_or, or_false, false_or, and_self, Bool.or_true, Bool.or_false, Bool.true_or, Bool.false_or, implies_true, forall_const, Bool.false_eq_true, Int32.neg_neg]
  have h0 : RSt D (ax_up D 58 (ax_up (D 58) 45 0)) 0 (fun _ => none) (fun _ => none) := ⟨by simp only [ax_up_ap, Nat.reduceEqDiff, ↓reduceIte]; exact h44, by simp only [ax_up_ap, Nat.reduceEqDiff, ↓reduceIte]; exact nI_0.symm, fun k x => by simp only [ax_up_ap, x, ↓reduceIte], fun j x => by simp only [ax_up_ap, x, ↓reduceIte], rfl, rfl⟩
  refine lp_201r_5 rfl h0 (fun D1 h1 => ?_)
  refine lp_201r_13 rfl h1 (fun D2 h2 => ?_)
  refine lp_201r_21 rfl h2 (fun D3 h3 => ?_)
  refine lp_201r_29 rfl h3 (fun D4 h4 => ?_)
  refine lp_201r_37 rfl h4 (fun D5 h5 => ?_)
  refine lp_201r_45 rfl h5 (fun D6 h6 => ?_)
  refine lp_201r_53 rfl h6 (fun D7 h7 => ?_)
  refine lp_201r_61 rfl h7 (fun D8 h8 => ?_)
  refine lp_201r_69 rfl h8 (fun D9 h9 => ?_)
  refine lp_201r_77 rfl h9 (fun D10 h10 => ?_)
  refine lp_201r_85 rfl h10 (fun D11 h11 => ?_)
  refine lp_201r_93 rfl h11 (fun D12 h12 => ?_)
  refine lp_201r_101 rfl h12 (fun D13 h13 => ?_)
  refine lp_201r_109 rfl h13 (fun D14 h14 => ?_)
  refine lp_201r_117 rfl h14 (fun D15 h15 => ?_)
  refine lp_201r_125 rfl h15 (fun D16 h16 => ?_)
  refine lp_201r_133 rfl h16 (fun D17 h17 => ?_)
  refine lp_201r_141 rfl h17 (fun D18 h18 => ?_)
  refine lp_201r_149 rfl h18 (fun D19 h19 => ?_)
  refine lp_201r_161 rfl h19 (fun D20 h20 => ?_)
  refine lp_201r_173 rfl h20 (fun D21 h21 => ?_)
  refine lp_201r_185 rfl h21 (fun D22 h22 => ?_)
  refine lp_201r_197 rfl h22 (fun D23 h23 => ?_)
  refine ax_WPo (l := []) ax_on ax_ok201 (fun _ => false) 400 209 rfl ?_
  simp +decide only [↓ax_B, ax_B, ax_kds, ax_gvs, ax_mcs, ax_ia_S, ax_up_ap, ax_vinL, and_self_left, ax_up_up, ax_up_sw, Nat.reduceAdd, Nat.reduceBEq, Nat.reduceLeDiff, Nat.reduceLT, Nat.reduceEqDiff, ↓reduceIte, true_and, and_true, List.cons_append, List.nil_append, Int32.reduceLT, Int32.reduceLE, Int32.reduceAdd, Int32.reduceToNatClampNeg, Int32.reduceOfNat, true_imp_iff, false_imp_iff, not_true_eq_false, not_false_eq_true, or_true, true_or, or_false, false_or, and_self, Bool.or_true, Bool.or_false, Bool.true_or, Bool.false_or, implies_true, forall_const, Bool.false_eq_true, Int32.neg_neg]
  exact h D23 h23
/-- AskewLetters.image()I -/
def cy_107 : ax_P1 := fun as z K => ∃ (D : ax_Dn) (E : ax_En), as = [.ref 0] ∧ z = ax_S D E ∧ (K (some (Value.int (D 2 0))) (ax_S (ax_up (ax_up (ax_up (ax_up (ax_up (ax_up (ax_up (ax_up (ax_up (ax_up (ax_up (ax_up (ax_up (ax_up (ax_up (ax_up (ax_up (ax_up (ax_up (ax_up (ax_up D 0 (ax_up (D 0) 2 1)) 22 (ax_up (ax_up (D 22) 4 (D 1 4)) 5 (D 1 5))) 23 (ax_up (ax_up (D 23) 0 (D 2 0)) 5 (D 2 5))) 24 (va_cpy (D 3) (D 24) 0 0 6)) 25 (va_cpy (D 4) (D 25) 0 0 6)) 26 (va_cpy (D 5) (D 26) 0 0 10)) 27 (va_cpy (D 6) (D 27) 0 0 10)) 28 (va_cpy (D 7) (D 28) 0 0 20)) 29 (va_cpy (D 8) (D 29) 0 0 20)) 30 (va_cpy (D 9) (D 30) 0 0 20)) 31 (va_cpy (D 10) (D 31) 0 0 20)) 32 (va_cpy (D 11) (D 32) 0 0 20)) 33 (ax_up (D 33) 0 (D 12 0))) 34 (va_cpy (D 13) (D 34) 0 0 30)) 35 (va_cpy (D 14) (D 35) 0 0 30)) 36 (va_cpy (D 15) (D 36) 0 0 30)) 37 (va_cpy (D 16) (D 37) 0 0 30)) 38 (va_cpy (D 17) (D 38) 0 0 30)) 40 (ax_up (D 40) 0 (D 19 0))) 41 (va_cpy (D 20) (D 41) 0 0 40)) 42 (va_cpy (D 21) (D 42) 0 0 5)) E))
theorem ry_107  (D : ax_Dn) (E : ax_En) (K : ax_Po) : cy_107 [.ref 0] (ax_S D E) K = (K (some (Value.int (D 2 0))) (ax_S (ax_up (ax_up (ax_up (ax_up (ax_up (ax_up (ax_up (ax_up (ax_up (ax_up (ax_up (ax_up (ax_up (ax_up (ax_up (ax_up (ax_up (ax_up (ax_up (ax_up (ax_up D 0 (ax_up (D 0) 2 1)) 22 (ax_up (ax_up (D 22) 4 (D 1 4)) 5 (D 1 5))) 23 (ax_up (ax_up (D 23) 0 (D 2 0)) 5 (D 2 5))) 24 (va_cpy (D 3) (D 24) 0 0 6)) 25 (va_cpy (D 4) (D 25) 0 0 6)) 26 (va_cpy (D 5) (D 26) 0 0 10)) 27 (va_cpy (D 6) (D 27) 0 0 10)) 28 (va_cpy (D 7) (D 28) 0 0 20)) 29 (va_cpy (D 8) (D 29) 0 0 20)) 30 (va_cpy (D 9) (D 30) 0 0 20)) 31 (va_cpy (D 10) (D 31) 0 0 20)) 32 (va_cpy (D 11) (D 32) 0 0 20)) 33 (ax_up (D 33) 0 (D 12 0))) 34 (va_cpy (D 13) (D 34) 0 0 30)) 35 (va_cpy (D 14) (D 35) 0 0 30)) 36 (va_cpy (D 15) (D 36) 0 0 30)) 37 (va_cpy (D 16) (D 37) 0 0 30)) 38 (va_cpy (D 17) (D 38) 0 0 30)) 40 (ax_up (D 40) 0 (D 19 0))) 41 (va_cpy (D 20) (D 41) 0 0 40)) 42 (va_cpy (D 21) (D 42) 0 0 5)) E)) := propext ⟨fun ⟨D', E', h1, h2, h3⟩ => by cases h1; obtain ⟨rfl, rfl⟩ := ax_S_inj h2; exact h3, fun h => ⟨D, E, rfl, rfl, h⟩⟩
set_option maxRecDepth 10000 in
theorem sy_107 {g : ax_G} : ∀ as z K, cy_107 as z K → ax_MM g 107 as z K := by
  rintro _ _ K ⟨D, E, rfl, rfl, h⟩
  refine ax_go107 _ ?_
  refine ax_WPo (l := [(24, cy_24a)]) (ax_oc sy_24a ax_on) ax_ok107 (fun _ => false) 400 0 rfl ?_
  simp +decide only [↓ax_B, ax_B, ax_kds, ax_gvs, ax_mcs, ax_ia_S, ax_up_ap, ax_vinL, and_self_left, ax_up_up, ax_up_sw, Nat.reduceAdd, Nat.reduceBEq, Nat.reduceLeDiff, Nat.reduceLT, Nat.reduceEqDiff, ↓reduceIte, true_and, and_true, List.cons_append, List.nil_append, Int32.reduceLT, Int32.reduceLE, Int32.reduceAdd, Int32.reduceToNatClampNeg, Int32.reduceOfNat, true_imp_iff, false_imp_iff, not_true_eq_false, not_false_eq_true, or_true, true_or, or_false, false_or, and_self, Bool.or_true, Bool.or_false, Bool.true_or, Bool.false_or, implies_true, forall_const, Bool.false_eq_true, Int32.neg_neg, ry_24a]
  exact h
/-- AskewLetters.on()I -/
def cy_108 : ax_P1 := fun as z K => ∃ (D : ax_Dn) (E : ax_En), as = [.ref 0] ∧ z = ax_S D E ∧ ((¬D 0 2 = 0 → K (some (Value.int (D 23 0))) (ax_S (ax_up (ax_up (ax_up (ax_up (ax_up (ax_up (ax_up (ax_up (ax_up (ax_up (ax_up (ax_up (ax_up (ax_up (ax_up (ax_up (ax_up (ax_up (ax_up (ax_up D 1 (ax_up (ax_up (D 1) 4 (D 22 4)) 5 (D 22 5))) 2 (ax_up (ax_up (D 2) 0 (D 23 0)) 5 (D 23 5))) 3 (va_cpy (D 24) (D 3) 0 0 6)) 4 (va_cpy (D 25) (D 4) 0 0 6)) 5 (va_cpy (D 26) (D 5) 0 0 10)) 6 (va_cpy (D 27) (D 6) 0 0 10)) 7 (va_cpy (D 28) (D 7) 0 0 20)) 8 (va_cpy (D 29) (D 8) 0 0 20)) 9 (va_cpy (D 30) (D 9) 0 0 20)) 10 (va_cpy (D 31) (D 10) 0 0 20)) 11 (va_cpy (D 32) (D 11) 0 0 20)) 12 (ax_up (D 12) 0 (D 33 0))) 13 (va_cpy (D 34) (D 13) 0 0 30)) 14 (va_cpy (D 35) (D 14) 0 0 30)) 15 (va_cpy (D 36) (D 15) 0 0 30)) 16 (va_cpy (D 37) (D 16) 0 0 30)) 17 (va_cpy (D 38) (D 17) 0 0 30)) 19 (ax_up (D 19) 0 (D 40 0))) 20 (va_cpy (D 41) (D 20) 0 0 40)) 21 (va_cpy (D 42) (D 21) 0 0 5)) E)) ∧ (D 0 2 = 0 → K (some (Value.int (-3))) (ax_S (ax_up D 51 (ax_up (D 51) 3 (D 51 3 + 1))) E)))
theorem ry_108  (D : ax_Dn) (E : ax_En) (K : ax_Po) : cy_108 [.ref 0] (ax_S D E) K = ((¬D 0 2 = 0 → K (some (Value.int (D 23 0))) (ax_S (ax_up (ax_up (ax_up (ax_up (ax_up (ax_up (ax_up (ax_up (ax_up (ax_up (ax_up (ax_up (ax_up (ax_up (ax_up (ax_up (ax_up (ax_up (ax_up (ax_up D 1 (ax_up (ax_up (D 1) 4 (D 22 4)) 5 (D 22 5))) 2 (ax_up (ax_up (D 2) 0 (D 23 0)) 5 (D 23 5))) 3 (va_cpy (D 24) (D 3) 0 0 6)) 4 (va_cpy (D 25) (D 4) 0 0 6)) 5 (va_cpy (D 26) (D 5) 0 0 10)) 6 (va_cpy (D 27) (D 6) 0 0 10)) 7 (va_cpy (D 28) (D 7) 0 0 20)) 8 (va_cpy (D 29) (D 8) 0 0 20)) 9 (va_cpy (D 30) (D 9) 0 0 20)) 10 (va_cpy (D 31) (D 10) 0 0 20)) 11 (va_cpy (D 32) (D 11) 0 0 20)) 12 (ax_up (D 12) 0 (D 33 0))) 13 (va_cpy (D 34) (D 13) 0 0 30)) 14 (va_cpy (D 35) (D 14) 0 0 30)) 15 (va_cpy (D 36) (D 15) 0 0 30)) 16 (va_cpy (D 37) (D 16) 0 0 30)) 17 (va_cpy (D 38) (D 17) 0 0 30)) 19 (ax_up (D 19) 0 (D 40 0))) 20 (va_cpy (D 41) (D 20) 0 0 40)) 21 (va_cpy (D 42) (D 21) 0 0 5)) E)) ∧ (D 0 2 = 0 → K (some (Value.int (-3))) (ax_S (ax_up D 51 (ax_up (D 51) 3 (D 51 3 + 1))) E))) := propext ⟨fun ⟨D', E', h1, h2, h3⟩ => by cases h1; obtain ⟨rfl, rfl⟩ := ax_S_inj h2; exact h3, fun h => ⟨D, E, rfl, rfl, h⟩⟩
set_option maxRecDepth 10000 in
theorem sy_108 {g : ax_G} : ∀ as z K, cy_108 as z K → ax_MM g 108 as z K := by
  rintro _ _ K ⟨D, E, rfl, rfl, h⟩
  refine ax_go108 _ ?_
  refine ax_WPo (l := [(24, cy_24b), (110, cy_110)]) (ax_oc sy_24b (ax_oc sy_110 ax_on)) ax_ok108 (fun _ => false) 400 0 rfl ?_
  simp +decide only [↓ax_B, ax_B, ax_kds, ax_gvs, ax_mcs, ax_ia_S, ax_up_ap, ax_vinL, and_self_left, ax_up_up, ax_up_sw, Nat.reduceAdd, Nat.reduceBEq, Nat.reduceLeDiff, Nat.reduceLT, Nat.reduceEqDiff, ↓reduceIte, true_and, and_true, List.cons_append, List.nil_append, Int32.reduceLT, Int32.reduceLE, Int32.reduceAdd, Int32.reduceToNatClampNeg, Int32.reduceOfNat, true_imp_iff, false_imp_iff, not_true_eq_false, not_false_eq_true, or_true, true_or, or_false, false_or, and_self, Bool.or_true, Bool.or_false, Bool.true_or, Bool.false_or, implies_true, forall_const, Bool.false_eq_true, Int32.neg_neg, ax_X108, ry_24b, ry_110]
  exact h
/-- AskewLettersModel.image()I -/
def cy_202 : ax_P1 := fun as z K => ∃ (D : ax_Dn) (E : ax_En), as = [.ref 58] ∧ z = ax_S D E ∧ (∀ (D' : ax_Dn), KSt (ax_up D 58 (ax_up (ax_up (D 58) 43 1) 44 1)) D' 372 (kG_ (ax_up D 58 (ax_up (ax_up (D 58) 43 1) 44 1))) → K (some (Value.int (D' 58 22))) (ax_S D' E))
theorem ry_202  (D : ax_Dn) (E : ax_En) (K : ax_Po) : cy_202 [.ref 58] (ax_S D E) K = (∀ (D' : ax_Dn), KSt (ax_up D 58 (ax_up (ax_up (D 58) 43 1) 44 1)) D' 372 (kG_ (ax_up D 58 (ax_up (ax_up (D 58) 43 1) 44 1))) → K (some (Value.int (D' 58 22))) (ax_S D' E)) := propext ⟨fun ⟨D', E', h1, h2, h3⟩ => by cases h1; obtain ⟨rfl, rfl⟩ := ax_S_inj h2; exact h3, fun h => ⟨D, E, rfl, rfl, h⟩⟩
set_option maxRecDepth 10000 in
theorem sy_202 {g : ax_G} : ∀ as z K, cy_202 as z K → ax_MM g 202 as z K := by
  rintro _ _ K ⟨D, E, rfl, rfl, h⟩
  refine ax_go202 _ ?_
  refine ax_WPo (l := [(201, cy_201k)]) (ax_oc sy_201k ax_on) ax_ok202 (fun _ => false) 400 0 rfl ?_
  simp +decide only [↓ax_B, ax_B, ax_kds, ax_gvs, ax_mcs, ax_ia_S, ax_up_ap, ax_vinL, and_self_left, ax_up_up, ax_up_sw, Nat.reduceAdd, Nat.reduceBEq, Nat.reduceLeDiff, Nat.reduceLT, Nat.reduceEqDiff, ↓reduceIte, true_and, and_true, List.cons_append, List.nil_append, Int32.reduceLT, Int32.reduceLE, Int32.reduceAdd, Int32.reduceToNatClampNeg, Int32.reduceOfNat, true_imp_iff, false_imp_iff, not_true_eq_false, not_false_eq_true, or_true, true_or, or_false, false_or, and_self, Bool.or_true, Bool.or_false, Bool.true_or, Bool.false_or, implies_true, forall_const, Bool.false_eq_true, Int32.neg_neg, ry_201k]
  exact h
/-- AskewLettersModel.on()I -/
def cy_203 : ax_P1 := fun as z K => ∃ (D : ax_Dn) (E : ax_En), as = [.ref 58] ∧ z = ax_S D E ∧ ((¬D 58 43 = 0 → ∀ (D' : ax_Dn), RSt (ax_up D 58 (ax_up (D 58) 44 0)) D' 372 rS_ rT_ → K (some (Value.int (D' 58 22))) (ax_S D' E)) ∧ (D 58 43 = 0 → K (some (Value.int (-3))) (ax_S (ax_up D 59 (ax_up (D 59) 3 (D 59 3 + 1))) E)))
theorem ry_203  (D : ax_Dn) (E : ax_En) (K : ax_Po) : cy_203 [.ref 58] (ax_S D E) K = ((¬D 58 43 = 0 → ∀ (D' : ax_Dn), RSt (ax_up D 58 (ax_up (D 58) 44 0)) D' 372 rS_ rT_ → K (some (Value.int (D' 58 22))) (ax_S D' E)) ∧ (D 58 43 = 0 → K (some (Value.int (-3))) (ax_S (ax_up D 59 (ax_up (D 59) 3 (D 59 3 + 1))) E))) := propext ⟨fun ⟨D', E', h1, h2, h3⟩ => by cases h1; obtain ⟨rfl, rfl⟩ := ax_S_inj h2; exact h3, fun h => ⟨D, E, rfl, rfl, h⟩⟩
set_option maxRecDepth 10000 in
theorem sy_203 {g : ax_G} : ∀ as z K, cy_203 as z K → ax_MM g 203 as z K := by
  rintro _ _ K ⟨D, E, rfl, rfl, h⟩
  refine ax_go203 _ ?_
  refine ax_WPo (l := [(125, cy_125), (201, cy_201r)]) (ax_oc sy_125 (ax_oc sy_201r ax_on)) ax_ok203 (fun _ => false) 400 0 rfl ?_
  simp +decide only [↓ax_B, ax_B, ax_kds, ax_gvs, ax_mcs, ax_ia_S, ax_up_ap, ax_vinL, and_self_left, ax_up_up, ax_up_sw, Nat.reduceAdd, Nat.reduceBEq, Nat.reduceLeDiff, Nat.reduceLT, Nat.reduceEqDiff, ↓reduceIte, true_and, and_true, List.cons_append, List.nil_append, Int32.reduceLT, Int32.reduceLE, Int32.reduceAdd, Int32.reduceToNatClampNeg, Int32.reduceOfNat, true_imp_iff, false_imp_iff, not_true_eq_false, not_false_eq_true, or_true, true_or, or_false, false_or, and_self, Bool.or_true, Bool.or_false, Bool.true_or, Bool.false_or, implies_true, forall_const, Bool.false_eq_true, Int32.neg_neg, ax_X203, ry_125, ry_201r]
  exact h
