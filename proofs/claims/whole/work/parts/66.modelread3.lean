/-! The book's text is read: the model's statement. -/
abbrev L6 : List Nat := [61, 62, 63, 64, 65, 66]
/-- what a statement at p leaves in the model's rows -/
def sG_ (t : Nat → Int32) (n p s : Nat) (D : ax_Dn) : Prop :=
  D 61 s = t p ∧ D 66 s = nI p ∧ (t p = 109 → D 62 s = (nu_ t n 2 (p + 1) 0).2) ∧ (t p = 107 → D 62 s = t (p + 1) - 48 ∧ D 65 s = lV_ t (p + 2))
  ∧ ((t p = 98 ∨ t p = 115 ∨ t p = 110) → D 62 s = t (p + 1) - 48 ∧ D 63 s = t (p + 2) - 48 ∧ D 64 s = (nu_ t n 3 (p + 4) 0).2)
  ∧ (t p = 98 → D 65 s = lV_ t (bP_ t n (p + 1)).2) ∧ (t p = 110 → D 65 s = t ((bP_ t n (p + 1)).2 + 1) - 48)
  ∧ (t p = 99 → D 62 s = t (p + 1) - 48 ∧ D 63 s = t (p + 2) - 48)
/-- how a statement may end -/
def HM (K : ax_Po) (E : ax_En) (D : ax_Dn) (t : Nat → Int32) (n p s : Nat) : Prop := ∀ D', qm_ L6 s D D' → tqm_ D' t n (sP_ t n p).2 → ((sP_ t n p).1 = true → sG_ t n p s D') → K (some (.int (if (sP_ t n p).1 = true then 1 else 0))) (ax_S D' E)
theorem en_M {K : ax_Po} {E : ax_En} {D : ax_Dn} {t : Nat → Int32} {n p s : Nat} {l : Int32} {ok : Bool} {q : Nat} (b0 : byt t n p l) (hL : lt_ l) (h : HM K E D t n p s) (e : iP_ t n l (p + 1) = (ok, q)) :
    (ok = false ∨ ¬ byt t n q 59 → ∀ D', qm_ L6 s D D' → tqm_ D' t n q → K (some (.int 0)) (ax_S D' E)) ∧ (ok = true → byt t n q 59 → ∀ D', qm_ L6 s D D' → tqm_ D' t n (q + 1) → sG_ t n p s D' → K (some (.int 1)) (ax_S D' E)) := by
  have hl : hr_ t n p = l := (hr_e b0.1).trans b0.2
  unfold HM at h
  constructor
  · intro o D' Q T
    have e' : sP_ t n p = (false, q) := by
      unfold sP_
      rw [hl, if_pos hL, e]
      cases ok
      · simp only [Bool.false_eq_true, ↓reduceIte]
      · simp only [↓reduceIte]
        rw [if_neg (o.elim (fun z => absurd z (by decide)) (fun z => z))]
    rw [e'] at h
    exact h D' Q T (fun z => absurd z Bool.false_ne_true)
  · intro o b D' Q T S
    have e' : sP_ t n p = (true, q + 1) := by
      unfold sP_
      rw [hl, if_pos hL, e, o]
      simp only [↓reduceIte]
      rw [if_pos b]
    rw [e'] at h
    exact h D' Q T (fun _ => S)
/-- the ";" behind, at q -/
theorem ta_M {K : ax_Po} {E : ax_En} {D : ax_Dn} {t : Nat → Int32} {n p s : Nat} {ok : Bool} {q : Nat} (H : (ok = false ∨ ¬ byt t n q 59 → ∀ D', qm_ L6 s D D' → tqm_ D' t n q → K (some (.int 0)) (ax_S D' E)) ∧ (ok = true → byt t n q 59 → ∀ D', qm_ L6 s D D' → tqm_ D' t n (q + 1) → sG_ t n p s D' → K (some (.int 1)) (ax_S D' E))) (o : ok = true) (D1 : ax_Dn) (Q : qm_ L6 s D D1) (T : tqm_ D1 t n q) (S : sG_ t n p s D1) :
    ∃ t n p, tqm_ D1 t n p ∧ (byt t n p 59 → K (some (.int 1)) (ax_S (ax_up D1 58 (ax_up (D1 58) 21 (nI (p + 1)))) E)) ∧ (¬ byt t n p 59 → K (some (.int 0)) (ax_S D1 E)) := by
  refine ⟨t, n, q, T, fun b => ?_, fun b => H.1 (Or.inr b) _ Q T⟩
  refine H.2 o b _ (qm_58 Q _) (tm_58 T (q + 1) b.1) ?_
  unfold sG_ at S ⊢
  simp only [ax_up_ap, Nat.reduceEqDiff, ↓reduceIte]
  exact S
theorem ta_Mc {K : ax_Po} {E : ax_En} {D : ax_Dn} {t : Nat → Int32} {n p s : Nat} {ok : Bool} {q : Nat} (H : (ok = false ∨ ¬ byt t n q 59 → ∀ D', qm_ L6 s D D' → tqm_ D' t n q → K (some (.int 0)) (ax_S D' E)) ∧ (ok = true → byt t n q 59 → ∀ D', qm_ L6 s D D' → tqm_ D' t n (q + 1) → sG_ t n p s D' → K (some (.int 1)) (ax_S D' E))) (o : ok = true) (c : Nat) (hc : 58 < c) (D1 : ax_Dn) (v : Int32) (Q : qm_ L6 s D (ax_up D1 c (ax_up (D1 c) s v))) (T : tqm_ (ax_up D1 c (ax_up (D1 c) s v)) t n q) (S : sG_ t n p s (ax_up D1 c (ax_up (D1 c) s v))) :
    ∃ t n p, tqm_ (ax_up D1 c (ax_up (D1 c) s v)) t n p ∧ (byt t n p 59 → K (some (.int 1)) (ax_S (ax_up (ax_up D1 58 (ax_up (D1 58) 21 (nI (p + 1)))) c (ax_up (D1 c) s v)) E)) ∧ (¬ byt t n p 59 → K (some (.int 0)) (ax_S (ax_up D1 c (ax_up (D1 c) s v)) E)) := by
  obtain ⟨t', n', p', a, b, c'⟩ := ta_M H o _ Q T S
  rw [ax_up_n _ _ (show 58 ≠ c by omega)] at b
  rw [ax_up_sw c 58 _ _ _ hc] at b
  exact ⟨t', n', p', a, b, c'⟩
abbrev iv_ (l : Int32) : Prop := l = 98 ∨ l = 115 ∨ l = 110
theorem iP_f {t : Nat → Int32} {n p : Nat} {l : Int32} (hl : iv_ l) {q : Nat} (h : bP_ t n p = (false, q)) : iP_ t n l p = (false, q) := by
  unfold iP_
  rcases hl with rfl | rfl | rfl
  · rw [if_neg (by decide), if_neg (by decide), if_pos rfl, h]; rfl
  · rw [if_neg (by decide), if_neg (by decide), if_neg (by decide), if_pos rfl, h]
  · rw [if_neg (by decide), if_neg (by decide), if_neg (by decide), if_neg (by decide), if_pos rfl, h]; rfl
theorem iv_lt {l : Int32} (h : iv_ l) : lt_ l := h.elim (fun z => Or.inr (Or.inr (Or.inl z))) (fun h => h.elim (fun z => Or.inr (Or.inr (Or.inr (Or.inl z)))) (fun z => Or.inr (Or.inr (Or.inr (Or.inr (Or.inl z))))))
theorem sg109 {t : Nat → Int32} {n p s : Nat} {D : ax_Dn} (h : t p = 109) (f1 : D 61 s = t p) (f2 : D 66 s = nI p) (a : D 62 s = (nu_ t n 2 (p + 1) 0).2) : sG_ t n p s D := by
  refine ⟨f1, f2, fun _ => a, ?_, ?_, ?_, ?_, ?_⟩ <;> (rw [h]; exact fun q => absurd q (by decide))
theorem sg107 {t : Nat → Int32} {n p s : Nat} {D : ax_Dn} (h : t p = 107) (f1 : D 61 s = t p) (f2 : D 66 s = nI p) (a : D 62 s = t (p + 1) - 48) (b : D 65 s = lV_ t (p + 2)) : sG_ t n p s D := by
  refine ⟨f1, f2, ?_, fun _ => ⟨a, b⟩, ?_, ?_, ?_, ?_⟩ <;> (rw [h]; exact fun q => absurd q (by decide))
theorem sg99 {t : Nat → Int32} {n p s : Nat} {D : ax_Dn} (h : t p = 99) (f1 : D 61 s = t p) (f2 : D 66 s = nI p) (a : D 62 s = t (p + 1) - 48) (b : D 63 s = t (p + 2) - 48) : sG_ t n p s D := by
  refine ⟨f1, f2, ?_, ?_, ?_, ?_, ?_, fun _ => ⟨a, b⟩⟩ <;> (rw [h]; exact fun q => absurd q (by decide))
theorem sg98 {t : Nat → Int32} {n p s : Nat} {D : ax_Dn} (h : t p = 98) (f1 : D 61 s = t p) (f2 : D 66 s = nI p) (a : D 62 s = t (p + 1) - 48) (b : D 63 s = t (p + 2) - 48) (c : D 64 s = (nu_ t n 3 (p + 4) 0).2) (d : D 65 s = lV_ t (bP_ t n (p + 1)).2) : sG_ t n p s D := by
  refine ⟨f1, f2, ?_, ?_, fun _ => ⟨a, b, c⟩, fun _ => d, ?_, ?_⟩ <;> (rw [h]; exact fun q => absurd q (by decide))
theorem sg115 {t : Nat → Int32} {n p s : Nat} {D : ax_Dn} (h : t p = 115) (f1 : D 61 s = t p) (f2 : D 66 s = nI p) (a : D 62 s = t (p + 1) - 48) (b : D 63 s = t (p + 2) - 48) (c : D 64 s = (nu_ t n 3 (p + 4) 0).2) : sG_ t n p s D := by
  refine ⟨f1, f2, ?_, ?_, fun _ => ⟨a, b, c⟩, ?_, ?_, ?_⟩ <;> (rw [h]; exact fun q => absurd q (by decide))
theorem sg110 {t : Nat → Int32} {n p s : Nat} {D : ax_Dn} (h : t p = 110) (f1 : D 61 s = t p) (f2 : D 66 s = nI p) (a : D 62 s = t (p + 1) - 48) (b : D 63 s = t (p + 2) - 48) (c : D 64 s = (nu_ t n 3 (p + 4) 0).2) (d : D 65 s = t ((bP_ t n (p + 1)).2 + 1) - 48) : sG_ t n p s D := by
  refine ⟨f1, f2, ?_, ?_, fun _ => ⟨a, b, c⟩, ?_, fun _ => d, ?_⟩ <;> (rw [h]; exact fun q => absurd q (by decide))
theorem qm_z {D D' : ax_Dn} (h : qm_ [] 0 D D') {x i : Nat} (hx : ¬ x = 58) : D' x i = D x i := qm_k h (fun q => hx q.1) List.not_mem_nil
theorem qm_y {S : List Nat} {s : Nat} {D D' : ax_Dn} {x i : Nat} (h : qm_ S s D D') (hx : ¬ x = 58) (hS : ¬ x ∈ S) : D' x i = D x i := qm_k h (fun q => hx q.1) hS
theorem n2_ (t : Nat → Int32) {n p : Nat} (d : dgt t n p) : (nu_ t n 1 p 0).1 = p + 1 ∧ (nu_ t n 1 p 0).2 = t p - 48 := by rw [nu1_, if_pos d]; exact ⟨rfl, rfl⟩
theorem ge0_ {v : Int32} (h : ¬ v < 0) : 0 ≤ v := Int32.not_lt.mp h
/-- AskewLettersModel.statement()Z -/
def cy_135 : ax_P1 := fun as z K => ∃ (D : ax_Dn) (E : ax_En), as = [.ref 58] ∧ z = ax_S D E ∧ (∃ t n p s, tqm_ D t n p ∧ D 58 24 = nI s ∧ s < 32 ∧ HM K E D t n p s)
theorem ry_135  (D : ax_Dn) (E : ax_En) (K : ax_Po) : cy_135 [.ref 58] (ax_S D E) K = (∃ t n p s, tqm_ D t n p ∧ D 58 24 = nI s ∧ s < 32 ∧ HM K E D t n p s) := propext ⟨fun ⟨D', E', h1, h2, h3⟩ => by cases h1; obtain ⟨rfl, rfl⟩ := ax_S_inj h2; exact h3, fun h => ⟨D, E, rfl, rfl, h⟩⟩
set_option maxRecDepth 10000 in
theorem s5_109 {g : ax_G} {K : ax_Po} {E : ax_En} {D D1 : ax_Dn} {t : Nat → Int32} {n p s : Nat} (hs : s < 32) (T : tqm_ D1 t n (p + 1)) (b0 : byt t n p 109) (Q : qm_ L6 s D D1) (f1 : D1 61 s = t p) (f2 : D1 66 s = nI p) (h : HM K E D t n p s) : ax_WP g (ax_hy 135) K 92 92 124 [some (.ref 58), some (.int 109), some (.int (nI s))] [] (ax_S D1 E) := by
  have c1 : (nI s).toNatClampNeg = s := nI_clamp (by omega)
  have c2 : vp_in (nI s) 32 := vp_in_nI hs (by omega)
  refine ax_WPo (l := [(132, cy_132n), (133, cy_133b)]) (ax_oc sy_132n (ax_oc sy_133b ax_on)) ax_ok135 (fun _ => false) 400 124 rfl ?_
  simp +decide only [↓ax_B, ax_B, ax_kds, ax_gvs, ax_mcs, ax_ia_S, ax_up_ap, ax_vinL, and_self_left, ax_up_up, ax_up_sw, Nat.reduceAdd, Nat.reduceBEq, Nat.reduceLeDiff, Nat.reduceLT, Nat.reduceEqDiff, ↓reduceIte, true_and, and_true, List.cons_append, List.nil_append, Int32.reduceLT, Int32.reduceLE, Int32.reduceAdd, Int32.reduceToNatClampNeg, Int32.reduceOfNat, true_imp_iff, false_imp_iff, not_true_eq_false, not_false_eq_true, or_true, true_or, or_false, false_or, and_self, Bool.or_true, Bool.or_false, Bool.true_or, Bool.false_or, implies_true, forall_const, Bool.false_eq_true, Int32.neg_neg, ax_X135, ry_132n, ry_133b, c1,c2]
  refine ⟨t, n, p + 1, 2, T, rfl, by decide, by decide, fun d D' q' t' v hv hn => ⟨fun z => absurd z hn, fun _ => ?_⟩, fun d => ?_⟩
  · have H := en_M (ok := true) (q := (nu_ t n 2 (p + 1) 0).1) b0 (Or.inl rfl) h (by unfold iP_; rw [if_pos rfl, if_neg ((nu_p (by decide)).mp d)])
    refine ta_Mc H rfl 62 (by decide) D' v (qm_up (qm_e Q q') 62 (by decide) v) (tm_c t' 62 (by decide) _) (sg109 b0.2 ?_ ?_ ?_)
    · exact (qm_z q' (x := 61) (by decide)).trans f1
    · exact (qm_z q' (x := 66) (by decide)).trans f2
    · rw [ax_up_s, ax_up_s]; exact hv
  · have H := en_M (ok := false) (q := p + 1) b0 (Or.inl rfl) h (by unfold iP_; rw [if_pos rfl, if_pos (Classical.not_not.mp (fun z => d ((nu_p (by decide)).mpr z)))])
    exact H.1 (Or.inl rfl) _ (qm_up Q 62 (by decide) _) (tm_c T 62 (by decide) _)
set_option maxRecDepth 10000 in
theorem s5_107 {g : ax_G} {K : ax_Po} {E : ax_En} {D D1 : ax_Dn} {t : Nat → Int32} {n p s : Nat} (hs : s < 32) (T : tqm_ D1 t n (p + 1)) (h24 : D1 58 24 = nI s) (b0 : byt t n p 107) (Q : qm_ L6 s D D1) (f1 : D1 61 s = t p) (f2 : D1 66 s = nI p) (h : HM K E D t n p s) : ax_WP g (ax_hy 135) K 92 92 159 [some (.ref 58), some (.int 107), some (.int (nI s))] [] (ax_S D1 E) := by
  have c1 : (nI s).toNatClampNeg = s := nI_clamp (by omega)
  have c2 : vp_in (nI s) 32 := vp_in_nI hs (by omega)
  have hL : lt_ 107 := Or.inr (Or.inl rfl)
  refine ax_WPo (l := [(132, cy_132n), (133, cy_133b), (134, cy_134)]) (ax_oc sy_132n (ax_oc sy_133b (ax_oc sy_134 ax_on))) ax_ok135 (fun _ => false) 400 159 rfl ?_
  simp +decide only [↓ax_B, ax_B, ax_kds, ax_gvs, ax_mcs, ax_ia_S, ax_up_ap, ax_vinL, and_self_left, ax_up_up, ax_up_sw, Nat.reduceAdd, Nat.reduceBEq, Nat.reduceLeDiff, Nat.reduceLT, Nat.reduceEqDiff, ↓reduceIte, true_and, and_true, List.cons_append, List.nil_append, Int32.reduceLT, Int32.reduceLE, Int32.reduceAdd, Int32.reduceToNatClampNeg, Int32.reduceOfNat, true_imp_iff, false_imp_iff, not_true_eq_false, not_false_eq_true, or_true, true_or, or_false, false_or, and_self, Bool.or_true, Bool.or_false, Bool.true_or, Bool.false_or, implies_true, forall_const, Bool.false_eq_true, Int32.neg_neg, ax_X135, ry_132n, ry_133b, ry_134, c1,c2]
  refine ⟨t, n, p + 1, 1, T, rfl, by decide, by decide, fun d D' q' t' v hv hn => ⟨fun z => absurd z hn, fun _ => ?_⟩, fun d => ?_⟩
  · rw [(n2_ t d).1] at t'
    rw [(n2_ t d).2] at hv
    have e24 : D' 58 24 = nI s := (qm_k q' (by decide) List.not_mem_nil).trans h24
    refine ⟨t, n, p + 2, s, tm_c t' 62 (by decide) _, e24, hs, fun D2 q2 t2 g2 => ?_⟩
    have H := en_M (ok := (lP_ t n (p + 2)).1) (q := (lP_ t n (p + 2)).2) b0 hL h (by unfold iP_; rw [if_neg (by decide), if_pos rfl, if_pos d])
    have Q2 : qm_ L6 s D D2 := qm_tr (qm_up (qm_e Q q') 62 (by decide) v) q2 (List.Subset.refl _) (by decide)
    refine ⟨fun z => H.1 (Or.inl (bz0 z)) _ Q2 t2, fun z => ta_M H (bz1 z) _ Q2 t2 (sg107 b0.2 ?_ ?_ ?_ (g2 (bz1 z)))⟩
    · exact (qm_y q2 (x := 61) (by decide) (by decide)).trans ((qm_z q' (x := 61) (by decide)).trans f1)
    · exact (qm_y q2 (x := 66) (by decide) (by decide)).trans ((qm_z q' (x := 66) (by decide)).trans f2)
    · refine (qm_y q2 (x := 62) (by decide) (by decide)).trans ?_
      rw [ax_up_s, ax_up_s]; exact hv
  · have H := en_M (ok := false) (q := p + 1) b0 hL h (by unfold iP_; rw [if_neg (by decide), if_pos rfl, if_neg d])
    exact H.1 (Or.inl rfl) _ (qm_up Q 62 (by decide) _) (tm_c T 62 (by decide) _)
set_option maxRecDepth 10000 in
theorem s5_99 {g : ax_G} {K : ax_Po} {E : ax_En} {D D1 : ax_Dn} {t : Nat → Int32} {n p s : Nat} (hs : s < 32) (T : tqm_ D1 t n (p + 1)) (b0 : byt t n p 99) (Q : qm_ L6 s D D1) (f1 : D1 61 s = t p) (f2 : D1 66 s = nI p) (h : HM K E D t n p s) : ax_WP g (ax_hy 135) K 92 92 201 [some (.ref 58), some (.int 99), some (.int (nI s))] [] (ax_S D1 E) := by
  have c1 : (nI s).toNatClampNeg = s := nI_clamp (by omega)
  have c2 : vp_in (nI s) 32 := vp_in_nI hs (by omega)
  have hL : lt_ 99 := Or.inr (Or.inr (Or.inr (Or.inr (Or.inr rfl))))
  refine ax_WPo (l := [(132, cy_132n), (133, cy_133b)]) (ax_oc sy_132n (ax_oc sy_133b ax_on)) ax_ok135 (fun _ => false) 400 201 rfl ?_
  simp +decide only [↓ax_B, ax_B, ax_kds, ax_gvs, ax_mcs, ax_ia_S, ax_up_ap, ax_vinL, and_self_left, ax_up_up, ax_up_sw, Nat.reduceAdd, Nat.reduceBEq, Nat.reduceLeDiff, Nat.reduceLT, Nat.reduceEqDiff, ↓reduceIte, true_and, and_true, List.cons_append, List.nil_append, Int32.reduceLT, Int32.reduceLE, Int32.reduceAdd, Int32.reduceToNatClampNeg, Int32.reduceOfNat, true_imp_iff, false_imp_iff, not_true_eq_false, not_false_eq_true, or_true, true_or, or_false, false_or, and_self, Bool.or_true, Bool.or_false, Bool.true_or, Bool.false_or, implies_true, forall_const, Bool.false_eq_true, Int32.neg_neg, ax_X135, ry_132n, ry_133b, c1,c2]
  refine ⟨t, n, p + 1, 1, T, rfl, by decide, by decide, fun d D' q' t' v hv hn => ⟨fun _ => ?_, fun z => absurd (ge0_ hn) z⟩, fun d => ?_⟩
  · rw [(n2_ t d).1] at t'
    rw [(n2_ t d).2] at hv
    have Q1 : qm_ L6 s D (ax_up D' 62 (ax_up (D' 62) s v)) := qm_up (qm_e Q q') 62 (by decide) v
    have T1 : tqm_ (ax_up D' 62 (ax_up (D' 62) s v)) t n (p + 2) := tm_c t' 62 (by decide) _
    refine ⟨t, n, p + 2, 1, T1, rfl, by decide, by decide, fun d2 D2 q2 t2 w hw hn2 => ⟨fun z => absurd z hn2, fun _ => ?_⟩, fun d2 => ?_⟩
    · rw [(n2_ t d2).1] at t2
      rw [(n2_ t d2).2] at hw
      have H := en_M (ok := true) (q := p + 3) b0 hL h (by unfold iP_; rw [if_neg (by decide), if_neg (by decide), if_neg (by decide), if_neg (by decide), if_neg (by decide), if_pos d, if_pos d2])
      refine ta_Mc H rfl 63 (by decide) D2 w (qm_up (qm_e Q1 q2) 63 (by decide) w) (tm_c t2 63 (by decide) _) (sg99 b0.2 ?_ ?_ ?_ ?_)
      · exact (qm_z q2 (x := 61) (by decide)).trans ((qm_z q' (x := 61) (by decide)).trans f1)
      · exact (qm_z q2 (x := 66) (by decide)).trans ((qm_z q' (x := 66) (by decide)).trans f2)
      · refine (qm_z q2 (x := 62) (by decide)).trans ?_
        rw [ax_up_s, ax_up_s]; exact hv
      · rw [ax_up_s, ax_up_s]; exact hw
    · have H := en_M (ok := false) (q := p + 2) b0 hL h (by unfold iP_; rw [if_neg (by decide), if_neg (by decide), if_neg (by decide), if_neg (by decide), if_neg (by decide), if_pos d, if_neg d2])
      exact H.1 (Or.inl rfl) _ (qm_up Q1 63 (by decide) _) (tm_c T1 63 (by decide) _)
  · have H := en_M (ok := false) (q := p + 1) b0 hL h (by unfold iP_; rw [if_neg (by decide), if_neg (by decide), if_neg (by decide), if_neg (by decide), if_neg (by decide), if_neg d])
    exact H.1 (Or.inl rfl) _ (qm_up Q 62 (by decide) _) (tm_c T 62 (by decide) _)
set_option maxRecDepth 10000 in
theorem s5_ev2 {g : ax_G} {K : ax_Po} {E : ax_En} {D D1 : ax_Dn} {t : Nat → Int32} {n p s : Nat} {b : Int32} (hb : iv_ b) (hs : s < 32) (hB : (bP_ t n (p + 1)).1 = true) (T : tqm_ D1 t n (bP_ t n (p + 1)).2) (h24 : D1 58 24 = nI s) (b0 : byt t n p b) (Q : qm_ L6 s D D1) (f1 : D1 61 s = t p) (f2 : D1 66 s = nI p) (f3 : D1 62 s = t (p + 1) - 48) (f4 : D1 63 s = t (p + 2) - 48) (f5 : D1 64 s = (nu_ t n 3 (p + 4) 0).2) (h : HM K E D t n p s) : ax_WP g (ax_hy 135) K 92 92 333 [some (.ref 58), some (.int b), some (.int (nI s))] [] (ax_S D1 E) := by
  have c1 : (nI s).toNatClampNeg = s := nI_clamp (by omega)
  have c2 : vp_in (nI s) 32 := vp_in_nI hs (by omega)
  have hL := iv_lt hb
  generalize hq : (bP_ t n (p + 1)).2 = q at *
  refine ax_WPo (l := [(132, cy_132n), (133, cy_133b), (134, cy_134)]) (ax_oc sy_132n (ax_oc sy_133b (ax_oc sy_134 ax_on))) ax_ok135 (fun _ => false) 400 333 rfl ?_
  simp +decide only [↓ax_B, ax_B, ax_kds, ax_gvs, ax_mcs, ax_ia_S, ax_up_ap, ax_vinL, and_self_left, ax_up_up, ax_up_sw, Nat.reduceAdd, Nat.reduceBEq, Nat.reduceLeDiff, Nat.reduceLT, Nat.reduceEqDiff, ↓reduceIte, true_and, and_true, List.cons_append, List.nil_append, Int32.reduceLT, Int32.reduceLE, Int32.reduceAdd, Int32.reduceToNatClampNeg, Int32.reduceOfNat, true_imp_iff, false_imp_iff, not_true_eq_false, not_false_eq_true, or_true, true_or, or_false, false_or, and_self, Bool.or_true, Bool.or_false, Bool.true_or, Bool.false_or, implies_true, forall_const, Bool.false_eq_true, Int32.neg_neg, ax_X135, ry_132n, ry_133b, ry_134, c1,c2]
  refine ⟨fun z98 => ⟨fun z110 => ?_, fun z110 => ?_⟩, fun z98 => ?_⟩
  · obtain rfl : b = 115 := hb.elim (fun z => absurd z z98) (fun z => z.elim id (fun z => absurd z z110))
    have H := en_M (ok := true) (q := q) b0 hL h (by unfold iP_; rw [if_neg (by decide), if_neg (by decide), if_neg (by decide), if_pos rfl, ← hB, ← hq])
    exact ta_M H rfl _ Q T (sg115 b0.2 f1 f2 f3 f4 f5)
  · subst z110
    refine ⟨t, n, q, T, fun b58 => ?_, fun b58 => ?_⟩
    · have Q1 : qm_ L6 s D (ax_up D1 58 (ax_up (D1 58) 21 (nI (q + 1)))) := qm_58 Q _
      have T1 : tqm_ (ax_up D1 58 (ax_up (D1 58) 21 (nI (q + 1)))) t n (q + 1) := tm_58 T (q + 1) b58.1
      refine ⟨t, n, q + 1, 1, T1, rfl, by decide, by decide, fun d D' q' t' v hv hn => ⟨fun _ => ?_, fun z => absurd (ge0_ hn) z⟩, fun d => ?_⟩
      · rw [(n2_ t d).1] at t'
        rw [(n2_ t d).2] at hv
        have H := en_M (ok := true) (q := q + 2) b0 hL h (by unfold iP_; rw [if_neg (by decide), if_neg (by decide), if_neg (by decide), if_neg (by decide), if_pos rfl, if_pos hB, hq, if_pos b58, if_pos d])
        refine ta_Mc H rfl 65 (by decide) D' v (qm_up (qm_e Q1 q') 65 (by decide) v) (tm_c t' 65 (by decide) _) (sg110 b0.2 ?_ ?_ ?_ ?_ ?_ ?_)
        · exact (qm_z q' (x := 61) (by decide)).trans f1
        · exact (qm_z q' (x := 66) (by decide)).trans f2
        · exact (qm_z q' (x := 62) (by decide)).trans f3
        · exact (qm_z q' (x := 63) (by decide)).trans f4
        · exact (qm_z q' (x := 64) (by decide)).trans f5
        · rw [ax_up_s, ax_up_s, hq]; exact hv
      · have H := en_M (ok := false) (q := q + 1) b0 hL h (by unfold iP_; rw [if_neg (by decide), if_neg (by decide), if_neg (by decide), if_neg (by decide), if_pos rfl, if_pos hB, hq, if_pos b58, if_neg d])
        exact H.1 (Or.inl rfl) _ (qm_up Q1 65 (by decide) _) (tm_c T1 65 (by decide) _)
    · have H := en_M (ok := false) (q := q) b0 hL h (by unfold iP_; rw [if_neg (by decide), if_neg (by decide), if_neg (by decide), if_neg (by decide), if_pos rfl, if_pos hB, hq, if_neg b58])
      exact H.1 (Or.inl rfl) _ Q T
  · subst z98
    refine ⟨t, n, q, s, T, h24, hs, fun D' q' t' g' => ?_⟩
    have H := en_M (ok := (lP_ t n q).1) (q := (lP_ t n q).2) b0 hL h (by unfold iP_; rw [if_neg (by decide), if_neg (by decide), if_pos rfl, if_pos hB, hq])
    have Q1 : qm_ L6 s D D' := qm_tr Q q' (List.Subset.refl _) (by decide)
    refine ⟨fun z => ⟨fun _ => ta_M H (bz1 z) _ Q1 t' (sg98 b0.2 ?_ ?_ ?_ ?_ ?_ ?_), fun z => absurd z (by decide)⟩, fun z => H.1 (Or.inl (bz0 z)) _ Q1 t'⟩
    · exact (qm_y q' (x := 61) (by decide) (by decide)).trans f1
    · exact (qm_y q' (x := 66) (by decide) (by decide)).trans f2
    · exact (qm_y q' (x := 62) (by decide) (by decide)).trans f3
    · exact (qm_y q' (x := 63) (by decide) (by decide)).trans f4
    · exact (qm_y q' (x := 64) (by decide) (by decide)).trans f5
    · rw [hq]; exact g' (bz1 z)
set_option maxRecDepth 10000 in
theorem s5_ev {g : ax_G} {K : ax_Po} {E : ax_En} {D D1 : ax_Dn} {t : Nat → Int32} {n p s : Nat} {b : Int32} (hb : iv_ b) (hs : s < 32) (T : tqm_ D1 t n (p + 1)) (h24 : D1 58 24 = nI s) (b0 : byt t n p b) (Q : qm_ L6 s D D1) (f1 : D1 61 s = t p) (f2 : D1 66 s = nI p) (h : HM K E D t n p s) : ax_WP g (ax_hy 135) K 92 92 258 [some (.ref 58), some (.int b), some (.int (nI s))] [] (ax_S D1 E) := by
  have c1 : (nI s).toNatClampNeg = s := nI_clamp (by omega)
  have c2 : vp_in (nI s) 32 := vp_in_nI hs (by omega)
  have hL := iv_lt hb
  have F : ∀ q, bP_ t n (p + 1) = (false, q) → ∀ D', qm_ L6 s D D' → tqm_ D' t n q → K (some (.int 0)) (ax_S D' E) := fun q e D' Q' T' => (en_M b0 hL h (iP_f hb e)).1 (Or.inl rfl) D' Q' T'
  refine ax_WPo (l := [(132, cy_132n), (133, cy_133b)]) (ax_oc sy_132n (ax_oc sy_133b ax_on)) ax_ok135 (fun t => t == 333) 400 258 rfl ?_
  simp +decide only [↓ax_B, ax_B, ax_kds, ax_gvs, ax_mcs, ax_ia_S, ax_up_ap, ax_vinL, and_self_left, ax_up_up, ax_up_sw, Nat.reduceAdd, Nat.reduceBEq, Nat.reduceLeDiff, Nat.reduceLT, Nat.reduceEqDiff, ↓reduceIte, true_and, and_true, List.cons_append, List.nil_append, Int32.reduceLT, Int32.reduceLE, Int32.reduceAdd, Int32.reduceToNatClampNeg, Int32.reduceOfNat, true_imp_iff, false_imp_iff, not_true_eq_false, not_false_eq_true, or_true, true_or, or_false, false_or, and_self, Bool.or_true, Bool.or_false, Bool.true_or, Bool.false_or, implies_true, forall_const, Bool.false_eq_true, Int32.neg_neg, ax_X135, ry_132n, ry_133b, c1,c2]
  refine ⟨t, n, p + 1, 1, T, rfl, by decide, by decide, fun d D' q' t' v hv hn => ⟨fun _ => ?_, fun z => absurd (ge0_ hn) z⟩, fun d => ?_⟩
  · rw [(n2_ t d).1] at t'
    rw [(n2_ t d).2] at hv
    have Q1 : qm_ L6 s D (ax_up D' 62 (ax_up (D' 62) s v)) := qm_up (qm_e Q q') 62 (by decide) v
    have T1 : tqm_ (ax_up D' 62 (ax_up (D' 62) s v)) t n (p + 2) := tm_c t' 62 (by decide) _
    refine ⟨t, n, p + 2, 1, T1, rfl, by decide, by decide, fun d2 D2 q2 t2 w hw hn2 => ⟨fun z => absurd z hn2, fun _ => ?_⟩, fun d2 => ?_⟩
    · rw [(n2_ t d2).1] at t2
      rw [(n2_ t d2).2] at hw
      have Q2 : qm_ L6 s D (ax_up D2 63 (ax_up (D2 63) s w)) := qm_up (qm_e Q1 q2) 63 (by decide) w
      have T2 : tqm_ (ax_up D2 63 (ax_up (D2 63) s w)) t n (p + 3) := tm_c t2 63 (by decide) _
      refine ⟨t, n, p + 3, T2, fun b64 => ?_, fun b64 => ?_⟩
      · have Q3 : qm_ L6 s D (ax_up (ax_up D2 58 (ax_up (D2 58) 21 (nI (p + 4)))) 63 (ax_up (D2 63) s w)) := qm_up (qm_58 (qm_e Q1 q2) _) 63 (by decide) w
        have T3 : tqm_ (ax_up (ax_up D2 58 (ax_up (D2 58) 21 (nI (p + 4)))) 63 (ax_up (D2 63) s w)) t n (p + 4) := tm_c (tm_58 t2 (p + 4) b64.1) 63 (by decide) _
        refine ⟨t, n, p + 4, 3, T3, rfl, by decide, by decide, fun d3 D3 q3 t3 u hu hn3 => ⟨fun _ => ?_, fun z => absurd (ge0_ hn3) z⟩, fun d3 => ?_⟩
        · have hB : bP_ t n (p + 1) = (true, (nu_ t n 3 (p + 4) 0).1) := by
            unfold bP_
            rw [if_pos d, if_pos d2, if_pos b64, if_neg ((nu_p (by decide)).mp d3)]
          have e24 : D3 58 24 = nI s := by
            refine (qm_k q3 (by decide) List.not_mem_nil).trans ?_
            rw [ax_up_n _ _ (by decide), ax_up_s, ax_up_n _ _ (by decide)]
            refine (qm_k q2 (by decide) List.not_mem_nil).trans ?_
            rw [ax_up_n _ _ (by decide)]
            exact (qm_k q' (by decide) List.not_mem_nil).trans h24
          refine s5_ev2 (p := p) hb hs (by rw [hB]) (by rw [hB]; exact tm_c t3 64 (by decide) _) e24 b0 (qm_up (qm_e Q3 q3) 64 (by decide) u) ?_ ?_ ?_ ?_ ?_ h
          · exact (qm_z q3 (x := 61) (by decide)).trans ((qm_z q2 (x := 61) (by decide)).trans ((qm_z q' (x := 61) (by decide)).trans f1))
          · exact (qm_z q3 (x := 66) (by decide)).trans ((qm_z q2 (x := 66) (by decide)).trans ((qm_z q' (x := 66) (by decide)).trans f2))
          · refine (qm_z q3 (x := 62) (by decide)).trans ((qm_z q2 (x := 62) (by decide)).trans ?_)
            rw [ax_up_s, ax_up_s]; exact hv
          · refine (qm_z q3 (x := 63) (by decide)).trans ?_
            rw [ax_up_s, ax_up_s]; exact hw
          · rw [ax_up_s, ax_up_s]; exact hu
        · exact F (p + 4) (by unfold bP_; rw [if_pos d, if_pos d2, if_pos b64, if_pos (Classical.not_not.mp (fun z => d3 ((nu_p (by decide)).mpr z)))]) _ (qm_up Q3 64 (by decide) _) (tm_c T3 64 (by decide) _)
      · exact F (p + 3) (by unfold bP_; rw [if_pos d, if_pos d2, if_neg b64]) _ Q2 T2
    · exact F (p + 2) (by unfold bP_; rw [if_pos d, if_neg d2]) _ (qm_up Q1 63 (by decide) _) (tm_c T1 63 (by decide) _)
  · exact F (p + 1) (by unfold bP_; rw [if_neg d]) _ (qm_up Q 62 (by decide) _) (tm_c T 62 (by decide) _)
set_option maxRecDepth 10000 in
theorem sy_135 {g : ax_G} : ∀ as z K, cy_135 as z K → ax_MM g 135 as z K := by
  rintro _ _ K ⟨D, E, rfl, rfl, h⟩
  refine ax_go135 _ ?_
  obtain ⟨t, n, p, s, ht, h24, hs, h⟩ := h
  have h2 := ht.2.2.1
  have h6 := ht.1
  have c1 : (nI s).toNatClampNeg = s := nI_clamp (by omega)
  have c2 : vp_in (nI s) 32 := vp_in_nI hs (by omega)
  have i2 : nI p + 1 = nI (p + 1) := nI_1 p
  refine ax_WPo (l := [(131, cy_131h)]) (ax_oc sy_131h ax_on) ax_ok135 (fun t => t == 124 || t == 159 || t == 201 || t == 258) 400 0 rfl ?_
  simp +decide only [↓ax_B, ax_B, ax_kds, ax_gvs, ax_mcs, ax_ia_S, ax_up_ap, ax_vinL, and_self_left, ax_up_up, ax_up_sw, Nat.reduceAdd, Nat.reduceBEq, Nat.reduceLeDiff, Nat.reduceLT, Nat.reduceEqDiff, ↓reduceIte, true_and, and_true, List.cons_append, List.nil_append, Int32.reduceLT, Int32.reduceLE, Int32.reduceAdd, Int32.reduceToNatClampNeg, Int32.reduceOfNat, true_imp_iff, false_imp_iff, not_true_eq_false, not_false_eq_true, or_true, true_or, or_false, false_or, and_self, Bool.or_true, Bool.or_false, Bool.true_or, Bool.false_or, implies_true, forall_const, Bool.false_eq_true, Int32.neg_neg, ax_X135, ry_131h, h2,h6,h24,c1,c2,i2]
  refine ⟨n, p, ht.2, ?_⟩
  have Q1 : qm_ L6 s D (ax_up (ax_up (ax_up D 58 (ax_up (D 58) 21 (nI (p + 1)))) 61 (ax_up (D 61) s (hm_ t n p))) 66 (ax_up (D 66) s (nI p))) := qm_up (qm_up (qm_58 qm_rf _) 61 (by decide) _) 66 (by decide) _
  have e24 : (ax_up (ax_up (ax_up D 58 (ax_up (D 58) 21 (nI (p + 1)))) 61 (ax_up (D 61) s (hm_ t n p))) 66 (ax_up (D 66) s (nI p))) 58 24 = nI s := h24
  have T1 : p < n → tqm_ (ax_up (ax_up (ax_up D 58 (ax_up (D 58) 21 (nI (p + 1)))) 61 (ax_up (D 61) s (hm_ t n p))) 66 (ax_up (D 66) s (nI p))) t n (p + 1) := fun q => tm_c (tm_c (tm_58 ht (p + 1) q) 61 (by decide) _) 66 (by decide) _
  have F1 : p < n → (ax_up (ax_up (ax_up D 58 (ax_up (D 58) 21 (nI (p + 1)))) 61 (ax_up (D 61) s (hm_ t n p))) 66 (ax_up (D 66) s (nI p))) 61 s = t p := fun q => by rw [ax_up_n _ _ (by decide), ax_up_s, ax_up_s, hm_e q]
  have F2 : (ax_up (ax_up (ax_up D 58 (ax_up (D 58) 21 (nI (p + 1)))) 61 (ax_up (D 61) s (hm_ t n p))) 66 (ax_up (D 66) s (nI p))) 66 s = nI p := by rw [ax_up_s, ax_up_s]
  have no : ¬ lt_ (hm_ t n p) → K (some (.int 0)) (ax_S (ax_up (ax_up (ax_up D 58 (ax_up (D 58) 21 (nI (p + 1) - 1))) 61 (ax_up (D 61) s (hm_ t n p))) 66 (ax_up (D 66) s (nI p))) E) := by
    intro z
    have i3 : nI (p + 1) - 1 = nI p := by rw [← nI_1]; simp
    have e : sP_ t n p = (false, p) := by
      unfold sP_
      rw [if_neg ?_]
      intro q
      have hp : p < n := by
        by_cases q2 : p < n
        · exact q2
        · have e : hr_ t n p = -9 := by unfold hr_; rw [if_neg q2]
          rw [e] at q
          exact absurd q (by decide)
      rw [hr_e hp] at q
      rw [hm_e hp] at z
      exact z q
    unfold HM at h
    rw [e] at h
    rw [i3]
    exact h _ (qm_up (qm_up (qm_58 qm_rf _) 61 (by decide) _) 66 (by decide) _) (tm_c (tm_c (tm_58 ht p ht.2.2.2.2) 61 (by decide) _) 66 (by decide) _) (fun z => absurd z Bool.false_ne_true)
  have y98 : hm_ t n p = 98 → byt t n p 98 := (hm_b (by decide)).mpr
  have y99 : hm_ t n p = 99 → byt t n p 99 := (hm_b (by decide)).mpr
  have y107 : hm_ t n p = 107 → byt t n p 107 := (hm_b (by decide)).mpr
  have y109 : hm_ t n p = 109 → byt t n p 109 := (hm_b (by decide)).mpr
  have y110 : hm_ t n p = 110 → byt t n p 110 := (hm_b (by decide)).mpr
  have y115 : hm_ t n p = 115 → byt t n p 115 := (hm_b (by decide)).mpr
  generalize hm_ t n p = b at *
  by_cases l0 : b = 109
  · subst l0
    simp (decide := true) only [not_false_eq_true, not_true_eq_false, true_and, and_true, true_implies, false_implies, and_self, forall_const]
    have b0 := y109 rfl
    exact s5_109 hs (T1 b0.1) b0 Q1 (F1 b0.1) F2 h
  by_cases l1 : b = 107
  · subst l1
    simp (decide := true) only [not_false_eq_true, not_true_eq_false, true_and, and_true, true_implies, false_implies, and_self, forall_const]
    have b0 := y107 rfl
    exact s5_107 hs (T1 b0.1) e24 b0 Q1 (F1 b0.1) F2 h
  by_cases l2 : b = 99
  · subst l2
    simp (decide := true) only [not_false_eq_true, not_true_eq_false, true_and, and_true, true_implies, false_implies, and_self, forall_const]
    have b0 := y99 rfl
    exact s5_99 hs (T1 b0.1) b0 Q1 (F1 b0.1) F2 h
  by_cases l3 : b = 98
  · subst l3
    simp (decide := true) only [not_false_eq_true, not_true_eq_false, true_and, and_true, true_implies, false_implies, and_self, forall_const]
    have b0 := y98 rfl
    exact s5_ev (Or.inl rfl) hs (T1 b0.1) e24 b0 Q1 (F1 b0.1) F2 h
  by_cases l4 : b = 115
  · subst l4
    simp (decide := true) only [not_false_eq_true, not_true_eq_false, true_and, and_true, true_implies, false_implies, and_self, forall_const]
    have b0 := y115 rfl
    exact s5_ev (Or.inr (Or.inl rfl)) hs (T1 b0.1) e24 b0 Q1 (F1 b0.1) F2 h
  by_cases l5 : b = 110
  · subst l5
    simp (decide := true) only [not_false_eq_true, not_true_eq_false, true_and, and_true, true_implies, false_implies, and_self, forall_const]
    have b0 := y110 rfl
    exact s5_ev (Or.inr (Or.inr rfl)) hs (T1 b0.1) e24 b0 Q1 (F1 b0.1) F2 h
  have N := no (fun z => z.elim l0 (fun z => z.elim l1 (fun z => z.elim l3 (fun z => z.elim l4 (fun z => z.elim l5 l2)))))
  simp (decide := true) only [l0, l1, l2, l3, l4, l5, not_false_eq_true, not_true_eq_false, true_and, and_true, true_implies, false_implies, and_self, forall_const]
  repeat' (first | exact N | with_reducible apply And.intro | with_reducible intro _)
