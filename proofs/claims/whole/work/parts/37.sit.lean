/-! The class: against, many, does it count, two sittings. -/
def ls_ (f : Nat → Int32) : List Nat → Option Nat → Option Nat
  | [], b => b
  | q :: Q, b => ls_ f Q (match b with
    | none => some q
    | some p => if f q < f p then some q else some p)
theorem drop_at {P : List Nat} {k q : Nat} {Q : List Nat} (hk : P.drop k = q :: Q) : k < P.length ∧ P.getD k 0 = q ∧ q ∈ P ∧ P.drop (k + 1) = Q := by
  have hlt : k < P.length := by
    rcases Nat.lt_or_ge k P.length with q' | q'
    · exact q'
    · rw [List.drop_eq_nil_of_le q'] at hk; cases hk
  have hq : P[k]? = some q := by
    have := congrArg List.head? hk
    simpa [List.head?_drop] using this
  exact ⟨hlt, by rw [List.getD_eq_getElem?_getD, hq]; rfl, List.mem_of_getElem? hq, by rw [← List.drop_drop, hk]; rfl⟩
theorem n9_ {q : Nat} (hq : q < 30) : ¬ nI q = -9 := by
  intro z
  have := congrArg Int32.toInt z
  rw [na_nI (by omega)] at this
  have e : (-9 : Int32).toInt = -9 := rfl
  rw [e] at this
  omega
theorem lp_32 {g : ax_G} {K : ax_Po} {D : ax_Dn} {E : ax_En} (hok : okC D) (m d : Int32) (hm : vp_in m 6) (P : List Nat) (hp : pkd D P) (f : Nat → Int32) (hf : ∀ i, pr_ (D 21 1) (FC D i m d) 5 0 1 = f i) :
    ∀ (Q : List Nat) (k : Nat) (b : Option Nat) (x y : Int32) u, k ≤ P.length → P.drop k = Q → (match b with | none => x = -9 | some p => p < 30 ∧ x = nI p ∧ y = f p) → K (some (.int (wa_ (ls_ f Q b)))) (ax_S D E) → ax_WP g (ax_hy 32) K 92 92 25 [some (.ref 1), some (.int m), some (.int d), some (.int x), some (.int y), some (.int (nI k)), u] [] (ax_S D E) := by
  obtain ⟨hl, h12, h18, h30⟩ := hp
  intro Q
  induction Q with
  | nil =>
    intro k b x y u hkl hk hb h
    have hk2 : P.length ≤ k := List.drop_eq_nil_iff.mp hk
    have hc : nI P.length ≤ nI k := nI_le (by omega) (by omega)
    have hx : x = wa_ b := by
      unfold wa_
      cases b with
      | none => exact hb
      | some q => exact hb.2.1
    refine ax_WPo (l := [(29, cy_29), (51, cy_51s)]) (ax_oc sy_29 (ax_oc sy_51s ax_on)) ax_ok32 (fun t => t == 25) 400 25 rfl ?_
    simp +decide only [↓ax_B, ax_B, ax_kds, ax_gvs, ax_mcs, ax_ia_S, ax_up_ap, ax_vinL, and_self_left, ax_up_up, ax_up_sw, Nat.reduceAdd, Nat.reduceBEq, Nat.reduceLeDiff, Nat.reduceLT, Nat.reduceEqDiff, ↓reduceIte, true_and, and_true, List.cons_append, List.nil_append, Int32.reduceLT, Int32.reduceLE, Int32.reduceAdd, Int32.reduceToNatClampNeg, Int32.reduceOfNat, true_imp_iff, false_imp_iff, not_true_eq_false, not_false_eq_true, or_true, true_or, or_false, false_or, and_self, Bool.or_true, Bool.or_false, Bool.true_or, Bool.false_or, implies_true, forall_const, Bool.false_eq_true, Int32.neg_neg, ax_X32, ry_29, ry_51s, h12, hc]
    rw [hx]
    exact h
  | cons q Q ih =>
    intro k b x y u hkl hk hb h
    obtain ⟨hlt, h4, hmem, hnx⟩ := drop_at hk
    have hc : ¬ nI P.length ≤ nI k := nI_ge hlt (by omega)
    have h1 : vp_in (nI k) 5 := vp_in_nI (by omega) (by omega)
    have h2 : (nI k).toNatClampNeg = k := nI_clamp (by omega)
    have h3 : nI k + 1 = nI (k + 1) := nI_1 k
    have h4' : D 18 k = nI q := by rw [h18 k hlt, h4]
    have h5 : vp_in (nI q) 30 := vp_in_nI (h30 q hmem) (by omega)
    have h6 : (nI q).toNatClampNeg = q := nI_clamp (by have := h30 q hmem; omega)
    unfold ls_ at h
    refine ax_WPo (l := [(29, cy_29), (51, cy_51s)]) (ax_oc sy_29 (ax_oc sy_51s ax_on)) ax_ok32 (fun t => t == 25) 400 25 rfl ?_
    simp +decide only [↓ax_B, ax_B, ax_kds, ax_gvs, ax_mcs, ax_ia_S, ax_up_ap, ax_vinL, and_self_left, ax_up_up, ax_up_sw, Nat.reduceAdd, Nat.reduceBEq, Nat.reduceLeDiff, Nat.reduceLT, Nat.reduceEqDiff, ↓reduceIte, true_and, and_true, List.cons_append, List.nil_append, Int32.reduceLT, Int32.reduceLE, Int32.reduceAdd, Int32.reduceToNatClampNeg, Int32.reduceOfNat, true_imp_iff, false_imp_iff, not_true_eq_false, not_false_eq_true, or_true, true_or, or_false, false_or, and_self, Bool.or_true, Bool.or_false, Bool.true_or, Bool.false_or, implies_true, forall_const, Bool.false_eq_true, Int32.neg_neg, ax_X32, ry_29, ry_51s, h12, hc, h1, h2, h3, h4', h5, h6, hm, hok, hf]
    refine ⟨fun c => ?_, fun c => ⟨fun c2 => ?_, fun c2 => ?_⟩⟩
    · cases b with
      | none => exact ih (k + 1) (some q) _ _ _ hlt hnx ⟨h30 q hmem, rfl, rfl⟩ h
      | some p =>
        rw [hb.2.1] at c
        exact absurd c (n9_ hb.1)
    · cases b with
      | none => exact absurd hb c
      | some p =>
        obtain ⟨b1, b2, b3⟩ := hb
        rw [b3] at c2
        have h : K (some (.int (wa_ (ls_ f Q (if f q < f p then some q else some p))))) (ax_S D E) := h
        rw [if_neg (Int32.not_lt.mpr c2)] at h
        exact ih (k + 1) (some p) _ _ _ hlt hnx ⟨b1, b2, b3⟩ h
    · cases b with
      | none => exact absurd hb c
      | some p =>
        obtain ⟨b1, b2, b3⟩ := hb
        rw [b3] at c2
        have h : K (some (.int (wa_ (ls_ f Q (if f q < f p then some q else some p))))) (ax_S D E) := h
        rw [if_pos (Int32.not_le.mp c2)] at h
        exact ih (k + 1) (some q) _ _ _ hlt hnx ⟨h30 q hmem, rfl, rfl⟩ h
/-- AskewLetters$Desk.leastStroke(II)I -/
def cy_32 : ax_P1 := fun as z K => ∃ (p1 : Int32) (p2 : Int32) (D : ax_Dn) (E : ax_En), as = [.ref 1, .int p1, .int p2] ∧ z = ax_S D E ∧ (okC D ∧ vp_in p1 6 ∧ ∀ D', sm1 D D' → K (some (.int (wa_ (ls_ (fun i => pr_ (D 21 1) (FC D i p1 p2) 5 0 1) (pk_ (D 13) 0 (D 12 0).toNatClampNeg) none)))) (ax_S D' E))
theorem ry_32 (p1 : Int32) (p2 : Int32) (D : ax_Dn) (E : ax_En) (K : ax_Po) : cy_32 [.ref 1, .int p1, .int p2] (ax_S D E) K = (okC D ∧ vp_in p1 6 ∧ ∀ D', sm1 D D' → K (some (.int (wa_ (ls_ (fun i => pr_ (D 21 1) (FC D i p1 p2) 5 0 1) (pk_ (D 13) 0 (D 12 0).toNatClampNeg) none)))) (ax_S D' E)) := propext ⟨fun ⟨p1', p2', D', E', h1, h2, h3⟩ => by cases h1; obtain ⟨rfl, rfl⟩ := ax_S_inj h2; exact h3, fun h => ⟨p1, p2, D, E, rfl, rfl, h⟩⟩
theorem sy_32 {g : ax_G} : ∀ as z K, cy_32 as z K → ax_MM g 32 as z K := by
  rintro _ _ K ⟨p1, p2, D, E, rfl, rfl, h⟩
  refine ax_go32 _ _ _ ?_
  obtain ⟨hok, h2, h⟩ := h
  obtain ⟨n, hn, h30, hc⟩ := ax_cnt_of hok.2.2.1 (by decide)
  rw [hc] at h
  refine ax_WPo (l := [(29, cy_29), (51, cy_51s)]) (ax_oc sy_29 (ax_oc sy_51s ax_on)) ax_ok32 (fun t => t == 25) 400 0 rfl ?_
  simp +decide only [↓ax_B, ax_B, ax_kds, ax_gvs, ax_mcs, ax_ia_S, ax_up_ap, ax_vinL, and_self_left, ax_up_up, ax_up_sw, Nat.reduceAdd, Nat.reduceBEq, Nat.reduceLeDiff, Nat.reduceLT, Nat.reduceEqDiff, ↓reduceIte, true_and, and_true, List.cons_append, List.nil_append, Int32.reduceLT, Int32.reduceLE, Int32.reduceAdd, Int32.reduceToNatClampNeg, Int32.reduceOfNat, true_imp_iff, false_imp_iff, not_true_eq_false, not_false_eq_true, or_true, true_or, or_false, false_or, and_self, Bool.or_true, Bool.or_false, Bool.true_or, Bool.false_or, implies_true, forall_const, Bool.false_eq_true, Int32.neg_neg, ax_X32, ry_29, ry_51s, hn, hc, nI_clamp (show n < 2 ^ 31 by omega)]
  refine ⟨hok.2.2.2.1, nI_pos' (by omega), le30_ h30, fun D' hs hp => ?_⟩
  refine lp_32 (sm_okC (sm1_sm hs) hok) p1 p2 h2 _ hp (fun i => pr_ (D 21 1) (FC D i p1 p2) 5 0 1) (fun i => ?_) _ 0 none (-9) 0 none (Nat.zero_le _) rfl rfl (h D' hs)
  rw [sm_FC (sm1_sm hs), sm_at (sm1_sm hs) 21]
/-- does a stroke fit a machine -/
def FT (D : ax_Dn) (m d : Int32) (i : Nat) : Bool := decide (ab_ (D 14 i - lC_ (D 5) (D 7) (D 8) (D 9) (D 10) (D 11) (D 2 5).toNatClampNeg m (D 13 i) d) ≤ D 21 0) && decide (D 15 i &&& (nC_ (D 7) (D 8) (D 9) (D 10) (D 11) (D 2 5).toNatClampNeg m (D 13 i) d ^^^ -1) = 0)
theorem sm_FT {D D' : ax_Dn} (h : sm D D') : FT D' = FT D := by
  funext m d i
  unfold FT
  simp only [sm_at h 2, sm_at h 5, sm_at h 7, sm_at h 8, sm_at h 9, sm_at h 10, sm_at h 11, sm_at h 13, sm_at h 14, sm_at h 15, sm_at h 21]
set_option maxRecDepth 10000 in
theorem lp_34 {g : ax_G} {K : ax_Po} {D : ax_Dn} {E : ax_En} (hok : okC D) (m d : Int32) (hm : vp_in m 6) (P : List Nat) (hp : pkd D P) :
    ∀ (Q : List Nat) (k : Nat), k ≤ P.length → P.drop k = Q → (Q.all (FT D m d) = true → K (some (.int 1)) (ax_S D E)) → (Q.all (FT D m d) = false → K (some (.int 0)) (ax_S D E)) → ax_WP g (ax_hy 34) K 92 92 2 [some (.ref 1), some (.int m), some (.int d), some (.int (nI k)), none, none] [] (ax_S D E) := by
  obtain ⟨hl, h12, h18, h30⟩ := hp
  intro Q
  induction Q with
  | nil =>
    intro k hkl hk ht hf
    have hk2 : P.length ≤ k := List.drop_eq_nil_iff.mp hk
    have hc : nI P.length ≤ nI k := nI_le (by omega) (by omega)
    refine ax_WPo (l := [(28, cy_28), (64, cy_64), (65, cy_65)]) (ax_oc sy_28 (ax_oc sy_64 (ax_oc sy_65 ax_on))) ax_ok34 (fun t => t == 2) 400 2 rfl ?_
    simp +decide only [↓ax_B, ax_B, ax_kds, ax_gvs, ax_mcs, ax_ia_S, ax_up_ap, ax_vinL, and_self_left, ax_up_up, ax_up_sw, Nat.reduceAdd, Nat.reduceBEq, Nat.reduceLeDiff, Nat.reduceLT, Nat.reduceEqDiff, ↓reduceIte, true_and, and_true, List.cons_append, List.nil_append, Int32.reduceLT, Int32.reduceLE, Int32.reduceAdd, Int32.reduceToNatClampNeg, Int32.reduceOfNat, true_imp_iff, false_imp_iff, not_true_eq_false, not_false_eq_true, or_true, true_or, or_false, false_or, and_self, Bool.or_true, Bool.or_false, Bool.true_or, Bool.false_or, implies_true, forall_const, Bool.false_eq_true, Int32.neg_neg, ax_X34, ry_28, ry_64, ry_65, h12, hc]
    exact ht rfl
  | cons q Q ih =>
    intro k hkl hk ht hf
    obtain ⟨hlt, h4, hmem, hnx⟩ := drop_at hk
    have hc : ¬ nI P.length ≤ nI k := nI_ge hlt (by omega)
    have h1 : vp_in (nI k) 5 := vp_in_nI (by omega) (by omega)
    have h2 : (nI k).toNatClampNeg = k := nI_clamp (by omega)
    have h3 : nI k + 1 = nI (k + 1) := nI_1 k
    have h4' : D 18 k = nI q := by rw [h18 k hlt, h4]
    have h5 : vp_in (nI q) 30 := vp_in_nI (h30 q hmem) (by omega)
    have h6 : (nI q).toNatClampNeg = q := nI_clamp (by have := h30 q hmem; omega)
    have g3 : vp_in (D 13 q) 10 := cnt_in (hok.2.2.2.1 q) (by decide)
    have g4 := hok.2.1
    rw [List.all_cons] at ht hf
    refine ax_WPo (l := [(28, cy_28), (64, cy_64), (65, cy_65)]) (ax_oc sy_28 (ax_oc sy_64 (ax_oc sy_65 ax_on))) ax_ok34 (fun t => t == 2) 400 2 rfl ?_
    simp +decide only [↓ax_B, ax_B, ax_kds, ax_gvs, ax_mcs, ax_ia_S, ax_up_ap, ax_vinL, and_self_left, ax_up_up, ax_up_sw, Nat.reduceAdd, Nat.reduceBEq, Nat.reduceLeDiff, Nat.reduceLT, Nat.reduceEqDiff, ↓reduceIte, true_and, and_true, List.cons_append, List.nil_append, Int32.reduceLT, Int32.reduceLE, Int32.reduceAdd, Int32.reduceToNatClampNeg, Int32.reduceOfNat, true_imp_iff, false_imp_iff, not_true_eq_false, not_false_eq_true, or_true, true_or, or_false, false_or, and_self, Bool.or_true, Bool.or_false, Bool.true_or, Bool.false_or, implies_true, forall_const, Bool.false_eq_true, Int32.neg_neg, ax_X34, ry_28, ry_64, ry_65, h12, hc, h1, h2, h3, h4', h5, h6, hm, g3, g4]
    have e : (if 0 ≤ D 14 q - lC_ (D 5) (D 7) (D 8) (D 9) (D 10) (D 11) (D 2 5).toNatClampNeg m (D 13 q) d then D 14 q - lC_ (D 5) (D 7) (D 8) (D 9) (D 10) (D 11) (D 2 5).toNatClampNeg m (D 13 q) d else 0 - (D 14 q - lC_ (D 5) (D 7) (D 8) (D 9) (D 10) (D 11) (D 2 5).toNatClampNeg m (D 13 q) d)) = ab_ (D 14 q - lC_ (D 5) (D 7) (D 8) (D 9) (D 10) (D 11) (D 2 5).toNatClampNeg m (D 13 q) d) := rfl
    rw [e]
    refine ⟨fun c => hf ?_, fun c => ⟨fun c2 => hf ?_, fun c2 => ?_⟩⟩
    · unfold FT
      rw [decide_eq_false (Int32.not_le.mpr c)]
      rfl
    · unfold FT
      rw [decide_eq_false c2, Bool.and_false]
      rfl
    · have hFT : FT D m d q = true := by
        unfold FT
        rw [decide_eq_true (Int32.not_lt.mp c), decide_eq_true c2]
        rfl
      rw [hFT, Bool.true_and] at ht hf
      exact ax_WP_w (by simp only [ax_le, and_self]) (ih (k + 1) hlt hnx ht hf)
/-- AskewLetters$Desk.fits(II)Z -/
def cy_34 : ax_P1 := fun as z K => ∃ (p1 : Int32) (p2 : Int32) (D : ax_Dn) (E : ax_En), as = [.ref 1, .int p1, .int p2] ∧ z = ax_S D E ∧ (okC D ∧ vp_in p1 6 ∧ ∃ P, pkd D P ∧ (P.all (FT D p1 p2) = true → K (some (.int 1)) (ax_S D E)) ∧ (P.all (FT D p1 p2) = false → K (some (.int 0)) (ax_S D E)))
theorem ry_34 (p1 : Int32) (p2 : Int32) (D : ax_Dn) (E : ax_En) (K : ax_Po) : cy_34 [.ref 1, .int p1, .int p2] (ax_S D E) K = (okC D ∧ vp_in p1 6 ∧ ∃ P, pkd D P ∧ (P.all (FT D p1 p2) = true → K (some (.int 1)) (ax_S D E)) ∧ (P.all (FT D p1 p2) = false → K (some (.int 0)) (ax_S D E))) := propext ⟨fun ⟨p1', p2', D', E', h1, h2, h3⟩ => by cases h1; obtain ⟨rfl, rfl⟩ := ax_S_inj h2; exact h3, fun h => ⟨p1, p2, D, E, rfl, rfl, h⟩⟩
theorem sy_34 {g : ax_G} : ∀ as z K, cy_34 as z K → ax_MM g 34 as z K := by
  rintro _ _ K ⟨p1, p2, D, E, rfl, rfl, h⟩
  refine ax_go34 _ _ _ ?_
  obtain ⟨hok, h2, P, hp, h3, h4⟩ := h
  refine ax_WPo (l := [(28, cy_28), (64, cy_64), (65, cy_65)]) (ax_oc sy_28 (ax_oc sy_64 (ax_oc sy_65 ax_on))) ax_ok34 (fun t => t == 2) 400 0 rfl ?_
  simp +decide only [↓ax_B, ax_B, ax_kds, ax_gvs, ax_mcs, ax_ia_S, ax_up_ap, ax_vinL, and_self_left, ax_up_up, ax_up_sw, Nat.reduceAdd, Nat.reduceBEq, Nat.reduceLeDiff, Nat.reduceLT, Nat.reduceEqDiff, ↓reduceIte, true_and, and_true, List.cons_append, List.nil_append, Int32.reduceLT, Int32.reduceLE, Int32.reduceAdd, Int32.reduceToNatClampNeg, Int32.reduceOfNat, true_imp_iff, false_imp_iff, not_true_eq_false, not_false_eq_true, or_true, true_or, or_false, false_or, and_self, Bool.or_true, Bool.or_false, Bool.true_or, Bool.false_or, implies_true, forall_const, Bool.false_eq_true, Int32.neg_neg, ax_X34, ry_28, ry_64, ry_65]
  exact lp_34 hok p1 p2 h2 P hp P 0 (Nat.zero_le _) rfl h3 h4
def fc_ (b : Nat → Bool) : Nat → Nat → Int32 → Int32
  | 0, _, a => a
  | j + 1, k, a => fc_ b j (k + 1) (if b k = true then a + 1 else a)
theorem lp_33 {g : ax_G} {K : ax_Po} {D : ax_Dn} {E : ax_En} (hok : okC D) (d : Int32) (P : List Nat) (hp : pkd D P) (N : Nat) (hN : D 2 0 = nI N) (h6 : N ≤ 6) :
    ∀ (j k : Nat) (a : Int32), k + j = N → K (some (.int (fc_ (fun m => P.all (FT D (nI m) d)) j k a))) (ax_S D E) → ax_WP g (ax_hy 33) K 92 92 20 [some (.ref 1), some (.int d), some (.int a), some (.int (nI k))] [] (ax_S D E) := by
  intro j
  induction j with
  | zero =>
    intro k a hk h
    have hc : nI N ≤ nI k := nI_le (by omega) (by omega)
    refine ax_WPo (l := [(34, cy_34), (51, cy_51s)]) (ax_oc sy_34 (ax_oc sy_51s ax_on)) ax_ok33 (fun t => t == 20) 400 20 rfl ?_
    simp +decide only [↓ax_B, ax_B, ax_kds, ax_gvs, ax_mcs, ax_ia_S, ax_up_ap, ax_vinL, and_self_left, ax_up_up, ax_up_sw, Nat.reduceAdd, Nat.reduceBEq, Nat.reduceLeDiff, Nat.reduceLT, Nat.reduceEqDiff, ↓reduceIte, true_and, and_true, List.cons_append, List.nil_append, Int32.reduceLT, Int32.reduceLE, Int32.reduceAdd, Int32.reduceToNatClampNeg, Int32.reduceOfNat, true_imp_iff, false_imp_iff, not_true_eq_false, not_false_eq_true, or_true, true_or, or_false, false_or, and_self, Bool.or_true, Bool.or_false, Bool.true_or, Bool.false_or, implies_true, forall_const, Bool.false_eq_true, Int32.neg_neg, ax_X33, ry_34, ry_51s, hN, hc]
    exact h
  | succ j ih =>
    intro k a hk h
    have hc : ¬ nI N ≤ nI k := nI_ge (by omega) (by omega)
    have h1 : vp_in (nI k) 6 := vp_in_nI (by omega) (by omega)
    have h3 : nI k + 1 = nI (k + 1) := nI_1 k
    unfold fc_ at h
    refine ax_WPo (l := [(34, cy_34), (51, cy_51s)]) (ax_oc sy_34 (ax_oc sy_51s ax_on)) ax_ok33 (fun t => t == 20) 400 20 rfl ?_
    simp +decide only [↓ax_B, ax_B, ax_kds, ax_gvs, ax_mcs, ax_ia_S, ax_up_ap, ax_vinL, and_self_left, ax_up_up, ax_up_sw, Nat.reduceAdd, Nat.reduceBEq, Nat.reduceLeDiff, Nat.reduceLT, Nat.reduceEqDiff, ↓reduceIte, true_and, and_true, List.cons_append, List.nil_append, Int32.reduceLT, Int32.reduceLE, Int32.reduceAdd, Int32.reduceToNatClampNeg, Int32.reduceOfNat, true_imp_iff, false_imp_iff, not_true_eq_false, not_false_eq_true, or_true, true_or, or_false, false_or, and_self, Bool.or_true, Bool.or_false, Bool.true_or, Bool.false_or, implies_true, forall_const, Bool.false_eq_true, Int32.neg_neg, ax_X33, ry_34, ry_51s, hN, hc, h1, h3, hok]
    refine ⟨P, hp, fun c => ?_, fun c => ?_⟩
    · rw [if_pos c] at h
      exact ih (k + 1) _ (by omega) h
    · rw [if_neg (by rw [c]; decide)] at h
      exact ih (k + 1) _ (by omega) h
/-- AskewLetters$Desk.fitting(I)I -/
def cy_33 : ax_P1 := fun as z K => ∃ (p1 : Int32) (D : ax_Dn) (E : ax_En), as = [.ref 1, .int p1] ∧ z = ax_S D E ∧ (okC D ∧ ∀ D', sm1 D D' → K (some (.int (fc_ (fun m => (pk_ (D 13) 0 (D 12 0).toNatClampNeg).all (FT D (nI m) p1)) (D 2 0).toNatClampNeg 0 0))) (ax_S D' E))
theorem ry_33 (p1 : Int32) (D : ax_Dn) (E : ax_En) (K : ax_Po) : cy_33 [.ref 1, .int p1] (ax_S D E) K = (okC D ∧ ∀ D', sm1 D D' → K (some (.int (fc_ (fun m => (pk_ (D 13) 0 (D 12 0).toNatClampNeg).all (FT D (nI m) p1)) (D 2 0).toNatClampNeg 0 0))) (ax_S D' E)) := propext ⟨fun ⟨p1', D', E', h1, h2, h3⟩ => by cases h1; obtain ⟨rfl, rfl⟩ := ax_S_inj h2; exact h3, fun h => ⟨p1, D, E, rfl, rfl, h⟩⟩
theorem sy_33 {g : ax_G} : ∀ as z K, cy_33 as z K → ax_MM g 33 as z K := by
  rintro _ _ K ⟨p1, D, E, rfl, rfl, h⟩
  refine ax_go33 _ _ ?_
  obtain ⟨hok, h⟩ := h
  obtain ⟨n, hn, h30, hc⟩ := ax_cnt_of hok.2.2.1 (by decide)
  obtain ⟨N, hN, h6, hcN⟩ := ax_cnt_of hok.1 (by decide)
  rw [hc, hcN] at h
  refine ax_WPo (l := [(34, cy_34), (51, cy_51s)]) (ax_oc sy_34 (ax_oc sy_51s ax_on)) ax_ok33 (fun t => t == 20) 400 0 rfl ?_
  simp +decide only [↓ax_B, ax_B, ax_kds, ax_gvs, ax_mcs, ax_ia_S, ax_up_ap, ax_vinL, and_self_left, ax_up_up, ax_up_sw, Nat.reduceAdd, Nat.reduceBEq, Nat.reduceLeDiff, Nat.reduceLT, Nat.reduceEqDiff, ↓reduceIte, true_and, and_true, List.cons_append, List.nil_append, Int32.reduceLT, Int32.reduceLE, Int32.reduceAdd, Int32.reduceToNatClampNeg, Int32.reduceOfNat, true_imp_iff, false_imp_iff, not_true_eq_false, not_false_eq_true, or_true, true_or, or_false, false_or, and_self, Bool.or_true, Bool.or_false, Bool.true_or, Bool.false_or, implies_true, forall_const, Bool.false_eq_true, Int32.neg_neg, ax_X33, ry_34, ry_51s, hn, hc, nI_clamp (show n < 2 ^ 31 by omega)]
  refine ⟨hok.2.2.2.1, nI_pos' (by omega), le30_ h30, fun D' hs hp => ?_⟩
  refine lp_33 (sm_okC (sm1_sm hs) hok) p1 _ hp N (by rw [sm_at (sm1_sm hs) 2]; exact hN) h6 N 0 0 (by omega) ?_
  rw [sm_FT (sm1_sm hs)]
  exact h D' hs
theorem lp_52 {g : ax_G} {K : ax_Po} {D : ax_Dn} {E : ax_En} (i : Nat) (hi : i < 30) (P : List Nat) (hp : pkd D P) :
    ∀ (Q : List Nat) (k : Nat), k ≤ P.length → P.drop k = Q → (i ∈ Q → K (some (.int 1)) (ax_S D E)) → (i ∉ Q → K (some (.int 0)) (ax_S D E)) → ax_WP g (ax_hy 52) K 92 92 12 [some (.ref 12), some (.int (nI i)), some (.int (nI k))] [] (ax_S D E) := by
  obtain ⟨hl, h12, h18, h30⟩ := hp
  intro Q
  induction Q with
  | nil =>
    intro k hkl hk ht hf
    have hk2 : P.length ≤ k := List.drop_eq_nil_iff.mp hk
    have hc : nI P.length ≤ nI k := nI_le (by omega) (by omega)
    refine ax_WPo (l := [(51, cy_51s)]) (ax_oc sy_51s ax_on) ax_ok52 (fun t => t == 12) 400 12 rfl ?_
    simp +decide only [↓ax_B, ax_B, ax_kds, ax_gvs, ax_mcs, ax_ia_S, ax_up_ap, ax_vinL, and_self_left, ax_up_up, ax_up_sw, Nat.reduceAdd, Nat.reduceBEq, Nat.reduceLeDiff, Nat.reduceLT, Nat.reduceEqDiff, ↓reduceIte, true_and, and_true, List.cons_append, List.nil_append, Int32.reduceLT, Int32.reduceLE, Int32.reduceAdd, Int32.reduceToNatClampNeg, Int32.reduceOfNat, true_imp_iff, false_imp_iff, not_true_eq_false, not_false_eq_true, or_true, true_or, or_false, false_or, and_self, Bool.or_true, Bool.or_false, Bool.true_or, Bool.false_or, implies_true, forall_const, Bool.false_eq_true, Int32.neg_neg, ax_X52, ry_51s, h12, hc]
    exact hf List.not_mem_nil
  | cons q Q ih =>
    intro k hkl hk ht hf
    obtain ⟨hlt, h4, hmem, hnx⟩ := drop_at hk
    have hc : ¬ nI P.length ≤ nI k := nI_ge hlt (by omega)
    have h1 : vp_in (nI k) 5 := vp_in_nI (by omega) (by omega)
    have h2 : (nI k).toNatClampNeg = k := nI_clamp (by omega)
    have h3 : nI k + 1 = nI (k + 1) := nI_1 k
    have h4' : D 18 k = nI q := by rw [h18 k hlt, h4]
    have h5 := h30 q hmem
    have h6 : (nI q = nI i) ↔ q = i := nI_eq (by omega) (by omega)
    refine ax_WPo (l := [(51, cy_51s)]) (ax_oc sy_51s ax_on) ax_ok52 (fun t => t == 12) 400 12 rfl ?_
    simp +decide only [↓ax_B, ax_B, ax_kds, ax_gvs, ax_mcs, ax_ia_S, ax_up_ap, ax_vinL, and_self_left, ax_up_up, ax_up_sw, Nat.reduceAdd, Nat.reduceBEq, Nat.reduceLeDiff, Nat.reduceLT, Nat.reduceEqDiff, ↓reduceIte, true_and, and_true, List.cons_append, List.nil_append, Int32.reduceLT, Int32.reduceLE, Int32.reduceAdd, Int32.reduceToNatClampNeg, Int32.reduceOfNat, true_imp_iff, false_imp_iff, not_true_eq_false, not_false_eq_true, or_true, true_or, or_false, false_or, and_self, Bool.or_true, Bool.or_false, Bool.true_or, Bool.false_or, implies_true, forall_const, Bool.false_eq_true, Int32.neg_neg, ax_X52, ry_51s, h12, hc, h1, h2, h3, h4', h6]
    refine ⟨fun c => ?_, fun c => ht ?_⟩
    · exact ih (k + 1) hlt hnx (fun z => ht (List.mem_cons_of_mem _ z)) (fun z => hf (fun y => by
        rcases List.mem_cons.mp y with y | y
        · exact c y.symm
        · exact z y))
    · rw [c]; exact List.mem_cons_self
/-- AskewLetters$Page.isCounted(I)Z -/
def cy_52 : ax_P1 := fun as z K => ∃ (p1 : Int32) (D : ax_Dn) (E : ax_En), as = [.ref 12, .int p1] ∧ z = ax_S D E ∧ (sg_ok (D 13) ∧ ax_cnt (D 12 0) 30 ∧ vp_in p1 30 ∧ ∀ D', sm1 D D' → (p1.toNatClampNeg ∈ pk_ (D 13) 0 (D 12 0).toNatClampNeg → K (some (.int 1)) (ax_S D' E)) ∧ (p1.toNatClampNeg ∉ pk_ (D 13) 0 (D 12 0).toNatClampNeg → K (some (.int 0)) (ax_S D' E)))
theorem ry_52 (p1 : Int32) (D : ax_Dn) (E : ax_En) (K : ax_Po) : cy_52 [.ref 12, .int p1] (ax_S D E) K = (sg_ok (D 13) ∧ ax_cnt (D 12 0) 30 ∧ vp_in p1 30 ∧ ∀ D', sm1 D D' → (p1.toNatClampNeg ∈ pk_ (D 13) 0 (D 12 0).toNatClampNeg → K (some (.int 1)) (ax_S D' E)) ∧ (p1.toNatClampNeg ∉ pk_ (D 13) 0 (D 12 0).toNatClampNeg → K (some (.int 0)) (ax_S D' E))) := propext ⟨fun ⟨p1', D', E', h1, h2, h3⟩ => by cases h1; obtain ⟨rfl, rfl⟩ := ax_S_inj h2; exact h3, fun h => ⟨p1, D, E, rfl, rfl, h⟩⟩
theorem sy_52 {g : ax_G} : ∀ as z K, cy_52 as z K → ax_MM g 52 as z K := by
  rintro _ _ K ⟨p1, D, E, rfl, rfl, h⟩
  refine ax_go52 _ _ ?_
  obtain ⟨hsg, h2, h3, h⟩ := h
  obtain ⟨n, hn, h30, hc⟩ := ax_cnt_of h2 (by decide)
  obtain ⟨i, hi, rfl⟩ := vp_in_of h3 (by decide)
  rw [hc, nI_clamp (by omega)] at h
  refine ax_WPo (l := [(51, cy_51s)]) (ax_oc sy_51s ax_on) ax_ok52 (fun t => t == 12) 400 0 rfl ?_
  simp +decide only [↓ax_B, ax_B, ax_kds, ax_gvs, ax_mcs, ax_ia_S, ax_up_ap, ax_vinL, and_self_left, ax_up_up, ax_up_sw, Nat.reduceAdd, Nat.reduceBEq, Nat.reduceLeDiff, Nat.reduceLT, Nat.reduceEqDiff, ↓reduceIte, true_and, and_true, List.cons_append, List.nil_append, Int32.reduceLT, Int32.reduceLE, Int32.reduceAdd, Int32.reduceToNatClampNeg, Int32.reduceOfNat, true_imp_iff, false_imp_iff, not_true_eq_false, not_false_eq_true, or_true, true_or, or_false, false_or, and_self, Bool.or_true, Bool.or_false, Bool.true_or, Bool.false_or, implies_true, forall_const, Bool.false_eq_true, Int32.neg_neg, ax_X52, ry_51s, hn, hc, nI_clamp (show n < 2 ^ 31 by omega)]
  refine ⟨hsg, nI_pos' (by omega), le30_ h30, fun D' hs hp => ?_⟩
  exact lp_52 i hi _ hp _ 0 (Nat.zero_le _) rfl (h D' hs).1 (h D' hs).2
theorem pk_ct {sg : Nat → Int32} {i : Nat} : ∀ {n : Nat}, i < n → (i ∈ pk_ sg 0 n ↔ ct_ sg 0 i = true) := by
  intro n
  induction n with
  | zero => intro h; exact absurd h (Nat.not_lt_zero _)
  | succ n ih =>
    intro h
    have e := pk_step sg 0 n
    rw [Nat.zero_add, Nat.zero_add] at e
    rw [e]
    by_cases q : i = n
    · subst q
      have hn : i ∉ pk_ sg 0 i := fun z => by have := (pk_mem z).2; omega
      split
      · rename_i hc
        simp [hc]
      · rename_i hc
        exact ⟨fun z => absurd z hn, fun z => absurd z hc⟩
    · split
      · rw [List.mem_append, List.mem_singleton, ih (by omega)]
        exact ⟨fun z => z.resolve_right q, fun z => .inl z⟩
      · exact ih (by omega)
/-! Two sittings. -/
theorem ix37 {i t : Nat} (hi : i < 30) (ht : t < 37) : nI i * 37 + nI t = nI (i * 37 + t) ∧ vp_in (nI (i * 37 + t)) 1110 ∧ (nI (i * 37 + t)).toNatClampNeg = i * 37 + t := by
  refine ⟨?_, vp_in_nI (by omega) (by omega), nI_clamp (by omega)⟩
  rw [show (37 : Int32) = nI 37 by decide, nI_mul, nI_add]
theorem dv37 {i t : Nat} (ht : t < 37) : (i * 37 + t) / 37 = i ∧ (i * 37 + t) % 37 = t := by omega
theorem lp_70b {g : ax_G} {K : ax_Po} {E : ax_En} (m : Int32) (hm : vp_in m 6) (i : Nat) (hi : i < 30) (D0 : ax_Dn) (hok : okC D0) (f : Nat → Nat → Int32) (hf : ∀ t, t < 37 → pr_ 6 (FC D0 i m (nI (t * 10))) 5 0 1 = f i t)
    (h : ∀ D', (∀ k, k ≠ 57 → D' k = D0 k) → (∀ q, q < (i + 1) * 37 → D' 57 q = f (q / 37) (q % 37)) → ax_WP g (ax_hy 70) K 92 92 2 [some (.ref 56), some (.ref 1), some (.int m), some (.int (nI (i + 1))), none] [] (ax_S D' E)) :
    ∀ (j t : Nat) (D : ax_Dn), t + j = 37 → (∀ k, k ≠ 57 → D k = D0 k) → (∀ q, q < i * 37 + t → D 57 q = f (q / 37) (q % 37)) → ax_WP g (ax_hy 70) K 92 92 16 [some (.ref 56), some (.ref 1), some (.int m), some (.int (nI i)), some (.int (nI t))] [] (ax_S D E) := by
  have e37 : (37 : Int32) = nI 37 := by decide
  have e10 : (10 : Int32) = nI 10 := by decide
  have hi3 : nI i + 1 = nI (i + 1) := nI_1 i
  intro j
  induction j with
  | zero =>
    intro t D ht hD hT
    have hc : (37 : Int32) ≤ nI t := by rw [e37]; exact nI_le (by omega) (by omega)
    refine ax_WPo (l := [(29, cy_29)]) (ax_oc sy_29 ax_on) ax_ok70 (fun t => t == 2 || t == 16) 400 16 rfl ?_
    simp +decide only [↓ax_B, ax_B, ax_kds, ax_gvs, ax_mcs, ax_ia_S, ax_up_ap, ax_vinL, and_self_left, ax_up_up, ax_up_sw, Nat.reduceAdd, Nat.reduceBEq, Nat.reduceLeDiff, Nat.reduceLT, Nat.reduceEqDiff, ↓reduceIte, true_and, and_true, List.cons_append, List.nil_append, Int32.reduceLT, Int32.reduceLE, Int32.reduceAdd, Int32.reduceToNatClampNeg, Int32.reduceOfNat, true_imp_iff, false_imp_iff, not_true_eq_false, not_false_eq_true, or_true, true_or, or_false, false_or, and_self, Bool.or_true, Bool.or_false, Bool.true_or, Bool.false_or, implies_true, forall_const, Bool.false_eq_true, Int32.neg_neg, ax_X70, ry_29, hc, hi3]
    exact ax_WP_w (by simp only [ax_le, and_self]) (h D hD (fun q hq => hT q (by omega)))
  | succ j ih =>
    intro t D ht hD hT
    have hc : ¬ (37 : Int32) ≤ nI t := by rw [e37]; exact nI_ge (by omega) (by omega)
    have h3 : nI t + 1 = nI (t + 1) := nI_1 t
    have h4 : nI t * 10 = nI (t * 10) := by rw [e10, nI_mul]
    have i1 : vp_in (nI i) 30 := vp_in_nI hi (by omega)
    have i2 : (nI i).toNatClampNeg = i := nI_clamp (by omega)
    obtain ⟨x1, x2, x3⟩ := ix37 hi (show t < 37 by omega)
    have hs : sm D0 D := ⟨fun k _ _ _ q => hD k q, fun j _ => by rw [hD 12 (by decide)]⟩
    have hok' := sm_okC hs hok
    have hfc := sm_FC hs
    refine ax_WPo (l := [(29, cy_29)]) (ax_oc sy_29 ax_on) ax_ok70 (fun t => t == 2 || t == 16) 400 16 rfl ?_
    simp +decide only [↓ax_B, ax_B, ax_kds, ax_gvs, ax_mcs, ax_ia_S, ax_up_ap, ax_vinL, and_self_left, ax_up_up, ax_up_sw, Nat.reduceAdd, Nat.reduceBEq, Nat.reduceLeDiff, Nat.reduceLT, Nat.reduceEqDiff, ↓reduceIte, true_and, and_true, List.cons_append, List.nil_append, Int32.reduceLT, Int32.reduceLE, Int32.reduceAdd, Int32.reduceToNatClampNeg, Int32.reduceOfNat, true_imp_iff, false_imp_iff, not_true_eq_false, not_false_eq_true, or_true, true_or, or_false, false_or, and_self, Bool.or_true, Bool.or_false, Bool.true_or, Bool.false_or, implies_true, forall_const, Bool.false_eq_true, Int32.neg_neg, ax_X70, ry_29, hc, h3, h4, i1, i2, x1, x2, x3, hm, hok', hfc, hf t (by omega)]
    refine ih (t + 1) _ (by omega) (fun k hk => ?_) (fun q hq => ?_)
    · rw [ax_up_n _ _ hk, hD k hk]
    · rw [ax_up_s]
      refine up_all (k := i * 37 + t) (f := fun q => f (q / 37) (q % 37)) hT ?_ q (by omega)
      show _ = f ((i * 37 + t) / 37) ((i * 37 + t) % 37)
      rw [(dv37 (show t < 37 by omega)).1, (dv37 (show t < 37 by omega)).2]
theorem lp_70a {g : ax_G} {K : ax_Po} {E : ax_En} (m : Int32) (hm : vp_in m 6) (D0 : ax_Dn) (hok : okC D0) (N : Nat) (hN : D0 12 0 = nI N) (h30 : N ≤ 30) (h : ∀ D', (∀ k, k ≠ 57 → D' k = D0 k) → (∀ q, q < N * 37 → D' 57 q = pr_ 6 (FC D0 (q / 37) m (nI (q % 37 * 10))) 5 0 1) → K none (ax_S D' E)) :
    ∀ (j i : Nat) (D : ax_Dn), i + j = N → (∀ k, k ≠ 57 → D k = D0 k) → (∀ q, q < i * 37 → D 57 q = pr_ 6 (FC D0 (q / 37) m (nI (q % 37 * 10))) 5 0 1) → ax_WP g (ax_hy 70) K 92 92 2 [some (.ref 56), some (.ref 1), some (.int m), some (.int (nI i)), none] [] (ax_S D E) := by
  intro j
  induction j with
  | zero =>
    intro i D hi hD hT
    have hN' : D 12 0 = nI N := by rw [hD 12 (by decide)]; exact hN
    have hc : nI N ≤ nI i := nI_le (by omega) (by omega)
    refine ax_WPo (l := [(29, cy_29)]) (ax_oc sy_29 ax_on) ax_ok70 (fun t => t == 2 || t == 16) 400 2 rfl ?_
    simp +decide only [↓ax_B, ax_B, ax_kds, ax_gvs, ax_mcs, ax_ia_S, ax_up_ap, ax_vinL, and_self_left, ax_up_up, ax_up_sw, Nat.reduceAdd, Nat.reduceBEq, Nat.reduceLeDiff, Nat.reduceLT, Nat.reduceEqDiff, ↓reduceIte, true_and, and_true, List.cons_append, List.nil_append, Int32.reduceLT, Int32.reduceLE, Int32.reduceAdd, Int32.reduceToNatClampNeg, Int32.reduceOfNat, true_imp_iff, false_imp_iff, not_true_eq_false, not_false_eq_true, or_true, true_or, or_false, false_or, and_self, Bool.or_true, Bool.or_false, Bool.true_or, Bool.false_or, implies_true, forall_const, Bool.false_eq_true, Int32.neg_neg, ax_X70, ry_29, hN', hc]
    exact h D hD (fun q hq => hT q (by omega))
  | succ j ih =>
    intro i D hi hD hT
    have hN' : D 12 0 = nI N := by rw [hD 12 (by decide)]; exact hN
    have hc : ¬ nI N ≤ nI i := nI_ge (by omega) (by omega)
    refine ax_WPo (l := [(29, cy_29)]) (ax_oc sy_29 ax_on) ax_ok70 (fun t => t == 2 || t == 16) 400 2 rfl ?_
    simp +decide only [↓ax_B, ax_B, ax_kds, ax_gvs, ax_mcs, ax_ia_S, ax_up_ap, ax_vinL, and_self_left, ax_up_up, ax_up_sw, Nat.reduceAdd, Nat.reduceBEq, Nat.reduceLeDiff, Nat.reduceLT, Nat.reduceEqDiff, ↓reduceIte, true_and, and_true, List.cons_append, List.nil_append, Int32.reduceLT, Int32.reduceLE, Int32.reduceAdd, Int32.reduceToNatClampNeg, Int32.reduceOfNat, true_imp_iff, false_imp_iff, not_true_eq_false, not_false_eq_true, or_true, true_or, or_false, false_or, and_self, Bool.or_true, Bool.or_false, Bool.true_or, Bool.false_or, implies_true, forall_const, Bool.false_eq_true, Int32.neg_neg, ax_X70, ry_29, hN', hc]
    exact lp_70b m hm i (by omega) D0 hok (fun i t => pr_ 6 (FC D0 i m (nI (t * 10))) 5 0 1) (fun t ht => rfl) (fun D' hD' hT' => ih (i + 1) D' (by omega) hD' hT') 37 0 D (by omega) hD (fun q hq => hT q (by omega))
/-- AskewLetters$Sittings.fill(LAskewLetters$Desk;I)V -/
def cy_70 : ax_P1 := fun as z K => ∃ (p2 : Int32) (D : ax_Dn) (E : ax_En), as = [.ref 56, .ref 1, .int p2] ∧ z = ax_S D E ∧ (okC D ∧ vp_in p2 6 ∧ ∀ D', (∀ k, k ≠ 57 → D' k = D k) → (∀ q, q < (D 12 0).toNatClampNeg * 37 → D' 57 q = pr_ 6 (FC D (q / 37) p2 (nI (q % 37 * 10))) 5 0 1) → K none (ax_S D' E))
theorem ry_70 (p2 : Int32) (D : ax_Dn) (E : ax_En) (K : ax_Po) : cy_70 [.ref 56, .ref 1, .int p2] (ax_S D E) K = (okC D ∧ vp_in p2 6 ∧ ∀ D', (∀ k, k ≠ 57 → D' k = D k) → (∀ q, q < (D 12 0).toNatClampNeg * 37 → D' 57 q = pr_ 6 (FC D (q / 37) p2 (nI (q % 37 * 10))) 5 0 1) → K none (ax_S D' E)) := propext ⟨fun ⟨p2', D', E', h1, h2, h3⟩ => by cases h1; obtain ⟨rfl, rfl⟩ := ax_S_inj h2; exact h3, fun h => ⟨p2, D, E, rfl, rfl, h⟩⟩
theorem sy_70 {g : ax_G} : ∀ as z K, cy_70 as z K → ax_MM g 70 as z K := by
  rintro _ _ K ⟨p2, D, E, rfl, rfl, h⟩
  refine ax_go70 _ _ _ ?_
  obtain ⟨hok, h2, h⟩ := h
  obtain ⟨n, hn, h30, hc⟩ := ax_cnt_of hok.2.2.1 (by decide)
  rw [hc] at h
  refine ax_WPo (l := [(29, cy_29)]) (ax_oc sy_29 ax_on) ax_ok70 (fun t => t == 2 || t == 16) 400 0 rfl ?_
  simp +decide only [↓ax_B, ax_B, ax_kds, ax_gvs, ax_mcs, ax_ia_S, ax_up_ap, ax_vinL, and_self_left, ax_up_up, ax_up_sw, Nat.reduceAdd, Nat.reduceBEq, Nat.reduceLeDiff, Nat.reduceLT, Nat.reduceEqDiff, ↓reduceIte, true_and, and_true, List.cons_append, List.nil_append, Int32.reduceLT, Int32.reduceLE, Int32.reduceAdd, Int32.reduceToNatClampNeg, Int32.reduceOfNat, true_imp_iff, false_imp_iff, not_true_eq_false, not_false_eq_true, or_true, true_or, or_false, false_or, and_self, Bool.or_true, Bool.or_false, Bool.true_or, Bool.false_or, implies_true, forall_const, Bool.false_eq_true, Int32.neg_neg, ax_X70, ry_29]
  exact lp_70a p2 h2 D hok n hn h30 h n 0 D (by omega) (fun _ _ => rfl) (fun q hq => absurd hq (by omega))
/-- the greatest of n rows, 0 if none is above -/
def gl_ (f : Nat → Int64) : Nat → Int64
  | 0 => 0
  | n + 1 => if gl_ f n < f n then f n else gl_ f n
theorem mx_sw (x y : Int64) : (if y < x then x else y) = if x < y then y else x := by
  by_cases h : y < x
  · rw [if_pos h, if_neg (Int64.not_lt.mpr (Int64.le_of_lt h))]
  · rw [if_neg h]
    by_cases h2 : x < y
    · rw [if_pos h2]
    · rw [if_neg h2]
      exact la_eq.mpr (by
        have : ¬ y.toInt < x.toInt := fun q => h (la_lt.mpr q)
        have : ¬ x.toInt < y.toInt := fun q => h2 (la_lt.mpr q)
        omega)
theorem lp_71b {g : ax_G} {K : ax_Po} {D : ax_Dn} {E : ax_En} (P : List Nat) (hp : pkd D P) (f : Nat → Nat → Int32) (t : Nat) (ht : t < 37) (hT : ∀ i ∈ P, D 57 (i * 37 + t) = f i t) (x y : Int32) (v : Int64)
    (h : ax_WP g (ax_hy 71) K 92 92 13 [some (.ref 56), some (.ref 12), some (.int x), some (.int y), some (.long (if v < lk_ P (fun i => f i t) 1 then lk_ P (fun i => f i t) 1 else v)), none, some (.int (nI (t + 1))), none, none, none] [] (ax_S D E)) :
    ∀ (Q : List Nat) (k : Nat) (acc : Int64), k ≤ P.length → P.drop k = Q → lk_ Q (fun i => f i t) acc = lk_ P (fun i => f i t) 1 → ax_WP g (ax_hy 71) K 92 92 26 [some (.ref 56), some (.ref 12), some (.int x), some (.int y), some (.long v), none, some (.int (nI t)), some (.long acc), none, some (.int (nI k))] [] (ax_S D E) := by
  obtain ⟨hl, h12, h18, h30⟩ := hp
  have t3 : nI t + 1 = nI (t + 1) := nI_1 t
  intro Q
  induction Q with
  | nil =>
    intro k acc hkl hk ha
    have hk2 : P.length ≤ k := List.drop_eq_nil_iff.mp hk
    have hc : nI P.length ≤ nI k := nI_le (by omega) (by omega)
    have ha : acc = lk_ P (fun i => f i t) 1 := ha
    refine ax_WPo (l := [(51, cy_51s)]) (ax_oc sy_51s ax_on) ax_ok71 (fun t => t == 13 || t == 26) 400 26 rfl ?_
    simp +decide only [↓ax_B, ax_B, ax_kds, ax_gvs, ax_mcs, ax_ia_S, ax_up_ap, ax_vinL, and_self_left, ax_up_up, ax_up_sw, Nat.reduceAdd, Nat.reduceBEq, Nat.reduceLeDiff, Nat.reduceLT, Nat.reduceEqDiff, ↓reduceIte, true_and, and_true, List.cons_append, List.nil_append, Int32.reduceLT, Int32.reduceLE, Int32.reduceAdd, Int32.reduceToNatClampNeg, Int32.reduceOfNat, true_imp_iff, false_imp_iff, not_true_eq_false, not_false_eq_true, or_true, true_or, or_false, false_or, and_self, Bool.or_true, Bool.or_false, Bool.true_or, Bool.false_or, implies_true, forall_const, Bool.false_eq_true, Int32.neg_neg, ax_X71, ry_51s, h12, hc, t3, ha, mx_sw]
    exact ax_WP_w (by simp only [ax_le, and_self]) h
  | cons q Q ih =>
    intro k acc hkl hk ha
    obtain ⟨hlt, h4, hmem, hnx⟩ := drop_at hk
    have hc : ¬ nI P.length ≤ nI k := nI_ge hlt (by omega)
    have h1 : vp_in (nI k) 5 := vp_in_nI (by omega) (by omega)
    have h2 : (nI k).toNatClampNeg = k := nI_clamp (by omega)
    have h3 : nI k + 1 = nI (k + 1) := nI_1 k
    have h4' : D 18 k = nI q := by rw [h18 k hlt, h4]
    obtain ⟨x1, x2, x3⟩ := ix37 (h30 q hmem) ht
    have hv := hT q hmem
    refine ax_WPo (l := [(51, cy_51s)]) (ax_oc sy_51s ax_on) ax_ok71 (fun t => t == 13 || t == 26) 400 26 rfl ?_
    simp +decide only [↓ax_B, ax_B, ax_kds, ax_gvs, ax_mcs, ax_ia_S, ax_up_ap, ax_vinL, and_self_left, ax_up_up, ax_up_sw, Nat.reduceAdd, Nat.reduceBEq, Nat.reduceLeDiff, Nat.reduceLT, Nat.reduceEqDiff, ↓reduceIte, true_and, and_true, List.cons_append, List.nil_append, Int32.reduceLT, Int32.reduceLE, Int32.reduceAdd, Int32.reduceToNatClampNeg, Int32.reduceOfNat, true_imp_iff, false_imp_iff, not_true_eq_false, not_false_eq_true, or_true, true_or, or_false, false_or, and_self, Bool.or_true, Bool.or_false, Bool.true_or, Bool.false_or, implies_true, forall_const, Bool.false_eq_true, Int32.neg_neg, ax_X71, ry_51s, h12, hc, h1, h2, h3, h4', x1, x2, x3, hv]
    exact ih (k + 1) _ hlt hnx ha
theorem lp_71a {g : ax_G} {K : ax_Po} {D : ax_Dn} {E : ax_En} (P : List Nat) (hp : pkd D P) (f : Nat → Nat → Int32) (hT : ∀ i ∈ P, ∀ t, t < 37 → D 57 (i * 37 + t) = f i t) (x y : Int32) (h : K (some (.long (gl_ (fun t => lk_ P (fun i => f i t) 1) 37))) (ax_S D E)) :
    ∀ (j t : Nat), t + j = 37 → ax_WP g (ax_hy 71) K 92 92 13 [some (.ref 56), some (.ref 12), some (.int x), some (.int y), some (.long (gl_ (fun t => lk_ P (fun i => f i t) 1) t)), none, some (.int (nI t)), none, none, none] [] (ax_S D E) := by
  have e37 : (37 : Int32) = nI 37 := by decide
  intro j
  induction j with
  | zero =>
    intro t ht
    have hc : (37 : Int32) ≤ nI t := by rw [e37]; exact nI_le (by omega) (by omega)
    obtain rfl : t = 37 := by omega
    refine ax_WPo (l := [(51, cy_51s)]) (ax_oc sy_51s ax_on) ax_ok71 (fun t => t == 13 || t == 26) 400 13 rfl ?_
    simp +decide only [↓ax_B, ax_B, ax_kds, ax_gvs, ax_mcs, ax_ia_S, ax_up_ap, ax_vinL, and_self_left, ax_up_up, ax_up_sw, Nat.reduceAdd, Nat.reduceBEq, Nat.reduceLeDiff, Nat.reduceLT, Nat.reduceEqDiff, ↓reduceIte, true_and, and_true, List.cons_append, List.nil_append, Int32.reduceLT, Int32.reduceLE, Int32.reduceAdd, Int32.reduceToNatClampNeg, Int32.reduceOfNat, true_imp_iff, false_imp_iff, not_true_eq_false, not_false_eq_true, or_true, true_or, or_false, false_or, and_self, Bool.or_true, Bool.or_false, Bool.true_or, Bool.false_or, implies_true, forall_const, Bool.false_eq_true, Int32.neg_neg, ax_X71, ry_51s, hc]
    exact h
  | succ j ih =>
    intro t ht
    have hc : ¬ (37 : Int32) ≤ nI t := by rw [e37]; exact nI_ge (by omega) (by omega)
    have := ih (t + 1) (by omega)
    refine ax_WPo (l := [(51, cy_51s)]) (ax_oc sy_51s ax_on) ax_ok71 (fun t => t == 13 || t == 26) 400 13 rfl ?_
    simp +decide only [↓ax_B, ax_B, ax_kds, ax_gvs, ax_mcs, ax_ia_S, ax_up_ap, ax_vinL, and_self_left, ax_up_up, ax_up_sw, Nat.reduceAdd, Nat.reduceBEq, Nat.reduceLeDiff, Nat.reduceLT, Nat.reduceEqDiff, ↓reduceIte, true_and, and_true, List.cons_append, List.nil_append, Int32.reduceLT, Int32.reduceLE, Int32.reduceAdd, Int32.reduceToNatClampNeg, Int32.reduceOfNat, true_imp_iff, false_imp_iff, not_true_eq_false, not_false_eq_true, or_true, true_or, or_false, false_or, and_self, Bool.or_true, Bool.or_false, Bool.true_or, Bool.false_or, implies_true, forall_const, Bool.false_eq_true, Int32.neg_neg, ax_X71, ry_51s, hc]
    exact lp_71b P hp f t (by omega) (fun i hi => hT i hi t (by omega)) x y _ this P 0 1 (Nat.zero_le _) rfl rfl
/-- AskewLetters$Sittings.greatestLike(LAskewLetters$Page;II)J -/
def cy_71 : ax_P1 := fun as z K => ∃ (p2 : Int32) (p3 : Int32) (D : ax_Dn) (E : ax_En), as = [.ref 56, .ref 12, .int p2, .int p3] ∧ z = ax_S D E ∧ (sg_ok (D 13) ∧ 0 ≤ p2 ∧ p2 ≤ p3 ∧ p3 ≤ 30 ∧ ∃ f : Nat → Nat → Int32, (∀ i, i < p3.toNatClampNeg → ∀ t, t < 37 → D 57 (i * 37 + t) = f i t) ∧ ∀ D', sm1 D D' → K (some (.long (gl_ (fun t => lk_ (pk_ (D 13) p2.toNatClampNeg p3.toNatClampNeg) (fun i => f i t) 1) 37))) (ax_S D' E))
theorem ry_71 (p2 : Int32) (p3 : Int32) (D : ax_Dn) (E : ax_En) (K : ax_Po) : cy_71 [.ref 56, .ref 12, .int p2, .int p3] (ax_S D E) K = (sg_ok (D 13) ∧ 0 ≤ p2 ∧ p2 ≤ p3 ∧ p3 ≤ 30 ∧ ∃ f : Nat → Nat → Int32, (∀ i, i < p3.toNatClampNeg → ∀ t, t < 37 → D 57 (i * 37 + t) = f i t) ∧ ∀ D', sm1 D D' → K (some (.long (gl_ (fun t => lk_ (pk_ (D 13) p2.toNatClampNeg p3.toNatClampNeg) (fun i => f i t) 1) 37))) (ax_S D' E)) := propext ⟨fun ⟨p2', p3', D', E', h1, h2, h3⟩ => by cases h1; obtain ⟨rfl, rfl⟩ := ax_S_inj h2; exact h3, fun h => ⟨p2, p3, D, E, rfl, rfl, h⟩⟩
theorem sy_71 {g : ax_G} : ∀ as z K, cy_71 as z K → ax_MM g 71 as z K := by
  rintro _ _ K ⟨p2, p3, D, E, rfl, rfl, h⟩
  refine ax_go71 _ _ _ _ ?_
  obtain ⟨hsg, h1, h2, h3, f, hT, h⟩ := h
  refine ax_WPo (l := [(51, cy_51s)]) (ax_oc sy_51s ax_on) ax_ok71 (fun t => t == 13 || t == 26) 400 0 rfl ?_
  simp +decide only [↓ax_B, ax_B, ax_kds, ax_gvs, ax_mcs, ax_ia_S, ax_up_ap, ax_vinL, and_self_left, ax_up_up, ax_up_sw, Nat.reduceAdd, Nat.reduceBEq, Nat.reduceLeDiff, Nat.reduceLT, Nat.reduceEqDiff, ↓reduceIte, true_and, and_true, List.cons_append, List.nil_append, Int32.reduceLT, Int32.reduceLE, Int32.reduceAdd, Int32.reduceToNatClampNeg, Int32.reduceOfNat, true_imp_iff, false_imp_iff, not_true_eq_false, not_false_eq_true, or_true, true_or, or_false, false_or, and_self, Bool.or_true, Bool.or_false, Bool.true_or, Bool.false_or, implies_true, forall_const, Bool.false_eq_true, Int32.neg_neg, ax_X71, ry_51s]
  refine ⟨hsg, h1, h2, h3, fun D' hs hp => ?_⟩
  refine lp_71a _ hp f (fun i hi t ht => ?_) p2 p3 (h D' hs) 37 0 rfl
  rw [hs.1 57 (by decide) (by decide)]
  exact hT i (pk_mem hi).2 t ht
/-- the place that parts best, and how much that is -/
def pt_ (v : Nat → Int64) (b : Int64) : Nat → Nat × Int64
  | 0 => (0, b)
  | k + 1 => if (pt_ v b k).2 < v (k + 1) then (k + 1, v (k + 1)) else pt_ v b k
theorem pt_le (v : Nat → Int64) (b : Int64) : ∀ k, (pt_ v b k).1 ≤ k := by
  intro k
  induction k with
  | zero => exact Nat.le_refl _
  | succ k ih => unfold pt_; split; exact Nat.le_refl _; omega
/-- the greatest like of strokes f .. t - 1 on the days, by standing and nicked ones -/
def LG (D : ax_Dn) (m : Int32) (f t : Nat) : Int64 := gl_ (fun q => LC D 6 m (nI (q * 10)) f t) 37
theorem sm_LG {D D' : ax_Dn} (h : sm D D') : LG D' = LG D := by
  funext m f t
  unfold LG
  rw [sm_LC h]
/-- the rows of products stand -/
def TB (D0 : ax_Dn) (m : Int32) (n : Nat) (D : ax_Dn) : Prop := ∀ q, q < n * 37 → D 57 q = pr_ 6 (FC D0 (q / 37) m (nI (q % 37 * 10))) 5 0 1
theorem TB_at {D0 D : ax_Dn} {m : Int32} {n : Nat} (h : TB D0 m n D) {i t : Nat} (hi : i < n) (ht : t < 37) : D 57 (i * 37 + t) = pr_ 6 (FC D0 i m (nI (t * 10))) 5 0 1 := by
  rw [h (i * 37 + t) (by omega), (dv37 ht).1, (dv37 ht).2]
theorem lp_68 {g : ax_G} {K : ax_Po} {D0 : ax_Dn} (hok : okC D0) (m : Int32) (N : Nat) (hN : D0 12 0 = nI N) (h30 : N ≤ 30) (v : Nat → Int64) (hv : ∀ p, v p = LG D0 m 0 p * LG D0 m p N)
    (h : ∀ D' E', sm D0 D' → TB D0 m N D' → D' 56 1 = nI (pt_ v 0 (N - 1)).1 → E' 56 2 = (pt_ v 0 (N - 1)).2 → K none (ax_S D' E')) :
    ∀ (j k : Nat) (D : ax_Dn) (E : ax_En), k + j = N - 1 → sm D0 D → TB D0 m N D → D 56 1 = nI (pt_ v 0 k).1 → E 56 2 = (pt_ v 0 k).2 → ax_WP g (ax_hy 68) K 92 92 24 [some (.ref 56), some (.ref 1), some (.int m), some (.ref 12), some (.int (nI (k + 1))), none, none] [] (ax_S D E) := by
  intro j
  induction j with
  | zero =>
    intro k D E hk hs hT hP hG
    have hN' : D 12 0 = nI N := by rw [sm_12 hs]; exact hN
    have hc : nI N ≤ nI (k + 1) := nI_le (by omega) (by omega)
    obtain rfl : k = N - 1 := by omega
    refine ax_WPo (l := [(70, cy_70), (71, cy_71)]) (ax_oc sy_70 (ax_oc sy_71 ax_on)) ax_ok68 (fun t => t == 24) 400 24 rfl ?_
    simp +decide only [↓ax_B, ax_B, ax_kds, ax_gvs, ax_mcs, ax_ia_S, ax_up_ap, ax_vinL, and_self_left, ax_up_up, ax_up_sw, Nat.reduceAdd, Nat.reduceBEq, Nat.reduceLeDiff, Nat.reduceLT, Nat.reduceEqDiff, ↓reduceIte, true_and, and_true, List.cons_append, List.nil_append, Int32.reduceLT, Int32.reduceLE, Int32.reduceAdd, Int32.reduceToNatClampNeg, Int32.reduceOfNat, true_imp_iff, false_imp_iff, not_true_eq_false, not_false_eq_true, or_true, true_or, or_false, false_or, and_self, Bool.or_true, Bool.or_false, Bool.true_or, Bool.false_or, implies_true, forall_const, Bool.false_eq_true, Int32.neg_neg, ax_X68, ry_70, ry_71, hN', hc]
    exact h D E hs hT hP hG
  | succ j ih =>
    intro k D E hk hs hT hP hG
    have hN' : D 12 0 = nI N := by rw [sm_12 hs]; exact hN
    have hc : ¬ nI N ≤ nI (k + 1) := nI_ge (by omega) (by omega)
    have e13 := sm_at hs 13
    have h2 : (nI (k + 1)).toNatClampNeg = k + 1 := nI_clamp (by omega)
    have h2' : (nI N).toNatClampNeg = N := nI_clamp (by omega)
    have h3 : nI (k + 1) + 1 = nI (k + 1 + 1) := nI_1 _
    refine ax_WPo (l := [(70, cy_70), (71, cy_71)]) (ax_oc sy_70 (ax_oc sy_71 ax_on)) ax_ok68 (fun t => t == 24) 400 24 rfl ?_
    simp +decide only [↓ax_B, ax_B, ax_kds, ax_gvs, ax_mcs, ax_ia_S, ax_up_ap, ax_vinL, and_self_left, ax_up_up, ax_up_sw, Nat.reduceAdd, Nat.reduceBEq, Nat.reduceLeDiff, Nat.reduceLT, Nat.reduceEqDiff, ↓reduceIte, true_and, and_true, List.cons_append, List.nil_append, Int32.reduceLT, Int32.reduceLE, Int32.reduceAdd, Int32.reduceToNatClampNeg, Int32.reduceOfNat, true_imp_iff, false_imp_iff, not_true_eq_false, not_false_eq_true, or_true, true_or, or_false, false_or, and_self, Bool.or_true, Bool.or_false, Bool.true_or, Bool.false_or, implies_true, forall_const, Bool.false_eq_true, Int32.neg_neg, ax_X68, ry_70, ry_71, hN', hc, e13, h2, h3, cm_le0]
    refine ⟨hok.2.2.2.1, nI_pos' (by omega), le30_ (by omega), fun i t => pr_ 6 (FC D0 i m (nI (t * 10))) 5 0 1, fun i hi t ht => TB_at hT (by omega) ht, fun D1 hs1 => ?_⟩
    have hN1 : D1 12 0 = nI N := by rw [sm_12 (sm1_sm hs1)]; exact hN'
    have e13' : D1 13 = D0 13 := by rw [sm_at (sm1_sm hs1) 13, e13]
    rw [hN1, h2', e13']
    refine ⟨hok.2.2.2.1, nI_pos' (by omega), nI_le (by omega) (by omega), le30_ h30, fun i t => pr_ 6 (FC D0 i m (nI (t * 10))) 5 0 1, fun i hi t ht => ?_, fun D2 hs2 => ?_⟩
    · rw [hs1.1 57 (by decide) (by decide)]
      exact TB_at hT hi ht
    have hs02 : sm D0 D2 := sm_tr hs (sm1_sm (sm1_tr hs1 hs2))
    have e57 : D2 57 = D 57 := (sm1_tr hs1 hs2).1 57 (by decide) (by decide)
    have e56 : D2 56 = D 56 := (sm1_tr hs1 hs2).1 56 (by decide) (by decide)
    have hT2 : TB D0 m N D2 := fun q hq => by rw [e57]; exact hT q hq
    have hvk : gl_ (fun t => lk_ (pk_ (D0 13) 0 (k + 1)) (fun i => pr_ 6 (FC D0 i m (nI (t * 10))) 5 0 1) 1) 37 * gl_ (fun t => lk_ (pk_ (D0 13) (k + 1) N) (fun i => pr_ 6 (FC D0 i m (nI (t * 10))) 5 0 1) 1) 37 = v (k + 1) := (hv (k + 1)).symm
    rw [hvk, hG]
    refine ⟨fun c => ?_, fun c => ?_⟩
    · refine ax_WP_w ?_ (ih (k + 1) D2 E (by omega) hs02 hT2 ?_ ?_)
      · simp only [ax_le, and_self]
      · unfold pt_
        rw [if_neg (Int64.not_lt.mpr c), e56]
        exact hP
      · unfold pt_
        rw [if_neg (Int64.not_lt.mpr c)]
        exact hG
    · refine ax_WP_w ?_ (ih (k + 1) _ _ (by omega) ⟨fun q a b e f => ?_, fun q a => ?_⟩ (fun q hq => ?_) ?_ ?_)
      · simp only [ax_le, and_self]
      · rw [ax_up_n _ _ e]; exact hs02.1 q a b e f
      · rw [ax_up_n _ _ (show 12 ≠ 56 by decide)]; exact hs02.2 q a
      · rw [ax_up_n _ _ (show 57 ≠ 56 by decide)]; exact hT2 q hq
      · unfold pt_
        rw [if_pos (Int64.not_le.mp c), ax_up_s, ax_up_s]
      · unfold pt_
        rw [if_pos (Int64.not_le.mp c), ax_up_s, ax_up_s]
/-- AskewLetters$Sittings.find(LAskewLetters$Desk;I)V -/
def cy_68 : ax_P1 := fun as z K => ∃ (p2 : Int32) (D : ax_Dn) (E : ax_En), as = [.ref 56, .ref 1, .int p2] ∧ z = ax_S D E ∧ (okC D ∧ vp_in p2 6 ∧ ∀ D' E', sm D D' → TB D p2 (D 12 0).toNatClampNeg D' → D' 56 1 = nI (pt_ (fun p => LG D p2 0 p * LG D p2 p (D 12 0).toNatClampNeg) 0 ((D 12 0).toNatClampNeg - 1)).1 → E' 56 2 = (pt_ (fun p => LG D p2 0 p * LG D p2 p (D 12 0).toNatClampNeg) 0 ((D 12 0).toNatClampNeg - 1)).2 → K none (ax_S D' E'))
theorem ry_68 (p2 : Int32) (D : ax_Dn) (E : ax_En) (K : ax_Po) : cy_68 [.ref 56, .ref 1, .int p2] (ax_S D E) K = (okC D ∧ vp_in p2 6 ∧ ∀ D' E', sm D D' → TB D p2 (D 12 0).toNatClampNeg D' → D' 56 1 = nI (pt_ (fun p => LG D p2 0 p * LG D p2 p (D 12 0).toNatClampNeg) 0 ((D 12 0).toNatClampNeg - 1)).1 → E' 56 2 = (pt_ (fun p => LG D p2 0 p * LG D p2 p (D 12 0).toNatClampNeg) 0 ((D 12 0).toNatClampNeg - 1)).2 → K none (ax_S D' E')) := propext ⟨fun ⟨p2', D', E', h1, h2, h3⟩ => by cases h1; obtain ⟨rfl, rfl⟩ := ax_S_inj h2; exact h3, fun h => ⟨p2, D, E, rfl, rfl, h⟩⟩
theorem sy_68 {g : ax_G} : ∀ as z K, cy_68 as z K → ax_MM g 68 as z K := by
  rintro _ _ K ⟨p2, D, E, rfl, rfl, h⟩
  refine ax_go68 _ _ _ ?_
  obtain ⟨hok, h2, h⟩ := h
  obtain ⟨n, hn, h30, hc⟩ := ax_cnt_of hok.2.2.1 (by decide)
  rw [hc] at h
  refine ax_WPo (l := [(70, cy_70), (71, cy_71)]) (ax_oc sy_70 (ax_oc sy_71 ax_on)) ax_ok68 (fun t => t == 24) 400 0 rfl ?_
  simp +decide only [↓ax_B, ax_B, ax_kds, ax_gvs, ax_mcs, ax_ia_S, ax_up_ap, ax_vinL, and_self_left, ax_up_up, ax_up_sw, Nat.reduceAdd, Nat.reduceBEq, Nat.reduceLeDiff, Nat.reduceLT, Nat.reduceEqDiff, ↓reduceIte, true_and, and_true, List.cons_append, List.nil_append, Int32.reduceLT, Int32.reduceLE, Int32.reduceAdd, Int32.reduceToNatClampNeg, Int32.reduceOfNat, true_imp_iff, false_imp_iff, not_true_eq_false, not_false_eq_true, or_true, true_or, or_false, false_or, and_self, Bool.or_true, Bool.or_false, Bool.true_or, Bool.false_or, implies_true, forall_const, Bool.false_eq_true, Int32.neg_neg, ax_X68, ry_70, ry_71, hok, h2, hc]
  intro D' hD hT
  refine lp_68 hok p2 n hn h30 _ (fun _ => rfl) h (n - 1) 0 _ _ (by omega) ⟨fun k a b c d => ?_, fun q a => ?_⟩ (fun q hq => ?_) ?_ ?_
  · rw [ax_up_n _ _ c]; exact hD k d
  · rw [ax_up_n _ _ (show 12 ≠ 56 by decide), hD 12 (by decide)]
  · rw [ax_up_n _ _ (show 57 ≠ 56 by decide)]; exact hT q hq
  · rw [ax_up_s, ax_up_s]; rfl
  · rw [ax_up_s, ax_up_s]; rfl
/-- AskewLetters$Sittings.gained(LAskewLetters$Page;)I -/
def cy_69 : ax_P1 := fun as z K => ∃ (D : ax_Dn) (E : ax_En), as = [.ref 56, .ref 12] ∧ z = ax_S D E ∧ (sg_ok (D 13) ∧ ax_cnt (D 12 0) 30 ∧ ∃ f : Nat → Nat → Int32, (∀ i, i < (D 12 0).toNatClampNeg → ∀ t, t < 37 → D 57 (i * 37 + t) = f i t) ∧ ∀ D', sm1 D D' → ∀ w, w = gl_ (fun t => lk_ (pk_ (D 13) 0 (D 12 0).toNatClampNeg) (fun i => f i t) 1) 37 → 1 ≤ w ∧ K (some (.int (if E 56 2 / w < 1000000000 then E 56 2 / w else 1000000000).toInt32)) (ax_S D' E))
theorem ry_69  (D : ax_Dn) (E : ax_En) (K : ax_Po) : cy_69 [.ref 56, .ref 12] (ax_S D E) K = (sg_ok (D 13) ∧ ax_cnt (D 12 0) 30 ∧ ∃ f : Nat → Nat → Int32, (∀ i, i < (D 12 0).toNatClampNeg → ∀ t, t < 37 → D 57 (i * 37 + t) = f i t) ∧ ∀ D', sm1 D D' → ∀ w, w = gl_ (fun t => lk_ (pk_ (D 13) 0 (D 12 0).toNatClampNeg) (fun i => f i t) 1) 37 → 1 ≤ w ∧ K (some (.int (if E 56 2 / w < 1000000000 then E 56 2 / w else 1000000000).toInt32)) (ax_S D' E)) := propext ⟨fun ⟨D', E', h1, h2, h3⟩ => by cases h1; obtain ⟨rfl, rfl⟩ := ax_S_inj h2; exact h3, fun h => ⟨D, E, rfl, rfl, h⟩⟩
theorem sy_69 {g : ax_G} : ∀ as z K, cy_69 as z K → ax_MM g 69 as z K := by
  rintro _ _ K ⟨D, E, rfl, rfl, h⟩
  refine ax_go69 _ _ ?_
  obtain ⟨hsg, h1, f, hT, h⟩ := h
  obtain ⟨n, hn, h30, hc⟩ := ax_cnt_of h1 (by decide)
  rw [hc] at h hT
  refine ax_WPo (l := [(71, cy_71)]) (ax_oc sy_71 ax_on) ax_ok69 (fun _ => false) 400 0 rfl ?_
  simp +decide only [↓ax_B, ax_B, ax_kds, ax_gvs, ax_mcs, ax_ia_S, ax_up_ap, ax_vinL, and_self_left, ax_up_up, ax_up_sw, Nat.reduceAdd, Nat.reduceBEq, Nat.reduceLeDiff, Nat.reduceLT, Nat.reduceEqDiff, ↓reduceIte, true_and, and_true, List.cons_append, List.nil_append, Int32.reduceLT, Int32.reduceLE, Int32.reduceAdd, Int32.reduceToNatClampNeg, Int32.reduceOfNat, true_imp_iff, false_imp_iff, not_true_eq_false, not_false_eq_true, or_true, true_or, or_false, false_or, and_self, Bool.or_true, Bool.or_false, Bool.true_or, Bool.false_or, implies_true, forall_const, Bool.false_eq_true, Int32.neg_neg, ax_X69, ry_71, hn, hc, nI_clamp (show n < 2 ^ 31 by omega)]
  refine ⟨hsg, nI_pos' (by omega), le30_ h30, f, hT, fun D' hs => ?_⟩
  have h := h D' hs _ rfl
  refine ⟨fun c => ⟨?_, h.2⟩, fun c => ?_⟩
  · intro z
    rw [z] at h
    exact absurd h.1 (by decide)
  · rw [cm_ge0] at c
    exact absurd h.1 c
