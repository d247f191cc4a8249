/-! An event more: by days in the class, as it came in the model. -/
theorem ins_k (f : Nat → Int32) (k n : Nat) (v : Int32) : ins_ f k n v k = v := ax_up_s _ _ _
theorem ins_lt (f : Nat → Int32) {k n i : Nat} (v : Int32) (h : i < k) : ins_ f k n v i = f i := by
  unfold ins_
  rw [ax_up_n _ _ (by omega)]
  unfold shf_
  rw [if_neg (by omega)]
theorem ins_gt (f : Nat → Int32) {k n i : Nat} (v : Int32) (h : k < i) (h2 : i ≤ n) : ins_ f k n v i = f (i - 1) := by
  unfold ins_
  rw [ax_up_n _ _ (by omega)]
  unfold shf_
  rw [if_pos (by omega)]
theorem ip_sp (f : Nat → Int32) (d : Int32) : ∀ n, (∀ i, ip_ f d n ≤ i → i < n → d < f i) ∧ (0 < ip_ f d n → ¬ d < f (ip_ f d n - 1)) := by
  intro n
  induction n with
  | zero => exact ⟨fun i _ h => absurd h (Nat.not_lt_zero i), fun h => absurd h (Nat.lt_irrefl 0)⟩
  | succ n ih =>
    unfold ip_
    by_cases c : d < f n
    · rw [if_pos c]
      refine ⟨fun i a b => ?_, ih.2⟩
      by_cases e : i = n
      · rw [e]; exact c
      · exact ih.1 i a (by omega)
    · rw [if_neg c]
      exact ⟨fun i a b => absurd b (by omega), fun _ => by rw [Nat.add_sub_cancel]; exact c⟩
theorem EV_ins {N : Nat} {C M C' M' : ax_Dn} {l m s d v v' : Int32} (h : EV N C M) (c7 : C' 7 = ins_ (C 7) (ip_ (C 10) d N) N l) (c8 : C' 8 = ins_ (C 8) (ip_ (C 10) d N) N m) (c9 : C' 9 = ins_ (C 9) (ip_ (C 10) d N) N s) (c10 : C' 10 = ins_ (C 10) (ip_ (C 10) d N) N d) (c11 : C' 11 = ins_ (C 11) (ip_ (C 10) d N) N v)
    (m1 : M' 71 = ax_up (M 71) N l) (m2 : M' 72 = ax_up (M 72) N m) (m3 : M' 73 = ax_up (M 73) N s) (m4 : M' 74 = ax_up (M 74) N d) (m5 : M' 75 = ax_up (M 75) N v') (hv : l ≠ 115 → v = v') : EV (N + 1) C' M' := by
  obtain ⟨p, hp, hs, hr⟩ := h
  have hlen : p.length = N := by rw [hp.length_eq, List.length_range]
  have hm : ∀ e ∈ p, e < N := fun e he => List.mem_range.mp ((hp.mem_iff).mp he)
  have hk : ip_ (C 10) d N ≤ N := ip_le _ _ _
  obtain ⟨s1, s2⟩ := ip_sp (C 10) d N
  generalize ip_ (C 10) d N = k at *
  have hat : ∀ i, i < N → ∃ e, p[i]? = some e ∧ e < N ∧ C 10 i = M 74 e := by
    intro i hi
    obtain ⟨e, he⟩ : ∃ e, p[i]? = some e := ⟨p[i], List.getElem?_eq_getElem (by omega)⟩
    exact ⟨e, he, hm e (List.mem_of_getElem? he), (hr i e he).2.2.2.1⟩
  have hM : ∀ e, e < N → M' 74 e = M 74 e := fun e he => by rw [m4, ax_up_n _ _ (by omega)]
  have hMN : M' 74 N = d := by rw [m4, ax_up_s]
  have sp : (p.take k ++ p.drop k).Pairwise (ev_lt (M 74)) := by rw [List.take_append_drop]; exact hs
  obtain ⟨q1, q2, q3⟩ := List.pairwise_append.mp sp
  have mt : ∀ e ∈ p.take k, e < N := fun e he => hm e (List.mem_of_mem_take he)
  have md : ∀ e ∈ p.drop k, e < N := fun e he => hm e (List.mem_of_mem_drop he)
  -- days ahead are not later
  have dt : ∀ e ∈ p.take k, ¬ d < M 74 e := by
    intro e he
    obtain ⟨i, hi⟩ := List.getElem?_of_mem he
    rw [List.getElem?_take] at hi
    split at hi
    · rename_i hik
      obtain ⟨e', he', hN', hd'⟩ := hat (k - 1) (by omega)
      have w := s2 (by omega)
      rw [hd'] at w
      by_cases c : i = k - 1
      · subst c
        rw [he'] at hi
        cases hi
        exact w
      · have hij : ev_lt (M 74) e e' := by
          have a1 := (List.getElem?_eq_some_iff.mp hi)
          have a2 := (List.getElem?_eq_some_iff.mp he')
          obtain ⟨b1, rfl⟩ := a1
          obtain ⟨b2, rfl⟩ := a2
          exact List.pairwise_iff_getElem.mp hs i (k - 1) b1 b2 (by omega)
        intro z
        rcases hij with y | ⟨y, -⟩
        · exact w (na_lt.mpr (by have := na_lt.mp y; have := na_lt.mp z; omega))
        · rw [← y] at w; exact w z
    · cases hi
  have dd : ∀ e ∈ p.drop k, d < M 74 e := by
    intro e he
    obtain ⟨i, hi⟩ := List.getElem?_of_mem he
    rw [List.getElem?_drop] at hi
    have hb : k + i < N := by
      obtain ⟨b, -⟩ := List.getElem?_eq_some_iff.mp hi
      omega
    rw [← (hr (k + i) e hi).2.2.2.1]
    exact s1 (k + i) (by omega) hb
  refine ⟨p.take k ++ N :: p.drop k, ?_, ?_, ?_⟩
  · rw [List.range_succ]
    refine List.perm_middle.trans ?_
    rw [List.take_append_drop]
    exact (List.Perm.cons N hp).trans (List.perm_append_singleton N (List.range N)).symm
  · refine List.pairwise_append.mpr ⟨?_, List.pairwise_cons.mpr ⟨fun b hb => ?_, ?_⟩, fun a ha b hb => ?_⟩
    · refine List.Pairwise.imp_of_mem (fun {a b} ha hb q => ?_) q1
      unfold ev_lt at *
      rw [hM a (mt a ha), hM b (mt b hb)]
      exact q
    · unfold ev_lt
      rw [hMN, hM b (md b hb)]
      exact Or.inl (dd b hb)
    · refine List.Pairwise.imp_of_mem (fun {a b} ha hb q => ?_) q2
      unfold ev_lt at *
      rw [hM a (md a ha), hM b (md b hb)]
      exact q
    · rcases List.mem_cons.mp hb with rfl | hb
      · unfold ev_lt
        rw [hMN, hM a (mt a ha)]
        have z := dt a ha
        by_cases c : M 74 a < d
        · exact Or.inl c
        · refine Or.inr ⟨?_, mt a ha⟩
          rw [na_eq]
          have z1 : ¬ d.toInt < (M 74 a).toInt := fun q => z (na_lt.mpr q)
          have z2 : ¬ (M 74 a).toInt < d.toInt := fun q => c (na_lt.mpr q)
          omega
      · unfold ev_lt
        rw [hM a (mt a ha), hM b (md b hb)]
        exact q3 a ha b hb
  · intro i e he
    have htl : (p.take k).length = k := by rw [List.length_take]; omega
    rw [List.getElem?_append, htl] at he
    split at he
    · rename_i hik
      rw [List.getElem?_take, if_pos hik] at he
      have heN := hm e (List.mem_of_getElem? he)
      obtain ⟨r1, r2, r3, r4, r5⟩ := hr i e he
      rw [c7, c8, c9, c10, c11, m1, m2, m3, m4, m5, ins_lt _ _ hik, ins_lt _ _ hik, ins_lt _ _ hik, ins_lt _ _ hik, ins_lt _ _ hik, ax_up_n _ _ (by omega), ax_up_n _ _ (by omega), ax_up_n _ _ (by omega), ax_up_n _ _ (by omega), ax_up_n _ _ (by omega)]
      exact ⟨r1, r2, r3, r4, r5⟩
    · rename_i hik
      by_cases c : i = k
      · subst c
        rw [Nat.sub_self, List.getElem?_cons_zero] at he
        cases he
        rw [c7, c8, c9, c10, c11, m1, m2, m3, m4, m5, ins_k, ins_k, ins_k, ins_k, ins_k, ax_up_s, ax_up_s, ax_up_s, ax_up_s, ax_up_s]
        exact ⟨rfl, rfl, rfl, rfl, hv⟩
      · have h1 : i - k = (i - k - 1) + 1 := by omega
        rw [h1, List.getElem?_cons_succ, List.getElem?_drop, show k + (i - k - 1) = i - 1 by omega] at he
        have heN := hm e (List.mem_of_getElem? he)
        have hiN : i - 1 < N := by
          obtain ⟨b, -⟩ := List.getElem?_eq_some_iff.mp he
          omega
        obtain ⟨r1, r2, r3, r4, r5⟩ := hr (i - 1) e he
        have g1 : k < i := by omega
        have g2 : i ≤ N := by omega
        rw [c7, c8, c9, c10, c11, m1, m2, m3, m4, m5, ins_gt _ _ g1 g2, ins_gt _ _ g1 g2, ins_gt _ _ g1 g2, ins_gt _ _ g1 g2, ins_gt _ _ g1 g2, ax_up_n _ _ (by omega), ax_up_n _ _ (by omega), ax_up_n _ _ (by omega), ax_up_n _ _ (by omega), ax_up_n _ _ (by omega)]
        exact ⟨r1, r2, r3, r4, r5⟩
/-- what an insertion leaves at a place -/
theorem ins_or {k n i : Nat} (hk : k ≤ n) (h : i ≤ n) : i = k ∨ ∃ i0, i0 < n ∧ ∀ (f : Nat → Int32) (v : Int32), ins_ f k n v i = f i0 := by
  by_cases c : i = k
  · exact Or.inl c
  · by_cases c2 : i < k
    · exact Or.inr ⟨i, by omega, fun f v => ins_lt f v c2⟩
    · exact Or.inr ⟨i - 1, by omega, fun f v => ins_gt f v (by omega) h⟩
