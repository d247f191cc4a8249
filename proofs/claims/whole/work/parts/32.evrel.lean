/-! Events in two orders: as they came (the model), by days (the class). -/
abbrev ev_lt (ed : Nat → Int32) (a b : Nat) : Prop := ed a < ed b ∨ (ed a = ed b ∧ a < b)
def evr (C M : ax_Dn) (p : List Nat) : Prop := ∀ i e, p[i]? = some e → C 7 i = M 71 e ∧ C 8 i = M 72 e ∧ C 9 i = M 73 e ∧ C 10 i = M 74 e ∧ (M 71 e ≠ 115 → C 11 i = M 75 e)
def EV (n : Nat) (C M : ax_Dn) : Prop := ∃ p : List Nat, p.Perm (List.range n) ∧ p.Pairwise (ev_lt (M 74)) ∧ evr C M p
def sS (f : Nat → Int32) : List Nat → Int32
  | [] => 0
  | e :: l => f e + sS f l
theorem sS_c (f : Nat → Int32) (e : Nat) (l : List Nat) : sS f (e :: l) = f e + sS f l := rfl
theorem sS_perm {f : Nat → Int32} {p q : List Nat} (h : p.Perm q) : sS f p = sS f q := by
  induction h with
  | nil => rfl
  | cons x _ ih => simp only [sS, ih]
  | swap x y l => simp only [sS]; rw [← Int32.add_assoc, ← Int32.add_assoc, Int32.add_comm (f y)]
  | trans _ _ h1 h2 => exact h1.trans h2
theorem sS_congr {f f' : Nat → Int32} : ∀ {p : List Nat}, (∀ e ∈ p, f e = f' e) → sS f p = sS f' p := by
  intro p
  induction p with
  | nil => intro _; rfl
  | cons a l ih =>
    intro h
    rw [sS_c, sS_c, h a List.mem_cons_self, ih (fun e he => h e (List.mem_cons_of_mem _ he))]
def oS (f : Nat → Int32) : List Nat → Int32
  | [] => 0
  | e :: l => f e ||| oS f l
theorem oS_c (f : Nat → Int32) (e : Nat) (l : List Nat) : oS f (e :: l) = f e ||| oS f l := rfl
theorem oS_perm {f : Nat → Int32} {p q : List Nat} (h : p.Perm q) : oS f p = oS f q := by
  induction h with
  | nil => rfl
  | cons x _ ih => simp only [oS, ih]
  | swap x y l => simp only [oS]; rw [← Int32.or_assoc, ← Int32.or_assoc, Int32.or_comm (f y)]
  | trans _ _ h1 h2 => exact h1.trans h2
theorem evr_drop {p : List Nat} {k : Nat} (hk : k < p.length) : ∃ e, p[k]? = some e ∧ p.drop k = e :: p.drop (k + 1) := ⟨p[k], List.getElem?_eq_getElem hk, List.drop_eq_getElem_cons hk⟩
theorem fold_id {f : Int32 → Nat → Int32} : ∀ {l : List Nat} {acc : Int32}, (∀ q ∈ l, ∀ a, f a q = a) → l.foldl f acc = acc := by
  intro l
  induction l with
  | nil => intro acc _; rfl
  | cons a l ih =>
    intro acc h
    rw [List.foldl_cons, h a List.mem_cons_self]
    exact ih (fun q hq => h q (List.mem_cons_of_mem _ hq))
theorem ev_after {ed : Nat → Int32} {p : List Nat} (hs : p.Pairwise (ev_lt ed)) {k e : Nat} (hd : p.drop k = e :: p.drop (k + 1)) {d : Int32} (hc : d < ed e) : ∀ q ∈ p.drop (k + 1), d < ed q := by
  intro q hq
  have h1 : (p.drop k).Pairwise (ev_lt ed) := List.Pairwise.sublist (List.drop_sublist k p) hs
  rw [hd] at h1
  rcases (List.pairwise_cons.mp h1).1 q hq with h | ⟨h, -⟩
  · exact na_lt.mpr (by have := na_lt.mp hc; have := na_lt.mp h; omega)
  · rw [← h]; exact hc
def ef_ (M : ax_Dn) (m s d : Int32) (acc : Int32) (e : Nat) : Int32 := if d < M 74 e then acc else if M 72 e = m then if M 73 e = s then if M 71 e = 115 then 0 else if M 71 e = 98 then acc + M 75 e else acc else acc else acc
theorem ln_fold {C M : ax_Dn} {p : List Nat} (hr : evr C M p) (hs : p.Pairwise (ev_lt (M 74))) (m s d : Int32) : ∀ (j k : Nat) (acc : Int32), k + j = p.length → ln_C (C 7) (C 8) (C 9) (C 10) (C 11) m s d j k acc = (p.drop k).foldl (ef_ M m s d) acc := by
  intro j
  induction j with
  | zero => intro k acc hk; rw [List.drop_eq_nil_of_le (by omega)]; rfl
  | succ j ih =>
    intro k acc hk
    obtain ⟨e, he, hd⟩ := evr_drop (p := p) (show k < p.length by omega)
    obtain ⟨r1, r2, r3, r4, r5⟩ := hr k e he
    unfold ln_C
    rw [hd, List.foldl_cons, r1, r2, r3, r4]
    by_cases hc : d < M 74 e
    · rw [if_pos hc, show ef_ M m s d acc e = acc by unfold ef_; rw [if_pos hc]]
      symm
      apply fold_id
      intro q hq a
      unfold ef_
      rw [if_pos (ev_after hs hd hc q hq)]
    · rw [if_neg hc, ih (k + 1) _ (by omega)]
      congr 1
      unfold ef_
      rw [if_neg hc]
      by_cases h98 : M 71 e = 98
      · rw [r5 (by rw [h98]; decide)]
      · simp only [h98, if_false]
abbrev bE (M : ax_Dn) (m s d : Int32) (e : Nat) : Prop := M 71 e = 98 ∧ M 72 e = m ∧ M 73 e = s ∧ ¬ d < M 74 e
abbrev sE (M : ax_Dn) (m s d : Int32) (e : Nat) : Prop := M 71 e = 115 ∧ M 72 e = m ∧ M 73 e = s ∧ ¬ d < M 74 e
def tm_ (M : ax_Dn) (m s d : Int32) (p : List Nat) (e : Nat) : Int32 := if bE M m s d e ∧ ∀ q ∈ p, sE M m s d q → ev_lt (M 74) q e then M 75 e else 0
theorem ev_asym {ed : Nat → Int32} {a b : Nat} (h : ev_lt ed a b) : ¬ ev_lt ed b a := by
  intro h2
  rcases h with h | ⟨h, h'⟩ <;> rcases h2 with q | ⟨q, q'⟩
  · have := na_lt.mp h; have := na_lt.mp q; omega
  · rw [q] at h; have := na_lt.mp h; omega
  · rw [h] at q; have := na_lt.mp q; omega
  · omega
theorem fold_sum {M : ax_Dn} {m s d : Int32} : ∀ {p : List Nat} {acc : Int32}, p.Pairwise (ev_lt (M 74)) → p.foldl (ef_ M m s d) acc = (if ∃ q ∈ p, sE M m s d q then 0 else acc) + sS (tm_ M m s d p) p := by
  intro p
  induction p with
  | nil => intro acc _; simp [sS]
  | cons e l ih =>
    intro acc hp
    obtain ⟨h1, h2⟩ := List.pairwise_cons.mp hp
    rw [List.foldl_cons, ih h2]
    have hS : sS (tm_ M m s d (e :: l)) l = sS (tm_ M m s d l) l := by
      apply sS_congr
      intro q hq
      unfold tm_
      by_cases hb : bE M m s d q ∧ ∀ x ∈ l, sE M m s d x → ev_lt (M 74) x q
      · rw [if_pos hb, if_pos ⟨hb.1, fun x hx hs => by
          rcases List.mem_cons.mp hx with rfl | hx
          · exact h1 q hq
          · exact hb.2 x hx hs⟩]
      · rw [if_neg hb, if_neg (fun z => hb ⟨z.1, fun x hx hs => z.2 x (List.mem_cons_of_mem _ hx) hs⟩)]
    rw [sS_c, hS]
    by_cases hsE : sE M m s d e
    · have e0 : ef_ M m s d acc e = 0 := by
        unfold ef_
        rw [if_neg hsE.2.2.2, if_pos hsE.2.1, if_pos hsE.2.2.1, if_pos hsE.1]
      have t0 : tm_ M m s d (e :: l) e = 0 := by
        unfold tm_
        rw [if_neg (fun z => by have := z.1.1; rw [hsE.1] at this; exact absurd this (by decide))]
      rw [e0, t0, if_pos (⟨e, List.mem_cons_self, hsE⟩ : ∃ q ∈ e :: l, sE M m s d q), ite_self, Int32.zero_add, Int32.zero_add]
    · have hex : (∃ q ∈ e :: l, sE M m s d q) ↔ ∃ q ∈ l, sE M m s d q := by
        constructor
        · rintro ⟨q, hq, hs⟩
          rcases List.mem_cons.mp hq with rfl | hq
          · exact absurd hs hsE
          · exact ⟨q, hq, hs⟩
        · rintro ⟨q, hq, hs⟩
          exact ⟨q, List.mem_cons_of_mem _ hq, hs⟩
      by_cases hl : ∃ q ∈ l, sE M m s d q
      · have t0 : tm_ M m s d (e :: l) e = 0 := by
          unfold tm_
          rw [if_neg (fun z => by
            obtain ⟨q, hq, hs⟩ := hl
            exact ev_asym (h1 q hq) (z.2 q (List.mem_cons_of_mem _ hq) hs))]
        rw [if_pos hl, if_pos (hex.mpr hl), t0, Int32.zero_add, Int32.zero_add]
      · rw [if_neg hl, if_neg (fun z => hl (hex.mp z))]
        by_cases hb : bE M m s d e
        · have e1 : ef_ M m s d acc e = acc + M 75 e := by
            unfold ef_
            rw [if_neg hb.2.2.2, if_pos hb.2.1, if_pos hb.2.2.1, if_neg (by rw [hb.1]; decide), if_pos hb.1]
          have t1 : tm_ M m s d (e :: l) e = M 75 e := by
            unfold tm_
            rw [if_pos ⟨hb, fun q hq hs => absurd (hex.mp ⟨q, hq, hs⟩) hl⟩]
          rw [e1, t1, Int32.add_assoc]
        · have e1 : ef_ M m s d acc e = acc := by
            unfold ef_
            by_cases c1 : d < M 74 e
            · rw [if_pos c1]
            · rw [if_neg c1]
              by_cases c2 : M 72 e = m
              · rw [if_pos c2]
                by_cases c3 : M 73 e = s
                · rw [if_pos c3, if_neg (fun z => hsE ⟨z, c2, c3, c1⟩), if_neg (fun z => hb ⟨z, c2, c3, c1⟩)]
                · rw [if_neg c3]
              · rw [if_neg c2]
          have t1 : tm_ M m s d (e :: l) e = 0 := by
            unfold tm_
            rw [if_neg (fun z => hb z.1)]
          rw [e1, t1, Int32.zero_add]
/-- the latest set, by number -/
def LT (M : ax_Dn) (m s d : Int32) (k : Nat) (lat : Int32) : Prop := (lat < 0 ∧ ∀ q, q < k → ¬ sE M m s d q) ∨ ∃ l, lat = nI l ∧ l < k ∧ sE M m s d l ∧ ∀ q, q < k → sE M m s d q → q = l ∨ ev_lt (M 74) q l
theorem ev_tot {ed : Nat → Int32} (a b : Nat) : a = b ∨ ev_lt ed a b ∨ ev_lt ed b a := by
  rcases Int.lt_trichotomy (ed a).toInt (ed b).toInt with h | h | h
  · exact .inr (.inl (.inl (na_lt.mpr h)))
  · have h := na_eq.mpr h
    rcases Nat.lt_trichotomy a b with q | q | q
    · exact .inr (.inl (.inr ⟨h, q⟩))
    · exact .inl q
    · exact .inr (.inr (.inr ⟨h.symm, q⟩))
  · exact .inr (.inr (.inl (na_lt.mpr h)))
theorem ev_trans {ed : Nat → Int32} {a b c : Nat} (h1 : ev_lt ed a b) (h2 : ev_lt ed b c) : ev_lt ed a c := by
  rcases h1 with h | ⟨h, h'⟩ <;> rcases h2 with q | ⟨q, q'⟩
  · exact .inl (na_lt.mpr (by have := na_lt.mp h; have := na_lt.mp q; omega))
  · rw [q] at h; exact .inl h
  · rw [← h] at q; exact .inl q
  · exact .inr ⟨h.trans q, by omega⟩
theorem lt_step {M : ax_Dn} {m s d : Int32} {k : Nat} (hk : k < 20) {acc : Int32} (h : LT M m s d k acc) : LT M m s d (k + 1) (if M 71 k = 115 then if M 72 k = m then if M 73 k = s then if d < M 74 k then acc else if acc < 0 then nI k else if M 74 acc.toNatClampNeg < M 74 k then nI k else if M 74 acc.toNatClampNeg = M 74 k then (if nI k ≤ acc then acc else nI k) else acc else acc else acc else acc) := by
  by_cases hs : sE M m s d k
  · rw [if_pos hs.1, if_pos hs.2.1, if_pos hs.2.2.1, if_neg hs.2.2.2]
    rcases h with ⟨h1, h2⟩ | ⟨l, rfl, hl, hsl, h2⟩
    · rw [if_pos h1]
      exact .inr ⟨k, rfl, by omega, hs, fun q hq hsq => by
        by_cases e : q = k
        · exact .inl e
        · exact absurd hsq (h2 q (by omega))⟩
    · rw [if_neg (nI_pos (by omega)), nI_clamp (by omega)]
      have hnew : ev_lt (M 74) l k → LT M m s d (k + 1) (nI k) := fun hlk => .inr ⟨k, rfl, by omega, hs, fun q hq hsq => by
        by_cases e : q = k
        · exact .inl e
        · rcases h2 q (by omega) hsq with rfl | h3
          · exact .inr hlk
          · exact .inr (ev_trans h3 hlk)⟩
      have hold : ev_lt (M 74) k l → LT M m s d (k + 1) (nI l) := fun hlk => .inr ⟨l, rfl, by omega, hsl, fun q hq hsq => by
        by_cases e : q = k
        · rw [e]; exact .inr hlk
        · exact h2 q (by omega) hsq⟩
      by_cases c1 : M 74 l < M 74 k
      · rw [if_pos c1]
        exact hnew (.inl c1)
      · rw [if_neg c1]
        by_cases c2 : M 74 l = M 74 k
        · rw [if_pos c2, if_neg (nI_ge (by omega) (by omega))]
          exact hnew (.inr ⟨c2, hl⟩)
        · rw [if_neg c2]
          refine hold (.inl (na_lt.mpr ?_))
          have : ¬ (M 74 l).toInt < (M 74 k).toInt := fun q => c1 (na_lt.mpr q)
          have : ¬ (M 74 l).toInt = (M 74 k).toInt := fun q => c2 (na_eq.mpr q)
          omega
  · have e : (if M 71 k = 115 then if M 72 k = m then if M 73 k = s then if d < M 74 k then acc else if acc < 0 then nI k else if M 74 acc.toNatClampNeg < M 74 k then nI k else if M 74 acc.toNatClampNeg = M 74 k then (if nI k ≤ acc then acc else nI k) else acc else acc else acc else acc) = acc := by
      by_cases c1 : M 71 k = 115
      · rw [if_pos c1]
        by_cases c2 : M 72 k = m
        · rw [if_pos c2]
          by_cases c3 : M 73 k = s
          · rw [if_pos c3, if_pos (Classical.not_not.mp (fun z => hs ⟨c1, c2, c3, z⟩))]
          · rw [if_neg c3]
        · rw [if_neg c2]
      · rw [if_neg c1]
    rw [e]
    rcases h with ⟨h1, h2⟩ | ⟨l, h1, hl, hsl, h2⟩
    · exact .inl ⟨h1, fun q hq => by
        by_cases e : q = k
        · rw [e]; exact hs
        · exact h2 q (by omega)⟩
    · exact .inr ⟨l, h1, by omega, hsl, fun q hq hsq => by
        by_cases e : q = k
        · rw [e] at hsq; exact absurd hsq hs
        · exact h2 q (by omega) hsq⟩
theorem lt_all {M : ax_Dn} {m s d : Int32} : ∀ (j k : Nat) (acc : Int32), k + j ≤ 20 → LT M m s d k acc → LT M m s d (k + j) (lt_M (M 71) (M 72) (M 73) (M 74) m s d j k acc) := by
  intro j
  induction j with
  | zero => intro k acc _ h; exact h
  | succ j ih =>
    intro k acc hk h
    unfold lt_M
    have := ih (k + 1) _ (by omega) (lt_step (by omega) h)
    rw [show k + 1 + j = k + (j + 1) by omega] at this
    exact this
def fM_ (M : ax_Dn) (m s d lat : Int32) (k : Nat) : Int32 := if M 71 k = 98 then if M 72 k = m then if M 73 k = s then if d < M 74 k then 0 else if lat < 0 then M 75 k else if M 74 lat.toNatClampNeg < M 74 k then M 75 k else if M 74 lat.toNatClampNeg = M 74 k then (if nI k ≤ lat then 0 else M 75 k) else 0 else 0 else 0 else 0
theorem sm_sum {M : ax_Dn} {m s d lat : Int32} : ∀ (j k : Nat) (acc : Int32), sm_M (M 71) (M 72) (M 73) (M 74) (M 75) m s d lat j k acc = acc + sS (fM_ M m s d lat) (List.range' k j) := by
  intro j
  induction j with
  | zero => intro k acc; unfold sm_M; simp [sS]
  | succ j ih =>
    intro k acc
    unfold sm_M
    rw [ih, List.range'_succ]
    rw [sS_c, ← Int32.add_assoc]
    congr 1
    unfold fM_
    by_cases c1 : M 71 k = 98
    · rw [if_pos c1, if_pos c1]
      by_cases c2 : M 72 k = m
      · rw [if_pos c2, if_pos c2]
        by_cases c3 : M 73 k = s
        · rw [if_pos c3, if_pos c3]
          by_cases c4 : d < M 74 k
          · rw [if_pos c4, if_pos c4, Int32.add_zero]
          · rw [if_neg c4, if_neg c4]
            by_cases c5 : lat < 0
            · rw [if_pos c5, if_pos c5]
            · rw [if_neg c5, if_neg c5]
              by_cases c6 : M 74 lat.toNatClampNeg < M 74 k
              · rw [if_pos c6, if_pos c6]
              · rw [if_neg c6, if_neg c6]
                by_cases c7 : M 74 lat.toNatClampNeg = M 74 k
                · rw [if_pos c7, if_pos c7]
                  by_cases c8 : nI k ≤ lat
                  · rw [if_pos c8, if_pos c8, Int32.add_zero]
                  · rw [if_neg c8, if_neg c8]
                · rw [if_neg c7, if_neg c7, Int32.add_zero]
        · rw [if_neg c3, if_neg c3, Int32.add_zero]
      · rw [if_neg c2, if_neg c2, Int32.add_zero]
    · rw [if_neg c1, if_neg c1, Int32.add_zero]
theorem fM_tm {M : ax_Dn} {m s d lat : Int32} {n : Nat} (hn : n ≤ 20) (h : LT M m s d n lat) {e : Nat} (he : e < n) : fM_ M m s d lat e = tm_ M m s d (List.range n) e := by
  have key : bE M m s d e → (lat < 0 ∨ ∃ l, lat = nI l ∧ l < n ∧ ev_lt (M 74) l e) → tm_ M m s d (List.range n) e = M 75 e := by
    intro hb hl
    unfold tm_
    rw [if_pos]
    refine ⟨hb, fun q hq hsq => ?_⟩
    rw [List.mem_range] at hq
    rcases h with ⟨h1, h2⟩ | ⟨l, rfl, hl2, hsl, h2⟩
    · exact absurd hsq (h2 q hq)
    · rcases hl with hl | ⟨l', hl', hln, hlt⟩
      · exact absurd hl (nI_pos (by omega))
      · have : l = l' := (nI_eq (by omega) (by omega)).mp hl'
        subst this
        rcases h2 q hq hsq with rfl | h3
        · exact hlt
        · exact ev_trans h3 hlt
  have key0 : (¬ bE M m s d e ∨ ∃ l, lat = nI l ∧ l < n ∧ sE M m s d l ∧ ¬ ev_lt (M 74) l e) → tm_ M m s d (List.range n) e = 0 := by
    intro hb
    unfold tm_
    rw [if_neg]
    rintro ⟨z1, z2⟩
    rcases hb with hb | ⟨l, -, hl, hsl, hlt⟩
    · exact hb z1
    · exact hlt (z2 l (List.mem_range.mpr hl) hsl)
  unfold fM_
  by_cases c1 : M 71 e = 98
  · rw [if_pos c1]
    by_cases c2 : M 72 e = m
    · rw [if_pos c2]
      by_cases c3 : M 73 e = s
      · rw [if_pos c3]
        by_cases c4 : d < M 74 e
        · rw [if_pos c4, key0 (.inl (fun z => z.2.2.2 c4))]
        · rw [if_neg c4]
          have hb : bE M m s d e := ⟨c1, c2, c3, c4⟩
          by_cases c5 : lat < 0
          · rw [if_pos c5, key hb (.inl c5)]
          · rw [if_neg c5]
            rcases h with ⟨h1, h2⟩ | ⟨l, rfl, hl2, hsl, h2⟩
            · exact absurd h1 c5
            · rw [nI_clamp (by omega)]
              by_cases c6 : M 74 l < M 74 e
              · rw [if_pos c6, key hb (.inr ⟨l, rfl, hl2, .inl c6⟩)]
              · rw [if_neg c6]
                by_cases c7 : M 74 l = M 74 e
                · rw [if_pos c7]
                  by_cases c8 : nI e ≤ nI l
                  · rw [if_pos c8]
                    rw [nI_leI (by omega) (by omega)] at c8
                    rw [key0 (.inr ⟨l, rfl, hl2, hsl, fun z => by
                      rcases z with z | z
                      · exact c6 z
                      · omega⟩)]
                  · rw [if_neg c8]
                    rw [nI_leI (by omega) (by omega)] at c8
                    rw [key hb (.inr ⟨l, rfl, hl2, .inr ⟨c7, by omega⟩⟩)]
                · rw [if_neg c7, key0 (.inr ⟨l, rfl, hl2, hsl, fun z => by
                    rcases z with z | z
                    · exact c6 z
                    · exact c7 z.1⟩)]
      · rw [if_neg c3, key0 (.inl (fun z => c3 z.2.2.1))]
    · rw [if_neg c2, key0 (.inl (fun z => c2 z.2.1))]
  · rw [if_neg c1, key0 (.inl (fun z => c1 z.1))]
/-- the leans agree -/
theorem lean_eq {C M : ax_Dn} {n : Nat} (hn : n ≤ 20) (h : EV n C M) (hm : C 5 = M 69) : lC_ (C 5) (C 7) (C 8) (C 9) (C 10) (C 11) n = lM_ (M 69) (M 71) (M 72) (M 73) (M 74) (M 75) n := by
  obtain ⟨p, hp, hs, hr⟩ := h
  have hlen : p.length = n := by rw [hp.length_eq, List.length_range]
  funext m s d
  unfold lC_ lM_
  rw [hm, sm_sum, ← List.range_eq_range', ← hlen, ln_fold hr hs m s d p.length 0 0 (by omega), List.drop_zero, fold_sum hs, ite_self, Int32.zero_add, hlen]
  have hL : LT M m s d n (lt_M (M 71) (M 72) (M 73) (M 74) m s d n 0 (-1)) := by
    have := lt_all (M := M) (m := m) (s := s) (d := d) n 0 (-1) (by omega) (.inl ⟨by decide, fun q hq => absurd hq (Nat.not_lt_zero _)⟩)
    rw [Nat.zero_add] at this
    exact this
  rw [sS_congr (f := fM_ M m s d (lt_M (M 71) (M 72) (M 73) (M 74) m s d n 0 (-1))) (fun e he => fM_tm hn hL (List.mem_range.mp he))]
  rw [sS_perm hp]
  have : tm_ M m s d p = tm_ M m s d (List.range n) := by
    funext e
    unfold tm_
    simp only [hp.mem_iff]
  rw [this]
/-- the nicks agree -/
def nf_ (M : ax_Dn) (m s d : Int32) (e : Nat) : Int32 := if d < M 74 e then 0 else if M 71 e = 110 then if M 72 e = m then if M 73 e = s then 1 <<< (M 75 e &&& 31) else 0 else 0 else 0
theorem nk_foldC {C M : ax_Dn} {p : List Nat} (hr : evr C M p) (hs : p.Pairwise (ev_lt (M 74))) (m s d : Int32) : ∀ (j k : Nat) (acc : Int32), k + j = p.length → nk_C (C 7) (C 8) (C 9) (C 10) (C 11) m s d j k acc = acc ||| oS (nf_ M m s d) (p.drop k) := by
  intro j
  induction j with
  | zero => intro k acc hk; rw [List.drop_eq_nil_of_le (by omega)]; unfold nk_C oS; rw [Int32.or_zero]
  | succ j ih =>
    intro k acc hk
    obtain ⟨e, he, hd⟩ := evr_drop (p := p) (show k < p.length by omega)
    obtain ⟨r1, r2, r3, r4, r5⟩ := hr k e he
    unfold nk_C
    rw [hd, r1, r2, r3, r4]
    by_cases hc : d < M 74 e
    · rw [if_pos hc]
      have hz : ∀ l : List Nat, (∀ q ∈ l, d < M 74 q) → oS (nf_ M m s d) l = 0 := by
        intro l
        induction l with
        | nil => intro _; rfl
        | cons a l ih2 =>
          intro h
          rw [oS_c, ih2 (fun q hq => h q (List.mem_cons_of_mem _ hq))]
          unfold nf_
          rw [if_pos (h a List.mem_cons_self), Int32.or_zero]
      rw [hz _ (fun q hq => by
        rcases List.mem_cons.mp hq with rfl | hq
        · exact hc
        · exact ev_after hs hd hc q hq), Int32.or_zero]
    · rw [if_neg hc, ih (k + 1) _ (by omega)]
      rw [oS_c, ← Int32.or_assoc]
      congr 1
      unfold nf_
      rw [if_neg hc]
      by_cases h1 : M 71 e = 110
      · rw [if_pos h1, if_pos h1, r5 (by rw [h1]; decide)]
        by_cases h2 : M 72 e = m
        · rw [if_pos h2, if_pos h2]
          by_cases h3 : M 73 e = s
          · rw [if_pos h3, if_pos h3]
          · rw [if_neg h3, if_neg h3, Int32.or_zero]
        · rw [if_neg h2, if_neg h2, Int32.or_zero]
      · rw [if_neg h1, if_neg h1, Int32.or_zero]
theorem nk_foldM {M : ax_Dn} {m s d : Int32} : ∀ (j k : Nat) (acc : Int32), nk_M (M 71) (M 72) (M 73) (M 74) (M 75) m s d j k acc = acc ||| oS (nf_ M m s d) (List.range' k j) := by
  intro j
  induction j with
  | zero => intro k acc; unfold nk_M; simp [oS]
  | succ j ih =>
    intro k acc
    unfold nk_M
    rw [ih, List.range'_succ]
    rw [oS_c, ← Int32.or_assoc]
    congr 1
    unfold nf_
    by_cases hc : d < M 74 k
    · simp only [hc, if_true, ite_self, Int32.or_zero]
    · simp only [hc, if_false]
      by_cases h1 : M 71 k = 110
      · rw [if_pos h1, if_pos h1]
        by_cases h2 : M 72 k = m
        · rw [if_pos h2, if_pos h2]
          by_cases h3 : M 73 k = s
          · rw [if_pos h3, if_pos h3]
          · rw [if_neg h3, if_neg h3, Int32.or_zero]
        · rw [if_neg h2, if_neg h2, Int32.or_zero]
      · rw [if_neg h1, if_neg h1, Int32.or_zero]
theorem nicks_eq {C M : ax_Dn} {n : Nat} (h : EV n C M) : nC_ (C 7) (C 8) (C 9) (C 10) (C 11) n = nM_ (M 71) (M 72) (M 73) (M 74) (M 75) n := by
  obtain ⟨p, hp, hs, hr⟩ := h
  have hlen : p.length = n := by rw [hp.length_eq, List.length_range]
  funext m s d
  unfold nC_ nM_
  rw [nk_foldM, ← List.range_eq_range', ← hlen, nk_foldC hr hs m s d p.length 0 0 (by omega), List.drop_zero, oS_perm hp, hlen]
