/-! The machine of our own is sound: what it says of a row, the JVM does. -/
abbrev ax_G : Type := Launch × Nat × va_G × ClassId × ClassId × (Nat → Nat × Nat × (Nat → Int32))
def ax_ad (g : ax_G) (k : Nat) : Nat := if k < 1000 then g.2.1 + k else (g.2.2.2.2.2 k).1
def ax_cv (g : ax_G) (v : Value) : Value := match v with
  | .ref k => .ref (ax_ad g k)
  | w => w
def ax_A (g : ax_G) : Nat → Prop := fun q => g.2.1 ≤ q
def ax_xt (g : ax_G) (k : Nat) : Nat × (Nat → Int32) := ((g.2.2.2.2.2 k).2.1, (g.2.2.2.2.2 k).2.2)
def ax_ce (g : ax_G) (s : ax_St) (k : Nat) : va_E :=
  if (ax_kd k).1 = 10 then .inl (g.2.2.2.1, (ax_kd k).2, .inl (s.2.1 k))
  else if (ax_kd k).1 = 11 then .inl (g.2.2.2.2.1, (ax_kd k).2, .inr (.inl (s.2.2.1 k)))
  else .inr ((ax_kd k).1, (List.range (ax_kd k).2).map fun j => ax_cv g (ax_gv s k j (ax_fk (ax_kd k).1 j)))
def ax_ws (g : ax_G) (s : ax_St) : va_W := (List.range s.1).map fun k => (g.2.1 + k, ax_ce g s k)
def ax_Rep (g : ax_G) (s : ax_St) (H : Heap) : Prop := va_P g.2.2.1 ax_cls (ax_ws g s) H ∧ va_D (ax_A g) (ax_ws g s) ∧ s.1 ≤ 92
theorem ax_cat (g : ax_G) (v : Value) : (ax_cv g v).category = v.category := by cases v <;> rfl
theorem ax_ad_lt (g : ax_G) {k : Nat} (h : k < 1000) : ax_ad g k = g.2.1 + k := by simp [ax_ad, h]
theorem ax_ws_at {g : ax_G} {s : ax_St} {k : Nat} (h : k < s.1) : (ax_ws g s)[k]? = some (g.2.1 + k, ax_ce g s k) := by
  simp [ax_ws, List.getElem?_map, List.getElem?_range h]
theorem ax_ws_len (g : ax_G) (s : ax_St) : (ax_ws g s).length = s.1 := by simp [ax_ws]
theorem ax_ws_set {g : ax_G} {s s' : ax_St} {k : Nat} {e : va_E} (h : k < s.1) (h1 : s'.1 = s.1) (he : ax_ce g s' k = e) (ho : ∀ j, j ≠ k → ax_ce g s' j = ax_ce g s j) : (ax_ws g s).set k (g.2.1 + k, e) = ax_ws g s' := by
  apply List.ext_getElem?
  intro j
  rw [List.getElem?_set, ax_ws_len]
  by_cases hj : k = j
  · subst hj
    rw [if_pos rfl, if_pos h, ax_ws_at (by rw [h1]; exact h), he]
  · rw [if_neg hj]
    by_cases hl : j < s.1
    · rw [ax_ws_at hl, ax_ws_at (by rw [h1]; exact hl), ho j (Ne.symm hj)]
    · rw [List.getElem?_eq_none (by rw [ax_ws_len]; omega), List.getElem?_eq_none (by rw [ax_ws_len]; omega)]
theorem ax_up_s {α : Type} (f : Nat → α) (k : Nat) (v : α) : ax_up f k v k = v := by simp [ax_up]
theorem ax_up_n {α : Type} (f : Nat → α) {k j : Nat} (v : α) (h : j ≠ k) : ax_up f k v j = f j := by simp [ax_up, h]
def ax_asc (g : ax_G) : Nat → ax_Lo → List (Nat × Value)
  | _, [] => []
  | i, some v :: l => (i, ax_cv g v) :: ax_asc g (i + 1) l
  | i, none :: l => ax_asc g (i + 1) l
theorem ax_asc_mem {g : ax_G} {L : ax_Lo} : ∀ {i : Nat} {q : Nat × Value}, q ∈ ax_asc g i L ↔ ∃ (j : Nat) (v : Value), L[j]? = some (some v) ∧ q = (i + j, ax_cv g v) := by
  induction L with
  | nil => intro i q; simp [ax_asc]
  | cons a l ih =>
    intro i q
    cases a with
    | none =>
      simp only [ax_asc]
      rw [ih]
      constructor
      · rintro ⟨j, v, h1, h2⟩
        exact ⟨j + 1, v, by simpa using h1, by rw [h2, show i + 1 + j = i + (j + 1) by omega]⟩
      · rintro ⟨j, v, h1, h2⟩
        cases j with
        | zero => simp at h1
        | succ j => exact ⟨j, v, by simpa using h1, by rw [h2, show i + 1 + j = i + (j + 1) by omega]⟩
    | some w =>
      simp only [ax_asc, List.mem_cons]
      rw [ih]
      constructor
      · rintro (h | ⟨j, v, h1, h2⟩)
        · exact ⟨0, w, by simp, by simpa using h⟩
        · exact ⟨j + 1, v, by simpa using h1, by rw [h2, show i + 1 + j = i + (j + 1) by omega]⟩
      · rintro ⟨j, v, h1, h2⟩
        cases j with
        | zero =>
          simp at h1
          subst h1
          exact Or.inl (by simpa using h2)
        | succ j => exact Or.inr ⟨j, v, by simpa using h1, by rw [h2, show i + 1 + j = i + (j + 1) by omega]⟩
theorem ax_s1_at : ∀ {L : ax_Lo} {i : Nat} {v w : Value} {j : Nat}, (ax_s1 L i v)[j]? = some (some w) → (j = i ∧ w = v) ∨ (j ≠ i ∧ L[j]? = some (some w) ∧ ¬ (j + 1 = i ∧ w.category = 2)) := by
  intro L
  induction L with
  | nil => intro i v w j h; simp [ax_s1] at h
  | cons a l ih =>
    intro i v w j h
    match i with
    | 0 =>
      cases j with
      | zero => simp [ax_s1] at h; exact Or.inl ⟨rfl, h.symm⟩
      | succ j => simp [ax_s1] at h; exact Or.inr ⟨by omega, by simpa using h, by omega⟩
    | 1 =>
      cases j with
      | zero =>
        simp [ax_s1] at h
        refine Or.inr ⟨by omega, ?_, ?_⟩
        · rcases a with _ | (_ | _ | _ | _ | _ | _ | _) <;> simp_all [ax_cb]
        · rcases a with _ | (_ | _ | _ | _ | _ | _ | _) <;> simp_all [ax_cb] <;> (first | (subst h; simp [Value.category]) | skip)
      | succ j =>
        simp [ax_s1] at h
        rcases ih h with ⟨h1, h2⟩ | ⟨h1, h2, h3⟩
        · exact Or.inl ⟨by omega, h2⟩
        · exact Or.inr ⟨by omega, by simpa using h2, by omega⟩
    | n + 2 =>
      cases j with
      | zero => simp [ax_s1] at h; exact Or.inr ⟨by omega, by simpa using h, by omega⟩
      | succ j =>
        simp [ax_s1] at h
        rcases ih h with ⟨h1, h2⟩ | ⟨h1, h2, h3⟩
        · exact Or.inl ⟨by omega, h2⟩
        · exact Or.inr ⟨by omega, by simpa using h2, fun q => h3 ⟨by omega, q.2⟩⟩
theorem ax_s2_at : ∀ {L : ax_Lo} {i : Nat} {v w : Value} {j : Nat}, (ax_s2 L i v)[j]? = some (some w) → (j = i ∧ w = v) ∨ (j ≠ i ∧ j ≠ i + 1 ∧ L[j]? = some (some w) ∧ ¬ (j + 1 = i ∧ w.category = 2)) := by
  intro L
  induction L with
  | nil => intro i v w j h; simp [ax_s2] at h
  | cons a l ih =>
    intro i v w j h
    match i with
    | 0 =>
      cases l with
      | nil =>
        cases j with
        | zero => simp [ax_s2] at h
        | succ j => simp [ax_s2] at h
      | cons b l =>
        match j with
        | 0 => simp [ax_s2] at h; exact Or.inl ⟨rfl, h.symm⟩
        | 1 => simp [ax_s2] at h
        | j + 2 => simp [ax_s2] at h; exact Or.inr ⟨by omega, by omega, by simpa using h, by omega⟩
    | 1 =>
      cases j with
      | zero =>
        simp [ax_s2] at h
        refine Or.inr ⟨by omega, by omega, ?_, ?_⟩
        · rcases a with _ | (_ | _ | _ | _ | _ | _ | _) <;> simp_all [ax_cb]
        · rcases a with _ | (_ | _ | _ | _ | _ | _ | _) <;> simp_all [ax_cb] <;> (first | (subst h; simp [Value.category]) | skip)
      | succ j =>
        simp [ax_s2] at h
        rcases ih h with ⟨h1, h2⟩ | ⟨h1, h2, h3, h4⟩
        · exact Or.inl ⟨by omega, h2⟩
        · exact Or.inr ⟨by omega, by omega, by simpa using h3, by omega⟩
    | n + 2 =>
      cases j with
      | zero => simp [ax_s2] at h; exact Or.inr ⟨by omega, by omega, by simpa using h, by omega⟩
      | succ j =>
        simp [ax_s2] at h
        rcases ih h with ⟨h1, h2⟩ | ⟨h1, h2, h3, h4⟩
        · exact Or.inl ⟨by omega, h2⟩
        · exact Or.inr ⟨by omega, by omega, by simpa using h3, fun q => h4 ⟨by omega, q.2⟩⟩
theorem ax_has1 {g : ax_G} {ls : Array Slot} {nL i : Nat} {L : ax_Lo} {v : Value} (h : lv_has ls nL ((i, ax_cv g v) :: (ax_asc g 0 L).filter (fun q => !(q.1 == i) && !(q.1 + 1 == i && q.2.category == 2)))) : lv_has ls nL (ax_asc g 0 (ax_s1 L i v)) := by
  refine ⟨h.1, h.2.1, fun q hq => h.2.2 q ?_⟩
  obtain ⟨j, w, h1, rfl⟩ := ax_asc_mem.mp hq
  rcases ax_s1_at h1 with ⟨rfl, rfl⟩ | ⟨e1, e2, e3⟩
  · simp
  · refine List.mem_cons_of_mem _ (List.mem_filter.mpr ⟨ax_asc_mem.mpr ⟨j, w, e2, rfl⟩, ?_⟩)
    simp only [Nat.zero_add, ax_cat]
    simp
    exact ⟨e1, by omega⟩
theorem ax_has2 {g : ax_G} {ls : Array Slot} {nL i : Nat} {L : ax_Lo} {v : Value} (h : lv_has ls nL ((i, ax_cv g v) :: (ax_asc g 0 L).filter (fun q => !(q.1 == i) && (!(q.1 == i + 1) && !(q.1 + 1 == i && q.2.category == 2))))) : lv_has ls nL (ax_asc g 0 (ax_s2 L i v)) := by
  refine ⟨h.1, h.2.1, fun q hq => h.2.2 q ?_⟩
  obtain ⟨j, w, h1, rfl⟩ := ax_asc_mem.mp hq
  rcases ax_s2_at h1 with ⟨rfl, rfl⟩ | ⟨e1, e2, e3, e4⟩
  · simp
  · refine List.mem_cons_of_mem _ (List.mem_filter.mpr ⟨ax_asc_mem.mpr ⟨j, w, e3, rfl⟩, ?_⟩)
    simp only [Nat.zero_add, ax_cat]
    simp
    exact ⟨e1, e2, by omega⟩
theorem ax_has_at {g : ax_G} {ls : Array Slot} {nL i : Nat} {L : ax_Lo} {v : Value} (h : lv_has ls nL (ax_asc g 0 L)) (hv : L[i]? = some (some v)) : ls[i]? = some (.val (ax_cv g v)) := by
  have := h.2.2 (i, ax_cv g v) (ax_asc_mem.mpr ⟨i, v, hv, by simp⟩)
  exact this
theorem ax_pI_e {st : ax_Sk} {f : Int32 → ax_Sk → Prop} (h : ax_pI st f) : ∃ x r, st = .int x :: r ∧ f x r := by
  unfold ax_pI at h
  split at h
  · exact ⟨_, _, rfl, h⟩
  · cases h
theorem ax_pL_e {st : ax_Sk} {f : Int64 → ax_Sk → Prop} (h : ax_pL st f) : ∃ x r, st = .long x :: r ∧ f x r := by
  unfold ax_pL at h
  split at h
  · exact ⟨_, _, rfl, h⟩
  · cases h
theorem ax_pR_e {st : ax_Sk} {f : Nat → ax_Sk → Prop} (h : ax_pR st f) : ∃ x r, st = .ref x :: r ∧ f x r := by
  unfold ax_pR at h
  split at h
  · exact ⟨_, _, rfl, h⟩
  · cases h
theorem ax_p1_e {st : ax_Sk} {f : Value → ax_Sk → Prop} (h : ax_p1 st f) : ∃ x r, st = x :: r ∧ x.category = 1 ∧ f x r := by
  unfold ax_p1 at h
  split at h
  · exact ⟨_, _, rfl, rfl, h⟩
  · exact ⟨_, _, rfl, rfl, h⟩
  · cases h
theorem ax_lI_e {L : ax_Lo} {i : Nat} {f : Int32 → Prop} (h : ax_lI L i f) : ∃ x, L[i]? = some (some (.int x)) ∧ f x := by
  unfold ax_lI at h
  split at h
  · rename_i x e; exact ⟨_, e, h⟩
  · cases h
theorem ax_lL_e {L : ax_Lo} {i : Nat} {f : Int64 → Prop} (h : ax_lL L i f) : ∃ x, L[i]? = some (some (.long x)) ∧ f x := by
  unfold ax_lL at h
  split at h
  · rename_i x e; exact ⟨_, e, h⟩
  · cases h
theorem ax_lR_e {L : ax_Lo} {i : Nat} {f : Nat → Prop} (h : ax_lR L i f) : ∃ x, L[i]? = some (some (.ref x)) ∧ f x := by
  unfold ax_lR at h
  split at h
  · rename_i x e; exact ⟨_, e, h⟩
  · cases h
theorem ax_tk_e : ∀ {n : Nat} {st : ax_Sk} {acc : List Value} {f : List Value → ax_Sk → Prop}, ax_tk n st acc f → ∃ as r, st = as ++ r ∧ as.length = n ∧ f (as.reverse ++ acc) r := by
  intro n
  induction n with
  | zero => intro st acc f h; exact ⟨[], st, rfl, rfl, h⟩
  | succ n ih =>
    intro st acc f h
    cases st with
    | nil => cases h
    | cons v st =>
      obtain ⟨as, r, h1, h2, h3⟩ := ih h
      exact ⟨v :: as, r, by rw [h1]; rfl, by simp [h2], by simpa using h3⟩
theorem ax_cs_eq (g : ax_G) : ∀ (st : ax_Sk), ((st.map (ax_cv g)).map fun v => v.category).sum = ax_cs st := by
  intro st
  induction st with
  | nil => rfl
  | cons v st ih =>
    simp only [List.map_cons, List.sum_cons, ax_cat, ih]
    cases v <;> simp [ax_cs, Value.category, Nat.add_comm]
