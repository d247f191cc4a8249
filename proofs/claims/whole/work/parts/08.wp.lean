/-! A point of a method, by what its rows say; runs of rows. -/
abbrev ax_H : Type := ByteArray × String × Nat × Nat × Option FieldType × Nat × String
def ax_hy (y : Nat) : ax_H := ((ax_M y).2.1, (ax_M y).1.cls, (ax_M y).2.2.2.2.1, (ax_M y).2.2.2.2.2.1, (ax_M y).2.2.2.1, (ax_M y).2.2.1, (ax_M y).1.name)
/-- how the method ends -/
def ax_RT (g : ax_G) (p : Program) (e : Env) (R : Room) (s : State) (m : MethodId) (args : Array Value) (below : List Frame) (meth : Method) (c : Code) (Q : State → Prop) (h : ax_H) (ret : ax_Po) (n0 top : Nat) : Prop :=
  (∀ pc L v z, decode h.1 pc = .ok (.ireturn, 1) → h.2.2.2.2.1 = some .int → z.1 = top → ret (some (.int v)) z → ax_GG g p e R s m args below meth c Q h.2.2.2.2.2.1 n0 pc L [.int v] z) ∧
  (∀ pc L v z, decode h.1 pc = .ok (.ireturn, 1) → h.2.2.2.2.1 = some .boolean → z.1 = top → (v = 0 ∨ v = 1) → ret (some (.int v)) z → ax_GG g p e R s m args below meth c Q h.2.2.2.2.2.1 n0 pc L [.int v] z) ∧
  (∀ pc L v z, decode h.1 pc = .ok (.lreturn, 1) → h.2.2.2.2.1 = some .long → z.1 = top → ret (some (.long v)) z → ax_GG g p e R s m args below meth c Q h.2.2.2.2.2.1 n0 pc L [.long v] z) ∧
  (∀ pc L z, decode h.1 pc = .ok (.return_, 1) → h.2.2.2.2.1 = none → z.1 = top → ret none z → ax_GG g p e R s m args below meth c Q h.2.2.2.2.2.1 n0 pc L [] z)
def ax_WP (g : ax_G) (h : ax_H) (ret : ax_Po) (n0 top pc : Nat) (L : ax_Lo) (st : ax_Sk) (z : ax_St) : Prop :=
  ∀ (p : Program) (e : Env) (R : Room) (s : State) (m : MethodId) (args : Array Value) (below : List Frame) (meth : Method) (c : Code) (Q : State → Prop), ax_BC g p R s m args meth c h.1 h.2.1 h.2.2.1 h.2.2.2.1 h.2.2.2.2.1 h.2.2.2.2.2.1 n0 top → meth.name = h.2.2.2.2.2.2 → ax_RT g p e R s m args below meth c Q h ret n0 top → ax_GG g p e R s m args below meth c Q h.2.2.2.2.2.1 n0 pc L st z
def ax_okh (h : ax_H) (r : ax_Row) : Bool := ax_okr h.2.1 h.2.2.1 h.2.2.2.1 h.2.2.2.2.1 h.2.2.2.2.2.1 h.1 r && (r.2.1 != 66 || h.2.2.2.2.2.2 == "<init>")
def ax_len (r : ax_Row) : Nat := (ax_ins r.1 r.2.1 r.2.2.1 r.2.2.2.1 r.2.2.2.2.1 r.2.2.2.2.2.1 r.2.2.2.2.2.2).2
def ax_stp (g : ax_G) (ret : ax_Po) (top : Nat) (r : ax_Row) (nxt : ax_Xs) (jmp : Nat → ax_Xs) (L : ax_Lo) (st : ax_Sk) (z : ax_St) : Prop := ax_step r.2.1 r.2.2.1 r.2.2.2.1 r.2.2.2.2.1 r.2.2.2.2.2.1 r.2.2.2.2.2.2 nxt jmp (ax_MM g) ret (ax_xt g) top L st z
theorem ax_WP_at {g : ax_G} {h : ax_H} {ret : ax_Po} {n0 top : Nat} {r : ax_Row} {nxt : ax_Xs} {jmp : Nat → ax_Xs} {L : ax_Lo} {st : ax_Sk} {z : ax_St} (hok : ax_okh h r = true) (hn : ∀ L st z, nxt L st z → ax_WP g h ret n0 top (r.1 + ax_len r) L st z) (hj : ∀ t L st z, jmp t L st z → ax_WP g h ret n0 top t L st z)
    (hs : ax_stp g ret top r nxt jmp L st z) : ax_WP g h ret n0 top r.1 L st z := by
  intro p e R s m args below meth c Q B hnm hRT
  obtain ⟨pc, op, a, b, d, ws, cv⟩ := r
  unfold ax_okh ax_okr at hok
  rw [Bool.and_eq_true, Bool.and_eq_true, decide_eq_true_eq] at hok
  obtain ⟨⟨hd, hk⟩, h66⟩ := hok
  have h66' : op = 66 → meth.name = "<init>" := by
    intro q
    rw [hnm]
    rw [Bool.or_eq_true] at h66
    rcases h66 with h66 | h66
    · have : op ≠ 66 := by simpa using h66
      exact absurd q this
    · simpa using h66
  have hN : ∀ L st z, nxt L st z → ax_GG g p e R s m args below meth c Q h.2.2.2.2.2.1 n0 (pc + (ax_ins pc op a b d ws cv).2) L st z := fun L st z q => hn L st z q p e R s m args below meth c Q B hnm hRT
  have hJ : ∀ t L st z, jmp t L st z → ax_GG g p e R s m args below meth c Q h.2.2.2.2.2.1 n0 t L st z := fun t L st z q => hj t L st z q p e R s m args below meth c Q B hnm hRT
  have hd : decode h.1 pc = .ok (ax_ins pc op a b d ws cv) := hd
  have hk : ax_chk h.2.1 h.2.2.1 h.2.2.2.1 h.2.2.2.2.1 h.2.2.2.2.2.1 op a b d ws cv = true := hk
  have hs : ax_step op a b d ws cv nxt jmp (ax_MM g) ret (ax_xt g) top L st z := hs
  match op, hd, hk, h66', hN, hs with
  | 0, hd, hk, h66, hN, hs => exact ax_o0 (ret := ret) B pc a b d ws cv nxt jmp L st z hd hk h66 hN hJ hs
  | 1, hd, hk, h66, hN, hs => exact ax_o1 (ret := ret) B pc a b d ws cv nxt jmp L st z hd hk h66 hN hJ hs
  | 2, hd, hk, h66, hN, hs => exact ax_o2 (ret := ret) B pc a b d ws cv nxt jmp L st z hd hk h66 hN hJ hs
  | 3, hd, hk, h66, hN, hs => exact ax_o3 (ret := ret) B pc a b d ws cv nxt jmp L st z hd hk h66 hN hJ hs
  | 4, hd, hk, h66, hN, hs => exact ax_o4 (ret := ret) B pc a b d ws cv nxt jmp L st z hd hk h66 hN hJ hs
  | 5, hd, hk, h66, hN, hs => exact ax_o5 (ret := ret) B pc a b d ws cv nxt jmp L st z hd hk h66 hN hJ hs
  | 6, hd, hk, h66, hN, hs => exact ax_o6 (ret := ret) B pc a b d ws cv nxt jmp L st z hd hk h66 hN hJ hs
  | 7, hd, hk, h66, hN, hs => exact ax_o7 (ret := ret) B pc a b d ws cv nxt jmp L st z hd hk h66 hN hJ hs
  | 8, hd, hk, h66, hN, hs => exact ax_o8 (ret := ret) B pc a b d ws cv nxt jmp L st z hd hk h66 hN hJ hs
  | 9, hd, hk, h66, hN, hs => exact ax_o9 (ret := ret) B pc a b d ws cv nxt jmp L st z hd hk h66 hN hJ hs
  | 10, hd, hk, h66, hN, hs => exact ax_o10 (ret := ret) B pc a b d ws cv nxt jmp L st z hd hk h66 hN hJ hs
  | 11, hd, hk, h66, hN, hs => exact ax_o11 (ret := ret) B pc a b d ws cv nxt jmp L st z hd hk h66 hN hJ hs
  | 12, hd, hk, h66, hN, hs => exact ax_o12 (ret := ret) B pc a b d ws cv nxt jmp L st z hd hk h66 hN hJ hs
  | 13, hd, hk, h66, hN, hs => exact ax_o13 (ret := ret) B pc a b d ws cv nxt jmp L st z hd hk h66 hN hJ hs
  | 14, hd, hk, h66, hN, hs => exact ax_o14 (ret := ret) B pc a b d ws cv nxt jmp L st z hd hk h66 hN hJ hs
  | 15, hd, hk, h66, hN, hs => exact ax_o15 (ret := ret) B pc a b d ws cv nxt jmp L st z hd hk h66 hN hJ hs
  | 16, hd, hk, h66, hN, hs => exact ax_o16 (ret := ret) B pc a b d ws cv nxt jmp L st z hd hk h66 hN hJ hs
  | 17, hd, hk, h66, hN, hs => exact ax_o17 (ret := ret) B pc a b d ws cv nxt jmp L st z hd hk h66 hN hJ hs
  | 18, hd, hk, h66, hN, hs => exact ax_o18 (ret := ret) B pc a b d ws cv nxt jmp L st z hd hk h66 hN hJ hs
  | 19, hd, hk, h66, hN, hs => exact ax_o19 (ret := ret) B pc a b d ws cv nxt jmp L st z hd hk h66 hN hJ hs
  | 20, hd, hk, h66, hN, hs => exact ax_o20 (ret := ret) B pc a b d ws cv nxt jmp L st z hd hk h66 hN hJ hs
  | 21, hd, hk, h66, hN, hs => exact ax_o21 (ret := ret) B pc a b d ws cv nxt jmp L st z hd hk h66 hN hJ hs
  | 22, hd, hk, h66, hN, hs => exact ax_o22 (ret := ret) B pc a b d ws cv nxt jmp L st z hd hk h66 hN hJ hs
  | 23, hd, hk, h66, hN, hs => exact ax_o23 (ret := ret) B pc a b d ws cv nxt jmp L st z hd hk h66 hN hJ hs
  | 24, hd, hk, h66, hN, hs => exact ax_o24 (ret := ret) B pc a b d ws cv nxt jmp L st z hd hk h66 hN hJ hs
  | 25, hd, hk, h66, hN, hs => exact ax_o25 (ret := ret) B pc a b d ws cv nxt jmp L st z hd hk h66 hN hJ hs
  | 26, hd, hk, h66, hN, hs => exact ax_o26 (ret := ret) B pc a b d ws cv nxt jmp L st z hd hk h66 hN hJ hs
  | 27, hd, hk, h66, hN, hs => exact ax_o27 (ret := ret) B pc a b d ws cv nxt jmp L st z hd hk h66 hN hJ hs
  | 28, hd, hk, h66, hN, hs => exact ax_o28 (ret := ret) B pc a b d ws cv nxt jmp L st z hd hk h66 hN hJ hs
  | 29, hd, hk, h66, hN, hs => exact ax_o29 (ret := ret) B pc a b d ws cv nxt jmp L st z hd hk h66 hN hJ hs
  | 30, hd, hk, h66, hN, hs => exact ax_o30 (ret := ret) B pc a b d ws cv nxt jmp L st z hd hk h66 hN hJ hs
  | 31, hd, hk, h66, hN, hs => exact ax_o31 (ret := ret) B pc a b d ws cv nxt jmp L st z hd hk h66 hN hJ hs
  | 32, hd, hk, h66, hN, hs => exact ax_o32 (ret := ret) B pc a b d ws cv nxt jmp L st z hd hk h66 hN hJ hs
  | 33, hd, hk, h66, hN, hs => exact ax_o33 (ret := ret) B pc a b d ws cv nxt jmp L st z hd hk h66 hN hJ hs
  | 34, hd, hk, h66, hN, hs => exact ax_o34 (ret := ret) B pc a b d ws cv nxt jmp L st z hd hk h66 hN hJ hs
  | 35, hd, hk, h66, hN, hs => exact ax_o35 (ret := ret) B pc a b d ws cv nxt jmp L st z hd hk h66 hN hJ hs
  | 36, hd, hk, h66, hN, hs => exact ax_o36 (ret := ret) B pc a b d ws cv nxt jmp L st z hd hk h66 hN hJ hs
  | 37, hd, hk, h66, hN, hs => exact ax_o37 (ret := ret) B pc a b d ws cv nxt jmp L st z hd hk h66 hN hJ hs
  | 38, hd, hk, h66, hN, hs => exact ax_o38 (ret := ret) B pc a b d ws cv nxt jmp L st z hd hk h66 hN hJ hs
  | 39, hd, hk, h66, hN, hs => exact ax_o39 (ret := ret) B pc a b d ws cv nxt jmp L st z hd hk h66 hN hJ hs
  | 40, hd, hk, h66, hN, hs => exact ax_o40 (ret := ret) B pc a b d ws cv nxt jmp L st z hd hk h66 hN hJ hs
  | 41, hd, hk, h66, hN, hs => exact ax_o41 (ret := ret) B pc a b d ws cv nxt jmp L st z hd hk h66 hN hJ hs
  | 42, hd, hk, h66, hN, hs => exact ax_o42 (ret := ret) B pc a b d ws cv nxt jmp L st z hd hk h66 hN hJ hs
  | 44, hd, hk, h66, hN, hs => exact ax_o44 (ret := ret) B pc a b d ws cv nxt jmp L st z hd hk h66 hN hJ hs
  | 45, hd, hk, h66, hN, hs => exact ax_o45 (ret := ret) B pc a b d ws cv nxt jmp L st z hd hk h66 hN hJ hs
  | 46, hd, hk, h66, hN, hs => exact ax_o46 (ret := ret) B pc a b d ws cv nxt jmp L st z hd hk h66 hN hJ hs
  | 47, hd, hk, h66, hN, hs => exact ax_o47 (ret := ret) B pc a b d ws cv nxt jmp L st z hd hk h66 hN hJ hs
  | 48, hd, hk, h66, hN, hs => exact ax_o48 (ret := ret) B pc a b d ws cv nxt jmp L st z hd hk h66 hN hJ hs
  | 49, hd, hk, h66, hN, hs => exact ax_o49 (ret := ret) B pc a b d ws cv nxt jmp L st z hd hk h66 hN hJ hs
  | 50, hd, hk, h66, hN, hs => exact ax_o50 (ret := ret) B pc a b d ws cv nxt jmp L st z hd hk h66 hN hJ hs
  | 51, hd, hk, h66, hN, hs => exact ax_o51 (ret := ret) B pc a b d ws cv nxt jmp L st z hd hk h66 hN hJ hs
  | 52, hd, hk, h66, hN, hs => exact ax_o52 (ret := ret) B pc a b d ws cv nxt jmp L st z hd hk h66 hN hJ hs
  | 53, hd, hk, h66, hN, hs => exact ax_o53 (ret := ret) B pc a b d ws cv nxt jmp L st z hd hk h66 hN hJ hs
  | 54, hd, hk, h66, hN, hs => exact ax_o54 (ret := ret) B pc a b d ws cv nxt jmp L st z hd hk h66 hN hJ hs
  | 55, hd, hk, h66, hN, hs => exact ax_o55 (ret := ret) B pc a b d ws cv nxt jmp L st z hd hk h66 hN hJ hs
  | 56, hd, hk, h66, hN, hs => exact ax_o56 (ret := ret) B pc a b d ws cv nxt jmp L st z hd hk h66 hN hJ hs
  | 57, hd, hk, h66, hN, hs => exact ax_o57 (ret := ret) B pc a b d ws cv nxt jmp L st z hd hk h66 hN hJ hs
  | 58, hd, hk, h66, hN, hs => exact ax_o58 (ret := ret) B pc a b d ws cv nxt jmp L st z hd hk h66 hN hJ hs
  | 59, hd, hk, h66, hN, hs => exact ax_o59 (ret := ret) B pc a b d ws cv nxt jmp L st z hd hk h66 hN hJ hs
  | 60, hd, hk, h66, hN, hs => exact ax_o60 (ret := ret) B pc a b d ws cv nxt jmp L st z hd hk h66 hN hJ hs
  | 61, hd, hk, h66, hN, hs => exact ax_o61 (ret := ret) B pc a b d ws cv nxt jmp L st z hd hk h66 hN hJ hs
  | 62, hd, hk, h66, hN, hs => exact ax_o62 (ret := ret) B pc a b d ws cv nxt jmp L st z hd hk h66 hN hJ hs
  | 63, hd, hk, h66, hN, hs => exact ax_o63 (ret := ret) B pc a b d ws cv nxt jmp L st z hd hk h66 hN hJ hs
  | 64, hd, hk, h66, hN, hs => exact ax_o64 (ret := ret) B pc a b d ws cv nxt jmp L st z hd hk h66 hN hJ hs
  | 65, hd, hk, h66, hN, hs => exact ax_o65 (ret := ret) B pc a b d ws cv nxt jmp L st z hd hk h66 hN hJ hs
  | 66, hd, hk, h66, hN, hs => exact ax_o66 (ret := ret) B pc a b d ws cv nxt jmp L st z hd hk h66 hN hJ hs
  | 67, hd, hk, h66, hN, hs => exact ax_o67 (ret := ret) B pc a b d ws cv nxt jmp L st z hd hk h66 hN hJ hs
  | 68, hd, hk, h66, hN, hs => exact ax_o68 (ret := ret) B pc a b d ws cv nxt jmp L st z hd hk h66 hN hJ hs
  | 69, hd, hk, h66, hN, hs => exact ax_o69 (ret := ret) B pc a b d ws cv nxt jmp L st z hd hk h66 hN hJ hs
  | 70, hd, hk, h66, hN, hs => exact ax_o70 (ret := ret) B pc a b d ws cv nxt jmp L st z hd hk h66 hN hJ hs
  | 71, hd, hk, h66, hN, hs => exact ax_o71 (ret := ret) B pc a b d ws cv nxt jmp L st z hd hk h66 hN hJ hs
  | 72, hd, hk, h66, hN, hs => exact ax_o72 (ret := ret) B pc a b d ws cv nxt jmp L st z hd hk h66 hN hJ hs
  | 73, hd, hk, h66, hN, hs => exact ax_o73 (ret := ret) B pc a b d ws cv nxt jmp L st z hd hk h66 hN hJ hs
  | 74, hd, hk, h66, hN, hs => exact ax_o74 (ret := ret) B pc a b d ws cv nxt jmp L st z hd hk h66 hN hJ hs
  | 75, hd, hk, h66, hN, hs => exact ax_o75 (ret := ret) B pc a b d ws cv nxt jmp L st z hd hk h66 hN hJ hs
  | 76, hd, hk, h66, hN, hs => exact ax_o76 (ret := ret) B pc a b d ws cv nxt jmp L st z hd hk h66 hN hJ hs
  | 77, hd, hk, h66, hN, hs => exact ax_o77 (ret := ret) B pc a b d ws cv nxt jmp L st z hd hk h66 hN hJ hs
  | 78, hd, hk, h66, hN, hs => exact ax_o78 (ret := ret) B pc a b d ws cv nxt jmp L st z hd hk h66 hN hJ hs
  | 79, hd, hk, h66, hN, hs => exact ax_o79 (ret := ret) B pc a b d ws cv nxt jmp L st z hd hk h66 hN hJ hs
  | 80, hd, hk, h66, hN, hs => exact ax_o80 (ret := ret) B pc a b d ws cv nxt jmp L st z hd hk h66 hN hJ hs
  | 81, hd, hk, h66, hN, hs => exact ax_o81 (ret := ret) B pc a b d ws cv nxt jmp L st z hd hk h66 hN hJ hs
  | 86, hd, hk, h66, hN, hs => exact ax_o86 (ret := ret) B pc a b d ws cv nxt jmp L st z hd hk h66 hN hJ hs
  | 87, hd, hk, h66, hN, hs => exact ax_o87 (ret := ret) B pc a b d ws cv nxt jmp L st z hd hk h66 hN hJ hs
  | 88, hd, hk, h66, hN, hs => exact ax_o88 (ret := ret) B pc a b d ws cv nxt jmp L st z hd hk h66 hN hJ hs
  | 89, hd, hk, h66, hN, hs => exact ax_o89 (ret := ret) B pc a b d ws cv nxt jmp L st z hd hk h66 hN hJ hs
  | 90, hd, hk, h66, hN, hs => exact ax_o90 (ret := ret) B pc a b d ws cv nxt jmp L st z hd hk h66 hN hJ hs
  | 91, hd, hk, h66, hN, hs => exact ax_o91 (ret := ret) B pc a b d ws cv nxt jmp L st z hd hk h66 hN hJ hs
  | 82, hd, hk, h66, hN, hs =>
    obtain ⟨v, r, rfl, hr, ht, h9⟩ := ax_pI_e hs
    subst hr
    exact hRT.1 pc L v z hd (of_decide_eq_true hk) ht h9
  | 83, hd, hk, h66, hN, hs =>
    obtain ⟨v, r, rfl, hr, ht, hv, h9⟩ := ax_pI_e hs
    subst hr
    exact hRT.2.1 pc L v z hd (of_decide_eq_true hk) ht hv h9
  | 84, hd, hk, h66, hN, hs =>
    obtain ⟨v, r, rfl, hr, ht, h9⟩ := ax_pL_e hs
    subst hr
    exact hRT.2.2.1 pc L v z hd (of_decide_eq_true hk) ht h9
  | 85, hd, hk, h66, hN, hs =>
    obtain ⟨hr, ht, h9⟩ := hs
    subst hr
    exact hRT.2.2.2 pc L z hd (of_decide_eq_true hk) ht h9
  | 43, hd, hk, h66, hN, hs => exact False.elim hs
  | n + 92, hd, hk, h66, hN, hs => exact False.elim hs
/-- the method's contract out of its first point -/
def ax_ent (n : Nat) : List Value → ax_Lo
  | [] => List.replicate n none
  | .long x :: l => some (.long x) :: none :: ax_ent (n - 2) l
  | v :: l => some v :: ax_ent (n - 1) l
theorem ax_ent_mem {g : ax_G} : ∀ {as : List Value} {n i : Nat} {q : Nat × Value}, (∀ v ∈ as, ∀ x, v ≠ .double x) → q ∈ ax_asc g i (ax_ent n as) → q ∈ lv_args i (as.map (ax_cv g)) := by
  intro as
  induction as with
  | nil =>
    intro n i q _ h
    obtain ⟨j, v, h1, -⟩ := ax_asc_mem.mp h
    unfold ax_ent at h1
    rw [List.getElem?_replicate] at h1
    split at h1 <;> simp at h1
  | cons v as ih =>
    intro n i q hd h
    have hd' : ∀ v ∈ as, ∀ x, v ≠ .double x := fun w hw => hd w (List.mem_cons_of_mem _ hw)
    cases v with
    | long x =>
      simp only [ax_ent, ax_asc, List.mem_cons] at h
      simp only [List.map_cons, lv_args, List.mem_cons]
      rcases h with h | h
      · exact Or.inl h
      · exact Or.inr (ih hd' h)
    | double x => exact absurd rfl (hd _ List.mem_cons_self x)
    | _ =>
      simp only [ax_ent, ax_asc, List.mem_cons] at h
      simp only [List.map_cons, lv_args, List.mem_cons]
      rcases h with h | h
      · exact Or.inl h
      · exact Or.inr (ih hd' h)
theorem ax_sl_len (g : ax_G) (as : List Value) : (lg_sl (as.map (ax_cv g))).length = ax_cs as := by
  induction as with
  | nil => rfl
  | cons v as ih =>
    simp only [List.map_cons, lg_sl, List.flatMap_cons, List.length_append]
    rw [show (List.flatMap (fun v => if v.category = 2 then [Slot.val v, Slot.second] else [Slot.val v]) (as.map (ax_cv g))).length = ax_cs as from ih]
    cases v <;> simp [ax_cs, ax_cv, Value.category, Nat.add_comm]
theorem ax_MM_of {g : ax_G} {y : Nat} {as : List Value} {z : ax_St} {K : ax_Po} (hy : y < 205) (hcs : ax_cs as ≤ (ax_M y).2.2.1) (hdb : ∀ v ∈ as, ∀ x, v ≠ .double x) (h : ax_WP g (ax_hy y) K z.1 (z.1 + ax_mc y) 0 (ax_ent (ax_M y).2.2.1 as) [] z) : ax_MM g y as z K := by
  obtain ⟨o1, o2, o3, o4, o5, o6, o7, o8⟩ := ax_M_ok hy
  refine Met.ofW (cc := (ax_M y).2.1) (maxL := (ax_M y).2.2.1) (ret := (ax_M y).2.2.2.1) o1 rfl ?_
  intro p e s m args below meth c s₁ B hml hv
  obtain ⟨rfl, hR, hsz, hW⟩ := hv
  have hts0 := atoms_spec (ws := ax_wsy y) B.pre
  have hts : ∀ w ∈ ax_T, w.before ((as.map (ax_cv g)).toArray) s = true := fun w hw => hts0 w (List.mem_cons_of_mem _ hw)
  have hown : s.vm.findClass (ax_M y).1.cls = some m.cls := findClass_of_methodNamed B.named
  have hin : meth.name = (ax_M y).1.name := (name_of_methodNamed B.named B.method).1
  have hS : va_S (ax_A g) s.heap s.heap [] := va_S.rf
  have BC : ax_BC g p (headSpec (ax_wsy y) (ax_rm y z.1)).room s m ((as.map (ax_cv g)).toArray) meth c (ax_hy y).1 (ax_hy y).2.1 (ax_hy y).2.2.1 (ax_hy y).2.2.2.1 (ax_hy y).2.2.2.2.1 (ax_hy y).2.2.2.2.2.1 z.1 (z.1 + ax_mc y) := by
    refine ⟨B.exec, B.bytes, hml, hown, hts, B.returns, B.notSynchronized, hW, hsz, Nat.le_refl _, Nat.le_refl _, ?_, Nat.le_refl _, Nat.le_add_right _ _⟩
    show z.1 + ax_mc y - z.1 ≤ ax_mc y
    omega
  have hl := lv_entry (as.map (ax_cv g)) (n := (ax_M y).2.2.1) (by rw [ax_sl_len]; exact hcs)
  rw [lg_entry_eq]
  have hl2 : lv_has ((lg_sl (as.map (ax_cv g)) ++ List.replicate ((ax_M y).2.2.1 - (lg_sl (as.map (ax_cv g))).length) Slot.unset).toArray) (ax_M y).2.2.1 (ax_asc g 0 (ax_ent (ax_M y).2.2.1 as)) := ⟨hl.1, hl.2.1, fun q hq => hl.2.2 q (ax_ent_mem hdb hq)⟩
  have key : ∀ (r : Option Value) (z' : ax_St) (H : Heap) (t : State), K r z' → z'.1 = z.1 + ax_mc y → ax_Rep g z' H → ∀ locs, va_S (ax_A g) s.heap H locs → t.heap = H → ax_Qc g K (z.1 + ax_mc y) ((as.map (ax_cv g)).toArray) s (.returned (r.map (ax_cv g))) t := by
    intro r z' H t hK hz hR' locs hS' ht
    exact ⟨⟨r, z', rfl, hK, hz, by rw [ht]; exact hR'⟩, hS'.F ht⟩
  have e1 : z.1 + ax_mc y - z.1 = ax_mc y := by omega
  have RT : ax_RT g p e (headSpec (ax_wsy y) (ax_rm y z.1)).room s m ((as.map (ax_cv g)).toArray) below meth c (MQ below (ax_Qc g K (z.1 + ax_mc y)) ((as.map (ax_cv g)).toArray) s (ax_mc y) (ax_Sl (z.1 + ax_mc y) - ax_Sl z.1) (ax_A g)) (ax_hy y) K z.1 (z.1 + ax_mc y) := by
    refine ⟨fun pc L v z' hd hrt hz hK => ?_, fun pc L v z' hd hrt hz hv hK => ?_, fun pc L v z' hd hrt hz hK => ?_, fun pc L z' hd hrt hz hK => ?_⟩
    · intro h0 ls H locs hl hR' hS'
      rw [hz, e1]
      exact W.iret B.exec B.bytes (B.returns.trans hrt) (fun t ht hw => key (some (.int v)) z' H t hK hz hR' locs hS' ht) hS'.2.2 hd B.notSynchronized
    · intro h0 ls H locs hl hR' hS'
      rw [hz, e1]
      exact W.zret B.exec B.bytes (B.returns.trans hrt) (by rcases hv with rfl | rfl <;> rfl) (fun t ht hw => key (some (.int v)) z' H t hK hz hR' locs hS' ht) hS'.2.2 hd B.notSynchronized
    · intro h0 ls H locs hl hR' hS'
      rw [hz, e1]
      exact W.lret B.exec B.bytes (B.returns.trans hrt) (fun t ht hw => key (some (.long v)) z' H t hK hz hR' locs hS' ht) hS'.2.2 hd B.notSynchronized
    · intro h0 ls H locs hl hR' hS'
      rw [hz, e1]
      exact W.vret B.exec B.bytes (B.returns.trans hrt) (fun t ht hw => key none z' H t hK hz hR' locs hS' ht) hS'.2.2 hd B.notSynchronized
  have := h p e _ s m _ below meth c _ BC hin RT (Nat.le_refl _) _ s.heap [] hl2 hR hS
  rw [Nat.sub_self, Nat.sub_self] at this
  exact this
/-! Runs: rows in order; a jump goes to the rows that lk gives, a cut stops. -/
def ax_run (g : ax_G) (ret : ax_Po) (top : Nat) (X : Nat → ax_Xs) (lk : Nat → List ax_Row) (ct : Nat → Bool) : Nat → List ax_Row → ax_Xs
  | 0, _ => fun _ _ _ => False
  | _ + 1, [] => fun _ _ _ => False
  | n + 1, r :: rest => fun L st z => ax_stp g ret top r (fun L st z => if ct (r.1 + ax_len r) = true then X (r.1 + ax_len r) L st z else ax_run g ret top X lk ct n rest L st z) (fun t L st z => if ct t = true then X t L st z else ax_run g ret top X lk ct n (lk t) L st z) L st z
/-- rows as they stand in the bytes: each one is right, and each begins where the one ahead ends -/
def ax_adj (r : ax_Row) (rest : List ax_Row) : Bool := match rest with
  | [] => true
  | r2 :: _ => r2.1 == r.1 + ax_len r
def ax_okl (h : ax_H) : List ax_Row → Bool
  | [] => true
  | r :: rest => ax_okh h r && ax_adj r rest && ax_okl h rest
theorem ax_WP_run {g : ax_G} {h : ax_H} {ret : ax_Po} {n0 top : Nat} {lk : Nat → List ax_Row} {ct : Nat → Bool} (hlk : ∀ t, ax_okl h (lk t) = true) (hlp : ∀ t r rest, lk t = r :: rest → r.1 = t) :
    ∀ (n : Nat) (r : ax_Row) (rest : List ax_Row) (L : ax_Lo) (st : ax_Sk) (z : ax_St), ax_okl h (r :: rest) = true → ax_run g ret top (ax_WP g h ret n0 top) lk ct n (r :: rest) L st z → ax_WP g h ret n0 top r.1 L st z := by
  intro n
  induction n with
  | zero => intro r rest L st z _ hr; exact False.elim hr
  | succ n ih =>
    intro r rest L st z hok hr
    have hok2 : (ax_okh h r && ax_adj r rest && ax_okl h rest) = true := hok
    rw [Bool.and_eq_true, Bool.and_eq_true] at hok2
    obtain ⟨⟨h1, h2⟩, h3⟩ := hok2
    refine ax_WP_at (r := r) h1 (fun L st z q => ?_) (fun t L st z q => ?_) hr
    · cases hc : ct (r.1 + ax_len r) with
      | true => rw [if_pos hc] at q; exact q
      | false =>
        rw [if_neg (by rw [hc]; decide)] at q
        cases rest with
        | nil => cases n <;> exact False.elim q
        | cons r2 rest2 =>
          have h2 : (r2.1 == r.1 + ax_len r) = true := h2
          rw [beq_iff_eq] at h2
          rw [← h2]
          exact ih r2 rest2 L st z h3 q
    · cases hc : ct t with
      | true => rw [if_pos hc] at q; exact q
      | false =>
        rw [if_neg (by rw [hc]; decide)] at q
        cases hl : lk t with
        | nil => rw [hl] at q; cases n <;> exact False.elim q
        | cons r2 rest2 =>
          rw [hl] at q
          have := ih r2 rest2 L st z (by rw [← hl]; exact hlk t) q
          rw [hlp t r2 rest2 hl] at this
          exact this
def ax_sfx (code : List ax_Row) (t : Nat) : List ax_Row := code.dropWhile fun r => r.1 != t
theorem ax_okl_sfx {h : ax_H} {t : Nat} : ∀ {code : List ax_Row}, ax_okl h code = true → ax_okl h (ax_sfx code t) = true := by
  intro code
  induction code with
  | nil => intro _; rfl
  | cons r rest ih =>
    intro hok
    unfold ax_sfx
    rw [List.dropWhile_cons]
    split
    · have hok2 : (ax_okh h r && ax_adj r rest && ax_okl h rest) = true := hok
      rw [Bool.and_eq_true] at hok2
      exact ih hok2.2
    · exact hok
theorem ax_sfx_hd {t : Nat} {r : ax_Row} {rest : List ax_Row} : ∀ {code : List ax_Row}, ax_sfx code t = r :: rest → r.1 = t := by
  intro code
  induction code with
  | nil => intro h; cases h
  | cons r2 rest2 ih =>
    intro h
    unfold ax_sfx at h
    rw [List.dropWhile_cons] at h
    split at h
    · exact ih h
    · rename_i hc
      cases h
      simpa using hc
/-- a run from a row that stands in the code -/
theorem ax_WPr {g : ax_G} {h : ax_H} {ret : ax_Po} {n0 top : Nat} {code : List ax_Row} (hok : ax_okl h code = true) (ct : Nat → Bool) (n t : Nat) {r : ax_Row} {rest : List ax_Row} {L : ax_Lo} {st : ax_Sk} {z : ax_St} (ht : ax_sfx code t = r :: rest)
    (hr : ax_run g ret top (ax_WP g h ret n0 top) (ax_sfx code) ct n (r :: rest) L st z) : ax_WP g h ret n0 top t L st z := by
  have := ax_WP_run (fun t => ax_okl_sfx (t := t) hok) (fun t r rest hh => ax_sfx_hd hh) n r rest L st z (by rw [← ht]; exact ax_okl_sfx hok) hr
  rw [ax_sfx_hd ht] at this
  exact this
