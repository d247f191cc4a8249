/-! One row of ours is sound, op by op. -/
section AX3
variable {g : ax_G} {p : Program} {e : Env} {R : Room} {s : State} {m : MethodId} {args : Array Value} {below : List Frame} {meth : Method} {c : Code} {Q : State → Prop} {cc : ByteArray} {own : String} {fr lo : Nat} {rt : Option FieldType} {nL n0 top : Nat} {pc : Nat} {L : ax_Lo} {st : ax_Sk} {z : ax_St}
/-- what an op must give -/
def ax_Snd (g : ax_G) (p : Program) (e : Env) (R : Room) (s : State) (m : MethodId) (args : Array Value) (below : List Frame) (meth : Method) (c : Code) (Q : State → Prop) (cc : ByteArray) (own : String) (fr lo : Nat) (rt : Option FieldType) (nL n0 top : Nat) (ret : ax_Po) (op : Nat) : Prop :=
  ∀ (pc a b d : Nat) (ws : List Nat) (cv : Value) (nxt : ax_Xs) (jmp : Nat → ax_Xs) (L : ax_Lo) (st : ax_Sk) (z : ax_St), decode cc pc = .ok (ax_ins pc op a b d ws cv) → ax_chk own fr lo rt nL op a b d ws cv = true → (op = 66 → meth.name = "<init>") →
    (∀ L st z, nxt L st z → ax_GG g p e R s m args below meth c Q nL n0 (pc + (ax_ins pc op a b d ws cv).2) L st z) → (∀ t L st z, jmp t L st z → ax_GG g p e R s m args below meth c Q nL n0 t L st z) →
    ax_step op a b d ws cv nxt jmp (ax_MM g) ret (ax_xt g) top L st z → ax_GG g p e R s m args below meth c Q nL n0 pc L st z
variable {ret : ax_Po}
theorem ax_fin4 {a : Nat} (h : a < 4) : ((Fin.ofNat 4 a : Fin 4) : Nat) = a := by simp [Fin.ofNat, Nat.mod_eq_of_lt h]
theorem ax_o0 (B : ax_BC g p R s m args meth c cc own fr lo rt nL n0 top) : ax_Snd g p e R s m args below meth c Q cc own fr lo rt nL n0 top ret 0 := by
  intro pc a b d ws cv nxt jmp L st z hd hk h66 hN hJ hs
  match cv, hd, hk, hs, hN with
  | .int v, hd, hk, hs, hN =>
    obtain ⟨hx, hb, hml, hown, hts, -, -, hW, hsz, hRf, hRl, hRc, hRs, h0t⟩ := B
    intro h0 ls H locs hl hR hS
    exact lv_iconst hx hb hd (by simp) (hN _ _ _ hs h0 ls H locs hl hR hS)
theorem ax_o1 (B : ax_BC g p R s m args meth c cc own fr lo rt nL n0 top) : ax_Snd g p e R s m args below meth c Q cc own fr lo rt nL n0 top ret 1 := by
  intro pc a b d ws cv nxt jmp L st z hd hk h66 hN hJ hs
  match cv, hd, hk, hs, hN with
  | .int v, hd, hk, hs, hN =>
    obtain ⟨hx, hb, hml, hown, hts, -, -, hW, hsz, hRf, hRl, hRc, hRs, h0t⟩ := B
    intro h0 ls H locs hl hR hS
    exact lv_bipush hx hb hd (of_decide_eq_true hk) (hN _ _ _ hs h0 ls H locs hl hR hS)
theorem ax_o2 (B : ax_BC g p R s m args meth c cc own fr lo rt nL n0 top) : ax_Snd g p e R s m args below meth c Q cc own fr lo rt nL n0 top ret 2 := by
  intro pc a b d ws cv nxt jmp L st z hd hk h66 hN hJ hs
  match cv, hd, hk, hs, hN with
  | .int v, hd, hk, hs, hN =>
    obtain ⟨hx, hb, hml, hown, hts, -, -, hW, hsz, hRf, hRl, hRc, hRs, h0t⟩ := B
    intro h0 ls H locs hl hR hS
    exact lv_sipush hx hb hd (of_decide_eq_true hk) (hN _ _ _ hs h0 ls H locs hl hR hS)
theorem ax_o3 (B : ax_BC g p R s m args meth c cc own fr lo rt nL n0 top) : ax_Snd g p e R s m args below meth c Q cc own fr lo rt nL n0 top ret 3 := by
  intro pc a b d ws cv nxt jmp L st z hd hk h66 hN hJ hs
  match cv, hd, hk, hs, hN with
  | .int v, hd, hk, hs, hN =>
    obtain ⟨hx, hb, hml, hown, hts, -, -, hW, hsz, hRf, hRl, hRc, hRs, h0t⟩ := B
    have hk : (decide (ax_wd (ws.getD 0 9) (ws.getD 1 0) = some (.constant own a v)) && goodWord (.constant own a v)) = true := hk
    rw [Bool.and_eq_true, decide_eq_true_eq] at hk
    intro h0 ls H locs hl hR hS
    exact lv_ldc hx hb hown (hts _ (ax_in _ _ hk.1 hk.2)) hd (hN _ _ _ hs h0 ls H locs hl hR hS)
theorem ax_o4 (B : ax_BC g p R s m args meth c cc own fr lo rt nL n0 top) : ax_Snd g p e R s m args below meth c Q cc own fr lo rt nL n0 top ret 4 := by
  intro pc a b d ws cv nxt jmp L st z hd hk h66 hN hJ hs
  match cv, hd, hk, hs, hN with
  | .int v, hd, hk, hs, hN =>
    obtain ⟨hx, hb, hml, hown, hts, -, -, hW, hsz, hRf, hRl, hRc, hRs, h0t⟩ := B
    have hk : (decide (ax_wd (ws.getD 0 9) (ws.getD 1 0) = some (.constant own a v)) && goodWord (.constant own a v)) = true := hk
    rw [Bool.and_eq_true, decide_eq_true_eq] at hk
    intro h0 ls H locs hl hR hS
    exact lv_ldcw hx hb hown (hts _ (ax_in _ _ hk.1 hk.2)) hd (hN _ _ _ hs h0 ls H locs hl hR hS)
theorem ax_o5 (B : ax_BC g p R s m args meth c cc own fr lo rt nL n0 top) : ax_Snd g p e R s m args below meth c Q cc own fr lo rt nL n0 top ret 5 := by
  intro pc a b d ws cv nxt jmp L st z hd hk h66 hN hJ hs
  match cv, hd, hk, hs, hN with
  | .long v, hd, hk, hs, hN =>
    obtain ⟨hx, hb, hml, hown, hts, -, -, hW, hsz, hRf, hRl, hRc, hRs, h0t⟩ := B
    have hk : decide (v = 0 ∨ v = 1) = true := hk
    rw [decide_eq_true_eq] at hk
    intro h0 ls H locs hl hR hS
    refine lv_lconst hx hb hd ?_ (hN _ _ _ hs h0 ls H locs hl hR hS)
    rcases hk with rfl | rfl <;> decide +kernel
theorem ax_o6 (B : ax_BC g p R s m args meth c cc own fr lo rt nL n0 top) : ax_Snd g p e R s m args below meth c Q cc own fr lo rt nL n0 top ret 6 := by
  intro pc a b d ws cv nxt jmp L st z hd hk h66 hN hJ hs
  match cv, hd, hk, hs, hN with
  | .long v, hd, hk, hs, hN =>
    obtain ⟨hx, hb, hml, hown, hts, -, -, hW, hsz, hRf, hRl, hRc, hRs, h0t⟩ := B
    have hk : (decide (ax_wd (ws.getD 0 9) (ws.getD 1 0) = some (.constantLong own a v)) && goodWord (.constantLong own a v)) = true := hk
    rw [Bool.and_eq_true, decide_eq_true_eq] at hk
    intro h0 ls H locs hl hR hS
    exact lv_ldc2 hx hb hown (hts _ (ax_in _ _ hk.1 hk.2)) hd (hN _ _ _ hs h0 ls H locs hl hR hS)
theorem ax_o7 (B : ax_BC g p R s m args meth c cc own fr lo rt nL n0 top) : ax_Snd g p e R s m args below meth c Q cc own fr lo rt nL n0 top ret 7 := by
  intro pc a b d ws cv nxt jmp L st z hd hk h66 hN hJ hs
  obtain ⟨x, hv, hs⟩ := ax_lI_e hs
  obtain ⟨hx, hb, hml, hown, hts, -, -, hW, hsz, hRf, hRl, hRc, hRs, h0t⟩ := B
  intro h0 ls H locs hl hR hS
  exact lv_iload_n hx hb hd (ax_fin4 (of_decide_eq_true hk)) (ax_has_at hl hv) (hN _ _ _ hs h0 ls H locs hl hR hS)
theorem ax_o9 (B : ax_BC g p R s m args meth c cc own fr lo rt nL n0 top) : ax_Snd g p e R s m args below meth c Q cc own fr lo rt nL n0 top ret 9 := by
  intro pc a b d ws cv nxt jmp L st z hd hk h66 hN hJ hs
  obtain ⟨x, hv, hs⟩ := ax_lL_e hs
  obtain ⟨hx, hb, hml, hown, hts, -, -, hW, hsz, hRf, hRl, hRc, hRs, h0t⟩ := B
  intro h0 ls H locs hl hR hS
  exact lv_lload_n hx hb hd (ax_fin4 (of_decide_eq_true hk)) (ax_has_at hl hv) (hN _ _ _ hs h0 ls H locs hl hR hS)
theorem ax_o11 (B : ax_BC g p R s m args meth c cc own fr lo rt nL n0 top) : ax_Snd g p e R s m args below meth c Q cc own fr lo rt nL n0 top ret 11 := by
  intro pc a b d ws cv nxt jmp L st z hd hk h66 hN hJ hs
  obtain ⟨x, hv, hs⟩ := ax_lR_e hs
  obtain ⟨hx, hb, hml, hown, hts, -, -, hW, hsz, hRf, hRl, hRc, hRs, h0t⟩ := B
  intro h0 ls H locs hl hR hS
  exact lv_aload_n hx hb hd (ax_fin4 (of_decide_eq_true hk)) (ax_has_at hl hv) (hN _ _ _ hs h0 ls H locs hl hR hS)
theorem ax_o8 (B : ax_BC g p R s m args meth c cc own fr lo rt nL n0 top) : ax_Snd g p e R s m args below meth c Q cc own fr lo rt nL n0 top ret 8 := by
  intro pc a b d ws cv nxt jmp L st z hd hk h66 hN hJ hs
  obtain ⟨x, hv, hs⟩ := ax_lI_e hs
  obtain ⟨hx, hb, hml, hown, hts, -, -, hW, hsz, hRf, hRl, hRc, hRs, h0t⟩ := B
  intro h0 ls H locs hl hR hS
  exact lv_iload hx hb hd (ax_has_at hl hv) (hN _ _ _ hs h0 ls H locs hl hR hS)
theorem ax_o10 (B : ax_BC g p R s m args meth c cc own fr lo rt nL n0 top) : ax_Snd g p e R s m args below meth c Q cc own fr lo rt nL n0 top ret 10 := by
  intro pc a b d ws cv nxt jmp L st z hd hk h66 hN hJ hs
  obtain ⟨x, hv, hs⟩ := ax_lL_e hs
  obtain ⟨hx, hb, hml, hown, hts, -, -, hW, hsz, hRf, hRl, hRc, hRs, h0t⟩ := B
  intro h0 ls H locs hl hR hS
  exact lv_lload hx hb hd (ax_has_at hl hv) (hN _ _ _ hs h0 ls H locs hl hR hS)
theorem ax_o12 (B : ax_BC g p R s m args meth c cc own fr lo rt nL n0 top) : ax_Snd g p e R s m args below meth c Q cc own fr lo rt nL n0 top ret 12 := by
  intro pc a b d ws cv nxt jmp L st z hd hk h66 hN hJ hs
  obtain ⟨x, hv, hs⟩ := ax_lI_e hs
  obtain ⟨y, r, hcv, hs⟩ := ax_pI_e hs
  cases hcv
  obtain ⟨hx, hb, hml, hown, hts, -, -, hW, hsz, hRf, hRl, hRc, hRs, h0t⟩ := B
  intro h0 ls H locs hl hR hS
  obtain ⟨k, hk2⟩ := List.getElem?_of_mem (ax_asc_mem (g := g).mpr ⟨a, _, hv, rfl⟩)
  rw [Nat.zero_add] at hk2
  refine lv_iinc (v := x + y) hx hb hd hl hk2 (by simp) (of_decide_eq_true hk) rfl (fun ls' hl' => ?_)
  exact hN _ _ _ hs h0 ls' H locs (ax_has1 (v := .int (x + y)) hl') hR hS
theorem ax_o13 (B : ax_BC g p R s m args meth c cc own fr lo rt nL n0 top) : ax_Snd g p e R s m args below meth c Q cc own fr lo rt nL n0 top ret 13 := by
  intro pc a b d ws cv nxt jmp L st z hd hk h66 hN hJ hs
  obtain ⟨x, r, rfl, hs⟩ := ax_pI_e hs
  have hk := of_decide_eq_true hk
  obtain ⟨hx, hb, hml, hown, hts, -, -, hW, hsz, hRf, hRl, hRc, hRs, h0t⟩ := B
  intro h0 ls H locs hl hR hS
  refine lv_istore_n hx hb hd (ax_fin4 hk.1) hl hk.2 rfl (fun ls' hl' => ?_)
  exact hN _ _ _ hs h0 ls' H locs (ax_has1 (v := .int x) hl') hR hS
theorem ax_o17 (B : ax_BC g p R s m args meth c cc own fr lo rt nL n0 top) : ax_Snd g p e R s m args below meth c Q cc own fr lo rt nL n0 top ret 17 := by
  intro pc a b d ws cv nxt jmp L st z hd hk h66 hN hJ hs
  obtain ⟨x, r, rfl, hs⟩ := ax_pR_e hs
  have hk := of_decide_eq_true hk
  obtain ⟨hx, hb, hml, hown, hts, -, -, hW, hsz, hRf, hRl, hRc, hRs, h0t⟩ := B
  intro h0 ls H locs hl hR hS
  refine lv_astore_n hx hb hd (ax_fin4 hk.1) hl hk.2 rfl (fun ls' hl' => ?_)
  exact hN _ _ _ hs h0 ls' H locs (ax_has1 (v := .ref x) hl') hR hS
theorem ax_o15 (B : ax_BC g p R s m args meth c cc own fr lo rt nL n0 top) : ax_Snd g p e R s m args below meth c Q cc own fr lo rt nL n0 top ret 15 := by
  intro pc a b d ws cv nxt jmp L st z hd hk h66 hN hJ hs
  obtain ⟨x, r, rfl, hs⟩ := ax_pL_e hs
  have hk := of_decide_eq_true hk
  obtain ⟨hx, hb, hml, hown, hts, -, -, hW, hsz, hRf, hRl, hRc, hRs, h0t⟩ := B
  intro h0 ls H locs hl hR hS
  refine lv_lstore_n hx hb hd (ax_fin4 hk.1) hl hk.2 rfl (fun ls' hl' => ?_)
  exact hN _ _ _ hs h0 ls' H locs (ax_has2 (v := .long x) hl') hR hS
theorem ax_o14 (B : ax_BC g p R s m args meth c cc own fr lo rt nL n0 top) : ax_Snd g p e R s m args below meth c Q cc own fr lo rt nL n0 top ret 14 := by
  intro pc a b d ws cv nxt jmp L st z hd hk h66 hN hJ hs
  obtain ⟨x, r, rfl, hs⟩ := ax_pI_e hs
  have hk := of_decide_eq_true hk
  obtain ⟨hx, hb, hml, hown, hts, -, -, hW, hsz, hRf, hRl, hRc, hRs, h0t⟩ := B
  intro h0 ls H locs hl hR hS
  refine lv_istore hx hb hd hl hk rfl (fun ls' hl' => ?_)
  exact hN _ _ _ hs h0 ls' H locs (ax_has1 (v := .int x) hl') hR hS
theorem ax_o16 (B : ax_BC g p R s m args meth c cc own fr lo rt nL n0 top) : ax_Snd g p e R s m args below meth c Q cc own fr lo rt nL n0 top ret 16 := by
  intro pc a b d ws cv nxt jmp L st z hd hk h66 hN hJ hs
  obtain ⟨x, r, rfl, hs⟩ := ax_pL_e hs
  have hk := of_decide_eq_true hk
  obtain ⟨hx, hb, hml, hown, hts, -, -, hW, hsz, hRf, hRl, hRc, hRs, h0t⟩ := B
  intro h0 ls H locs hl hR hS
  refine lv_lstore hx hb hd hl hk rfl (fun ls' hl' => ?_)
  exact hN _ _ _ hs h0 ls' H locs (ax_has2 (v := .long x) hl') hR hS
theorem ax_o18 (B : ax_BC g p R s m args meth c cc own fr lo rt nL n0 top) : ax_Snd g p e R s m args below meth c Q cc own fr lo rt nL n0 top ret 18 := by
  intro pc a b d ws cv nxt jmp L st z hd hk h66 hN hJ hs
  obtain ⟨y, r, rfl, hs⟩ := ax_pI_e hs
  obtain ⟨x, r, rfl, hs⟩ := ax_pI_e hs
  obtain ⟨hx, hb, hml, hown, hts, -, -, hW, hsz, hRf, hRl, hRc, hRs, h0t⟩ := B
  intro h0 ls H locs hl hR hS
  exact lv_iadd hx hb hd (hN _ _ _ hs h0 ls H locs hl hR hS)
theorem ax_o19 (B : ax_BC g p R s m args meth c cc own fr lo rt nL n0 top) : ax_Snd g p e R s m args below meth c Q cc own fr lo rt nL n0 top ret 19 := by
  intro pc a b d ws cv nxt jmp L st z hd hk h66 hN hJ hs
  obtain ⟨y, r, rfl, hs⟩ := ax_pI_e hs
  obtain ⟨x, r, rfl, hs⟩ := ax_pI_e hs
  obtain ⟨hx, hb, hml, hown, hts, -, -, hW, hsz, hRf, hRl, hRc, hRs, h0t⟩ := B
  intro h0 ls H locs hl hR hS
  exact lv_isub hx hb hd (hN _ _ _ hs h0 ls H locs hl hR hS)
theorem ax_o20 (B : ax_BC g p R s m args meth c cc own fr lo rt nL n0 top) : ax_Snd g p e R s m args below meth c Q cc own fr lo rt nL n0 top ret 20 := by
  intro pc a b d ws cv nxt jmp L st z hd hk h66 hN hJ hs
  obtain ⟨y, r, rfl, hs⟩ := ax_pI_e hs
  obtain ⟨x, r, rfl, hs⟩ := ax_pI_e hs
  obtain ⟨hx, hb, hml, hown, hts, -, -, hW, hsz, hRf, hRl, hRc, hRs, h0t⟩ := B
  intro h0 ls H locs hl hR hS
  exact lv_imul hx hb hd (hN _ _ _ hs h0 ls H locs hl hR hS)
theorem ax_o21 (B : ax_BC g p R s m args meth c cc own fr lo rt nL n0 top) : ax_Snd g p e R s m args below meth c Q cc own fr lo rt nL n0 top ret 21 := by
  intro pc a b d ws cv nxt jmp L st z hd hk h66 hN hJ hs
  obtain ⟨y, r, rfl, hs⟩ := ax_pI_e hs
  obtain ⟨x, r, rfl, hs⟩ := ax_pI_e hs
  obtain ⟨hx, hb, hml, hown, hts, -, -, hW, hsz, hRf, hRl, hRc, hRs, h0t⟩ := B
  intro h0 ls H locs hl hR hS
  exact lv_idiv hx hb hd hs.1 (hN _ _ _ hs.2 h0 ls H locs hl hR hS)
theorem ax_o22 (B : ax_BC g p R s m args meth c cc own fr lo rt nL n0 top) : ax_Snd g p e R s m args below meth c Q cc own fr lo rt nL n0 top ret 22 := by
  intro pc a b d ws cv nxt jmp L st z hd hk h66 hN hJ hs
  obtain ⟨y, r, rfl, hs⟩ := ax_pI_e hs
  obtain ⟨x, r, rfl, hs⟩ := ax_pI_e hs
  obtain ⟨hx, hb, hml, hown, hts, -, -, hW, hsz, hRf, hRl, hRc, hRs, h0t⟩ := B
  intro h0 ls H locs hl hR hS
  exact lv_irem hx hb hd hs.1 (hN _ _ _ hs.2 h0 ls H locs hl hR hS)
theorem ax_o24 (B : ax_BC g p R s m args meth c cc own fr lo rt nL n0 top) : ax_Snd g p e R s m args below meth c Q cc own fr lo rt nL n0 top ret 24 := by
  intro pc a b d ws cv nxt jmp L st z hd hk h66 hN hJ hs
  obtain ⟨y, r, rfl, hs⟩ := ax_pI_e hs
  obtain ⟨x, r, rfl, hs⟩ := ax_pI_e hs
  obtain ⟨hx, hb, hml, hown, hts, -, -, hW, hsz, hRf, hRl, hRc, hRs, h0t⟩ := B
  intro h0 ls H locs hl hR hS
  exact lv_iand hx hb hd (hN _ _ _ hs h0 ls H locs hl hR hS)
theorem ax_o25 (B : ax_BC g p R s m args meth c cc own fr lo rt nL n0 top) : ax_Snd g p e R s m args below meth c Q cc own fr lo rt nL n0 top ret 25 := by
  intro pc a b d ws cv nxt jmp L st z hd hk h66 hN hJ hs
  obtain ⟨y, r, rfl, hs⟩ := ax_pI_e hs
  obtain ⟨x, r, rfl, hs⟩ := ax_pI_e hs
  obtain ⟨hx, hb, hml, hown, hts, -, -, hW, hsz, hRf, hRl, hRc, hRs, h0t⟩ := B
  intro h0 ls H locs hl hR hS
  exact lv_ior hx hb hd (hN _ _ _ hs h0 ls H locs hl hR hS)
theorem ax_o26 (B : ax_BC g p R s m args meth c cc own fr lo rt nL n0 top) : ax_Snd g p e R s m args below meth c Q cc own fr lo rt nL n0 top ret 26 := by
  intro pc a b d ws cv nxt jmp L st z hd hk h66 hN hJ hs
  obtain ⟨y, r, rfl, hs⟩ := ax_pI_e hs
  obtain ⟨x, r, rfl, hs⟩ := ax_pI_e hs
  obtain ⟨hx, hb, hml, hown, hts, -, -, hW, hsz, hRf, hRl, hRc, hRs, h0t⟩ := B
  intro h0 ls H locs hl hR hS
  exact lv_ixor hx hb hd (hN _ _ _ hs h0 ls H locs hl hR hS)
theorem ax_o27 (B : ax_BC g p R s m args meth c cc own fr lo rt nL n0 top) : ax_Snd g p e R s m args below meth c Q cc own fr lo rt nL n0 top ret 27 := by
  intro pc a b d ws cv nxt jmp L st z hd hk h66 hN hJ hs
  obtain ⟨y, r, rfl, hs⟩ := ax_pI_e hs
  obtain ⟨x, r, rfl, hs⟩ := ax_pI_e hs
  obtain ⟨hx, hb, hml, hown, hts, -, -, hW, hsz, hRf, hRl, hRc, hRs, h0t⟩ := B
  intro h0 ls H locs hl hR hS
  exact lv_ishl hx hb hd (hN _ _ _ hs h0 ls H locs hl hR hS)
theorem ax_o28 (B : ax_BC g p R s m args meth c cc own fr lo rt nL n0 top) : ax_Snd g p e R s m args below meth c Q cc own fr lo rt nL n0 top ret 28 := by
  intro pc a b d ws cv nxt jmp L st z hd hk h66 hN hJ hs
  obtain ⟨y, r, rfl, hs⟩ := ax_pI_e hs
  obtain ⟨x, r, rfl, hs⟩ := ax_pI_e hs
  obtain ⟨hx, hb, hml, hown, hts, -, -, hW, hsz, hRf, hRl, hRc, hRs, h0t⟩ := B
  intro h0 ls H locs hl hR hS
  exact lv_ishr hx hb hd (hN _ _ _ hs h0 ls H locs hl hR hS)
theorem ax_o29 (B : ax_BC g p R s m args meth c cc own fr lo rt nL n0 top) : ax_Snd g p e R s m args below meth c Q cc own fr lo rt nL n0 top ret 29 := by
  intro pc a b d ws cv nxt jmp L st z hd hk h66 hN hJ hs
  obtain ⟨y, r, rfl, hs⟩ := ax_pL_e hs
  obtain ⟨x, r, rfl, hs⟩ := ax_pL_e hs
  obtain ⟨hx, hb, hml, hown, hts, -, -, hW, hsz, hRf, hRl, hRc, hRs, h0t⟩ := B
  intro h0 ls H locs hl hR hS
  exact lv_ladd hx hb hd (hN _ _ _ hs h0 ls H locs hl hR hS)
theorem ax_o30 (B : ax_BC g p R s m args meth c cc own fr lo rt nL n0 top) : ax_Snd g p e R s m args below meth c Q cc own fr lo rt nL n0 top ret 30 := by
  intro pc a b d ws cv nxt jmp L st z hd hk h66 hN hJ hs
  obtain ⟨y, r, rfl, hs⟩ := ax_pL_e hs
  obtain ⟨x, r, rfl, hs⟩ := ax_pL_e hs
  obtain ⟨hx, hb, hml, hown, hts, -, -, hW, hsz, hRf, hRl, hRc, hRs, h0t⟩ := B
  intro h0 ls H locs hl hR hS
  exact lv_lsub hx hb hd (hN _ _ _ hs h0 ls H locs hl hR hS)
theorem ax_o31 (B : ax_BC g p R s m args meth c cc own fr lo rt nL n0 top) : ax_Snd g p e R s m args below meth c Q cc own fr lo rt nL n0 top ret 31 := by
  intro pc a b d ws cv nxt jmp L st z hd hk h66 hN hJ hs
  obtain ⟨y, r, rfl, hs⟩ := ax_pL_e hs
  obtain ⟨x, r, rfl, hs⟩ := ax_pL_e hs
  obtain ⟨hx, hb, hml, hown, hts, -, -, hW, hsz, hRf, hRl, hRc, hRs, h0t⟩ := B
  intro h0 ls H locs hl hR hS
  exact lv_lmul hx hb hd (hN _ _ _ hs h0 ls H locs hl hR hS)
theorem ax_o32 (B : ax_BC g p R s m args meth c cc own fr lo rt nL n0 top) : ax_Snd g p e R s m args below meth c Q cc own fr lo rt nL n0 top ret 32 := by
  intro pc a b d ws cv nxt jmp L st z hd hk h66 hN hJ hs
  obtain ⟨y, r, rfl, hs⟩ := ax_pL_e hs
  obtain ⟨x, r, rfl, hs⟩ := ax_pL_e hs
  obtain ⟨hx, hb, hml, hown, hts, -, -, hW, hsz, hRf, hRl, hRc, hRs, h0t⟩ := B
  intro h0 ls H locs hl hR hS
  exact lv_ldiv hx hb hd hs.1 (hN _ _ _ hs.2 h0 ls H locs hl hR hS)
theorem ax_o33 (B : ax_BC g p R s m args meth c cc own fr lo rt nL n0 top) : ax_Snd g p e R s m args below meth c Q cc own fr lo rt nL n0 top ret 33 := by
  intro pc a b d ws cv nxt jmp L st z hd hk h66 hN hJ hs
  obtain ⟨y, r, rfl, hs⟩ := ax_pL_e hs
  obtain ⟨x, r, rfl, hs⟩ := ax_pL_e hs
  obtain ⟨hx, hb, hml, hown, hts, -, -, hW, hsz, hRf, hRl, hRc, hRs, h0t⟩ := B
  intro h0 ls H locs hl hR hS
  exact lv_lrem hx hb hd hs.1 (hN _ _ _ hs.2 h0 ls H locs hl hR hS)
theorem ax_o34 (B : ax_BC g p R s m args meth c cc own fr lo rt nL n0 top) : ax_Snd g p e R s m args below meth c Q cc own fr lo rt nL n0 top ret 34 := by
  intro pc a b d ws cv nxt jmp L st z hd hk h66 hN hJ hs
  obtain ⟨y, r, rfl, hs⟩ := ax_pL_e hs
  obtain ⟨x, r, rfl, hs⟩ := ax_pL_e hs
  obtain ⟨hx, hb, hml, hown, hts, -, -, hW, hsz, hRf, hRl, hRc, hRs, h0t⟩ := B
  intro h0 ls H locs hl hR hS
  exact lv_land hx hb hd (hN _ _ _ hs h0 ls H locs hl hR hS)
theorem ax_o35 (B : ax_BC g p R s m args meth c cc own fr lo rt nL n0 top) : ax_Snd g p e R s m args below meth c Q cc own fr lo rt nL n0 top ret 35 := by
  intro pc a b d ws cv nxt jmp L st z hd hk h66 hN hJ hs
  obtain ⟨y, r, rfl, hs⟩ := ax_pL_e hs
  obtain ⟨x, r, rfl, hs⟩ := ax_pL_e hs
  obtain ⟨hx, hb, hml, hown, hts, -, -, hW, hsz, hRf, hRl, hRc, hRs, h0t⟩ := B
  intro h0 ls H locs hl hR hS
  exact lv_lor hx hb hd (hN _ _ _ hs h0 ls H locs hl hR hS)
theorem ax_o39 (B : ax_BC g p R s m args meth c cc own fr lo rt nL n0 top) : ax_Snd g p e R s m args below meth c Q cc own fr lo rt nL n0 top ret 39 := by
  intro pc a b d ws cv nxt jmp L st z hd hk h66 hN hJ hs
  obtain ⟨y, r, rfl, hs⟩ := ax_pL_e hs
  obtain ⟨x, r, rfl, hs⟩ := ax_pL_e hs
  obtain ⟨hx, hb, hml, hown, hts, -, -, hW, hsz, hRf, hRl, hRc, hRs, h0t⟩ := B
  intro h0 ls H locs hl hR hS
  exact W.lcmp hx hb hd (hN _ _ _ hs h0 ls H locs hl hR hS)
theorem ax_o36 (B : ax_BC g p R s m args meth c cc own fr lo rt nL n0 top) : ax_Snd g p e R s m args below meth c Q cc own fr lo rt nL n0 top ret 36 := by
  intro pc a b d ws cv nxt jmp L st z hd hk h66 hN hJ hs
  obtain ⟨y, r, rfl, hs⟩ := ax_pI_e hs
  obtain ⟨x, r, rfl, hs⟩ := ax_pL_e hs
  obtain ⟨hx, hb, hml, hown, hts, -, -, hW, hsz, hRf, hRl, hRc, hRs, h0t⟩ := B
  intro h0 ls H locs hl hR hS
  exact lv_lshl hx hb hd rfl (hN _ _ _ hs h0 ls H locs hl hR hS)
theorem ax_o37 (B : ax_BC g p R s m args meth c cc own fr lo rt nL n0 top) : ax_Snd g p e R s m args below meth c Q cc own fr lo rt nL n0 top ret 37 := by
  intro pc a b d ws cv nxt jmp L st z hd hk h66 hN hJ hs
  obtain ⟨y, r, rfl, hs⟩ := ax_pI_e hs
  obtain ⟨x, r, rfl, hs⟩ := ax_pL_e hs
  obtain ⟨hx, hb, hml, hown, hts, -, -, hW, hsz, hRf, hRl, hRc, hRs, h0t⟩ := B
  intro h0 ls H locs hl hR hS
  exact lv_lshr hx hb hd rfl (hN _ _ _ hs h0 ls H locs hl hR hS)
theorem ax_o38 (B : ax_BC g p R s m args meth c cc own fr lo rt nL n0 top) : ax_Snd g p e R s m args below meth c Q cc own fr lo rt nL n0 top ret 38 := by
  intro pc a b d ws cv nxt jmp L st z hd hk h66 hN hJ hs
  obtain ⟨y, r, rfl, hs⟩ := ax_pI_e hs
  obtain ⟨x, r, rfl, hs⟩ := ax_pL_e hs
  obtain ⟨hx, hb, hml, hown, hts, -, -, hW, hsz, hRf, hRl, hRc, hRs, h0t⟩ := B
  intro h0 ls H locs hl hR hS
  exact lv_lushr hx hb hd rfl (hN _ _ _ hs h0 ls H locs hl hR hS)
theorem ax_o23 (B : ax_BC g p R s m args meth c cc own fr lo rt nL n0 top) : ax_Snd g p e R s m args below meth c Q cc own fr lo rt nL n0 top ret 23 := by
  intro pc a b d ws cv nxt jmp L st z hd hk h66 hN hJ hs
  obtain ⟨x, r, rfl, hs⟩ := ax_pI_e hs
  obtain ⟨hx, hb, hml, hown, hts, -, -, hW, hsz, hRf, hRl, hRc, hRs, h0t⟩ := B
  intro h0 ls H locs hl hR hS
  exact lv_ineg hx hb hd (hN _ _ _ hs h0 ls H locs hl hR hS)
theorem ax_o40 (B : ax_BC g p R s m args meth c cc own fr lo rt nL n0 top) : ax_Snd g p e R s m args below meth c Q cc own fr lo rt nL n0 top ret 40 := by
  intro pc a b d ws cv nxt jmp L st z hd hk h66 hN hJ hs
  obtain ⟨x, r, rfl, hs⟩ := ax_pI_e hs
  obtain ⟨hx, hb, hml, hown, hts, -, -, hW, hsz, hRf, hRl, hRc, hRs, h0t⟩ := B
  intro h0 ls H locs hl hR hS
  exact lv_i2l hx hb hd rfl (hN _ _ _ hs h0 ls H locs hl hR hS)
theorem ax_o41 (B : ax_BC g p R s m args meth c cc own fr lo rt nL n0 top) : ax_Snd g p e R s m args below meth c Q cc own fr lo rt nL n0 top ret 41 := by
  intro pc a b d ws cv nxt jmp L st z hd hk h66 hN hJ hs
  obtain ⟨x, r, rfl, hs⟩ := ax_pL_e hs
  obtain ⟨hx, hb, hml, hown, hts, -, -, hW, hsz, hRf, hRl, hRc, hRs, h0t⟩ := B
  intro h0 ls H locs hl hR hS
  exact lv_l2i hx hb hd rfl (hN _ _ _ hs h0 ls H locs hl hR hS)
theorem ax_o42 (B : ax_BC g p R s m args meth c cc own fr lo rt nL n0 top) : ax_Snd g p e R s m args below meth c Q cc own fr lo rt nL n0 top ret 42 := by
  intro pc a b d ws cv nxt jmp L st z hd hk h66 hN hJ hs
  have hs : ax_p1 st (fun v r => nxt L (v :: v :: r) z) := hs
  obtain ⟨x, r, rfl, hc, hs⟩ := ax_p1_e hs
  obtain ⟨hx, hb, hml, hown, hts, -, -, hW, hsz, hRf, hRl, hRc, hRs, h0t⟩ := B
  intro h0 ls H locs hl hR hS
  exact lv_dup hx hb hd (by rw [ax_cat]; exact hc) (hN _ _ _ hs h0 ls H locs hl hR hS)
theorem ax_o44 (B : ax_BC g p R s m args meth c cc own fr lo rt nL n0 top) : ax_Snd g p e R s m args below meth c Q cc own fr lo rt nL n0 top ret 44 := by
  intro pc a b d ws cv nxt jmp L st z hd hk h66 hN hJ hs
  have hs : ax_p1 st (fun _ r => nxt L r z) := hs
  obtain ⟨x, r, rfl, hc, hs⟩ := ax_p1_e hs
  obtain ⟨hx, hb, hml, hown, hts, -, -, hW, hsz, hRf, hRl, hRc, hRs, h0t⟩ := B
  intro h0 ls H locs hl hR hS
  exact lv_pop hx hb hd (va := ax_cv g x) (by rw [ax_cat]; exact hc) (hN _ _ _ hs h0 ls H locs hl hR hS)
theorem ax_o45 (B : ax_BC g p R s m args meth c cc own fr lo rt nL n0 top) : ax_Snd g p e R s m args below meth c Q cc own fr lo rt nL n0 top ret 45 := by
  intro pc a b d ws cv nxt jmp L st z hd hk h66 hN hJ hs
  obtain ⟨y, r, rfl, hs⟩ := ax_pI_e hs
  obtain ⟨x, r, rfl, hs⟩ := ax_pR_e hs
  obtain ⟨hx, hb, hml, hown, hts, -, -, hW, hsz, hRf, hRl, hRc, hRs, h0t⟩ := B
  intro h0 ls H locs hl hR hS
  exact lv_dup2_11 hx hb hd rfl rfl (hN _ _ _ hs h0 ls H locs hl hR hS)
theorem ax_o46 (B : ax_BC g p R s m args meth c cc own fr lo rt nL n0 top) : ax_Snd g p e R s m args below meth c Q cc own fr lo rt nL n0 top ret 46 := by
  intro pc a b d ws cv nxt jmp L st z hd hk h66 hN hJ hs
  obtain ⟨y, r, rfl, hs⟩ := ax_pL_e hs
  obtain ⟨hx, hb, hml, hown, hts, -, -, hW, hsz, hRf, hRl, hRc, hRs, h0t⟩ := B
  intro h0 ls H locs hl hR hS
  exact lv_pop2_2 hx hb hd (va := .long y) rfl (hN _ _ _ hs h0 ls H locs hl hR hS)
theorem ax_o47 (B : ax_BC g p R s m args meth c cc own fr lo rt nL n0 top) : ax_Snd g p e R s m args below meth c Q cc own fr lo rt nL n0 top ret 47 := by
  intro pc a b d ws cv nxt jmp L st z hd hk h66 hN hJ hs
  obtain ⟨x, r, rfl, hs⟩ := ax_pI_e hs
  obtain ⟨hx, hb, hml, hown, hts, -, -, hW, hsz, hRf, hRl, hRc, hRs, h0t⟩ := B
  intro h0 ls H locs hl hR hS
  exact lv_if_eq (tgt := a) hx hb hd (by omega) (fun q => hJ _ _ _ _ (hs.1 q) h0 ls H locs hl hR hS) (fun q => hN _ _ _ (hs.2 q) h0 ls H locs hl hR hS)
theorem ax_o53 (B : ax_BC g p R s m args meth c cc own fr lo rt nL n0 top) : ax_Snd g p e R s m args below meth c Q cc own fr lo rt nL n0 top ret 53 := by
  intro pc a b d ws cv nxt jmp L st z hd hk h66 hN hJ hs
  obtain ⟨y, r, rfl, hs⟩ := ax_pI_e hs
  obtain ⟨x, r, rfl, hs⟩ := ax_pI_e hs
  obtain ⟨hx, hb, hml, hown, hts, -, -, hW, hsz, hRf, hRl, hRc, hRs, h0t⟩ := B
  intro h0 ls H locs hl hR hS
  exact lv_icmp_eq (tgt := a) hx hb hd (by omega) (fun q => hJ _ _ _ _ (hs.1 q) h0 ls H locs hl hR hS) (fun q => hN _ _ _ (hs.2 q) h0 ls H locs hl hR hS)
theorem ax_o48 (B : ax_BC g p R s m args meth c cc own fr lo rt nL n0 top) : ax_Snd g p e R s m args below meth c Q cc own fr lo rt nL n0 top ret 48 := by
  intro pc a b d ws cv nxt jmp L st z hd hk h66 hN hJ hs
  obtain ⟨x, r, rfl, hs⟩ := ax_pI_e hs
  obtain ⟨hx, hb, hml, hown, hts, -, -, hW, hsz, hRf, hRl, hRc, hRs, h0t⟩ := B
  intro h0 ls H locs hl hR hS
  exact lv_if_ne (tgt := a) hx hb hd (by omega) (fun q => hJ _ _ _ _ (hs.1 q) h0 ls H locs hl hR hS) (fun q => hN _ _ _ (hs.2 q) h0 ls H locs hl hR hS)
theorem ax_o54 (B : ax_BC g p R s m args meth c cc own fr lo rt nL n0 top) : ax_Snd g p e R s m args below meth c Q cc own fr lo rt nL n0 top ret 54 := by
  intro pc a b d ws cv nxt jmp L st z hd hk h66 hN hJ hs
  obtain ⟨y, r, rfl, hs⟩ := ax_pI_e hs
  obtain ⟨x, r, rfl, hs⟩ := ax_pI_e hs
  obtain ⟨hx, hb, hml, hown, hts, -, -, hW, hsz, hRf, hRl, hRc, hRs, h0t⟩ := B
  intro h0 ls H locs hl hR hS
  exact lv_icmp_ne (tgt := a) hx hb hd (by omega) (fun q => hJ _ _ _ _ (hs.1 q) h0 ls H locs hl hR hS) (fun q => hN _ _ _ (hs.2 q) h0 ls H locs hl hR hS)
theorem ax_o49 (B : ax_BC g p R s m args meth c cc own fr lo rt nL n0 top) : ax_Snd g p e R s m args below meth c Q cc own fr lo rt nL n0 top ret 49 := by
  intro pc a b d ws cv nxt jmp L st z hd hk h66 hN hJ hs
  obtain ⟨x, r, rfl, hs⟩ := ax_pI_e hs
  obtain ⟨hx, hb, hml, hown, hts, -, -, hW, hsz, hRf, hRl, hRc, hRs, h0t⟩ := B
  intro h0 ls H locs hl hR hS
  exact lv_if_lt (tgt := a) hx hb hd (by omega) (fun q => hJ _ _ _ _ (hs.1 q) h0 ls H locs hl hR hS) (fun q => hN _ _ _ (hs.2 q) h0 ls H locs hl hR hS)
theorem ax_o55 (B : ax_BC g p R s m args meth c cc own fr lo rt nL n0 top) : ax_Snd g p e R s m args below meth c Q cc own fr lo rt nL n0 top ret 55 := by
  intro pc a b d ws cv nxt jmp L st z hd hk h66 hN hJ hs
  obtain ⟨y, r, rfl, hs⟩ := ax_pI_e hs
  obtain ⟨x, r, rfl, hs⟩ := ax_pI_e hs
  obtain ⟨hx, hb, hml, hown, hts, -, -, hW, hsz, hRf, hRl, hRc, hRs, h0t⟩ := B
  intro h0 ls H locs hl hR hS
  exact lv_icmp_lt (tgt := a) hx hb hd (by omega) (fun q => hJ _ _ _ _ (hs.1 q) h0 ls H locs hl hR hS) (fun q => hN _ _ _ (hs.2 q) h0 ls H locs hl hR hS)
theorem ax_o50 (B : ax_BC g p R s m args meth c cc own fr lo rt nL n0 top) : ax_Snd g p e R s m args below meth c Q cc own fr lo rt nL n0 top ret 50 := by
  intro pc a b d ws cv nxt jmp L st z hd hk h66 hN hJ hs
  obtain ⟨x, r, rfl, hs⟩ := ax_pI_e hs
  obtain ⟨hx, hb, hml, hown, hts, -, -, hW, hsz, hRf, hRl, hRc, hRs, h0t⟩ := B
  intro h0 ls H locs hl hR hS
  exact lv_if_ge (tgt := a) hx hb hd (by omega) (fun q => hJ _ _ _ _ (hs.1 q) h0 ls H locs hl hR hS) (fun q => hN _ _ _ (hs.2 q) h0 ls H locs hl hR hS)
theorem ax_o56 (B : ax_BC g p R s m args meth c cc own fr lo rt nL n0 top) : ax_Snd g p e R s m args below meth c Q cc own fr lo rt nL n0 top ret 56 := by
  intro pc a b d ws cv nxt jmp L st z hd hk h66 hN hJ hs
  obtain ⟨y, r, rfl, hs⟩ := ax_pI_e hs
  obtain ⟨x, r, rfl, hs⟩ := ax_pI_e hs
  obtain ⟨hx, hb, hml, hown, hts, -, -, hW, hsz, hRf, hRl, hRc, hRs, h0t⟩ := B
  intro h0 ls H locs hl hR hS
  exact lv_icmp_ge (tgt := a) hx hb hd (by omega) (fun q => hJ _ _ _ _ (hs.1 q) h0 ls H locs hl hR hS) (fun q => hN _ _ _ (hs.2 q) h0 ls H locs hl hR hS)
theorem ax_o51 (B : ax_BC g p R s m args meth c cc own fr lo rt nL n0 top) : ax_Snd g p e R s m args below meth c Q cc own fr lo rt nL n0 top ret 51 := by
  intro pc a b d ws cv nxt jmp L st z hd hk h66 hN hJ hs
  obtain ⟨x, r, rfl, hs⟩ := ax_pI_e hs
  obtain ⟨hx, hb, hml, hown, hts, -, -, hW, hsz, hRf, hRl, hRc, hRs, h0t⟩ := B
  intro h0 ls H locs hl hR hS
  exact lv_if_gt (tgt := a) hx hb hd (by omega) (fun q => hJ _ _ _ _ (hs.1 q) h0 ls H locs hl hR hS) (fun q => hN _ _ _ (hs.2 q) h0 ls H locs hl hR hS)
theorem ax_o57 (B : ax_BC g p R s m args meth c cc own fr lo rt nL n0 top) : ax_Snd g p e R s m args below meth c Q cc own fr lo rt nL n0 top ret 57 := by
  intro pc a b d ws cv nxt jmp L st z hd hk h66 hN hJ hs
  obtain ⟨y, r, rfl, hs⟩ := ax_pI_e hs
  obtain ⟨x, r, rfl, hs⟩ := ax_pI_e hs
  obtain ⟨hx, hb, hml, hown, hts, -, -, hW, hsz, hRf, hRl, hRc, hRs, h0t⟩ := B
  intro h0 ls H locs hl hR hS
  exact lv_icmp_gt (tgt := a) hx hb hd (by omega) (fun q => hJ _ _ _ _ (hs.1 q) h0 ls H locs hl hR hS) (fun q => hN _ _ _ (hs.2 q) h0 ls H locs hl hR hS)
theorem ax_o52 (B : ax_BC g p R s m args meth c cc own fr lo rt nL n0 top) : ax_Snd g p e R s m args below meth c Q cc own fr lo rt nL n0 top ret 52 := by
  intro pc a b d ws cv nxt jmp L st z hd hk h66 hN hJ hs
  obtain ⟨x, r, rfl, hs⟩ := ax_pI_e hs
  obtain ⟨hx, hb, hml, hown, hts, -, -, hW, hsz, hRf, hRl, hRc, hRs, h0t⟩ := B
  intro h0 ls H locs hl hR hS
  exact lv_if_le (tgt := a) hx hb hd (by omega) (fun q => hJ _ _ _ _ (hs.1 q) h0 ls H locs hl hR hS) (fun q => hN _ _ _ (hs.2 q) h0 ls H locs hl hR hS)
theorem ax_o58 (B : ax_BC g p R s m args meth c cc own fr lo rt nL n0 top) : ax_Snd g p e R s m args below meth c Q cc own fr lo rt nL n0 top ret 58 := by
  intro pc a b d ws cv nxt jmp L st z hd hk h66 hN hJ hs
  obtain ⟨y, r, rfl, hs⟩ := ax_pI_e hs
  obtain ⟨x, r, rfl, hs⟩ := ax_pI_e hs
  obtain ⟨hx, hb, hml, hown, hts, -, -, hW, hsz, hRf, hRl, hRc, hRs, h0t⟩ := B
  intro h0 ls H locs hl hR hS
  exact lv_icmp_le (tgt := a) hx hb hd (by omega) (fun q => hJ _ _ _ _ (hs.1 q) h0 ls H locs hl hR hS) (fun q => hN _ _ _ (hs.2 q) h0 ls H locs hl hR hS)
theorem ax_o59 (B : ax_BC g p R s m args meth c cc own fr lo rt nL n0 top) : ax_Snd g p e R s m args below meth c Q cc own fr lo rt nL n0 top ret 59 := by
  intro pc a b d ws cv nxt jmp L st z hd hk h66 hN hJ hs
  obtain ⟨hx, hb, hml, hown, hts, -, -, hW, hsz, hRf, hRl, hRc, hRs, h0t⟩ := B
  intro h0 ls H locs hl hR hS
  exact lv_goto (tgt := a) hx hb hd (by omega) (hJ _ _ _ _ hs h0 ls H locs hl hR hS)
theorem ax_ofNat_toInt {k : Nat} (h : k < 1000) : (Int32.ofNat k).toInt = (k : Int) := nI_toInt (by omega)
theorem ax_sw_e {x : Int32} {d : Nat} {jmp : Nat → Prop} : ∀ {ps : List (Nat × Nat)}, (∀ q ∈ ps, q.1 < 1000) → ax_sw x d jmp ps → (∃ (j : Nat) (q : Nat × Nat), ps[j]? = some q ∧ x.toInt = (q.1 : Int) ∧ (∀ i : Nat, i < j → ∀ q' : Nat × Nat, ps[i]? = some q' → x.toInt ≠ (q'.1 : Int)) ∧ jmp q.2) ∨ ((∀ q ∈ ps, x.toInt ≠ (q.1 : Int)) ∧ jmp d) := by
  intro ps
  induction ps with
  | nil => intro _ h; exact Or.inr ⟨fun q hq => by simp at hq, h⟩
  | cons q ps ih =>
    intro hq h
    by_cases hx : x = Int32.ofNat q.1
    · left
      refine ⟨0, q, rfl, ?_, fun i hi => absurd hi (by omega), h.1 hx⟩
      rw [hx, ax_ofNat_toInt (hq q List.mem_cons_self)]
    · have hne : x.toInt ≠ (q.1 : Int) := by
        intro h2
        apply hx
        apply Int32.toInt_inj.mp
        rw [h2, ax_ofNat_toInt (hq q List.mem_cons_self)]
      rcases ih (fun q' h' => hq q' (List.mem_cons_of_mem _ h')) (h.2 hx) with ⟨j, q', h1, h2, h3, h4⟩ | ⟨h1, h2⟩
      · left
        refine ⟨j + 1, q', by simpa using h1, h2, fun i hi q'' h'' => ?_, h4⟩
        cases i with
        | zero => simp at h''; rw [← h'']; exact hne
        | succ i => exact h3 i (by omega) q'' (by simpa using h'')
      · right
        refine ⟨fun q' h' => ?_, h2⟩
        rcases List.mem_cons.mp h' with rfl | h'
        · exact hne
        · exact h1 q' h' 
theorem ax_o60 (B : ax_BC g p R s m args meth c cc own fr lo rt nL n0 top) : ax_Snd g p e R s m args below meth c Q cc own fr lo rt nL n0 top ret 60 := by
  intro pc a b d ws cv nxt jmp L st z hd hk h66 hN hJ hs
  obtain ⟨x, r, rfl, hs⟩ := ax_pI_e hs
  have hk : (decide ((ax_prs ws).map (fun q => q.1) = (List.range (ax_prs ws).length).map (fun k => b + k)) && (ax_prs ws).all (fun q => decide (q.1 < 1000))) = true := hk
  rw [Bool.and_eq_true, decide_eq_true_eq] at hk
  have hsm : ∀ q ∈ ax_prs ws, q.1 < 1000 := fun q hq => of_decide_eq_true (List.all_eq_true.mp hk.2 q hq)
  have hkey : ∀ j q, (ax_prs ws)[j]? = some q → q.1 = b + j := by
    intro j q hj
    have h1 := congrArg (fun l => l[j]?) hk.1
    have hl2 : j < (ax_prs ws).length := (List.getElem?_eq_some_iff.mp hj).1
    simp only [List.getElem?_map, hj, List.getElem?_range hl2] at h1
    simpa using h1
  obtain ⟨hx, hb, hml, hown, hts, -, -, hW, hsz, hRf, hRl, hRc, hRs, h0t⟩ := B
  intro h0 ls H locs hl hR hS
  rcases ax_sw_e hsm hs with ⟨j, q, h1, h2, h3, h4⟩ | ⟨h1, h2⟩
  · have hj := hkey j q h1
    have hl2 : j < (ax_prs ws).length := (List.getElem?_eq_some_iff.mp h1).1
    refine lv_tableIn (tgt := q.2) hx hb hd (by omega) (by omega) (off := (q.2 : Int) - (pc : Int)) ?_ (by omega) (hJ _ _ _ _ h4 h0 ls H locs hl hR hS)
    rw [show (x.toInt - (b : Int)).toNat = j by omega]
    simp [h1]
  · refine lv_tableOut (tgt := a) hx hb hd ?_ (by omega) (hJ _ _ _ _ h2 h0 ls H locs hl hR hS)
    by_cases hc : x.toInt < (b : Int)
    · exact Or.inl hc
    · right
      by_cases hd2 : (x.toInt - b).toNat < (ax_prs ws).length
      · have h5 := List.getElem?_eq_getElem hd2
        have h6 := hkey _ _ h5
        have h7 := h1 _ (List.getElem_mem hd2)
        omega
      · omega
theorem ax_o61 (B : ax_BC g p R s m args meth c cc own fr lo rt nL n0 top) : ax_Snd g p e R s m args below meth c Q cc own fr lo rt nL n0 top ret 61 := by
  intro pc a b d ws cv nxt jmp L st z hd hk h66 hN hJ hs
  obtain ⟨x, r, rfl, hs⟩ := ax_pI_e hs
  have hk : ((ax_prs ws).all (fun q => decide (q.1 < 1000)) && (((ax_prs ws).map fun q => ((q.1 : Int), (q.2 : Int))).zip (((ax_prs ws).map fun q => ((q.1 : Int), (q.2 : Int))).drop 1)).all (fun (x, y) => decide (x.1 < y.1))) = true := hk
  rw [Bool.and_eq_true] at hk
  have hsm : ∀ q ∈ ax_prs ws, q.1 < 1000 := fun q hq => of_decide_eq_true (List.all_eq_true.mp hk.1 q hq)
  obtain ⟨hx, hb, hml, hown, hts, -, -, hW, hsz, hRf, hRl, hRc, hRs, h0t⟩ := B
  intro h0 ls H locs hl hR hS
  have hoff : ∀ (ps : List (Nat × Nat)) (jmp : Nat → Prop), (∀ q ∈ ps, q.1 < 1000) → ax_sw x a jmp ps → ∃ t : Nat, Op.lookupswitch.offset (ps.map fun q => ((q.1 : Int), (q.2 : Int) - (pc : Int))) ((a : Int) - (pc : Int)) x.toInt = (t : Int) - (pc : Int) ∧ jmp t := by
    intro ps
    induction ps with
    | nil => intro jmp _ h; exact ⟨a, rfl, h⟩
    | cons q ps ih =>
      intro jmp hq h
      rw [List.map_cons, Op.lookupswitch.offset_cons]
      by_cases hx2 : x = Int32.ofNat q.1
      · rw [if_pos (by rw [hx2, ax_ofNat_toInt (hq q List.mem_cons_self)])]
        exact ⟨q.2, rfl, h.1 hx2⟩
      · rw [if_neg ?_]
        · exact ih jmp (fun q' h' => hq q' (List.mem_cons_of_mem _ h')) (h.2 hx2)
        · intro h2
          apply hx2
          apply Int32.toInt_inj.mp
          rw [ax_ofNat_toInt (hq q List.mem_cons_self)]
          exact h2.symm
  obtain ⟨t, h1, h2⟩ := hoff _ _ hsm hs
  refine lv_lookup (tgt := t) hx hb hd ?_ (off := (t : Int) - (pc : Int)) ?_ (by omega) (hJ _ _ _ _ h2 h0 ls H locs hl hR hS)
  · have h3 := hk.2
    rw [List.all_eq_true] at h3 ⊢
    intro y hy
    simp only [List.toList_toArray] at hy
    rw [List.drop_one, ← List.map_tail, List.zip_map] at hy
    rw [List.drop_one, ← List.map_tail, List.zip_map] at h3
    obtain ⟨w, hw1, hw2⟩ := List.mem_map.mp hy
    have h4 := h3 _ (List.mem_map.mpr ⟨w, hw1, rfl⟩)
    rw [← hw2]
    simpa using h4
  · simp only [List.toList_toArray]
    exact h1
theorem ax_o62 (B : ax_BC g p R s m args meth c cc own fr lo rt nL n0 top) : ax_Snd g p e R s m args below meth c Q cc own fr lo rt nL n0 top ret 62 := by
  intro pc a b d ws cv nxt jmp L st z hd hk h66 hN hJ hs
  obtain ⟨k, r, rfl, h1, h2, hs⟩ := ax_pR_e hs
  have hk : (decide (a < 10 ∧ b < ax_N a ∧ ax_fk a b = d ∧ ax_wd (ws.getD 1 9) (ws.getD 2 0) = some (.fieldLink own (ws.getD 0 0) (ax_Tb a b).1 (ax_Tb a b).2.1 (ax_Tb a b).2.2.1)) && goodWord (.fieldLink own (ws.getD 0 0) (ax_Tb a b).1 (ax_Tb a b).2.1 (ax_Tb a b).2.2.1)) = true := hk
  rw [Bool.and_eq_true, decide_eq_true_eq] at hk
  obtain ⟨⟨k1, k2, k3, k4⟩, k5⟩ := hk
  exact ax_get B k1 k2 k3 (ax_in _ _ k4 k5) hd h1 h2 (hN _ _ _ hs)
theorem ax_gv_d1 {z : ax_St} {k j i t : Nat} {v : Int32} (hij : i = j → t ≠ 1 ∧ t ≠ 2) : ax_gv (ax_d1 z k j v) k i t = if i = j then .int v else ax_gv z k i t := by
  unfold ax_d1
  by_cases h : i = j
  · subst h
    rw [if_pos rfl]
    obtain ⟨h1, h2⟩ := hij rfl
    unfold ax_gv
    split
    · exact absurd rfl h1
    · exact absurd rfl h2
    · simp [ax_up]
  · rw [if_neg h]
    unfold ax_gv
    split <;> simp [ax_up, h]
theorem ax_gv_e1 {z : ax_St} {k j i t : Nat} {v : Int64} (hij : i = j → t = 1) : ax_gv (ax_e1 z k j v) k i t = if i = j then .long v else ax_gv z k i t := by
  unfold ax_e1
  by_cases h : i = j
  · subst h
    rw [if_pos rfl, hij rfl]
    simp [ax_gv, ax_up]
  · rw [if_neg h]
    unfold ax_gv
    split <;> simp [ax_up, h]
theorem ax_gv_r1 {z : ax_St} {k j i t v : Nat} (hij : i = j → t = 2) : ax_gv (ax_r1 z k j (some v)) k i t = if i = j then .ref v else ax_gv z k i t := by
  unfold ax_r1
  by_cases h : i = j
  · subst h
    rw [if_pos rfl, hij rfl]
    simp [ax_gv, ax_up, ax_rv]
  · rw [if_neg h]
    unfold ax_gv
    split <;> simp [ax_up, h]
theorem ax_o63 (B : ax_BC g p R s m args meth c cc own fr lo rt nL n0 top) : ax_Snd g p e R s m args below meth c Q cc own fr lo rt nL n0 top ret 63 := by
  intro pc a b d ws cv nxt jmp L st z hd hk h66 hN hJ hs
  obtain ⟨v, r, rfl, hs⟩ := ax_pI_e hs
  obtain ⟨k, r, rfl, h1, h2, hs⟩ := ax_pR_e hs
  have hk : (decide (a < 10 ∧ b < ax_N a ∧ ax_ty a b = .int ∧ (ax_Tb a b).2.2.2 = false ∧ ax_wd (ws.getD 1 9) (ws.getD 2 0) = some (.fieldLink own (ws.getD 0 0) (ax_Tb a b).1 (ax_Tb a b).2.1 (ax_Tb a b).2.2.1)) && goodWord (.fieldLink own (ws.getD 0 0) (ax_Tb a b).1 (ax_Tb a b).2.1 (ax_Tb a b).2.2.1)) = true := hk
  rw [Bool.and_eq_true, decide_eq_true_eq] at hk
  obtain ⟨⟨k1, k2, k3, k4, k5⟩, k6⟩ := hk
  refine ax_put B k1 k2 k3 k4 (ax_in _ _ k5 k6) hd h1 h2 (v := .int v) (z' := ax_d1 z k b v) rfl rfl rfl (fun i => ?_) (fun i hi => ax_ce_n hi _) (hN _ _ _ hs)
  have hf : ax_fk a b ≠ 1 ∧ ax_fk a b ≠ 2 := by unfold ax_fk; rw [k3]; decide
  by_cases hi : i = b
  · subst hi
    exact ax_gv_d1 (fun _ => hf)
  · exact ax_gv_d1 (fun q => absurd q hi)
theorem ax_o64 (B : ax_BC g p R s m args meth c cc own fr lo rt nL n0 top) : ax_Snd g p e R s m args below meth c Q cc own fr lo rt nL n0 top ret 64 := by
  intro pc a b d ws cv nxt jmp L st z hd hk h66 hN hJ hs
  obtain ⟨v, r, rfl, hs⟩ := ax_pI_e hs
  obtain ⟨k, r, rfl, h1, h2, h3, hs⟩ := ax_pR_e hs
  have hk : (decide (a < 10 ∧ b < ax_N a ∧ ax_ty a b = .boolean ∧ (ax_Tb a b).2.2.2 = false ∧ ax_wd (ws.getD 1 9) (ws.getD 2 0) = some (.fieldLink own (ws.getD 0 0) (ax_Tb a b).1 (ax_Tb a b).2.1 (ax_Tb a b).2.2.1)) && goodWord (.fieldLink own (ws.getD 0 0) (ax_Tb a b).1 (ax_Tb a b).2.1 (ax_Tb a b).2.2.1)) = true := hk
  rw [Bool.and_eq_true, decide_eq_true_eq] at hk
  obtain ⟨⟨k1, k2, k3, k4, k5⟩, k6⟩ := hk
  refine ax_put B k1 k2 k3 k4 (ax_in _ _ k5 k6) hd h1 h2 (v := .int v) (z' := ax_d1 z k b v) (by rcases h3 with rfl | rfl <;> rfl) (by rcases h3 with rfl | rfl <;> rfl) rfl (fun i => ?_) (fun i hi => ax_ce_n hi _) (hN _ _ _ hs)
  have hf : ax_fk a b ≠ 1 ∧ ax_fk a b ≠ 2 := by unfold ax_fk; rw [k3]; decide
  by_cases hi : i = b
  · subst hi
    exact ax_gv_d1 (fun _ => hf)
  · exact ax_gv_d1 (fun q => absurd q hi)
theorem ax_o65 (B : ax_BC g p R s m args meth c cc own fr lo rt nL n0 top) : ax_Snd g p e R s m args below meth c Q cc own fr lo rt nL n0 top ret 65 := by
  intro pc a b d ws cv nxt jmp L st z hd hk h66 hN hJ hs
  obtain ⟨v, r, rfl, hs⟩ := ax_pL_e hs
  obtain ⟨k, r, rfl, h1, h2, hs⟩ := ax_pR_e hs
  have hk : (decide (a < 10 ∧ b < ax_N a ∧ ax_ty a b = .long ∧ (ax_Tb a b).2.2.2 = false ∧ ax_wd (ws.getD 1 9) (ws.getD 2 0) = some (.fieldLink own (ws.getD 0 0) (ax_Tb a b).1 (ax_Tb a b).2.1 (ax_Tb a b).2.2.1)) && goodWord (.fieldLink own (ws.getD 0 0) (ax_Tb a b).1 (ax_Tb a b).2.1 (ax_Tb a b).2.2.1)) = true := hk
  rw [Bool.and_eq_true, decide_eq_true_eq] at hk
  obtain ⟨⟨k1, k2, k3, k4, k5⟩, k6⟩ := hk
  refine ax_put B k1 k2 k3 k4 (ax_in _ _ k5 k6) hd h1 h2 (v := .long v) (z' := ax_e1 z k b v) rfl rfl rfl (fun i => ?_) (fun i hi => ax_ce_e hi _) (hN _ _ _ hs)
  refine ax_gv_e1 (fun q => ?_)
  subst q
  unfold ax_fk
  rw [k3]
theorem ax_o66 (B : ax_BC g p R s m args meth c cc own fr lo rt nL n0 top) : ax_Snd g p e R s m args below meth c Q cc own fr lo rt nL n0 top ret 66 := by
  intro pc a b d ws cv nxt jmp L st z hd hk h66 hN hJ hs
  obtain ⟨v, r, rfl, hs⟩ := ax_pR_e hs
  obtain ⟨k, r, rfl, h1, h2, hs⟩ := ax_pR_e hs
  have hk : ((decide (a < 10 ∧ b < ax_N a ∧ ax_fk a b = 2 ∧ (ax_Tb a b).2.2.2 = true ∧ (ax_Tb a b).1 = own ∧ ax_wd (ws.getD 1 9) (ws.getD 2 0) = some (.fieldLink own (ws.getD 0 0) (ax_Tb a b).1 (ax_Tb a b).2.1 (ax_Tb a b).2.2.1)) && goodWord (.fieldLink own (ws.getD 0 0) (ax_Tb a b).1 (ax_Tb a b).2.1 (ax_Tb a b).2.2.1)) && (match ax_ty a b with | .object _ => true | .array _ => true | _ => false)) = true := hk
  rw [Bool.and_eq_true, Bool.and_eq_true, decide_eq_true_eq] at hk
  obtain ⟨⟨⟨k1, k2, k3, k4, k5, k6⟩, k7⟩, k8⟩ := hk
  have hnf : narrow (ax_ty a b) (ax_cv g (.ref v)) = ax_cv g (.ref v) ∧ fits (ax_ty a b) (ax_cv g (.ref v)) = true := by
    cases hty : ax_ty a b <;> rw [hty] at k8 <;> first | (simp at k8; done) | exact ⟨rfl, rfl⟩
  refine ax_putF B (h66 rfl) k1 k2 rfl k4 k5 (ax_in _ _ k6 k7) hd h1 h2 (v := .ref v) (z' := ax_r1 z k b (some v)) hnf.1 hnf.2 rfl (fun i => ?_) (fun i hi => ax_ce_r hi _) (hN _ _ _ hs)
  refine ax_gv_r1 (fun q => ?_)
  subst q
  exact k3
theorem ax_o67 (B : ax_BC g p R s m args meth c cc own fr lo rt nL n0 top) : ax_Snd g p e R s m args below meth c Q cc own fr lo rt nL n0 top ret 67 := by
  intro pc a b d ws cv nxt jmp L st z hd hk h66 hN hJ hs
  obtain ⟨i, r, rfl, h1⟩ := ax_pI_e (f := fun i r => ax_pR r fun k r => ax_ia z (ax_xt g) k fun n f => vp_in i n ∧ nxt L (.int (f i.toNatClampNeg) :: r) z) hs
  obtain ⟨k, r, rfl, h2⟩ := ax_pR_e (f := fun k r => ax_ia z (ax_xt g) k fun n f => vp_in i n ∧ nxt L (.int (f i.toNatClampNeg) :: r) z) h1
  refine ax_iald B hd ?_
  unfold ax_ia at h2 ⊢
  split
  · rename_i hc; rw [if_pos hc] at h2; exact ⟨h2.1, h2.2.1, h2.2.2.1, hN _ _ _ h2.2.2.2⟩
  · rename_i hc; rw [if_neg hc] at h2; exact ⟨h2.1, h2.2.1, hN _ _ _ h2.2.2⟩
theorem ax_o68 (B : ax_BC g p R s m args meth c cc own fr lo rt nL n0 top) : ax_Snd g p e R s m args below meth c Q cc own fr lo rt nL n0 top ret 68 := by
  intro pc a b d ws cv nxt jmp L st z hd hk h66 hN hJ hs
  obtain ⟨v, r, rfl, hs⟩ := ax_pI_e hs
  obtain ⟨i, r, rfl, hs⟩ := ax_pI_e hs
  obtain ⟨k, r, rfl, h1, h2, h3, hs⟩ := ax_pR_e hs
  exact ax_iast B hd h1 h2 h3 (hN _ _ _ hs)
theorem ax_o69 (B : ax_BC g p R s m args meth c cc own fr lo rt nL n0 top) : ax_Snd g p e R s m args below meth c Q cc own fr lo rt nL n0 top ret 69 := by
  intro pc a b d ws cv nxt jmp L st z hd hk h66 hN hJ hs
  obtain ⟨i, r, rfl, hs⟩ := ax_pI_e hs
  obtain ⟨k, r, rfl, h1, h2, h3, hs⟩ := ax_pR_e hs
  exact ax_lald B hd h1 h2 h3 (hN _ _ _ hs)
theorem ax_o70 (B : ax_BC g p R s m args meth c cc own fr lo rt nL n0 top) : ax_Snd g p e R s m args below meth c Q cc own fr lo rt nL n0 top ret 70 := by
  intro pc a b d ws cv nxt jmp L st z hd hk h66 hN hJ hs
  obtain ⟨v, r, rfl, hs⟩ := ax_pL_e hs
  obtain ⟨i, r, rfl, hs⟩ := ax_pI_e hs
  obtain ⟨k, r, rfl, h1, h2, h3, hs⟩ := ax_pR_e hs
  exact ax_last B hd h1 h2 h3 (hN _ _ _ hs)
theorem ax_o71 (B : ax_BC g p R s m args meth c cc own fr lo rt nL n0 top) : ax_Snd g p e R s m args below meth c Q cc own fr lo rt nL n0 top ret 71 := by
  intro pc a b d ws cv nxt jmp L st z hd hk h66 hN hJ hs
  obtain ⟨k, r, rfl, h2⟩ := ax_pR_e (f := fun k r => if k < 1000 then k < z.1 ∧ ((ax_kd k).1 = 10 ∨ (ax_kd k).1 = 11) ∧ nxt L (.int (Int32.ofNat (ax_kd k).2) :: r) z else k < 1003 ∧ nxt L (.int (Int32.ofNat (ax_xt g k).1) :: r) z) hs
  refine ax_alen B hd ?_
  split
  · rename_i hc; rw [if_pos hc] at h2; exact ⟨h2.1, h2.2.1, hN _ _ _ h2.2.2⟩
  · rename_i hc; rw [if_neg hc] at h2; exact ⟨h2.1, hN _ _ _ h2.2⟩
theorem ax_o72 (B : ax_BC g p R s m args meth c cc own fr lo rt nL n0 top) : ax_Snd g p e R s m args below meth c Q cc own fr lo rt nL n0 top ret 72 := by
  intro pc a b d ws cv nxt jmp L st z hd hk h66 hN hJ hs
  have hk : ((decide (a = 1001 ∧ ax_wd (ws.getD 1 9) (ws.getD 2 0) = some (.fieldLink own (ws.getD 0 0) "AskewLetters" "LEAST_SETTING" "[I")) && goodWord (.fieldLink own (ws.getD 0 0) "AskewLetters" "LEAST_SETTING" "[I")) || (decide (a = 1002 ∧ ax_wd (ws.getD 1 9) (ws.getD 2 0) = some (.fieldLink own (ws.getD 0 0) "AskewLetters" "GREATEST_SETTING" "[I")) && goodWord (.fieldLink own (ws.getD 0 0) "AskewLetters" "GREATEST_SETTING" "[I"))) = true := hk
  simp only [Bool.or_eq_true, Bool.and_eq_true, decide_eq_true_eq] at hk
  obtain ⟨hx, hb, hml, hown, hts, -, -, hW, hsz, hRf, hRl, hRc, hRs, h0t⟩ := B
  intro h0 ls H locs hl hR hS
  rcases hk with ⟨⟨rfl, k2⟩, k3⟩ | ⟨⟨rfl, k2⟩, k3⟩
  · exact va_gets hx hb hW.2.2.2.1 hS hown (hts _ (ax_in _ _ k2 k3)) (fun _ h9 => h9) hd (hN _ _ _ hs h0 ls H locs hl hR hS)
  · exact va_gets hx hb hW.2.2.2.2 hS hown (hts _ (ax_in _ _ k2 k3)) (fun _ h9 => h9) hd (hN _ _ _ hs h0 ls H locs hl hR hS)
theorem ax_o73 (B : ax_BC g p R s m args meth c cc own fr lo rt nL n0 top) : ax_Snd g p e R s m args below meth c Q cc own fr lo rt nL n0 top ret 73 := by
  intro pc a b d ws cv nxt jmp L st z hd hk h66 hN hJ hs
  obtain ⟨as, r, rfl, hlen, hs⟩ := ax_tk_e hs
  obtain ⟨k, r, rfl, h1, h2, h3, h4, hs⟩ := ax_pR_e hs
  have hk : (decide (a < 205 ∧ (ax_M a).2.2.2.2.2.2.1 = 0 ∧ (ax_M a).2.2.2.2.2.2.2 = b ∧ d < 10 ∧ ax_cn d = (ax_M a).1.cls ∧ (ax_M a).2.2.2.2.1 + 1 ≤ fr ∧ 8 + ((ax_M a).2.2.1 + 11) + (ax_M a).2.2.2.2.2.1 ≤ lo ∧ ax_wd (ws.getD 1 9) (ws.getD 2 0) = some (.methodLink own (ws.getD 0 0) (ax_M a).1)) && goodWord (.methodLink own (ws.getD 0 0) (ax_M a).1)) = true := hk
  rw [Bool.and_eq_true, decide_eq_true_eq] at hk
  obtain ⟨⟨k1, k2, k3, k4, k5, k6, k7, k8⟩, k9⟩ := hk
  have := ax_callV B (st := r) (L := L) k1 k2 k3 k4 k5 k6 k7 (ax_in _ _ k8 k9) hd (as := as.reverse ++ []) (by simp [hlen]) h1 h2 h3 h4 hs (fun v z' h => hN _ _ _ h)
  simpa using this
theorem ax_o74 (B : ax_BC g p R s m args meth c cc own fr lo rt nL n0 top) : ax_Snd g p e R s m args below meth c Q cc own fr lo rt nL n0 top ret 74 := by
  intro pc a b d ws cv nxt jmp L st z hd hk h66 hN hJ hs
  obtain ⟨as, r, rfl, hlen, h3, h4, hs⟩ := ax_tk_e hs
  have hk : (decide (a < 205 ∧ (ax_M a).2.2.2.2.2.2.1 = 1 ∧ (ax_M a).2.2.2.2.2.2.2 = b ∧ (ax_M a).2.2.2.2.1 + 1 ≤ fr ∧ 8 + ((ax_M a).2.2.1 + 11) + (ax_M a).2.2.2.2.2.1 ≤ lo ∧ ax_wd (ws.getD 1 9) (ws.getD 2 0) = some (.methodLink own (ws.getD 0 0) (ax_M a).1)) && goodWord (.methodLink own (ws.getD 0 0) (ax_M a).1)) = true := hk
  rw [Bool.and_eq_true, decide_eq_true_eq] at hk
  obtain ⟨⟨k1, k2, k3, k6, k7, k8⟩, k9⟩ := hk
  have := ax_callS B (st := r) (L := L) k1 k2 k3 k6 k7 (ax_in _ _ k8 k9) hd (as := as.reverse ++ []) (by simp [hlen]) h3 h4 hs (fun v z' h => hN _ _ _ h)
  simpa using this
theorem ax_o75 (B : ax_BC g p R s m args meth c cc own fr lo rt nL n0 top) : ax_Snd g p e R s m args below meth c Q cc own fr lo rt nL n0 top ret 75 := by
  intro pc a b d ws cv nxt jmp L st z hd hk h66 hN hJ hs
  obtain ⟨k, r, rfl, h3, h4, hs⟩ := ax_pR_e hs
  have hk : (decide (a < 205 ∧ (ax_M a).2.2.2.2.2.2.1 = 2 ∧ (ax_M a).2.2.2.2.2.2.2 = 0 ∧ (ax_M a).2.2.2.2.1 + 1 ≤ fr ∧ 8 + ((ax_M a).2.2.1 + 11) + (ax_M a).2.2.2.2.2.1 ≤ lo ∧ ax_wd (ws.getD 1 9) (ws.getD 2 0) = some (.methodLink own (ws.getD 0 0) (ax_M a).1)) && goodWord (.methodLink own (ws.getD 0 0) (ax_M a).1)) = true := hk
  rw [Bool.and_eq_true, decide_eq_true_eq] at hk
  obtain ⟨⟨k1, k2, k3, k6, k7, k8⟩, k9⟩ := hk
  exact ax_callI B k1 k2 k3 k6 k7 (Or.inl (ax_in _ _ k8 k9)) hd h3 h4 hs (fun v z' h => hN _ _ _ h)
theorem ax_o76 (B : ax_BC g p R s m args meth c cc own fr lo rt nL n0 top) : ax_Snd g p e R s m args below meth c Q cc own fr lo rt nL n0 top ret 76 := by
  intro pc a b d ws cv nxt jmp L st z hd hk h66 hN hJ hs
  obtain ⟨k, r, rfl, h3, h4, hs⟩ := ax_pR_e hs
  have hk : (decide (a < 205 ∧ (ax_M a).2.2.2.2.2.2.1 = 2 ∧ (ax_M a).2.2.2.2.2.2.2 = 0 ∧ (ax_M a).2.2.2.2.1 + 1 ≤ fr ∧ 8 + ((ax_M a).2.2.1 + 11) + (ax_M a).2.2.2.2.2.1 ≤ lo ∧ (own, ws.getD 0 0, a) ∈ ax_nest)) = true := hk
  rw [decide_eq_true_eq] at hk
  obtain ⟨k1, k2, k3, k6, k7, k8⟩ := hk
  exact ax_callI B k1 k2 k3 k6 k7 (Or.inr k8) hd h3 h4 hs (fun v z' h => hN _ _ _ h)
theorem ax_o77 (B : ax_BC g p R s m args meth c cc own fr lo rt nL n0 top) : ax_Snd g p e R s m args below meth c Q cc own fr lo rt nL n0 top ret 77 := by
  intro pc a b d ws cv nxt jmp L st z hd hk h66 hN hJ hs
  obtain ⟨k, r, rfl, h3, hs⟩ := ax_pR_e hs
  have hk : (decide (1 ≤ fr ∧ 20 ≤ lo ∧ ax_wd (ws.getD 1 9) (ws.getD 2 0) = some (.methodLink own (ws.getD 0 0) objectInit)) && goodWord (.methodLink own (ws.getD 0 0) objectInit)) = true := hk
  rw [Bool.and_eq_true, decide_eq_true_eq] at hk
  obtain ⟨⟨k1, k2, k8⟩, k9⟩ := hk
  obtain ⟨hx, hb, hml, hown, hts, -, -, hW, hsz, hRf, hRl, hRc, hRs, h0t⟩ := B
  intro h0 ls H locs hl hR hS
  refine W.objInit hx hb hown (hts _ (ax_in _ _ k8 k9)) (hts _ (ax_in 1 19 (by decide +kernel) (by decide +kernel))) (hts _ (ax_in 1 20 rfl (by decide +kernel))) rfl (by rw [hml]; exact hl.1) rfl hd (by omega) ?_ (hN _ _ _ hs h0 ls H locs hl hR hS)
  rw [ax_cs_eq]
  show 2 * 0 + _ + 12 ≤ _
  omega
theorem ax_o78 (B : ax_BC g p R s m args meth c cc own fr lo rt nL n0 top) : ax_Snd g p e R s m args below meth c Q cc own fr lo rt nL n0 top ret 78 := by
  intro pc a b d ws cv nxt jmp L st z hd hk h66 hN hJ hs
  obtain ⟨n, r, rfl, hs⟩ := ax_pI_e hs
  obtain ⟨dp, r, rfl, hs⟩ := ax_pI_e hs
  obtain ⟨k1, r, rfl, hs⟩ := ax_pR_e hs
  obtain ⟨sp, r, rfl, hs⟩ := ax_pI_e hs
  obtain ⟨k0, r, rfl, q1, q2, q3, q4, q5, q6, q7, q8, q9, q10, hs⟩ := ax_pR_e hs
  have hk : (decide (1 ≤ fr ∧ 30 ≤ lo ∧ ax_wd (ws.getD 1 9) (ws.getD 2 0) = some (.methodLink own (ws.getD 0 0) arraycopyName)) && goodWord (.methodLink own (ws.getD 0 0) arraycopyName)) = true := hk
  rw [Bool.and_eq_true, decide_eq_true_eq] at hk
  obtain ⟨⟨j1, j2, j8⟩, j9⟩ := hk
  exact ax_copy B j1 j2 (ax_in _ _ j8 j9) hd q1 q2 q3 q4 q5 q6 q7 q8 q9 q10 (hN _ _ _ hs)
theorem ax_o79 (B : ax_BC g p R s m args meth c cc own fr lo rt nL n0 top) : ax_Snd g p e R s m args below meth c Q cc own fr lo rt nL n0 top ret 79 := by
  intro pc a b d ws cv nxt jmp L st z hd hk h66 hN hJ hs
  obtain ⟨h1, h2, h3, hs⟩ := hs
  have hk : (((decide (a < 10 ∧ b = ax_N a ∧ ax_wd (ws.getD 1 9) (ws.getD 2 0) = some (.classLink own (ws.getD 0 0) (ax_cn a)) ∧ ax_wd (ws.getD 3 9) (ws.getD 4 0) = some (.instantiable (ax_cn a) (ax_N a)) ∧ ax_wd (ws.getD 5 9) (ws.getD 6 0) = some (.initialized (ax_cn a))) && goodWord (.classLink own (ws.getD 0 0) (ax_cn a))) && goodWord (.instantiable (ax_cn a) (ax_N a))) && goodWord (.initialized (ax_cn a))) = true := hk
  rw [Bool.and_eq_true, Bool.and_eq_true, Bool.and_eq_true, decide_eq_true_eq] at hk
  obtain ⟨⟨⟨⟨k1, rfl, k3, k4, k5⟩, k6⟩, k7⟩, k8⟩ := hk
  exact ax_newo B k1 (ax_in _ _ k3 k6) (ax_in _ _ k4 k7) (ax_in _ _ k5 k8) hd h1 h2 h3 (hN _ _ _ hs)
theorem ax_o80 (B : ax_BC g p R s m args meth c cc own fr lo rt nL n0 top) : ax_Snd g p e R s m args below meth c Q cc own fr lo rt nL n0 top ret 80 := by
  intro pc a b d ws cv nxt jmp L st z hd hk h66 hN hJ hs
  obtain ⟨n, r, rfl, h1, h2, h3, h4, hs⟩ := ax_pI_e hs
  exact ax_newaI B hd h1 h2 h3 h4 (hN _ _ _ hs)
theorem ax_o81 (B : ax_BC g p R s m args meth c cc own fr lo rt nL n0 top) : ax_Snd g p e R s m args below meth c Q cc own fr lo rt nL n0 top ret 81 := by
  intro pc a b d ws cv nxt jmp L st z hd hk h66 hN hJ hs
  obtain ⟨n, r, rfl, h1, h2, h3, h4, hs⟩ := ax_pI_e hs
  exact ax_newaJ B hd h1 h2 h3 h4 (hN _ _ _ hs)
theorem ax_o86 (B : ax_BC g p R s m args meth c cc own fr lo rt nL n0 top) : ax_Snd g p e R s m args below meth c Q cc own fr lo rt nL n0 top ret 86 := by
  intro pc a b d ws cv nxt jmp L st z hd hk h66 hN hJ hs
  obtain ⟨y, r, rfl, hs⟩ := ax_pI_e hs
  obtain ⟨x, r, rfl, h1, h2, hs⟩ := ax_pI_e hs
  have hk : (decide (1 ≤ fr ∧ 30 ≤ lo ∧ ax_wd (ws.getD 1 9) (ws.getD 2 0) = some (.methodLink own (ws.getD 0 0) Lib.Math.max.name)) && goodWord (.methodLink own (ws.getD 0 0) Lib.Math.max.name)) = true := hk
  rw [Bool.and_eq_true, decide_eq_true_eq] at hk
  obtain ⟨⟨k1, k2, k8⟩, k9⟩ := hk
  obtain ⟨hx, hb, hml, hown, hts, -, -, hW, hsz, hRf, hRl, hRc, hRs, h0t⟩ := B
  intro h0 ls H locs hl hR hS
  have m1 := ax_Sl_mono h2
  refine va_mmax hx hb (by rw [hml]; exact hl.1.symm) hown (hts _ (ax_in _ _ k8 k9)) (hts _ (ax_in 2 167 (by decide +kernel) (by decide +kernel))) (hts _ (ax_in 1 11 (by decide +kernel) (by decide +kernel))) (hts _ (ax_in 2 168 (by decide +kernel) (by decide +kernel))) (by omega) (by rw [ax_cs_eq]; omega) (by omega) (by omega) hd (hN _ _ _ hs h0 ls H locs hl hR hS)
theorem ax_o87 (B : ax_BC g p R s m args meth c cc own fr lo rt nL n0 top) : ax_Snd g p e R s m args below meth c Q cc own fr lo rt nL n0 top ret 87 := by
  intro pc a b d ws cv nxt jmp L st z hd hk h66 hN hJ hs
  obtain ⟨y, r, rfl, hs⟩ := ax_pI_e hs
  obtain ⟨x, r, rfl, h1, h2, hs⟩ := ax_pI_e hs
  have hk : (decide (1 ≤ fr ∧ 30 ≤ lo ∧ ax_wd (ws.getD 1 9) (ws.getD 2 0) = some (.methodLink own (ws.getD 0 0) Lib.Math.min.name)) && goodWord (.methodLink own (ws.getD 0 0) Lib.Math.min.name)) = true := hk
  rw [Bool.and_eq_true, decide_eq_true_eq] at hk
  obtain ⟨⟨k1, k2, k8⟩, k9⟩ := hk
  obtain ⟨hx, hb, hml, hown, hts, -, -, hW, hsz, hRf, hRl, hRc, hRs, h0t⟩ := B
  intro h0 ls H locs hl hR hS
  have m1 := ax_Sl_mono h2
  refine va_mmin hx hb (by rw [hml]; exact hl.1.symm) hown (hts _ (ax_in _ _ k8 k9)) (hts _ (ax_in 2 164 (by decide +kernel) (by decide +kernel))) (hts _ (ax_in 1 11 (by decide +kernel) (by decide +kernel))) (hts _ (ax_in 2 165 (by decide +kernel) (by decide +kernel))) (by omega) (by rw [ax_cs_eq]; omega) (by omega) (by omega) hd (hN _ _ _ hs h0 ls H locs hl hR hS)
theorem ax_o88 (B : ax_BC g p R s m args meth c cc own fr lo rt nL n0 top) : ax_Snd g p e R s m args below meth c Q cc own fr lo rt nL n0 top ret 88 := by
  intro pc a b d ws cv nxt jmp L st z hd hk h66 hN hJ hs
  obtain ⟨x, r, rfl, h1, h2, hs⟩ := ax_pI_e hs
  have hk : (decide (1 ≤ fr ∧ 30 ≤ lo ∧ ax_wd (ws.getD 1 9) (ws.getD 2 0) = some (.methodLink own (ws.getD 0 0) Lib.Math.abs.name)) && goodWord (.methodLink own (ws.getD 0 0) Lib.Math.abs.name)) = true := hk
  rw [Bool.and_eq_true, decide_eq_true_eq] at hk
  obtain ⟨⟨k1, k2, k8⟩, k9⟩ := hk
  obtain ⟨hx, hb, hml, hown, hts, -, -, hW, hsz, hRf, hRl, hRc, hRs, h0t⟩ := B
  intro h0 ls H locs hl hR hS
  have m1 := ax_Sl_mono h2
  refine va_mabs hx hb (by rw [hml]; exact hl.1.symm) hown (hts _ (ax_in _ _ k8 k9)) (hts _ (ax_in 2 239 (by decide +kernel) (by decide +kernel))) (hts _ (ax_in 1 11 (by decide +kernel) (by decide +kernel))) (hts _ (ax_in 3 0 (by decide +kernel) (by decide +kernel))) (by omega) (by rw [ax_cs_eq]; omega) (by omega) (by omega) hd (hN _ _ _ hs h0 ls H locs hl hR hS)
theorem ax_o89 (B : ax_BC g p R s m args meth c cc own fr lo rt nL n0 top) : ax_Snd g p e R s m args below meth c Q cc own fr lo rt nL n0 top ret 89 := by
  intro pc a b d ws cv nxt jmp L st z hd hk h66 hN hJ hs
  obtain ⟨y, r, rfl, hs⟩ := ax_pL_e hs
  obtain ⟨x, r, rfl, h1, h2, hs⟩ := ax_pL_e hs
  have hk : (decide (1 ≤ fr ∧ 30 ≤ lo ∧ ax_wd (ws.getD 1 9) (ws.getD 2 0) = some (.methodLink own (ws.getD 0 0) Lib.MathLoose.max_long.x)) && goodWord (.methodLink own (ws.getD 0 0) Lib.MathLoose.max_long.x)) = true := hk
  rw [Bool.and_eq_true, decide_eq_true_eq] at hk
  obtain ⟨⟨k1, k2, k8⟩, k9⟩ := hk
  obtain ⟨hx, hb, hml, hown, hts, -, -, hW, hsz, hRf, hRl, hRc, hRs, h0t⟩ := B
  intro h0 ls H locs hl hR hS
  have m1 := ax_Sl_mono h2
  refine va_mmax_long hx hb (by rw [hml]; exact hl.1.symm) hown (hts _ (ax_in _ _ k8 k9)) (hts _ (ax_in 3 130 (by decide +kernel) (by decide +kernel))) (hts _ (ax_in 1 11 (by decide +kernel) (by decide +kernel))) (hts _ (ax_in 3 131 (by decide +kernel) (by decide +kernel))) (by omega) (by rw [ax_cs_eq]; omega) (by omega) (by omega) hd (hN _ _ _ hs h0 ls H locs hl hR hS)
theorem ax_o90 (B : ax_BC g p R s m args meth c cc own fr lo rt nL n0 top) : ax_Snd g p e R s m args below meth c Q cc own fr lo rt nL n0 top ret 90 := by
  intro pc a b d ws cv nxt jmp L st z hd hk h66 hN hJ hs
  obtain ⟨y, r, rfl, hs⟩ := ax_pL_e hs
  obtain ⟨x, r, rfl, h1, h2, hs⟩ := ax_pL_e hs
  have hk : (decide (1 ≤ fr ∧ 30 ≤ lo ∧ ax_wd (ws.getD 1 9) (ws.getD 2 0) = some (.methodLink own (ws.getD 0 0) Lib.MathLoose.min_long.x)) && goodWord (.methodLink own (ws.getD 0 0) Lib.MathLoose.min_long.x)) = true := hk
  rw [Bool.and_eq_true, decide_eq_true_eq] at hk
  obtain ⟨⟨k1, k2, k8⟩, k9⟩ := hk
  obtain ⟨hx, hb, hml, hown, hts, -, -, hW, hsz, hRf, hRl, hRc, hRs, h0t⟩ := B
  intro h0 ls H locs hl hR hS
  have m1 := ax_Sl_mono h2
  refine va_mmin_long hx hb (by rw [hml]; exact hl.1.symm) hown (hts _ (ax_in _ _ k8 k9)) (hts _ (ax_in 3 142 (by decide +kernel) (by decide +kernel))) (hts _ (ax_in 1 11 (by decide +kernel) (by decide +kernel))) (hts _ (ax_in 3 143 (by decide +kernel) (by decide +kernel))) (by omega) (by rw [ax_cs_eq]; omega) (by omega) (by omega) hd (hN _ _ _ hs h0 ls H locs hl hR hS)
theorem ax_o91 (B : ax_BC g p R s m args meth c cc own fr lo rt nL n0 top) : ax_Snd g p e R s m args below meth c Q cc own fr lo rt nL n0 top ret 91 := by
  intro pc a b d ws cv nxt jmp L st z hd hk h66 hN hJ hs
  obtain ⟨x, r, rfl, h1, h2, hs⟩ := ax_pL_e hs
  have hk : (decide (1 ≤ fr ∧ 30 ≤ lo ∧ ax_wd (ws.getD 1 9) (ws.getD 2 0) = some (.methodLink own (ws.getD 0 0) Lib.MathLoose.abs_long.x)) && goodWord (.methodLink own (ws.getD 0 0) Lib.MathLoose.abs_long.x)) = true := hk
  rw [Bool.and_eq_true, decide_eq_true_eq] at hk
  obtain ⟨⟨k1, k2, k8⟩, k9⟩ := hk
  obtain ⟨hx, hb, hml, hown, hts, -, -, hW, hsz, hRf, hRl, hRc, hRs, h0t⟩ := B
  intro h0 ls H locs hl hR hS
  have m1 := ax_Sl_mono h2
  refine va_mabs_long hx hb (by rw [hml]; exact hl.1.symm) hown (hts _ (ax_in _ _ k8 k9)) (hts _ (ax_in 3 50 (by decide +kernel) (by decide +kernel))) (hts _ (ax_in 1 11 (by decide +kernel) (by decide +kernel))) (hts _ (ax_in 3 51 (by decide +kernel) (by decide +kernel))) (by omega) (by rw [ax_cs_eq]; omega) (by omega) (by omega) hd (hN _ _ _ hs h0 ls H locs hl hR hS)
end AX3
