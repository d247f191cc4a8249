/-! The world at a state, a method's contract in our words, a point of a method; one row of the kit for each of our ops. -/
/-- what holds of a state all along: the classes, the links to nest mates, the arrays from outside -/
def ax_Wld (g : ax_G) (U : State) : Prop :=
  va_K g.2.2.1 ax_cls [(g.2.2.2.1, .int), (g.2.2.2.2.1, .long)] U ∧
  (∀ q ∈ ax_nest, va_Nw (.methodLinkNest q.1 q.2.1 (ax_M q.2.2).1 "AskewLetters") U) ∧
  (∀ k, 1000 ≤ k → k < 1003 → va_T .int (g.2.2.2.2.2 k).1 (g.2.2.2.2.2 k).2.1 (fun j => .int ((g.2.2.2.2.2 k).2.2 j)) (ax_A g) U U.heap) ∧
  va_Z "AskewLetters" "LEAST_SETTING" "[I" (.ref (g.2.2.2.2.2 1001).1) (ax_A g) U U.heap ∧
  va_Z "AskewLetters" "GREATEST_SETTING" "[I" (.ref (g.2.2.2.2.2 1002).1) (ax_A g) U U.heap
theorem ax_Wld_go {g : ax_G} {s U : State} {H : Heap} {locs : List Loc} (hW : ax_Wld g s) (hS : va_S (ax_A g) s.heap H locs) (hU : U.heap = H) (hw : s.WarmedH U.vm) : ax_Wld g U := by
  obtain ⟨h1, h2, h3, h4, h5⟩ := hW
  have hq : ∀ a : Nat, a < s.heap.size → ¬ ax_A g a → U.heap[a]? = s.heap[a]? := fun a ha hn => by rw [hU]; exact hS.2.1 a ha hn
  exact ⟨va_K.moved hw.alike h1, fun q hq => va_Nw.warmM hw (h2 q hq), fun k k1 k2 => va_T.moved hw.alike (va_T.kept (h3 k k1 k2) hq), va_Z.moved hw.alike (va_Z.kept h4 hq), va_Z.moved hw.alike (va_Z.kept h5 hq)⟩
def ax_Pc (g : ax_G) (as : List Value) (s : ax_St) : Array Value → State → Prop := fun v U => v = (as.map (ax_cv g)).toArray ∧ ax_Rep g s U.heap ∧ U.heap.size = g.2.1 + s.1 ∧ ax_Wld g U
def ax_Qc (g : ax_G) (K : ax_Po) (top : Nat) : Array Value → State → Outcome → State → Prop := fun _ st o t => (∃ (r : Option Value) (s' : ax_St), o = .returned (r.map (ax_cv g)) ∧ K r s' ∧ s'.1 = top ∧ ax_Rep g s' t.heap) ∧ va_F (ax_A g) st t
def ax_wsy (y : Nat) : List Cond := .code (ax_M y).1 (ax_M y).2.1 (ax_M y).2.2.1 (ax_M y).2.2.2.1 :: ax_T
def ax_rm (y n : Nat) : Room := { frames := (ax_M y).2.2.2.2.1, cells := ax_mc y, slots := ax_Sl (n + ax_mc y) - ax_Sl n, locals := (ax_M y).2.2.2.2.2.1 }
/-- THE CONTRACT of method y: from these arguments and this state it ends, and K holds of its answer and the state then -/
def ax_MM (g : ax_G) (y : Nat) (as : List Value) (s : ax_St) (K : ax_Po) : Prop := Met g.1 (ax_M y).1 (ax_wsy y) (ax_rm y s.1) (ax_Pc g as s) (ax_Qc g K (s.1 + ax_mc y)) (ax_mc y) (ax_Sl (s.1 + ax_mc y) - ax_Sl s.1) (ax_A g)
theorem ax_blind (g : ax_G) (as : List Value) (s : ax_St) : FrameBlind (ax_Pc g as s) := by
  intro a U f mk h
  obtain ⟨h1, h2, h3, h4, h5, h6, h7, h8⟩ := h
  exact ⟨h1, h2, h3, va_K.moved (u := U) (U := U.calling f mk a) (Vm.Alike.refl U.vm) h4, fun q hq => va_Nw.same rfl (show U.vm = (U.calling f mk a).vm from rfl) (h5 q hq), fun k k1 k2 => va_T.moved (u := U) (U := U.calling f mk a) (Vm.Alike.refl U.vm) (h6 k k1 k2), va_Z.moved (u := U) (U := U.calling f mk a) (Vm.Alike.refl U.vm) h7, va_Z.moved (u := U) (U := U.calling f mk a) (Vm.Alike.refl U.vm) h8⟩
theorem ax_Sl_mono {a b : Nat} (h : a ≤ b) : ax_Sl a ≤ ax_Sl b := by
  induction h with
  | refl => exact Nat.le_refl _
  | step _ ih => exact Nat.le_trans ih (Nat.le_add_right _ _)
/-- a point of a method's body -/
def ax_GG (g : ax_G) (p : Program) (e : Env) (R : Room) (s : State) (m : MethodId) (args : Array Value) (below : List Frame) (meth : Method) (c : Code) (Q : State → Prop) (nL n0 : Nat) (pc : Nat) (L : ax_Lo) (st : ax_Sk) (z : ax_St) : Prop :=
  n0 ≤ z.1 → ∀ (ls : Array Slot) (H : Heap) (locs : List Loc), lv_has ls nL (ax_asc g 0 L) → ax_Rep g z H → va_S (ax_A g) s.heap H locs → W p g.1 e R s m args below meth c H locs (z.1 - n0) (ax_Sl z.1 - ax_Sl n0) Q (F0 m pc ls (st.map (ax_cv g)))
/-- what holds in a method's body all along -/
def ax_BC (g : ax_G) (p : Program) (R : Room) (s : State) (m : MethodId) (args : Array Value) (meth : Method) (c : Code) (cc : ByteArray) (own : String) (fr lo : Nat) (rt : Option FieldType) (nL n0 top : Nat) : Prop :=
  p.tables.exec = Jvm.exec ∧ c.code = cc ∧ c.maxLocals = nL ∧ s.vm.findClass own = some m.cls ∧ (∀ w ∈ ax_T, w.before args s = true) ∧ meth.sig.returnType = rt ∧ meth.locks = false ∧ ax_Wld g s ∧ s.heap.size = g.2.1 + n0 ∧ fr ≤ R.frames ∧ lo ≤ R.locals ∧ top - n0 ≤ R.cells ∧ ax_Sl top - ax_Sl n0 ≤ R.slots ∧ n0 ≤ top
section AX
variable {g : ax_G} {p : Program} {e : Env} {R : Room} {s : State} {m : MethodId} {args : Array Value} {below : List Frame} {meth : Method} {c : Code} {Q : State → Prop} {cc : ByteArray} {own : String} {fr lo : Nat} {rt : Option FieldType} {nL n0 top : Nat} {pc : Nat} {L : ax_Lo} {st : ax_Sk} {z : ax_St}
theorem ax_hd {α β : Type} {x : Except α β} {a b : β} (h : x = .ok a) (e : a = b) : x = .ok b := e ▸ h
theorem ax_obj {g : ax_G} {z : ax_St} {k ci : Nat} (h10 : ci < 10) (hc : (ax_kd k).1 = ci) (hk : k < z.1) : (ax_ws g z)[k]? = some (g.2.1 + k, .inr (ci, (List.range (ax_kd k).2).map fun j => ax_cv g (ax_gv z k j (ax_fk ci j)))) := by
  rw [ax_ws_at hk]
  unfold ax_ce
  rw [hc, if_neg (by omega), if_neg (by omega)]
theorem ax_arI {g : ax_G} {z : ax_St} {k : Nat} (hc : (ax_kd k).1 = 10) (hk : k < z.1) : (ax_ws g z)[k]? = some (g.2.1 + k, .inl (g.2.2.2.1, (ax_kd k).2, .inl (z.2.1 k))) := by
  rw [ax_ws_at hk]
  unfold ax_ce
  rw [if_pos hc]
theorem ax_arJ {g : ax_G} {z : ax_St} {k : Nat} (hc : (ax_kd k).1 = 11) (hk : k < z.1) : (ax_ws g z)[k]? = some (g.2.1 + k, .inl (g.2.2.2.2.1, (ax_kd k).2, .inr (.inl (z.2.2.1 k)))) := by
  rw [ax_ws_at hk]
  unfold ax_ce
  rw [if_neg (by omega), if_pos hc]
theorem ax_get (B : ax_BC g p R s m args meth c cc own fr lo rt nL n0 top) {k ci j kd ix : Nat} (h10 : ci < 10) (hj : j < ax_N ci) (hf : ax_fk ci j = kd) (hw : Cond.fieldLink own ix (ax_Tb ci j).1 (ax_Tb ci j).2.1 (ax_Tb ci j).2.2.1 ∈ ax_T) (hd : decode cc pc = .ok (.getfield ix, 3)) (hk : k < z.1) (hc : (ax_kd k).1 = ci)
    (kk : ax_GG g p e R s m args below meth c Q nL n0 (pc + 3) L (ax_gv z k j kd :: st) z) : ax_GG g p e R s m args below meth c Q nL n0 pc L (.ref k :: st) z := by
  obtain ⟨hx, hb, hml, hown, hts, -, -, hW, -⟩ := B
  intro h0 ls H locs hl hR hS
  have h92 : k < 92 := Nat.lt_of_lt_of_le hk hR.2.2
  have hN : (ax_kd k).2 = ax_N ci := by rw [← hc]; exact ax_kd_N h92 (by omega)
  have he := ax_obj (g := g) h10 hc hk
  show W _ _ _ _ _ _ _ _ _ _ _ _ _ _ _ (F0 m pc ls (.ref (ax_ad g k) :: st.map (ax_cv g)))
  rw [ax_ad_lt g (show k < 1000 by omega)]
  refine va_get hx hb hts (ax_lay h10) hown hW.1 hR.1 k he (ax_cls_at h10) j hj (hts _ hw) (fun _ h9 => h9) (v := ax_cv g (ax_gv z k j kd)) ?_ hd (kk h0 ls H locs hl hR hS)
  rw [List.getElem?_map, List.getElem?_range (by rw [hN]; exact hj)]
  simp [hf]
theorem ax_ce_obj {g : ax_G} {z : ax_St} {k ci : Nat} (h10 : ci < 10) (hc : (ax_kd k).1 = ci) : ax_ce g z k = .inr (ci, (List.range (ax_kd k).2).map fun j => ax_cv g (ax_gv z k j (ax_fk ci j))) := by
  unfold ax_ce
  rw [hc, if_neg (by omega), if_neg (by omega)]
/-- a field's store, in general -/
theorem ax_put (B : ax_BC g p R s m args meth c cc own fr lo rt nL n0 top) {k ci j ix : Nat} {v : Value} {z' : ax_St} {ty : FieldType} (h10 : ci < 10) (hj : j < ax_N ci) (hty : ax_ty ci j = ty) (hfin : (ax_Tb ci j).2.2.2 = false) (hw : Cond.fieldLink own ix (ax_Tb ci j).1 (ax_Tb ci j).2.1 (ax_Tb ci j).2.2.1 ∈ ax_T) (hd : decode cc pc = .ok (.putfield ix, 3)) (hk : k < z.1) (hc : (ax_kd k).1 = ci)
    (hn : narrow ty (ax_cv g v) = ax_cv g v) (hfit : fits ty (ax_cv g v) = true) (hz : z'.1 = z.1) (hzk : ∀ i, ax_gv z' k i (ax_fk ci i) = if i = j then v else ax_gv z k i (ax_fk ci i)) (hzo : ∀ i, i ≠ k → ax_ce g z' i = ax_ce g z i)
    (kk : ax_GG g p e R s m args below meth c Q nL n0 (pc + 3) L st z') : ax_GG g p e R s m args below meth c Q nL n0 pc L (v :: .ref k :: st) z := by
  obtain ⟨hx, hb, hml, hown, hts, -, -, hW, -⟩ := B
  intro h0 ls H locs hl hR hS
  have h92 : k < 92 := Nat.lt_of_lt_of_le hk hR.2.2
  have hN : (ax_kd k).2 = ax_N ci := by rw [← hc]; exact ax_kd_N h92 (by omega)
  have he := ax_obj (g := g) h10 hc hk
  show W _ _ _ _ _ _ _ _ _ _ _ _ _ _ _ (F0 m pc ls (ax_cv g v :: .ref (ax_ad g k) :: st.map (ax_cv g)))
  rw [ax_ad_lt g (show k < 1000 by omega)]
  refine va_put hx hb hts (ax_lay h10) (ax_ty ci) (ax_ty_ok h10) (ax_nm_ok h10) hown hW.1 hR.1 hR.2.1 hS k he (ax_cls_at h10) j hj (hts _ hw) (fun _ h9 => h9) hfin (by rw [ax_ty_ok h10 j hj, hty]) hn hfit (by rw [List.length_map, List.length_range, hN]; exact hj) hd (fun H1 locs1 hP hD hS1 => ?_)
  have hws : (ax_ws g z).set k (g.2.1 + k, Sum.inr (ci, ((List.range (ax_kd k).2).map fun j => ax_cv g (ax_gv z k j (ax_fk ci j))).set j (ax_cv g v))) = ax_ws g z' := by
    refine ax_ws_set hk hz ?_ hzo
    rw [ax_ce_obj h10 hc]
    congr 2
    apply List.ext_getElem?
    intro i
    rw [List.getElem?_set, List.getElem?_map]
    by_cases hi : i < (ax_kd k).2
    · rw [List.getElem?_range hi]
      by_cases hij : j = i
      · subst hij
        simp [hzk, hi]
      · rw [if_neg hij, List.getElem?_map, List.getElem?_range hi]
        simp [hzk, Ne.symm hij]
    · rw [List.getElem?_eq_none (by simp; omega)]
      by_cases hij : j = i
      · subst hij
        exact absurd (by rw [hN]; exact hj) hi
      · rw [if_neg hij, List.getElem?_eq_none (by simp; omega)]
        rfl
  rw [hws] at hP hD
  have := kk (by rw [hz]; exact h0) ls H1 locs1 hl ⟨hP, hD, by rw [hz]; exact hR.2.2⟩ hS1
  rw [hz] at this
  exact this
theorem ax_putF (B : ax_BC g p R s m args meth c cc own fr lo rt nL n0 top) (hinit : meth.name = "<init>") {k ci j ix : Nat} {v : Value} {z' : ax_St} {ty : FieldType} (h10 : ci < 10) (hj : j < ax_N ci) (hty : ax_ty ci j = ty) (hfin : (ax_Tb ci j).2.2.2 = true) (hdecl : (ax_Tb ci j).1 = own) (hw : Cond.fieldLink own ix (ax_Tb ci j).1 (ax_Tb ci j).2.1 (ax_Tb ci j).2.2.1 ∈ ax_T) (hd : decode cc pc = .ok (.putfield ix, 3)) (hk : k < z.1) (hc : (ax_kd k).1 = ci)
    (hn : narrow ty (ax_cv g v) = ax_cv g v) (hfit : fits ty (ax_cv g v) = true) (hz : z'.1 = z.1) (hzk : ∀ i, ax_gv z' k i (ax_fk ci i) = if i = j then v else ax_gv z k i (ax_fk ci i)) (hzo : ∀ i, i ≠ k → ax_ce g z' i = ax_ce g z i)
    (kk : ax_GG g p e R s m args below meth c Q nL n0 (pc + 3) L st z') : ax_GG g p e R s m args below meth c Q nL n0 pc L (v :: .ref k :: st) z := by
  obtain ⟨hx, hb, hml, hown, hts, -, -, hW, -⟩ := B
  intro h0 ls H locs hl hR hS
  have h92 : k < 92 := Nat.lt_of_lt_of_le hk hR.2.2
  have hN : (ax_kd k).2 = ax_N ci := by rw [← hc]; exact ax_kd_N h92 (by omega)
  have he := ax_obj (g := g) h10 hc hk
  show W _ _ _ _ _ _ _ _ _ _ _ _ _ _ _ (F0 m pc ls (ax_cv g v :: .ref (ax_ad g k) :: st.map (ax_cv g)))
  rw [ax_ad_lt g (show k < 1000 by omega)]
  refine va_putF hx hb hts (ax_lay h10) (ax_ty ci) (ax_ty_ok h10) (ax_nm_ok h10) hown hW.1 hR.1 hR.2.1 hS k he (ax_cls_at h10) j hj (hts _ hw) (fun _ h9 => h9) hfin hinit hdecl (by rw [ax_ty_ok h10 j hj, hty]) hn hfit (by rw [List.length_map, List.length_range, hN]; exact hj) hd (fun H1 locs1 hP hD hS1 => ?_)
  have hws : (ax_ws g z).set k (g.2.1 + k, Sum.inr (ci, ((List.range (ax_kd k).2).map fun j => ax_cv g (ax_gv z k j (ax_fk ci j))).set j (ax_cv g v))) = ax_ws g z' := by
    refine ax_ws_set hk hz ?_ hzo
    rw [ax_ce_obj h10 hc]
    congr 2
    apply List.ext_getElem?
    intro i
    rw [List.getElem?_set, List.getElem?_map]
    by_cases hi : i < (ax_kd k).2
    · rw [List.getElem?_range hi]
      by_cases hij : j = i
      · subst hij
        simp [hzk, hi]
      · rw [if_neg hij, List.getElem?_map, List.getElem?_range hi]
        simp [hzk, Ne.symm hij]
    · rw [List.getElem?_eq_none (by simp; omega)]
      by_cases hij : j = i
      · subst hij
        exact absurd (by rw [hN]; exact hj) hi
      · rw [if_neg hij, List.getElem?_eq_none (by simp; omega)]
        rfl
  rw [hws] at hP hD
  have := kk (by rw [hz]; exact h0) ls H1 locs1 hl ⟨hP, hD, by rw [hz]; exact hR.2.2⟩ hS1
  rw [hz] at this
  exact this
theorem ax_iald (B : ax_BC g p R s m args meth c cc own fr lo rt nL n0 top) {k : Nat} {i : Int32} (hd : decode cc pc = .ok (.iaload, 1)) (h : ax_ia z (ax_xt g) k fun n f => vp_in i n ∧ ax_GG g p e R s m args below meth c Q nL n0 (pc + 1) L (.int (f i.toNatClampNeg) :: st) z) : ax_GG g p e R s m args below meth c Q nL n0 pc L (.int i :: .ref k :: st) z := by
  obtain ⟨hx, hb, hml, hown, hts, -, -, hW, -⟩ := B
  intro h0 ls H locs hl hR hS
  unfold ax_ia at h
  show W _ _ _ _ _ _ _ _ _ _ _ _ _ _ _ (F0 m pc ls (.int i :: .ref (ax_ad g k) :: st.map (ax_cv g)))
  by_cases hk : k < 1000
  · rw [if_pos hk] at h
    obtain ⟨h1, h2, h3, h4⟩ := h
    rw [ax_ad_lt g hk]
    exact va_iald hx hb hW.1 hR.1 k 0 (ax_arI h2 h1) rfl h3 hd (h4 h0 ls H locs hl hR hS)
  · rw [if_neg hk] at h
    obtain ⟨h1, h3, h4⟩ := h
    have e1 : ax_ad g k = (g.2.2.2.2.2 k).1 := by simp [ax_ad, hk]
    rw [e1]
    exact va_ti hx hb (hW.2.2.1 k (by omega) h1) hS (N := (g.2.2.2.2.2 k).2.1) h3 rfl hd (h4 h0 ls H locs hl hR hS)
theorem ax_ce_n {g : ax_G} {z : ax_St} {k i : Nat} (h : i ≠ k) (f : Nat → Int32) : ax_ce g (ax_dr z k f) i = ax_ce g z i := by
  unfold ax_ce ax_dr
  have e : ∀ j t, ax_gv (z.1, ax_up z.2.1 k f, z.2.2) i j t = ax_gv z i j t := by
    intro j t
    unfold ax_gv
    split <;> simp [ax_up, h]
  simp only [e, ax_up_n _ _ h]
theorem ax_ce_e {g : ax_G} {z : ax_St} {k i j : Nat} (h : i ≠ k) (v : Int64) : ax_ce g (ax_e1 z k j v) i = ax_ce g z i := by
  unfold ax_ce ax_e1
  have e : ∀ j' t, ax_gv (z.1, z.2.1, ax_up z.2.2.1 k (ax_up (z.2.2.1 k) j v), z.2.2.2) i j' t = ax_gv z i j' t := by
    intro j' t
    unfold ax_gv
    split <;> simp [ax_up, h]
  simp only [e, ax_up_n _ _ h]
theorem ax_ce_r {g : ax_G} {z : ax_St} {k i j : Nat} (h : i ≠ k) (v : Option Nat) : ax_ce g (ax_r1 z k j v) i = ax_ce g z i := by
  unfold ax_ce ax_r1
  have e : ∀ j' t, ax_gv (z.1, z.2.1, z.2.2.1, ax_up z.2.2.2 k (ax_up (z.2.2.2 k) j v)) i j' t = ax_gv z i j' t := by
    intro j' t
    unfold ax_gv
    split <;> simp [ax_up, h]
  simp only [e]
theorem ax_iast (B : ax_BC g p R s m args meth c cc own fr lo rt nL n0 top) {k : Nat} {i v : Int32} (hd : decode cc pc = .ok (.iastore, 1)) (hk : k < z.1) (hc : (ax_kd k).1 = 10) (hi : vp_in i (ax_kd k).2)
    (kk : ax_GG g p e R s m args below meth c Q nL n0 (pc + 1) L st (ax_d1 z k i.toNatClampNeg v)) : ax_GG g p e R s m args below meth c Q nL n0 pc L (.int v :: .int i :: .ref k :: st) z := by
  obtain ⟨hx, hb, hml, hown, hts, -, -, hW, -⟩ := B
  intro h0 ls H locs hl hR hS
  show W _ _ _ _ _ _ _ _ _ _ _ _ _ _ _ (F0 m pc ls (.int v :: .int i :: .ref (ax_ad g k) :: st.map (ax_cv g)))
  rw [ax_ad_lt g (show k < 1000 by have := hR.2.2; omega)]
  refine va_iast hx hb hW.1 hR.1 hR.2.1 hS k 0 (ax_arI hc hk) rfl hi hd (fun H1 locs1 hP hD hS1 => ?_)
  have hws : (ax_ws g z).set k (g.2.1 + k, Sum.inl (g.2.2.2.1, (ax_kd k).2, Sum.inl (upd (z.2.1 k) i.toNatClampNeg v))) = ax_ws g (ax_d1 z k i.toNatClampNeg v) := by
    refine ax_ws_set hk rfl ?_ (fun j hj => ax_ce_n hj _)
    unfold ax_ce ax_d1
    rw [if_pos hc]
    simp only [ax_up_s]
    rfl
  rw [hws] at hP hD
  exact kk h0 ls H1 locs1 hl ⟨hP, hD, hR.2.2⟩ hS1
theorem ax_lald (B : ax_BC g p R s m args meth c cc own fr lo rt nL n0 top) {k : Nat} {i : Int32} (hd : decode cc pc = .ok (.laload, 1)) (hk : k < z.1) (hc : (ax_kd k).1 = 11) (hi : vp_in i (ax_kd k).2)
    (kk : ax_GG g p e R s m args below meth c Q nL n0 (pc + 1) L (.long (z.2.2.1 k i.toNatClampNeg) :: st) z) : ax_GG g p e R s m args below meth c Q nL n0 pc L (.int i :: .ref k :: st) z := by
  obtain ⟨hx, hb, hml, hown, hts, -, -, hW, -⟩ := B
  intro h0 ls H locs hl hR hS
  show W _ _ _ _ _ _ _ _ _ _ _ _ _ _ _ (F0 m pc ls (.int i :: .ref (ax_ad g k) :: st.map (ax_cv g)))
  rw [ax_ad_lt g (show k < 1000 by have := hR.2.2; omega)]
  exact va_lald hx hb hW.1 hR.1 k 1 (ax_arJ hc hk) rfl hi hd (kk h0 ls H locs hl hR hS)
theorem ax_last (B : ax_BC g p R s m args meth c cc own fr lo rt nL n0 top) {k : Nat} {i : Int32} {v : Int64} (hd : decode cc pc = .ok (.lastore, 1)) (hk : k < z.1) (hc : (ax_kd k).1 = 11) (hi : vp_in i (ax_kd k).2)
    (kk : ax_GG g p e R s m args below meth c Q nL n0 (pc + 1) L st (ax_e1 z k i.toNatClampNeg v)) : ax_GG g p e R s m args below meth c Q nL n0 pc L (.long v :: .int i :: .ref k :: st) z := by
  obtain ⟨hx, hb, hml, hown, hts, -, -, hW, -⟩ := B
  intro h0 ls H locs hl hR hS
  show W _ _ _ _ _ _ _ _ _ _ _ _ _ _ _ (F0 m pc ls (.long v :: .int i :: .ref (ax_ad g k) :: st.map (ax_cv g)))
  rw [ax_ad_lt g (show k < 1000 by have := hR.2.2; omega)]
  refine va_last hx hb hW.1 hR.1 hR.2.1 hS k 1 (ax_arJ hc hk) rfl hi hd (fun H1 locs1 hP hD hS1 => ?_)
  have hws : (ax_ws g z).set k (g.2.1 + k, Sum.inl (g.2.2.2.2.1, (ax_kd k).2, Sum.inr (Sum.inl (vp_updL (z.2.2.1 k) i.toNatClampNeg v)))) = ax_ws g (ax_e1 z k i.toNatClampNeg v) := by
    refine ax_ws_set hk rfl ?_ (fun j hj => ax_ce_e hj _)
    unfold ax_ce ax_e1
    rw [if_neg (by omega), if_pos hc]
    simp only [ax_up_s]
    rfl
  rw [hws] at hP hD
  exact kk h0 ls H1 locs1 hl ⟨hP, hD, hR.2.2⟩ hS1
theorem ax_alen (B : ax_BC g p R s m args meth c cc own fr lo rt nL n0 top) {k : Nat} (hd : decode cc pc = .ok (.arraylength, 1))
    (h : if k < 1000 then k < z.1 ∧ ((ax_kd k).1 = 10 ∨ (ax_kd k).1 = 11) ∧ ax_GG g p e R s m args below meth c Q nL n0 (pc + 1) L (.int (Int32.ofNat (ax_kd k).2) :: st) z else k < 1003 ∧ ax_GG g p e R s m args below meth c Q nL n0 (pc + 1) L (.int (Int32.ofNat (ax_xt g k).1) :: st) z) : ax_GG g p e R s m args below meth c Q nL n0 pc L (.ref k :: st) z := by
  obtain ⟨hx, hb, hml, hown, hts, -, -, hW, -⟩ := B
  intro h0 ls H locs hl hR hS
  show W _ _ _ _ _ _ _ _ _ _ _ _ _ _ _ (F0 m pc ls (.ref (ax_ad g k) :: st.map (ax_cv g)))
  by_cases hk : k < 1000
  · rw [if_pos hk] at h
    obtain ⟨h1, h2, h3⟩ := h
    rw [ax_ad_lt g hk]
    rcases h2 with h2 | h2
    · exact va_alen hx hb hW.1 hR.1 k 0 (ax_arI h2 h1) rfl rfl hd (h3 h0 ls H locs hl hR hS)
    · exact va_alen hx hb hW.1 hR.1 k 1 (ax_arJ h2 h1) rfl rfl hd (h3 h0 ls H locs hl hR hS)
  · rw [if_neg hk] at h
    obtain ⟨h1, h3⟩ := h
    have e1 : ax_ad g k = (g.2.2.2.2.2 k).1 := by simp [ax_ad, hk]
    rw [e1]
    obtain ⟨cell, t1, t2, t3, t4, t5, t6, t7⟩ := hW.2.2.1 k (by omega) h1
    exact W.alen hx hb (by rw [hS.2.1 _ (Array.getElem?_eq_some_iff.mp t1).1 t7]; exact t1) t2 t5 rfl rfl hd (h3 h0 ls H locs hl hR hS)
theorem ax_copy (B : ax_BC g p R s m args meth c cc own fr lo rt nL n0 top) {k0 k1 ix : Nat} {n dp sp : Int32} (hfr : 1 ≤ fr) (hlo : 30 ≤ lo) (hw : Cond.methodLink own ix arraycopyName ∈ ax_T) (hd : decode cc pc = .ok (.invokestatic ix, 3))
    (hk0 : k0 < z.1) (hk1 : k1 < z.1) (hc0 : (ax_kd k0).1 = 10) (hc1 : (ax_kd k1).1 = 10) (h1 : ¬ sp < 0) (h2 : ¬ dp < 0) (h3 : ¬ n < 0) (h4 : sp.toNatClampNeg + n.toNatClampNeg ≤ (ax_kd k0).2) (h5 : dp.toNatClampNeg + n.toNatClampNeg ≤ (ax_kd k1).2) (h8 : ax_cs st ≤ 8)
    (kk : ax_GG g p e R s m args below meth c Q nL n0 (pc + 3) L st (ax_dr z k1 (va_cpy (z.2.1 k0) (z.2.1 k1) sp.toNatClampNeg dp.toNatClampNeg n.toNatClampNeg))) : ax_GG g p e R s m args below meth c Q nL n0 pc L (.int n :: .int dp :: .ref k1 :: .int sp :: .ref k0 :: st) z := by
  obtain ⟨hx, hb, hml, hown, hts, -, -, hW, -, hRf, hRl, -⟩ := B
  intro h0 ls H locs hl hR hS
  show W _ _ _ _ _ _ _ _ _ _ _ _ _ _ _ (F0 m pc ls (.int n :: .int dp :: .ref (ax_ad g k1) :: .int sp :: .ref (ax_ad g k0) :: st.map (ax_cv g)))
  rw [ax_ad_lt g (show k1 < 1000 by have := hR.2.2; omega), ax_ad_lt g (show k0 < 1000 by have := hR.2.2; omega)]
  refine va_copyi hx hb (by rw [hml]; exact hl.1.symm) hown (hts _ hw) (hts _ (ax_in 4 58 (by decide +kernel) (by decide +kernel))) (hts _ (ax_in 4 57 (by decide +kernel) (by decide +kernel))) (hts _ (ax_in 1 12 (by decide +kernel) (by decide +kernel))) hW.1 hR.1 hR.2.1 hS k0 k1 0 0 (ax_arI hc0 hk0) (ax_arI hc1 hk1) rfl rfl rfl h1 h2 h3 h4 h5 (fun i hi => rfl) (by omega) ?_ hd (fun H1 locs1 hP hD hS1 => ?_)
  · rw [ax_cs_eq, show nativeFrameWords "java/lang/System" "arraycopy" 5 = 7 by decide +kernel]
    omega
  have hws : (ax_ws g z).set k1 (g.2.1 + k1, Sum.inl (g.2.2.2.1, (ax_kd k1).2, Sum.inl (va_cpy (z.2.1 k0) (z.2.1 k1) sp.toNatClampNeg dp.toNatClampNeg n.toNatClampNeg))) = ax_ws g (ax_dr z k1 (va_cpy (z.2.1 k0) (z.2.1 k1) sp.toNatClampNeg dp.toNatClampNeg n.toNatClampNeg)) := by
    refine ax_ws_set hk1 rfl ?_ (fun j hj => ax_ce_n hj _)
    unfold ax_ce ax_dr
    rw [if_pos hc1]
    simp only [ax_up_s]
  rw [hws] at hP hD
  exact kk h0 ls H1 locs1 hl ⟨hP, hD, hR.2.2⟩ hS1
end AX
