/-! New cells, calls. -/
def ax_simple (t : FieldType) : Bool := match t with
  | .int => true
  | .long => true
  | .boolean => true
  | .object _ => true
  | .array _ => true
  | _ => false
theorem ax_tys_c : ((List.range 10).all fun ci => (List.range (ax_N ci)).all fun k => ax_simple (ax_ty ci k)) = true := by decide +kernel
theorem ax_tys {ci : Nat} (h : ci < 10) {k : Nat} (hk : k < ax_N ci) : ax_simple (ax_ty ci k) = true := List.all_eq_true.mp (List.all_eq_true.mp ax_tys_c ci (List.mem_range.mpr h)) k (List.mem_range.mpr hk)
section AX2
variable {g : ax_G} {p : Program} {e : Env} {R : Room} {s : State} {m : MethodId} {args : Array Value} {below : List Frame} {meth : Method} {c : Code} {Q : State → Prop} {cc : ByteArray} {own : String} {fr lo : Nat} {rt : Option FieldType} {nL n0 top : Nat} {pc : Nat} {L : ax_Lo} {st : ax_Sk} {z : ax_St}
theorem ax_szW {l : Launch} {H : Heap} {locs : List Loc} {cells slots : Nat} {f : JFrame} (k : H.size ≤ s.heap.size + cells → W p l e R s m args below meth c H locs cells slots Q f) : W p l e R s m args below meth c H locs cells slots Q f := fun T hT X => k (by rw [← hT]; exact X.heapSize) T hT X
theorem ax_size {H : Heap} (hR : ax_Rep g z H) (h0 : n0 ≤ z.1) (hs : s.heap.size = g.2.1 + n0) (h : H.size ≤ s.heap.size + (z.1 - n0)) (hb : g.2.1 + n0 ≤ H.size) : H.size = g.2.1 + z.1 := by
  rcases Nat.eq_zero_or_pos z.1 with hz | hz
  · omega
  · have hlt := (hR.1 (z.1 - 1) _ (ax_ws_at (by omega))).lt
    have hlt : g.2.1 + (z.1 - 1) < H.size := hlt
    omega
theorem ax_ce_nw {g : ax_G} {z : ax_St} {i : Nat} (h : i ≠ z.1) : ax_ce g (ax_nw z) i = ax_ce g z i := by
  unfold ax_ce ax_nw
  have e : ∀ j t, ax_gv (z.1 + 1, ax_up z.2.1 z.1 (fun _ => 0), ax_up z.2.2.1 z.1 (fun _ => 0), ax_up z.2.2.2 z.1 (fun _ => none)) i j t = ax_gv z i j t := by
    intro j t
    unfold ax_gv
    split <;> simp [ax_up, h]
  simp only [e, ax_up_n _ _ h]
theorem ax_ws_nw {g : ax_G} {z : ax_St} : ax_ws g (ax_nw z) = ax_ws g z ++ [(g.2.1 + z.1, ax_ce g (ax_nw z) z.1)] := by
  have h1 : (ax_nw z).1 = z.1 + 1 := rfl
  unfold ax_ws
  rw [h1, List.range_succ, List.map_append]
  congr 1
  apply List.map_congr_left
  intro k hk
  rw [ax_ce_nw (by have := List.mem_range.mp hk; omega)]
theorem ax_Sl_add {n0 n top : Nat} (h0 : n0 ≤ n) (h1 : n + 1 ≤ top) : ax_Sl n - ax_Sl n0 + (ax_kd n).2 ≤ ax_Sl top - ax_Sl n0 ∧ ax_Sl n - ax_Sl n0 + (ax_kd n).2 = ax_Sl (n + 1) - ax_Sl n0 := by
  have a := ax_Sl_mono h0
  have b := ax_Sl_mono h1
  have d : ax_Sl (n + 1) = ax_Sl n + (ax_kd n).2 := rfl
  omega
theorem ax_newo (B : ax_BC g p R s m args meth c cc own fr lo rt nL n0 top) {ci ix : Nat} (h10 : ci < 10) (hw : Cond.classLink own ix (ax_cn ci) ∈ ax_T) (hi : Cond.instantiable (ax_cn ci) (ax_N ci) ∈ ax_T) (hin : Cond.initialized (ax_cn ci) ∈ ax_T) (hd : decode cc pc = .ok (.new ix, 3)) (ht : z.1 + 1 ≤ top) (h92 : z.1 < 92) (hkd : ax_kd z.1 = (ci, ax_N ci))
    (kk : ax_GG g p e R s m args below meth c Q nL n0 (pc + 3) L (.ref z.1 :: st) (ax_nw z)) : ax_GG g p e R s m args below meth c Q nL n0 pc L st z := by
  obtain ⟨hx, hb, hml, hown, hts, -, -, hW, hsz, -, -, hRc, hRs, h0t⟩ := B
  intro h0 ls H locs hl hR hS
  refine ax_szW fun hle => ?_
  have hH : H.size = g.2.1 + z.1 := ax_size hR h0 hsz hle (by rw [← hsz]; exact hS.1)
  obtain ⟨q1, q2⟩ := ax_Sl_add h0 ht
  rw [hkd] at q1 q2
  have hKn := hW.1.1 ci _ (ax_cls_at h10)
  refine W.newcK hx hb hown (hts _ hw) (hts _ hi) (hts _ hin) rfl hd (by omega) (Nat.le_trans q1 hRs) hKn.2.1 hH fun H1 kC hkC e1 z1 o1 => ?_
  have hk : ∀ (k : Nat) (x : Nat × va_E), (ax_ws g z)[k]? = some x → H1[x.1]? = H[x.1]? := fun k x hx => o1 x.1 (by rw [← hH]; exact (hR.1 k x hx).lt)
  have hA : ax_A g (g.2.1 + z.1) := Nat.le_add_right _ _
  have hce : ax_ce g (ax_nw z) z.1 = .inr (ci, (List.range (ax_N ci)).map fun j => ax_cv g (ax_gv (ax_nw z) z.1 j (ax_fk ci j))) := by
    rw [ax_ce_obj h10 (by rw [hkd]), hkd]
  have hP1 : va_P g.2.2.1 ax_cls (ax_ws g (ax_nw z)) H1 := by
    rw [ax_ws_nw]
    refine (hR.1.kept hk).app (fun k x hx => ?_)
    have hz : k < 1 := (List.getElem?_eq_some_iff.mp hx).1
    rw [show k = 0 by omega] at hx
    cases hx
    rw [hce]
    refine ⟨_, ax_cls_at h10, (u_born (ax_ty ci) hts (ax_lay h10) hKn hkC e1 (ax_ty_ok h10)).to (fun j hj => ?_)⟩
    unfold vp_V
    rw [List.getD_eq_getElem?_getD, List.getElem?_map, List.getElem?_range hj]
    simp only [Option.map_some, Option.getD_some]
    unfold ax_fk ax_gv ax_nw
    have hpar := ax_tys h10 hj
    cases hty : ax_ty ci j <;> rw [hty] at hpar <;> first | (simp [ax_simple] at hpar; done) | simp [defaultValue, ax_up, ax_rv, ax_cv]
  have hD1 : va_D (ax_A g) (ax_ws g (ax_nw z)) := by
    rw [ax_ws_nw]
    exact hR.2.1.push hR.1 hH.symm hA
  have hS1 : va_S (ax_A g) s.heap H1 locs := ⟨Nat.le_trans hS.1 (by omega), fun x h1 h2 => (o1 x (by rw [← hH]; exact Nat.lt_of_lt_of_le h1 hS.1)).trans (hS.2.1 x h1 h2), hS.2.2⟩
  have := kk (Nat.le_succ_of_le h0) ls H1 locs hl ⟨hP1, hD1, h92⟩ hS1
  have e3 : (ax_nw z).1 - n0 = z.1 - n0 + 1 := by show z.1 + 1 - n0 = _; omega
  have e4 : ax_Sl (ax_nw z).1 - ax_Sl n0 = ax_Sl z.1 - ax_Sl n0 + ax_N ci := q2.symm
  rw [e3, e4] at this
  have e5 : ((Value.ref z.1 :: st).map (ax_cv g)) = .ref (g.2.1 + z.1) :: st.map (ax_cv g) := by
    show Value.ref (ax_ad g z.1) :: _ = _
    rw [ax_ad_lt g (by omega)]
  rw [e5] at this
  exact this
theorem ax_kd_2k : ((List.range 92).all fun k => decide ((ax_kd k).2 ≤ 2000)) = true := by decide +kernel
theorem ax_newaI (B : ax_BC g p R s m args meth c cc own fr lo rt nL n0 top) {n : Int32} (hd : decode cc pc = .ok (.newarray .int, 2)) (ht : z.1 + 1 ≤ top) (h92 : z.1 < 92) (hn : ¬ n < 0) (hkd : ax_kd z.1 = (10, n.toNatClampNeg))
    (kk : ax_GG g p e R s m args below meth c Q nL n0 (pc + 2) L (.ref z.1 :: st) (ax_nw z)) : ax_GG g p e R s m args below meth c Q nL n0 pc L (.int n :: st) z := by
  obtain ⟨hx, hb, hml, hown, hts, -, -, hW, hsz, -, -, hRc, hRs, h0t⟩ := B
  intro h0 ls H locs hl hR hS
  refine ax_szW fun hle => ?_
  have hH : H.size = g.2.1 + z.1 := ax_size hR h0 hsz hle (by rw [← hsz]; exact hS.1)
  obtain ⟨q1, q2⟩ := ax_Sl_add h0 ht
  rw [hkd] at q1 q2
  have hsm : n.toNatClampNeg ≤ 2000 := by
    have h1 := List.all_eq_true.mp ax_kd_2k z.1 (List.mem_range.mpr h92)
    rw [hkd] at h1
    exact of_decide_eq_true h1
  refine va_newaK hx hb (hts _ (ax_in 1 78 (by decide +kernel) (by decide +kernel))) rfl hd rfl hn rfl (by show _ * 4 ≤ _; omega) (by omega) (Nat.le_trans q1 hRs) hH fun H1 cA e1 z1 o1 hAr hNm => ?_
  have hcA : cA = g.2.2.2.1 := Option.some.inj (hNm.symm.trans (hW.1.2 0 _ rfl).2)
  have hk : ∀ (k : Nat) (x : Nat × va_E), (ax_ws g z)[k]? = some x → H1[x.1]? = H[x.1]? := fun k x hx => o1 x.1 (by rw [← hH]; exact (hR.1 k x hx).lt)
  have hA : ax_A g (g.2.1 + z.1) := Nat.le_add_right _ _
  have hP1 : va_P g.2.2.1 ax_cls (ax_ws g (ax_nw z)) H1 := by
    rw [ax_ws_nw]
    refine (hR.1.kept hk).app (fun k x hx => ?_)
    have hz : k < 1 := (List.getElem?_eq_some_iff.mp hx).1
    rw [show k = 0 by omega] at hx
    cases hx
    unfold ax_ce
    rw [hkd]
    show H1[g.2.1 + z.1]? = some (vp_cell g.2.2.2.1 (n.toNatClampNeg, .inl ((ax_nw z).2.1 z.1)))
    rw [e1, hcA]
    unfold vp_cell ax_nw
    simp only [ax_up_s]
    rfl
  have hD1 : va_D (ax_A g) (ax_ws g (ax_nw z)) := by
    rw [ax_ws_nw]
    exact hR.2.1.push hR.1 hH.symm hA
  have hS1 : va_S (ax_A g) s.heap H1 locs := ⟨Nat.le_trans hS.1 (by omega), fun x h1 h2 => (o1 x (by rw [← hH]; exact Nat.lt_of_lt_of_le h1 hS.1)).trans (hS.2.1 x h1 h2), hS.2.2⟩
  have := kk (Nat.le_succ_of_le h0) ls H1 locs hl ⟨hP1, hD1, h92⟩ hS1
  have e3 : (ax_nw z).1 - n0 = z.1 - n0 + 1 := by show z.1 + 1 - n0 = _; omega
  have e4 : ax_Sl (ax_nw z).1 - ax_Sl n0 = ax_Sl z.1 - ax_Sl n0 + n.toNatClampNeg := q2.symm
  rw [e3, e4] at this
  have e5 : ((Value.ref z.1 :: st).map (ax_cv g)) = .ref (g.2.1 + z.1) :: st.map (ax_cv g) := by
    show Value.ref (ax_ad g z.1) :: _ = _
    rw [ax_ad_lt g (by omega)]
  rw [e5] at this
  exact this
theorem ax_newaJ (B : ax_BC g p R s m args meth c cc own fr lo rt nL n0 top) {n : Int32} (hd : decode cc pc = .ok (.newarray .long, 2)) (ht : z.1 + 1 ≤ top) (h92 : z.1 < 92) (hn : ¬ n < 0) (hkd : ax_kd z.1 = (11, n.toNatClampNeg))
    (kk : ax_GG g p e R s m args below meth c Q nL n0 (pc + 2) L (.ref z.1 :: st) (ax_nw z)) : ax_GG g p e R s m args below meth c Q nL n0 pc L (.int n :: st) z := by
  obtain ⟨hx, hb, hml, hown, hts, -, -, hW, hsz, -, -, hRc, hRs, h0t⟩ := B
  intro h0 ls H locs hl hR hS
  refine ax_szW fun hle => ?_
  have hH : H.size = g.2.1 + z.1 := ax_size hR h0 hsz hle (by rw [← hsz]; exact hS.1)
  obtain ⟨q1, q2⟩ := ax_Sl_add h0 ht
  rw [hkd] at q1 q2
  have hsm : n.toNatClampNeg ≤ 2000 := by
    have h1 := List.all_eq_true.mp ax_kd_2k z.1 (List.mem_range.mpr h92)
    rw [hkd] at h1
    exact of_decide_eq_true h1
  refine va_newaK hx hb (hts _ (ax_in 1 229 (by decide +kernel) (by decide +kernel))) rfl hd rfl hn rfl (by show _ * 8 ≤ _; omega) (by omega) (Nat.le_trans q1 hRs) hH fun H1 cA e1 z1 o1 hAr hNm => ?_
  have hcA : cA = g.2.2.2.2.1 := Option.some.inj (hNm.symm.trans (hW.1.2 1 _ rfl).2)
  have hk : ∀ (k : Nat) (x : Nat × va_E), (ax_ws g z)[k]? = some x → H1[x.1]? = H[x.1]? := fun k x hx => o1 x.1 (by rw [← hH]; exact (hR.1 k x hx).lt)
  have hA : ax_A g (g.2.1 + z.1) := Nat.le_add_right _ _
  have hP1 : va_P g.2.2.1 ax_cls (ax_ws g (ax_nw z)) H1 := by
    rw [ax_ws_nw]
    refine (hR.1.kept hk).app (fun k x hx => ?_)
    have hz : k < 1 := (List.getElem?_eq_some_iff.mp hx).1
    rw [show k = 0 by omega] at hx
    cases hx
    unfold ax_ce
    rw [hkd]
    show H1[g.2.1 + z.1]? = some (vp_cell g.2.2.2.2.1 (n.toNatClampNeg, .inr (.inl ((ax_nw z).2.2.1 z.1))))
    rw [e1, hcA]
    unfold vp_cell ax_nw
    simp only [ax_up_s]
    rfl
  have hD1 : va_D (ax_A g) (ax_ws g (ax_nw z)) := by
    rw [ax_ws_nw]
    exact hR.2.1.push hR.1 hH.symm hA
  have hS1 : va_S (ax_A g) s.heap H1 locs := ⟨Nat.le_trans hS.1 (by omega), fun x h1 h2 => (o1 x (by rw [← hH]; exact Nat.lt_of_lt_of_le h1 hS.1)).trans (hS.2.1 x h1 h2), hS.2.2⟩
  have := kk (Nat.le_succ_of_le h0) ls H1 locs hl ⟨hP1, hD1, h92⟩ hS1
  have e3 : (ax_nw z).1 - n0 = z.1 - n0 + 1 := by show z.1 + 1 - n0 = _; omega
  have e4 : ax_Sl (ax_nw z).1 - ax_Sl n0 = ax_Sl z.1 - ax_Sl n0 + n.toNatClampNeg := q2.symm
  rw [e3, e4] at this
  have e5 : ((Value.ref z.1 :: st).map (ax_cv g)) = .ref (g.2.1 + z.1) :: st.map (ax_cv g) := by
    show Value.ref (ax_ad g z.1) :: _ = _
    rw [ax_ad_lt g (by omega)]
  rw [e5] at this
  exact this
/-- behind a call -/
theorem ax_callg {l : Launch} {H : Heap} {locs : List Loc} {cells slots mc ms t1 : Nat} {f : JFrame} {rest : List Value} {av : Array Value} {K : ax_Po} (hr : va_Run p l e R s m args below meth c H locs cells slots mc ms f rest (ax_Qc g K t1 av) (ax_A g)) (hS : va_S (ax_A g) s.heap H locs)
    (kk : ∀ (r : Option Value) (z' : ax_St) (H1 : Heap) (locs1 : List Loc), K r z' → z'.1 = t1 → ax_Rep g z' H1 → va_S (ax_A g) s.heap H1 locs1 → W p l e R s m args below meth c H1 locs1 (cells + mc) (slots + ms) Q { f with pc := f.pc + 3, stack := (r.map (ax_cv g)).toList ++ rest }) : W p l e R s m args below meth c H locs cells slots Q f := by
  intro T hT X
  obtain ⟨v, st₀, t, T', L1, h0, X', hL, e1, e2, ⟨⟨r, z', hv, hK, hz, hP⟩, hF⟩, hg⟩ := hr T hT X
  cases hv
  have hS1 : va_S (ax_A g) s.heap T'.heap (locs ++ L1) := by
    refine ⟨?_, fun q h1 h2 => ?_, fun q hq => ?_⟩
    · rw [e1]; exact Nat.le_trans hS.1 (by rw [← h0]; exact hF.1)
    · rw [e1, hF.2 q (by rw [h0]; exact Nat.lt_of_lt_of_le h1 hS.1) h2, h0]
      exact hS.2.1 q h1 h2
    · rcases List.mem_append.mp hq with h | h
      · exact hS.2.2 q h
      · exact hL q h
  obtain ⟨t2, a1, b1⟩ := kk r z' T'.heap (locs ++ L1) hK hz (by rw [e1]; exact hP) hS1 T' rfl X'
  exact ⟨t2, hg t2 a1, b1⟩
theorem ax_good {y : Nat} (hy : y < 205) : GoodIn ax_T (ax_wsy y) := by
  intro w hw
  rcases List.mem_cons.mp hw with rfl | h
  · have := (ax_M_ok hy).2.1
    exact ⟨this, (ax_T_good this).2⟩
  · exact ⟨h, (ax_T_good h).2⟩
theorem ax_tog (r : Option Value) (st : ax_Sk) : (r.map (ax_cv g)).toList ++ st.map (ax_cv g) = (r.toList ++ st).map (ax_cv g) := by cases r <;> rfl
theorem ax_callV (B : ax_BC g p R s m args meth c cc own fr lo rt nL n0 top) {y np ci ix k : Nat} {as : List Value} {K : ax_Po} (hy : y < 205) (hkn : (ax_M y).2.2.2.2.2.2.1 = 0) (hnp : (ax_M y).2.2.2.2.2.2.2 = np) (h10 : ci < 10) (hcn : ax_cn ci = (ax_M y).1.cls) (hfr : (ax_M y).2.2.2.2.1 + 1 ≤ fr) (hlo : 8 + ((ax_M y).2.2.1 + 11) + (ax_M y).2.2.2.2.2.1 ≤ lo) (hw : Cond.methodLink own ix (ax_M y).1 ∈ ax_T) (hd : decode cc pc = .ok (.invokevirtual ix, 3))
    (hal : as.length = np) (hk : k < z.1) (hc : (ax_kd k).1 = ci) (h8 : ax_cs st ≤ 8) (ht : z.1 + ax_mc y ≤ top) (hM : ax_MM g y (.ref k :: as) z K) (kk : ∀ r z', K r z' → ax_GG g p e R s m args below meth c Q nL n0 (pc + 3) L (r.toList ++ st) z') : ax_GG g p e R s m args below meth c Q nL n0 pc L (as.reverse ++ .ref k :: st) z := by
  obtain ⟨hx, hb, hml, hown, hts, -, -, hW, hsz, hRf, hRl, hRc, hRs, h0t⟩ := B
  obtain ⟨o1, o2, o3, o4, o5, o6, o7, o8⟩ := ax_M_ok hy
  obtain ⟨oi, os⟩ := o6 hkn
  intro h0 ls H locs hl hR hS
  refine ax_szW fun hle => ?_
  have hH : H.size = g.2.1 + z.1 := ax_size hR h0 hsz hle (by rw [← hsz]; exact hS.1)
  have a1 := ax_Sl_mono h0
  have a2 := ax_Sl_mono ht
  have a3 := ax_Sl_mono (Nat.le_add_right z.1 (ax_mc y))
  have he := ax_obj (g := g) h10 hc hk
  have hT : GoodIn ax_T (wsV own ix (ax_M y).1.cls (ax_M y).1 (ax_wsy y)) := by
    intro w hw'
    unfold wsV at hw'
    rcases List.mem_append.mp hw' with h | h
    · simp only [List.mem_cons, List.not_mem_nil, or_false] at h
      rcases h with rfl | rfl | rfl | rfl
      · exact ⟨hw, (ax_T_good hw).2⟩
      · exact ⟨oi, (ax_T_good oi).2⟩
      · exact ⟨os, (ax_T_good os).2⟩
      · exact ⟨o3, (ax_T_good o3).2⟩
    · exact ax_good hy w h
  have hcw := cwV (R := R) (rm := ax_rm y z.1) (mc := ax_mc y) (ms := ax_Sl (z.1 + ax_mc y) - ax_Sl z.1) (ws := ax_wsy y) np hts hT rfl rfl rfl ⟨rfl, o4.1, o4.2, by rw [o5, hnp]⟩ ⟨by show (ax_M y).2.2.2.2.1 + 1 ≤ _; omega, by show _ + (ax_M y).2.2.2.2.2.1 ≤ _; omega⟩
  have hrecv := va_recv hW.1 hR.1 (ax_cls_at h10) he
  have hstk : ((as.reverse ++ .ref k :: st).map (ax_cv g)) = (as.map (ax_cv g)).reverse ++ .ref (g.2.1 + k) :: st.map (ax_cv g) := by
    rw [List.map_append, List.map_reverse]
    show _ ++ Value.ref (ax_ad g k) :: _ = _
    rw [ax_ad_lt g (by have := hR.2.2; omega)]
  have hargs : ((Value.ref k :: as).map (ax_cv g)) = .ref (g.2.1 + k) :: as.map (ax_cv g) := by
    show Value.ref (ax_ad g k) :: _ = _
    rw [ax_ad_lt g (by have := hR.2.2; omega)]
  have hrun := va_runV (e := e) (below := below) (meth := meth) (H := H) (locs := locs) (cells := z.1 - n0) (slots := ax_Sl z.1 - ax_Sl n0) (b := g.2.1 + k) (As := as.map (ax_cv g)) (rest := st.map (ax_cv g)) (g := F0 m pc ls ((as.reverse ++ .ref k :: st).map (ax_cv g))) ⟨hx, hb, hml, hown, hts⟩ hM hcw ⟨ax_blind _ _ _, by rw [← hcn]; exact hrecv, fun U hU hw => ⟨by rw [hargs], by rw [hU]; exact hR, by rw [hU]; exact hH, ax_Wld_go hW hS hU hw⟩⟩ rfl (by rw [List.length_map]; exact hal) hl.1 hstk (by rw [ax_cs_eq]; show 2 * 0 + _ ≤ 8; omega) hd ⟨by omega, by omega⟩
  refine ax_callg hrun hS (fun r z' H1 locs1 hK hz hR1 hS1 => ?_)
  have := kk r z' hK (by omega) ls H1 locs1 hl hR1 hS1
  rw [hz, show z.1 + ax_mc y - n0 = z.1 - n0 + ax_mc y by omega, show ax_Sl (z.1 + ax_mc y) - ax_Sl n0 = ax_Sl z.1 - ax_Sl n0 + (ax_Sl (z.1 + ax_mc y) - ax_Sl z.1) by omega, ← ax_tog] at this
  exact this
theorem ax_callS (B : ax_BC g p R s m args meth c cc own fr lo rt nL n0 top) {y np ix : Nat} {as : List Value} {K : ax_Po} (hy : y < 205) (hkn : (ax_M y).2.2.2.2.2.2.1 = 1) (hnp : (ax_M y).2.2.2.2.2.2.2 = np) (hfr : (ax_M y).2.2.2.2.1 + 1 ≤ fr) (hlo : 8 + ((ax_M y).2.2.1 + 11) + (ax_M y).2.2.2.2.2.1 ≤ lo) (hw : Cond.methodLink own ix (ax_M y).1 ∈ ax_T) (hd : decode cc pc = .ok (.invokestatic ix, 3))
    (hal : as.length = np) (h8 : ax_cs st ≤ 8) (ht : z.1 + ax_mc y ≤ top) (hM : ax_MM g y as z K) (kk : ∀ r z', K r z' → ax_GG g p e R s m args below meth c Q nL n0 (pc + 3) L (r.toList ++ st) z') : ax_GG g p e R s m args below meth c Q nL n0 pc L (as.reverse ++ st) z := by
  obtain ⟨hx, hb, hml, hown, hts, -, -, hW, hsz, hRf, hRl, hRc, hRs, h0t⟩ := B
  obtain ⟨o1, o2, o3, o4, o5, o6, o7, o8⟩ := ax_M_ok hy
  have os := o7 hkn
  intro h0 ls H locs hl hR hS
  refine ax_szW fun hle => ?_
  have hH : H.size = g.2.1 + z.1 := ax_size hR h0 hsz hle (by rw [← hsz]; exact hS.1)
  have a1 := ax_Sl_mono h0
  have a2 := ax_Sl_mono ht
  have a3 := ax_Sl_mono (Nat.le_add_right z.1 (ax_mc y))
  have hT : GoodIn ax_T (va_wsS own ix (ax_M y).1 (ax_wsy y)) := by
    intro w hw'
    unfold va_wsS at hw'
    rcases List.mem_append.mp hw' with h | h
    · simp only [List.mem_cons, List.not_mem_nil, or_false] at h
      rcases h with rfl | rfl | rfl
      · exact ⟨hw, (ax_T_good hw).2⟩
      · exact ⟨os, (ax_T_good os).2⟩
      · exact ⟨o3, (ax_T_good o3).2⟩
    · exact ax_good hy w h
  have hcw := va_cwS (R := R) (rm := ax_rm y z.1) (mc := ax_mc y) (ms := ax_Sl (z.1 + ax_mc y) - ax_Sl z.1) (ws := ax_wsy y) np hts hT rfl rfl rfl ⟨o4.1, o4.2, by rw [o5, hnp]⟩ ⟨by show (ax_M y).2.2.2.2.1 + 1 ≤ _; omega, by show _ + (ax_M y).2.2.2.2.2.1 ≤ _; omega⟩
  have hstk : ((as.reverse ++ st).map (ax_cv g)) = (as.map (ax_cv g)).reverse ++ st.map (ax_cv g) := by
    rw [List.map_append, List.map_reverse]
  have hrun := va_runS (e := e) (below := below) (meth := meth) (H := H) (locs := locs) (cells := z.1 - n0) (slots := ax_Sl z.1 - ax_Sl n0) (As := as.map (ax_cv g)) (rest := st.map (ax_cv g)) (g := F0 m pc ls ((as.reverse ++ st).map (ax_cv g))) ⟨hx, hb, hml, hown, hts⟩ hM hcw ⟨ax_blind _ _ _, fun U hU hw => ⟨rfl, by rw [hU]; exact hR, by rw [hU]; exact hH, ax_Wld_go hW hS hU hw⟩⟩ rfl (by rw [List.length_map]; exact hal) hl.1 hstk (by rw [ax_cs_eq]; show 2 * 0 + _ ≤ 8; omega) hd ⟨by omega, by omega⟩
  refine ax_callg hrun hS (fun r z' H1 locs1 hK hz hR1 hS1 => ?_)
  have := kk r z' hK (by omega) ls H1 locs1 hl hR1 hS1
  rw [hz, show z.1 + ax_mc y - n0 = z.1 - n0 + ax_mc y by omega, show ax_Sl (z.1 + ax_mc y) - ax_Sl n0 = ax_Sl z.1 - ax_Sl n0 + (ax_Sl (z.1 + ax_mc y) - ax_Sl z.1) by omega, ← ax_tog] at this
  exact this
theorem ax_callI (B : ax_BC g p R s m args meth c cc own fr lo rt nL n0 top) {y ix k : Nat} {K : ax_Po} (hy : y < 205) (hkn : (ax_M y).2.2.2.2.2.2.1 = 2) (hnp : (ax_M y).2.2.2.2.2.2.2 = 0) (hfr : (ax_M y).2.2.2.2.1 + 1 ≤ fr) (hlo : 8 + ((ax_M y).2.2.1 + 11) + (ax_M y).2.2.2.2.2.1 ≤ lo) (hw : Cond.methodLink own ix (ax_M y).1 ∈ ax_T ∨ (own, ix, y) ∈ ax_nest) (hd : decode cc pc = .ok (.invokespecial ix, 3))
    (h8 : ax_cs st ≤ 8) (ht : z.1 + ax_mc y ≤ top) (hM : ax_MM g y [.ref k] z K) (kk : ∀ r z', K r z' → ax_GG g p e R s m args below meth c Q nL n0 (pc + 3) L (r.toList ++ st) z') : ax_GG g p e R s m args below meth c Q nL n0 pc L (.ref k :: st) z := by
  obtain ⟨hx, hb, hml, hown, hts, -, -, hW, hsz, hRf, hRl, hRc, hRs, h0t⟩ := B
  obtain ⟨o1, o2, o3, o4, o5, o6, o7, o8⟩ := ax_M_ok hy
  obtain ⟨oi, on, or⟩ := o8 hkn
  intro h0 ls H locs hl hR hS
  refine ax_szW fun hle => ?_
  have hH : H.size = g.2.1 + z.1 := ax_size hR h0 hsz hle (by rw [← hsz]; exact hS.1)
  have a1 := ax_Sl_mono h0
  have a2 := ax_Sl_mono ht
  have a3 := ax_Sl_mono (Nat.le_add_right z.1 (ax_mc y))
  have hwsy : ax_wsy y = .code (ax_M y).1 (ax_M y).2.1 (ax_M y).2.2.1 none :: ax_T := by unfold ax_wsy; rw [or]
  have hrun : va_Run p g.1 e R s m args below meth c H locs (z.1 - n0) (ax_Sl z.1 - ax_Sl n0) (ax_mc y) (ax_Sl (z.1 + ax_mc y) - ax_Sl z.1) (F0 m pc ls ((Value.ref k :: st).map (ax_cv g))) (st.map (ax_cv g)) (ax_Qc g K (z.1 + ax_mc y) (Value.ref (ax_ad g k) :: []).toArray) (ax_A g) := by
    have hpre : PreS s H (ax_Pc g [.ref k] z) (.ref (ax_ad g k) :: []) := ⟨ax_blind _ _ _, fun U hU hw => ⟨rfl, by rw [hU]; exact hR, by rw [hU]; exact hH, ax_Wld_go hW hS hU hw⟩⟩
    rcases hw with hw | hw
    · have hcw := cwI (R := R) (rm := ax_rm y z.1) (mc := ax_mc y) (ms := ax_Sl (z.1 + ax_mc y) - ax_Sl z.1) (ws := ax_wsy y) 0 hts (ax_good hy) hwsy rfl rfl (hts _ o3) (hts _ hw) (hts _ oi) on ⟨o4.1, o4.2, by rw [o5, hnp]⟩ ⟨by show (ax_M y).2.2.2.2.1 + 1 ≤ _; omega, by show _ + (ax_M y).2.2.2.2.2.1 ≤ _; omega⟩
      exact va_runI (As := []) ⟨hx, hb, hml, hown, hts⟩ hM hcw hpre rfl rfl hl.1 rfl (by rw [ax_cs_eq]; show 2 * 0 + _ ≤ 8; omega) hd ⟨by omega, by omega⟩
    · have hcw := va_cnB (R := R) (rm := ax_rm y z.1) (mc := ax_mc y) (ms := ax_Sl (z.1 + ax_mc y) - ax_Sl z.1) (ws := ax_wsy y) 0 hts (ax_good hy) hwsy rfl rfl (hW.2.1 _ hw) (hts _ o3) ⟨o4.1, o4.2, by rw [o5, hnp]⟩ ⟨by show (ax_M y).2.2.2.2.1 + 1 ≤ _; omega, by show _ + (ax_M y).2.2.2.2.2.1 ≤ _; omega⟩
      exact va_runIN (As := []) ⟨hx, hb, hml, hown, hts⟩ hM ⟨hcw, on, hts _ oi⟩ hpre rfl rfl hl.1 rfl (by rw [ax_cs_eq]; show 2 * 0 + _ ≤ 8; omega) hd ⟨by omega, by omega⟩
  refine ax_callg hrun hS (fun r z' H1 locs1 hK hz hR1 hS1 => ?_)
  have := kk r z' hK (by omega) ls H1 locs1 hl hR1 hS1
  rw [hz, show z.1 + ax_mc y - n0 = z.1 - n0 + ax_mc y by omega, show ax_Sl (z.1 + ax_mc y) - ax_Sl n0 = ax_Sl z.1 - ax_Sl n0 + (ax_Sl (z.1 + ax_mc y) - ax_Sl z.1) by omega, ← ax_tog] at this
  exact this
end AX2
