/-! The book: the class's call, then the model's. -/
theorem RS_J {D : ax_Dn} (hJ : J D) : RS D D := by
  have hok := J_okC hJ
  obtain ⟨e22, e23, e32, e35, e40, f68, f69, f70, f81, f82, f83, f84, f85, f86, f76⟩ := J_eqs hJ
  obtain ⟨w1, w2, w3, w4, w5, w6, w7⟩ := hJ.1.2.2.1
  exact ⟨hok.1, hok.2.1, hok.2.2.2.2.2.2.2.2.2.1, e22, e23, w2, w3, w6, w7, f68, f69⟩
def bo_ : List Nat := [2, 3, 4, 5, 7, 8, 9, 10, 11, 43, 45, 46, 47, 48, 49, 58, 61, 62, 63, 64, 65, 66, 67, 68, 69, 71, 72, 73, 74, 75, 79, 80]
theorem J_bk {D D' : ax_Dn} (hJ : J D) (h : ∀ c, ¬ c ∈ bo_ → D' c = D c) (h43 : D' 43 1 = 0) (h20 : D' 58 20 = 0) (h58 : ∀ i, ¬ (20 ≤ i ∧ i ≤ 24) → D' 58 i = D 58 i) (hR : RS D' D') : J D' := by
  have g : ∀ c, decide (¬ c ∈ bo_) = true → D' c = D c := fun c hc => h c (of_decide_eq_true hc)
  obtain ⟨a1, a2, a3, a4, a5, a6, a7, a8, a9, b1, b2⟩ := hR
  obtain ⟨⟨ok, jn, jw, jf, k1, k2⟩, b, c, d, e, f⟩ := hJ
  refine ⟨⟨?_, ?_, ?_, ?_, ?_, ?_⟩, ?_, ?_, ?_, ?_, J6c (fun k k1 k2 => ?_) ?_ (by rw [g 0 rfl]) (h58 43 (by decide)) f⟩
  · unfold okC at *
    rw [g 12 rfl, g 13 rfl, g 14 rfl, g 15 rfl, g 16 rfl, g 17 rfl, g 6 rfl, g 21 rfl, g 19 rfl, g 20 rfl]
    exact ⟨a1, a2, ok.2.2.1, ok.2.2.2.1, ok.2.2.2.2.1, ok.2.2.2.2.2.1, ok.2.2.2.2.2.2.1, ok.2.2.2.2.2.2.2.1, ok.2.2.2.2.2.2.2.2.1, a3, ok.2.2.2.2.2.2.2.2.2.2⟩
  · unfold JN at *
    rw [g 12 rfl, g 19 rfl, g 1 rfl, h58 32 (by decide), h58 35 (by decide), h58 40 (by decide)]
    exact ⟨a4, a5, jn.2.2⟩
  · unfold JW at *
    rw [g 1 rfl, g 88 rfl, g 89 rfl]
    exact ⟨jw.1, a6, a7, jw.2.2.2.1, jw.2.2.2.2.1, a8, a9⟩
  · unfold JF at *
    rw [g 70 rfl, g 6 rfl, g 81 rfl, g 82 rfl, g 83 rfl, g 84 rfl, g 85 rfl, g 86 rfl, g 76 rfl, g 13 rfl, g 14 rfl, g 15 rfl, g 16 rfl, g 17 rfl, g 20 rfl, g 21 rfl]
    exact ⟨b1, b2, jf.2.2⟩
  · rw [g 88 rfl]; exact k1
  · rw [g 89 rfl]; exact k2
  · rw [g 59 rfl, g 51 rfl]; exact b
  · unfold J3 at *
    rw [g 60 rfl, g 44 rfl, h43, h20]
    exact ⟨c.1, rfl, ⟨by decide, by decide⟩, c.2.2.2⟩
  · unfold J4 at *
    rw [g 90 rfl, g 50 rfl, h58 41 (by decide), g 0 rfl]
    exact d
  · rw [g 77 rfl, g 78 rfl]; exact e
  · unfold sh
    refine h (k + 21) ?_
    unfold bo_
    simp only [List.mem_cons, List.not_mem_nil, or_false]
    omega
  · unfold im
    rw [g 91 rfl]
theorem us_ {t : Nat → Int32} {n s q : Nat} (h1 : ∀ i, i < s → (sP_ t n (ps_ t n i)).1 = true) (h2 : (sP_ t n (ps_ t n s)).1 = false) (h3 : ∀ i, i < q → (sP_ t n (ps_ t n i)).1 = true) (h4 : (sP_ t n (ps_ t n q)).1 = false) : s = q := by
  by_cases c : s < q
  · exact absurd ((h3 s c).symm.trans h2) (by decide)
  · by_cases c2 : q < s
    · exact absurd ((h1 q c2).symm.trans h4) (by decide)
    · omega
theorem sPn_ {t : Nat → Int32} {n p : Nat} (h : p = n) : (sP_ t n p).1 = false := by
  cases hb : (sP_ t n p).1
  · rfl
  · exact absurd (sP_t hb).1 (by omega)
theorem rm_row {D D' : ax_Dn} (h : rm_ D D') (x : Nat) (hx : ¬ x = 58 ∧ ¬ (61 ≤ x ∧ x ≤ 66)) : D' x = D x := funext fun i => h x i (fun q => hx.1 q.1) hx.2
theorem cl_n (D : ax_Dn) {c : Nat} (h : ¬ c = 43) : cl_ D c = D c := ax_up_n _ _ h
theorem cl_1 (D : ax_Dn) : cl_ D 43 1 = 0 := by unfold cl_; rw [ax_up_s, ax_up_s]
theorem cm_n (D : ax_Dn) {c : Nat} (h : ¬ c = 58) : cm_ D c = D c := ax_up_n _ _ h
theorem cm_i (D : ax_Dn) {i : Nat} (h : ¬ i = 20) : cm_ D 58 i = D 58 i := by unfold cm_; rw [ax_up_s, ax_up_n _ _ h]
theorem cm_20 (D : ax_Dn) : cm_ D 58 20 = 0 := by unfold cm_; rw [ax_up_s, ax_up_s]
theorem c2_n (D : ax_Dn) {c : Nat} (h : ¬ c = 58 ∧ ¬ c = 79 ∧ ¬ c = 80) : c2_ D c = D c := by unfold c2_; rw [ax_up_n _ _ h.2.2, ax_up_n _ _ h.2.1, cm_n D h.1]
theorem c2_i (D : ax_Dn) (i : Nat) : c2_ D 58 i = cm_ D 58 i := by unfold c2_; rw [ax_up_n _ _ (by decide), ax_up_n _ _ (by decide)]
theorem pr_74 {D : ax_Dn} (E : ax_En) (hJ : J D) : cy_74 [.ref 0] (ax_S D E) (KI cy_138 [.ref 58]) := by
  have hok := J_okC hJ
  have hR := RS_J hJ
  obtain ⟨e22, e23, e32, e35, e40, f68, f69, f70, f81, f82, f83, f84, f85, f86, f76⟩ := J_eqs hJ
  obtain ⟨M, hM, hM6, hcM⟩ := ax_cnt_of hok.1 (by decide)
  obtain ⟨N, hN, hN20, hcN⟩ := ax_cnt_of hok.2.1 (by decide)
  obtain ⟨t1, t2, t3, t4⟩ := hJ.2.2.1
  obtain ⟨n, hn, hn64, hcn⟩ := ax_cnt_of t3 (by decide)
  rw [ry_74]
  simp only [KI_i, ry_138, FI_i]
  refine ⟨D 44, n, M, N, rfl, hn, hn64, hM, hN, hM6, hN20, fun s D1 hr s1 s2 s3 => ?_, fun s D1 hr s1 s2 s3 => ⟨fun hw => ?_, fun hw => ?_⟩⟩
  · -- it is not read
    have b60 : cl_ D1 60 = D 44 := (r_row hr.1 60 (by decide)).trans t1
    have b58 : D1 58 = D 58 := r_row hr.1 58 (by decide)
    refine ⟨D 44, n, M, N, b60, (congrFun b58 20).trans (t2.trans hn), hn64, (congrFun b58 22).trans (e22.trans hM), (congrFun b58 23).trans (e23.trans hN), hM6, hN20, fun q D2 hr2 q1 q2 q3 q4 => ?_, fun q D2 hr2 q1 q2 q3 => ?_⟩
    · have hsq := us_ (fun i hi => (hr.2.2 i hi).1) s3 q2 q4
      subst hsq
      refine ⟨rfl, J_bk hJ (fun c hc => ?_) ?_ ?_ (fun i hi => ?_) ?_⟩
      · unfold bo_ at hc
        simp only [List.mem_cons, List.not_mem_nil, or_false] at hc
        rw [cm_n _ (by omega), rm_row hr2 c (by omega), cl_n _ (by omega), r_row hr.1 c (by omega)]
      · rw [cm_n _ (by decide), rm_row hr2 43 (by decide), cl_1]
      · exact cm_20 _
      · rw [cm_i _ (by omega), hr2 58 i (by omega) (by decide), cl_n _ (by decide), b58]
      · have x : ∀ c, ¬ c = 43 ∧ ¬ (45 ≤ c ∧ c ≤ 49) ∧ ¬ c = 58 ∧ ¬ (61 ≤ c ∧ c ≤ 66) → cm_ D2 c = D c := fun c hc => by
          rw [cm_n _ hc.2.2.1, rm_row hr2 c hc.2.2, cl_n _ hc.1, r_row hr.1 c ⟨hc.1, hc.2.1⟩]
        have y : ∀ i, ¬ i = 20 ∧ ¬ i = 21 ∧ ¬ i = 24 → cm_ D2 58 i = D 58 i := fun i hi => by
          rw [cm_i _ hi.1, hr2 58 i (by omega) (by decide), cl_n _ (by decide), b58]
        exact RS_cg (by rw [x 2 (by decide)]) (by rw [x 2 (by decide)]) (x 3 (by decide)) (x 4 (by decide)) (x 5 (by decide)) (x 7 (by decide)) (x 8 (by decide)) (x 9 (by decide)) (x 10 (by decide)) (x 11 (by decide)) (y 22 (by decide)) (y 23 (by decide)) (fun j _ => by rw [x 67 (by decide)]) (x 68 (by decide)) (x 69 (by decide)) (fun i _ => by rw [x 71 (by decide), x 72 (by decide), x 73 (by decide), x 74 (by decide), x 75 (by decide)]; exact ⟨rfl, rfl, rfl, rfl, rfl⟩) hR
    · have hsq := us_ (fun i hi => (hr.2.2 i hi).1) s3 (fun i hi => (hr2.2.2 i hi).1) (sPn_ q3)
      subst hsq
      exact absurd q3 (by have := s2 q1; omega)
  · -- a statement is wrong
    have b60 : cl_ D1 60 = D 44 := (r_row hr.1 60 (by decide)).trans t1
    have b58 : D1 58 = D 58 := r_row hr.1 58 (by decide)
    refine ⟨D 44, n, M, N, b60, (congrFun b58 20).trans (t2.trans hn), hn64, (congrFun b58 22).trans (e22.trans hM), (congrFun b58 23).trans (e23.trans hN), hM6, hN20, fun q D2 hr2 q1 q2 q3 q4 => ?_, fun q D2 hr2 q1 q2 q3 => ?_⟩
    · have hsq := us_ (fun i hi => (hr.2.2 i hi).1) (sPn_ s3) q2 q4
      subst hsq
      exact absurd s3 (by have := q3 s1; omega)
    · have hsq := us_ (fun i hi => (hr.2.2 i hi).1) (sPn_ s3) (fun i hi => (hr2.2.2 i hi).1) (sPn_ q3)
      subst hsq
      refine ⟨D1 46, D1 47, D1 48, D1 49, fun x hx => rs_of (hr.2.2 x hx).1 (hr.2.2 x hx).2.2.2 (hr2.2.2 x hx).2, fun w hw2 hw3 D3 hb => ?_, fun hw2 => absurd ((show wx_ (D 44) n s M N D1 = s from hw2)) (by omega)⟩
      have e : w = wx_ (D 44) n s M N D1 := hw2
      subst e
      have c58 : ∀ i, ¬ i = 20 ∧ ¬ i = 21 ∧ ¬ i = 24 → D3 58 i = D 58 i := fun i hi => by
        rw [hb.1 58 (by decide), c2_i, cm_i _ hi.1, hr2.1 58 i (by omega) (by decide), cl_n _ (by decide), b58]
      have x2 : ∀ c, ¬ c = 43 ∧ ¬ (45 ≤ c ∧ c ≤ 49) ∧ ¬ c = 58 ∧ ¬ (61 ≤ c ∧ c ≤ 66) ∧ ¬ c = 79 ∧ ¬ c = 80 → c2_ D2 c = D c := fun c hc => by
        rw [c2_n _ ⟨hc.2.2.1, hc.2.2.2.2.1, hc.2.2.2.2.2⟩, rm_row hr2.1 c ⟨hc.2.2.1, hc.2.2.2.1⟩, cl_n _ hc.1, r_row hr.1 c ⟨hc.1, hc.2.1⟩]
      have x : ∀ c, (¬ c = 43 ∧ ¬ (45 ≤ c ∧ c ≤ 49) ∧ ¬ c = 58 ∧ ¬ (61 ≤ c ∧ c ≤ 66) ∧ ¬ c = 79 ∧ ¬ c = 80) ∧ ¬ c = 67 ∧ ¬ (71 ≤ c ∧ c ≤ 75) → D3 c = D c := fun c hc => (hb.1 c hc.2).trans (x2 c hc.1)
      have y22 : c2_ D2 58 22 = D 2 0 := by
        rw [c2_i, cm_i _ (by decide), hr2.1 58 22 (by decide) (by decide), cl_n _ (by decide), b58]; exact e22
      have y23 : c2_ D2 58 23 = D 2 5 := by
        rw [c2_i, cm_i _ (by decide), hr2.1 58 23 (by decide) (by decide), cl_n _ (by decide), b58]; exact e23
      refine ⟨rfl, J_bk hJ (fun c hc => ?_) ?_ ?_ (fun i hi => c58 i (by omega)) ?_⟩
      · unfold bo_ at hc
        simp only [List.mem_cons, List.not_mem_nil, or_false] at hc
        exact x c (by omega)
      · rw [hb.1 43 (by decide), c2_n _ (by decide), rm_row hr2.1 43 (by decide), cl_1]
      · rw [hb.1 58 (by decide), c2_i, cm_20]
      · refine RS_cg (by rw [x 2 (by decide)]) (by rw [x 2 (by decide)]) (x 3 (by decide)) (x 4 (by decide)) (x 5 (by decide)) (x 7 (by decide)) (x 8 (by decide)) (x 9 (by decide)) (x 10 (by decide)) (x 11 (by decide)) (c58 22 (by decide)) (c58 23 (by decide)) (fun j hj => ?_) (x 68 (by decide)) (x 69 (by decide)) (fun i hi => ?_) hR
        · rw [hb.2.1 j (by rw [y22]; exact hj), x2 67 (by decide)]
        · obtain ⟨z1, z2, z3, z4, z5⟩ := hb.2.2 i (by rw [y23]; exact hi)
          rw [z1, z2, z3, z4, z5, x2 71 (by decide), x2 72 (by decide), x2 73 (by decide), x2 74 (by decide), x2 75 (by decide)]
          exact ⟨rfl, rfl, rfl, rfl, rfl⟩
  · -- all of it comes
    have o : ∀ c, (¬ (2 ≤ c ∧ c ≤ 5) ∧ ¬ (7 ≤ c ∧ c ≤ 11)) → itC (fun i => D 44 (ps_ (D 44) n i)) (D1 46) (D1 47) (D1 48) (D1 49) s 0 D1 c = D1 c := fun c hc => itC_o c hc s 0 D1
    have o2 : ∀ i, (¬ i = 0 ∧ ¬ i = 5) → itC (fun i => D 44 (ps_ (D 44) n i)) (D1 46) (D1 47) (D1 48) (D1 49) s 0 D1 2 i = D1 2 i := fun i hi => itC_2 i hi s 0 D1
    have RC := fun {a b d' v' : Nat → Int32} {Md : ax_Dn} => it_RS (L := fun i => D 44 (ps_ (D 44) n i)) (m := D1 46) (s := D1 47) (d := D1 48) (v := D1 49) (a := a) (b := b) (d' := d') (v' := v') s 0 M N D1 Md
    generalize hC : itC (fun i => D 44 (ps_ (D 44) n i)) (D1 46) (D1 47) (D1 48) (D1 49) s 0 D1 = C at *
    have b60 : cl_ C 60 = D 44 := by rw [cl_n _ (by decide), o 60 (by decide)]; exact (r_row hr.1 60 (by decide)).trans t1
    have b58 : cl_ C 58 = D 58 := by rw [cl_n _ (by decide), o 58 (by decide)]; exact r_row hr.1 58 (by decide)
    refine ⟨D 44, n, M, N, b60, (congrFun b58 20).trans (t2.trans hn), hn64, (congrFun b58 22).trans (e22.trans hM), (congrFun b58 23).trans (e23.trans hN), hM6, hN20, fun q D2 hr2 q1 q2 q3 q4 => ?_, fun q D2 hr2 q1 q2 q3 => ?_⟩
    · have hsq := us_ (fun i hi => (hr.2.2 i hi).1) (sPn_ s3) q2 q4
      subst hsq
      exact absurd s3 (by have := q3 s1; omega)
    · have hsq := us_ (fun i hi => (hr.2.2 i hi).1) (sPn_ s3) (fun i hi => (hr2.2.2 i hi).1) (sPn_ q3)
      subst hsq
      have hrs : ∀ x, x < s → rst_ (D 44 (ps_ (D 44) n x)) (D1 46 x) (D1 47 x) (D1 48 x) (D1 49 x) (D2 62 x) (D2 63 x) (D2 64 x) (D2 65 x) := fun x hx => rs_of (hr.2.2 x hx).1 (hr.2.2 x hx).2.2.2 (hr2.2.2 x hx).2
      refine ⟨D1 46, D1 47, D1 48, D1 49, hrs, fun w hw2 hw3 => absurd (hw2.trans hw) (by omega), fun _ => ⟨rfl, ?_⟩⟩
      have y : ∀ i, ¬ i = 20 ∧ ¬ i = 21 ∧ ¬ i = 24 → c2_ D2 58 i = D 58 i := fun i hi => by
        rw [c2_i, cm_i _ hi.1, hr2.1 58 i (by omega) (by decide), b58]
      have x2 : ∀ c, ¬ c = 43 ∧ ¬ c = 58 ∧ ¬ (61 ≤ c ∧ c ≤ 66) ∧ ¬ c = 79 ∧ ¬ c = 80 → c2_ D2 c = C c := fun c hc => by
        rw [c2_n _ ⟨hc.2.1, hc.2.2.2.1, hc.2.2.2.2⟩, rm_row hr2.1 c ⟨hc.2.1, hc.2.2.1⟩, cl_n _ hc.1]
      have xm : ∀ c, 67 ≤ c ∧ c ≤ 75 → c2_ D2 c = D c := fun c hc => by
        rw [x2 c (by omega), o c (by omega), r_row hr.1 c (by omega)]
      have xr : ∀ c, c ≤ 11 → D1 c = D c := fun c hc => r_row hr.1 c (by omega)
      have R0 : RS D1 (c2_ D2) := RS_cg (by rw [xr 2 (by decide)]) (by rw [xr 2 (by decide)]) (xr 3 (by decide)) (xr 4 (by decide)) (xr 5 (by decide)) (xr 7 (by decide)) (xr 8 (by decide)) (xr 9 (by decide)) (xr 10 (by decide)) (xr 11 (by decide)) (y 22 (by decide)) (y 23 (by decide)) (fun j _ => by rw [xm 67 (by decide)]) (xm 68 (by decide)) (xm 69 (by decide)) (fun i _ => by rw [xm 71 (by decide), xm 72 (by decide), xm 73 (by decide), xm 74 (by decide), xm 75 (by decide)]; exact ⟨rfl, rfl, rfl, rfl, rfl⟩) hR
      have R1 := RC R0 (by rw [xr 2 (by decide)]; exact hM) (by rw [xr 2 (by decide)]; exact hN) hM6 hN20 (fun x _ hx => hrs x (by omega)) (by rw [Nat.zero_add]; exact hw)
      have F := fun (c : Nat) (hc : ¬ c = 58 ∧ ¬ (67 ≤ c ∧ c ≤ 69) ∧ ¬ (71 ≤ c ∧ c ≤ 75)) => itM_o (L := fun i => D 44 (ps_ (D 44) n i)) (a := D2 62) (b := D2 63) (d := D2 64) (v := D2 65) c hc s 0 (c2_ D2)
      have F58 := fun (i : Nat) (hi : ¬ i = 22 ∧ ¬ i = 23) => itM_58 (L := fun i => D 44 (ps_ (D 44) n i)) (a := D2 62) (b := D2 63) (d := D2 64) (v := D2 65) i hi s 0 (c2_ D2)
      generalize itM (fun i => D 44 (ps_ (D 44) n i)) (D2 62) (D2 63) (D2 64) (D2 65) s 0 (c2_ D2) = Z at *
      have z : ∀ c, c ≤ 11 → Z c = C c := fun c hc => (F c (by omega)).trans (x2 c (by omega))
      refine J_bk hJ (fun c hc => ?_) ?_ ?_ (fun i hi => (F58 i (by omega)).trans (y i (by omega))) ?_
      · unfold bo_ at hc
        simp only [List.mem_cons, List.not_mem_nil, or_false] at hc
        rw [F c (by omega), x2 c (by omega), o c (by omega), r_row hr.1 c (by omega)]
      · rw [F 43 (by decide), c2_n _ (by decide), rm_row hr2.1 43 (by decide), cl_1]
      · rw [F58 20 (by decide), c2_i, cm_20]
      · exact RS_cg (by rw [z 2 (by decide)]) (by rw [z 2 (by decide)]) (z 3 (by decide)) (z 4 (by decide)) (z 5 (by decide)) (z 7 (by decide)) (z 8 (by decide)) (z 9 (by decide)) (z 10 (by decide)) (z 11 (by decide)) rfl rfl (fun _ _ => rfl) rfl rfl (fun _ _ => ⟨rfl, rfl, rfl, rfl, rfl⟩) R1
