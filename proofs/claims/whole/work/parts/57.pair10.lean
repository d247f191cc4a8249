/-! Pairs: on. -/
theorem rS_lo {k : Nat} (h : k < 67) : rS_ k = none := by
  unfold rS_
  rw [ax_up_n _ _ (by omega), ax_up_n _ _ (by omega), ax_up_n _ _ (by omega), ax_up_n _ _ (by omega), ax_up_n _ _ (by omega), ax_up_n _ _ (by omega), ax_up_n _ _ (by omega), ax_up_n _ _ (by omega), ax_up_n _ _ (by omega), ax_up_n _ _ (by omega), ax_up_n _ _ (by omega), ax_up_n _ _ (by omega), ax_up_n _ _ (by omega), ax_up_n _ _ (by omega), ax_up_n _ _ (by omega), ax_up_n _ _ (by omega), ax_up_n _ _ (by omega), ax_up_n _ _ (by omega)]
theorem okC_on {D X : ax_Dn} (h2 : okC D) (h : okC (sh D)) (e2 : X 2 0 = D 23 0 ∧ X 2 5 = D 23 5) (e12 : X 12 0 = D 33 0) (e19 : X 19 0 = D 40 0) (x5 : X 5 = va_cpy (D 26) (D 5) 0 0 10) (x6 : X 6 = va_cpy (D 27) (D 6) 0 0 10) (x13 : X 13 = va_cpy (D 34) (D 13) 0 0 30) (x14 : X 14 = va_cpy (D 35) (D 14) 0 0 30) (x15 : X 15 = va_cpy (D 36) (D 15) 0 0 30) (x16 : X 16 = va_cpy (D 37) (D 16) 0 0 30) (x17 : X 17 = va_cpy (D 38) (D 17) 0 0 30) (x20 : X 20 = va_cpy (D 41) (D 20) 0 0 40) (x21 : X 21 = va_cpy (D 42) (D 21) 0 0 5) : okC X := by
  unfold okC at h h2 ⊢
  unfold sh at h
  simp only [Nat.reduceAdd] at h
  simp only [e2.1, e2.2, e12, e19, x5, x6, x13, x14, x15, x16, x17, x20, x21]
  obtain ⟨o1, o2, o3, o4, o5, o6, o7, o8, o9, p1, p2, p3, p4, p5, p6, p7, p8⟩ := h
  obtain ⟨-, -, -, q4, q5, q6, q7, q8, q9, r1, -, -, -, -, -, -, r8⟩ := h2
  refine ⟨o1, o2, o3, ?_, ?_, ?_, ?_, ?_, ?_, ?_, ?_, ?_, ?_, ?_, ?_, p7, ?_⟩
  · exact cp_all (P := fun x => ax_cnt x 9) o4 q4
  · exact cp_all (P := fun x => rg_ x (-9) 9) o5 q5
  · exact cp_all (P := fun x => ax_cnt x 15) o6 q6
  · exact cp_all (P := fun x => ax_cnt x 13) o7 q7
  · exact cp_all (P := fun x => ax_cnt x 9) o8 q8
  · exact cp_all (P := fun x => ax_cnt x 9) o9 q9
  · exact cp_all (P := fun x => rg_ x (-9) 9) p1 r1
  · rw [cp_i (by decide)]; exact p2
  · rw [cp_i (by decide)]; exact p3
  · rw [cp_i (by decide)]; exact p4
  · rw [cp_i (by decide)]; exact p5
  · rw [cp_i (by decide)]; exact p6
  · exact cp_all (P := fun x => ax_cnt x 9) p8 r8
theorem J_on {D X D' : ax_Dn} (hJ : J D) (h02 : D 0 2 = 1) (hk : ∀ k, k = 0 ∨ 22 ≤ k ∨ k = 18 → X k = D k) (e1 : X 1 4 = D 22 4 ∧ X 1 5 = D 22 5) (e2 : X 2 0 = D 23 0 ∧ X 2 5 = D 23 5) (e12 : X 12 0 = D 33 0) (e19 : X 19 0 = D 40 0) (x3 : X 3 = va_cpy (D 24) (D 3) 0 0 6) (x4 : X 4 = va_cpy (D 25) (D 4) 0 0 6) (x5 : X 5 = va_cpy (D 26) (D 5) 0 0 10) (x6 : X 6 = va_cpy (D 27) (D 6) 0 0 10) (x7 : X 7 = va_cpy (D 28) (D 7) 0 0 20) (x8 : X 8 = va_cpy (D 29) (D 8) 0 0 20) (x9 : X 9 = va_cpy (D 30) (D 9) 0 0 20) (x10 : X 10 = va_cpy (D 31) (D 10) 0 0 20) (x11 : X 11 = va_cpy (D 32) (D 11) 0 0 20) (x13 : X 13 = va_cpy (D 34) (D 13) 0 0 30) (x14 : X 14 = va_cpy (D 35) (D 14) 0 0 30) (x15 : X 15 = va_cpy (D 36) (D 15) 0 0 30) (x16 : X 16 = va_cpy (D 37) (D 16) 0 0 30) (x17 : X 17 = va_cpy (D 38) (D 17) 0 0 30) (x20 : X 20 = va_cpy (D 41) (D 20) 0 0 40) (x21 : X 21 = va_cpy (D 42) (D 21) 0 0 5) (hS : RSt (ax_up X 58 (ax_up (X 58) 44 0)) D' 372 rS_ rT_) : D' 58 22 = D 23 0 ∧ J D' := by
  obtain ⟨s1, s2, s3, s4, s5, s6⟩ := hS
  have y58 : ∀ k, k ≠ 58 → ax_up X 58 (ax_up (X 58) 44 0) k = X k := fun k a => ax_up_n _ _ a
  have y91 : ax_up X 58 (ax_up (X 58) 44 0) 91 = D 91 := by rw [y58 91 (by decide), hk 91 (by omega)]
  have m58 : ∀ j, j ≠ 44 → ax_up X 58 (ax_up (X 58) 44 0) 58 j = D 58 j := fun j a => by rw [ax_up_s, ax_up_n _ _ a, hk 58 (by omega)]
  have flo : ∀ k, k < 67 → k ≠ 58 → D' k = X k := fun k a b => by rw [s3 k b, rS_lo a]; exact y58 k b
  have d67 : D' 67 = rs_ 0 6 (D 91) (D 67) := by
    have := s3 67 (by decide)
    rw [show rS_ 67 = some 0 from rfl] at this
    rw [y91, y58 67 (by decide), hk 67 (by omega)] at this
    exact this
  have d68 : D' 68 = rs_ 6 6 (D 91) (D 68) := by
    have := s3 68 (by decide)
    rw [show rS_ 68 = some 6 from rfl] at this
    rw [y91, y58 68 (by decide), hk 68 (by omega)] at this
    exact this
  have d69 : D' 69 = rs_ 12 10 (D 91) (D 69) := by
    have := s3 69 (by decide)
    rw [show rS_ 69 = some 12 from rfl] at this
    rw [y91, y58 69 (by decide), hk 69 (by omega)] at this
    exact this
  have d70 : D' 70 = rs_ 22 10 (D 91) (D 70) := by
    have := s3 70 (by decide)
    rw [show rS_ 70 = some 22 from rfl] at this
    rw [y91, y58 70 (by decide), hk 70 (by omega)] at this
    exact this
  have d71 : D' 71 = rs_ 32 20 (D 91) (D 71) := by
    have := s3 71 (by decide)
    rw [show rS_ 71 = some 32 from rfl] at this
    rw [y91, y58 71 (by decide), hk 71 (by omega)] at this
    exact this
  have d72 : D' 72 = rs_ 52 20 (D 91) (D 72) := by
    have := s3 72 (by decide)
    rw [show rS_ 72 = some 52 from rfl] at this
    rw [y91, y58 72 (by decide), hk 72 (by omega)] at this
    exact this
  have d73 : D' 73 = rs_ 72 20 (D 91) (D 73) := by
    have := s3 73 (by decide)
    rw [show rS_ 73 = some 72 from rfl] at this
    rw [y91, y58 73 (by decide), hk 73 (by omega)] at this
    exact this
  have d74 : D' 74 = rs_ 92 20 (D 91) (D 74) := by
    have := s3 74 (by decide)
    rw [show rS_ 74 = some 92 from rfl] at this
    rw [y91, y58 74 (by decide), hk 74 (by omega)] at this
    exact this
  have d75 : D' 75 = rs_ 112 20 (D 91) (D 75) := by
    have := s3 75 (by decide)
    rw [show rS_ 75 = some 112 from rfl] at this
    rw [y91, y58 75 (by decide), hk 75 (by omega)] at this
    exact this
  have d76 : D' 76 = rs_ 132 5 (D 91) (D 76) := by
    have := s3 76 (by decide)
    rw [show rS_ 76 = some 132 from rfl] at this
    rw [y91, y58 76 (by decide), hk 76 (by omega)] at this
    exact this
  have d81 : D' 81 = rs_ 137 30 (D 91) (D 81) := by
    have := s3 81 (by decide)
    rw [show rS_ 81 = some 137 from rfl] at this
    rw [y91, y58 81 (by decide), hk 81 (by omega)] at this
    exact this
  have d82 : D' 82 = rs_ 167 30 (D 91) (D 82) := by
    have := s3 82 (by decide)
    rw [show rS_ 82 = some 167 from rfl] at this
    rw [y91, y58 82 (by decide), hk 82 (by omega)] at this
    exact this
  have d83 : D' 83 = rs_ 197 30 (D 91) (D 83) := by
    have := s3 83 (by decide)
    rw [show rS_ 83 = some 197 from rfl] at this
    rw [y91, y58 83 (by decide), hk 83 (by omega)] at this
    exact this
  have d84 : D' 84 = rs_ 227 30 (D 91) (D 84) := by
    have := s3 84 (by decide)
    rw [show rS_ 84 = some 227 from rfl] at this
    rw [y91, y58 84 (by decide), hk 84 (by omega)] at this
    exact this
  have d85 : D' 85 = rs_ 257 30 (D 91) (D 85) := by
    have := s3 85 (by decide)
    rw [show rS_ 85 = some 257 from rfl] at this
    rw [y91, y58 85 (by decide), hk 85 (by omega)] at this
    exact this
  have d86 : D' 86 = rs_ 287 40 (D 91) (D 86) := by
    have := s3 86 (by decide)
    rw [show rS_ 86 = some 287 from rfl] at this
    rw [y91, y58 86 (by decide), hk 86 (by omega)] at this
    exact this
  have d88 : D' 88 = rs_ 327 20 (D 91) (D 88) := by
    have := s3 88 (by decide)
    rw [show rS_ 88 = some 327 from rfl] at this
    rw [y91, y58 88 (by decide), hk 88 (by omega)] at this
    exact this
  have d89 : D' 89 = rs_ 347 20 (D 91) (D 89) := by
    have := s3 89 (by decide)
    rw [show rS_ 89 = some 347 from rfl] at this
    rw [y91, y58 89 (by decide), hk 89 (by omega)] at this
    exact this
  have d77 : D' 77 = D 77 := by
    have := s3 77 (by decide)
    rw [show rS_ 77 = none from rfl] at this
    rw [y58 77 (by decide), hk 77 (by omega)] at this
    exact this
  have d78 : D' 78 = D 78 := by
    have := s3 78 (by decide)
    rw [show rS_ 78 = none from rfl] at this
    rw [y58 78 (by decide), hk 78 (by omega)] at this
    exact this
  have d90 : D' 90 = D 90 := by
    have := s3 90 (by decide)
    rw [show rS_ 90 = none from rfl] at this
    rw [y58 90 (by decide), hk 90 (by omega)] at this
    exact this
  have d91 : D' 91 = D 91 := by
    have := s3 91 (by decide)
    rw [show rS_ 91 = none from rfl] at this
    rw [y58 91 (by decide), hk 91 (by omega)] at this
    exact this
  have g22 : D' 58 22 = D 91 367 := by
    have := s4 22 (by decide)
    rw [show rT_ 22 = some 367 from rfl] at this
    rw [y91] at this
    exact this
  have g23 : D' 58 23 = D 91 368 := by
    have := s4 23 (by decide)
    rw [show rT_ 23 = some 368 from rfl] at this
    rw [y91] at this
    exact this
  have g32 : D' 58 32 = D 91 369 := by
    have := s4 32 (by decide)
    rw [show rT_ 32 = some 369 from rfl] at this
    rw [y91] at this
    exact this
  have g35 : D' 58 35 = D 91 370 := by
    have := s4 35 (by decide)
    rw [show rT_ 35 = some 370 from rfl] at this
    rw [y91] at this
    exact this
  have g40 : D' 58 40 = D 91 371 := by
    have := s4 40 (by decide)
    rw [show rT_ 40 = some 371 from rfl] at this
    rw [y91] at this
    exact this
  have g20 : D' 58 20 = D 58 20 := by
    have := s4 20 (by decide)
    rw [show rT_ 20 = none from rfl] at this
    rw [m58 20 (by decide)] at this
    exact this
  have g41 : D' 58 41 = D 58 41 := by
    have := s4 41 (by decide)
    rw [show rT_ 41 = none from rfl] at this
    rw [m58 41 (by decide)] at this
    exact this
  have g43 : D' 58 43 = D 58 43 := by
    have := s4 43 (by decide)
    rw [show rT_ 43 = none from rfl] at this
    rw [m58 43 (by decide)] at this
    exact this
  obtain ⟨⟨a1, a2, a3, a4, a5, a6⟩, b, c, d, e, f⟩ := hJ
  have f0 := f
  obtain ⟨g1, g2, g3⟩ := f
  rcases g3 with g3 | ⟨-, gN, gW, gA⟩
  · rw [h02] at g3; exact absurd g3 (by decide)
  obtain ⟨u1, u2, u3, u4, u5, u6, u7, u8, u9, u0⟩ := gA
  obtain ⟨v1, v2, v3, v4, v5, v6, v7⟩ := gW
  obtain ⟨n1, n2, n3, n4, n5⟩ := gN
  have z22 : D' 58 22 = D 23 0 := by rw [g22]; exact n1
  refine ⟨z22, ⟨?_, ?_, ?_, ?_, ?_, ?_⟩, ?_, ?_, ?_, ?_, ?_⟩
  · have hX : okC X := okC_on a1 g1 e2 e12 e19 x5 x6 x13 x14 x15 x16 x17 x20 x21
    unfold okC at hX ⊢
    rw [flo 2 (by decide) (by decide), flo 5 (by decide) (by decide), flo 6 (by decide) (by decide), flo 12 (by decide) (by decide), flo 13 (by decide) (by decide), flo 14 (by decide) (by decide), flo 15 (by decide) (by decide), flo 16 (by decide) (by decide), flo 17 (by decide) (by decide), flo 19 (by decide) (by decide), flo 20 (by decide) (by decide), flo 21 (by decide) (by decide)]
    exact hX
  · unfold JN
    rw [flo 2 (by decide) (by decide), flo 12 (by decide) (by decide), flo 19 (by decide) (by decide), flo 1 (by decide) (by decide), e2.1, e2.2, e12, e19, e1.1, z22, g23, g32, g35, g40]
    exact ⟨rfl, n2, n3, n4, n5⟩
  · unfold JW
    rw [flo 1 (by decide) (by decide), flo 2 (by decide) (by decide), flo 3 (by decide) (by decide), flo 4 (by decide) (by decide), flo 7 (by decide) (by decide), flo 11 (by decide) (by decide), e1.1, e1.2, e2.1, e2.2]
    have n20 : (D 23 5).toNatClampNeg ≤ 20 := by
      obtain ⟨n, hn, n20, hc⟩ := ax_cnt_of g1.2.1 (by decide)
      have : (D 23 5).toNatClampNeg = n := hc
      omega
    have w3 : ∀ j, j < 6 → X 3 j = D 24 j := fun j hj => by rw [x3, cp_i hj]
    have w4 : ∀ j, j < 6 → X 4 j = D 25 j := fun j hj => by rw [x4, cp_i hj]
    have w5 : ∀ j, j < 10 → X 5 j = D 26 j := fun j hj => by rw [x5, cp_i hj]
    have w6 : ∀ j, j < 10 → X 6 j = D 27 j := fun j hj => by rw [x6, cp_i hj]
    have w7 : ∀ j, j < 20 → X 7 j = D 28 j := fun j hj => by rw [x7, cp_i hj]
    have w8 : ∀ j, j < 20 → X 8 j = D 29 j := fun j hj => by rw [x8, cp_i hj]
    have w9 : ∀ j, j < 20 → X 9 j = D 30 j := fun j hj => by rw [x9, cp_i hj]
    have w10 : ∀ j, j < 20 → X 10 j = D 31 j := fun j hj => by rw [x10, cp_i hj]
    have w11 : ∀ j, j < 20 → X 11 j = D 32 j := fun j hj => by rw [x11, cp_i hj]
    have w13 : ∀ j, j < 30 → X 13 j = D 34 j := fun j hj => by rw [x13, cp_i hj]
    have w14 : ∀ j, j < 30 → X 14 j = D 35 j := fun j hj => by rw [x14, cp_i hj]
    have w15 : ∀ j, j < 30 → X 15 j = D 36 j := fun j hj => by rw [x15, cp_i hj]
    have w16 : ∀ j, j < 30 → X 16 j = D 37 j := fun j hj => by rw [x16, cp_i hj]
    have w17 : ∀ j, j < 30 → X 17 j = D 38 j := fun j hj => by rw [x17, cp_i hj]
    have w20 : ∀ j, j < 40 → X 20 j = D 41 j := fun j hj => by rw [x20, cp_i hj]
    have w21 : ∀ j, j < 5 → X 21 j = D 42 j := fun j hj => by rw [x21, cp_i hj]
    have i67 : ∀ j, j < 6 → D' 67 j = D 91 (0 + j) := fun j hj => by
      rw [d67]
      unfold rs_
      rw [if_pos hj]
    have i71 : ∀ j, j < 20 → D' 71 j = D 91 (32 + j) := fun j hj => by
      rw [d71]
      unfold rs_
      rw [if_pos hj]
    have i72 : ∀ j, j < 20 → D' 72 j = D 91 (52 + j) := fun j hj => by
      rw [d72]
      unfold rs_
      rw [if_pos hj]
    have i73 : ∀ j, j < 20 → D' 73 j = D 91 (72 + j) := fun j hj => by
      rw [d73]
      unfold rs_
      rw [if_pos hj]
    have i74 : ∀ j, j < 20 → D' 74 j = D 91 (92 + j) := fun j hj => by
      rw [d74]
      unfold rs_
      rw [if_pos hj]
    have i75 : ∀ j, j < 20 → D' 75 j = D 91 (112 + j) := fun j hj => by
      rw [d75]
      unfold rs_
      rw [if_pos hj]
    have i88 : ∀ j, j < 20 → D' 88 j = D 91 (327 + j) := fun j hj => by
      rw [d88]
      unfold rs_
      rw [if_pos hj]
    have i89 : ∀ j, j < 20 → D' 89 j = D 91 (347 + j) := fun j hj => by
      rw [d89]
      unfold rs_
      rw [if_pos hj]
    refine ⟨v1, fun j hj hj2 => ?_, EV_congr (fun i hi => ?_) (fun i hi => ?_) v3, ?_, fun k hk => ?_, fun j hj => ?_, fun i hi => ?_⟩
    · rw [i67 j hj, w3 j hj]
      exact v2 j hj hj2
    · rw [flo 7 (by decide) (by decide), flo 8 (by decide) (by decide), flo 9 (by decide) (by decide), flo 10 (by decide) (by decide), flo 11 (by decide) (by decide), w7 i (by omega), w8 i (by omega), w9 i (by omega), w10 i (by omega), w11 i (by omega)]
      exact ⟨rfl, rfl, rfl, rfl, rfl⟩
    · rw [i71 i (by omega), i72 i (by omega), i73 i (by omega), i74 i (by omega), i75 i (by omega)]
      exact ⟨rfl, rfl, rfl, rfl, rfl⟩
    · have v4' : D 22 5 = su_ (im D 88) (im D 89) (D 22 4).toNatClampNeg := v4
      rw [v4']
      have v1' : ax_cnt (D 22 4) 20 := v1
      obtain ⟨n, hn, h20, hc⟩ := ax_cnt_of v1' (by decide)
      rw [hc]
      exact su_cg (fun k hk => (i88 k (by omega)).symm) (fun k hk => (i89 k (by omega)).symm)
    · rw [i88 k hk, i89 k hk]
      exact v5 k hk
    · rw [w4 j hj]
      exact v6 j hj
    · have hi20 : i < 20 := by
        have g5 : ax_cnt (D 23 5) 20 := g1.2.1
        obtain ⟨n, hn, h20, hc⟩ := ax_cnt_of g5 (by decide)
        rw [hn, na_nI (by omega)] at hi
        omega
      rw [w7 i hi20, w11 i hi20]
      exact v7 i hi
  · unfold JF
    obtain ⟨t1, t2, t3, t4, t5, t6, t7, t8, t9, t0⟩ := a4
    refine ⟨?_, ?_, ?_, ?_, ?_, ?_, ?_, ?_, ?_, ?_⟩
    · rw [d68, flo 4 (by decide) (by decide), x4]
      exact cp_rs (fun j hj => u1 j hj) t1
    · rw [d69, flo 5 (by decide) (by decide), x5]
      exact cp_rs (fun j hj => u2 j hj) t2
    · rw [d70, flo 6 (by decide) (by decide), x6]
      exact cp_rs (fun j hj => u3 j hj) t3
    · rw [d81, flo 13 (by decide) (by decide), x13]
      exact cp_rs (fun j hj => u4 j hj) t4
    · rw [d82, flo 14 (by decide) (by decide), x14]
      exact cp_rs (fun j hj => u5 j hj) t5
    · rw [d83, flo 15 (by decide) (by decide), x15]
      exact cp_rs (fun j hj => u6 j hj) t6
    · rw [d84, flo 16 (by decide) (by decide), x16]
      exact cp_rs (fun j hj => u7 j hj) t7
    · rw [d85, flo 17 (by decide) (by decide), x17]
      exact cp_rs (fun j hj => u8 j hj) t8
    · rw [d86, flo 20 (by decide) (by decide), x20]
      exact cp_rs (fun j hj => u9 j hj) t9
    · rw [d76, flo 21 (by decide) (by decide), x21]
      exact cp_rs (fun j hj => u0 j hj) t0
  · intro k
    rw [d88]
    unfold rs_
    by_cases h : k < 20
    · rw [if_pos h]; exact (v5 k h).1
    · rw [if_neg h]; exact a5 k
  · intro k
    rw [d89]
    unfold rs_
    by_cases h : k < 20
    · rw [if_pos h]; exact (v5 k h).2
    · rw [if_neg h]; exact a6 k
  · rw [flo 59 (by decide) (by decide), flo 51 (by decide) (by decide), hk 59 (by omega), hk 51 (by omega)]; exact b
  · unfold J3 at c ⊢
    rw [flo 60 (by decide) (by decide), flo 44 (by decide) (by decide), flo 43 (by decide) (by decide), hk 60 (by omega), hk 44 (by omega), hk 43 (by omega), g20]
    exact c
  · unfold J4 at d ⊢
    rw [d90, flo 50 (by decide) (by decide), hk 50 (by omega), flo 0 (by decide) (by decide), hk 0 (by omega), g41]
    exact d
  · rw [d77, d78]; exact e
  · refine J6c (fun k h1 h2 => ?_) ?_ ?_ g43 f0
    · unfold sh
      rw [flo (k + 21) (by omega) (by omega), hk (k + 21) (by omega)]
    · unfold im
      rw [d91]
    · rw [flo 0 (by decide) (by decide), hk 0 (by omega)]
set_option maxRecDepth 10000 in
theorem pr_108 {D : ax_Dn} (E : ax_En) (hJ : J D) : cy_108 [.ref 0] (ax_S D E) (KI cy_203 [.ref 58]) := by
  have x43 := hJ.2.2.2.2.2.2.1
  rw [ry_108]
  simp only [KI_i]
  refine ⟨fun c => ?_, fun c => ?_⟩
  · have h02 : D 0 2 = 1 := by
      rcases hJ.2.2.2.2.2.2.2 with z | ⟨z, -⟩
      · exact absurd z c
      · exact z
    rw [ry_203]
    simp only [ax_up_ap, Nat.reduceEqDiff, ↓reduceIte, x43, c, FI_i, true_imp_iff, false_imp_iff, not_true_eq_false, not_false_eq_true, true_and, and_true, implies_true]
    intro D' hS
    refine J_on hJ h02 ?_ ?_ ?_ ?_ ?_ ?_ ?_ ?_ ?_ ?_ ?_ ?_ ?_ ?_ ?_ ?_ ?_ ?_ ?_ ?_ ?_ hS
    · intro k a
      simp only [ax_up_ap, show k ≠ 1 by omega, show k ≠ 2 by omega, show k ≠ 3 by omega, show k ≠ 4 by omega, show k ≠ 5 by omega, show k ≠ 6 by omega, show k ≠ 7 by omega, show k ≠ 8 by omega, show k ≠ 9 by omega, show k ≠ 10 by omega, show k ≠ 11 by omega, show k ≠ 12 by omega, show k ≠ 13 by omega, show k ≠ 14 by omega, show k ≠ 15 by omega, show k ≠ 16 by omega, show k ≠ 17 by omega, show k ≠ 19 by omega, show k ≠ 20 by omega, show k ≠ 21 by omega, ↓reduceIte]
    all_goals simp only [ax_up_ap, Nat.reduceEqDiff, ↓reduceIte, and_self]
  · rw [ry_203]
    simp only [ax_up_ap, Nat.reduceEqDiff, ↓reduceIte, x43, c, FI_i, true_imp_iff, false_imp_iff, not_true_eq_false, not_false_eq_true, true_and, and_true, implies_true]
    exact J_ref _ hJ
