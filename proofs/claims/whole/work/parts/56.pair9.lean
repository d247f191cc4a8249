/-! Pairs: image, on. -/
theorem kp_i {c n j : Nat} {f G : Nat → Int32} (h : j < n) : kp_ c n f G (c + j) = f j := by
  unfold kp_
  rw [if_pos (by omega), Nat.add_sub_cancel_left]
theorem kp_o {c n x : Nat} {f G : Nat → Int32} (h : x < c ∨ c + n ≤ x) : kp_ c n f G x = G x := by
  unfold kp_
  rw [if_neg (by omega)]
theorem cp_i {n j : Nat} {f G : Nat → Int32} (h : j < n) : va_cpy f G 0 0 n j = f j := by
  unfold va_cpy
  rw [if_pos (by omega)]
  simp
theorem cp_all {n : Nat} {f G : Nat → Int32} {P : Int32 → Prop} (hf : ∀ k, P (f k)) (hG : ∀ k, P (G k)) : ∀ k, P (va_cpy f G 0 0 n k) := by
  intro k
  unfold va_cpy
  split
  · exact hf _
  · exact hG _
theorem cp_rs {n c : Nat} {f G f' G' : Nat → Int32} (h1 : ∀ j, j < n → f' (c + j) = f j) (h2 : G' = G) : rs_ c n f' G' = va_cpy f G 0 0 n := by
  funext x
  unfold rs_ va_cpy
  by_cases h : x < n
  · rw [if_pos h, if_pos (by omega), h1 x h]
    simp
  · rw [if_neg h, if_neg (by omega), h2]
theorem kG_67 (Y : ax_Dn) {j : Nat} (h : j < 6) : kG_ Y (0 + j) = Y 67 j := by
  unfold kG_
  rw [ax_up_n _ _ (by omega), ax_up_n _ _ (by omega), ax_up_n _ _ (by omega), ax_up_n _ _ (by omega), ax_up_n _ _ (by omega), kp_o (by omega), kp_o (by omega), kp_o (by omega), kp_o (by omega), kp_o (by omega), kp_o (by omega), kp_o (by omega), kp_o (by omega), kp_o (by omega), kp_o (by omega), kp_o (by omega), kp_o (by omega), kp_o (by omega), kp_o (by omega), kp_o (by omega), kp_o (by omega), kp_o (by omega), kp_i h]
theorem kG_68 (Y : ax_Dn) {j : Nat} (h : j < 6) : kG_ Y (6 + j) = Y 68 j := by
  unfold kG_
  rw [ax_up_n _ _ (by omega), ax_up_n _ _ (by omega), ax_up_n _ _ (by omega), ax_up_n _ _ (by omega), ax_up_n _ _ (by omega), kp_o (by omega), kp_o (by omega), kp_o (by omega), kp_o (by omega), kp_o (by omega), kp_o (by omega), kp_o (by omega), kp_o (by omega), kp_o (by omega), kp_o (by omega), kp_o (by omega), kp_o (by omega), kp_o (by omega), kp_o (by omega), kp_o (by omega), kp_o (by omega), kp_i h]
theorem kG_69 (Y : ax_Dn) {j : Nat} (h : j < 10) : kG_ Y (12 + j) = Y 69 j := by
  unfold kG_
  rw [ax_up_n _ _ (by omega), ax_up_n _ _ (by omega), ax_up_n _ _ (by omega), ax_up_n _ _ (by omega), ax_up_n _ _ (by omega), kp_o (by omega), kp_o (by omega), kp_o (by omega), kp_o (by omega), kp_o (by omega), kp_o (by omega), kp_o (by omega), kp_o (by omega), kp_o (by omega), kp_o (by omega), kp_o (by omega), kp_o (by omega), kp_o (by omega), kp_o (by omega), kp_o (by omega), kp_i h]
theorem kG_70 (Y : ax_Dn) {j : Nat} (h : j < 10) : kG_ Y (22 + j) = Y 70 j := by
  unfold kG_
  rw [ax_up_n _ _ (by omega), ax_up_n _ _ (by omega), ax_up_n _ _ (by omega), ax_up_n _ _ (by omega), ax_up_n _ _ (by omega), kp_o (by omega), kp_o (by omega), kp_o (by omega), kp_o (by omega), kp_o (by omega), kp_o (by omega), kp_o (by omega), kp_o (by omega), kp_o (by omega), kp_o (by omega), kp_o (by omega), kp_o (by omega), kp_o (by omega), kp_o (by omega), kp_i h]
theorem kG_71 (Y : ax_Dn) {j : Nat} (h : j < 20) : kG_ Y (32 + j) = Y 71 j := by
  unfold kG_
  rw [ax_up_n _ _ (by omega), ax_up_n _ _ (by omega), ax_up_n _ _ (by omega), ax_up_n _ _ (by omega), ax_up_n _ _ (by omega), kp_o (by omega), kp_o (by omega), kp_o (by omega), kp_o (by omega), kp_o (by omega), kp_o (by omega), kp_o (by omega), kp_o (by omega), kp_o (by omega), kp_o (by omega), kp_o (by omega), kp_o (by omega), kp_o (by omega), kp_i h]
theorem kG_72 (Y : ax_Dn) {j : Nat} (h : j < 20) : kG_ Y (52 + j) = Y 72 j := by
  unfold kG_
  rw [ax_up_n _ _ (by omega), ax_up_n _ _ (by omega), ax_up_n _ _ (by omega), ax_up_n _ _ (by omega), ax_up_n _ _ (by omega), kp_o (by omega), kp_o (by omega), kp_o (by omega), kp_o (by omega), kp_o (by omega), kp_o (by omega), kp_o (by omega), kp_o (by omega), kp_o (by omega), kp_o (by omega), kp_o (by omega), kp_o (by omega), kp_i h]
theorem kG_73 (Y : ax_Dn) {j : Nat} (h : j < 20) : kG_ Y (72 + j) = Y 73 j := by
  unfold kG_
  rw [ax_up_n _ _ (by omega), ax_up_n _ _ (by omega), ax_up_n _ _ (by omega), ax_up_n _ _ (by omega), ax_up_n _ _ (by omega), kp_o (by omega), kp_o (by omega), kp_o (by omega), kp_o (by omega), kp_o (by omega), kp_o (by omega), kp_o (by omega), kp_o (by omega), kp_o (by omega), kp_o (by omega), kp_o (by omega), kp_i h]
theorem kG_74 (Y : ax_Dn) {j : Nat} (h : j < 20) : kG_ Y (92 + j) = Y 74 j := by
  unfold kG_
  rw [ax_up_n _ _ (by omega), ax_up_n _ _ (by omega), ax_up_n _ _ (by omega), ax_up_n _ _ (by omega), ax_up_n _ _ (by omega), kp_o (by omega), kp_o (by omega), kp_o (by omega), kp_o (by omega), kp_o (by omega), kp_o (by omega), kp_o (by omega), kp_o (by omega), kp_o (by omega), kp_o (by omega), kp_i h]
theorem kG_75 (Y : ax_Dn) {j : Nat} (h : j < 20) : kG_ Y (112 + j) = Y 75 j := by
  unfold kG_
  rw [ax_up_n _ _ (by omega), ax_up_n _ _ (by omega), ax_up_n _ _ (by omega), ax_up_n _ _ (by omega), ax_up_n _ _ (by omega), kp_o (by omega), kp_o (by omega), kp_o (by omega), kp_o (by omega), kp_o (by omega), kp_o (by omega), kp_o (by omega), kp_o (by omega), kp_o (by omega), kp_i h]
theorem kG_76 (Y : ax_Dn) {j : Nat} (h : j < 5) : kG_ Y (132 + j) = Y 76 j := by
  unfold kG_
  rw [ax_up_n _ _ (by omega), ax_up_n _ _ (by omega), ax_up_n _ _ (by omega), ax_up_n _ _ (by omega), ax_up_n _ _ (by omega), kp_o (by omega), kp_o (by omega), kp_o (by omega), kp_o (by omega), kp_o (by omega), kp_o (by omega), kp_o (by omega), kp_o (by omega), kp_i h]
theorem kG_81 (Y : ax_Dn) {j : Nat} (h : j < 30) : kG_ Y (137 + j) = Y 81 j := by
  unfold kG_
  rw [ax_up_n _ _ (by omega), ax_up_n _ _ (by omega), ax_up_n _ _ (by omega), ax_up_n _ _ (by omega), ax_up_n _ _ (by omega), kp_o (by omega), kp_o (by omega), kp_o (by omega), kp_o (by omega), kp_o (by omega), kp_o (by omega), kp_o (by omega), kp_i h]
theorem kG_82 (Y : ax_Dn) {j : Nat} (h : j < 30) : kG_ Y (167 + j) = Y 82 j := by
  unfold kG_
  rw [ax_up_n _ _ (by omega), ax_up_n _ _ (by omega), ax_up_n _ _ (by omega), ax_up_n _ _ (by omega), ax_up_n _ _ (by omega), kp_o (by omega), kp_o (by omega), kp_o (by omega), kp_o (by omega), kp_o (by omega), kp_o (by omega), kp_i h]
theorem kG_83 (Y : ax_Dn) {j : Nat} (h : j < 30) : kG_ Y (197 + j) = Y 83 j := by
  unfold kG_
  rw [ax_up_n _ _ (by omega), ax_up_n _ _ (by omega), ax_up_n _ _ (by omega), ax_up_n _ _ (by omega), ax_up_n _ _ (by omega), kp_o (by omega), kp_o (by omega), kp_o (by omega), kp_o (by omega), kp_o (by omega), kp_i h]
theorem kG_84 (Y : ax_Dn) {j : Nat} (h : j < 30) : kG_ Y (227 + j) = Y 84 j := by
  unfold kG_
  rw [ax_up_n _ _ (by omega), ax_up_n _ _ (by omega), ax_up_n _ _ (by omega), ax_up_n _ _ (by omega), ax_up_n _ _ (by omega), kp_o (by omega), kp_o (by omega), kp_o (by omega), kp_o (by omega), kp_i h]
theorem kG_85 (Y : ax_Dn) {j : Nat} (h : j < 30) : kG_ Y (257 + j) = Y 85 j := by
  unfold kG_
  rw [ax_up_n _ _ (by omega), ax_up_n _ _ (by omega), ax_up_n _ _ (by omega), ax_up_n _ _ (by omega), ax_up_n _ _ (by omega), kp_o (by omega), kp_o (by omega), kp_o (by omega), kp_i h]
theorem kG_86 (Y : ax_Dn) {j : Nat} (h : j < 40) : kG_ Y (287 + j) = Y 86 j := by
  unfold kG_
  rw [ax_up_n _ _ (by omega), ax_up_n _ _ (by omega), ax_up_n _ _ (by omega), ax_up_n _ _ (by omega), ax_up_n _ _ (by omega), kp_o (by omega), kp_o (by omega), kp_i h]
theorem kG_88 (Y : ax_Dn) {j : Nat} (h : j < 20) : kG_ Y (327 + j) = Y 88 j := by
  unfold kG_
  rw [ax_up_n _ _ (by omega), ax_up_n _ _ (by omega), ax_up_n _ _ (by omega), ax_up_n _ _ (by omega), ax_up_n _ _ (by omega), kp_o (by omega), kp_i h]
theorem kG_89 (Y : ax_Dn) {j : Nat} (h : j < 20) : kG_ Y (347 + j) = Y 89 j := by
  unfold kG_
  rw [ax_up_n _ _ (by omega), ax_up_n _ _ (by omega), ax_up_n _ _ (by omega), ax_up_n _ _ (by omega), ax_up_n _ _ (by omega), kp_i h]
theorem kG_f22 (Y : ax_Dn) : kG_ Y 367 = Y 58 22 := by
  unfold kG_
  rw [ax_up_n _ _ (by omega), ax_up_n _ _ (by omega), ax_up_n _ _ (by omega), ax_up_n _ _ (by omega), ax_up_s]
theorem kG_f23 (Y : ax_Dn) : kG_ Y 368 = Y 58 23 := by
  unfold kG_
  rw [ax_up_n _ _ (by omega), ax_up_n _ _ (by omega), ax_up_n _ _ (by omega), ax_up_s]
theorem kG_f32 (Y : ax_Dn) : kG_ Y 369 = Y 58 32 := by
  unfold kG_
  rw [ax_up_n _ _ (by omega), ax_up_n _ _ (by omega), ax_up_s]
theorem kG_f35 (Y : ax_Dn) : kG_ Y 370 = Y 58 35 := by
  unfold kG_
  rw [ax_up_n _ _ (by omega), ax_up_s]
theorem kG_f40 (Y : ax_Dn) : kG_ Y 371 = Y 58 40 := by
  unfold kG_
  rw [ax_up_s]
theorem su_cg {t r t' r' : Nat → Int32} : ∀ {n : Nat}, (∀ k, k < n → t k = t' k) → (∀ k, k < n → r k = r' k) → su_ t r n = su_ t' r' n := by
  intro n
  induction n with
  | zero => intro _ _; rfl
  | succ n ih =>
    intro h1 h2
    rw [su_c, su_c, ih (fun k hk => h1 k (by omega)) (fun k hk => h2 k (by omega)), h1 n (by omega), h2 n (by omega)]
theorem okC_cp {D X : ax_Dn} (h : okC D) (h2 : okC (sh D)) (e23 : X 23 0 = D 2 0 ∧ X 23 5 = D 2 5) (e33 : X 33 0 = D 12 0) (e40 : X 40 0 = D 19 0) (x26 : X 26 = va_cpy (D 5) (D 26) 0 0 10) (x27 : X 27 = va_cpy (D 6) (D 27) 0 0 10) (x34 : X 34 = va_cpy (D 13) (D 34) 0 0 30) (x35 : X 35 = va_cpy (D 14) (D 35) 0 0 30) (x36 : X 36 = va_cpy (D 15) (D 36) 0 0 30) (x37 : X 37 = va_cpy (D 16) (D 37) 0 0 30) (x38 : X 38 = va_cpy (D 17) (D 38) 0 0 30) (x41 : X 41 = va_cpy (D 20) (D 41) 0 0 40) (x42 : X 42 = va_cpy (D 21) (D 42) 0 0 5) : okC (sh X) := by
  unfold okC at h h2 ⊢
  unfold sh at h2 ⊢
  simp only [Nat.reduceAdd, e23.1, e23.2, e33, e40, x26, x27, x34, x35, x36, x37, x38, x41, x42]
  simp only [Nat.reduceAdd] at h2
  obtain ⟨o1, o2, o3, o4, o5, o6, o7, o8, o9, p1, p2, p3, p4, p5, p6, p7, p8⟩ := h
  obtain ⟨-, -, -, q4, q5, q6, q7, q8, q9, r1, -, -, -, -, -, -, r8⟩ := h2
  refine ⟨o1, o2, o3, ?_, ?_, ?_, ?_, ?_, ?_, ?_, ?_, ?_, ?_, ?_, ?_, p7, ?_⟩
  · exact cp_all (P := fun x => ax_cnt x 9) o4 q4
  · exact cp_all (P := fun x => rg_ x (-9) 9) o5 q5
  · exact cp_all (P := fun x => ax_cnt x 15) o6 q6
  · exact cp_all (P := fun x => ax_cnt x 13) o7 q7
  · exact cp_all (P := fun x => ax_cnt x 9) o8 q8
  · exact cp_all (P := fun x => ax_cnt x 9) o9 q9
  · exact cp_all (P := fun x => rg_ x (-9) 9) p1 r1
  · rw [cp_i (by decide)]; exact p2
  · rw [cp_i (by decide)]; exact p3
  · rw [cp_i (by decide)]; exact p4
  · rw [cp_i (by decide)]; exact p5
  · rw [cp_i (by decide)]; exact p6
  · exact cp_all (P := fun x => ax_cnt x 9) p8 r8
theorem J_image {D X D' : ax_Dn} (hJ : J D) (h0 : ∀ j, X 0 j = if j = 2 then 1 else D 0 j) (hk : ∀ k, k ≠ 0 → k < 22 ∨ 42 < k → X k = D k) (e22 : X 22 4 = D 1 4 ∧ X 22 5 = D 1 5) (e23 : X 23 0 = D 2 0 ∧ X 23 5 = D 2 5) (e33 : X 33 0 = D 12 0) (e40 : X 40 0 = D 19 0) (x24 : X 24 = va_cpy (D 3) (D 24) 0 0 6) (x25 : X 25 = va_cpy (D 4) (D 25) 0 0 6) (x26 : X 26 = va_cpy (D 5) (D 26) 0 0 10) (x27 : X 27 = va_cpy (D 6) (D 27) 0 0 10) (x28 : X 28 = va_cpy (D 7) (D 28) 0 0 20) (x29 : X 29 = va_cpy (D 8) (D 29) 0 0 20) (x30 : X 30 = va_cpy (D 9) (D 30) 0 0 20) (x31 : X 31 = va_cpy (D 10) (D 31) 0 0 20) (x32 : X 32 = va_cpy (D 11) (D 32) 0 0 20) (x34 : X 34 = va_cpy (D 13) (D 34) 0 0 30) (x35 : X 35 = va_cpy (D 14) (D 35) 0 0 30) (x36 : X 36 = va_cpy (D 15) (D 36) 0 0 30) (x37 : X 37 = va_cpy (D 16) (D 37) 0 0 30) (x38 : X 38 = va_cpy (D 17) (D 38) 0 0 30) (x41 : X 41 = va_cpy (D 20) (D 41) 0 0 40) (x42 : X 42 = va_cpy (D 21) (D 42) 0 0 5) (hS : KSt (ax_up X 58 (ax_up (ax_up (X 58) 43 1) 44 1)) D' 372 (kG_ (ax_up X 58 (ax_up (ax_up (X 58) 43 1) 44 1)))) : D' 58 22 = D 2 0 ∧ J D' := by
  obtain ⟨s1, s2, s3, s4, s5⟩ := hS
  have f58 : ∀ j, j ≠ 43 → j ≠ 44 → j ≠ 45 → D' 58 j = D 58 j := fun j a b c => by
    rw [s5 j c, ax_up_s, ax_up_n _ _ b, ax_up_n _ _ a, hk 58 (by decide) (by decide)]
  have f43 : D' 58 43 = 1 := by rw [s5 43 (by decide), ax_up_s, ax_up_n _ _ (by decide), ax_up_s]
  have fk : ∀ k, k ≠ 0 → k ≠ 58 → k ≠ 91 → k < 22 ∨ 42 < k → D' k = D k := fun k a b c d => by rw [s4 k b c, ax_up_n _ _ b, hk k a d]
  have fX : ∀ k, 22 ≤ k → k ≤ 42 → D' k = X k := fun k a b => by rw [s4 k (by omega) (by omega), ax_up_n _ _ (by omega)]
  have f0 : ∀ j, D' 0 j = if j = 2 then 1 else D 0 j := fun j => by rw [s4 0 (by decide) (by decide), ax_up_n _ _ (by decide), h0]
  have eqs := J_eqs hJ
  obtain ⟨⟨a1, a2, a3, a4, a5, a6⟩, b, c, d, e, f⟩ := hJ
  have hJ1 : J1 D := ⟨a1, a2, a3, a4, a5, a6⟩
  refine ⟨by rw [f58 22 (by decide) (by decide) (by decide)]; exact eqs.1, J1c (fun k hk => ?_) ?_ ?_ ?_ ?_ ?_ ?_ ?_ ?_ hJ1, ?_, ?_, ?_, ?_, ?_⟩
  · unfold c1_ at hk
    simp only [List.mem_cons, List.not_mem_nil, or_false] at hk
    exact fk k (by omega) (by omega) (by omega) (by omega)
  · rw [fk 12 (by decide) (by decide) (by decide) (by decide)]
  · rw [fk 1 (by decide) (by decide) (by decide) (by decide)]
  · rw [fk 1 (by decide) (by decide) (by decide) (by decide)]
  · exact f58 22 (by decide) (by decide) (by decide)
  · exact f58 23 (by decide) (by decide) (by decide)
  · exact f58 32 (by decide) (by decide) (by decide)
  · exact f58 35 (by decide) (by decide) (by decide)
  · exact f58 40 (by decide) (by decide) (by decide)
  · rw [fk 59 (by decide) (by decide) (by decide) (by decide), fk 51 (by decide) (by decide) (by decide) (by decide)]; exact b
  · unfold J3 at c ⊢
    rw [fk 60 (by decide) (by decide) (by decide) (by decide), fk 44 (by decide) (by decide) (by decide) (by decide), fk 43 (by decide) (by decide) (by decide) (by decide), f58 20 (by decide) (by decide) (by decide)]
    exact c
  · unfold J4 at d ⊢
    rw [fk 90 (by decide) (by decide) (by decide) (by decide), fk 50 (by decide) (by decide) (by decide) (by decide), f58 41 (by decide) (by decide) (by decide), f0 5, if_neg (by decide)]
    exact d
  · rw [fk 77 (by decide) (by decide) (by decide) (by decide), fk 78 (by decide) (by decide) (by decide) (by decide)]; exact e
  · obtain ⟨g1, g2, g3⟩ := f
    have o2 : okC (sh X) := okC_cp a1 g1 e23 e33 e40 x26 x27 x34 x35 x36 x37 x38 x41 x42
    have shX : ∀ k, 1 ≤ k → k < 22 → sh D' k = sh X k := fun k a b => by
      unfold sh
      exact fX (k + 21) (by omega) (by omega)
    have y58 : ∀ k, k ≠ 58 → ax_up X 58 (ax_up (ax_up (X 58) 43 1) 44 1) k = X k := fun k a => ax_up_n _ _ a
    have m58 : ∀ j, j ≠ 43 → j ≠ 44 → ax_up X 58 (ax_up (ax_up (X 58) 43 1) 44 1) 58 j = D 58 j := fun j a b => by rw [ax_up_s, ax_up_n _ _ b, ax_up_n _ _ a, hk 58 (by decide) (by decide)]
    have imq : ∀ q j, D' 91 (q + j) = kG_ (ax_up X 58 (ax_up (ax_up (X 58) 43 1) 44 1)) (q + j) := fun q j => by rw [s3]
    have imf : ∀ q, D' 91 q = kG_ (ax_up X 58 (ax_up (ax_up (X 58) 43 1) 44 1)) q := fun q => by rw [s3]
    have i67 : ∀ j, j < 6 → im D' 67 j = D 67 j := fun j hj => by
      show D' 91 (0 + j) = _
      rw [imq, kG_67 _ hj, y58 _ (by decide), hk 67 (by decide) (by decide)]
    have i68 : ∀ j, j < 6 → im D' 68 j = D 68 j := fun j hj => by
      show D' 91 (6 + j) = _
      rw [imq, kG_68 _ hj, y58 _ (by decide), hk 68 (by decide) (by decide)]
    have i69 : ∀ j, j < 10 → im D' 69 j = D 69 j := fun j hj => by
      show D' 91 (12 + j) = _
      rw [imq, kG_69 _ hj, y58 _ (by decide), hk 69 (by decide) (by decide)]
    have i70 : ∀ j, j < 10 → im D' 70 j = D 70 j := fun j hj => by
      show D' 91 (22 + j) = _
      rw [imq, kG_70 _ hj, y58 _ (by decide), hk 70 (by decide) (by decide)]
    have i71 : ∀ j, j < 20 → im D' 71 j = D 71 j := fun j hj => by
      show D' 91 (32 + j) = _
      rw [imq, kG_71 _ hj, y58 _ (by decide), hk 71 (by decide) (by decide)]
    have i72 : ∀ j, j < 20 → im D' 72 j = D 72 j := fun j hj => by
      show D' 91 (52 + j) = _
      rw [imq, kG_72 _ hj, y58 _ (by decide), hk 72 (by decide) (by decide)]
    have i73 : ∀ j, j < 20 → im D' 73 j = D 73 j := fun j hj => by
      show D' 91 (72 + j) = _
      rw [imq, kG_73 _ hj, y58 _ (by decide), hk 73 (by decide) (by decide)]
    have i74 : ∀ j, j < 20 → im D' 74 j = D 74 j := fun j hj => by
      show D' 91 (92 + j) = _
      rw [imq, kG_74 _ hj, y58 _ (by decide), hk 74 (by decide) (by decide)]
    have i75 : ∀ j, j < 20 → im D' 75 j = D 75 j := fun j hj => by
      show D' 91 (112 + j) = _
      rw [imq, kG_75 _ hj, y58 _ (by decide), hk 75 (by decide) (by decide)]
    have i76 : ∀ j, j < 5 → im D' 76 j = D 76 j := fun j hj => by
      show D' 91 (132 + j) = _
      rw [imq, kG_76 _ hj, y58 _ (by decide), hk 76 (by decide) (by decide)]
    have i81 : ∀ j, j < 30 → im D' 81 j = D 81 j := fun j hj => by
      show D' 91 (137 + j) = _
      rw [imq, kG_81 _ hj, y58 _ (by decide), hk 81 (by decide) (by decide)]
    have i82 : ∀ j, j < 30 → im D' 82 j = D 82 j := fun j hj => by
      show D' 91 (167 + j) = _
      rw [imq, kG_82 _ hj, y58 _ (by decide), hk 82 (by decide) (by decide)]
    have i83 : ∀ j, j < 30 → im D' 83 j = D 83 j := fun j hj => by
      show D' 91 (197 + j) = _
      rw [imq, kG_83 _ hj, y58 _ (by decide), hk 83 (by decide) (by decide)]
    have i84 : ∀ j, j < 30 → im D' 84 j = D 84 j := fun j hj => by
      show D' 91 (227 + j) = _
      rw [imq, kG_84 _ hj, y58 _ (by decide), hk 84 (by decide) (by decide)]
    have i85 : ∀ j, j < 30 → im D' 85 j = D 85 j := fun j hj => by
      show D' 91 (257 + j) = _
      rw [imq, kG_85 _ hj, y58 _ (by decide), hk 85 (by decide) (by decide)]
    have i86 : ∀ j, j < 40 → im D' 86 j = D 86 j := fun j hj => by
      show D' 91 (287 + j) = _
      rw [imq, kG_86 _ hj, y58 _ (by decide), hk 86 (by decide) (by decide)]
    have i88 : ∀ j, j < 20 → im D' 88 j = D 88 j := fun j hj => by
      show D' 91 (327 + j) = _
      rw [imq, kG_88 _ hj, y58 _ (by decide), hk 88 (by decide) (by decide)]
    have i89 : ∀ j, j < 20 → im D' 89 j = D 89 j := fun j hj => by
      show D' 91 (347 + j) = _
      rw [imq, kG_89 _ hj, y58 _ (by decide), hk 89 (by decide) (by decide)]
    have i58_22 : im D' 58 22 = D 58 22 := by
      show D' 91 367 = _
      rw [imf, kG_f22, m58 22 (by decide) (by decide)]
    have i58_23 : im D' 58 23 = D 58 23 := by
      show D' 91 368 = _
      rw [imf, kG_f23, m58 23 (by decide) (by decide)]
    have i58_32 : im D' 58 32 = D 58 32 := by
      show D' 91 369 = _
      rw [imf, kG_f32, m58 32 (by decide) (by decide)]
    have i58_35 : im D' 58 35 = D 58 35 := by
      show D' 91 370 = _
      rw [imf, kG_f35, m58 35 (by decide) (by decide)]
    have i58_40 : im D' 58 40 = D 58 40 := by
      show D' 91 371 = _
      rw [imf, kG_f40, m58 40 (by decide) (by decide)]
    have so : okC (sh D') := by
      have : okC (sh D') = okC (sh X) := by
        unfold okC
        simp only [shX 2 (by decide) (by decide), shX 5 (by decide) (by decide), shX 6 (by decide) (by decide), shX 12 (by decide) (by decide), shX 13 (by decide) (by decide), shX 14 (by decide) (by decide), shX 15 (by decide) (by decide), shX 16 (by decide) (by decide), shX 17 (by decide) (by decide), shX 19 (by decide) (by decide), shX 20 (by decide) (by decide), shX 21 (by decide) (by decide)]
      rw [this]
      exact o2
    have n20 : (D 2 5).toNatClampNeg ≤ 20 := by
      obtain ⟨n, hn, n20, hc⟩ := ax_cnt_of a1.2.1 (by decide)
      omega
    have z5 : sh X 2 5 = D 2 5 := e23.2
    have z0 : sh X 2 0 = D 2 0 := e23.1
    have z14 : sh X 1 4 = D 1 4 := e22.1
    have z15 : sh X 1 5 = D 1 5 := e22.2
    have w3 : ∀ j, j < 6 → sh X 3 j = D 3 j := fun j hj => by
      show X 24 j = _
      rw [x24, cp_i hj]
    have w4 : ∀ j, j < 6 → sh X 4 j = D 4 j := fun j hj => by
      show X 25 j = _
      rw [x25, cp_i hj]
    have w5 : ∀ j, j < 10 → sh X 5 j = D 5 j := fun j hj => by
      show X 26 j = _
      rw [x26, cp_i hj]
    have w6 : ∀ j, j < 10 → sh X 6 j = D 6 j := fun j hj => by
      show X 27 j = _
      rw [x27, cp_i hj]
    have w7 : ∀ j, j < 20 → sh X 7 j = D 7 j := fun j hj => by
      show X 28 j = _
      rw [x28, cp_i hj]
    have w8 : ∀ j, j < 20 → sh X 8 j = D 8 j := fun j hj => by
      show X 29 j = _
      rw [x29, cp_i hj]
    have w9 : ∀ j, j < 20 → sh X 9 j = D 9 j := fun j hj => by
      show X 30 j = _
      rw [x30, cp_i hj]
    have w10 : ∀ j, j < 20 → sh X 10 j = D 10 j := fun j hj => by
      show X 31 j = _
      rw [x31, cp_i hj]
    have w11 : ∀ j, j < 20 → sh X 11 j = D 11 j := fun j hj => by
      show X 32 j = _
      rw [x32, cp_i hj]
    have w13 : ∀ j, j < 30 → sh X 13 j = D 13 j := fun j hj => by
      show X 34 j = _
      rw [x34, cp_i hj]
    have w14 : ∀ j, j < 30 → sh X 14 j = D 14 j := fun j hj => by
      show X 35 j = _
      rw [x35, cp_i hj]
    have w15 : ∀ j, j < 30 → sh X 15 j = D 15 j := fun j hj => by
      show X 36 j = _
      rw [x36, cp_i hj]
    have w16 : ∀ j, j < 30 → sh X 16 j = D 16 j := fun j hj => by
      show X 37 j = _
      rw [x37, cp_i hj]
    have w17 : ∀ j, j < 30 → sh X 17 j = D 17 j := fun j hj => by
      show X 38 j = _
      rw [x38, cp_i hj]
    have w20 : ∀ j, j < 40 → sh X 20 j = D 20 j := fun j hj => by
      show X 41 j = _
      rw [x41, cp_i hj]
    have w21 : ∀ j, j < 5 → sh X 21 j = D 21 j := fun j hj => by
      show X 42 j = _
      rw [x42, cp_i hj]
    refine ⟨so, by rw [f43, f0 2, if_pos rfl], .inr ⟨by rw [f0 2, if_pos rfl], ?_, ?_, ?_⟩⟩
    · unfold JN at a2 ⊢
      rw [i58_22, i58_23, i58_32, i58_35, i58_40, shX 2 (by decide) (by decide), shX 12 (by decide) (by decide), shX 19 (by decide) (by decide), shX 1 (by decide) (by decide), z0, z5, z14, show sh X 12 0 = D 12 0 from e33, show sh X 19 0 = D 19 0 from e40]
      exact a2
    · obtain ⟨v1, v2, v3, v4, v5, v6, v7⟩ := a3
      unfold JW
      rw [shX 1 (by decide) (by decide), shX 2 (by decide) (by decide), shX 3 (by decide) (by decide), shX 4 (by decide) (by decide), shX 7 (by decide) (by decide), shX 11 (by decide) (by decide), z14, z15, z0, z5]
      refine ⟨v1, fun j hj hj2 => ?_, EV_congr (fun i hi => ?_) (fun i hi => ?_) v3, ?_, fun k hk => ?_, fun j hj => ?_, fun i hi => ?_⟩
      · rw [i67 j hj, w3 j hj]
        exact v2 j hj hj2
      · rw [shX 7 (by decide) (by decide), shX 8 (by decide) (by decide), shX 9 (by decide) (by decide), shX 10 (by decide) (by decide), shX 11 (by decide) (by decide), w7 i (by omega), w8 i (by omega), w9 i (by omega), w10 i (by omega), w11 i (by omega)]
        exact ⟨rfl, rfl, rfl, rfl, rfl⟩
      · rw [i71 i (by omega), i72 i (by omega), i73 i (by omega), i74 i (by omega), i75 i (by omega)]
        exact ⟨rfl, rfl, rfl, rfl, rfl⟩
      · rw [v4]
        obtain ⟨n, hn, h20, hc⟩ := ax_cnt_of v1 (by decide)
        rw [hc]
        exact su_cg (fun k hk => (i88 k (by omega)).symm) (fun k hk => (i89 k (by omega)).symm)
      · rw [i88 k hk, i89 k hk]
        exact v5 k hk
      · rw [w4 j hj]
        exact v6 j hj
      · have hi20 : i < 20 := by
          obtain ⟨n, hn, h20, hc⟩ := ax_cnt_of a1.2.1 (by decide)
          rw [hn, na_nI (by omega)] at hi
          omega
        rw [w7 i hi20, w11 i hi20]
        exact v7 i hi
    · unfold JA
      obtain ⟨u1, u2, u3, u4, u5, u6, u7, u8, u9, u0⟩ := a4
      refine ⟨fun j hj => ?_, fun j hj => ?_, fun j hj => ?_, fun j hj => ?_, fun j hj => ?_, fun j hj => ?_, fun j hj => ?_, fun j hj => ?_, fun j hj => ?_, fun j hj => ?_⟩
      · rw [i68 j hj, shX 4 (by decide) (by decide), w4 j hj, u1]
      · rw [i69 j hj, shX 5 (by decide) (by decide), w5 j hj, u2]
      · rw [i70 j hj, shX 6 (by decide) (by decide), w6 j hj, u3]
      · rw [i81 j hj, shX 13 (by decide) (by decide), w13 j hj, u4]
      · rw [i82 j hj, shX 14 (by decide) (by decide), w14 j hj, u5]
      · rw [i83 j hj, shX 15 (by decide) (by decide), w15 j hj, u6]
      · rw [i84 j hj, shX 16 (by decide) (by decide), w16 j hj, u7]
      · rw [i85 j hj, shX 17 (by decide) (by decide), w17 j hj, u8]
      · rw [i86 j hj, shX 20 (by decide) (by decide), w20 j hj, u9]
      · rw [i76 j hj, shX 21 (by decide) (by decide), w21 j hj, u0]
set_option maxRecDepth 10000 in
theorem pr_107 {D : ax_Dn} (E : ax_En) (hJ : J D) : cy_107 [.ref 0] (ax_S D E) (KI cy_202 [.ref 58]) := by
  rw [ry_107]
  simp only [KI_i]
  rw [ry_202]
  intro D' hS
  rw [FI_i]
  refine J_image hJ ?_ ?_ ?_ ?_ ?_ ?_ ?_ ?_ ?_ ?_ ?_ ?_ ?_ ?_ ?_ ?_ ?_ ?_ ?_ ?_ ?_ ?_ hS
  · intro j
    simp only [ax_up_ap, Nat.reduceEqDiff, ↓reduceIte]
  · intro k a b
    simp only [ax_up_ap, a, show k ≠ 22 by omega, show k ≠ 23 by omega, show k ≠ 24 by omega, show k ≠ 25 by omega, show k ≠ 26 by omega, show k ≠ 27 by omega, show k ≠ 28 by omega, show k ≠ 29 by omega, show k ≠ 30 by omega, show k ≠ 31 by omega, show k ≠ 32 by omega, show k ≠ 33 by omega, show k ≠ 34 by omega, show k ≠ 35 by omega, show k ≠ 36 by omega, show k ≠ 37 by omega, show k ≠ 38 by omega, show k ≠ 40 by omega, show k ≠ 41 by omega, show k ≠ 42 by omega, ↓reduceIte]
  all_goals simp only [ax_up_ap, Nat.reduceEqDiff, ↓reduceIte, and_self]
