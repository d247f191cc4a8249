/-! Odds, days, sittings: the two ways agree. -/
theorem J_N {D : ax_Dn} (hJ : J D) : ∃ N : Nat, D 2 0 = nI N ∧ N ≤ 6 ∧ (D 2 0).toNatClampNeg = N ∧ ∀ i, i < N → D 67 i = D 3 i ∧ rg_ (D 3 i) 1 99 := by
  obtain ⟨N, hN, h6, hc⟩ := ax_cnt_of (J_okC hJ).1 (by decide)
  refine ⟨N, hN, h6, hc, fun i hi => hJ.1.2.2.1.2.1 i (by omega) ?_⟩
  rw [hN, na_nI (by omega)]
  omega
theorem shl_dec : ((List.range 100).all fun a => (List.range 6).all fun k => decide ((nI a).toInt64 <<< ((nI k).toInt64 &&& 63) = lN (a * 2 ^ k))) = true := by decide +kernel
theorem shl_ {a k : Nat} (ha : a < 100) (hk : k < 6) : (nI a).toInt64 <<< ((nI k).toInt64 &&& 63) = lN (a * 2 ^ k) := by
  have h := List.all_eq_true.mp (List.all_eq_true.mp shl_dec a (List.mem_range.mpr ha)) k (List.mem_range.mpr hk)
  exact of_decide_eq_true h
theorem sh_nat {D : ax_Dn} (hJ : J D) (d : Int32) (n i : Nat) (hi : i < 7) : ∃ q : Nat, sh_ D d n i = lN q ∧ q ≤ 171781259599673856 ∧ (nI i < D 2 0 → 1 ≤ q) := by
  obtain ⟨N, hN, h6, hc, hw⟩ := J_N hJ
  have hok := J_okC hJ
  unfold sh_
  by_cases c : i < 6
  · rw [if_pos c]
    by_cases c2 : nI i < D 2 0
    · rw [if_pos c2]
      have hiN : i < N := by rw [hN, nI_ltI (by omega) (by omega)] at c2; exact c2
      obtain ⟨w, hw1, hw2, hw3⟩ := rgN (b := 99) (hw i hiN).2.1 (hw i hiN).2.2
      obtain ⟨q, q1, q2, q3⟩ := LC_nat hok (D 21 1) (nI i) d 0 n
      refine ⟨w * q, ?_, ?_, fun _ => Nat.mul_pos hw2 q2⟩
      · rw [hw1, nI_l (by omega), q1, lN_mul]
      · exact Nat.le_trans (Nat.mul_le_mul hw3 q3) (Nat.le_of_ble_eq_true rfl)
    · rw [if_neg c2]
      exact ⟨0, rfl, Nat.zero_le _, fun z => absurd z c2⟩
  · rw [if_neg c]
    obtain ⟨b1, b2⟩ := hok.2.2.2.2.2.2.2.2.2.2.2.2.1
    obtain ⟨w, hw1, hw2, hw3⟩ := na_of (x := D 21 2) b1
    have hl := pk_len (D 13) 0 n
    refine ⟨w * 2 ^ (pk_ (D 13) 0 n).length, ?_, ?_, fun z => ?_⟩
    · rw [hw1, shl_ (by omega) (by omega)]
    · have : 2 ^ (pk_ (D 13) 0 n).length ≤ 2 ^ 5 := Nat.pow_le_pow_right (by decide) hl
      have : w * 2 ^ (pk_ (D 13) 0 n).length ≤ 99 * 2 ^ 5 := Nat.mul_le_mul (by omega) this
      omega
    · rw [hN, nI_ltI (by omega) (by omega)] at z
      omega
theorem sl_nat {f : Nat → Int64} {B : Nat} : ∀ {n : Nat}, (∀ i, i < n → ∃ q : Nat, f i = lN q ∧ q ≤ B) → ∃ q : Nat, sl_ f n = lN q ∧ q ≤ n * B := by
  intro n
  induction n with
  | zero => intro _; exact ⟨0, rfl, by omega⟩
  | succ n ih =>
    intro h
    obtain ⟨q, h1, h2⟩ := ih (fun i hi => h i (by omega))
    obtain ⟨r, h3, h4⟩ := h n (by omega)
    refine ⟨q + r, ?_, by rw [Nat.succ_mul]; omega⟩
    unfold sl_
    rw [h1, h3, lN_add]
theorem wm_sh {D : ax_Dn} (hJ : J D) (d : Int32) (n i : Nat) (hi : nI i < D 2 0 ∧ i < 6 ∨ i = 6) : wm_ D d n i = sh_ D d n i := by
  obtain ⟨N, hN, h6, hc, hw⟩ := J_N hJ
  obtain ⟨e22, e23, e32, e35, e40, f68, f69, f70, f81, f82, f83, f84, f85, f86, f76⟩ := J_eqs hJ
  unfold wm_ sh_
  rcases hi with ⟨h1, h2⟩ | rfl
  · have hiN : i < N := by rw [hN, nI_ltI (by omega) (by omega)] at h1; exact h1
    rw [if_pos h2, if_pos h2, if_pos h1, (hw i hiN).1, J_LM hJ, f76]
  · rw [if_neg (by decide), if_neg (by decide), f76, f81]
theorem al_sh {D : ax_Dn} (hJ : J D) (d : Int32) (n : Nat) : al_ (wm_ D d n) (D 2 0).toNatClampNeg = sl_ (sh_ D d n) 7 := by
  obtain ⟨N, hN, h6, hc, hw⟩ := J_N hJ
  rw [hc, al_sl]
  have e1 : sl_ (wm_ D d n) N = sl_ (sh_ D d n) N := sl_congr (fun i hi => wm_sh hJ d n i (.inl ⟨by rw [hN]; exact nI_lt hi (by omega), by omega⟩))
  have e2 : ∀ k, N + k ≤ 6 → sl_ (sh_ D d n) (N + k) = sl_ (sh_ D d n) N := by
    intro k
    induction k with
    | zero => intro _; rfl
    | succ k ih =>
      intro hk
      have e : sl_ (sh_ D d n) (N + (k + 1)) = sl_ (sh_ D d n) (N + k) + sh_ D d n (N + k) := rfl
      have z : sh_ D d n (N + k) = 0 := by
        unfold sh_
        rw [if_pos (by omega), if_neg (by rw [hN]; exact nI_nlt (by omega) (by omega))]
      rw [e, z, ih (by omega), Int64.add_zero]
  have e3 := e2 (6 - N) (by omega)
  rw [show N + (6 - N) = 6 by omega] at e3
  have e4 : sl_ (sh_ D d n) 7 = sl_ (sh_ D d n) 6 + sh_ D d n 6 := rfl
  rw [e4, e3, e1, wm_sh hJ d n 6 (.inr rfl)]
/-! Which. -/
theorem be_congr {f f' : Nat → Int64} : ∀ {n : Nat}, (∀ i, i ≤ n → f i = f' i) → be_ f n = be_ f' n := by
  intro n
  induction n with
  | zero => intro _; rfl
  | succ n ih =>
    intro h
    unfold be_
    have hb := be_le f' n
    rw [ih (fun i hi => h i (by omega)), h (be_ f' n) (by omega), h (n + 1) (by omega)]
theorem wi_snoc (f : Nat → Int64) (N : Nat) : ∀ (j k : Nat) (b : Option Nat), wi_ f N (j + 1) k b = wi_ f N 1 (k + j) (wi_ f N j k b) := by
  intro j
  induction j with
  | zero => intro k b; rfl
  | succ j ih =>
    intro k b
    have e : ∀ j k b, wi_ f N (j + 1) k b = wi_ f N j (k + 1) (wi_ f N 1 k b) := fun j k b => rfl
    rw [e (j + 1) k b, ih (k + 1), e j k b, show k + 1 + j = k + (j + 1) by omega]
theorem wi_1 (f : Nat → Int64) (N k : Nat) (b : Option Nat) : wi_ f N 1 k b = if k < N ∨ k = 6 then (match b with
    | none => some k
    | some q => if f q < f k then some k else some q) else b := rfl
theorem wi_none {f : Nat → Int64} {N k : Nat} (h : k < N ∨ k = 6) : wi_ f N 1 k none = some k := by rw [wi_1, if_pos h]
theorem wi_some {f : Nat → Int64} {N k q : Nat} (h : k < N ∨ k = 6) : wi_ f N 1 k (some q) = if f q < f k then some k else some q := by rw [wi_1, if_pos h]
theorem wi_skip {f : Nat → Int64} {N k : Nat} {b : Option Nat} (h : ¬ (k < N ∨ k = 6)) : wi_ f N 1 k b = b := by rw [wi_1, if_neg h]
theorem which_eq {f s : Nat → Int64} {N : Nat} (h6 : N ≤ 6) (hfs : ∀ i, i < N ∨ i = 6 → f i = s i) (hz : ∀ i, N ≤ i → i < 6 → s i = 0) (hn : ∀ i, i < 7 → ∃ q : Nat, s i = lN q ∧ q < 2 ^ 63) (ht : ¬ sl_ s 7 = 0) : wb_ (wi_ f N 7 0 none) = nI (be_ s 6) := by
  have nn : ∀ i, i < 7 → ¬ s i < 0 := fun i hi => by
    obtain ⟨q, h1, h2⟩ := hn i hi
    rw [h1, show (0 : Int64) = lN 0 from rfl, pk_lLT h2 (by decide)]
    omega
  by_cases hN : N = 0
  · subst hN
    have a1 : ∀ k, k ≤ 6 → wi_ f 0 k 0 none = none := by
      intro k
      induction k with
      | zero => intro _; rfl
      | succ k ih =>
        intro hk
        rw [wi_snoc, ih (by omega), Nat.zero_add, wi_skip (by omega)]
    have a2 : ∀ k, k ≤ 5 → be_ s k = 0 := by
      intro k
      induction k with
      | zero => intro _; rfl
      | succ k ih =>
        intro hk
        unfold be_
        rw [ih (by omega), hz 0 (by omega) (by omega), hz (k + 1) (by omega) (by omega), if_neg (by decide)]
    rw [wi_snoc, a1 6 (by omega), Nat.zero_add, wi_none (.inr rfl)]
    have e : be_ s 6 = if s (be_ s 5) < s 6 then 6 else be_ s 5 := rfl
    have t : sl_ s 7 = s 6 := by
      unfold sl_ sl_ sl_ sl_ sl_ sl_ sl_ sl_
      rw [hz 0 (by omega) (by omega), hz 1 (by omega) (by omega), hz 2 (by omega) (by omega), hz 3 (by omega) (by omega), hz 4 (by omega) (by omega), hz 5 (by omega) (by omega)]
      simp
    rw [t] at ht
    obtain ⟨q, h1, h2⟩ := hn 6 (by omega)
    have hq : 0 < s 6 := by
      rw [h1, show (0 : Int64) = lN 0 from rfl, pk_lLT (by decide) h2]
      rcases Nat.eq_zero_or_pos q with z | z
      · rw [h1, z] at ht; exact absurd rfl ht
      · exact z
    rw [e, a2 5 (by omega), hz 0 (by omega) (by omega), if_pos hq]
    rfl
  · have a1 : ∀ k, k ≤ 5 → wi_ f N (k + 1) 0 none = some (be_ s k) ∧ be_ s k < N := by
      intro k
      induction k with
      | zero => intro _; exact ⟨by rw [wi_none (.inl (by omega))]; rfl, by show 0 < N; omega⟩
      | succ k ih =>
        intro hk
        obtain ⟨i1, i2⟩ := ih (by omega)
        rw [wi_snoc, i1, Nat.zero_add]
        have e : be_ s (k + 1) = if s (be_ s k) < s (k + 1) then k + 1 else be_ s k := rfl
        by_cases c : k + 1 < N
        · rw [wi_some (.inl c), hfs _ (.inl i2), hfs _ (.inl c), e]
          split
          · exact ⟨rfl, c⟩
          · exact ⟨rfl, i2⟩
        · rw [wi_skip (by omega), e, hz (k + 1) (by omega) (by omega), if_neg (nn _ (by omega))]
          exact ⟨rfl, i2⟩
    obtain ⟨i1, i2⟩ := a1 5 (by omega)
    rw [wi_snoc, i1, Nat.zero_add, wi_some (.inr rfl), hfs _ (.inl i2), hfs 6 (.inr rfl)]
    have e : be_ s 6 = if s (be_ s 5) < s 6 then 6 else be_ s 5 := rfl
    rw [e]
    split <;> rfl
/-! Most, first, last. -/
theorem be_max {v : Nat → Int64} : ∀ {n : Nat}, (∀ i, i ≤ n → v i ≤ v (be_ v n)) ∧ ∀ i, i < be_ v n → v i < v (be_ v n) := by
  intro n
  induction n with
  | zero =>
    refine ⟨fun i hi => ?_, fun i hi => absurd hi (Nat.not_lt_zero _)⟩
    obtain rfl : i = 0 := by omega
    exact Int64.le_refl _
  | succ n ih =>
    obtain ⟨h1, h2⟩ := ih
    have hb := be_le v n
    have e : be_ v (n + 1) = if v (be_ v n) < v (n + 1) then n + 1 else be_ v n := rfl
    rw [e]
    split
    · rename_i c
      refine ⟨fun i hi => ?_, fun i hi => ?_⟩
      · by_cases q : i = n + 1
        · rw [q]; exact Int64.le_refl _
        · exact Int64.le_of_lt (Int64.lt_of_le_of_lt (h1 i (by omega)) c)
      · exact Int64.lt_of_le_of_lt (h1 i (by omega)) c
    · rename_i c
      refine ⟨fun i hi => ?_, h2⟩
      by_cases q : i = n + 1
      · rw [q]; exact Int64.not_lt.mp c
      · exact h1 i (by omega)
theorem gl_be {v : Nat → Int64} (h0 : 0 < v 0) : ∀ n, gl_ v (n + 1) = v (be_ v n) := by
  intro n
  induction n with
  | zero =>
    unfold gl_ gl_
    rw [if_pos h0]
    rfl
  | succ n ih =>
    have e : gl_ v (n + 1 + 1) = if gl_ v (n + 1) < v (n + 1) then v (n + 1) else gl_ v (n + 1) := rfl
    have e2 : be_ v (n + 1) = if v (be_ v n) < v (n + 1) then n + 1 else be_ v n := rfl
    rw [e, ih, e2]
    split <;> rfl
theorem mo_some {I : Nat → Bool} {w : Int32} (hw : ¬ w = 2) : ∀ (j k q : Nat), mo_ I w j k (some q) = some q := by
  intro j
  induction j with
  | zero => intro k q; rfl
  | succ j ih =>
    intro k q
    have e : mo_ I w (j + 1) k (some q) = mo_ I w j (k + 1) (if I k = true then (if w = 2 then some k else some q) else some q) := rfl
    rw [e, if_neg hw, ite_self, ih]
theorem mo_first {I : Nat → Bool} {w : Int32} (hw : ¬ w = 2) {r : Nat} (hr : I r = true) : ∀ (j k : Nat), k ≤ r → r < k + j → (∀ i, k ≤ i → i < r → I i = false) → mo_ I w j k none = some r := by
  intro j
  induction j with
  | zero => intro k h1 h2; omega
  | succ j ih =>
    intro k h1 h2 h3
    have e : mo_ I w (j + 1) k none = mo_ I w j (k + 1) (if I k = true then some k else none) := rfl
    by_cases q : k = r
    · subst q
      rw [e, if_pos hr, mo_some hw]
    · rw [e, if_neg (by rw [h3 k (Nat.le_refl _) (by omega)]; decide)]
      exact ih (k + 1) (by omega) (by omega) (fun i a b => h3 i (by omega) b)
theorem mo_none {I : Nat → Bool} {w : Int32} : ∀ (j k : Nat) (b : Option Nat), (∀ i, k ≤ i → i < k + j → I i = false) → mo_ I w j k b = b := by
  intro j
  induction j with
  | zero => intro k b _; rfl
  | succ j ih =>
    intro k b h
    unfold mo_
    rw [if_neg (by rw [h k (Nat.le_refl _) (by omega)]; decide)]
    exact ih (k + 1) b (fun i a c => h i (by omega) (by omega))
theorem mo_last {I : Nat → Bool} {r : Nat} (hr : I r = true) : ∀ (j k : Nat) (b : Option Nat), k ≤ r → r < k + j → (∀ i, r < i → i < k + j → I i = false) → mo_ I 2 j k b = some r := by
  intro j
  induction j with
  | zero => intro k b h1 h2; omega
  | succ j ih =>
    intro k b h1 h2 h3
    by_cases q : k = r
    · subst q
      unfold mo_
      rw [if_pos hr, mo_none j (k + 1) _ (fun i a c => h3 i (by omega) (by omega))]
      cases b with
      | none => rfl
      | some q => exact if_pos rfl
    · unfold mo_
      exact ih (k + 1) _ (by omega) (by omega) (fun i a c => h3 i a (by omega))
theorem fr_spec {v : Nat → Int64} {b : Nat} : ∀ (j k : Nat), k + j = b → (k ≤ fr_ v b j k ∧ fr_ v b j k ≤ b) ∧ (∀ i, k ≤ i → i < fr_ v b j k → ¬ v b ≤ 2 * v i) ∧ (fr_ v b j k = b ∨ v b ≤ 2 * v (fr_ v b j k)) := by
  intro j
  induction j with
  | zero =>
    intro k hk
    unfold fr_
    exact ⟨⟨by omega, by omega⟩, fun i a c => by omega, .inl rfl⟩
  | succ j ih =>
    intro k hk
    unfold fr_
    split
    · rename_i c
      exact ⟨⟨by omega, by omega⟩, fun i a d => by omega, .inr c⟩
    · rename_i c
      obtain ⟨⟨a1, a2⟩, a3, a4⟩ := ih (k + 1) (by omega)
      refine ⟨⟨by omega, a2⟩, fun i p q => ?_, a4⟩
      by_cases z : i = k
      · rw [z]; exact c
      · exact a3 i (by omega) q
theorem la_spec {v : Nat → Int64} {b : Nat} : ∀ (j : Nat), (b ≤ la_ v b j ∧ la_ v b j ≤ b + j) ∧ (∀ i, la_ v b j < i → i ≤ b + j → ¬ v b ≤ 2 * v i) ∧ (la_ v b j = b ∨ v b ≤ 2 * v (la_ v b j)) := by
  intro j
  induction j with
  | zero =>
    unfold la_
    exact ⟨⟨by omega, by omega⟩, fun i a c => by omega, .inl rfl⟩
  | succ j ih =>
    unfold la_
    split
    · rename_i c
      exact ⟨⟨by omega, by omega⟩, fun i a d => by omega, .inr c⟩
    · rename_i c
      obtain ⟨⟨a1, a2⟩, a3, a4⟩ := ih
      refine ⟨⟨a1, by omega⟩, fun i p q => ?_, a4⟩
      by_cases z : i = b + (j + 1)
      · rw [z]; exact c
      · exact a3 i p (by omega)
theorem dbl_ {q : Nat} (h : q < 2 ^ 61) : lN q ≤ 2 * lN q := by
  rw [show (2 : Int64) = lN 2 from rfl, lN_mul, pk_lLE (by omega) (by omega)]
  omega
theorem most_eq {v : Nat → Int64} {I : Nat → Bool} {w : Int32} (hv : ∀ t, ∃ q : Nat, v t = lN q ∧ 1 ≤ q ∧ q < 2 ^ 61) (hI : ∀ k, I k = true ↔ is_ v (gl_ v 37) w k) :
    (w = 0 → mb_ (mo_ I w 37 0 none) = nI (be_ v 36 * 10)) ∧ (w = 1 → mb_ (mo_ I w 37 0 none) = nI (fr_ v (be_ v 36) (be_ v 36) 0 * 10)) ∧ (w = 2 → mb_ (mo_ I w 37 0 none) = nI (la_ v (be_ v 36) (36 - be_ v 36) * 10)) := by
  obtain ⟨q0, z1, z2, z3⟩ := hv 0
  have h0 : 0 < v 0 := by rw [z1, show (0 : Int64) = lN 0 from rfl, pk_lLT (by decide) (by omega)]; omega
  rw [gl_be h0] at hI
  obtain ⟨m1, m2⟩ := be_max (v := v) (n := 36)
  have hb := be_le v 36
  have hbb : v (be_ v 36) ≤ 2 * v (be_ v 36) := by
    obtain ⟨q, y1, y2, y3⟩ := hv (be_ v 36)
    rw [y1]
    exact dbl_ y3
  refine ⟨fun hw => ?_, fun hw => ?_, fun hw => ?_⟩
  · subst hw
    have hk : ∀ k, I k = true ↔ v k = v (be_ v 36) := fun k => by rw [hI k]; unfold is_; rw [if_pos rfl]
    rw [mo_first (by decide) ((hk (be_ v 36)).mpr rfl) 37 0 (by omega) (by omega) (fun i _ hi => by
      rw [← Bool.not_eq_true, hk i]
      intro z
      have := m2 i hi
      rw [z] at this
      exact Int64.lt_irrefl this)]
    rfl
  · subst hw
    have hk : ∀ k, I k = true ↔ v (be_ v 36) ≤ 2 * v k := fun k => by rw [hI k]; unfold is_; rw [if_neg (by decide)]
    obtain ⟨⟨a1, a2⟩, a3, a4⟩ := fr_spec (v := v) (b := be_ v 36) (be_ v 36) 0 (by omega)
    rw [mo_first (by decide) ((hk (fr_ v (be_ v 36) (be_ v 36) 0)).mpr (by
      rcases a4 with e | e
      · rw [e]; exact hbb
      · exact e)) 37 0 (by omega) (by omega) (fun i _ hi => by
      rw [← Bool.not_eq_true, hk i]
      exact a3 i (by omega) hi)]
    rfl
  · subst hw
    have hk : ∀ k, I k = true ↔ v (be_ v 36) ≤ 2 * v k := fun k => by rw [hI k]; unfold is_; rw [if_neg (by decide)]
    obtain ⟨⟨a1, a2⟩, a3, a4⟩ := la_spec (v := v) (b := be_ v 36) (36 - be_ v 36)
    rw [mo_last ((hk (la_ v (be_ v 36) (36 - be_ v 36))).mpr (by
      rcases a4 with e | e
      · rw [e]; exact hbb
      · exact e)) 37 0 none (by omega) (by omega) (fun i hi hi2 => by
      rw [← Bool.not_eq_true, hk i]
      exact a3 i hi (by omega))]
    rfl
/-! Need. -/
theorem need_eq {D : ax_Dn} (hJ : J D) (m : Nat) (hm : nI m < D 2 0) (hm6 : m < 6) (d h : Int32) : ∀ (j n : Nat), (n = 0 ∨ hh_ (sh_ D d n m) (sl_ (sh_ D d n) 7) h = false) → ne_ D m d h j n = nm_ D m d h (D 2 0).toNatClampNeg j n := by
  intro j
  induction j with
  | zero => intro n _; rfl
  | succ j ih =>
    intro n hn
    unfold ne_ nm_
    rw [al_sh hJ, wm_sh hJ d (n + 1) m (.inl ⟨hm, hm6⟩)]
    have e := pk_step (D 13) 0 n
    rw [Nat.zero_add, Nat.zero_add] at e
    cases hT : hh_ (sh_ D d (n + 1) m) (sl_ (sh_ D d (n + 1)) 7) h with
    | false =>
      rw [if_neg (by simp), if_neg (by simp)]
      exact ih (n + 1) (.inr hT)
    | true =>
      rw [if_pos rfl]
      by_cases c : (pk_ (D 13) 0 n).length < (pk_ (D 13) 0 (n + 1)).length
      · rw [if_pos ⟨c, rfl⟩]
      · exfalso
        have hsame : pk_ (D 13) 0 (n + 1) = pk_ (D 13) 0 n := by
          rw [e]
          split
          · rename_i q
            rw [e, if_pos q, List.length_append] at c
            simp at c
          · rfl
        rcases hn with hn | hn
        · subst hn
          have : pk_ (D 13) 0 1 = [0] := by
            unfold pk_ fs_ fs_
            simp
          rw [hsame, pk_nil] at this
          cases this
        · have hs : sh_ D d (n + 1) = sh_ D d n := by
            funext i
            unfold sh_ LC
            rw [hsame]
          rw [hs, hn] at hT
          cases hT
/-! Sittings. -/
theorem pr6_ (f : Int32 → Int32) : pr_ 6 f 5 0 1 = 1 * f (nI 1) * f (nI 2) := by
  unfold pr_ pr_ pr_ pr_ pr_ pr_
  rw [if_neg (by decide), if_neg (by decide), if_pos (by decide), if_pos (by decide), if_neg (by decide)]
theorem LC6_nat {D : ax_Dn} (h : okC D) (m d : Int32) (f t : Nat) : ∃ q : Nat, LC D 6 m d f t = lN q ∧ 1 ≤ q ∧ q ≤ 60466176 := by
  have h6 : ∀ i, ∃ c : Nat, pr_ 6 (FC D i m d) 5 0 1 = nI c ∧ 1 ≤ c ∧ c ≤ 36 := by
    intro i
    obtain ⟨a, a1, a2, a3⟩ := FC_nat h i m d 1 (by decide)
    obtain ⟨b, b1, b2, b3⟩ := FC_nat h i m d 2 (by decide)
    refine ⟨a * b, ?_, Nat.mul_pos a2 b2, Nat.le_trans (Nat.mul_le_mul a3 b3) (by decide)⟩
    rw [pr6_, a1, b1, Int32.one_mul, nI_mul]
  have key : ∀ (P : List Nat) (a : Nat), 1 ≤ a → ∃ q : Nat, lk_ P (fun i => pr_ 6 (FC D i m d) 5 0 1) (lN a) = lN q ∧ 1 ≤ q ∧ q ≤ a * 36 ^ P.length := by
    intro P
    induction P with
    | nil => intro a ha; exact ⟨a, rfl, ha, by simp⟩
    | cons i P ih =>
      intro a ha
      obtain ⟨c, h1, h2, h3⟩ := h6 i
      obtain ⟨q, q1, q2, q3⟩ := ih (a * c) (Nat.mul_pos ha h2)
      refine ⟨q, ?_, q2, Nat.le_trans q3 ?_⟩
      · rw [← q1]
        unfold lk_
        rw [List.foldl_cons]
        show List.foldl _ (lN a * (pr_ 6 (FC D i m d) 5 0 1).toInt64) P = _
        rw [h1, nI_l (by omega), lN_mul]
      · rw [List.length_cons, Nat.pow_succ, Nat.mul_comm (36 ^ P.length), ← Nat.mul_assoc]
        exact Nat.mul_le_mul_right _ (Nat.mul_le_mul_left _ h3)
  obtain ⟨q, h1, h2, h3⟩ := key (pk_ (D 13) f t) 1 (Nat.le_refl 1)
  refine ⟨q, h1, h2, Nat.le_trans h3 ?_⟩
  rw [Nat.one_mul]
  exact Nat.le_trans (Nat.pow_le_pow_right (by decide) (pk_len _ _ _)) (Nat.le_of_ble_eq_true rfl)
theorem gl_nat {v : Nat → Int64} {B : Nat} (hB : B < 2 ^ 63) (hv : ∀ t, ∃ q : Nat, v t = lN q ∧ 1 ≤ q ∧ q ≤ B) : ∀ n, ∃ q : Nat, gl_ v (n + 1) = lN q ∧ 1 ≤ q ∧ q ≤ B := by
  obtain ⟨q0, z1, z2, z3⟩ := hv 0
  have h0 : 0 < v 0 := by rw [z1, show (0 : Int64) = lN 0 from rfl, pk_lLT (by decide) (by omega)]; omega
  intro n
  rw [gl_be h0]
  exact hv _
theorem LG_nat {D : ax_Dn} (h : okC D) (m : Int32) (f t : Nat) : ∃ q : Nat, LG D m f t = lN q ∧ 1 ≤ q ∧ q ≤ 60466176 := gl_nat (by decide) (fun t' => LC6_nat h m (nI (t' * 10)) f t) 36
theorem pt_eq {v : Nat → Int64} (hv : ∀ p, ∃ q : Nat, v p = lN q ∧ 1 ≤ q ∧ q < 2 ^ 63) : ∀ k, pt_ v 0 (k + 1) = pt_ v (-1) (k + 1) := by
  intro k
  induction k with
  | zero =>
    obtain ⟨q, h1, h2, h3⟩ := hv 1
    have e : ∀ b, pt_ v b (0 + 1) = if b < v 1 then (1, v 1) else (0, b) := fun b => rfl
    have a1 : (0 : Int64) < v 1 := by rw [h1, show (0 : Int64) = lN 0 from rfl, pk_lLT (by decide) h3]; omega
    have a2 : (-1 : Int64) < v 1 := Int64.lt_trans (by decide) a1
    rw [e, e, if_pos a1, if_pos a2]
  | succ k ih =>
    have e : ∀ b, pt_ v b (k + 1 + 1) = if (pt_ v b (k + 1)).2 < v (k + 1 + 1) then (k + 1 + 1, v (k + 1 + 1)) else pt_ v b (k + 1) := fun b => rfl
    rw [e, e, ih]
theorem J_LGM {D : ax_Dn} (hJ : J D) : LGM D = LG D := by
  funext m f t
  unfold LGM LG
  rw [J_LM hJ]
