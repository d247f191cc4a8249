/-! The law: what it says of a call of the class and of the model's behind it. -/
theorem ax_MM_mono {g : ax_G} {y : Nat} {as : List Value} {z : ax_St} {K K' : ax_Po} (h : ax_MM g y as z K) (hK : ∀ o z', K o z' → K' o z') : ax_MM g y as z K' := by
  intro p e ha hc hk s m args below hf happ hP hT
  obtain ⟨n, o, h1, h2, h3, ⟨⟨⟨r, s', e1, e2, e3, e4⟩, e5⟩, hF⟩⟩ := h p e ha hc hk s m args below hf happ hP hT
  exact ⟨n, o, h1, h2, h3, ⟨⟨⟨r, s', e1, hK _ _ e2, e3, e4⟩, e5⟩, hF⟩⟩
def vsh : List Nat → List Value → Prop
  | [], [] => True
  | 0 :: ks, .int _ :: bs => vsh ks bs
  | 1 :: ks, .long _ :: bs => vsh ks bs
  | _, _ => False
theorem vsh_n {bs : List Value} (h : vsh [] bs) : bs = [] := by
  cases bs with
  | nil => rfl
  | cons v bs => exact False.elim h
theorem vsh_i {ks : List Nat} {bs : List Value} (h : vsh (0 :: ks) bs) : ∃ p bs', bs = .int p :: bs' ∧ vsh ks bs' := by
  cases bs with
  | nil => exact False.elim h
  | cons v bs =>
    cases v with
    | int p => exact ⟨p, bs, rfl, h⟩
    | _ => exact False.elim h
theorem vsh_l {ks : List Nat} {bs : List Value} (h : vsh (1 :: ks) bs) : ∃ p bs', bs = .long p :: bs' ∧ vsh ks bs' := by
  cases bs with
  | nil => exact False.elim h
  | cons v bs =>
    cases v with
    | long p => exact ⟨p, bs, rfl, h⟩
    | _ => exact False.elim h
theorem vsh_0 : vsh [] [] = True := rfl
theorem vsh_1 (ks : List Nat) (x : Int32) (bs : List Value) : vsh (0 :: ks) (.int x :: bs) = vsh ks bs := rfl
theorem vsh_2 (ks : List Nat) (x : Int64) (bs : List Value) : vsh (1 :: ks) (.long x :: bs) = vsh ks bs := rfl
def dcI (g : ax_G) (M : Nat) (ks : List Nat) : ax_P1 := fun as z K => ∃ bs D E, as = .ref 0 :: bs ∧ z = ax_S D E ∧ vsh ks bs ∧ J D ∧ ∀ x D' E', ax_MM g M (.ref 58 :: bs) (ax_S D' E') (FI x) → K (some (.int x)) (ax_S D' E')
def dcL (g : ax_G) (M : Nat) (ks : List Nat) : ax_P1 := fun as z K => ∃ bs D E, as = .ref 0 :: bs ∧ z = ax_S D E ∧ vsh ks bs ∧ J D ∧ ∀ x D' E', ax_MM g M (.ref 58 :: bs) (ax_S D' E') (FL x) → K (some (.long x)) (ax_S D' E')
def dmI (g : ax_G) (M : Nat) : ax_P1 := fun as z K => ∃ D E x, z = ax_S D E ∧ ax_MM g M as z (FI x) ∧ ∀ D' E', J D' → K (some (.int x)) (ax_S D' E')
def dmL (g : ax_G) (M : Nat) : ax_P1 := fun as z K => ∃ D E x, z = ax_S D E ∧ ax_MM g M as z (FL x) ∧ ∀ D' E', J D' → K (some (.long x)) (ax_S D' E')
theorem dcI_r (g : ax_G) (M : Nat) (ks : List Nat) (bs : List Value) (D : ax_Dn) (E : ax_En) (K : ax_Po) : dcI g M ks (.ref 0 :: bs) (ax_S D E) K = (vsh ks bs ∧ J D ∧ ∀ x D' E', ax_MM g M (.ref 58 :: bs) (ax_S D' E') (FI x) → K (some (.int x)) (ax_S D' E')) := propext ⟨fun ⟨bs', D', E', h1, h2, h3⟩ => by
  cases h1; obtain ⟨rfl, rfl⟩ := ax_S_inj h2; exact h3, fun h => ⟨bs, D, E, rfl, rfl, h⟩⟩
theorem dcL_r (g : ax_G) (M : Nat) (ks : List Nat) (bs : List Value) (D : ax_Dn) (E : ax_En) (K : ax_Po) : dcL g M ks (.ref 0 :: bs) (ax_S D E) K = (vsh ks bs ∧ J D ∧ ∀ x D' E', ax_MM g M (.ref 58 :: bs) (ax_S D' E') (FL x) → K (some (.long x)) (ax_S D' E')) := propext ⟨fun ⟨bs', D', E', h1, h2, h3⟩ => by
  cases h1; obtain ⟨rfl, rfl⟩ := ax_S_inj h2; exact h3, fun h => ⟨bs, D, E, rfl, rfl, h⟩⟩
theorem dmI_r (g : ax_G) (M : Nat) (as : List Value) (D : ax_Dn) (E : ax_En) (K : ax_Po) : dmI g M as (ax_S D E) K = ∃ x, ax_MM g M as (ax_S D E) (FI x) ∧ ∀ D' E', J D' → K (some (.int x)) (ax_S D' E') := propext ⟨fun ⟨_, _, x, _, h1, h2⟩ => ⟨x, h1, h2⟩, fun ⟨x, h1, h2⟩ => ⟨D, E, x, rfl, h1, h2⟩⟩
theorem dmL_r (g : ax_G) (M : Nat) (as : List Value) (D : ax_Dn) (E : ax_En) (K : ax_Po) : dmL g M as (ax_S D E) K = ∃ x, ax_MM g M as (ax_S D E) (FL x) ∧ ∀ D' E', J D' → K (some (.long x)) (ax_S D' E') := propext ⟨fun ⟨_, _, x, _, h1, h2⟩ => ⟨x, h1, h2⟩, fun ⟨x, h1, h2⟩ => ⟨D, E, x, rfl, h1, h2⟩⟩
theorem dmI_s {g : ax_G} {M : Nat} : ∀ as z K, dmI g M as z K → ax_MM g M as z K := by
  rintro as _ K ⟨D, E, x, rfl, h1, h2⟩
  refine ax_MM_mono h1 ?_
  rintro o z' ⟨rfl, D', E', rfl, hJ⟩
  exact h2 D' E' hJ
theorem dmL_s {g : ax_G} {M : Nat} : ∀ as z K, dmL g M as z K → ax_MM g M as z K := by
  rintro as _ K ⟨D, E, x, rfl, h1, h2⟩
  refine ax_MM_mono h1 ?_
  rintro o z' ⟨rfl, D', E', rfl, hJ⟩
  exact h2 D' E' hJ
theorem dc_KI {g : ax_G} {N M : Nat} {as bs : List Value} {z : ax_St} {K : ax_Po} {cm : ax_P1} (h : ax_MM g N as z (KI cm bs)) (hm : ∀ as z K, cm as z K → ax_MM g M as z K) (hk : ∀ x D' E', ax_MM g M bs (ax_S D' E') (FI x) → K (some (.int x)) (ax_S D' E')) : ax_MM g N as z K := by
  refine ax_MM_mono h ?_
  rintro o z' ⟨x, D', E', rfl, rfl, hc⟩
  exact hk x D' E' (hm _ _ _ hc)
theorem dc_KL {g : ax_G} {N M : Nat} {as bs : List Value} {z : ax_St} {K : ax_Po} {cm : ax_P1} (h : ax_MM g N as z (KL cm bs)) (hm : ∀ as z K, cm as z K → ax_MM g M as z K) (hk : ∀ x D' E', ax_MM g M bs (ax_S D' E') (FL x) → K (some (.long x)) (ax_S D' E')) : ax_MM g N as z K := by
  refine ax_MM_mono h ?_
  rintro o z' ⟨x, D', E', rfl, rfl, hc⟩
  exact hk x D' E' (hm _ _ _ hc)
/-- a run in which each jump is a cut -/
theorem ax_WPz {g : ax_G} {h : ax_H} {ret : ax_Po} {n0 top : Nat} {l : List (Nat × ax_P1)} (hl : ax_ok g l) (ct : Nat → Bool) (n : Nat) {r : ax_Row} {rest : List ax_Row} (hok : ax_okl h (r :: rest) = true) {L : ax_Lo} {st : ax_Sk} {z : ax_St} (hr : ax_rn g (ax_or g l) ret top (ax_WP g h ret n0 top) (fun _ => []) ct n (r :: rest) L st z) : ax_WP g h ret n0 top r.1 L st z :=
  ax_WPn (ax_or_ok hl) (fun _ => rfl) (fun t r rest h => by cases h) n r rest L st z hok hr
theorem lg_self (x : Int64) : lg_cmp x x = 0 := by
  unfold lg_cmp
  simp
theorem d_73 {g : ax_G} : ∀ as z K, dcI g 130 [0, 1] as z K → ax_MM g 73 as z K := by
  rintro _ _ K ⟨bs, D, E, rfl, rfl, hs0, hJ, hk⟩
  obtain ⟨q1, bs, rfl, hs1⟩ := vsh_i hs0
  obtain ⟨q2, bs, rfl, hs2⟩ := vsh_l hs1
  obtain rfl := vsh_n hs2
  exact dc_KI (sy_73 _ _ _ (pr_73 E hJ q1 q2)) sy_130 hk
theorem d_74 {g : ax_G} : ∀ as z K, dcI g 138 [] as z K → ax_MM g 74 as z K := by
  rintro _ _ K ⟨bs, D, E, rfl, rfl, hs0, hJ, hk⟩
  obtain rfl := vsh_n hs0
  exact dc_KI (sy_74 _ _ _ (pr_74 E hJ )) sy_138 hk
theorem d_75 {g : ax_G} : ∀ as z K, dcI g 147 [0, 0, 0] as z K → ax_MM g 75 as z K := by
  rintro _ _ K ⟨bs, D, E, rfl, rfl, hs0, hJ, hk⟩
  obtain ⟨q1, bs, rfl, hs1⟩ := vsh_i hs0
  obtain ⟨q2, bs, rfl, hs2⟩ := vsh_i hs1
  obtain ⟨q3, bs, rfl, hs3⟩ := vsh_i hs2
  obtain rfl := vsh_n hs3
  exact dc_KI (sy_75 _ _ _ (pr_75 E hJ q1 q2 q3)) sy_147 hk
theorem d_76 {g : ax_G} : ∀ as z K, dcI g 148 [0, 0, 0] as z K → ax_MM g 76 as z K := by
  rintro _ _ K ⟨bs, D, E, rfl, rfl, hs0, hJ, hk⟩
  obtain ⟨q1, bs, rfl, hs1⟩ := vsh_i hs0
  obtain ⟨q2, bs, rfl, hs2⟩ := vsh_i hs1
  obtain ⟨q3, bs, rfl, hs3⟩ := vsh_i hs2
  obtain rfl := vsh_n hs3
  exact dc_KI (sy_76 _ _ _ (pr_76 E hJ q1 q2 q3)) sy_148 hk
theorem d_77 {g : ax_G} : ∀ as z K, dcI g 149 [0, 0, 0] as z K → ax_MM g 77 as z K := by
  rintro _ _ K ⟨bs, D, E, rfl, rfl, hs0, hJ, hk⟩
  obtain ⟨q1, bs, rfl, hs1⟩ := vsh_i hs0
  obtain ⟨q2, bs, rfl, hs2⟩ := vsh_i hs1
  obtain ⟨q3, bs, rfl, hs3⟩ := vsh_i hs2
  obtain rfl := vsh_n hs3
  exact dc_KI (sy_77 _ _ _ (pr_77 E hJ q1 q2 q3)) sy_149 hk
theorem d_78 {g : ax_G} : ∀ as z K, dcI g 150 [0, 0] as z K → ax_MM g 78 as z K := by
  rintro _ _ K ⟨bs, D, E, rfl, rfl, hs0, hJ, hk⟩
  obtain ⟨q1, bs, rfl, hs1⟩ := vsh_i hs0
  obtain ⟨q2, bs, rfl, hs2⟩ := vsh_i hs1
  obtain rfl := vsh_n hs2
  exact dc_KI (sy_78 _ _ _ (pr_78 E hJ q1 q2)) sy_150 hk
theorem d_79 {g : ax_G} (hg : gok g) : ∀ as z K, dcI g 151 [0, 0] as z K → ax_MM g 79 as z K := by
  rintro _ _ K ⟨bs, D, E, rfl, rfl, hs0, hJ, hk⟩
  obtain ⟨q1, bs, rfl, hs1⟩ := vsh_i hs0
  obtain ⟨q2, bs, rfl, hs2⟩ := vsh_i hs1
  obtain rfl := vsh_n hs2
  exact dc_KI (sy_79 hg _ _ _ (pr_79 E hJ q1 q2)) sy_151 hk
theorem d_80 {g : ax_G} : ∀ as z K, dcI g 153 [0, 0, 0, 0, 0] as z K → ax_MM g 80 as z K := by
  rintro _ _ K ⟨bs, D, E, rfl, rfl, hs0, hJ, hk⟩
  obtain ⟨q1, bs, rfl, hs1⟩ := vsh_i hs0
  obtain ⟨q2, bs, rfl, hs2⟩ := vsh_i hs1
  obtain ⟨q3, bs, rfl, hs3⟩ := vsh_i hs2
  obtain ⟨q4, bs, rfl, hs4⟩ := vsh_i hs3
  obtain ⟨q5, bs, rfl, hs5⟩ := vsh_i hs4
  obtain rfl := vsh_n hs5
  exact dc_KI (sy_80 _ _ _ (pr_80 E hJ q1 q2 q3 q4 q5)) sy_153 hk
theorem d_81 {g : ax_G} : ∀ as z K, dcI g 155 [0, 0] as z K → ax_MM g 81 as z K := by
  rintro _ _ K ⟨bs, D, E, rfl, rfl, hs0, hJ, hk⟩
  obtain ⟨q1, bs, rfl, hs1⟩ := vsh_i hs0
  obtain ⟨q2, bs, rfl, hs2⟩ := vsh_i hs1
  obtain rfl := vsh_n hs2
  exact dc_KI (sy_81 _ _ _ (pr_81 E hJ q1 q2)) sy_155 hk
theorem d_82 {g : ax_G} : ∀ as z K, dcI g 156 [] as z K → ax_MM g 82 as z K := by
  rintro _ _ K ⟨bs, D, E, rfl, rfl, hs0, hJ, hk⟩
  obtain rfl := vsh_n hs0
  exact dc_KI (sy_82 _ _ _ (pr_82 E hJ )) sy_156 hk
theorem d_83 {g : ax_G} : ∀ as z K, dcI g 160 [0, 0, 0, 0] as z K → ax_MM g 83 as z K := by
  rintro _ _ K ⟨bs, D, E, rfl, rfl, hs0, hJ, hk⟩
  obtain ⟨q1, bs, rfl, hs1⟩ := vsh_i hs0
  obtain ⟨q2, bs, rfl, hs2⟩ := vsh_i hs1
  obtain ⟨q3, bs, rfl, hs3⟩ := vsh_i hs2
  obtain ⟨q4, bs, rfl, hs4⟩ := vsh_i hs3
  obtain rfl := vsh_n hs4
  exact dc_KI (sy_83 _ _ _ (pr_83 E hJ q1 q2 q3 q4)) sy_160 hk
theorem d_84 {g : ax_G} : ∀ as z K, dcL g 165 [0, 0] as z K → ax_MM g 84 as z K := by
  rintro _ _ K ⟨bs, D, E, rfl, rfl, hs0, hJ, hk⟩
  obtain ⟨q1, bs, rfl, hs1⟩ := vsh_i hs0
  obtain ⟨q2, bs, rfl, hs2⟩ := vsh_i hs1
  obtain rfl := vsh_n hs2
  exact dc_KL (sy_84 _ _ _ (pr_84 E hJ q1 q2)) sy_165 hk
theorem d_85 {g : ax_G} : ∀ as z K, dcL g 166 [0, 0] as z K → ax_MM g 85 as z K := by
  rintro _ _ K ⟨bs, D, E, rfl, rfl, hs0, hJ, hk⟩
  obtain ⟨q1, bs, rfl, hs1⟩ := vsh_i hs0
  obtain ⟨q2, bs, rfl, hs2⟩ := vsh_i hs1
  obtain rfl := vsh_n hs2
  exact dc_KL (sy_85 _ _ _ (pr_85 E hJ q1 q2)) sy_166 hk
theorem d_86 {g : ax_G} : ∀ as z K, dcL g 172 [0, 0, 0] as z K → ax_MM g 86 as z K := by
  rintro _ _ K ⟨bs, D, E, rfl, rfl, hs0, hJ, hk⟩
  obtain ⟨q1, bs, rfl, hs1⟩ := vsh_i hs0
  obtain ⟨q2, bs, rfl, hs2⟩ := vsh_i hs1
  obtain ⟨q3, bs, rfl, hs3⟩ := vsh_i hs2
  obtain rfl := vsh_n hs3
  exact dc_KL (sy_86 _ _ _ (pr_86 E hJ q1 q2 q3)) sy_172 hk
theorem d_87 {g : ax_G} : ∀ as z K, dcI g 173 [0] as z K → ax_MM g 87 as z K := by
  rintro _ _ K ⟨bs, D, E, rfl, rfl, hs0, hJ, hk⟩
  obtain ⟨q1, bs, rfl, hs1⟩ := vsh_i hs0
  obtain rfl := vsh_n hs1
  exact dc_KI (sy_87 _ _ _ (pr_87 E hJ q1)) sy_173 hk
theorem d_88 {g : ax_G} : ∀ as z K, dcI g 175 [0] as z K → ax_MM g 88 as z K := by
  rintro _ _ K ⟨bs, D, E, rfl, rfl, hs0, hJ, hk⟩
  obtain ⟨q1, bs, rfl, hs1⟩ := vsh_i hs0
  obtain rfl := vsh_n hs1
  exact dc_KI (sy_88 _ _ _ (pr_88 E hJ q1)) sy_175 hk
theorem d_89 {g : ax_G} : ∀ as z K, dcL g 176 [0, 0, 0] as z K → ax_MM g 89 as z K := by
  rintro _ _ K ⟨bs, D, E, rfl, rfl, hs0, hJ, hk⟩
  obtain ⟨q1, bs, rfl, hs1⟩ := vsh_i hs0
  obtain ⟨q2, bs, rfl, hs2⟩ := vsh_i hs1
  obtain ⟨q3, bs, rfl, hs3⟩ := vsh_i hs2
  obtain rfl := vsh_n hs3
  exact dc_KL (sy_89 _ _ _ (pr_89 E hJ q1 q2 q3)) sy_176 hk
theorem d_90 {g : ax_G} : ∀ as z K, dcI g 178 [0, 0] as z K → ax_MM g 90 as z K := by
  rintro _ _ K ⟨bs, D, E, rfl, rfl, hs0, hJ, hk⟩
  obtain ⟨q1, bs, rfl, hs1⟩ := vsh_i hs0
  obtain ⟨q2, bs, rfl, hs2⟩ := vsh_i hs1
  obtain rfl := vsh_n hs2
  exact dc_KI (sy_90 _ _ _ (pr_90 E hJ q1 q2)) sy_178 hk
theorem d_91 {g : ax_G} : ∀ as z K, dcI g 181 [0] as z K → ax_MM g 91 as z K := by
  rintro _ _ K ⟨bs, D, E, rfl, rfl, hs0, hJ, hk⟩
  obtain ⟨q1, bs, rfl, hs1⟩ := vsh_i hs0
  obtain rfl := vsh_n hs1
  exact dc_KI (sy_91 _ _ _ (pr_91 E hJ q1)) sy_181 hk
theorem d_92 {g : ax_G} : ∀ as z K, dcI g 182 [0] as z K → ax_MM g 92 as z K := by
  rintro _ _ K ⟨bs, D, E, rfl, rfl, hs0, hJ, hk⟩
  obtain ⟨q1, bs, rfl, hs1⟩ := vsh_i hs0
  obtain rfl := vsh_n hs1
  exact dc_KI (sy_92 _ _ _ (pr_92 E hJ q1)) sy_182 hk
theorem d_93 {g : ax_G} : ∀ as z K, dcI g 183 [0, 0] as z K → ax_MM g 93 as z K := by
  rintro _ _ K ⟨bs, D, E, rfl, rfl, hs0, hJ, hk⟩
  obtain ⟨q1, bs, rfl, hs1⟩ := vsh_i hs0
  obtain ⟨q2, bs, rfl, hs2⟩ := vsh_i hs1
  obtain rfl := vsh_n hs2
  exact dc_KI (sy_93 _ _ _ (pr_93 E hJ q1 q2)) sy_183 hk
theorem d_94 {g : ax_G} : ∀ as z K, dcI g 184 [0, 0, 0] as z K → ax_MM g 94 as z K := by
  rintro _ _ K ⟨bs, D, E, rfl, rfl, hs0, hJ, hk⟩
  obtain ⟨q1, bs, rfl, hs1⟩ := vsh_i hs0
  obtain ⟨q2, bs, rfl, hs2⟩ := vsh_i hs1
  obtain ⟨q3, bs, rfl, hs3⟩ := vsh_i hs2
  obtain rfl := vsh_n hs3
  exact dc_KI (sy_94 _ _ _ (pr_94 E hJ q1 q2 q3)) sy_184 hk
theorem d_95 {g : ax_G} : ∀ as z K, dcI g 185 [1] as z K → ax_MM g 95 as z K := by
  rintro _ _ K ⟨bs, D, E, rfl, rfl, hs0, hJ, hk⟩
  obtain ⟨q1, bs, rfl, hs1⟩ := vsh_l hs0
  obtain rfl := vsh_n hs1
  exact dc_KI (sy_95 _ _ _ (pr_95 E hJ q1)) sy_185 hk
theorem d_96 {g : ax_G} : ∀ as z K, dcI g 187 [0] as z K → ax_MM g 96 as z K := by
  rintro _ _ K ⟨bs, D, E, rfl, rfl, hs0, hJ, hk⟩
  obtain ⟨q1, bs, rfl, hs1⟩ := vsh_i hs0
  obtain rfl := vsh_n hs1
  exact dc_KI (sy_96 _ _ _ (pr_96 E hJ q1)) sy_187 hk
theorem d_97 {g : ax_G} : ∀ as z K, dcI g 188 [] as z K → ax_MM g 97 as z K := by
  rintro _ _ K ⟨bs, D, E, rfl, rfl, hs0, hJ, hk⟩
  obtain rfl := vsh_n hs0
  exact dc_KI (sy_97 _ _ _ (pr_97 E hJ )) sy_188 hk
theorem d_98 {g : ax_G} : ∀ as z K, dcI g 189 [] as z K → ax_MM g 98 as z K := by
  rintro _ _ K ⟨bs, D, E, rfl, rfl, hs0, hJ, hk⟩
  obtain rfl := vsh_n hs0
  exact dc_KI (sy_98 _ _ _ (pr_98 E hJ )) sy_189 hk
theorem d_99 {g : ax_G} : ∀ as z K, dcI g 190 [0, 0, 0, 0, 0] as z K → ax_MM g 99 as z K := by
  rintro _ _ K ⟨bs, D, E, rfl, rfl, hs0, hJ, hk⟩
  obtain ⟨q1, bs, rfl, hs1⟩ := vsh_i hs0
  obtain ⟨q2, bs, rfl, hs2⟩ := vsh_i hs1
  obtain ⟨q3, bs, rfl, hs3⟩ := vsh_i hs2
  obtain ⟨q4, bs, rfl, hs4⟩ := vsh_i hs3
  obtain ⟨q5, bs, rfl, hs5⟩ := vsh_i hs4
  obtain rfl := vsh_n hs5
  exact dc_KI (sy_99 _ _ _ (pr_99 E hJ q1 q2 q3 q4 q5)) sy_190 hk
theorem d_100 {g : ax_G} : ∀ as z K, dcI g 192 [0] as z K → ax_MM g 100 as z K := by
  rintro _ _ K ⟨bs, D, E, rfl, rfl, hs0, hJ, hk⟩
  obtain ⟨q1, bs, rfl, hs1⟩ := vsh_i hs0
  obtain rfl := vsh_n hs1
  exact dc_KI (sy_100 _ _ _ (pr_100 E hJ q1)) sy_192 hk
theorem d_101 {g : ax_G} : ∀ as z K, dcI g 193 [0] as z K → ax_MM g 101 as z K := by
  rintro _ _ K ⟨bs, D, E, rfl, rfl, hs0, hJ, hk⟩
  obtain ⟨q1, bs, rfl, hs1⟩ := vsh_i hs0
  obtain rfl := vsh_n hs1
  exact dc_KI (sy_101 _ _ _ (pr_101 E hJ q1)) sy_193 hk
theorem d_102 {g : ax_G} : ∀ as z K, dcI g 194 [] as z K → ax_MM g 102 as z K := by
  rintro _ _ K ⟨bs, D, E, rfl, rfl, hs0, hJ, hk⟩
  obtain rfl := vsh_n hs0
  exact dc_KI (sy_102 _ _ _ (pr_102 E hJ )) sy_194 hk
theorem d_103 {g : ax_G} : ∀ as z K, dcI g 195 [0, 0] as z K → ax_MM g 103 as z K := by
  rintro _ _ K ⟨bs, D, E, rfl, rfl, hs0, hJ, hk⟩
  obtain ⟨q1, bs, rfl, hs1⟩ := vsh_i hs0
  obtain ⟨q2, bs, rfl, hs2⟩ := vsh_i hs1
  obtain rfl := vsh_n hs2
  exact dc_KI (sy_103 _ _ _ (pr_103 E hJ q1 q2)) sy_195 hk
theorem d_104 {g : ax_G} : ∀ as z K, dcI g 196 [0] as z K → ax_MM g 104 as z K := by
  rintro _ _ K ⟨bs, D, E, rfl, rfl, hs0, hJ, hk⟩
  obtain ⟨q1, bs, rfl, hs1⟩ := vsh_i hs0
  obtain rfl := vsh_n hs1
  exact dc_KI (sy_104 _ _ _ (pr_104 E hJ q1)) sy_196 hk
theorem d_105 {g : ax_G} : ∀ as z K, dcI g 197 [0] as z K → ax_MM g 105 as z K := by
  rintro _ _ K ⟨bs, D, E, rfl, rfl, hs0, hJ, hk⟩
  obtain ⟨q1, bs, rfl, hs1⟩ := vsh_i hs0
  obtain rfl := vsh_n hs1
  exact dc_KI (sy_105 _ _ _ (pr_105 E hJ q1)) sy_197 hk
theorem d_106 {g : ax_G} : ∀ as z K, dcI g 198 [] as z K → ax_MM g 106 as z K := by
  rintro _ _ K ⟨bs, D, E, rfl, rfl, hs0, hJ, hk⟩
  obtain rfl := vsh_n hs0
  exact dc_KI (sy_106 _ _ _ (pr_106 E hJ )) sy_198 hk
theorem d_107 {g : ax_G} : ∀ as z K, dcI g 202 [] as z K → ax_MM g 107 as z K := by
  rintro _ _ K ⟨bs, D, E, rfl, rfl, hs0, hJ, hk⟩
  obtain rfl := vsh_n hs0
  exact dc_KI (sy_107 _ _ _ (pr_107 E hJ )) sy_202 hk
theorem d_108 {g : ax_G} : ∀ as z K, dcI g 203 [] as z K → ax_MM g 108 as z K := by
  rintro _ _ K ⟨bs, D, E, rfl, rfl, hs0, hJ, hk⟩
  obtain rfl := vsh_n hs0
  exact dc_KI (sy_108 _ _ _ (pr_108 E hJ )) sy_203 hk
theorem d_109 {g : ax_G} : ∀ as z K, dcI g 204 [0] as z K → ax_MM g 109 as z K := by
  rintro _ _ K ⟨bs, D, E, rfl, rfl, hs0, hJ, hk⟩
  obtain ⟨q1, bs, rfl, hs1⟩ := vsh_i hs0
  obtain rfl := vsh_n hs1
  exact dc_KI (sy_109 _ _ _ (pr_109 E hJ q1)) sy_204 hk
