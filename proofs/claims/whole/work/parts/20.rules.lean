/-! The state behind the constructors, and the rules by which rows are run (all of them by rfl). -/
def ax_r0l : List (List (Option Nat)) := [[some 1, some 22, none, some 43, some 50, none, some 51, some 52, some 54, some 56], [some 2, some 12, some 19, some 21, none, none], [none, some 3, some 4, some 5, some 6, none, some 7, some 8, some 9, some 10, some 11], [], [], [], [], [], [], [], [], [], [none, some 13, some 14, some 15, some 16, some 17, none, some 18], [], [], [], [], [], [], [none, some 20], [], [], [some 23, some 33, some 40, some 42, none, none], [none, some 24, some 25, some 26, some 27, none, some 28, some 29, some 30, some 31, some 32], [], [], [], [], [], [], [], [], [], [none, some 34, some 35, some 36, some 37, some 38, none, some 39], [], [], [], [], [], [], [none, some 41], [], [], [some 44, none, none, none, none, some 45, some 46, some 47, some 48, some 49], [], [], [], [], [], [], [], [], [some 53, none], [], [some 55], [], [some 57, none, none], [], [some 59, some 60, some 61, some 62, some 63, some 64, some 65, some 66, some 67, some 68, some 69, some 70, some 71, some 72, some 73, some 74, some 75, some 76, some 77, some 78, none, none, none, none, none, some 79, some 80, some 81, some 82, some 83, some 84, some 85, none, none, some 86, none, some 87, some 88, some 89, some 90, none, none, some 91, none, none, none], [], [], [], [], [], [], [], [], [], [], [], [], [], [], [], [], [], [], [], [], [], [], [], [], [], [], [], [], [], [], [], [], []]
def ax_R0 : ax_Rn := fun k j => (ax_r0l.getD k []).getD j none
def ax_S (D : ax_Dn) (E : ax_En) : ax_St := (92, D, E, ax_R0)
section AXB
variable (g : ax_G) (ret : ax_Po) (top n0 : Nat) (X : Nat → ax_Xs) (lk : Nat → List ax_Row) (ct : Nat → Bool) (n pc op a b c : Nat) (ws : List Nat) (cv : Value) (nxt : ax_Xs) (jmp : Nat → ax_Xs) (call : ax_Cl) (xt : Nat → Nat × (Nat → Int32)) (L : ax_Lo) (st : ax_Sk) (z : ax_St) (r : ax_Row) (rest : List ax_Row) (D : ax_Dn) (E : ax_En)
theorem ax_run_c : ax_rn g call ret top X lk ct (n + 1) (r :: rest) L st z = ax_sto g call ret top r (fun L st z => if ct (r.1 + ax_len r) = true then X (r.1 + ax_len r) L st z else ax_rn g call ret top X lk ct n rest L st z) (fun t L st z => if ct t = true then X t L st z else ax_rn g call ret top X lk ct n (lk t) L st z) L st z := rfl
theorem ax_stp_c : ax_sto g call ret top (pc, op, a, b, c, ws, cv) nxt jmp L st z = ax_step op a b c ws cv nxt jmp call ret (ax_xt g) top L st z := rfl
theorem ax_or_c (y k : Nat) (P : ax_P1) (l : List (Nat × ax_P1)) (as : List Value) (K : ax_Po) : ax_or g ((k, P) :: l) y as z K = if y = k then P as z K else ax_or g l y as z K := rfl
theorem ax_st0 : ax_step 0 a b c ws cv nxt jmp call ret xt top L st z = (nxt L (cv :: st) z) := rfl
theorem ax_st1 : ax_step 1 a b c ws cv nxt jmp call ret xt top L st z = (nxt L (cv :: st) z) := rfl
theorem ax_st2 : ax_step 2 a b c ws cv nxt jmp call ret xt top L st z = (nxt L (cv :: st) z) := rfl
theorem ax_st3 : ax_step 3 a b c ws cv nxt jmp call ret xt top L st z = (nxt L (cv :: st) z) := rfl
theorem ax_st4 : ax_step 4 a b c ws cv nxt jmp call ret xt top L st z = (nxt L (cv :: st) z) := rfl
theorem ax_st5 : ax_step 5 a b c ws cv nxt jmp call ret xt top L st z = (nxt L (cv :: st) z) := rfl
theorem ax_st6 : ax_step 6 a b c ws cv nxt jmp call ret xt top L st z = (nxt L (cv :: st) z) := rfl
theorem ax_st7 : ax_step 7 a b c ws cv nxt jmp call ret xt top L st z = (ax_lI L a fun x => nxt L (.int x :: st) z) := rfl
theorem ax_st8 : ax_step 8 a b c ws cv nxt jmp call ret xt top L st z = (ax_lI L a fun x => nxt L (.int x :: st) z) := rfl
theorem ax_st9 : ax_step 9 a b c ws cv nxt jmp call ret xt top L st z = (ax_lL L a fun x => nxt L (.long x :: st) z) := rfl
theorem ax_st10 : ax_step 10 a b c ws cv nxt jmp call ret xt top L st z = (ax_lL L a fun x => nxt L (.long x :: st) z) := rfl
theorem ax_st11 : ax_step 11 a b c ws cv nxt jmp call ret xt top L st z = (ax_lR L a fun x => nxt L (.ref x :: st) z) := rfl
theorem ax_st12 : ax_step 12 a b c ws cv nxt jmp call ret xt top L st z = (ax_lI L a fun x => ax_pI [cv] fun y _ => nxt (ax_s1 L a (.int (x + y))) st z) := rfl
theorem ax_st13 : ax_step 13 a b c ws cv nxt jmp call ret xt top L st z = (ax_pI st fun x r => nxt (ax_s1 L a (.int x)) r z) := rfl
theorem ax_st14 : ax_step 14 a b c ws cv nxt jmp call ret xt top L st z = (ax_pI st fun x r => nxt (ax_s1 L a (.int x)) r z) := rfl
theorem ax_st15 : ax_step 15 a b c ws cv nxt jmp call ret xt top L st z = (ax_pL st fun x r => nxt (ax_s2 L a (.long x)) r z) := rfl
theorem ax_st16 : ax_step 16 a b c ws cv nxt jmp call ret xt top L st z = (ax_pL st fun x r => nxt (ax_s2 L a (.long x)) r z) := rfl
theorem ax_st17 : ax_step 17 a b c ws cv nxt jmp call ret xt top L st z = (ax_pR st fun x r => nxt (ax_s1 L a (.ref x)) r z) := rfl
theorem ax_st18 : ax_step 18 a b c ws cv nxt jmp call ret xt top L st z = (ax_pI st fun y r => ax_pI r fun x r => nxt L (.int (x + y) :: r) z) := rfl
theorem ax_st19 : ax_step 19 a b c ws cv nxt jmp call ret xt top L st z = (ax_pI st fun y r => ax_pI r fun x r => nxt L (.int (x - y) :: r) z) := rfl
theorem ax_st20 : ax_step 20 a b c ws cv nxt jmp call ret xt top L st z = (ax_pI st fun y r => ax_pI r fun x r => nxt L (.int (x * y) :: r) z) := rfl
theorem ax_st21 : ax_step 21 a b c ws cv nxt jmp call ret xt top L st z = (ax_pI st fun y r => ax_pI r fun x r => ¬ y = 0 ∧ nxt L (.int (x / y) :: r) z) := rfl
theorem ax_st22 : ax_step 22 a b c ws cv nxt jmp call ret xt top L st z = (ax_pI st fun y r => ax_pI r fun x r => ¬ y = 0 ∧ nxt L (.int (x - x / y * y) :: r) z) := rfl
theorem ax_st23 : ax_step 23 a b c ws cv nxt jmp call ret xt top L st z = (ax_pI st fun x r => nxt L (.int (-x) :: r) z) := rfl
theorem ax_st24 : ax_step 24 a b c ws cv nxt jmp call ret xt top L st z = (ax_pI st fun y r => ax_pI r fun x r => nxt L (.int (x &&& y) :: r) z) := rfl
theorem ax_st25 : ax_step 25 a b c ws cv nxt jmp call ret xt top L st z = (ax_pI st fun y r => ax_pI r fun x r => nxt L (.int (x ||| y) :: r) z) := rfl
theorem ax_st26 : ax_step 26 a b c ws cv nxt jmp call ret xt top L st z = (ax_pI st fun y r => ax_pI r fun x r => nxt L (.int (x ^^^ y) :: r) z) := rfl
theorem ax_st27 : ax_step 27 a b c ws cv nxt jmp call ret xt top L st z = (ax_pI st fun y r => ax_pI r fun x r => nxt L (.int (x <<< (y &&& 31)) :: r) z) := rfl
theorem ax_st28 : ax_step 28 a b c ws cv nxt jmp call ret xt top L st z = (ax_pI st fun y r => ax_pI r fun x r => nxt L (.int (x >>> (y &&& 31)) :: r) z) := rfl
theorem ax_st29 : ax_step 29 a b c ws cv nxt jmp call ret xt top L st z = (ax_pL st fun y r => ax_pL r fun x r => nxt L (.long (x + y) :: r) z) := rfl
theorem ax_st30 : ax_step 30 a b c ws cv nxt jmp call ret xt top L st z = (ax_pL st fun y r => ax_pL r fun x r => nxt L (.long (x - y) :: r) z) := rfl
theorem ax_st31 : ax_step 31 a b c ws cv nxt jmp call ret xt top L st z = (ax_pL st fun y r => ax_pL r fun x r => nxt L (.long (x * y) :: r) z) := rfl
theorem ax_st32 : ax_step 32 a b c ws cv nxt jmp call ret xt top L st z = (ax_pL st fun y r => ax_pL r fun x r => ¬ y = 0 ∧ nxt L (.long (x / y) :: r) z) := rfl
theorem ax_st33 : ax_step 33 a b c ws cv nxt jmp call ret xt top L st z = (ax_pL st fun y r => ax_pL r fun x r => ¬ y = 0 ∧ nxt L (.long (x - x / y * y) :: r) z) := rfl
theorem ax_st34 : ax_step 34 a b c ws cv nxt jmp call ret xt top L st z = (ax_pL st fun y r => ax_pL r fun x r => nxt L (.long (x &&& y) :: r) z) := rfl
theorem ax_st35 : ax_step 35 a b c ws cv nxt jmp call ret xt top L st z = (ax_pL st fun y r => ax_pL r fun x r => nxt L (.long (x ||| y) :: r) z) := rfl
theorem ax_st36 : ax_step 36 a b c ws cv nxt jmp call ret xt top L st z = (ax_pI st fun y r => ax_pL r fun x r => nxt L (.long (x <<< (y.toInt64 &&& 63)) :: r) z) := rfl
theorem ax_st37 : ax_step 37 a b c ws cv nxt jmp call ret xt top L st z = (ax_pI st fun y r => ax_pL r fun x r => nxt L (.long (x >>> (y.toInt64 &&& 63)) :: r) z) := rfl
theorem ax_st38 : ax_step 38 a b c ws cv nxt jmp call ret xt top L st z = (ax_pI st fun y r => ax_pL r fun x r => nxt L (.long (x.toUInt64 >>> (y.toInt64.toUInt64 &&& Int64.toUInt64 63)).toInt64 :: r) z) := rfl
theorem ax_st39 : ax_step 39 a b c ws cv nxt jmp call ret xt top L st z = (ax_pL st fun y r => ax_pL r fun x r => nxt L (.int (lg_cmp x y) :: r) z) := rfl
theorem ax_st40 : ax_step 40 a b c ws cv nxt jmp call ret xt top L st z = (ax_pI st fun x r => nxt L (.long x.toInt64 :: r) z) := rfl
theorem ax_st41 : ax_step 41 a b c ws cv nxt jmp call ret xt top L st z = (ax_pL st fun x r => nxt L (.int x.toInt32 :: r) z) := rfl
theorem ax_st42 : ax_step 42 a b c ws cv nxt jmp call ret xt top L st z = (ax_p1 st fun v r => nxt L (v :: v :: r) z) := rfl
theorem ax_st44 : ax_step 44 a b c ws cv nxt jmp call ret xt top L st z = (ax_p1 st fun _ r => nxt L r z) := rfl
theorem ax_st45 : ax_step 45 a b c ws cv nxt jmp call ret xt top L st z = (ax_pI st fun y r => ax_pR r fun x r => nxt L (.int y :: .ref x :: .int y :: .ref x :: r) z) := rfl
theorem ax_st46 : ax_step 46 a b c ws cv nxt jmp call ret xt top L st z = (ax_pL st fun _ r => nxt L r z) := rfl
theorem ax_st47 : ax_step 47 a b c ws cv nxt jmp call ret xt top L st z = (ax_pI st fun x r => (x = 0 → jmp a L r z) ∧ (¬ x = 0 → nxt L r z)) := rfl
theorem ax_st48 : ax_step 48 a b c ws cv nxt jmp call ret xt top L st z = (ax_pI st fun x r => (¬ x = 0 → jmp a L r z) ∧ (x = 0 → nxt L r z)) := rfl
theorem ax_st49 : ax_step 49 a b c ws cv nxt jmp call ret xt top L st z = (ax_pI st fun x r => (x < 0 → jmp a L r z) ∧ (¬ x < 0 → nxt L r z)) := rfl
theorem ax_st50 : ax_step 50 a b c ws cv nxt jmp call ret xt top L st z = (ax_pI st fun x r => (0 ≤ x → jmp a L r z) ∧ (¬ 0 ≤ x → nxt L r z)) := rfl
theorem ax_st51 : ax_step 51 a b c ws cv nxt jmp call ret xt top L st z = (ax_pI st fun x r => (0 < x → jmp a L r z) ∧ (¬ 0 < x → nxt L r z)) := rfl
theorem ax_st52 : ax_step 52 a b c ws cv nxt jmp call ret xt top L st z = (ax_pI st fun x r => (x ≤ 0 → jmp a L r z) ∧ (¬ x ≤ 0 → nxt L r z)) := rfl
theorem ax_st53 : ax_step 53 a b c ws cv nxt jmp call ret xt top L st z = (ax_pI st fun y r => ax_pI r fun x r => (x = y → jmp a L r z) ∧ (¬ x = y → nxt L r z)) := rfl
theorem ax_st54 : ax_step 54 a b c ws cv nxt jmp call ret xt top L st z = (ax_pI st fun y r => ax_pI r fun x r => (¬ x = y → jmp a L r z) ∧ (x = y → nxt L r z)) := rfl
theorem ax_st55 : ax_step 55 a b c ws cv nxt jmp call ret xt top L st z = (ax_pI st fun y r => ax_pI r fun x r => (x < y → jmp a L r z) ∧ (¬ x < y → nxt L r z)) := rfl
theorem ax_st56 : ax_step 56 a b c ws cv nxt jmp call ret xt top L st z = (ax_pI st fun y r => ax_pI r fun x r => (y ≤ x → jmp a L r z) ∧ (¬ y ≤ x → nxt L r z)) := rfl
theorem ax_st57 : ax_step 57 a b c ws cv nxt jmp call ret xt top L st z = (ax_pI st fun y r => ax_pI r fun x r => (y < x → jmp a L r z) ∧ (¬ y < x → nxt L r z)) := rfl
theorem ax_st58 : ax_step 58 a b c ws cv nxt jmp call ret xt top L st z = (ax_pI st fun y r => ax_pI r fun x r => (x ≤ y → jmp a L r z) ∧ (¬ x ≤ y → nxt L r z)) := rfl
theorem ax_st59 : ax_step 59 a b c ws cv nxt jmp call ret xt top L st z = (jmp a L st z) := rfl
theorem ax_st60 : ax_step 60 a b c ws cv nxt jmp call ret xt top L st z = (ax_pI st fun x r => ax_sw x a (fun t => jmp t L r z) (ax_prs ws)) := rfl
theorem ax_st61 : ax_step 61 a b c ws cv nxt jmp call ret xt top L st z = (ax_pI st fun x r => ax_sw x a (fun t => jmp t L r z) (ax_prs ws)) := rfl
theorem ax_st62 : ax_step 62 a b c ws cv nxt jmp call ret xt top L st z = (ax_pR st fun k r => k < z.1 ∧ (ax_kd k).1 = a ∧ nxt L (ax_gv z k b c :: r) z) := rfl
theorem ax_st63 : ax_step 63 a b c ws cv nxt jmp call ret xt top L st z = (ax_pI st fun v r => ax_pR r fun k r => k < z.1 ∧ (ax_kd k).1 = a ∧ nxt L r (ax_d1 z k b v)) := rfl
theorem ax_st64 : ax_step 64 a b c ws cv nxt jmp call ret xt top L st z = (ax_pI st fun v r => ax_pR r fun k r => k < z.1 ∧ (ax_kd k).1 = a ∧ (v = 0 ∨ v = 1) ∧ nxt L r (ax_d1 z k b v)) := rfl
theorem ax_st65 : ax_step 65 a b c ws cv nxt jmp call ret xt top L st z = (ax_pL st fun v r => ax_pR r fun k r => k < z.1 ∧ (ax_kd k).1 = a ∧ nxt L r (ax_e1 z k b v)) := rfl
theorem ax_st66 : ax_step 66 a b c ws cv nxt jmp call ret xt top L st z = (ax_pR st fun v r => ax_pR r fun k r => k < z.1 ∧ (ax_kd k).1 = a ∧ nxt L r (ax_r1 z k b (some v))) := rfl
theorem ax_st67 : ax_step 67 a b c ws cv nxt jmp call ret xt top L st z = (ax_pI st fun i r => ax_pR r fun k r => ax_ia z xt k fun n f => vp_in i n ∧ nxt L (.int (f i.toNatClampNeg) :: r) z) := rfl
theorem ax_st68 : ax_step 68 a b c ws cv nxt jmp call ret xt top L st z = (ax_pI st fun v r => ax_pI r fun i r => ax_pR r fun k r => k < z.1 ∧ (ax_kd k).1 = 10 ∧ vp_in i (ax_kd k).2 ∧ nxt L r (ax_d1 z k i.toNatClampNeg v)) := rfl
theorem ax_st69 : ax_step 69 a b c ws cv nxt jmp call ret xt top L st z = (ax_pI st fun i r => ax_pR r fun k r => k < z.1 ∧ (ax_kd k).1 = 11 ∧ vp_in i (ax_kd k).2 ∧ nxt L (.long (z.2.2.1 k i.toNatClampNeg) :: r) z) := rfl
theorem ax_st70 : ax_step 70 a b c ws cv nxt jmp call ret xt top L st z = (ax_pL st fun v r => ax_pI r fun i r => ax_pR r fun k r => k < z.1 ∧ (ax_kd k).1 = 11 ∧ vp_in i (ax_kd k).2 ∧ nxt L r (ax_e1 z k i.toNatClampNeg v)) := rfl
theorem ax_st71 : ax_step 71 a b c ws cv nxt jmp call ret xt top L st z = (ax_pR st fun k r => if k < 1000 then k < z.1 ∧ ((ax_kd k).1 = 10 ∨ (ax_kd k).1 = 11) ∧ nxt L (.int (Int32.ofNat (ax_kd k).2) :: r) z else k < 1003 ∧ nxt L (.int (Int32.ofNat (xt k).1) :: r) z) := rfl
theorem ax_st72 : ax_step 72 a b c ws cv nxt jmp call ret xt top L st z = (nxt L (.ref a :: st) z) := rfl
theorem ax_st73 : ax_step 73 a b c ws cv nxt jmp call ret xt top L st z = (ax_tk b st [] fun as r => ax_pR r fun k r => k < z.1 ∧ (ax_kd k).1 = c ∧ ax_cs r ≤ 8 ∧ z.1 + ax_mc a ≤ top ∧ call a (.ref k :: as) z (fun v z' => nxt L (v.toList ++ r) z')) := rfl
theorem ax_st74 : ax_step 74 a b c ws cv nxt jmp call ret xt top L st z = (ax_tk b st [] fun as r => ax_cs r ≤ 8 ∧ z.1 + ax_mc a ≤ top ∧ call a as z (fun v z' => nxt L (v.toList ++ r) z')) := rfl
theorem ax_st75 : ax_step 75 a b c ws cv nxt jmp call ret xt top L st z = (ax_pR st fun k r => ax_cs r ≤ 8 ∧ z.1 + ax_mc a ≤ top ∧ call a [.ref k] z (fun v z' => nxt L (v.toList ++ r) z')) := rfl
theorem ax_st76 : ax_step 76 a b c ws cv nxt jmp call ret xt top L st z = (ax_pR st fun k r => ax_cs r ≤ 8 ∧ z.1 + ax_mc a ≤ top ∧ call a [.ref k] z (fun v z' => nxt L (v.toList ++ r) z')) := rfl
theorem ax_st77 : ax_step 77 a b c ws cv nxt jmp call ret xt top L st z = (ax_pR st fun _ r => ax_cs r ≤ 8 ∧ nxt L r z) := rfl
theorem ax_st78 : ax_step 78 a b c ws cv nxt jmp call ret xt top L st z = (ax_pI st fun n r => ax_pI r fun dp r => ax_pR r fun k1 r => ax_pI r fun sp r => ax_pR r fun k0 r => k0 < z.1 ∧ k1 < z.1 ∧ (ax_kd k0).1 = 10 ∧ (ax_kd k1).1 = 10 ∧ ¬ sp < 0 ∧ ¬ dp < 0 ∧ ¬ n < 0 ∧ sp.toNatClampNeg + n.toNatClampNeg ≤ (ax_kd k0).2 ∧ dp.toNatClampNeg + n.toNatClampNeg ≤ (ax_kd k1).2 ∧ ax_cs r ≤ 8 ∧ nxt L r (ax_dr z k1 (va_cpy (z.2.1 k0) (z.2.1 k1) sp.toNatClampNeg dp.toNatClampNeg n.toNatClampNeg))) := rfl
theorem ax_st79 : ax_step 79 a b c ws cv nxt jmp call ret xt top L st z = (z.1 + 1 ≤ top ∧ z.1 < 92 ∧ ax_kd z.1 = (a, b) ∧ nxt L (.ref z.1 :: st) (ax_nw z)) := rfl
theorem ax_st80 : ax_step 80 a b c ws cv nxt jmp call ret xt top L st z = (ax_pI st fun n r => z.1 + 1 ≤ top ∧ z.1 < 92 ∧ ¬ n < 0 ∧ ax_kd z.1 = (10, n.toNatClampNeg) ∧ nxt L (.ref z.1 :: r) (ax_nw z)) := rfl
theorem ax_st81 : ax_step 81 a b c ws cv nxt jmp call ret xt top L st z = (ax_pI st fun n r => z.1 + 1 ≤ top ∧ z.1 < 92 ∧ ¬ n < 0 ∧ ax_kd z.1 = (11, n.toNatClampNeg) ∧ nxt L (.ref z.1 :: r) (ax_nw z)) := rfl
theorem ax_st82 : ax_step 82 a b c ws cv nxt jmp call ret xt top L st z = (ax_pI st fun v r => r = [] ∧ z.1 = top ∧ ret (some (.int v)) z) := rfl
theorem ax_st83 : ax_step 83 a b c ws cv nxt jmp call ret xt top L st z = (ax_pI st fun v r => r = [] ∧ z.1 = top ∧ (v = 0 ∨ v = 1) ∧ ret (some (.int v)) z) := rfl
theorem ax_st84 : ax_step 84 a b c ws cv nxt jmp call ret xt top L st z = (ax_pL st fun v r => r = [] ∧ z.1 = top ∧ ret (some (.long v)) z) := rfl
theorem ax_st85 : ax_step 85 a b c ws cv nxt jmp call ret xt top L st z = (st = [] ∧ z.1 = top ∧ ret none z) := rfl
theorem ax_st86 : ax_step 86 a b c ws cv nxt jmp call ret xt top L st z = (ax_pI st fun y r => ax_pI r fun x r => ax_cs r ≤ 8 ∧ z.1 ≤ top ∧ nxt L (.int (if x < y then y else x) :: r) z) := rfl
theorem ax_st87 : ax_step 87 a b c ws cv nxt jmp call ret xt top L st z = (ax_pI st fun y r => ax_pI r fun x r => ax_cs r ≤ 8 ∧ z.1 ≤ top ∧ nxt L (.int (if y < x then y else x) :: r) z) := rfl
theorem ax_st88 : ax_step 88 a b c ws cv nxt jmp call ret xt top L st z = (ax_pI st fun x r => ax_cs r ≤ 8 ∧ z.1 ≤ top ∧ nxt L (.int (if 0 ≤ x then x else 0 - x) :: r) z) := rfl
theorem ax_st89 : ax_step 89 a b c ws cv nxt jmp call ret xt top L st z = (ax_pL st fun y r => ax_pL r fun x r => ax_cs r ≤ 8 ∧ z.1 ≤ top ∧ nxt L (.long (if y < x then x else y) :: r) z) := rfl
theorem ax_st90 : ax_step 90 a b c ws cv nxt jmp call ret xt top L st z = (ax_pL st fun y r => ax_pL r fun x r => ax_cs r ≤ 8 ∧ z.1 ≤ top ∧ nxt L (.long (if y < x then y else x) :: r) z) := rfl
theorem ax_st91 : ax_step 91 a b c ws cv nxt jmp call ret xt top L st z = (ax_pL st fun x r => ax_cs r ≤ 8 ∧ z.1 ≤ top ∧ nxt L (.long (if 0 < x then x else -x) :: r) z) := rfl
theorem ax_ln0 : ax_len (pc, 0, a, b, c, ws, cv) = 1 := rfl
theorem ax_ln1 : ax_len (pc, 1, a, b, c, ws, cv) = 2 := rfl
theorem ax_ln2 : ax_len (pc, 2, a, b, c, ws, cv) = 3 := rfl
theorem ax_ln3 : ax_len (pc, 3, a, b, c, ws, cv) = 2 := rfl
theorem ax_ln4 : ax_len (pc, 4, a, b, c, ws, cv) = 3 := rfl
theorem ax_ln5 : ax_len (pc, 5, a, b, c, ws, cv) = 1 := rfl
theorem ax_ln6 : ax_len (pc, 6, a, b, c, ws, cv) = 3 := rfl
theorem ax_ln7 : ax_len (pc, 7, a, b, c, ws, cv) = 1 := rfl
theorem ax_ln8 : ax_len (pc, 8, a, b, c, ws, cv) = 2 := rfl
theorem ax_ln9 : ax_len (pc, 9, a, b, c, ws, cv) = 1 := rfl
theorem ax_ln10 : ax_len (pc, 10, a, b, c, ws, cv) = 2 := rfl
theorem ax_ln11 : ax_len (pc, 11, a, b, c, ws, cv) = 1 := rfl
theorem ax_ln12 : ax_len (pc, 12, a, b, c, ws, cv) = 3 := rfl
theorem ax_ln13 : ax_len (pc, 13, a, b, c, ws, cv) = 1 := rfl
theorem ax_ln14 : ax_len (pc, 14, a, b, c, ws, cv) = 2 := rfl
theorem ax_ln15 : ax_len (pc, 15, a, b, c, ws, cv) = 1 := rfl
theorem ax_ln16 : ax_len (pc, 16, a, b, c, ws, cv) = 2 := rfl
theorem ax_ln17 : ax_len (pc, 17, a, b, c, ws, cv) = 1 := rfl
theorem ax_ln18 : ax_len (pc, 18, a, b, c, ws, cv) = 1 := rfl
theorem ax_ln19 : ax_len (pc, 19, a, b, c, ws, cv) = 1 := rfl
theorem ax_ln20 : ax_len (pc, 20, a, b, c, ws, cv) = 1 := rfl
theorem ax_ln21 : ax_len (pc, 21, a, b, c, ws, cv) = 1 := rfl
theorem ax_ln22 : ax_len (pc, 22, a, b, c, ws, cv) = 1 := rfl
theorem ax_ln23 : ax_len (pc, 23, a, b, c, ws, cv) = 1 := rfl
theorem ax_ln24 : ax_len (pc, 24, a, b, c, ws, cv) = 1 := rfl
theorem ax_ln25 : ax_len (pc, 25, a, b, c, ws, cv) = 1 := rfl
theorem ax_ln26 : ax_len (pc, 26, a, b, c, ws, cv) = 1 := rfl
theorem ax_ln27 : ax_len (pc, 27, a, b, c, ws, cv) = 1 := rfl
theorem ax_ln28 : ax_len (pc, 28, a, b, c, ws, cv) = 1 := rfl
theorem ax_ln29 : ax_len (pc, 29, a, b, c, ws, cv) = 1 := rfl
theorem ax_ln30 : ax_len (pc, 30, a, b, c, ws, cv) = 1 := rfl
theorem ax_ln31 : ax_len (pc, 31, a, b, c, ws, cv) = 1 := rfl
theorem ax_ln32 : ax_len (pc, 32, a, b, c, ws, cv) = 1 := rfl
theorem ax_ln33 : ax_len (pc, 33, a, b, c, ws, cv) = 1 := rfl
theorem ax_ln34 : ax_len (pc, 34, a, b, c, ws, cv) = 1 := rfl
theorem ax_ln35 : ax_len (pc, 35, a, b, c, ws, cv) = 1 := rfl
theorem ax_ln36 : ax_len (pc, 36, a, b, c, ws, cv) = 1 := rfl
theorem ax_ln37 : ax_len (pc, 37, a, b, c, ws, cv) = 1 := rfl
theorem ax_ln38 : ax_len (pc, 38, a, b, c, ws, cv) = 1 := rfl
theorem ax_ln39 : ax_len (pc, 39, a, b, c, ws, cv) = 1 := rfl
theorem ax_ln40 : ax_len (pc, 40, a, b, c, ws, cv) = 1 := rfl
theorem ax_ln41 : ax_len (pc, 41, a, b, c, ws, cv) = 1 := rfl
theorem ax_ln42 : ax_len (pc, 42, a, b, c, ws, cv) = 1 := rfl
theorem ax_ln44 : ax_len (pc, 44, a, b, c, ws, cv) = 1 := rfl
theorem ax_ln45 : ax_len (pc, 45, a, b, c, ws, cv) = 1 := rfl
theorem ax_ln46 : ax_len (pc, 46, a, b, c, ws, cv) = 1 := rfl
theorem ax_ln47 : ax_len (pc, 47, a, b, c, ws, cv) = 3 := rfl
theorem ax_ln48 : ax_len (pc, 48, a, b, c, ws, cv) = 3 := rfl
theorem ax_ln49 : ax_len (pc, 49, a, b, c, ws, cv) = 3 := rfl
theorem ax_ln50 : ax_len (pc, 50, a, b, c, ws, cv) = 3 := rfl
theorem ax_ln51 : ax_len (pc, 51, a, b, c, ws, cv) = 3 := rfl
theorem ax_ln52 : ax_len (pc, 52, a, b, c, ws, cv) = 3 := rfl
theorem ax_ln53 : ax_len (pc, 53, a, b, c, ws, cv) = 3 := rfl
theorem ax_ln54 : ax_len (pc, 54, a, b, c, ws, cv) = 3 := rfl
theorem ax_ln55 : ax_len (pc, 55, a, b, c, ws, cv) = 3 := rfl
theorem ax_ln56 : ax_len (pc, 56, a, b, c, ws, cv) = 3 := rfl
theorem ax_ln57 : ax_len (pc, 57, a, b, c, ws, cv) = 3 := rfl
theorem ax_ln58 : ax_len (pc, 58, a, b, c, ws, cv) = 3 := rfl
theorem ax_ln59 : ax_len (pc, 59, a, b, c, ws, cv) = 3 := rfl
theorem ax_ln60 : ax_len (pc, 60, a, b, c, ws, cv) = c := rfl
theorem ax_ln61 : ax_len (pc, 61, a, b, c, ws, cv) = c := rfl
theorem ax_ln62 : ax_len (pc, 62, a, b, c, ws, cv) = 3 := rfl
theorem ax_ln63 : ax_len (pc, 63, a, b, c, ws, cv) = 3 := rfl
theorem ax_ln64 : ax_len (pc, 64, a, b, c, ws, cv) = 3 := rfl
theorem ax_ln65 : ax_len (pc, 65, a, b, c, ws, cv) = 3 := rfl
theorem ax_ln66 : ax_len (pc, 66, a, b, c, ws, cv) = 3 := rfl
theorem ax_ln67 : ax_len (pc, 67, a, b, c, ws, cv) = 1 := rfl
theorem ax_ln68 : ax_len (pc, 68, a, b, c, ws, cv) = 1 := rfl
theorem ax_ln69 : ax_len (pc, 69, a, b, c, ws, cv) = 1 := rfl
theorem ax_ln70 : ax_len (pc, 70, a, b, c, ws, cv) = 1 := rfl
theorem ax_ln71 : ax_len (pc, 71, a, b, c, ws, cv) = 1 := rfl
theorem ax_ln72 : ax_len (pc, 72, a, b, c, ws, cv) = 3 := rfl
theorem ax_ln73 : ax_len (pc, 73, a, b, c, ws, cv) = 3 := rfl
theorem ax_ln74 : ax_len (pc, 74, a, b, c, ws, cv) = 3 := rfl
theorem ax_ln75 : ax_len (pc, 75, a, b, c, ws, cv) = 3 := rfl
theorem ax_ln76 : ax_len (pc, 76, a, b, c, ws, cv) = 3 := rfl
theorem ax_ln77 : ax_len (pc, 77, a, b, c, ws, cv) = 3 := rfl
theorem ax_ln78 : ax_len (pc, 78, a, b, c, ws, cv) = 3 := rfl
theorem ax_ln79 : ax_len (pc, 79, a, b, c, ws, cv) = 3 := rfl
theorem ax_ln80 : ax_len (pc, 80, a, b, c, ws, cv) = 2 := rfl
theorem ax_ln81 : ax_len (pc, 81, a, b, c, ws, cv) = 2 := rfl
theorem ax_ln82 : ax_len (pc, 82, a, b, c, ws, cv) = 1 := rfl
theorem ax_ln83 : ax_len (pc, 83, a, b, c, ws, cv) = 1 := rfl
theorem ax_ln84 : ax_len (pc, 84, a, b, c, ws, cv) = 1 := rfl
theorem ax_ln85 : ax_len (pc, 85, a, b, c, ws, cv) = 1 := rfl
theorem ax_ln86 : ax_len (pc, 86, a, b, c, ws, cv) = 3 := rfl
theorem ax_ln87 : ax_len (pc, 87, a, b, c, ws, cv) = 3 := rfl
theorem ax_ln88 : ax_len (pc, 88, a, b, c, ws, cv) = 3 := rfl
theorem ax_ln89 : ax_len (pc, 89, a, b, c, ws, cv) = 3 := rfl
theorem ax_ln90 : ax_len (pc, 90, a, b, c, ws, cv) = 3 := rfl
theorem ax_ln91 : ax_len (pc, 91, a, b, c, ws, cv) = 3 := rfl
end AXB
section AXC
variable (x : Int32) (y : Int64) (k j i n : Nat) (r : ax_Sk) (l : ax_Lo) (v w : Value) (o : Option Value) (f : Int32 → ax_Sk → Prop) (fl : Int64 → ax_Sk → Prop) (fr : Nat → ax_Sk → Prop) (fv : Value → ax_Sk → Prop) (fi : Int32 → Prop) (fj : Int64 → Prop) (fk : Nat → Prop) (D : ax_Dn) (E : ax_En) (acc : List Value) (ft : List Value → ax_Sk → Prop) (d : Nat) (jm : Nat → Prop) (ps : List (Nat × Nat)) (t : Nat) (wl : List Nat) (F : Nat → (Nat → Int32) → Prop) (xt : Nat → Nat × (Nat → Int32))
theorem ax_q1 : ax_pI (.int x :: r) f = f x r := rfl
theorem ax_q2 : ax_pL (.long y :: r) fl = fl y r := rfl
theorem ax_q3 : ax_pR (.ref k :: r) fr = fr k r := rfl
theorem ax_q4 : ax_p1 (.int x :: r) fv = fv (.int x) r := rfl
theorem ax_q5 : ax_p1 (.ref k :: r) fv = fv (.ref k) r := rfl
theorem ax_q6 : ax_lI (some (.int x) :: l) 0 fi = fi x := rfl
theorem ax_q7 : ax_lI (o :: l) (n + 1) fi = ax_lI l n fi := rfl
theorem ax_q8 : ax_lL (some (.long y) :: l) 0 fj = fj y := rfl
theorem ax_q9 : ax_lL (o :: l) (n + 1) fj = ax_lL l n fj := rfl
theorem ax_q10 : ax_lR (some (.ref k) :: l) 0 fk = fk k := rfl
theorem ax_q11 : ax_lR (o :: l) (n + 1) fk = ax_lR l n fk := rfl
theorem ax_q12 : ax_s1 (o :: l) 0 v = some v :: l := by cases l <;> rfl
theorem ax_q13 : ax_s1 (o :: l) 1 v = ax_cb o :: ax_s1 l 0 v := by cases l <;> rfl
theorem ax_q14 : ax_s1 (o :: l) (n + 2) v = o :: ax_s1 l (n + 1) v := by cases l <;> rfl
theorem ax_q15 (o2 : Option Value) : ax_s2 (o :: o2 :: l) 0 v = some v :: none :: l := rfl
theorem ax_q16 : ax_s2 (o :: l) 1 v = ax_cb o :: ax_s2 l 0 v := by cases l <;> rfl
theorem ax_q17 : ax_s2 (o :: l) (n + 2) v = o :: ax_s2 l (n + 1) v := by cases l <;> rfl
theorem ax_q18 : ax_cb none = none := rfl
theorem ax_q19 : ax_cb (some (.int x)) = some (.int x) := rfl
theorem ax_q20 : ax_cb (some (.ref k)) = some (.ref k) := rfl
theorem ax_q21 : ax_cb (some (.long y)) = none := rfl
theorem ax_q22 : ax_cs [] = 0 := rfl
theorem ax_q23 : ax_cs (.int x :: r) = ax_cs r + 1 := rfl
theorem ax_q24 : ax_cs (.ref k :: r) = ax_cs r + 1 := rfl
theorem ax_q25 : ax_cs (.long y :: r) = ax_cs r + 2 := rfl
theorem ax_q26 : ax_tk 0 r acc ft = ft acc r := rfl
theorem ax_q27 : ax_tk (n + 1) (v :: r) acc ft = ax_tk n r (v :: acc) ft := rfl
theorem ax_q28 : ax_gv (ax_S D E) k j 0 = .int (D k j) := rfl
theorem ax_q29 : ax_gv (ax_S D E) k j 1 = .long (E k j) := rfl
theorem ax_q30 : ax_gv (ax_S D E) k j 3 = .int (D k j) := rfl
theorem ax_q31 : (ax_S D E).1 = 92 := rfl
theorem ax_q32 : (ax_S D E).2.1 = D := rfl
theorem ax_q33 : (ax_S D E).2.2.1 = E := rfl
theorem ax_q34 : ax_d1 (ax_S D E) k j x = ax_S (ax_up D k (ax_up (D k) j x)) E := rfl
theorem ax_q35 : ax_e1 (ax_S D E) k j y = ax_S D (ax_up E k (ax_up (E k) j y)) := rfl
theorem ax_q36 (h : Nat → Int32) : ax_dr (ax_S D E) k h = ax_S (ax_up D k h) E := rfl
theorem ax_q37 : (Option.toList (some v) ++ r) = v :: r := rfl
theorem ax_q38 : (Option.toList (none : Option Value) ++ r) = r := rfl
theorem ax_q39 : ax_sw x d jm [] = jm d := rfl
theorem ax_q40 : ax_sw x d jm ((k, t) :: ps) = ((x = Int32.ofNat k → jm t) ∧ (¬ x = Int32.ofNat k → ax_sw x d jm ps)) := rfl
theorem ax_q41 : ax_prs (k :: t :: wl) = (k, t) :: ax_prs wl := rfl
theorem ax_q42 : ax_prs [] = [] := rfl
theorem ax_q43 : (Int32.ofNat (OfNat.ofNat k)) = OfNat.ofNat k := rfl
theorem ax_up_ap {α : Type} (h : Nat → α) (u : α) : ax_up h k u j = if j = k then u else h j := rfl
theorem ax_up_up {α : Type} (h : Nat → α) (u u' : α) : ax_up (ax_up h k u) k u' = ax_up h k u' := by
  funext a
  unfold ax_up
  split <;> rfl
theorem ax_up_sw {α : Type} (h : Nat → α) (u u' : α) (hj : j < k) : ax_up (ax_up h k u) j u' = ax_up (ax_up h j u') k u := by
  funext a
  unfold ax_up
  by_cases h1 : a = j
  · subst h1
    rw [if_pos rfl, if_neg (by omega), if_pos rfl]
  · rw [if_neg h1]
    by_cases h2 : a = k
    · rw [if_pos h2, if_pos h2]
    · rw [if_neg h2, if_neg h2, if_neg h1]
theorem ax_up_id {α : Type} (h : Nat → α) : ax_up h k (h k) = h := by
  funext a
  unfold ax_up
  split
  · rename_i e; rw [e]
  · rfl
theorem ax_vinL (a : Nat) : vp_in (no_index (OfNat.ofNat a : Int32)) n = (¬ (OfNat.ofNat a : Int32) < 0 ∧ ¬ n ≤ (OfNat.ofNat a : Int32).toNatClampNeg) := by
  unfold vp_in
  rw [not_or]
theorem ax_ia_S (hk : k < 92) : ax_ia (ax_S D E) xt k F = ((ax_kd k).1 = 10 ∧ F (ax_kd k).2 (D k)) := by
  unfold ax_ia
  rw [if_pos (by omega)]
  simp only [ax_q31, ax_q32, hk, true_and]
theorem ax_ia_X (hk : 1000 ≤ k) (hk2 : k < 1003) (z : ax_St) : ax_ia z xt k F = F (xt k).1 (xt k).2 := by
  unfold ax_ia
  rw [if_neg (by omega)]
  simp only [hk2, true_and]
end AXC
theorem ax_kd0 : ax_kd 0 = (8, 10) := rfl
theorem ax_kd1 : ax_kd 1 = (2, 6) := rfl
theorem ax_kd2 : ax_kd 2 = (6, 11) := rfl
theorem ax_kd3 : ax_kd 3 = (10, 6) := rfl
theorem ax_kd4 : ax_kd 4 = (10, 6) := rfl
theorem ax_kd5 : ax_kd 5 = (10, 10) := rfl
theorem ax_kd6 : ax_kd 6 = (10, 10) := rfl
theorem ax_kd7 : ax_kd 7 = (10, 20) := rfl
theorem ax_kd8 : ax_kd 8 = (10, 20) := rfl
theorem ax_kd9 : ax_kd 9 = (10, 20) := rfl
theorem ax_kd10 : ax_kd 10 = (10, 20) := rfl
theorem ax_kd11 : ax_kd 11 = (10, 20) := rfl
theorem ax_kd12 : ax_kd 12 = (5, 8) := rfl
theorem ax_kd13 : ax_kd 13 = (10, 30) := rfl
theorem ax_kd14 : ax_kd 14 = (10, 30) := rfl
theorem ax_kd15 : ax_kd 15 = (10, 30) := rfl
theorem ax_kd16 : ax_kd 16 = (10, 30) := rfl
theorem ax_kd17 : ax_kd 17 = (10, 30) := rfl
theorem ax_kd18 : ax_kd 18 = (10, 5) := rfl
theorem ax_kd19 : ax_kd 19 = (3, 2) := rfl
theorem ax_kd20 : ax_kd 20 = (10, 40) := rfl
theorem ax_kd21 : ax_kd 21 = (10, 5) := rfl
theorem ax_kd22 : ax_kd 22 = (2, 6) := rfl
theorem ax_kd23 : ax_kd 23 = (6, 11) := rfl
theorem ax_kd24 : ax_kd 24 = (10, 6) := rfl
theorem ax_kd25 : ax_kd 25 = (10, 6) := rfl
theorem ax_kd26 : ax_kd 26 = (10, 10) := rfl
theorem ax_kd27 : ax_kd 27 = (10, 10) := rfl
theorem ax_kd28 : ax_kd 28 = (10, 20) := rfl
theorem ax_kd29 : ax_kd 29 = (10, 20) := rfl
theorem ax_kd30 : ax_kd 30 = (10, 20) := rfl
theorem ax_kd31 : ax_kd 31 = (10, 20) := rfl
theorem ax_kd32 : ax_kd 32 = (10, 20) := rfl
theorem ax_kd33 : ax_kd 33 = (5, 8) := rfl
theorem ax_kd34 : ax_kd 34 = (10, 30) := rfl
theorem ax_kd35 : ax_kd 35 = (10, 30) := rfl
theorem ax_kd36 : ax_kd 36 = (10, 30) := rfl
theorem ax_kd37 : ax_kd 37 = (10, 30) := rfl
theorem ax_kd38 : ax_kd 38 = (10, 30) := rfl
theorem ax_kd39 : ax_kd 39 = (10, 5) := rfl
theorem ax_kd40 : ax_kd 40 = (3, 2) := rfl
theorem ax_kd41 : ax_kd 41 = (10, 40) := rfl
theorem ax_kd42 : ax_kd 42 = (10, 5) := rfl
theorem ax_kd43 : ax_kd 43 = (0, 10) := rfl
theorem ax_kd44 : ax_kd 44 = (10, 64) := rfl
theorem ax_kd45 : ax_kd 45 = (10, 22) := rfl
theorem ax_kd46 : ax_kd 46 = (10, 22) := rfl
theorem ax_kd47 : ax_kd 47 = (10, 22) := rfl
theorem ax_kd48 : ax_kd 48 = (10, 22) := rfl
theorem ax_kd49 : ax_kd 49 = (10, 22) := rfl
theorem ax_kd50 : ax_kd 50 = (10, 30) := rfl
theorem ax_kd51 : ax_kd 51 = (10, 7) := rfl
theorem ax_kd52 : ax_kd 52 = (4, 2) := rfl
theorem ax_kd53 : ax_kd 53 = (11, 7) := rfl
theorem ax_kd54 : ax_kd 54 = (1, 1) := rfl
theorem ax_kd55 : ax_kd 55 = (11, 37) := rfl
theorem ax_kd56 : ax_kd 56 = (7, 3) := rfl
theorem ax_kd57 : ax_kd 57 = (10, 1110) := rfl
theorem ax_kd58 : ax_kd 58 = (9, 46) := rfl
theorem ax_kd59 : ax_kd 59 = (10, 7) := rfl
theorem ax_kd60 : ax_kd 60 = (10, 64) := rfl
theorem ax_kd61 : ax_kd 61 = (10, 32) := rfl
theorem ax_kd62 : ax_kd 62 = (10, 32) := rfl
theorem ax_kd63 : ax_kd 63 = (10, 32) := rfl
theorem ax_kd64 : ax_kd 64 = (10, 32) := rfl
theorem ax_kd65 : ax_kd 65 = (10, 32) := rfl
theorem ax_kd66 : ax_kd 66 = (10, 32) := rfl
theorem ax_kd67 : ax_kd 67 = (10, 6) := rfl
theorem ax_kd68 : ax_kd 68 = (10, 6) := rfl
theorem ax_kd69 : ax_kd 69 = (10, 10) := rfl
theorem ax_kd70 : ax_kd 70 = (10, 10) := rfl
theorem ax_kd71 : ax_kd 71 = (10, 20) := rfl
theorem ax_kd72 : ax_kd 72 = (10, 20) := rfl
theorem ax_kd73 : ax_kd 73 = (10, 20) := rfl
theorem ax_kd74 : ax_kd 74 = (10, 20) := rfl
theorem ax_kd75 : ax_kd 75 = (10, 20) := rfl
theorem ax_kd76 : ax_kd 76 = (10, 5) := rfl
theorem ax_kd77 : ax_kd 77 = (10, 5) := rfl
theorem ax_kd78 : ax_kd 78 = (10, 5) := rfl
theorem ax_kd79 : ax_kd 79 = (10, 10) := rfl
theorem ax_kd80 : ax_kd 80 = (10, 6) := rfl
theorem ax_kd81 : ax_kd 81 = (10, 30) := rfl
theorem ax_kd82 : ax_kd 82 = (10, 30) := rfl
theorem ax_kd83 : ax_kd 83 = (10, 30) := rfl
theorem ax_kd84 : ax_kd 84 = (10, 30) := rfl
theorem ax_kd85 : ax_kd 85 = (10, 30) := rfl
theorem ax_kd86 : ax_kd 86 = (10, 40) := rfl
theorem ax_kd87 : ax_kd 87 = (10, 10) := rfl
theorem ax_kd88 : ax_kd 88 = (10, 20) := rfl
theorem ax_kd89 : ax_kd 89 = (10, 20) := rfl
theorem ax_kd90 : ax_kd 90 = (10, 30) := rfl
theorem ax_kd91 : ax_kd 91 = (10, 500) := rfl
theorem ax_kds : (ax_kd 0 = (8, 10)) ∧ (ax_kd 1 = (2, 6)) ∧ (ax_kd 2 = (6, 11)) ∧ (ax_kd 3 = (10, 6)) ∧ (ax_kd 4 = (10, 6)) ∧ (ax_kd 5 = (10, 10)) ∧ (ax_kd 6 = (10, 10)) ∧ (ax_kd 7 = (10, 20)) ∧ (ax_kd 8 = (10, 20)) ∧ (ax_kd 9 = (10, 20)) ∧ (ax_kd 10 = (10, 20)) ∧ (ax_kd 11 = (10, 20)) ∧ (ax_kd 12 = (5, 8)) ∧ (ax_kd 13 = (10, 30)) ∧ (ax_kd 14 = (10, 30)) ∧ (ax_kd 15 = (10, 30)) ∧ (ax_kd 16 = (10, 30)) ∧ (ax_kd 17 = (10, 30)) ∧ (ax_kd 18 = (10, 5)) ∧ (ax_kd 19 = (3, 2)) ∧ (ax_kd 20 = (10, 40)) ∧ (ax_kd 21 = (10, 5)) ∧ (ax_kd 22 = (2, 6)) ∧ (ax_kd 23 = (6, 11)) ∧ (ax_kd 24 = (10, 6)) ∧ (ax_kd 25 = (10, 6)) ∧ (ax_kd 26 = (10, 10)) ∧ (ax_kd 27 = (10, 10)) ∧ (ax_kd 28 = (10, 20)) ∧ (ax_kd 29 = (10, 20)) ∧ (ax_kd 30 = (10, 20)) ∧ (ax_kd 31 = (10, 20)) ∧ (ax_kd 32 = (10, 20)) ∧ (ax_kd 33 = (5, 8)) ∧ (ax_kd 34 = (10, 30)) ∧ (ax_kd 35 = (10, 30)) ∧ (ax_kd 36 = (10, 30)) ∧ (ax_kd 37 = (10, 30)) ∧ (ax_kd 38 = (10, 30)) ∧ (ax_kd 39 = (10, 5)) ∧ (ax_kd 40 = (3, 2)) ∧ (ax_kd 41 = (10, 40)) ∧ (ax_kd 42 = (10, 5)) ∧ (ax_kd 43 = (0, 10)) ∧ (ax_kd 44 = (10, 64)) ∧ (ax_kd 45 = (10, 22)) ∧ (ax_kd 46 = (10, 22)) ∧ (ax_kd 47 = (10, 22)) ∧ (ax_kd 48 = (10, 22)) ∧ (ax_kd 49 = (10, 22)) ∧ (ax_kd 50 = (10, 30)) ∧ (ax_kd 51 = (10, 7)) ∧ (ax_kd 52 = (4, 2)) ∧ (ax_kd 53 = (11, 7)) ∧ (ax_kd 54 = (1, 1)) ∧ (ax_kd 55 = (11, 37)) ∧ (ax_kd 56 = (7, 3)) ∧ (ax_kd 57 = (10, 1110)) ∧ (ax_kd 58 = (9, 46)) ∧ (ax_kd 59 = (10, 7)) ∧ (ax_kd 60 = (10, 64)) ∧ (ax_kd 61 = (10, 32)) ∧ (ax_kd 62 = (10, 32)) ∧ (ax_kd 63 = (10, 32)) ∧ (ax_kd 64 = (10, 32)) ∧ (ax_kd 65 = (10, 32)) ∧ (ax_kd 66 = (10, 32)) ∧ (ax_kd 67 = (10, 6)) ∧ (ax_kd 68 = (10, 6)) ∧ (ax_kd 69 = (10, 10)) ∧ (ax_kd 70 = (10, 10)) ∧ (ax_kd 71 = (10, 20)) ∧ (ax_kd 72 = (10, 20)) ∧ (ax_kd 73 = (10, 20)) ∧ (ax_kd 74 = (10, 20)) ∧ (ax_kd 75 = (10, 20)) ∧ (ax_kd 76 = (10, 5)) ∧ (ax_kd 77 = (10, 5)) ∧ (ax_kd 78 = (10, 5)) ∧ (ax_kd 79 = (10, 10)) ∧ (ax_kd 80 = (10, 6)) ∧ (ax_kd 81 = (10, 30)) ∧ (ax_kd 82 = (10, 30)) ∧ (ax_kd 83 = (10, 30)) ∧ (ax_kd 84 = (10, 30)) ∧ (ax_kd 85 = (10, 30)) ∧ (ax_kd 86 = (10, 40)) ∧ (ax_kd 87 = (10, 10)) ∧ (ax_kd 88 = (10, 20)) ∧ (ax_kd 89 = (10, 20)) ∧ (ax_kd 90 = (10, 30)) ∧ (ax_kd 91 = (10, 500)) := ⟨ax_kd0, ax_kd1, ax_kd2, ax_kd3, ax_kd4, ax_kd5, ax_kd6, ax_kd7, ax_kd8, ax_kd9, ax_kd10, ax_kd11, ax_kd12, ax_kd13, ax_kd14, ax_kd15, ax_kd16, ax_kd17, ax_kd18, ax_kd19, ax_kd20, ax_kd21, ax_kd22, ax_kd23, ax_kd24, ax_kd25, ax_kd26, ax_kd27, ax_kd28, ax_kd29, ax_kd30, ax_kd31, ax_kd32, ax_kd33, ax_kd34, ax_kd35, ax_kd36, ax_kd37, ax_kd38, ax_kd39, ax_kd40, ax_kd41, ax_kd42, ax_kd43, ax_kd44, ax_kd45, ax_kd46, ax_kd47, ax_kd48, ax_kd49, ax_kd50, ax_kd51, ax_kd52, ax_kd53, ax_kd54, ax_kd55, ax_kd56, ax_kd57, ax_kd58, ax_kd59, ax_kd60, ax_kd61, ax_kd62, ax_kd63, ax_kd64, ax_kd65, ax_kd66, ax_kd67, ax_kd68, ax_kd69, ax_kd70, ax_kd71, ax_kd72, ax_kd73, ax_kd74, ax_kd75, ax_kd76, ax_kd77, ax_kd78, ax_kd79, ax_kd80, ax_kd81, ax_kd82, ax_kd83, ax_kd84, ax_kd85, ax_kd86, ax_kd87, ax_kd88, ax_kd89, ax_kd90, ax_kd91⟩
theorem ax_gvs : (∀ (D : ax_Dn) (E : ax_En), ax_gv (ax_S D E) 0 0 2 = .ref 1) ∧ (∀ (D : ax_Dn) (E : ax_En), ax_gv (ax_S D E) 0 1 2 = .ref 22) ∧ (∀ (D : ax_Dn) (E : ax_En), ax_gv (ax_S D E) 0 3 2 = .ref 43) ∧ (∀ (D : ax_Dn) (E : ax_En), ax_gv (ax_S D E) 0 4 2 = .ref 50) ∧ (∀ (D : ax_Dn) (E : ax_En), ax_gv (ax_S D E) 0 6 2 = .ref 51) ∧ (∀ (D : ax_Dn) (E : ax_En), ax_gv (ax_S D E) 0 7 2 = .ref 52) ∧ (∀ (D : ax_Dn) (E : ax_En), ax_gv (ax_S D E) 0 8 2 = .ref 54) ∧ (∀ (D : ax_Dn) (E : ax_En), ax_gv (ax_S D E) 0 9 2 = .ref 56) ∧ (∀ (D : ax_Dn) (E : ax_En), ax_gv (ax_S D E) 1 0 2 = .ref 2) ∧ (∀ (D : ax_Dn) (E : ax_En), ax_gv (ax_S D E) 1 1 2 = .ref 12) ∧ (∀ (D : ax_Dn) (E : ax_En), ax_gv (ax_S D E) 1 2 2 = .ref 19) ∧ (∀ (D : ax_Dn) (E : ax_En), ax_gv (ax_S D E) 1 3 2 = .ref 21) ∧ (∀ (D : ax_Dn) (E : ax_En), ax_gv (ax_S D E) 2 1 2 = .ref 3) ∧ (∀ (D : ax_Dn) (E : ax_En), ax_gv (ax_S D E) 2 2 2 = .ref 4) ∧ (∀ (D : ax_Dn) (E : ax_En), ax_gv (ax_S D E) 2 3 2 = .ref 5) ∧ (∀ (D : ax_Dn) (E : ax_En), ax_gv (ax_S D E) 2 4 2 = .ref 6) ∧ (∀ (D : ax_Dn) (E : ax_En), ax_gv (ax_S D E) 2 6 2 = .ref 7) ∧ (∀ (D : ax_Dn) (E : ax_En), ax_gv (ax_S D E) 2 7 2 = .ref 8) ∧ (∀ (D : ax_Dn) (E : ax_En), ax_gv (ax_S D E) 2 8 2 = .ref 9) ∧ (∀ (D : ax_Dn) (E : ax_En), ax_gv (ax_S D E) 2 9 2 = .ref 10) ∧ (∀ (D : ax_Dn) (E : ax_En), ax_gv (ax_S D E) 2 10 2 = .ref 11) ∧ (∀ (D : ax_Dn) (E : ax_En), ax_gv (ax_S D E) 12 1 2 = .ref 13) ∧ (∀ (D : ax_Dn) (E : ax_En), ax_gv (ax_S D E) 12 2 2 = .ref 14) ∧ (∀ (D : ax_Dn) (E : ax_En), ax_gv (ax_S D E) 12 3 2 = .ref 15) ∧ (∀ (D : ax_Dn) (E : ax_En), ax_gv (ax_S D E) 12 4 2 = .ref 16) ∧ (∀ (D : ax_Dn) (E : ax_En), ax_gv (ax_S D E) 12 5 2 = .ref 17) ∧ (∀ (D : ax_Dn) (E : ax_En), ax_gv (ax_S D E) 12 7 2 = .ref 18) ∧ (∀ (D : ax_Dn) (E : ax_En), ax_gv (ax_S D E) 19 1 2 = .ref 20) ∧ (∀ (D : ax_Dn) (E : ax_En), ax_gv (ax_S D E) 22 0 2 = .ref 23) ∧ (∀ (D : ax_Dn) (E : ax_En), ax_gv (ax_S D E) 22 1 2 = .ref 33) ∧ (∀ (D : ax_Dn) (E : ax_En), ax_gv (ax_S D E) 22 2 2 = .ref 40) ∧ (∀ (D : ax_Dn) (E : ax_En), ax_gv (ax_S D E) 22 3 2 = .ref 42) ∧ (∀ (D : ax_Dn) (E : ax_En), ax_gv (ax_S D E) 23 1 2 = .ref 24) ∧ (∀ (D : ax_Dn) (E : ax_En), ax_gv (ax_S D E) 23 2 2 = .ref 25) ∧ (∀ (D : ax_Dn) (E : ax_En), ax_gv (ax_S D E) 23 3 2 = .ref 26) ∧ (∀ (D : ax_Dn) (E : ax_En), ax_gv (ax_S D E) 23 4 2 = .ref 27) ∧ (∀ (D : ax_Dn) (E : ax_En), ax_gv (ax_S D E) 23 6 2 = .ref 28) ∧ (∀ (D : ax_Dn) (E : ax_En), ax_gv (ax_S D E) 23 7 2 = .ref 29) ∧ (∀ (D : ax_Dn) (E : ax_En), ax_gv (ax_S D E) 23 8 2 = .ref 30) ∧ (∀ (D : ax_Dn) (E : ax_En), ax_gv (ax_S D E) 23 9 2 = .ref 31) ∧ (∀ (D : ax_Dn) (E : ax_En), ax_gv (ax_S D E) 23 10 2 = .ref 32) ∧ (∀ (D : ax_Dn) (E : ax_En), ax_gv (ax_S D E) 33 1 2 = .ref 34) ∧ (∀ (D : ax_Dn) (E : ax_En), ax_gv (ax_S D E) 33 2 2 = .ref 35) ∧ (∀ (D : ax_Dn) (E : ax_En), ax_gv (ax_S D E) 33 3 2 = .ref 36) ∧ (∀ (D : ax_Dn) (E : ax_En), ax_gv (ax_S D E) 33 4 2 = .ref 37) ∧ (∀ (D : ax_Dn) (E : ax_En), ax_gv (ax_S D E) 33 5 2 = .ref 38) ∧ (∀ (D : ax_Dn) (E : ax_En), ax_gv (ax_S D E) 33 7 2 = .ref 39) ∧ (∀ (D : ax_Dn) (E : ax_En), ax_gv (ax_S D E) 40 1 2 = .ref 41) ∧ (∀ (D : ax_Dn) (E : ax_En), ax_gv (ax_S D E) 43 0 2 = .ref 44) ∧ (∀ (D : ax_Dn) (E : ax_En), ax_gv (ax_S D E) 43 5 2 = .ref 45) ∧ (∀ (D : ax_Dn) (E : ax_En), ax_gv (ax_S D E) 43 6 2 = .ref 46) ∧ (∀ (D : ax_Dn) (E : ax_En), ax_gv (ax_S D E) 43 7 2 = .ref 47) ∧ (∀ (D : ax_Dn) (E : ax_En), ax_gv (ax_S D E) 43 8 2 = .ref 48) ∧ (∀ (D : ax_Dn) (E : ax_En), ax_gv (ax_S D E) 43 9 2 = .ref 49) ∧ (∀ (D : ax_Dn) (E : ax_En), ax_gv (ax_S D E) 52 0 2 = .ref 53) ∧ (∀ (D : ax_Dn) (E : ax_En), ax_gv (ax_S D E) 54 0 2 = .ref 55) ∧ (∀ (D : ax_Dn) (E : ax_En), ax_gv (ax_S D E) 56 0 2 = .ref 57) ∧ (∀ (D : ax_Dn) (E : ax_En), ax_gv (ax_S D E) 58 0 2 = .ref 59) ∧ (∀ (D : ax_Dn) (E : ax_En), ax_gv (ax_S D E) 58 1 2 = .ref 60) ∧ (∀ (D : ax_Dn) (E : ax_En), ax_gv (ax_S D E) 58 2 2 = .ref 61) ∧ (∀ (D : ax_Dn) (E : ax_En), ax_gv (ax_S D E) 58 3 2 = .ref 62) ∧ (∀ (D : ax_Dn) (E : ax_En), ax_gv (ax_S D E) 58 4 2 = .ref 63) ∧ (∀ (D : ax_Dn) (E : ax_En), ax_gv (ax_S D E) 58 5 2 = .ref 64) ∧ (∀ (D : ax_Dn) (E : ax_En), ax_gv (ax_S D E) 58 6 2 = .ref 65) ∧ (∀ (D : ax_Dn) (E : ax_En), ax_gv (ax_S D E) 58 7 2 = .ref 66) ∧ (∀ (D : ax_Dn) (E : ax_En), ax_gv (ax_S D E) 58 8 2 = .ref 67) ∧ (∀ (D : ax_Dn) (E : ax_En), ax_gv (ax_S D E) 58 9 2 = .ref 68) ∧ (∀ (D : ax_Dn) (E : ax_En), ax_gv (ax_S D E) 58 10 2 = .ref 69) ∧ (∀ (D : ax_Dn) (E : ax_En), ax_gv (ax_S D E) 58 11 2 = .ref 70) ∧ (∀ (D : ax_Dn) (E : ax_En), ax_gv (ax_S D E) 58 12 2 = .ref 71) ∧ (∀ (D : ax_Dn) (E : ax_En), ax_gv (ax_S D E) 58 13 2 = .ref 72) ∧ (∀ (D : ax_Dn) (E : ax_En), ax_gv (ax_S D E) 58 14 2 = .ref 73) ∧ (∀ (D : ax_Dn) (E : ax_En), ax_gv (ax_S D E) 58 15 2 = .ref 74) ∧ (∀ (D : ax_Dn) (E : ax_En), ax_gv (ax_S D E) 58 16 2 = .ref 75) ∧ (∀ (D : ax_Dn) (E : ax_En), ax_gv (ax_S D E) 58 17 2 = .ref 76) ∧ (∀ (D : ax_Dn) (E : ax_En), ax_gv (ax_S D E) 58 18 2 = .ref 77) ∧ (∀ (D : ax_Dn) (E : ax_En), ax_gv (ax_S D E) 58 19 2 = .ref 78) ∧ (∀ (D : ax_Dn) (E : ax_En), ax_gv (ax_S D E) 58 25 2 = .ref 79) ∧ (∀ (D : ax_Dn) (E : ax_En), ax_gv (ax_S D E) 58 26 2 = .ref 80) ∧ (∀ (D : ax_Dn) (E : ax_En), ax_gv (ax_S D E) 58 27 2 = .ref 81) ∧ (∀ (D : ax_Dn) (E : ax_En), ax_gv (ax_S D E) 58 28 2 = .ref 82) ∧ (∀ (D : ax_Dn) (E : ax_En), ax_gv (ax_S D E) 58 29 2 = .ref 83) ∧ (∀ (D : ax_Dn) (E : ax_En), ax_gv (ax_S D E) 58 30 2 = .ref 84) ∧ (∀ (D : ax_Dn) (E : ax_En), ax_gv (ax_S D E) 58 31 2 = .ref 85) ∧ (∀ (D : ax_Dn) (E : ax_En), ax_gv (ax_S D E) 58 34 2 = .ref 86) ∧ (∀ (D : ax_Dn) (E : ax_En), ax_gv (ax_S D E) 58 36 2 = .ref 87) ∧ (∀ (D : ax_Dn) (E : ax_En), ax_gv (ax_S D E) 58 37 2 = .ref 88) ∧ (∀ (D : ax_Dn) (E : ax_En), ax_gv (ax_S D E) 58 38 2 = .ref 89) ∧ (∀ (D : ax_Dn) (E : ax_En), ax_gv (ax_S D E) 58 39 2 = .ref 90) ∧ (∀ (D : ax_Dn) (E : ax_En), ax_gv (ax_S D E) 58 42 2 = .ref 91) := ⟨fun _ _ => rfl, fun _ _ => rfl, fun _ _ => rfl, fun _ _ => rfl, fun _ _ => rfl, fun _ _ => rfl, fun _ _ => rfl, fun _ _ => rfl, fun _ _ => rfl, fun _ _ => rfl, fun _ _ => rfl, fun _ _ => rfl, fun _ _ => rfl, fun _ _ => rfl, fun _ _ => rfl, fun _ _ => rfl, fun _ _ => rfl, fun _ _ => rfl, fun _ _ => rfl, fun _ _ => rfl, fun _ _ => rfl, fun _ _ => rfl, fun _ _ => rfl, fun _ _ => rfl, fun _ _ => rfl, fun _ _ => rfl, fun _ _ => rfl, fun _ _ => rfl, fun _ _ => rfl, fun _ _ => rfl, fun _ _ => rfl, fun _ _ => rfl, fun _ _ => rfl, fun _ _ => rfl, fun _ _ => rfl, fun _ _ => rfl, fun _ _ => rfl, fun _ _ => rfl, fun _ _ => rfl, fun _ _ => rfl, fun _ _ => rfl, fun _ _ => rfl, fun _ _ => rfl, fun _ _ => rfl, fun _ _ => rfl, fun _ _ => rfl, fun _ _ => rfl, fun _ _ => rfl, fun _ _ => rfl, fun _ _ => rfl, fun _ _ => rfl, fun _ _ => rfl, fun _ _ => rfl, fun _ _ => rfl, fun _ _ => rfl, fun _ _ => rfl, fun _ _ => rfl, fun _ _ => rfl, fun _ _ => rfl, fun _ _ => rfl, fun _ _ => rfl, fun _ _ => rfl, fun _ _ => rfl, fun _ _ => rfl, fun _ _ => rfl, fun _ _ => rfl, fun _ _ => rfl, fun _ _ => rfl, fun _ _ => rfl, fun _ _ => rfl, fun _ _ => rfl, fun _ _ => rfl, fun _ _ => rfl, fun _ _ => rfl, fun _ _ => rfl, fun _ _ => rfl, fun _ _ => rfl, fun _ _ => rfl, fun _ _ => rfl, fun _ _ => rfl, fun _ _ => rfl, fun _ _ => rfl, fun _ _ => rfl, fun _ _ => rfl, fun _ _ => rfl, fun _ _ => rfl, fun _ _ => rfl, fun _ _ => rfl, fun _ _ => rfl, fun _ _ => rfl⟩
theorem ax_mcs : (ax_mc 0 = 6) ∧ (ax_mc 1 = 0) ∧ (ax_mc 2 = 0) ∧ (ax_mc 3 = 0) ∧ (ax_mc 4 = 0) ∧ (ax_mc 5 = 0) ∧ (ax_mc 6 = 0) ∧ (ax_mc 7 = 0) ∧ (ax_mc 8 = 0) ∧ (ax_mc 9 = 0) ∧ (ax_mc 10 = 0) ∧ (ax_mc 11 = 0) ∧ (ax_mc 12 = 0) ∧ (ax_mc 13 = 0) ∧ (ax_mc 14 = 0) ∧ (ax_mc 15 = 0) ∧ (ax_mc 16 = 0) ∧ (ax_mc 17 = 1) ∧ (ax_mc 18 = 0) ∧ (ax_mc 19 = 0) ∧ (ax_mc 20 = 0) ∧ (ax_mc 21 = 0) ∧ (ax_mc 22 = 0) ∧ (ax_mc 23 = 20) ∧ (ax_mc 24 = 0) ∧ (ax_mc 25 = 0) ∧ (ax_mc 26 = 0) ∧ (ax_mc 27 = 0) ∧ (ax_mc 28 = 0) ∧ (ax_mc 29 = 0) ∧ (ax_mc 30 = 0) ∧ (ax_mc 31 = 0) ∧ (ax_mc 32 = 0) ∧ (ax_mc 33 = 0) ∧ (ax_mc 34 = 0) ∧ (ax_mc 35 = 0) ∧ (ax_mc 36 = 0) ∧ (ax_mc 37 = 1) ∧ (ax_mc 38 = 0) ∧ (ax_mc 39 = 0) ∧ (ax_mc 40 = 0) ∧ (ax_mc 41 = 0) ∧ (ax_mc 42 = 0) ∧ (ax_mc 43 = 1) ∧ (ax_mc 44 = 0) ∧ (ax_mc 45 = 0) ∧ (ax_mc 46 = 0) ∧ (ax_mc 47 = 0) ∧ (ax_mc 48 = 6) ∧ (ax_mc 49 = 0) ∧ (ax_mc 50 = 0) ∧ (ax_mc 51 = 0) ∧ (ax_mc 52 = 0) ∧ (ax_mc 53 = 0) ∧ (ax_mc 54 = 0) ∧ (ax_mc 55 = 0) ∧ (ax_mc 56 = 0) ∧ (ax_mc 57 = 0) ∧ (ax_mc 58 = 0) ∧ (ax_mc 59 = 9) ∧ (ax_mc 60 = 0) ∧ (ax_mc 61 = 0) ∧ (ax_mc 62 = 0) ∧ (ax_mc 63 = 0) ∧ (ax_mc 64 = 0) ∧ (ax_mc 65 = 0) ∧ (ax_mc 66 = 0) ∧ (ax_mc 67 = 1) ∧ (ax_mc 68 = 0) ∧ (ax_mc 69 = 0) ∧ (ax_mc 70 = 0) ∧ (ax_mc 71 = 0) ∧ (ax_mc 72 = 57) ∧ (ax_mc 73 = 0) ∧ (ax_mc 74 = 0) ∧ (ax_mc 75 = 0) ∧ (ax_mc 76 = 0) ∧ (ax_mc 77 = 0) ∧ (ax_mc 78 = 0) ∧ (ax_mc 79 = 0) ∧ (ax_mc 80 = 0) ∧ (ax_mc 81 = 0) ∧ (ax_mc 82 = 0) ∧ (ax_mc 83 = 0) ∧ (ax_mc 84 = 0) ∧ (ax_mc 85 = 0) ∧ (ax_mc 86 = 0) ∧ (ax_mc 87 = 0) ∧ (ax_mc 88 = 0) ∧ (ax_mc 89 = 0) ∧ (ax_mc 90 = 0) ∧ (ax_mc 91 = 0) ∧ (ax_mc 92 = 0) ∧ (ax_mc 93 = 0) ∧ (ax_mc 94 = 0) ∧ (ax_mc 95 = 0) ∧ (ax_mc 96 = 0) ∧ (ax_mc 97 = 0) ∧ (ax_mc 98 = 0) ∧ (ax_mc 99 = 0) ∧ (ax_mc 100 = 0) ∧ (ax_mc 101 = 0) ∧ (ax_mc 102 = 0) ∧ (ax_mc 103 = 0) ∧ (ax_mc 104 = 0) ∧ (ax_mc 105 = 0) ∧ (ax_mc 106 = 0) ∧ (ax_mc 107 = 0) ∧ (ax_mc 108 = 0) ∧ (ax_mc 109 = 0) ∧ (ax_mc 110 = 0) ∧ (ax_mc 111 = 0) ∧ (ax_mc 112 = 0) ∧ (ax_mc 113 = 0) ∧ (ax_mc 114 = 0) ∧ (ax_mc 115 = 0) ∧ (ax_mc 116 = 0) ∧ (ax_mc 117 = 0) ∧ (ax_mc 118 = 0) ∧ (ax_mc 119 = 0) ∧ (ax_mc 120 = 0) ∧ (ax_mc 121 = 0) ∧ (ax_mc 122 = 0) ∧ (ax_mc 123 = 0) ∧ (ax_mc 124 = 33) ∧ (ax_mc 125 = 0) ∧ (ax_mc 126 = 0) ∧ (ax_mc 127 = 0) ∧ (ax_mc 128 = 0) ∧ (ax_mc 129 = 0) ∧ (ax_mc 130 = 0) ∧ (ax_mc 131 = 0) ∧ (ax_mc 132 = 0) ∧ (ax_mc 133 = 0) ∧ (ax_mc 134 = 0) ∧ (ax_mc 135 = 0) ∧ (ax_mc 136 = 0) ∧ (ax_mc 137 = 0) ∧ (ax_mc 138 = 0) ∧ (ax_mc 139 = 0) ∧ (ax_mc 140 = 0) ∧ (ax_mc 141 = 0) ∧ (ax_mc 142 = 0) ∧ (ax_mc 143 = 0) ∧ (ax_mc 144 = 0) ∧ (ax_mc 145 = 0) ∧ (ax_mc 146 = 0) ∧ (ax_mc 147 = 0) ∧ (ax_mc 148 = 0) ∧ (ax_mc 149 = 0) ∧ (ax_mc 150 = 0) ∧ (ax_mc 151 = 0) ∧ (ax_mc 152 = 0) ∧ (ax_mc 153 = 0) ∧ (ax_mc 154 = 0) ∧ (ax_mc 155 = 0) ∧ (ax_mc 156 = 0) ∧ (ax_mc 157 = 0) ∧ (ax_mc 158 = 0) ∧ (ax_mc 159 = 0) ∧ (ax_mc 160 = 0) ∧ (ax_mc 161 = 0) ∧ (ax_mc 162 = 0) ∧ (ax_mc 163 = 0) ∧ (ax_mc 164 = 0) ∧ (ax_mc 165 = 0) ∧ (ax_mc 166 = 0) ∧ (ax_mc 167 = 0) ∧ (ax_mc 168 = 0) ∧ (ax_mc 169 = 0) ∧ (ax_mc 170 = 0) ∧ (ax_mc 171 = 0) ∧ (ax_mc 172 = 0) ∧ (ax_mc 173 = 0) ∧ (ax_mc 174 = 0) ∧ (ax_mc 175 = 0) ∧ (ax_mc 176 = 0) ∧ (ax_mc 177 = 0) ∧ (ax_mc 178 = 0) ∧ (ax_mc 179 = 0) ∧ (ax_mc 180 = 0) ∧ (ax_mc 181 = 0) ∧ (ax_mc 182 = 0) ∧ (ax_mc 183 = 0) ∧ (ax_mc 184 = 0) ∧ (ax_mc 185 = 0) ∧ (ax_mc 186 = 0) ∧ (ax_mc 187 = 0) ∧ (ax_mc 188 = 0) ∧ (ax_mc 189 = 0) ∧ (ax_mc 190 = 0) ∧ (ax_mc 191 = 0) ∧ (ax_mc 192 = 0) ∧ (ax_mc 193 = 0) ∧ (ax_mc 194 = 0) ∧ (ax_mc 195 = 0) ∧ (ax_mc 196 = 0) ∧ (ax_mc 197 = 0) ∧ (ax_mc 198 = 0) ∧ (ax_mc 199 = 0) ∧ (ax_mc 200 = 0) ∧ (ax_mc 201 = 0) ∧ (ax_mc 202 = 0) ∧ (ax_mc 203 = 0) ∧ (ax_mc 204 = 0) := ⟨rfl, rfl, rfl, rfl, rfl, rfl, rfl, rfl, rfl, rfl, rfl, rfl, rfl, rfl, rfl, rfl, rfl, rfl, rfl, rfl, rfl, rfl, rfl, rfl, rfl, rfl, rfl, rfl, rfl, rfl, rfl, rfl, rfl, rfl, rfl, rfl, rfl, rfl, rfl, rfl, rfl, rfl, rfl, rfl, rfl, rfl, rfl, rfl, rfl, rfl, rfl, rfl, rfl, rfl, rfl, rfl, rfl, rfl, rfl, rfl, rfl, rfl, rfl, rfl, rfl, rfl, rfl, rfl, rfl, rfl, rfl, rfl, rfl, rfl, rfl, rfl, rfl, rfl, rfl, rfl, rfl, rfl, rfl, rfl, rfl, rfl, rfl, rfl, rfl, rfl, rfl, rfl, rfl, rfl, rfl, rfl, rfl, rfl, rfl, rfl, rfl, rfl, rfl, rfl, rfl, rfl, rfl, rfl, rfl, rfl, rfl, rfl, rfl, rfl, rfl, rfl, rfl, rfl, rfl, rfl, rfl, rfl, rfl, rfl, rfl, rfl, rfl, rfl, rfl, rfl, rfl, rfl, rfl, rfl, rfl, rfl, rfl, rfl, rfl, rfl, rfl, rfl, rfl, rfl, rfl, rfl, rfl, rfl, rfl, rfl, rfl, rfl, rfl, rfl, rfl, rfl, rfl, rfl, rfl, rfl, rfl, rfl, rfl, rfl, rfl, rfl, rfl, rfl, rfl, rfl, rfl, rfl, rfl, rfl, rfl, rfl, rfl, rfl, rfl, rfl, rfl, rfl, rfl, rfl, rfl, rfl, rfl, rfl, rfl, rfl, rfl, rfl, rfl, rfl, rfl, rfl, rfl, rfl, rfl, rfl, rfl, rfl, rfl, rfl, rfl⟩
