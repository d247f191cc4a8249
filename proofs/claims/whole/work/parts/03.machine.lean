/-! The machine of our own: states, one instruction as a predicate transformer, its least fixpoint. -/
abbrev ax_Lo : Type := List (Option Value)
abbrev ax_Sk : Type := List Value
abbrev ax_Dn : Type := Nat → Nat → Int32
abbrev ax_En : Type := Nat → Nat → Int64
abbrev ax_Rn : Type := Nat → Nat → Option Nat
/-- cells made, ints, longs, references -/
abbrev ax_St : Type := Nat × ax_Dn × ax_En × ax_Rn
/-- pc, op, three numbers, more of them, a constant -/
abbrev ax_Row : Type := Nat × Nat × Nat × Nat × Nat × List Nat × Value
abbrev ax_Po : Type := Option Value → ax_St → Prop
abbrev ax_Xs : Type := ax_Lo → ax_Sk → ax_St → Prop
abbrev ax_Cl : Type := Nat → List Value → ax_St → ax_Po → Prop
def ax_pI (st : ax_Sk) (f : Int32 → ax_Sk → Prop) : Prop := match st with
  | .int x :: r => f x r
  | _ => False
def ax_pL (st : ax_Sk) (f : Int64 → ax_Sk → Prop) : Prop := match st with
  | .long x :: r => f x r
  | _ => False
def ax_pR (st : ax_Sk) (f : Nat → ax_Sk → Prop) : Prop := match st with
  | .ref x :: r => f x r
  | _ => False
def ax_p1 (st : ax_Sk) (f : Value → ax_Sk → Prop) : Prop := match st with
  | .int x :: r => f (.int x) r
  | .ref x :: r => f (.ref x) r
  | _ => False
def ax_lI (L : ax_Lo) (i : Nat) (f : Int32 → Prop) : Prop := match L[i]? with
  | some (some (.int x)) => f x
  | _ => False
def ax_lL (L : ax_Lo) (i : Nat) (f : Int64 → Prop) : Prop := match L[i]? with
  | some (some (.long x)) => f x
  | _ => False
def ax_lR (L : ax_Lo) (i : Nat) (f : Nat → Prop) : Prop := match L[i]? with
  | some (some (.ref x)) => f x
  | _ => False
/-- the place ahead no longer holds a long -/
def ax_cb (v : Option Value) : Option Value := match v with
  | some (.long _) => none
  | some (.double _) => none
  | w => w
/-- a store of one slot, of two -/
def ax_s1 : ax_Lo → Nat → Value → ax_Lo
  | [], _, _ => []
  | _ :: l, 0, v => some v :: l
  | a :: l, 1, v => ax_cb a :: ax_s1 l 0 v
  | a :: l, n + 2, v => a :: ax_s1 l (n + 1) v
def ax_s2 : ax_Lo → Nat → Value → ax_Lo
  | [], _, _ => []
  | _ :: [], 0, _ => none :: []
  | _ :: _ :: l, 0, v => some v :: none :: l
  | a :: l, 1, v => ax_cb a :: ax_s2 l 0 v
  | a :: l, n + 2, v => a :: ax_s2 l (n + 1) v
/-- the words of the values on a stack -/
def ax_cs : ax_Sk → Nat
  | [] => 0
  | .long _ :: r => ax_cs r + 2
  | .double _ :: r => ax_cs r + 2
  | _ :: r => ax_cs r + 1
/-- so many arguments off the stack, the first of them first -/
def ax_tk : Nat → ax_Sk → List Value → (List Value → ax_Sk → Prop) → Prop
  | 0, st, acc, f => f acc st
  | _ + 1, [], _, _ => False
  | n + 1, v :: st, acc, f => ax_tk n st (v :: acc) f
def ax_up {α : Type} (f : Nat → α) (k : Nat) (v : α) : Nat → α := fun j => if j = k then v else f j
def ax_rv (r : Option Nat) : Value := match r with
  | none => .null
  | some a => .ref a
def ax_gv (s : ax_St) (k j : Nat) : Nat → Value
  | 1 => .long (s.2.2.1 k j)
  | 2 => ax_rv (s.2.2.2 k j)
  | _ => .int (s.2.1 k j)
def ax_d1 (s : ax_St) (k j : Nat) (v : Int32) : ax_St := (s.1, ax_up s.2.1 k (ax_up (s.2.1 k) j v), s.2.2)
def ax_e1 (s : ax_St) (k j : Nat) (v : Int64) : ax_St := (s.1, s.2.1, ax_up s.2.2.1 k (ax_up (s.2.2.1 k) j v), s.2.2.2)
def ax_r1 (s : ax_St) (k j : Nat) (v : Option Nat) : ax_St := (s.1, s.2.1, s.2.2.1, ax_up s.2.2.2 k (ax_up (s.2.2.2 k) j v))
def ax_dr (s : ax_St) (k : Nat) (f : Nat → Int32) : ax_St := (s.1, ax_up s.2.1 k f, s.2.2)
/-- a new cell -/
def ax_nw (s : ax_St) : ax_St := (s.1 + 1, ax_up s.2.1 s.1 (fun _ => 0), ax_up s.2.2.1 s.1 (fun _ => 0), ax_up s.2.2.2 s.1 (fun _ => none))
/-- an array of ints: of the world's own, or one from outside -/
def ax_ia (s : ax_St) (xt : Nat → Nat × (Nat → Int32)) (k : Nat) (F : Nat → (Nat → Int32) → Prop) : Prop :=
  if k < 1000 then k < s.1 ∧ (ax_kd k).1 = 10 ∧ F (ax_kd k).2 (s.2.1 k) else k < 1003 ∧ F (xt k).1 (xt k).2
def ax_sw (x : Int32) (d : Nat) (jmp : Nat → Prop) : List (Nat × Nat) → Prop
  | [] => jmp d
  | (k, t) :: ps => (x = Int32.ofNat k → jmp t) ∧ (¬ x = Int32.ofNat k → ax_sw x d jmp ps)
def ax_prs : List Nat → List (Nat × Nat)
  | k :: t :: l => (k, t) :: ax_prs l
  | _ => []
/-- one instruction -/
def ax_step (op a b c : Nat) (ws : List Nat) (cv : Value) (nxt : ax_Xs) (jmp : Nat → ax_Xs) (call : ax_Cl) (ret : ax_Po) (xt : Nat → Nat × (Nat → Int32)) (top : Nat) (L : ax_Lo) (st : ax_Sk) (s : ax_St) : Prop :=
  match op with
  | 0 => nxt L (cv :: st) s
  | 1 => nxt L (cv :: st) s
  | 2 => nxt L (cv :: st) s
  | 3 => nxt L (cv :: st) s
  | 4 => nxt L (cv :: st) s
  | 5 => nxt L (cv :: st) s
  | 6 => nxt L (cv :: st) s
  | 7 => ax_lI L a fun x => nxt L (.int x :: st) s
  | 8 => ax_lI L a fun x => nxt L (.int x :: st) s
  | 9 => ax_lL L a fun x => nxt L (.long x :: st) s
  | 10 => ax_lL L a fun x => nxt L (.long x :: st) s
  | 11 => ax_lR L a fun x => nxt L (.ref x :: st) s
  | 12 => ax_lI L a fun x => ax_pI [cv] fun y _ => nxt (ax_s1 L a (.int (x + y))) st s
  | 13 => ax_pI st fun x r => nxt (ax_s1 L a (.int x)) r s
  | 14 => ax_pI st fun x r => nxt (ax_s1 L a (.int x)) r s
  | 15 => ax_pL st fun x r => nxt (ax_s2 L a (.long x)) r s
  | 16 => ax_pL st fun x r => nxt (ax_s2 L a (.long x)) r s
  | 17 => ax_pR st fun x r => nxt (ax_s1 L a (.ref x)) r s
  | 18 => ax_pI st fun y r => ax_pI r fun x r => nxt L (.int (x + y) :: r) s
  | 19 => ax_pI st fun y r => ax_pI r fun x r => nxt L (.int (x - y) :: r) s
  | 20 => ax_pI st fun y r => ax_pI r fun x r => nxt L (.int (x * y) :: r) s
  | 21 => ax_pI st fun y r => ax_pI r fun x r => ¬ y = 0 ∧ nxt L (.int (x / y) :: r) s
  | 22 => ax_pI st fun y r => ax_pI r fun x r => ¬ y = 0 ∧ nxt L (.int (x - x / y * y) :: r) s
  | 23 => ax_pI st fun x r => nxt L (.int (-x) :: r) s
  | 24 => ax_pI st fun y r => ax_pI r fun x r => nxt L (.int (x &&& y) :: r) s
  | 25 => ax_pI st fun y r => ax_pI r fun x r => nxt L (.int (x ||| y) :: r) s
  | 26 => ax_pI st fun y r => ax_pI r fun x r => nxt L (.int (x ^^^ y) :: r) s
  | 27 => ax_pI st fun y r => ax_pI r fun x r => nxt L (.int (x <<< (y &&& 31)) :: r) s
  | 28 => ax_pI st fun y r => ax_pI r fun x r => nxt L (.int (x >>> (y &&& 31)) :: r) s
  | 29 => ax_pL st fun y r => ax_pL r fun x r => nxt L (.long (x + y) :: r) s
  | 30 => ax_pL st fun y r => ax_pL r fun x r => nxt L (.long (x - y) :: r) s
  | 31 => ax_pL st fun y r => ax_pL r fun x r => nxt L (.long (x * y) :: r) s
  | 32 => ax_pL st fun y r => ax_pL r fun x r => ¬ y = 0 ∧ nxt L (.long (x / y) :: r) s
  | 33 => ax_pL st fun y r => ax_pL r fun x r => ¬ y = 0 ∧ nxt L (.long (x - x / y * y) :: r) s
  | 34 => ax_pL st fun y r => ax_pL r fun x r => nxt L (.long (x &&& y) :: r) s
  | 35 => ax_pL st fun y r => ax_pL r fun x r => nxt L (.long (x ||| y) :: r) s
  | 36 => ax_pI st fun y r => ax_pL r fun x r => nxt L (.long (x <<< (y.toInt64 &&& 63)) :: r) s
  | 37 => ax_pI st fun y r => ax_pL r fun x r => nxt L (.long (x >>> (y.toInt64 &&& 63)) :: r) s
  | 38 => ax_pI st fun y r => ax_pL r fun x r => nxt L (.long (x.toUInt64 >>> (y.toInt64.toUInt64 &&& Int64.toUInt64 63)).toInt64 :: r) s
  | 39 => ax_pL st fun y r => ax_pL r fun x r => nxt L (.int (lg_cmp x y) :: r) s
  | 40 => ax_pI st fun x r => nxt L (.long x.toInt64 :: r) s
  | 41 => ax_pL st fun x r => nxt L (.int x.toInt32 :: r) s
  | 42 => ax_p1 st fun v r => nxt L (v :: v :: r) s
  | 44 => ax_p1 st fun _ r => nxt L r s
  | 45 => ax_pI st fun y r => ax_pR r fun x r => nxt L (.int y :: .ref x :: .int y :: .ref x :: r) s
  | 46 => ax_pL st fun _ r => nxt L r s
  | 47 => ax_pI st fun x r => (x = 0 → jmp a L r s) ∧ (¬ x = 0 → nxt L r s)
  | 48 => ax_pI st fun x r => (¬ x = 0 → jmp a L r s) ∧ (x = 0 → nxt L r s)
  | 49 => ax_pI st fun x r => (x < 0 → jmp a L r s) ∧ (¬ x < 0 → nxt L r s)
  | 50 => ax_pI st fun x r => (0 ≤ x → jmp a L r s) ∧ (¬ 0 ≤ x → nxt L r s)
  | 51 => ax_pI st fun x r => (0 < x → jmp a L r s) ∧ (¬ 0 < x → nxt L r s)
  | 52 => ax_pI st fun x r => (x ≤ 0 → jmp a L r s) ∧ (¬ x ≤ 0 → nxt L r s)
  | 53 => ax_pI st fun y r => ax_pI r fun x r => (x = y → jmp a L r s) ∧ (¬ x = y → nxt L r s)
  | 54 => ax_pI st fun y r => ax_pI r fun x r => (¬ x = y → jmp a L r s) ∧ (x = y → nxt L r s)
  | 55 => ax_pI st fun y r => ax_pI r fun x r => (x < y → jmp a L r s) ∧ (¬ x < y → nxt L r s)
  | 56 => ax_pI st fun y r => ax_pI r fun x r => (y ≤ x → jmp a L r s) ∧ (¬ y ≤ x → nxt L r s)
  | 57 => ax_pI st fun y r => ax_pI r fun x r => (y < x → jmp a L r s) ∧ (¬ y < x → nxt L r s)
  | 58 => ax_pI st fun y r => ax_pI r fun x r => (x ≤ y → jmp a L r s) ∧ (¬ x ≤ y → nxt L r s)
  | 59 => jmp a L st s
  | 60 => ax_pI st fun x r => ax_sw x a (fun t => jmp t L r s) (ax_prs ws)
  | 61 => ax_pI st fun x r => ax_sw x a (fun t => jmp t L r s) (ax_prs ws)
  | 62 => ax_pR st fun k r => k < s.1 ∧ (ax_kd k).1 = a ∧ nxt L (ax_gv s k b c :: r) s
  | 63 => ax_pI st fun v r => ax_pR r fun k r => k < s.1 ∧ (ax_kd k).1 = a ∧ nxt L r (ax_d1 s k b v)
  | 64 => ax_pI st fun v r => ax_pR r fun k r => k < s.1 ∧ (ax_kd k).1 = a ∧ (v = 0 ∨ v = 1) ∧ nxt L r (ax_d1 s k b v)
  | 65 => ax_pL st fun v r => ax_pR r fun k r => k < s.1 ∧ (ax_kd k).1 = a ∧ nxt L r (ax_e1 s k b v)
  | 66 => ax_pR st fun v r => ax_pR r fun k r => k < s.1 ∧ (ax_kd k).1 = a ∧ nxt L r (ax_r1 s k b (some v))
  | 67 => ax_pI st fun i r => ax_pR r fun k r => ax_ia s xt k fun n f => vp_in i n ∧ nxt L (.int (f i.toNatClampNeg) :: r) s
  | 68 => ax_pI st fun v r => ax_pI r fun i r => ax_pR r fun k r => k < s.1 ∧ (ax_kd k).1 = 10 ∧ vp_in i (ax_kd k).2 ∧ nxt L r (ax_d1 s k i.toNatClampNeg v)
  | 69 => ax_pI st fun i r => ax_pR r fun k r => k < s.1 ∧ (ax_kd k).1 = 11 ∧ vp_in i (ax_kd k).2 ∧ nxt L (.long (s.2.2.1 k i.toNatClampNeg) :: r) s
  | 70 => ax_pL st fun v r => ax_pI r fun i r => ax_pR r fun k r => k < s.1 ∧ (ax_kd k).1 = 11 ∧ vp_in i (ax_kd k).2 ∧ nxt L r (ax_e1 s k i.toNatClampNeg v)
  | 71 => ax_pR st fun k r => if k < 1000 then k < s.1 ∧ ((ax_kd k).1 = 10 ∨ (ax_kd k).1 = 11) ∧ nxt L (.int (Int32.ofNat (ax_kd k).2) :: r) s else k < 1003 ∧ nxt L (.int (Int32.ofNat (xt k).1) :: r) s
  | 72 => nxt L (.ref a :: st) s
  | 73 => ax_tk b st [] fun as r => ax_pR r fun k r => k < s.1 ∧ (ax_kd k).1 = c ∧ ax_cs r ≤ 8 ∧ s.1 + ax_mc a ≤ top ∧ call a (.ref k :: as) s (fun v s' => nxt L (v.toList ++ r) s')
  | 74 => ax_tk b st [] fun as r => ax_cs r ≤ 8 ∧ s.1 + ax_mc a ≤ top ∧ call a as s (fun v s' => nxt L (v.toList ++ r) s')
  | 75 => ax_pR st fun k r => ax_cs r ≤ 8 ∧ s.1 + ax_mc a ≤ top ∧ call a [.ref k] s (fun v s' => nxt L (v.toList ++ r) s')
  | 76 => ax_pR st fun k r => ax_cs r ≤ 8 ∧ s.1 + ax_mc a ≤ top ∧ call a [.ref k] s (fun v s' => nxt L (v.toList ++ r) s')
  | 77 => ax_pR st fun _ r => ax_cs r ≤ 8 ∧ nxt L r s
  | 78 => ax_pI st fun n r => ax_pI r fun dp r => ax_pR r fun k1 r => ax_pI r fun sp r => ax_pR r fun k0 r => k0 < s.1 ∧ k1 < s.1 ∧ (ax_kd k0).1 = 10 ∧ (ax_kd k1).1 = 10 ∧ ¬ sp < 0 ∧ ¬ dp < 0 ∧ ¬ n < 0 ∧ sp.toNatClampNeg + n.toNatClampNeg ≤ (ax_kd k0).2 ∧ dp.toNatClampNeg + n.toNatClampNeg ≤ (ax_kd k1).2 ∧ ax_cs r ≤ 8 ∧ nxt L r (ax_dr s k1 (va_cpy (s.2.1 k0) (s.2.1 k1) sp.toNatClampNeg dp.toNatClampNeg n.toNatClampNeg))
  | 79 => s.1 + 1 ≤ top ∧ s.1 < 92 ∧ ax_kd s.1 = (a, b) ∧ nxt L (.ref s.1 :: st) (ax_nw s)
  | 80 => ax_pI st fun n r => s.1 + 1 ≤ top ∧ s.1 < 92 ∧ ¬ n < 0 ∧ ax_kd s.1 = (10, n.toNatClampNeg) ∧ nxt L (.ref s.1 :: r) (ax_nw s)
  | 81 => ax_pI st fun n r => s.1 + 1 ≤ top ∧ s.1 < 92 ∧ ¬ n < 0 ∧ ax_kd s.1 = (11, n.toNatClampNeg) ∧ nxt L (.ref s.1 :: r) (ax_nw s)
  | 82 => ax_pI st fun v r => r = [] ∧ s.1 = top ∧ ret (some (.int v)) s
  | 83 => ax_pI st fun v r => r = [] ∧ s.1 = top ∧ (v = 0 ∨ v = 1) ∧ ret (some (.int v)) s
  | 84 => ax_pL st fun v r => r = [] ∧ s.1 = top ∧ ret (some (.long v)) s
  | 85 => st = [] ∧ s.1 = top ∧ ret none s
  | 86 => ax_pI st fun y r => ax_pI r fun x r => ax_cs r ≤ 8 ∧ s.1 ≤ top ∧ nxt L (.int (if x < y then y else x) :: r) s
  | 87 => ax_pI st fun y r => ax_pI r fun x r => ax_cs r ≤ 8 ∧ s.1 ≤ top ∧ nxt L (.int (if y < x then y else x) :: r) s
  | 88 => ax_pI st fun x r => ax_cs r ≤ 8 ∧ s.1 ≤ top ∧ nxt L (.int (if 0 ≤ x then x else 0 - x) :: r) s
  | 89 => ax_pL st fun y r => ax_pL r fun x r => ax_cs r ≤ 8 ∧ s.1 ≤ top ∧ nxt L (.long (if y < x then x else y) :: r) s
  | 90 => ax_pL st fun y r => ax_pL r fun x r => ax_cs r ≤ 8 ∧ s.1 ≤ top ∧ nxt L (.long (if y < x then y else x) :: r) s
  | 91 => ax_pL st fun x r => ax_cs r ≤ 8 ∧ s.1 ≤ top ∧ nxt L (.long (if 0 < x then x else -x) :: r) s
  | _ => False
/-- what the bytes must be -/
def ax_ins (pc op a b c : Nat) (ws : List Nat) (cv : Value) : Instr × Nat :=
  let iv : Int := (match cv with | .int v => v.toInt | _ => 0)
  let lv : Nat := (match cv with | .long v => v.toNatClampNeg | _ => 0)
  let of : Int := (a : Int) - (pc : Int)
  match op with
  | 0 => (.iconst iv, 1)
  | 1 => (.bipush iv, 2)
  | 2 => (.sipush iv, 3)
  | 3 => (.ldc a, 2)
  | 4 => (.ldc_w a, 3)
  | 5 => (.lconst (Fin.ofNat 2 lv), 1)
  | 6 => (.ldc2_w a, 3)
  | 7 => (.iload_n (Fin.ofNat 4 a), 1)
  | 8 => (.iload a, 2)
  | 9 => (.lload_n (Fin.ofNat 4 a), 1)
  | 10 => (.lload a, 2)
  | 11 => (.aload_n (Fin.ofNat 4 a), 1)
  | 12 => (.iinc a iv, 3)
  | 13 => (.istore_n (Fin.ofNat 4 a), 1)
  | 14 => (.istore a, 2)
  | 15 => (.lstore_n (Fin.ofNat 4 a), 1)
  | 16 => (.lstore a, 2)
  | 17 => (.astore_n (Fin.ofNat 4 a), 1)
  | 18 => (.iadd, 1)
  | 19 => (.isub, 1)
  | 20 => (.imul, 1)
  | 21 => (.idiv, 1)
  | 22 => (.irem, 1)
  | 23 => (.ineg, 1)
  | 24 => (.iand, 1)
  | 25 => (.ior, 1)
  | 26 => (.ixor, 1)
  | 27 => (.ishl, 1)
  | 28 => (.ishr, 1)
  | 29 => (.ladd, 1)
  | 30 => (.lsub, 1)
  | 31 => (.lmul, 1)
  | 32 => (.ldiv, 1)
  | 33 => (.lrem, 1)
  | 34 => (.land, 1)
  | 35 => (.lor, 1)
  | 36 => (.lshl, 1)
  | 37 => (.lshr, 1)
  | 38 => (.lushr, 1)
  | 39 => (.lcmp, 1)
  | 40 => (.i2l, 1)
  | 41 => (.l2i, 1)
  | 42 => (.dup, 1)
  | 44 => (.pop, 1)
  | 45 => (.dup2, 1)
  | 46 => (.pop2, 1)
  | 47 => (.ifCond .eq of, 3)
  | 48 => (.ifCond .ne of, 3)
  | 49 => (.ifCond .lt of, 3)
  | 50 => (.ifCond .ge of, 3)
  | 51 => (.ifCond .gt of, 3)
  | 52 => (.ifCond .le of, 3)
  | 53 => (.if_icmp .eq of, 3)
  | 54 => (.if_icmp .ne of, 3)
  | 55 => (.if_icmp .lt of, 3)
  | 56 => (.if_icmp .ge of, 3)
  | 57 => (.if_icmp .gt of, 3)
  | 58 => (.if_icmp .le of, 3)
  | 59 => (.goto of, 3)
  | 60 => (.tableswitch of (b : Int) ((b : Int) + ((ax_prs ws).length : Int) - 1) ((ax_prs ws).map fun q => (q.2 : Int) - (pc : Int)).toArray, c)
  | 61 => (.lookupswitch of ((ax_prs ws).map fun q => ((q.1 : Int), (q.2 : Int) - (pc : Int))).toArray, c)
  | 62 => (.getfield (ws.getD 0 0), 3)
  | 63 => (.putfield (ws.getD 0 0), 3)
  | 64 => (.putfield (ws.getD 0 0), 3)
  | 65 => (.putfield (ws.getD 0 0), 3)
  | 66 => (.putfield (ws.getD 0 0), 3)
  | 67 => (.iaload, 1)
  | 68 => (.iastore, 1)
  | 69 => (.laload, 1)
  | 70 => (.lastore, 1)
  | 71 => (.arraylength, 1)
  | 72 => (.getstatic (ws.getD 0 0), 3)
  | 73 => (.invokevirtual (ws.getD 0 0), 3)
  | 74 => (.invokestatic (ws.getD 0 0), 3)
  | 75 => (.invokespecial (ws.getD 0 0), 3)
  | 76 => (.invokespecial (ws.getD 0 0), 3)
  | 77 => (.invokespecial (ws.getD 0 0), 3)
  | 78 => (.invokestatic (ws.getD 0 0), 3)
  | 79 => (.new (ws.getD 0 0), 3)
  | 80 => (.newarray .int, 2)
  | 81 => (.newarray .long, 2)
  | 82 => (.ireturn, 1)
  | 83 => (.ireturn, 1)
  | 84 => (.lreturn, 1)
  | 85 => (.return_, 1)
  | _ => (.invokestatic (ws.getD 0 0), 3)

def ax_nest : List (String × Nat × Nat) := [("AskewLetters", 9, 23), ("AskewLetters$Desk", 11, 59), ("AskewLetters$Desk", 20, 48), ("AskewLetters$Desk", 27, 37), ("AskewLetters", 25, 0), ("AskewLetters", 43, 43), ("AskewLetters", 50, 17), ("AskewLetters", 57, 67)]
/-- what else must hold of a row, by the fixed tables: the class that it stands in, its room, its answer's type -/
def ax_chk (own : String) (fr lo : Nat) (rt : Option FieldType) (nL op a b c : Nat) (ws : List Nat) (cv : Value) : Bool :=
  let wd : Option Cond := ax_wd (ws.getD 1 9) (ws.getD 2 0)
  match op with
  | 0 => (match cv with | .int _ => true | _ => false)
  | 1 => (match cv with | .int v => decide ((Int8.ofInt v.toInt).toInt32 = v) | _ => false)
  | 2 => (match cv with | .int v => decide ((Int16.ofInt v.toInt).toInt32 = v) | _ => false)
  | 3 => (match cv with | .int v => decide (ax_wd (ws.getD 0 9) (ws.getD 1 0) = some (.constant own a v)) && goodWord (.constant own a v) | _ => false)
  | 4 => (match cv with | .int v => decide (ax_wd (ws.getD 0 9) (ws.getD 1 0) = some (.constant own a v)) && goodWord (.constant own a v) | _ => false)
  | 5 => (match cv with | .long v => decide (v = 0 ∨ v = 1) | _ => false)
  | 6 => (match cv with | .long v => decide (ax_wd (ws.getD 0 9) (ws.getD 1 0) = some (.constantLong own a v)) && goodWord (.constantLong own a v) | _ => false)
  | 7 => decide (a < 4)
  | 9 => decide (a < 4)
  | 11 => decide (a < 4)
  | 12 => decide (a < nL)
  | 13 => decide (a < 4 ∧ a < nL)
  | 14 => decide (a < nL)
  | 15 => decide (a < 4 ∧ a + 1 < nL)
  | 16 => decide (a + 1 < nL)
  | 17 => decide (a < 4 ∧ a < nL)
  | 60 => decide ((ax_prs ws).map (fun q => q.1) = (List.range (ax_prs ws).length).map (fun k => b + k)) && (ax_prs ws).all (fun q => decide (q.1 < 1000))
  | 61 => (ax_prs ws).all (fun q => decide (q.1 < 1000)) && (((ax_prs ws).map fun q => ((q.1 : Int), (q.2 : Int))).zip (((ax_prs ws).map fun q => ((q.1 : Int), (q.2 : Int))).drop 1)).all (fun (x, y) => decide (x.1 < y.1))
  | 62 => decide (a < 10 ∧ b < ax_N a ∧ ax_fk a b = c ∧ wd = some (.fieldLink own (ws.getD 0 0) (ax_Tb a b).1 (ax_Tb a b).2.1 (ax_Tb a b).2.2.1)) && goodWord (.fieldLink own (ws.getD 0 0) (ax_Tb a b).1 (ax_Tb a b).2.1 (ax_Tb a b).2.2.1)
  | 63 => decide (a < 10 ∧ b < ax_N a ∧ ax_ty a b = .int ∧ (ax_Tb a b).2.2.2 = false ∧ wd = some (.fieldLink own (ws.getD 0 0) (ax_Tb a b).1 (ax_Tb a b).2.1 (ax_Tb a b).2.2.1)) && goodWord (.fieldLink own (ws.getD 0 0) (ax_Tb a b).1 (ax_Tb a b).2.1 (ax_Tb a b).2.2.1)
  | 64 => decide (a < 10 ∧ b < ax_N a ∧ ax_ty a b = .boolean ∧ (ax_Tb a b).2.2.2 = false ∧ wd = some (.fieldLink own (ws.getD 0 0) (ax_Tb a b).1 (ax_Tb a b).2.1 (ax_Tb a b).2.2.1)) && goodWord (.fieldLink own (ws.getD 0 0) (ax_Tb a b).1 (ax_Tb a b).2.1 (ax_Tb a b).2.2.1)
  | 65 => decide (a < 10 ∧ b < ax_N a ∧ ax_ty a b = .long ∧ (ax_Tb a b).2.2.2 = false ∧ wd = some (.fieldLink own (ws.getD 0 0) (ax_Tb a b).1 (ax_Tb a b).2.1 (ax_Tb a b).2.2.1)) && goodWord (.fieldLink own (ws.getD 0 0) (ax_Tb a b).1 (ax_Tb a b).2.1 (ax_Tb a b).2.2.1)
  | 66 => decide (a < 10 ∧ b < ax_N a ∧ ax_fk a b = 2 ∧ (ax_Tb a b).2.2.2 = true ∧ (ax_Tb a b).1 = own ∧ wd = some (.fieldLink own (ws.getD 0 0) (ax_Tb a b).1 (ax_Tb a b).2.1 (ax_Tb a b).2.2.1)) && goodWord (.fieldLink own (ws.getD 0 0) (ax_Tb a b).1 (ax_Tb a b).2.1 (ax_Tb a b).2.2.1) && (match ax_ty a b with | .object _ => true | .array _ => true | _ => false)
  | 72 => (decide (a = 1001 ∧ wd = some (.fieldLink own (ws.getD 0 0) "AskewLetters" "LEAST_SETTING" "[I")) && goodWord (.fieldLink own (ws.getD 0 0) "AskewLetters" "LEAST_SETTING" "[I")) || (decide (a = 1002 ∧ wd = some (.fieldLink own (ws.getD 0 0) "AskewLetters" "GREATEST_SETTING" "[I")) && goodWord (.fieldLink own (ws.getD 0 0) "AskewLetters" "GREATEST_SETTING" "[I"))
  | 73 => decide (a < 205 ∧ (ax_M a).2.2.2.2.2.2.1 = 0 ∧ (ax_M a).2.2.2.2.2.2.2 = b ∧ c < 10 ∧ ax_cn c = (ax_M a).1.cls ∧ (ax_M a).2.2.2.2.1 + 1 ≤ fr ∧ 8 + ((ax_M a).2.2.1 + 11) + (ax_M a).2.2.2.2.2.1 ≤ lo ∧ wd = some (.methodLink own (ws.getD 0 0) (ax_M a).1)) && goodWord (.methodLink own (ws.getD 0 0) (ax_M a).1)
  | 74 => decide (a < 205 ∧ (ax_M a).2.2.2.2.2.2.1 = 1 ∧ (ax_M a).2.2.2.2.2.2.2 = b ∧ (ax_M a).2.2.2.2.1 + 1 ≤ fr ∧ 8 + ((ax_M a).2.2.1 + 11) + (ax_M a).2.2.2.2.2.1 ≤ lo ∧ wd = some (.methodLink own (ws.getD 0 0) (ax_M a).1)) && goodWord (.methodLink own (ws.getD 0 0) (ax_M a).1)
  | 75 => decide (a < 205 ∧ (ax_M a).2.2.2.2.2.2.1 = 2 ∧ (ax_M a).2.2.2.2.2.2.2 = 0 ∧ (ax_M a).2.2.2.2.1 + 1 ≤ fr ∧ 8 + ((ax_M a).2.2.1 + 11) + (ax_M a).2.2.2.2.2.1 ≤ lo ∧ wd = some (.methodLink own (ws.getD 0 0) (ax_M a).1)) && goodWord (.methodLink own (ws.getD 0 0) (ax_M a).1)
  | 76 => decide (a < 205 ∧ (ax_M a).2.2.2.2.2.2.1 = 2 ∧ (ax_M a).2.2.2.2.2.2.2 = 0 ∧ (ax_M a).2.2.2.2.1 + 1 ≤ fr ∧ 8 + ((ax_M a).2.2.1 + 11) + (ax_M a).2.2.2.2.2.1 ≤ lo ∧ (own, ws.getD 0 0, a) ∈ ax_nest)
  | 77 => decide (1 ≤ fr ∧ 20 ≤ lo ∧ wd = some (.methodLink own (ws.getD 0 0) objectInit)) && goodWord (.methodLink own (ws.getD 0 0) objectInit)
  | 78 => decide (1 ≤ fr ∧ 30 ≤ lo ∧ wd = some (.methodLink own (ws.getD 0 0) arraycopyName)) && goodWord (.methodLink own (ws.getD 0 0) arraycopyName)
  | 79 => decide (a < 10 ∧ b = ax_N a ∧ wd = some (.classLink own (ws.getD 0 0) (ax_cn a)) ∧ ax_wd (ws.getD 3 9) (ws.getD 4 0) = some (.instantiable (ax_cn a) (ax_N a)) ∧ ax_wd (ws.getD 5 9) (ws.getD 6 0) = some (.initialized (ax_cn a))) && goodWord (.classLink own (ws.getD 0 0) (ax_cn a)) && goodWord (.instantiable (ax_cn a) (ax_N a)) && goodWord (.initialized (ax_cn a))
  | 82 => decide (rt = some .int)
  | 83 => decide (rt = some .boolean)
  | 84 => decide (rt = some .long)
  | 85 => decide (rt = none)
  | 86 => decide (1 ≤ fr ∧ 30 ≤ lo ∧ wd = some (.methodLink own (ws.getD 0 0) Lib.Math.max.name)) && goodWord (.methodLink own (ws.getD 0 0) Lib.Math.max.name)
  | 87 => decide (1 ≤ fr ∧ 30 ≤ lo ∧ wd = some (.methodLink own (ws.getD 0 0) Lib.Math.min.name)) && goodWord (.methodLink own (ws.getD 0 0) Lib.Math.min.name)
  | 88 => decide (1 ≤ fr ∧ 30 ≤ lo ∧ wd = some (.methodLink own (ws.getD 0 0) Lib.Math.abs.name)) && goodWord (.methodLink own (ws.getD 0 0) Lib.Math.abs.name)
  | 89 => decide (1 ≤ fr ∧ 30 ≤ lo ∧ wd = some (.methodLink own (ws.getD 0 0) Lib.MathLoose.max_long.x)) && goodWord (.methodLink own (ws.getD 0 0) Lib.MathLoose.max_long.x)
  | 90 => decide (1 ≤ fr ∧ 30 ≤ lo ∧ wd = some (.methodLink own (ws.getD 0 0) Lib.MathLoose.min_long.x)) && goodWord (.methodLink own (ws.getD 0 0) Lib.MathLoose.min_long.x)
  | 91 => decide (1 ≤ fr ∧ 30 ≤ lo ∧ wd = some (.methodLink own (ws.getD 0 0) Lib.MathLoose.abs_long.x)) && goodWord (.methodLink own (ws.getD 0 0) Lib.MathLoose.abs_long.x)
  | _ => true
/-- a row stands in the bytes -/
def ax_okr (own : String) (fr lo : Nat) (rt : Option FieldType) (nL : Nat) (bytes : ByteArray) (r : ax_Row) : Bool :=
  decide (decode bytes r.1 = .ok (ax_ins r.1 r.2.1 r.2.2.1 r.2.2.2.1 r.2.2.2.2.1 r.2.2.2.2.2.1 r.2.2.2.2.2.2)) && ax_chk own fr lo rt nL r.2.1 r.2.2.1 r.2.2.2.1 r.2.2.2.2.1 r.2.2.2.2.2.1 r.2.2.2.2.2.2
