/-! Runs whose calls are answered by what we say of the callees: an oracle, a list of predicates, each of them enough for its method's contract. -/
abbrev ax_P1 : Type := List Value → ax_St → ax_Po → Prop
def ax_or (g : ax_G) : List (Nat × ax_P1) → ax_Cl
  | [], y, as, z, K => ax_MM g y as z K
  | q :: l, y, as, z, K => if y = q.1 then q.2 as z K else ax_or g l y as z K
def ax_ok (g : ax_G) (l : List (Nat × ax_P1)) : Prop := ∀ q ∈ l, ∀ as z K, q.2 as z K → ax_MM g q.1 as z K
theorem ax_on {g : ax_G} : ax_ok g [] := fun q h => absurd h List.not_mem_nil
theorem ax_oc {g : ax_G} {k : Nat} {P : ax_P1} {l : List (Nat × ax_P1)} (h : ∀ as z K, P as z K → ax_MM g k as z K) (hl : ax_ok g l) : ax_ok g ((k, P) :: l) := by
  intro q hq
  rcases List.mem_cons.mp hq with rfl | hq
  · exact h
  · exact hl q hq
theorem ax_or_ok {g : ax_G} : ∀ {l : List (Nat × ax_P1)}, ax_ok g l → ∀ y as z K, ax_or g l y as z K → ax_MM g y as z K := by
  intro l
  induction l with
  | nil => intro _ y as z K h; exact h
  | cons q l ih =>
    intro hl y as z K h
    unfold ax_or at h
    split at h
    · rename_i hy
      rw [hy]
      exact hl q List.mem_cons_self as z K h
    · exact ih (fun q' hq' => hl q' (List.mem_cons_of_mem _ hq')) y as z K h
theorem ax_tk_mono : ∀ {n : Nat} {st : ax_Sk} {acc : List Value} {f f' : List Value → ax_Sk → Prop}, (∀ a r, f a r → f' a r) → ax_tk n st acc f → ax_tk n st acc f' := by
  intro n
  induction n with
  | zero => intro st acc f f' h q; exact h _ _ q
  | succ n ih =>
    intro st acc f f' h q
    cases st with
    | nil => exact False.elim q
    | cons v st => exact ih h q
theorem ax_pR_mono {st : ax_Sk} {f f' : Nat → ax_Sk → Prop} (h : ∀ a r, f a r → f' a r) (q : ax_pR st f) : ax_pR st f' := by
  obtain ⟨x, r, rfl, q⟩ := ax_pR_e q
  exact h x r q
theorem ax_step_call {op a b c : Nat} {ws : List Nat} {cv : Value} {nxt : ax_Xs} {jmp : Nat → ax_Xs} {call call' : ax_Cl} {ret : ax_Po} {xt : Nat → Nat × (Nat → Int32)} {top : Nat} {L : ax_Lo} {st : ax_Sk} {z : ax_St} (hc : ∀ y as z K, call y as z K → call' y as z K) (h : ax_step op a b c ws cv nxt jmp call ret xt top L st z) : ax_step op a b c ws cv nxt jmp call' ret xt top L st z := by
  match op, h with
  | 0, h => exact h
  | 1, h => exact h
  | 2, h => exact h
  | 3, h => exact h
  | 4, h => exact h
  | 5, h => exact h
  | 6, h => exact h
  | 7, h => exact h
  | 8, h => exact h
  | 9, h => exact h
  | 10, h => exact h
  | 11, h => exact h
  | 12, h => exact h
  | 13, h => exact h
  | 14, h => exact h
  | 15, h => exact h
  | 16, h => exact h
  | 17, h => exact h
  | 18, h => exact h
  | 19, h => exact h
  | 20, h => exact h
  | 21, h => exact h
  | 22, h => exact h
  | 23, h => exact h
  | 24, h => exact h
  | 25, h => exact h
  | 26, h => exact h
  | 27, h => exact h
  | 28, h => exact h
  | 29, h => exact h
  | 30, h => exact h
  | 31, h => exact h
  | 32, h => exact h
  | 33, h => exact h
  | 34, h => exact h
  | 35, h => exact h
  | 36, h => exact h
  | 37, h => exact h
  | 38, h => exact h
  | 39, h => exact h
  | 40, h => exact h
  | 41, h => exact h
  | 42, h => exact h
  | 43, h => exact h
  | 44, h => exact h
  | 45, h => exact h
  | 46, h => exact h
  | 47, h => exact h
  | 48, h => exact h
  | 49, h => exact h
  | 50, h => exact h
  | 51, h => exact h
  | 52, h => exact h
  | 53, h => exact h
  | 54, h => exact h
  | 55, h => exact h
  | 56, h => exact h
  | 57, h => exact h
  | 58, h => exact h
  | 59, h => exact h
  | 60, h => exact h
  | 61, h => exact h
  | 62, h => exact h
  | 63, h => exact h
  | 64, h => exact h
  | 65, h => exact h
  | 66, h => exact h
  | 67, h => exact h
  | 68, h => exact h
  | 69, h => exact h
  | 70, h => exact h
  | 71, h => exact h
  | 72, h => exact h
  | 73, h => exact ax_tk_mono (fun as r q => ax_pR_mono (fun k r q => ⟨q.1, q.2.1, q.2.2.1, q.2.2.2.1, hc _ _ _ _ q.2.2.2.2⟩) q) h
  | 74, h => exact ax_tk_mono (fun as r q => ⟨q.1, q.2.1, hc _ _ _ _ q.2.2⟩) h
  | 75, h => exact ax_pR_mono (fun k r q => ⟨q.1, q.2.1, hc _ _ _ _ q.2.2⟩) h
  | 76, h => exact ax_pR_mono (fun k r q => ⟨q.1, q.2.1, hc _ _ _ _ q.2.2⟩) h
  | 77, h => exact h
  | 78, h => exact h
  | 79, h => exact h
  | 80, h => exact h
  | 81, h => exact h
  | 82, h => exact h
  | 83, h => exact h
  | 84, h => exact h
  | 85, h => exact h
  | 86, h => exact h
  | 87, h => exact h
  | 88, h => exact h
  | 89, h => exact h
  | 90, h => exact h
  | 91, h => exact h
  | n + 92, h => exact False.elim h
def ax_sto (g : ax_G) (call : ax_Cl) (ret : ax_Po) (top : Nat) (r : ax_Row) (nxt : ax_Xs) (jmp : Nat → ax_Xs) (L : ax_Lo) (st : ax_Sk) (z : ax_St) : Prop := ax_step r.2.1 r.2.2.1 r.2.2.2.1 r.2.2.2.2.1 r.2.2.2.2.2.1 r.2.2.2.2.2.2 nxt jmp call ret (ax_xt g) top L st z
theorem ax_sto_stp {g : ax_G} {call : ax_Cl} {ret : ax_Po} {top : Nat} {r : ax_Row} {nxt : ax_Xs} {jmp : Nat → ax_Xs} {L : ax_Lo} {st : ax_Sk} {z : ax_St} (hcall : ∀ y as z K, call y as z K → ax_MM g y as z K) (h : ax_sto g call ret top r nxt jmp L st z) : ax_stp g ret top r nxt jmp L st z := ax_step_call hcall h
def ax_rn (g : ax_G) (call : ax_Cl) (ret : ax_Po) (top : Nat) (X : Nat → ax_Xs) (lk : Nat → List ax_Row) (ct : Nat → Bool) : Nat → List ax_Row → ax_Xs
  | 0, _ => fun _ _ _ => False
  | _ + 1, [] => fun _ _ _ => False
  | n + 1, r :: rest => fun L st z => ax_sto g call ret top r (fun L st z => if ct (r.1 + ax_len r) = true then X (r.1 + ax_len r) L st z else ax_rn g call ret top X lk ct n rest L st z) (fun t L st z => if ct t = true then X t L st z else ax_rn g call ret top X lk ct n (lk t) L st z) L st z
theorem ax_WPn {g : ax_G} {h : ax_H} {ret : ax_Po} {n0 top : Nat} {lk : Nat → List ax_Row} {ct : Nat → Bool} {call : ax_Cl} (hcall : ∀ y as z K, call y as z K → ax_MM g y as z K) (hlk : ∀ t, ax_okl h (lk t) = true) (hlp : ∀ t r rest, lk t = r :: rest → r.1 = t) :
    ∀ (n : Nat) (r : ax_Row) (rest : List ax_Row) (L : ax_Lo) (st : ax_Sk) (z : ax_St), ax_okl h (r :: rest) = true → ax_rn g call ret top (ax_WP g h ret n0 top) lk ct n (r :: rest) L st z → ax_WP g h ret n0 top r.1 L st z := by
  intro n
  induction n with
  | zero => intro r rest L st z _ hr; exact False.elim hr
  | succ n ih =>
    intro r rest L st z hok hr
    have hok2 : (ax_okh h r && ax_adj r rest && ax_okl h rest) = true := hok
    rw [Bool.and_eq_true, Bool.and_eq_true] at hok2
    obtain ⟨⟨h1, h2⟩, h3⟩ := hok2
    have hr2 : ax_sto g call ret top r (fun L st z => if ct (r.1 + ax_len r) = true then ax_WP g h ret n0 top (r.1 + ax_len r) L st z else ax_rn g call ret top (ax_WP g h ret n0 top) lk ct n rest L st z) (fun t L st z => if ct t = true then ax_WP g h ret n0 top t L st z else ax_rn g call ret top (ax_WP g h ret n0 top) lk ct n (lk t) L st z) L st z := hr
    refine ax_WP_at (r := r) h1 (fun L st z q => ?_) (fun t L st z q => ?_) (ax_sto_stp hcall hr2)
    · cases hc : ct (r.1 + ax_len r) with
      | true => rw [if_pos hc] at q; exact q
      | false =>
        rw [if_neg (by rw [hc]; decide)] at q
        cases rest with
        | nil => cases n <;> exact False.elim q
        | cons r2 rest2 =>
          have h2 : (r2.1 == r.1 + ax_len r) = true := h2
          rw [beq_iff_eq] at h2
          rw [← h2]
          exact ih r2 rest2 L st z h3 q
    · cases hc : ct t with
      | true => rw [if_pos hc] at q; exact q
      | false =>
        rw [if_neg (by rw [hc]; decide)] at q
        cases hl : lk t with
        | nil => rw [hl] at q; cases n <;> exact False.elim q
        | cons r2 rest2 =>
          rw [hl] at q
          have := ih r2 rest2 L st z (by rw [← hl]; exact hlk t) q
          rw [hlp t r2 rest2 hl] at this
          exact this
/-- a run from a row that stands in the code, its calls answered by an oracle -/
theorem ax_WPo {g : ax_G} {h : ax_H} {ret : ax_Po} {n0 top : Nat} {code : List ax_Row} {l : List (Nat × ax_P1)} (hl : ax_ok g l) (hok : ax_okl h code = true) (ct : Nat → Bool) (n t : Nat) {r : ax_Row} {rest : List ax_Row} {L : ax_Lo} {st : ax_Sk} {z : ax_St} (ht : ax_sfx code t = r :: rest)
    (hr : ax_rn g (ax_or g l) ret top (ax_WP g h ret n0 top) (ax_sfx code) ct n (r :: rest) L st z) : ax_WP g h ret n0 top t L st z := by
  have := ax_WPn (ax_or_ok hl) (fun t => ax_okl_sfx (t := t) hok) (fun t r rest hh => ax_sfx_hd hh) n r rest L st z (by rw [← ht]; exact ax_okl_sfx hok) hr
  rw [ax_sfx_hd ht] at this
  exact this
