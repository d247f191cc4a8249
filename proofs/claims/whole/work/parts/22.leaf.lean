theorem ax_S_inj {D D' : ax_Dn} {E E' : ax_En} (h : ax_S D E = ax_S D' E') : D = D' ∧ E = E' := by
  unfold ax_S at h
  simp only [Prod.mk.injEq, true_and, and_true] at h
  exact h
