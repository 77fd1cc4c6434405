/-! KEEPING AND BRINGING BACK -/
theorem z_keepIn {s : Nat} (hs : s < 9) (u : mg_Rg) : ∃ u', C_keepIn (nN s) u = some u' ∧ (∀ k ∈ z_ks, u' (k + 1) = va_cpy (u k) (u (k + 1)) 0 (s * z_len k) (z_len k)) ∧ (∀ j, j ∉ z_ks.map (· + 1) → u' j = u j) := by
  unfold C_keepIn O_keepIn Tf_keepIn Lg_keepIn
  simp only [tk_3 hs, tk_6 hs, tk_9 hs, tk_12 hs, tk_16 hs, tk_19 hs, tk_22 hs, tk_25 hs, tk_30 hs, Option.bind_some]
  refine ⟨_, rfl, ?_, ?_⟩
  · intro k hk
    simp only [z_ks, List.mem_cons, List.not_mem_nil, or_false] at hk
    rcases hk with rfl | rfl | rfl | rfl | rfl | rfl | rfl | rfl | rfl <;> rfl
  · intro j hj
    have hn : ∀ q ∈ z_ks.map (· + 1), j ≠ q := fun q hq e => hj (e ▸ hq)
    rw [z_rw_ne (hn 32 (by decide)), z_rw_ne (hn 27 (by decide)), z_rw_ne (hn 24 (by decide)), z_rw_ne (hn 21 (by decide)), z_rw_ne (hn 18 (by decide)), z_rw_ne (hn 14 (by decide)), z_rw_ne (hn 11 (by decide)), z_rw_ne (hn 8 (by decide)), z_rw_ne (hn 5 (by decide))]
theorem z_bringFrom {s : Nat} (hs : s < 9) (u : mg_Rg) : ∃ u', C_bringFrom (nN s) u = some u' ∧ (∀ k ∈ z_ks, u' k = va_cpy (u (k + 1)) (u k) (s * z_len k) 0 (z_len k)) ∧ (∀ j, j ∉ z_ks → u' j = u j) := by
  unfold C_bringFrom O_bringFrom Tf_bringFrom Lg_bringFrom
  simp only [tb_3 hs, tb_6 hs, tb_9 hs, tb_12 hs, tb_16 hs, tb_19 hs, tb_22 hs, tb_25 hs, tb_30 hs, Option.bind_some]
  refine ⟨_, rfl, ?_, ?_⟩
  · intro k hk
    simp only [z_ks, List.mem_cons, List.not_mem_nil, or_false] at hk
    rcases hk with rfl | rfl | rfl | rfl | rfl | rfl | rfl | rfl | rfl <;> rfl
  · intro j hj
    have hn : ∀ q ∈ z_ks, j ≠ q := fun q hq e => hj (e ▸ hq)
    rw [z_rw_ne (hn 31 (by decide)), z_rw_ne (hn 26 (by decide)), z_rw_ne (hn 23 (by decide)), z_rw_ne (hn 20 (by decide)), z_rw_ne (hn 17 (by decide)), z_rw_ne (hn 13 (by decide)), z_rw_ne (hn 10 (by decide)), z_rw_ne (hn 7 (by decide)), z_rw_ne (hn 4 (by decide))]
