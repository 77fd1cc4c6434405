/-- PHASE 2: the obligations -/
theorem the_obs : ∃ I : mg_Rg → Prop, I u0 ∧ Ob_all I := sorry
