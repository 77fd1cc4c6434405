theorem mg_ok {mi pc : Nat} {e : mg_E} (h : mg_at mi pc = some e) : e.1 = pc ∧ mg_chk mi e = true := sorry
