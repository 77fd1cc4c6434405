/-! WHAT A RUN COMES TO: rules -/
def mg_Ev (sc : mg_Sc) (d mi pc : Nat) (loc : mg_L) (st : List Value) (w : mg_S) (r : mg_R) : Prop := ∃ n, mg_run sc n d mi pc loc st w = some r
theorem mg_run_le {sc : mg_Sc} : ∀ (n d mi pc : Nat) (loc : mg_L) (st : List Value) (w : mg_S) (r : mg_R), mg_run sc n d mi pc loc st w = some r → ∀ n' d', n ≤ n' → d ≤ d' → mg_run sc n' d' mi pc loc st w = some r := by
  intro n
  induction n with
  | zero => intro d mi pc loc st w r h; cases h
  | succ n ih =>
    intro d mi pc loc st w r h n' d' hn hd
    obtain ⟨n', rfl⟩ : ∃ k, n' = k + 1 := ⟨n' - 1, by omega⟩
    have hn : n ≤ n' := by omega
    unfold mg_run at h ⊢
    split at h
    · cases h
    · next e he =>
      try rw [he]
      try dsimp only
      split at h
      · next y as r9 hc =>
        try rw [hc]
        try dsimp only
        split at h
        · cases h
        · next d =>
          obtain ⟨d', rfl⟩ : ∃ k, d' = k + 1 := ⟨d' - 1, by omega⟩
          have hd : d ≤ d' := by omega
          try dsimp only
          split at h
          · cases h
          · next hl =>
            try rw [if_neg hl]
            split at h
            · next v w1 h1 =>
              have k1 := ih _ _ _ _ _ _ _ h1 n' d' hn hd
              simp only [k1]
              exact ih _ _ _ _ _ _ _ h n' (d' + 1) hn (by omega)
            · next E w1 h1 =>
              have k1 := ih _ _ _ _ _ _ _ h1 n' d' hn hd
              simp only [k1]
              split at h
              · next hx => first | exact h | (simp only [hx]; exact h)
              · next q hx => first | exact ih _ _ _ _ _ _ _ h n' (d' + 1) hn (by omega) | (simp only [hx]; exact ih _ _ _ _ _ _ _ h n' (d' + 1) hn (by omega))
              · cases h
            · cases h
      · next hc =>
        try rw [hc]
        try dsimp only
        split at h
        · next r9 h9 => first | exact h | (rw [h9]; exact h)
        · next h9 =>
          try rw [h9]
          try dsimp only
          split at h
          · next pc' loc' st' w' h10 => first | exact ih _ _ _ _ _ _ _ h n' d' hn hd | (rw [h10]; exact ih _ _ _ _ _ _ _ h n' d' hn hd)
          · cases h
