theorem mg_run_more {sc : mg_Sc} : ∀ (n d mi pc : Nat) (loc lo2 : mg_L) (st : List Value) (w : mg_S) (r : mg_R), mg_run sc n d mi pc loc st w = some r → mg_le loc lo2 → mg_run sc n d mi pc lo2 st w = some r := by
  intro n
  induction n with
  | zero => intro d mi pc loc lo2 st w r h; cases h
  | succ n ih =>
    intro d mi pc loc lo2 st w r h hm
    unfold mg_run at h ⊢
    split at h
    · cases h
    · next e he =>
      try rw [he]
      try dsimp only
      split at h
      · next y as r9 hc =>
        try rw [hc]
        try dsimp only
        split at h
        · cases h
        · next d =>
          try dsimp only
          split at h
          · cases h
          · next hl =>
            try rw [if_neg hl]
            split at h
            · next v w1 h1 => (try simp only [h1]); exact ih _ _ _ _ _ _ _ _ h hm
            · next E w1 h1 =>
              (try simp only [h1])
              split at h
              · next hx => (try simp only [hx]); exact h
              · next q hx =>
                (try simp only [hx])
                refine ih _ _ _ _ _ _ _ _ h ?_
                exact mg_le_set (by rw [mg_kill_len, mg_kill_len, mg_le_len hm]) (fun _ _ hj => mg_le_kill hm _ hj) _ none
              · cases h
            · cases h
      · next hc =>
        try rw [hc]
        try dsimp only
        split at h
        · next r9 h9 => (try rw [h9]); exact h
        · next h9 =>
          try rw [h9]
          try dsimp only
          split at h
          · next pc' loc' st' w' h10 =>
            obtain ⟨pc0, ins, len, o⟩ := e
            obtain ⟨lo2', h8, h7⟩ := mg_step_more h10 hm
            rw [h8]
            exact ih _ _ _ _ _ _ _ _ h h7
          · cases h
section EV
variable {sc : mg_Sc} {d mi pc : Nat} {loc lo2 : mg_L} {st : List Value} {w : mg_S} {r : mg_R}
theorem mg_Ev.more (h : mg_Ev sc d mi pc loc st w r) (hm : mg_le loc lo2) : mg_Ev sc d mi pc lo2 st w r := by
  obtain ⟨n, h⟩ := h
  exact ⟨n, mg_run_more _ _ _ _ _ _ _ _ _ h hm⟩
theorem mg_Ev.deep (h : mg_Ev sc d mi pc loc st w r) {d' : Nat} (hd : d ≤ d') : mg_Ev sc d' mi pc loc st w r := by
  obtain ⟨n, h⟩ := h
  exact ⟨n, mg_run_le _ _ _ _ _ _ _ _ h n d' (Nat.le_refl _) hd⟩
/-- a stretch of rows that are no calls, no ends -/
def mg_go (sc : mg_Sc) (mi : Nat) : Nat → Nat × mg_L × List Value × mg_S → Option (Nat × mg_L × List Value × mg_S)
  | 0, s => some s
  | k + 1, (pc, loc, st, w) => match mg_at mi pc with
    | none => none
    | some e => match mg_call mg_cls e st w with
      | some _ => none
      | none => match mg_end (mg_ret mi) e st w with
        | some _ => none
        | none => match mg_step sc e loc st w with
          | some s => mg_go sc mi k s
          | none => none
theorem mg_Ev.go (k : Nat) {pc' : Nat} {loc' : mg_L} {st' : List Value} {w' : mg_S} (hg : mg_go sc mi k (pc, loc, st, w) = some (pc', loc', st', w')) (h : mg_Ev sc d mi pc' loc' st' w' r) : mg_Ev sc d mi pc loc st w r := by
  induction k generalizing pc loc st w with
  | zero => cases hg; exact h
  | succ k ih =>
    unfold mg_go at hg
    split at hg
    · cases hg
    · next e he =>
      split at hg
      · cases hg
      · next hc =>
        split at hg
        · cases hg
        · next hend =>
          split at hg
          · next s hs =>
            obtain ⟨p1, l1, s1, w1⟩ := s
            obtain ⟨n, hn⟩ := ih hg
            refine ⟨n + 1, ?_⟩
            unfold mg_run
            try rw [he]
            try dsimp only
            try rw [hc]
            try dsimp only
            rw [hend]
            try dsimp only
            rw [hs]
            exact hn
          · cases hg
/-- an end -/
theorem mg_Ev.fin {e : mg_E} (he : mg_at mi pc = some e) (hc : mg_call mg_cls e st w = none) (hend : mg_end (mg_ret mi) e st w = some r) : mg_Ev sc d mi pc loc st w r := by
  refine ⟨1, ?_⟩
  unfold mg_run
  try rw [he]
  try dsimp only
  try rw [hc]
  try dsimp only
  rw [hend]
/-- a call that comes back -/
theorem mg_Ev.call {e : mg_E} {y : Nat} {as rest : List Value} {v : Option Value} {w1 : mg_S} (he : mg_at mi pc = some e) (hc : mg_call mg_cls e st w = some (y, as, rest)) (hl : as.length ≤ mg_mlen y)
    (h1 : mg_Ev sc d y 0 (mg_entry y as) [] w (.inl v, w1)) (h : mg_Ev sc (d + 1) mi (pc + 3) loc (v.toList ++ rest) w1 r) : mg_Ev sc (d + 1) mi pc loc st w r := by
  obtain ⟨n1, h1⟩ := h1
  obtain ⟨n2, h2⟩ := h
  refine ⟨max n1 n2 + 1, ?_⟩
  unfold mg_run
  try rw [he]
  try dsimp only
  try rw [hc]
  try dsimp only
  have k1 := mg_run_le _ _ _ _ _ _ _ _ h1 (max n1 n2) d (Nat.le_max_left _ _) (Nat.le_refl _)
  rw [if_neg (Nat.not_lt.mpr hl)]
  simp only [k1]
  exact mg_run_le _ _ _ _ _ _ _ _ h2 (max n1 n2) (d + 1) (Nat.le_max_right _ _) (Nat.le_refl _)
/-- a call that throws, not caught here -/
theorem mg_Ev.callX {e : mg_E} {y : Nat} {as rest : List Value} {E : Nat} {w1 : mg_S} (he : mg_at mi pc = some e) (hc : mg_call mg_cls e st w = some (y, as, rest)) (hl : as.length ≤ mg_mlen y)
    (h1 : mg_Ev sc d y 0 (mg_entry y as) [] w (.inr E, w1)) (hx : mg_caught (mg_hx mi) (mg_nxt mi) pc E = none) : mg_Ev sc (d + 1) mi pc loc st w (.inr E, w1) := by
  obtain ⟨n1, h1⟩ := h1
  refine ⟨n1 + 1, ?_⟩
  unfold mg_run
  try rw [he]
  try dsimp only
  try rw [hc]
  try dsimp only
  rw [if_neg (Nat.not_lt.mpr hl)]
  simp only [h1, hx]
/-- .. caught here -/
theorem mg_Ev.callH {e : mg_E} {y : Nat} {as rest : List Value} {E i pc' : Nat} {w1 : mg_S} (he : mg_at mi pc = some e) (hc : mg_call mg_cls e st w = some (y, as, rest)) (hl : as.length ≤ mg_mlen y)
    (h1 : mg_Ev sc d y 0 (mg_entry y as) [] w (.inr E, w1)) (hx : mg_caught (mg_hx mi) (mg_nxt mi) pc E = some (some (i, pc'))) (h : mg_Ev sc (d + 1) mi pc' ((mg_kill loc i).set i none) [] w1 r) : mg_Ev sc (d + 1) mi pc loc st w r := by
  obtain ⟨n1, h1⟩ := h1
  obtain ⟨n2, h2⟩ := h
  refine ⟨max n1 n2 + 1, ?_⟩
  unfold mg_run
  try rw [he]
  try dsimp only
  try rw [hc]
  try dsimp only
  have k1 := mg_run_le _ _ _ _ _ _ _ _ h1 (max n1 n2) d (Nat.le_max_left _ _) (Nat.le_refl _)
  rw [if_neg (Nat.not_lt.mpr hl)]
  simp only [k1, hx]
  exact mg_run_le _ _ _ _ _ _ _ _ h2 (max n1 n2) (d + 1) (Nat.le_max_right _ _) (Nat.le_refl _)
/-- one row, by what it comes to -/
theorem mg_Ev.one {e : mg_E} (he : mg_at mi pc = some e) (hc : mg_call mg_cls e st w = none) (hend : mg_end (mg_ret mi) e st w = none) {pc' : Nat} {loc' : mg_L} {st' : List Value} {w' : mg_S} (hs : mg_step sc e loc st w = some (pc', loc', st', w')) (h : mg_Ev sc d mi pc' loc' st' w' r) : mg_Ev sc d mi pc loc st w r := by
  refine mg_Ev.go 1 (pc' := pc') (loc' := loc') (st' := st') (w' := w') ?_ h
  unfold mg_go
  try rw [he]
  try dsimp only
  try rw [hc]
  try dsimp only
  rw [hend]
  try dsimp only
  rw [hs]
  rfl
/-- a branch: what the row answers is an if -/
theorem mg_Ev.br {e : mg_E} {P : Prop} [Decidable P] {t nx : Nat} {st' : List Value} (he : mg_at mi pc = some e) (hc : mg_call mg_cls e st w = none) (hend : mg_end (mg_ret mi) e st w = none) (hs : mg_step sc e loc st w = some (if P then t else nx, loc, st', w)) (ht : P → mg_Ev sc d mi t loc st' w r) (hn : ¬ P → mg_Ev sc d mi nx loc st' w r) : mg_Ev sc d mi pc loc st w r := by
  by_cases h : P
  · rw [if_pos h] at hs
    exact mg_Ev.one he hc hend hs (ht h)
  · rw [if_neg h] at hs
    exact mg_Ev.one he hc hend hs (hn h)
/-- a row that wants a condition -/
theorem mg_Ev.need {e : mg_E} {P : Prop} [Decidable P] {pc' : Nat} {loc' : mg_L} {st' : List Value} {w' : mg_S} (hP : P) (he : mg_at mi pc = some e) (hc : mg_call mg_cls e st w = none) (hend : mg_end (mg_ret mi) e st w = none) (hs : mg_step sc e loc st w = if P then some (pc', loc', st', w') else none) (h : mg_Ev sc d mi pc' loc' st' w' r) : mg_Ev sc d mi pc loc st w r := by
  rw [if_pos hP] at hs
  exact mg_Ev.one he hc hend hs h
theorem mg_Ev.deny {e : mg_E} {P : Prop} [Decidable P] {pc' : Nat} {loc' : mg_L} {st' : List Value} {w' : mg_S} (hP : ¬ P) (he : mg_at mi pc = some e) (hc : mg_call mg_cls e st w = none) (hend : mg_end (mg_ret mi) e st w = none) (hs : mg_step sc e loc st w = if P then none else some (pc', loc', st', w')) (h : mg_Ev sc d mi pc' loc' st' w' r) : mg_Ev sc d mi pc loc st w r := by
  rw [if_neg hP] at hs
  exact mg_Ev.one he hc hend hs h
end EV
