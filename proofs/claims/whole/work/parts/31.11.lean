def M_isFor (a0 : Int32) (a1 : Int32) (a2 : Int32) (u : mg_Rg) : Option (Int32) :=
  if (80 + (4 * a0)) < 0 ∨ 690 ≤ (80 + (4 * a0)).toNatClampNeg then none else
  (M_isUnder a1 (u 43 ((80 + (4 * a0)).toNatClampNeg)) u).bind fun v1049 =>
  if v1049 = 0 then
  some 0
  else
  if ((80 + (4 * a0)) + 1) < 0 ∨ 690 ≤ ((80 + (4 * a0)) + 1).toNatClampNeg then none else
    if (u 43 (((80 + (4 * a0)) + 1).toNatClampNeg)) = a2 then
    some 1
    else
    some 0

set_option maxRecDepth 10000 in
set_option maxHeartbeats 4000000 in
theorem ev_M_isFor {sc : mg_Sc} {c z : Nat} {fL : Nat → Int64} {fD : Nat → UInt64} {a0 : Int32} {a1 : Int32} {a2 : Int32} {u : mg_Rg} {v : Int32} (h : M_isFor a0 a1 a2 u = some v) : mg_Ev sc 2 86 0 (mg_entry 86 [.ref 43, .int a0, .int a1, .int a2]) [] (hp u fL fD, c, z) (.inl (some (.int v)), (hp u fL fD, c, z)) := by
  unfold M_isFor at h
  show mg_Ev _ _ _ 0 [some (.ref 43), some (.int a0), some (.int a1), some (.int a2), none] [] _ _
  refine mg_Ev.go 10 (pc' := 14) (loc' := [some (.ref 43), some (.int a0), some (.int a1), some (.int a2), some (.int (80 + (4 * a0)))]) (st' := [.ref 44, .int a1, .ref 43]) (w' := (hp u fL fD, c, z)) rfl ?_
  refine mg_Ev.go 1 (pc' := 16) (loc' := [some (.ref 43), some (.int a0), some (.int a1), some (.int a2), some (.int (80 + (4 * a0)))]) (st' := [.int (80 + (4 * a0)), .ref 44, .int a1, .ref 43]) (w' := (hp u fL fD, c, z)) rfl ?_
  by_cases hb3167 : (80 + (4 * a0)) < 0 ∨ 690 ≤ (80 + (4 * a0)).toNatClampNeg
  · rw [if_pos hb3167] at h
    cases h
  · rw [if_neg hb3167] at h
    refine mg_Ev.iald (a := 43) (n := 690) (f := u 43) rfl (hpg_43 _ _ _) rfl hb3167 ?_
    obtain ⟨v1049, hf3168, h⟩ := Option.bind_eq_some_iff.mp h
    refine mg_Ev.call (y := 70) (as := [.ref 43, .int a1, .int (u 43 ((80 + (4 * a0)).toNatClampNeg))]) (rest := []) (v := some (.int v1049)) (w1 := (hp u fL fD, c, z)) rfl rfl (Nat.le_of_ble_eq_true rfl) ((ev_M_isUnder hf3168).deep (by decide)) ?_
    refine mg_Ev.br (P := v1049 = 0) (t := 40) (nx := 23) (st' := []) rfl rfl rfl rfl (fun hc3169 => ?_) (fun hc3169 => ?_)
    · rw [if_pos hc3169] at h
      refine mg_Ev.go 1 (pc' := 41) (loc' := [some (.ref 43), some (.int a0), some (.int a1), some (.int a2), some (.int (80 + (4 * a0)))]) (st' := [.int 0]) (w' := (hp u fL fD, c, z)) rfl ?_
      cases h
      exact mg_Ev.fin rfl rfl rfl
    · rw [if_neg hc3169] at h
      refine mg_Ev.go 5 (pc' := 31) (loc' := [some (.ref 43), some (.int a0), some (.int a1), some (.int a2), some (.int (80 + (4 * a0)))]) (st' := [.int ((80 + (4 * a0)) + 1), .ref 44]) (w' := (hp u fL fD, c, z)) rfl ?_
      by_cases hb3170 : ((80 + (4 * a0)) + 1) < 0 ∨ 690 ≤ ((80 + (4 * a0)) + 1).toNatClampNeg
      · rw [if_pos hb3170] at h
        cases h
      · rw [if_neg hb3170] at h
        refine mg_Ev.iald (a := 43) (n := 690) (f := u 43) rfl (hpg_43 _ _ _) rfl hb3170 ?_
        refine mg_Ev.go 1 (pc' := 33) (loc' := [some (.ref 43), some (.int a0), some (.int a1), some (.int a2), some (.int (80 + (4 * a0)))]) (st' := [.int a2, .int (u 43 (((80 + (4 * a0)) + 1).toNatClampNeg))]) (w' := (hp u fL fD, c, z)) rfl ?_
        refine mg_Ev.br (P := (u 43 (((80 + (4 * a0)) + 1).toNatClampNeg)) = a2) (t := 36) (nx := 40) (st' := []) rfl rfl rfl rfl (fun hc3171 => ?_) (fun hc3171 => ?_)
        · rw [if_pos hc3171] at h
          refine mg_Ev.go 2 (pc' := 41) (loc' := [some (.ref 43), some (.int a0), some (.int a1), some (.int a2), some (.int (80 + (4 * a0)))]) (st' := [.int 1]) (w' := (hp u fL fD, c, z)) rfl ?_
          cases h
          exact mg_Ev.fin rfl rfl rfl
        · rw [if_neg hc3171] at h
          refine mg_Ev.go 1 (pc' := 41) (loc' := [some (.ref 43), some (.int a0), some (.int a1), some (.int a2), some (.int (80 + (4 * a0)))]) (st' := [.int 0]) (w' := (hp u fL fD, c, z)) rfl ?_
          cases h
          exact mg_Ev.fin rfl rfl rfl

def M_isSuspended_L5 : Nat → Int32 → Int32 → Int32 → Int32 → mg_Rg → Option (Int32)
  | 0, _, _, _, _, _ => none
  | n + 1, x1, x2, x3, x4, u =>
    if (u 43 3) ≤ x4 then
    some (x3)
    else
    if (120 + (3 * x4)) < 0 ∨ 690 ≤ (120 + (3 * x4)).toNatClampNeg then none else
      (M_isUnder x1 (u 43 ((120 + (3 * x4)).toNatClampNeg)) u).bind fun v1050 =>
      if v1050 = 0 then
      M_isSuspended_L5 n x1 x2 (x3 ||| 0) (x4 + 1) u
      else
      if ((120 + (3 * x4)) + 1) < 0 ∨ 690 ≤ ((120 + (3 * x4)) + 1).toNatClampNeg then none else
        if ((120 + (3 * x4)) + 2) < 0 ∨ 690 ≤ ((120 + (3 * x4)) + 2).toNatClampNeg then none else
        (M_in x2 (u 43 (((120 + (3 * x4)) + 1).toNatClampNeg)) (u 43 (((120 + (3 * x4)) + 2).toNatClampNeg)) u).bind fun v1051 =>
        if v1051 = 0 then
        M_isSuspended_L5 n x1 x2 (x3 ||| 0) (x4 + 1) u
        else
        M_isSuspended_L5 n x1 x2 (x3 ||| 1) (x4 + 1) u
set_option maxRecDepth 10000 in
set_option maxHeartbeats 4000000 in
theorem ev_M_isSuspended_L5 {sc : mg_Sc} {c z : Nat} {fL : Nat → Int64} {fD : Nat → UInt64} : ∀ (n : Nat) (x1 : Int32) (x2 : Int32) (x3 : Int32) (x4 : Int32) (u : mg_Rg) (res : Int32), M_isSuspended_L5 n x1 x2 x3 x4 u = some res → ∀ r, (match res with | y3 => mg_Ev sc 2 87 79 [none, none, none, some (.int y3), none, none] [] (hp u fL fD, c, z) r) → mg_Ev sc 2 87 5 [some (.ref 43), some (.int x1), some (.int x2), some (.int x3), some (.int x4), none] [] (hp u fL fD, c, z) r := by
  intro n
  induction n with
  | zero => intro x1 x2 x3 x4 u res h; cases h
  | succ n ih =>
    intro x1 x2 x3 x4 u res h r K
    unfold M_isSuspended_L5 at h
    refine mg_Ev.go 4 (pc' := 12) (loc' := [some (.ref 43), some (.int x1), some (.int x2), some (.int x3), some (.int x4), none]) (st' := [.int 3, .ref 44, .int x4]) (w' := (hp u fL fD, c, z)) rfl ?_
    refine mg_Ev.iald (a := 43) (n := 690) (f := u 43) (j := 3) rfl (hpg_43 _ _ _) (by decide) (by decide) ?_
    refine mg_Ev.br (P := (u 43 3) ≤ x4) (t := 79) (nx := 16) (st' := []) rfl rfl rfl rfl (fun hc3172 => ?_) (fun hc3172 => ?_)
    · rw [if_pos hc3172] at h
      cases h
      exact mg_Ev.more (loc := [none, none, none, some (.int x3), none, none]) K ⟨rfl, trivial⟩
    · rw [if_neg hc3172] at h
      refine mg_Ev.go 10 (pc' := 29) (loc' := [some (.ref 43), some (.int x1), some (.int x2), some (.int x3), some (.int x4), some (.int (120 + (3 * x4)))]) (st' := [.ref 43, .int x1, .ref 43, .int x3]) (w' := (hp u fL fD, c, z)) rfl ?_
      refine mg_Ev.go 2 (pc' := 34) (loc' := [some (.ref 43), some (.int x1), some (.int x2), some (.int x3), some (.int x4), some (.int (120 + (3 * x4)))]) (st' := [.int (120 + (3 * x4)), .ref 44, .int x1, .ref 43, .int x3]) (w' := (hp u fL fD, c, z)) rfl ?_
      by_cases hb3173 : (120 + (3 * x4)) < 0 ∨ 690 ≤ (120 + (3 * x4)).toNatClampNeg
      · rw [if_pos hb3173] at h
        cases h
      · rw [if_neg hb3173] at h
        refine mg_Ev.iald (a := 43) (n := 690) (f := u 43) rfl (hpg_43 _ _ _) rfl hb3173 ?_
        obtain ⟨v1050, hf3174, h⟩ := Option.bind_eq_some_iff.mp h
        refine mg_Ev.call (y := 70) (as := [.ref 43, .int x1, .int (u 43 ((120 + (3 * x4)).toNatClampNeg))]) (rest := [.int x3]) (v := some (.int v1050)) (w1 := (hp u fL fD, c, z)) rfl rfl (Nat.le_of_ble_eq_true rfl) ((ev_M_isUnder hf3174).deep (by decide)) ?_
        refine mg_Ev.br (P := v1050 = 0) (t := 70) (nx := 41) (st' := [.int x3]) rfl rfl rfl rfl (fun hc3175 => ?_) (fun hc3175 => ?_)
        · rw [if_pos hc3175] at h
          refine mg_Ev.go 5 (pc' := 5) (loc' := [some (.ref 43), some (.int x1), some (.int x2), some (.int (x3 ||| 0)), some (.int (x4 + 1)), some (.int (120 + (3 * x4)))]) (st' := []) (w' := (hp u fL fD, c, z)) rfl ?_
          exact mg_Ev.more (loc := [some (.ref 43), some (.int x1), some (.int x2), some (.int (x3 ||| 0)), some (.int (x4 + 1)), none]) (ih _ _ _ _ _ _ h _ K) ⟨rfl, ⟨rfl, ⟨rfl, ⟨rfl, ⟨rfl, trivial⟩⟩⟩⟩⟩
        · rw [if_neg hc3175] at h
          refine mg_Ev.go 6 (pc' := 50) (loc' := [some (.ref 43), some (.int x1), some (.int x2), some (.int x3), some (.int x4), some (.int (120 + (3 * x4)))]) (st' := [.int ((120 + (3 * x4)) + 1), .ref 44, .int x2, .int x3]) (w' := (hp u fL fD, c, z)) rfl ?_
          by_cases hb3176 : ((120 + (3 * x4)) + 1) < 0 ∨ 690 ≤ ((120 + (3 * x4)) + 1).toNatClampNeg
          · rw [if_pos hb3176] at h
            cases h
          · rw [if_neg hb3176] at h
            refine mg_Ev.iald (a := 43) (n := 690) (f := u 43) rfl (hpg_43 _ _ _) rfl hb3176 ?_
            refine mg_Ev.go 5 (pc' := 59) (loc' := [some (.ref 43), some (.int x1), some (.int x2), some (.int x3), some (.int x4), some (.int (120 + (3 * x4)))]) (st' := [.int ((120 + (3 * x4)) + 2), .ref 44, .int (u 43 (((120 + (3 * x4)) + 1).toNatClampNeg)), .int x2, .int x3]) (w' := (hp u fL fD, c, z)) rfl ?_
            by_cases hb3177 : ((120 + (3 * x4)) + 2) < 0 ∨ 690 ≤ ((120 + (3 * x4)) + 2).toNatClampNeg
            · rw [if_pos hb3177] at h
              cases h
            · rw [if_neg hb3177] at h
              refine mg_Ev.iald (a := 43) (n := 690) (f := u 43) rfl (hpg_43 _ _ _) rfl hb3177 ?_
              obtain ⟨v1051, hf3178, h⟩ := Option.bind_eq_some_iff.mp h
              refine mg_Ev.call (y := 58) (as := [.int x2, .int (u 43 (((120 + (3 * x4)) + 1).toNatClampNeg)), .int (u 43 (((120 + (3 * x4)) + 2).toNatClampNeg))]) (rest := [.int x3]) (v := some (.int v1051)) (w1 := (hp u fL fD, c, z)) rfl rfl (Nat.le_of_ble_eq_true rfl) ((ev_M_in hf3178).deep (by decide)) ?_
              refine mg_Ev.br (P := v1051 = 0) (t := 70) (nx := 66) (st' := [.int x3]) rfl rfl rfl rfl (fun hc3179 => ?_) (fun hc3179 => ?_)
              · rw [if_pos hc3179] at h
                refine mg_Ev.go 5 (pc' := 5) (loc' := [some (.ref 43), some (.int x1), some (.int x2), some (.int (x3 ||| 0)), some (.int (x4 + 1)), some (.int (120 + (3 * x4)))]) (st' := []) (w' := (hp u fL fD, c, z)) rfl ?_
                exact mg_Ev.more (loc := [some (.ref 43), some (.int x1), some (.int x2), some (.int (x3 ||| 0)), some (.int (x4 + 1)), none]) (ih _ _ _ _ _ _ h _ K) ⟨rfl, ⟨rfl, ⟨rfl, ⟨rfl, ⟨rfl, trivial⟩⟩⟩⟩⟩
              · rw [if_neg hc3179] at h
                refine mg_Ev.go 6 (pc' := 5) (loc' := [some (.ref 43), some (.int x1), some (.int x2), some (.int (x3 ||| 1)), some (.int (x4 + 1)), some (.int (120 + (3 * x4)))]) (st' := []) (w' := (hp u fL fD, c, z)) rfl ?_
                exact mg_Ev.more (loc := [some (.ref 43), some (.int x1), some (.int x2), some (.int (x3 ||| 1)), some (.int (x4 + 1)), none]) (ih _ _ _ _ _ _ h _ K) ⟨rfl, ⟨rfl, ⟨rfl, ⟨rfl, ⟨rfl, trivial⟩⟩⟩⟩⟩

def M_isSuspended (a0 : Int32) (a1 : Int32) (u : mg_Rg) : Option (Int32) :=
  (M_isSuspended_L5 mg_F a0 a1 0 0 u).bind fun q3180 => match q3180 with
  | x1052 =>
    if x1052 = 0 ∨ x1052 = 1 then some x1052 else none

set_option maxRecDepth 10000 in
set_option maxHeartbeats 4000000 in
theorem ev_M_isSuspended {sc : mg_Sc} {c z : Nat} {fL : Nat → Int64} {fD : Nat → UInt64} {a0 : Int32} {a1 : Int32} {u : mg_Rg} {v : Int32} (h : M_isSuspended a0 a1 u = some v) : mg_Ev sc 2 87 0 (mg_entry 87 [.ref 43, .int a0, .int a1]) [] (hp u fL fD, c, z) (.inl (some (.int v)), (hp u fL fD, c, z)) := by
  unfold M_isSuspended at h
  show mg_Ev _ _ _ 0 [some (.ref 43), some (.int a0), some (.int a1), none, none, none] [] _ _
  refine mg_Ev.go 4 (pc' := 5) (loc' := [some (.ref 43), some (.int a0), some (.int a1), some (.int 0), some (.int 0), none]) (st' := []) (w' := (hp u fL fD, c, z)) rfl ?_
  obtain ⟨x1052, hl3181, h⟩ := Option.bind_eq_some_iff.mp h
  try dsimp only at h
  refine mg_Ev.more (loc := [some (.ref 43), some (.int a0), some (.int a1), some (.int 0), some (.int 0), none]) (ev_M_isSuspended_L5 _ _ _ _ _ _ _ hl3181 _ ?_) ⟨rfl, ⟨rfl, ⟨rfl, ⟨rfl, ⟨rfl, trivial⟩⟩⟩⟩⟩
  show mg_Ev _ _ _ 79 [none, none, none, some (.int x1052), none, none] [] (hp u fL fD, c, z) _
  refine mg_Ev.go 1 (pc' := 80) (loc' := [none, none, none, some (.int x1052), none, none]) (st' := [.int x1052]) (w' := (hp u fL fD, c, z)) rfl ?_
  by_cases hz3182 : x1052 = 0 ∨ x1052 = 1
  · rw [if_pos hz3182] at h
    cases h
    exact mg_Ev.zret rfl rfl rfl hz3182
  · rw [if_neg hz3182] at h
    cases h

def M_preferred_L8 : Nat → Int32 → Int32 → Int32 → Int32 → Int32 → Int32 → mg_Rg → Option (Int32)
  | 0, _, _, _, _, _, _, _ => none
  | n + 1, x1, x2, x3, x4, x5, x6, u =>
    if (u 43 2) ≤ x6 then
    some (x5)
    else
    (M_isFor x6 x1 x2 u).bind fun v1053 =>
      if v1053 = 0 then
      M_preferred_L8 n x1 x2 x3 x4 x5 (x6 + 1) u
      else
      if ((80 + (4 * x6)) + 3) < 0 ∨ 690 ≤ ((80 + (4 * x6)) + 3).toNatClampNeg then none else
        (M_meets x4 (u 43 (((80 + (4 * x6)) + 3).toNatClampNeg)) x3 u).bind fun v1054 =>
        if v1054 = 0 then
        M_preferred_L8 n x1 x2 x3 x4 x5 (x6 + 1) u
        else
        if ((80 + (4 * x6)) + 2) < 0 ∨ 690 ≤ ((80 + (4 * x6)) + 2).toNatClampNeg then none else
          if x5 ≤ (u 43 (((80 + (4 * x6)) + 2).toNatClampNeg)) then
          M_preferred_L8 n x1 x2 x3 x4 x5 (x6 + 1) u
          else
          if ((80 + (4 * x6)) + 2) < 0 ∨ 690 ≤ ((80 + (4 * x6)) + 2).toNatClampNeg then none else
            M_preferred_L8 n x1 x2 x3 x4 (u 43 (((80 + (4 * x6)) + 2).toNatClampNeg)) (x6 + 1) u
set_option maxRecDepth 10000 in
set_option maxHeartbeats 4000000 in
theorem ev_M_preferred_L8 {sc : mg_Sc} {c z : Nat} {fL : Nat → Int64} {fD : Nat → UInt64} : ∀ (n : Nat) (x1 : Int32) (x2 : Int32) (x3 : Int32) (x4 : Int32) (x5 : Int32) (x6 : Int32) (u : mg_Rg) (res : Int32), M_preferred_L8 n x1 x2 x3 x4 x5 x6 u = some res → ∀ r, (match res with | y5 => mg_Ev sc 3 88 112 [none, none, none, none, none, some (.int y5), none, none] [] (hp u fL fD, c, z) r) → mg_Ev sc 3 88 8 [some (.ref 43), some (.int x1), some (.int x2), some (.int x3), some (.int x4), some (.int x5), some (.int x6), none] [] (hp u fL fD, c, z) r := by
  intro n
  induction n with
  | zero => intro x1 x2 x3 x4 x5 x6 u res h; cases h
  | succ n ih =>
    intro x1 x2 x3 x4 x5 x6 u res h r K
    unfold M_preferred_L8 at h
    refine mg_Ev.go 4 (pc' := 15) (loc' := [some (.ref 43), some (.int x1), some (.int x2), some (.int x3), some (.int x4), some (.int x5), some (.int x6), none]) (st' := [.int 2, .ref 44, .int x6]) (w' := (hp u fL fD, c, z)) rfl ?_
    refine mg_Ev.iald (a := 43) (n := 690) (f := u 43) (j := 2) rfl (hpg_43 _ _ _) (by decide) (by decide) ?_
    refine mg_Ev.br (P := (u 43 2) ≤ x6) (t := 112) (nx := 19) (st' := []) rfl rfl rfl rfl (fun hc3183 => ?_) (fun hc3183 => ?_)
    · rw [if_pos hc3183] at h
      cases h
      exact mg_Ev.more (loc := [none, none, none, none, none, some (.int x5), none, none]) K ⟨rfl, trivial⟩
    · rw [if_neg hc3183] at h
      refine mg_Ev.go 4 (pc' := 24) (loc' := [some (.ref 43), some (.int x1), some (.int x2), some (.int x3), some (.int x4), some (.int x5), some (.int x6), none]) (st' := [.int x2, .int x1, .int x6, .ref 43]) (w' := (hp u fL fD, c, z)) rfl ?_
      obtain ⟨v1053, hf3184, h⟩ := Option.bind_eq_some_iff.mp h
      refine mg_Ev.call (y := 86) (as := [.ref 43, .int x6, .int x1, .int x2]) (rest := []) (v := some (.int v1053)) (w1 := (hp u fL fD, c, z)) rfl rfl (Nat.le_of_ble_eq_true rfl) ((ev_M_isFor hf3184).deep (by decide)) ?_
      refine mg_Ev.br (P := v1053 = 0) (t := 58) (nx := 30) (st' := []) rfl rfl rfl rfl (fun hc3185 => ?_) (fun hc3185 => ?_)
      · rw [if_pos hc3185] at h
        refine mg_Ev.go 3 (pc' := 63) (loc' := [some (.ref 43), some (.int x1), some (.int x2), some (.int x3), some (.int x4), some (.int x5), some (.int x6), some (.int 0)]) (st' := [.int 0]) (w' := (hp u fL fD, c, z)) rfl ?_
        refine mg_Ev.br (P := (0 : Int32) = 0) (t := 102) (nx := 66) (st' := []) rfl rfl rfl rfl (fun _ => ?_) (fun q => absurd (by decide) q)
        refine mg_Ev.go 4 (pc' := 8) (loc' := [some (.ref 43), some (.int x1), some (.int x2), some (.int x3), some (.int x4), some (.int x5), some (.int (x6 + 1)), some (.int 0)]) (st' := []) (w' := (hp u fL fD, c, z)) rfl ?_
        exact mg_Ev.more (loc := [some (.ref 43), some (.int x1), some (.int x2), some (.int x3), some (.int x4), some (.int x5), some (.int (x6 + 1)), none]) (ih _ _ _ _ _ _ _ _ h _ K) ⟨rfl, ⟨rfl, ⟨rfl, ⟨rfl, ⟨rfl, ⟨rfl, ⟨rfl, trivial⟩⟩⟩⟩⟩⟩⟩
      · rw [if_neg hc3185] at h
        refine mg_Ev.go 10 (pc' := 45) (loc' := [some (.ref 43), some (.int x1), some (.int x2), some (.int x3), some (.int x4), some (.int x5), some (.int x6), none]) (st' := [.int 3, .int (80 + (4 * x6)), .ref 44, .int x4, .ref 43]) (w' := (hp u fL fD, c, z)) rfl ?_
        refine mg_Ev.go 1 (pc' := 46) (loc' := [some (.ref 43), some (.int x1), some (.int x2), some (.int x3), some (.int x4), some (.int x5), some (.int x6), none]) (st' := [.int ((80 + (4 * x6)) + 3), .ref 44, .int x4, .ref 43]) (w' := (hp u fL fD, c, z)) rfl ?_
        by_cases hb3187 : ((80 + (4 * x6)) + 3) < 0 ∨ 690 ≤ ((80 + (4 * x6)) + 3).toNatClampNeg
        · rw [if_pos hb3187] at h
          cases h
        · rw [if_neg hb3187] at h
          refine mg_Ev.iald (a := 43) (n := 690) (f := u 43) rfl (hpg_43 _ _ _) rfl hb3187 ?_
          refine mg_Ev.go 1 (pc' := 48) (loc' := [some (.ref 43), some (.int x1), some (.int x2), some (.int x3), some (.int x4), some (.int x5), some (.int x6), none]) (st' := [.int x3, .int (u 43 (((80 + (4 * x6)) + 3).toNatClampNeg)), .int x4, .ref 43]) (w' := (hp u fL fD, c, z)) rfl ?_
          obtain ⟨v1054, hf3188, h⟩ := Option.bind_eq_some_iff.mp h
          refine mg_Ev.call (y := 85) (as := [.ref 43, .int x4, .int (u 43 (((80 + (4 * x6)) + 3).toNatClampNeg)), .int x3]) (rest := []) (v := some (.int v1054)) (w1 := (hp u fL fD, c, z)) rfl rfl (Nat.le_of_ble_eq_true rfl) ((ev_M_meets hf3188).deep (by decide)) ?_
          refine mg_Ev.br (P := v1054 = 0) (t := 58) (nx := 54) (st' := []) rfl rfl rfl rfl (fun hc3189 => ?_) (fun hc3189 => ?_)
          · rw [if_pos hc3189] at h
            refine mg_Ev.go 3 (pc' := 63) (loc' := [some (.ref 43), some (.int x1), some (.int x2), some (.int x3), some (.int x4), some (.int x5), some (.int x6), some (.int 0)]) (st' := [.int 0]) (w' := (hp u fL fD, c, z)) rfl ?_
            refine mg_Ev.br (P := (0 : Int32) = 0) (t := 102) (nx := 66) (st' := []) rfl rfl rfl rfl (fun _ => ?_) (fun q => absurd (by decide) q)
            refine mg_Ev.go 4 (pc' := 8) (loc' := [some (.ref 43), some (.int x1), some (.int x2), some (.int x3), some (.int x4), some (.int x5), some (.int (x6 + 1)), some (.int 0)]) (st' := []) (w' := (hp u fL fD, c, z)) rfl ?_
            exact mg_Ev.more (loc := [some (.ref 43), some (.int x1), some (.int x2), some (.int x3), some (.int x4), some (.int x5), some (.int (x6 + 1)), none]) (ih _ _ _ _ _ _ _ _ h _ K) ⟨rfl, ⟨rfl, ⟨rfl, ⟨rfl, ⟨rfl, ⟨rfl, ⟨rfl, trivial⟩⟩⟩⟩⟩⟩⟩
          · rw [if_neg hc3189] at h
            refine mg_Ev.go 4 (pc' := 63) (loc' := [some (.ref 43), some (.int x1), some (.int x2), some (.int x3), some (.int x4), some (.int x5), some (.int x6), some (.int 1)]) (st' := [.int 1]) (w' := (hp u fL fD, c, z)) rfl ?_
            refine mg_Ev.br (P := (1 : Int32) = 0) (t := 102) (nx := 66) (st' := []) rfl rfl rfl rfl (fun q => absurd q (by decide)) (fun _ => ?_)
            refine mg_Ev.go 9 (pc' := 79) (loc' := [some (.ref 43), some (.int x1), some (.int x2), some (.int x3), some (.int x4), some (.int x5), some (.int x6), some (.int 1)]) (st' := [.int ((80 + (4 * x6)) + 2), .ref 44]) (w' := (hp u fL fD, c, z)) rfl ?_
            by_cases hb3192 : ((80 + (4 * x6)) + 2) < 0 ∨ 690 ≤ ((80 + (4 * x6)) + 2).toNatClampNeg
            · rw [if_pos hb3192] at h
              cases h
            · rw [if_neg hb3192] at h
              refine mg_Ev.iald (a := 43) (n := 690) (f := u 43) rfl (hpg_43 _ _ _) rfl hb3192 ?_
              refine mg_Ev.go 1 (pc' := 82) (loc' := [some (.ref 43), some (.int x1), some (.int x2), some (.int x3), some (.int x4), some (.int x5), some (.int x6), some (.int 1)]) (st' := [.int x5, .int (u 43 (((80 + (4 * x6)) + 2).toNatClampNeg))]) (w' := (hp u fL fD, c, z)) rfl ?_
              refine mg_Ev.br (P := x5 ≤ (u 43 (((80 + (4 * x6)) + 2).toNatClampNeg))) (t := 102) (nx := 85) (st' := []) rfl rfl rfl rfl (fun hc3193 => ?_) (fun hc3193 => ?_)
              · rw [if_pos hc3193] at h
                refine mg_Ev.go 4 (pc' := 8) (loc' := [some (.ref 43), some (.int x1), some (.int x2), some (.int x3), some (.int x4), some (.int x5), some (.int (x6 + 1)), some (.int 1)]) (st' := []) (w' := (hp u fL fD, c, z)) rfl ?_
                exact mg_Ev.more (loc := [some (.ref 43), some (.int x1), some (.int x2), some (.int x3), some (.int x4), some (.int x5), some (.int (x6 + 1)), none]) (ih _ _ _ _ _ _ _ _ h _ K) ⟨rfl, ⟨rfl, ⟨rfl, ⟨rfl, ⟨rfl, ⟨rfl, ⟨rfl, trivial⟩⟩⟩⟩⟩⟩⟩
              · rw [if_neg hc3193] at h
                refine mg_Ev.go 9 (pc' := 98) (loc' := [some (.ref 43), some (.int x1), some (.int x2), some (.int x3), some (.int x4), some (.int x5), some (.int x6), some (.int 1)]) (st' := [.int ((80 + (4 * x6)) + 2), .ref 44]) (w' := (hp u fL fD, c, z)) rfl ?_
                by_cases hb3194 : ((80 + (4 * x6)) + 2) < 0 ∨ 690 ≤ ((80 + (4 * x6)) + 2).toNatClampNeg
                · rw [if_pos hb3194] at h
                  cases h
                · rw [if_neg hb3194] at h
                  refine mg_Ev.iald (a := 43) (n := 690) (f := u 43) rfl (hpg_43 _ _ _) rfl hb3194 ?_
                  refine mg_Ev.go 4 (pc' := 8) (loc' := [some (.ref 43), some (.int x1), some (.int x2), some (.int x3), some (.int x4), some (.int (u 43 (((80 + (4 * x6)) + 2).toNatClampNeg))), some (.int (x6 + 1)), some (.int 1)]) (st' := []) (w' := (hp u fL fD, c, z)) rfl ?_
                  exact mg_Ev.more (loc := [some (.ref 43), some (.int x1), some (.int x2), some (.int x3), some (.int x4), some (.int (u 43 (((80 + (4 * x6)) + 2).toNatClampNeg))), some (.int (x6 + 1)), none]) (ih _ _ _ _ _ _ _ _ h _ K) ⟨rfl, ⟨rfl, ⟨rfl, ⟨rfl, ⟨rfl, ⟨rfl, ⟨rfl, trivial⟩⟩⟩⟩⟩⟩⟩

def M_preferred (a0 : Int32) (a1 : Int32) (a2 : Int32) (a3 : Int32) (u : mg_Rg) : Option (Int32) :=
  (M_preferred_L8 mg_F a0 a1 a2 a3 1001 0 u).bind fun q3195 => match q3195 with
  | x1055 =>
    some x1055

set_option maxRecDepth 10000 in
set_option maxHeartbeats 4000000 in
theorem ev_M_preferred {sc : mg_Sc} {c z : Nat} {fL : Nat → Int64} {fD : Nat → UInt64} {a0 : Int32} {a1 : Int32} {a2 : Int32} {a3 : Int32} {u : mg_Rg} {v : Int32} (h : M_preferred a0 a1 a2 a3 u = some v) : mg_Ev sc 3 88 0 (mg_entry 88 [.ref 43, .int a0, .int a1, .int a2, .int a3]) [] (hp u fL fD, c, z) (.inl (some (.int v)), (hp u fL fD, c, z)) := by
  unfold M_preferred at h
  show mg_Ev _ _ _ 0 [some (.ref 43), some (.int a0), some (.int a1), some (.int a2), some (.int a3), none, none, none] [] _ _
  refine mg_Ev.go 4 (pc' := 8) (loc' := [some (.ref 43), some (.int a0), some (.int a1), some (.int a2), some (.int a3), some (.int 1001), some (.int 0), none]) (st' := []) (w' := (hp u fL fD, c, z)) rfl ?_
  obtain ⟨x1055, hl3196, h⟩ := Option.bind_eq_some_iff.mp h
  try dsimp only at h
  refine mg_Ev.more (loc := [some (.ref 43), some (.int a0), some (.int a1), some (.int a2), some (.int a3), some (.int 1001), some (.int 0), none]) (ev_M_preferred_L8 _ _ _ _ _ _ _ _ _ hl3196 _ ?_) ⟨rfl, ⟨rfl, ⟨rfl, ⟨rfl, ⟨rfl, ⟨rfl, ⟨rfl, trivial⟩⟩⟩⟩⟩⟩⟩
  show mg_Ev _ _ _ 112 [none, none, none, none, none, some (.int x1055), none, none] [] (hp u fL fD, c, z) _
  refine mg_Ev.go 1 (pc' := 114) (loc' := [none, none, none, none, none, some (.int x1055), none, none]) (st' := [.int x1055]) (w' := (hp u fL fD, c, z)) rfl ?_
  cases h
  exact mg_Ev.fin rfl rfl rfl

def M_goodsRate (a0 : Int32) (a1 : Int32) (a2 : Int32) (a3 : Int32) (a4 : Int32) (u : mg_Rg) : Option (Int32) :=
  (M_rateAt a0 u).bind fun v1056 =>
  (M_preferred a0 a1 a2 a3 u).bind fun v1057 =>
  (M_isSuspended a0 a4 u).bind fun v1058 =>
  if v1058 = 0 then
  if v1056 ≤ v1057 then
    some v1056
    else
    some v1057
  else
  some 0

set_option maxRecDepth 10000 in
set_option maxHeartbeats 4000000 in
theorem ev_M_goodsRate {sc : mg_Sc} {c z : Nat} {fL : Nat → Int64} {fD : Nat → UInt64} {a0 : Int32} {a1 : Int32} {a2 : Int32} {a3 : Int32} {a4 : Int32} {u : mg_Rg} {v : Int32} (h : M_goodsRate a0 a1 a2 a3 a4 u = some v) : mg_Ev sc 4 89 0 (mg_entry 89 [.ref 43, .int a0, .int a1, .int a2, .int a3, .int a4]) [] (hp u fL fD, c, z) (.inl (some (.int v)), (hp u fL fD, c, z)) := by
  unfold M_goodsRate at h
  show mg_Ev _ _ _ 0 [some (.ref 43), some (.int a0), some (.int a1), some (.int a2), some (.int a3), some (.int a4), none, none] [] _ _
  refine mg_Ev.go 2 (pc' := 2) (loc' := [some (.ref 43), some (.int a0), some (.int a1), some (.int a2), some (.int a3), some (.int a4), none, none]) (st' := [.int a0, .ref 43]) (w' := (hp u fL fD, c, z)) rfl ?_
  obtain ⟨v1056, hf3197, h⟩ := Option.bind_eq_some_iff.mp h
  refine mg_Ev.call (y := 71) (as := [.ref 43, .int a0]) (rest := []) (v := some (.int v1056)) (w1 := (hp u fL fD, c, z)) rfl rfl (Nat.le_of_ble_eq_true rfl) ((ev_M_rateAt hf3197).deep (by decide)) ?_
  refine mg_Ev.go 6 (pc' := 13) (loc' := [some (.ref 43), some (.int a0), some (.int a1), some (.int a2), some (.int a3), some (.int a4), some (.int v1056), none]) (st' := [.int a3, .int a2, .int a1, .int a0, .ref 43]) (w' := (hp u fL fD, c, z)) rfl ?_
  obtain ⟨v1057, hf3198, h⟩ := Option.bind_eq_some_iff.mp h
  refine mg_Ev.call (y := 88) (as := [.ref 43, .int a0, .int a1, .int a2, .int a3]) (rest := []) (v := some (.int v1057)) (w1 := (hp u fL fD, c, z)) rfl rfl (Nat.le_of_ble_eq_true rfl) ((ev_M_preferred hf3198).deep (by decide)) ?_
  refine mg_Ev.go 4 (pc' := 22) (loc' := [some (.ref 43), some (.int a0), some (.int a1), some (.int a2), some (.int a3), some (.int a4), some (.int v1056), some (.int v1057)]) (st' := [.int a4, .int a0, .ref 43]) (w' := (hp u fL fD, c, z)) rfl ?_
  obtain ⟨v1058, hf3199, h⟩ := Option.bind_eq_some_iff.mp h
  refine mg_Ev.call (y := 87) (as := [.ref 43, .int a0, .int a4]) (rest := []) (v := some (.int v1058)) (w1 := (hp u fL fD, c, z)) rfl rfl (Nat.le_of_ble_eq_true rfl) ((ev_M_isSuspended hf3199).deep (by decide)) ?_
  refine mg_Ev.br (P := v1058 = 0) (t := 32) (nx := 28) (st' := []) rfl rfl rfl rfl (fun hc3200 => ?_) (fun hc3200 => ?_)
  · rw [if_pos hc3200] at h
    refine mg_Ev.go 2 (pc' := 36) (loc' := [some (.ref 43), some (.int a0), some (.int a1), some (.int a2), some (.int a3), some (.int a4), some (.int v1056), some (.int v1057)]) (st' := [.int v1056, .int v1057]) (w' := (hp u fL fD, c, z)) rfl ?_
    refine mg_Ev.br (P := v1056 ≤ v1057) (t := 44) (nx := 39) (st' := []) rfl rfl rfl rfl (fun hc3201 => ?_) (fun hc3201 => ?_)
    · rw [if_pos hc3201] at h
      refine mg_Ev.go 1 (pc' := 46) (loc' := [some (.ref 43), some (.int a0), some (.int a1), some (.int a2), some (.int a3), some (.int a4), some (.int v1056), some (.int v1057)]) (st' := [.int v1056]) (w' := (hp u fL fD, c, z)) rfl ?_
      cases h
      exact mg_Ev.fin rfl rfl rfl
    · rw [if_neg hc3201] at h
      refine mg_Ev.go 2 (pc' := 46) (loc' := [some (.ref 43), some (.int a0), some (.int a1), some (.int a2), some (.int a3), some (.int a4), some (.int v1056), some (.int v1057)]) (st' := [.int v1057]) (w' := (hp u fL fD, c, z)) rfl ?_
      cases h
      exact mg_Ev.fin rfl rfl rfl
  · rw [if_neg hc3200] at h
    refine mg_Ev.go 2 (pc' := 46) (loc' := [some (.ref 43), some (.int a0), some (.int a1), some (.int a2), some (.int a3), some (.int a4), some (.int v1056), some (.int v1057)]) (st' := [.int 0]) (w' := (hp u fL fD, c, z)) rfl ?_
    cases h
    exact mg_Ev.fin rfl rfl rfl

def M_goodsFrom (a0 : Int32) (a1 : Int32) (a2 : Int32) (a3 : Int32) (a4 : Int32) (u : mg_Rg) : Option (Int32) :=
  (M_goodsRate a0 a1 a2 a3 a4 u).bind fun v1059 =>
  (M_rateAt a0 u).bind fun v1060 =>
  if v1060 = v1059 then
  some 0
  else
  (M_preferred a0 a1 a2 a3 u).bind fun v1061 =>
    if v1061 = v1059 then
    some 1
    else
    some 2

set_option maxRecDepth 10000 in
set_option maxHeartbeats 4000000 in
theorem ev_M_goodsFrom {sc : mg_Sc} {c z : Nat} {fL : Nat → Int64} {fD : Nat → UInt64} {a0 : Int32} {a1 : Int32} {a2 : Int32} {a3 : Int32} {a4 : Int32} {u : mg_Rg} {v : Int32} (h : M_goodsFrom a0 a1 a2 a3 a4 u = some v) : mg_Ev sc 5 90 0 (mg_entry 90 [.ref 43, .int a0, .int a1, .int a2, .int a3, .int a4]) [] (hp u fL fD, c, z) (.inl (some (.int v)), (hp u fL fD, c, z)) := by
  unfold M_goodsFrom at h
  show mg_Ev _ _ _ 0 [some (.ref 43), some (.int a0), some (.int a1), some (.int a2), some (.int a3), some (.int a4), none] [] _ _
  refine mg_Ev.go 6 (pc' := 8) (loc' := [some (.ref 43), some (.int a0), some (.int a1), some (.int a2), some (.int a3), some (.int a4), none]) (st' := [.int a4, .int a3, .int a2, .int a1, .int a0, .ref 43]) (w' := (hp u fL fD, c, z)) rfl ?_
  obtain ⟨v1059, hf3202, h⟩ := Option.bind_eq_some_iff.mp h
  refine mg_Ev.call (y := 89) (as := [.ref 43, .int a0, .int a1, .int a2, .int a3, .int a4]) (rest := []) (v := some (.int v1059)) (w1 := (hp u fL fD, c, z)) rfl rfl (Nat.le_of_ble_eq_true rfl) ((ev_M_goodsRate hf3202).deep (by decide)) ?_
  refine mg_Ev.go 3 (pc' := 15) (loc' := [some (.ref 43), some (.int a0), some (.int a1), some (.int a2), some (.int a3), some (.int a4), some (.int v1059)]) (st' := [.int a0, .ref 43]) (w' := (hp u fL fD, c, z)) rfl ?_
  obtain ⟨v1060, hf3203, h⟩ := Option.bind_eq_some_iff.mp h
  refine mg_Ev.call (y := 71) (as := [.ref 43, .int a0]) (rest := []) (v := some (.int v1060)) (w1 := (hp u fL fD, c, z)) rfl rfl (Nat.le_of_ble_eq_true rfl) ((ev_M_rateAt hf3203).deep (by decide)) ?_
  refine mg_Ev.go 1 (pc' := 20) (loc' := [some (.ref 43), some (.int a0), some (.int a1), some (.int a2), some (.int a3), some (.int a4), some (.int v1059)]) (st' := [.int v1059, .int v1060]) (w' := (hp u fL fD, c, z)) rfl ?_
  refine mg_Ev.br (P := v1060 = v1059) (t := 23) (nx := 27) (st' := []) rfl rfl rfl rfl (fun hc3204 => ?_) (fun hc3204 => ?_)
  · rw [if_pos hc3204] at h
    refine mg_Ev.go 2 (pc' := 46) (loc' := [some (.ref 43), some (.int a0), some (.int a1), some (.int a2), some (.int a3), some (.int a4), some (.int v1059)]) (st' := [.int 0]) (w' := (hp u fL fD, c, z)) rfl ?_
    cases h
    exact mg_Ev.fin rfl rfl rfl
  · rw [if_neg hc3204] at h
    refine mg_Ev.go 5 (pc' := 33) (loc' := [some (.ref 43), some (.int a0), some (.int a1), some (.int a2), some (.int a3), some (.int a4), some (.int v1059)]) (st' := [.int a3, .int a2, .int a1, .int a0, .ref 43]) (w' := (hp u fL fD, c, z)) rfl ?_
    obtain ⟨v1061, hf3205, h⟩ := Option.bind_eq_some_iff.mp h
    refine mg_Ev.call (y := 88) (as := [.ref 43, .int a0, .int a1, .int a2, .int a3]) (rest := []) (v := some (.int v1061)) (w1 := (hp u fL fD, c, z)) rfl rfl (Nat.le_of_ble_eq_true rfl) ((ev_M_preferred hf3205).deep (by decide)) ?_
    refine mg_Ev.go 1 (pc' := 38) (loc' := [some (.ref 43), some (.int a0), some (.int a1), some (.int a2), some (.int a3), some (.int a4), some (.int v1059)]) (st' := [.int v1059, .int v1061]) (w' := (hp u fL fD, c, z)) rfl ?_
    refine mg_Ev.br (P := v1061 = v1059) (t := 41) (nx := 45) (st' := []) rfl rfl rfl rfl (fun hc3206 => ?_) (fun hc3206 => ?_)
    · rw [if_pos hc3206] at h
      refine mg_Ev.go 2 (pc' := 46) (loc' := [some (.ref 43), some (.int a0), some (.int a1), some (.int a2), some (.int a3), some (.int a4), some (.int v1059)]) (st' := [.int 1]) (w' := (hp u fL fD, c, z)) rfl ?_
      cases h
      exact mg_Ev.fin rfl rfl rfl
    · rw [if_neg hc3206] at h
      refine mg_Ev.go 1 (pc' := 46) (loc' := [some (.ref 43), some (.int a0), some (.int a1), some (.int a2), some (.int a3), some (.int a4), some (.int v1059)]) (st' := [.int 2]) (w' := (hp u fL fD, c, z)) rfl ?_
      cases h
      exact mg_Ev.fin rfl rfl rfl

def M_wrongGoods (a0 : Int32) (a1 : Int32) (a2 : Int32) (a3 : Int32) (u : mg_Rg) : Option (Int32) :=
  (M_isHead a0 u).bind fun v1062 =>
  if v1062 = 0 then
  some 1
  else
  (M_isCountry a1 u).bind fun v1063 =>
    if v1063 = 0 then
    some 1
    else
    (M_in a2 1 99999 u).bind fun v1064 =>
      if v1064 = 0 then
      some 2
      else
      (M_in a3 0 2 u).bind fun v1065 =>
        if v1065 = 0 then
        some 2
        else
        some 0

set_option maxRecDepth 10000 in
set_option maxHeartbeats 4000000 in
theorem ev_M_wrongGoods {sc : mg_Sc} {c z : Nat} {fL : Nat → Int64} {fD : Nat → UInt64} {a0 : Int32} {a1 : Int32} {a2 : Int32} {a3 : Int32} {u : mg_Rg} {v : Int32} (h : M_wrongGoods a0 a1 a2 a3 u = some v) : mg_Ev sc 2 91 0 (mg_entry 91 [.ref 43, .int a0, .int a1, .int a2, .int a3]) [] (hp u fL fD, c, z) (.inl (some (.int v)), (hp u fL fD, c, z)) := by
  unfold M_wrongGoods at h
  show mg_Ev _ _ _ 0 [some (.ref 43), some (.int a0), some (.int a1), some (.int a2), some (.int a3)] [] _ _
  refine mg_Ev.go 2 (pc' := 2) (loc' := [some (.ref 43), some (.int a0), some (.int a1), some (.int a2), some (.int a3)]) (st' := [.int a0, .ref 43]) (w' := (hp u fL fD, c, z)) rfl ?_
  obtain ⟨v1062, hf3207, h⟩ := Option.bind_eq_some_iff.mp h
  refine mg_Ev.call (y := 64) (as := [.ref 43, .int a0]) (rest := []) (v := some (.int v1062)) (w1 := (hp u fL fD, c, z)) rfl rfl (Nat.le_of_ble_eq_true rfl) ((ev_M_isHead hf3207).deep (by decide)) ?_
  refine mg_Ev.br (P := v1062 = 0) (t := 15) (nx := 8) (st' := []) rfl rfl rfl rfl (fun hc3208 => ?_) (fun hc3208 => ?_)
  · rw [if_pos hc3208] at h
    refine mg_Ev.go 1 (pc' := 16) (loc' := [some (.ref 43), some (.int a0), some (.int a1), some (.int a2), some (.int a3)]) (st' := [.int 1]) (w' := (hp u fL fD, c, z)) rfl ?_
    cases h
    exact mg_Ev.fin rfl rfl rfl
  · rw [if_neg hc3208] at h
    refine mg_Ev.go 1 (pc' := 9) (loc' := [some (.ref 43), some (.int a0), some (.int a1), some (.int a2), some (.int a3)]) (st' := [.int a1]) (w' := (hp u fL fD, c, z)) rfl ?_
    obtain ⟨v1063, hf3209, h⟩ := Option.bind_eq_some_iff.mp h
    refine mg_Ev.call (y := 65) (as := [.int a1]) (rest := []) (v := some (.int v1063)) (w1 := (hp u fL fD, c, z)) rfl rfl (Nat.le_of_ble_eq_true rfl) ((ev_M_isCountry hf3209).deep (by decide)) ?_
    refine mg_Ev.br (P := v1063 = 0) (t := 15) (nx := 17) (st' := []) rfl rfl rfl rfl (fun hc3210 => ?_) (fun hc3210 => ?_)
    · rw [if_pos hc3210] at h
      refine mg_Ev.go 1 (pc' := 16) (loc' := [some (.ref 43), some (.int a0), some (.int a1), some (.int a2), some (.int a3)]) (st' := [.int 1]) (w' := (hp u fL fD, c, z)) rfl ?_
      cases h
      exact mg_Ev.fin rfl rfl rfl
    · rw [if_neg hc3210] at h
      refine mg_Ev.go 3 (pc' := 21) (loc' := [some (.ref 43), some (.int a0), some (.int a1), some (.int a2), some (.int a3)]) (st' := [.int 99999, .int 1, .int a2]) (w' := (hp u fL fD, c, z)) rfl ?_
      obtain ⟨v1064, hf3211, h⟩ := Option.bind_eq_some_iff.mp h
      refine mg_Ev.call (y := 58) (as := [.int a2, .int 1, .int 99999]) (rest := []) (v := some (.int v1064)) (w1 := (hp u fL fD, c, z)) rfl rfl (Nat.le_of_ble_eq_true rfl) ((ev_M_in hf3211).deep (by decide)) ?_
      refine mg_Ev.br (P := v1064 = 0) (t := 41) (nx := 27) (st' := []) rfl rfl rfl rfl (fun hc3212 => ?_) (fun hc3212 => ?_)
      · rw [if_pos hc3212] at h
        refine mg_Ev.go 1 (pc' := 42) (loc' := [some (.ref 43), some (.int a0), some (.int a1), some (.int a2), some (.int a3)]) (st' := [.int 2]) (w' := (hp u fL fD, c, z)) rfl ?_
        cases h
        exact mg_Ev.fin rfl rfl rfl
      · rw [if_neg hc3212] at h
        refine mg_Ev.go 3 (pc' := 31) (loc' := [some (.ref 43), some (.int a0), some (.int a1), some (.int a2), some (.int a3)]) (st' := [.int 2, .int 0, .int a3]) (w' := (hp u fL fD, c, z)) rfl ?_
        obtain ⟨v1065, hf3213, h⟩ := Option.bind_eq_some_iff.mp h
        refine mg_Ev.call (y := 58) (as := [.int a3, .int 0, .int 2]) (rest := []) (v := some (.int v1065)) (w1 := (hp u fL fD, c, z)) rfl rfl (Nat.le_of_ble_eq_true rfl) ((ev_M_in hf3213).deep (by decide)) ?_
        refine mg_Ev.br (P := v1065 = 0) (t := 41) (nx := 37) (st' := []) rfl rfl rfl rfl (fun hc3214 => ?_) (fun hc3214 => ?_)
        · rw [if_pos hc3214] at h
          refine mg_Ev.go 1 (pc' := 42) (loc' := [some (.ref 43), some (.int a0), some (.int a1), some (.int a2), some (.int a3)]) (st' := [.int 2]) (w' := (hp u fL fD, c, z)) rfl ?_
          cases h
          exact mg_Ev.fin rfl rfl rfl
        · rw [if_neg hc3214] at h
          refine mg_Ev.go 2 (pc' := 42) (loc' := [some (.ref 43), some (.int a0), some (.int a1), some (.int a2), some (.int a3)]) (st' := [.int 0]) (w' := (hp u fL fD, c, z)) rfl ?_
          cases h
          exact mg_Ev.fin rfl rfl rfl

def M_rateOf (a0 : Int32) (a1 : Int32) (a2 : Int32) (a3 : Int32) (u : mg_Rg) : Option (Int32 × mg_Rg) :=
  (M_wrongGoods a0 a1 a2 a3 u).bind fun v1066 =>
  if v1066 = 0 then
  (M_goodsRate a0 a1 a2 a3 (u 43 0) u).bind fun v1067 =>
    (M_done v1067 u).bind fun p1070 => match p1070 with
    | (v1068, u1069) =>
      some (v1068, u1069)
  else
  (M_fails v1066 u).bind fun p1073 => match p1073 with
    | (v1071, u1072) =>
      some (v1071, u1072)

set_option maxRecDepth 10000 in
set_option maxHeartbeats 4000000 in
theorem ev_M_rateOf {sc : mg_Sc} {c z : Nat} {fL : Nat → Int64} {fD : Nat → UInt64} {a0 : Int32} {a1 : Int32} {a2 : Int32} {a3 : Int32} {u : mg_Rg} {p : Int32 × mg_Rg} (h : M_rateOf a0 a1 a2 a3 u = some p) : mg_Ev sc 5 92 0 (mg_entry 92 [.ref 43, .int a0, .int a1, .int a2, .int a3]) [] (hp u fL fD, c, z) (.inl (some (.int p.1)), (hp p.2 fL fD, c, z)) := by
  unfold M_rateOf at h
  show mg_Ev _ _ _ 0 [some (.ref 43), some (.int a0), some (.int a1), some (.int a2), some (.int a3), none] [] _ _
  refine mg_Ev.go 5 (pc' := 6) (loc' := [some (.ref 43), some (.int a0), some (.int a1), some (.int a2), some (.int a3), none]) (st' := [.int a3, .int a2, .int a1, .int a0, .ref 43]) (w' := (hp u fL fD, c, z)) rfl ?_
  obtain ⟨v1066, hf3215, h⟩ := Option.bind_eq_some_iff.mp h
  refine mg_Ev.call (y := 91) (as := [.ref 43, .int a0, .int a1, .int a2, .int a3]) (rest := []) (v := some (.int v1066)) (w1 := (hp u fL fD, c, z)) rfl rfl (Nat.le_of_ble_eq_true rfl) ((ev_M_wrongGoods hf3215).deep (by decide)) ?_
  refine mg_Ev.go 2 (pc' := 13) (loc' := [some (.ref 43), some (.int a0), some (.int a1), some (.int a2), some (.int a3), some (.int v1066)]) (st' := [.int v1066]) (w' := (hp u fL fD, c, z)) rfl ?_
  refine mg_Ev.br (P := v1066 = 0) (t := 25) (nx := 16) (st' := []) rfl rfl rfl rfl (fun hc3216 => ?_) (fun hc3216 => ?_)
  · rw [if_pos hc3216] at h
    refine mg_Ev.go 9 (pc' := 37) (loc' := [some (.ref 43), some (.int a0), some (.int a1), some (.int a2), some (.int a3), some (.int v1066)]) (st' := [.int 0, .ref 44, .int a3, .int a2, .int a1, .int a0, .ref 43, .ref 43]) (w' := (hp u fL fD, c, z)) rfl ?_
    refine mg_Ev.iald (a := 43) (n := 690) (f := u 43) (j := 0) rfl (hpg_43 _ _ _) (by decide) (by decide) ?_
    obtain ⟨v1067, hf3217, h⟩ := Option.bind_eq_some_iff.mp h
    refine mg_Ev.call (y := 89) (as := [.ref 43, .int a0, .int a1, .int a2, .int a3, .int (u 43 0)]) (rest := [.ref 43]) (v := some (.int v1067)) (w1 := (hp u fL fD, c, z)) rfl rfl (Nat.le_of_ble_eq_true rfl) ((ev_M_goodsRate hf3217).deep (by decide)) ?_
    obtain ⟨⟨v1068, u1069⟩, hf3218, h⟩ := Option.bind_eq_some_iff.mp h
    try dsimp only at h
    refine mg_Ev.call (y := 60) (as := [.ref 43, .int v1067]) (rest := []) (v := some (.int v1068)) (w1 := (hp u1069 fL fD, c, z)) rfl rfl (Nat.le_of_ble_eq_true rfl) ((ev_M_done hf3218).deep (by decide)) ?_
    cases h
    exact mg_Ev.fin rfl rfl rfl
  · rw [if_neg hc3216] at h
    refine mg_Ev.go 2 (pc' := 19) (loc' := [some (.ref 43), some (.int a0), some (.int a1), some (.int a2), some (.int a3), some (.int v1066)]) (st' := [.int v1066, .ref 43]) (w' := (hp u fL fD, c, z)) rfl ?_
    obtain ⟨⟨v1071, u1072⟩, hf3219, h⟩ := Option.bind_eq_some_iff.mp h
    try dsimp only at h
    refine mg_Ev.call (y := 59) (as := [.ref 43, .int v1066]) (rest := []) (v := some (.int v1071)) (w1 := (hp u1072 fL fD, c, z)) rfl rfl (Nat.le_of_ble_eq_true rfl) ((ev_M_fails hf3219).deep (by decide)) ?_
    refine mg_Ev.go 1 (pc' := 44) (loc' := [some (.ref 43), some (.int a0), some (.int a1), some (.int a2), some (.int a3), some (.int v1066)]) (st' := [.int v1071]) (w' := (hp u1072 fL fD, c, z)) rfl ?_
    cases h
    exact mg_Ev.fin rfl rfl rfl

def M_comesFrom (a0 : Int32) (a1 : Int32) (a2 : Int32) (a3 : Int32) (u : mg_Rg) : Option (Int32 × mg_Rg) :=
  (M_wrongGoods a0 a1 a2 a3 u).bind fun v1074 =>
  if v1074 = 0 then
  (M_goodsFrom a0 a1 a2 a3 (u 43 0) u).bind fun v1075 =>
    (M_done v1075 u).bind fun p1078 => match p1078 with
    | (v1076, u1077) =>
      some (v1076, u1077)
  else
  (M_fails v1074 u).bind fun p1081 => match p1081 with
    | (v1079, u1080) =>
      some (v1079, u1080)

set_option maxRecDepth 10000 in
set_option maxHeartbeats 4000000 in
theorem ev_M_comesFrom {sc : mg_Sc} {c z : Nat} {fL : Nat → Int64} {fD : Nat → UInt64} {a0 : Int32} {a1 : Int32} {a2 : Int32} {a3 : Int32} {u : mg_Rg} {p : Int32 × mg_Rg} (h : M_comesFrom a0 a1 a2 a3 u = some p) : mg_Ev sc 6 93 0 (mg_entry 93 [.ref 43, .int a0, .int a1, .int a2, .int a3]) [] (hp u fL fD, c, z) (.inl (some (.int p.1)), (hp p.2 fL fD, c, z)) := by
  unfold M_comesFrom at h
  show mg_Ev _ _ _ 0 [some (.ref 43), some (.int a0), some (.int a1), some (.int a2), some (.int a3), none] [] _ _
  refine mg_Ev.go 5 (pc' := 6) (loc' := [some (.ref 43), some (.int a0), some (.int a1), some (.int a2), some (.int a3), none]) (st' := [.int a3, .int a2, .int a1, .int a0, .ref 43]) (w' := (hp u fL fD, c, z)) rfl ?_
  obtain ⟨v1074, hf3220, h⟩ := Option.bind_eq_some_iff.mp h
  refine mg_Ev.call (y := 91) (as := [.ref 43, .int a0, .int a1, .int a2, .int a3]) (rest := []) (v := some (.int v1074)) (w1 := (hp u fL fD, c, z)) rfl rfl (Nat.le_of_ble_eq_true rfl) ((ev_M_wrongGoods hf3220).deep (by decide)) ?_
  refine mg_Ev.go 2 (pc' := 13) (loc' := [some (.ref 43), some (.int a0), some (.int a1), some (.int a2), some (.int a3), some (.int v1074)]) (st' := [.int v1074]) (w' := (hp u fL fD, c, z)) rfl ?_
  refine mg_Ev.br (P := v1074 = 0) (t := 25) (nx := 16) (st' := []) rfl rfl rfl rfl (fun hc3221 => ?_) (fun hc3221 => ?_)
  · rw [if_pos hc3221] at h
    refine mg_Ev.go 9 (pc' := 37) (loc' := [some (.ref 43), some (.int a0), some (.int a1), some (.int a2), some (.int a3), some (.int v1074)]) (st' := [.int 0, .ref 44, .int a3, .int a2, .int a1, .int a0, .ref 43, .ref 43]) (w' := (hp u fL fD, c, z)) rfl ?_
    refine mg_Ev.iald (a := 43) (n := 690) (f := u 43) (j := 0) rfl (hpg_43 _ _ _) (by decide) (by decide) ?_
    obtain ⟨v1075, hf3222, h⟩ := Option.bind_eq_some_iff.mp h
    refine mg_Ev.call (y := 90) (as := [.ref 43, .int a0, .int a1, .int a2, .int a3, .int (u 43 0)]) (rest := [.ref 43]) (v := some (.int v1075)) (w1 := (hp u fL fD, c, z)) rfl rfl (Nat.le_of_ble_eq_true rfl) ((ev_M_goodsFrom hf3222).deep (by decide)) ?_
    obtain ⟨⟨v1076, u1077⟩, hf3223, h⟩ := Option.bind_eq_some_iff.mp h
    try dsimp only at h
    refine mg_Ev.call (y := 60) (as := [.ref 43, .int v1075]) (rest := []) (v := some (.int v1076)) (w1 := (hp u1077 fL fD, c, z)) rfl rfl (Nat.le_of_ble_eq_true rfl) ((ev_M_done hf3223).deep (by decide)) ?_
    cases h
    exact mg_Ev.fin rfl rfl rfl
  · rw [if_neg hc3221] at h
    refine mg_Ev.go 2 (pc' := 19) (loc' := [some (.ref 43), some (.int a0), some (.int a1), some (.int a2), some (.int a3), some (.int v1074)]) (st' := [.int v1074, .ref 43]) (w' := (hp u fL fD, c, z)) rfl ?_
    obtain ⟨⟨v1079, u1080⟩, hf3224, h⟩ := Option.bind_eq_some_iff.mp h
    try dsimp only at h
    refine mg_Ev.call (y := 59) (as := [.ref 43, .int v1074]) (rest := []) (v := some (.int v1079)) (w1 := (hp u1080 fL fD, c, z)) rfl rfl (Nat.le_of_ble_eq_true rfl) ((ev_M_fails hf3224).deep (by decide)) ?_
    refine mg_Ev.go 1 (pc' := 44) (loc' := [some (.ref 43), some (.int a0), some (.int a1), some (.int a2), some (.int a3), some (.int v1074)]) (st' := [.int v1079]) (w' := (hp u1080 fL fD, c, z)) rfl ?_
    cases h
    exact mg_Ev.fin rfl rfl rfl

def M_missed_L46 : Nat → Int32 → Int32 → Int32 → Int32 → Int32 → Int32 → Int32 → mg_Rg → Option (Int32 × mg_Rg)
  | 0, _, _, _, _, _, _, _, _ => none
  | n + 1, x1, x2, x3, x4, x6, x7, x8, u =>
    if (u 43 2) ≤ x8 then
    some ((x6, u))
    else
    (M_isFor x8 x1 x2 u).bind fun v1084 =>
      if v1084 = 0 then
      M_missed_L46 n x1 x2 x3 x4 x6 x7 (x8 + 1) u
      else
      if ((80 + (4 * x8)) + 3) < 0 ∨ 690 ≤ ((80 + (4 * x8)) + 3).toNatClampNeg then none else
        (M_meets x4 (u 43 (((80 + (4 * x8)) + 3).toNatClampNeg)) x3 u).bind fun v1085 =>
        if v1085 = 0 then
        if ((80 + (4 * x8)) + 2) < 0 ∨ 690 ≤ ((80 + (4 * x8)) + 2).toNatClampNeg then none else
          if x7 ≤ (u 43 (((80 + (4 * x8)) + 2).toNatClampNeg)) then
          M_missed_L46 n x1 x2 x3 x4 x6 x7 (x8 + 1) u
          else
          if ((80 + (4 * x8)) + 2) < 0 ∨ 690 ≤ ((80 + (4 * x8)) + 2).toNatClampNeg then none else
            M_missed_L46 n x1 x2 x3 x4 x8 (u 43 (((80 + (4 * x8)) + 2).toNatClampNeg)) (x8 + 1) u
        else
        M_missed_L46 n x1 x2 x3 x4 x6 x7 (x8 + 1) u
set_option maxRecDepth 10000 in
set_option maxHeartbeats 4000000 in
theorem ev_M_missed_L46 {sc : mg_Sc} {c z : Nat} {fL : Nat → Int64} {fD : Nat → UInt64} : ∀ (n : Nat) (x1 : Int32) (x2 : Int32) (x3 : Int32) (x4 : Int32) (x6 : Int32) (x7 : Int32) (x8 : Int32) (u : mg_Rg) (res : Int32 × mg_Rg), M_missed_L46 n x1 x2 x3 x4 x6 x7 x8 u = some res → ∀ r, (match res with | (y6, yu) => mg_Ev sc 5 94 149 [some (.ref 43), none, none, none, none, none, some (.int y6), none, none, none] [] (hp yu fL fD, c, z) r) → mg_Ev sc 5 94 46 [some (.ref 43), some (.int x1), some (.int x2), some (.int x3), some (.int x4), none, some (.int x6), some (.int x7), some (.int x8), none] [] (hp u fL fD, c, z) r := by
  intro n
  induction n with
  | zero => intro x1 x2 x3 x4 x6 x7 x8 u res h; cases h
  | succ n ih =>
    intro x1 x2 x3 x4 x6 x7 x8 u res h r K
    unfold M_missed_L46 at h
    refine mg_Ev.go 4 (pc' := 53) (loc' := [some (.ref 43), some (.int x1), some (.int x2), some (.int x3), some (.int x4), none, some (.int x6), some (.int x7), some (.int x8), none]) (st' := [.int 2, .ref 44, .int x8]) (w' := (hp u fL fD, c, z)) rfl ?_
    refine mg_Ev.iald (a := 43) (n := 690) (f := u 43) (j := 2) rfl (hpg_43 _ _ _) (by decide) (by decide) ?_
    refine mg_Ev.br (P := (u 43 2) ≤ x8) (t := 149) (nx := 57) (st' := []) rfl rfl rfl rfl (fun hc3225 => ?_) (fun hc3225 => ?_)
    · rw [if_pos hc3225] at h
      cases h
      exact mg_Ev.more (loc := [some (.ref 43), none, none, none, none, none, some (.int x6), none, none, none]) K ⟨rfl, ⟨rfl, trivial⟩⟩
    · rw [if_neg hc3225] at h
      refine mg_Ev.go 4 (pc' := 62) (loc' := [some (.ref 43), some (.int x1), some (.int x2), some (.int x3), some (.int x4), none, some (.int x6), some (.int x7), some (.int x8), none]) (st' := [.int x2, .int x1, .int x8, .ref 43]) (w' := (hp u fL fD, c, z)) rfl ?_
      obtain ⟨v1084, hf3226, h⟩ := Option.bind_eq_some_iff.mp h
      refine mg_Ev.call (y := 86) (as := [.ref 43, .int x8, .int x1, .int x2]) (rest := []) (v := some (.int v1084)) (w1 := (hp u fL fD, c, z)) rfl rfl (Nat.le_of_ble_eq_true rfl) ((ev_M_isFor hf3226).deep (by decide)) ?_
      refine mg_Ev.br (P := v1084 = 0) (t := 96) (nx := 68) (st' := []) rfl rfl rfl rfl (fun hc3227 => ?_) (fun hc3227 => ?_)
      · rw [if_pos hc3227] at h
        refine mg_Ev.go 3 (pc' := 101) (loc' := [some (.ref 43), some (.int x1), some (.int x2), some (.int x3), some (.int x4), none, some (.int x6), some (.int x7), some (.int x8), some (.int 0)]) (st' := [.int 0]) (w' := (hp u fL fD, c, z)) rfl ?_
        refine mg_Ev.br (P := (0 : Int32) = 0) (t := 143) (nx := 104) (st' := []) rfl rfl rfl rfl (fun _ => ?_) (fun q => absurd (by decide) q)
        refine mg_Ev.go 2 (pc' := 46) (loc' := [some (.ref 43), some (.int x1), some (.int x2), some (.int x3), some (.int x4), none, some (.int x6), some (.int x7), some (.int (x8 + 1)), some (.int 0)]) (st' := []) (w' := (hp u fL fD, c, z)) rfl ?_
        exact mg_Ev.more (loc := [some (.ref 43), some (.int x1), some (.int x2), some (.int x3), some (.int x4), none, some (.int x6), some (.int x7), some (.int (x8 + 1)), none]) (ih _ _ _ _ _ _ _ _ _ h _ K) ⟨rfl, ⟨rfl, ⟨rfl, ⟨rfl, ⟨rfl, ⟨rfl, ⟨rfl, ⟨rfl, trivial⟩⟩⟩⟩⟩⟩⟩⟩
      · rw [if_neg hc3227] at h
        refine mg_Ev.go 10 (pc' := 83) (loc' := [some (.ref 43), some (.int x1), some (.int x2), some (.int x3), some (.int x4), none, some (.int x6), some (.int x7), some (.int x8), none]) (st' := [.int 3, .int (80 + (4 * x8)), .ref 44, .int x4, .ref 43]) (w' := (hp u fL fD, c, z)) rfl ?_
        refine mg_Ev.go 1 (pc' := 84) (loc' := [some (.ref 43), some (.int x1), some (.int x2), some (.int x3), some (.int x4), none, some (.int x6), some (.int x7), some (.int x8), none]) (st' := [.int ((80 + (4 * x8)) + 3), .ref 44, .int x4, .ref 43]) (w' := (hp u fL fD, c, z)) rfl ?_
        by_cases hb3229 : ((80 + (4 * x8)) + 3) < 0 ∨ 690 ≤ ((80 + (4 * x8)) + 3).toNatClampNeg
        · rw [if_pos hb3229] at h
          cases h
        · rw [if_neg hb3229] at h
          refine mg_Ev.iald (a := 43) (n := 690) (f := u 43) rfl (hpg_43 _ _ _) rfl hb3229 ?_
          refine mg_Ev.go 1 (pc' := 86) (loc' := [some (.ref 43), some (.int x1), some (.int x2), some (.int x3), some (.int x4), none, some (.int x6), some (.int x7), some (.int x8), none]) (st' := [.int x3, .int (u 43 (((80 + (4 * x8)) + 3).toNatClampNeg)), .int x4, .ref 43]) (w' := (hp u fL fD, c, z)) rfl ?_
          obtain ⟨v1085, hf3230, h⟩ := Option.bind_eq_some_iff.mp h
          refine mg_Ev.call (y := 85) (as := [.ref 43, .int x4, .int (u 43 (((80 + (4 * x8)) + 3).toNatClampNeg)), .int x3]) (rest := []) (v := some (.int v1085)) (w1 := (hp u fL fD, c, z)) rfl rfl (Nat.le_of_ble_eq_true rfl) ((ev_M_meets hf3230).deep (by decide)) ?_
          refine mg_Ev.br (P := v1085 = 0) (t := 92) (nx := 96) (st' := []) rfl rfl rfl rfl (fun hc3231 => ?_) (fun hc3231 => ?_)
          · rw [if_pos hc3231] at h
            refine mg_Ev.go 4 (pc' := 101) (loc' := [some (.ref 43), some (.int x1), some (.int x2), some (.int x3), some (.int x4), none, some (.int x6), some (.int x7), some (.int x8), some (.int 1)]) (st' := [.int 1]) (w' := (hp u fL fD, c, z)) rfl ?_
            refine mg_Ev.br (P := (1 : Int32) = 0) (t := 143) (nx := 104) (st' := []) rfl rfl rfl rfl (fun q => absurd q (by decide)) (fun _ => ?_)
            refine mg_Ev.go 9 (pc' := 117) (loc' := [some (.ref 43), some (.int x1), some (.int x2), some (.int x3), some (.int x4), none, some (.int x6), some (.int x7), some (.int x8), some (.int 1)]) (st' := [.int ((80 + (4 * x8)) + 2), .ref 44]) (w' := (hp u fL fD, c, z)) rfl ?_
            by_cases hb3233 : ((80 + (4 * x8)) + 2) < 0 ∨ 690 ≤ ((80 + (4 * x8)) + 2).toNatClampNeg
            · rw [if_pos hb3233] at h
              cases h
            · rw [if_neg hb3233] at h
              refine mg_Ev.iald (a := 43) (n := 690) (f := u 43) rfl (hpg_43 _ _ _) rfl hb3233 ?_
              refine mg_Ev.go 1 (pc' := 120) (loc' := [some (.ref 43), some (.int x1), some (.int x2), some (.int x3), some (.int x4), none, some (.int x6), some (.int x7), some (.int x8), some (.int 1)]) (st' := [.int x7, .int (u 43 (((80 + (4 * x8)) + 2).toNatClampNeg))]) (w' := (hp u fL fD, c, z)) rfl ?_
              refine mg_Ev.br (P := x7 ≤ (u 43 (((80 + (4 * x8)) + 2).toNatClampNeg))) (t := 143) (nx := 123) (st' := []) rfl rfl rfl rfl (fun hc3234 => ?_) (fun hc3234 => ?_)
              · rw [if_pos hc3234] at h
                refine mg_Ev.go 2 (pc' := 46) (loc' := [some (.ref 43), some (.int x1), some (.int x2), some (.int x3), some (.int x4), none, some (.int x6), some (.int x7), some (.int (x8 + 1)), some (.int 1)]) (st' := []) (w' := (hp u fL fD, c, z)) rfl ?_
                exact mg_Ev.more (loc := [some (.ref 43), some (.int x1), some (.int x2), some (.int x3), some (.int x4), none, some (.int x6), some (.int x7), some (.int (x8 + 1)), none]) (ih _ _ _ _ _ _ _ _ _ h _ K) ⟨rfl, ⟨rfl, ⟨rfl, ⟨rfl, ⟨rfl, ⟨rfl, ⟨rfl, ⟨rfl, trivial⟩⟩⟩⟩⟩⟩⟩⟩
              · rw [if_neg hc3234] at h
                refine mg_Ev.go 10 (pc' := 139) (loc' := [some (.ref 43), some (.int x1), some (.int x2), some (.int x3), some (.int x4), none, some (.int x8), some (.int x7), some (.int x8), some (.int 1)]) (st' := [.int 2, .int (80 + (4 * x8)), .ref 44]) (w' := (hp u fL fD, c, z)) rfl ?_
                refine mg_Ev.go 1 (pc' := 140) (loc' := [some (.ref 43), some (.int x1), some (.int x2), some (.int x3), some (.int x4), none, some (.int x8), some (.int x7), some (.int x8), some (.int 1)]) (st' := [.int ((80 + (4 * x8)) + 2), .ref 44]) (w' := (hp u fL fD, c, z)) rfl ?_
                by_cases hb3235 : ((80 + (4 * x8)) + 2) < 0 ∨ 690 ≤ ((80 + (4 * x8)) + 2).toNatClampNeg
                · rw [if_pos hb3235] at h
                  cases h
                · rw [if_neg hb3235] at h
                  refine mg_Ev.iald (a := 43) (n := 690) (f := u 43) rfl (hpg_43 _ _ _) rfl hb3235 ?_
                  refine mg_Ev.go 3 (pc' := 46) (loc' := [some (.ref 43), some (.int x1), some (.int x2), some (.int x3), some (.int x4), none, some (.int x8), some (.int (u 43 (((80 + (4 * x8)) + 2).toNatClampNeg))), some (.int (x8 + 1)), some (.int 1)]) (st' := []) (w' := (hp u fL fD, c, z)) rfl ?_
                  exact mg_Ev.more (loc := [some (.ref 43), some (.int x1), some (.int x2), some (.int x3), some (.int x4), none, some (.int x8), some (.int (u 43 (((80 + (4 * x8)) + 2).toNatClampNeg))), some (.int (x8 + 1)), none]) (ih _ _ _ _ _ _ _ _ _ h _ K) ⟨rfl, ⟨rfl, ⟨rfl, ⟨rfl, ⟨rfl, ⟨rfl, ⟨rfl, ⟨rfl, trivial⟩⟩⟩⟩⟩⟩⟩⟩
          · rw [if_neg hc3231] at h
            refine mg_Ev.go 3 (pc' := 101) (loc' := [some (.ref 43), some (.int x1), some (.int x2), some (.int x3), some (.int x4), none, some (.int x6), some (.int x7), some (.int x8), some (.int 0)]) (st' := [.int 0]) (w' := (hp u fL fD, c, z)) rfl ?_
            refine mg_Ev.br (P := (0 : Int32) = 0) (t := 143) (nx := 104) (st' := []) rfl rfl rfl rfl (fun _ => ?_) (fun q => absurd (by decide) q)
            refine mg_Ev.go 2 (pc' := 46) (loc' := [some (.ref 43), some (.int x1), some (.int x2), some (.int x3), some (.int x4), none, some (.int x6), some (.int x7), some (.int (x8 + 1)), some (.int 0)]) (st' := []) (w' := (hp u fL fD, c, z)) rfl ?_
            exact mg_Ev.more (loc := [some (.ref 43), some (.int x1), some (.int x2), some (.int x3), some (.int x4), none, some (.int x6), some (.int x7), some (.int (x8 + 1)), none]) (ih _ _ _ _ _ _ _ _ _ h _ K) ⟨rfl, ⟨rfl, ⟨rfl, ⟨rfl, ⟨rfl, ⟨rfl, ⟨rfl, ⟨rfl, trivial⟩⟩⟩⟩⟩⟩⟩⟩

def M_missed (a0 : Int32) (a1 : Int32) (a2 : Int32) (a3 : Int32) (u : mg_Rg) : Option (Int32 × mg_Rg) :=
  (M_wrongGoods a0 a1 a2 a3 u).bind fun v1082 =>
  if v1082 = 0 then
  (M_goodsRate a0 a1 a2 a3 (u 43 0) u).bind fun v1083 =>
    (M_missed_L46 mg_F a0 a1 a2 a3 (-1) v1083 0 u).bind fun q3237 => match q3237 with
    | (x1086, u1087) =>
      if x1086 = (-1) then
      (M_fails 3 u1087).bind fun p1090 => match p1090 with
        | (v1088, u1089) =>
          some (v1088, u1089)
      else
      (M_done x1086 u1087).bind fun p1093 => match p1093 with
        | (v1091, u1092) =>
          some (v1091, u1092)
  else
  (M_fails v1082 u).bind fun p1096 => match p1096 with
    | (v1094, u1095) =>
      some (v1094, u1095)

set_option maxRecDepth 10000 in
set_option maxHeartbeats 4000000 in
theorem ev_M_missed {sc : mg_Sc} {c z : Nat} {fL : Nat → Int64} {fD : Nat → UInt64} {a0 : Int32} {a1 : Int32} {a2 : Int32} {a3 : Int32} {u : mg_Rg} {p : Int32 × mg_Rg} (h : M_missed a0 a1 a2 a3 u = some p) : mg_Ev sc 5 94 0 (mg_entry 94 [.ref 43, .int a0, .int a1, .int a2, .int a3]) [] (hp u fL fD, c, z) (.inl (some (.int p.1)), (hp p.2 fL fD, c, z)) := by
  unfold M_missed at h
  show mg_Ev _ _ _ 0 [some (.ref 43), some (.int a0), some (.int a1), some (.int a2), some (.int a3), none, none, none, none, none] [] _ _
  refine mg_Ev.go 5 (pc' := 6) (loc' := [some (.ref 43), some (.int a0), some (.int a1), some (.int a2), some (.int a3), none, none, none, none, none]) (st' := [.int a3, .int a2, .int a1, .int a0, .ref 43]) (w' := (hp u fL fD, c, z)) rfl ?_
  obtain ⟨v1082, hf3238, h⟩ := Option.bind_eq_some_iff.mp h
  refine mg_Ev.call (y := 91) (as := [.ref 43, .int a0, .int a1, .int a2, .int a3]) (rest := []) (v := some (.int v1082)) (w1 := (hp u fL fD, c, z)) rfl rfl (Nat.le_of_ble_eq_true rfl) ((ev_M_wrongGoods hf3238).deep (by decide)) ?_
  refine mg_Ev.go 2 (pc' := 13) (loc' := [some (.ref 43), some (.int a0), some (.int a1), some (.int a2), some (.int a3), some (.int v1082), none, none, none, none]) (st' := [.int v1082]) (w' := (hp u fL fD, c, z)) rfl ?_
  refine mg_Ev.br (P := v1082 = 0) (t := 23) (nx := 16) (st' := []) rfl rfl rfl rfl (fun hc3239 => ?_) (fun hc3239 => ?_)
  · rw [if_pos hc3239] at h
    refine mg_Ev.go 10 (pc' := 37) (loc' := [some (.ref 43), some (.int a0), some (.int a1), some (.int a2), some (.int a3), some (.int v1082), some (.int (-1)), none, none, none]) (st' := [.int 0, .ref 44, .int a3, .int a2, .int a1, .int a0, .ref 43]) (w' := (hp u fL fD, c, z)) rfl ?_
    refine mg_Ev.iald (a := 43) (n := 690) (f := u 43) (j := 0) rfl (hpg_43 _ _ _) (by decide) (by decide) ?_
    obtain ⟨v1083, hf3240, h⟩ := Option.bind_eq_some_iff.mp h
    refine mg_Ev.call (y := 89) (as := [.ref 43, .int a0, .int a1, .int a2, .int a3, .int (u 43 0)]) (rest := []) (v := some (.int v1083)) (w1 := (hp u fL fD, c, z)) rfl rfl (Nat.le_of_ble_eq_true rfl) ((ev_M_goodsRate hf3240).deep (by decide)) ?_
    refine mg_Ev.go 3 (pc' := 46) (loc' := [some (.ref 43), some (.int a0), some (.int a1), some (.int a2), some (.int a3), some (.int v1082), some (.int (-1)), some (.int v1083), some (.int 0), none]) (st' := []) (w' := (hp u fL fD, c, z)) rfl ?_
    obtain ⟨⟨x1086, u1087⟩, hl3241, h⟩ := Option.bind_eq_some_iff.mp h
    try dsimp only at h
    refine mg_Ev.more (loc := [some (.ref 43), some (.int a0), some (.int a1), some (.int a2), some (.int a3), none, some (.int (-1)), some (.int v1083), some (.int 0), none]) (ev_M_missed_L46 _ _ _ _ _ _ _ _ _ _ hl3241 _ ?_) ⟨rfl, ⟨rfl, ⟨rfl, ⟨rfl, ⟨rfl, ⟨rfl, ⟨rfl, ⟨rfl, trivial⟩⟩⟩⟩⟩⟩⟩⟩
    show mg_Ev _ _ _ 149 [some (.ref 43), none, none, none, none, none, some (.int x1086), none, none, none] [] (hp u1087 fL fD, c, z) _
    refine mg_Ev.go 2 (pc' := 152) (loc' := [some (.ref 43), none, none, none, none, none, some (.int x1086), none, none, none]) (st' := [.int (-1), .int x1086]) (w' := (hp u1087 fL fD, c, z)) rfl ?_
    refine mg_Ev.br (P := x1086 = (-1)) (t := 155) (nx := 163) (st' := []) rfl rfl rfl rfl (fun hc3242 => ?_) (fun hc3242 => ?_)
    · rw [if_pos hc3242] at h
      refine mg_Ev.go 2 (pc' := 157) (loc' := [some (.ref 43), none, none, none, none, none, some (.int x1086), none, none, none]) (st' := [.int 3, .ref 43]) (w' := (hp u1087 fL fD, c, z)) rfl ?_
      obtain ⟨⟨v1088, u1089⟩, hf3243, h⟩ := Option.bind_eq_some_iff.mp h
      try dsimp only at h
      refine mg_Ev.call (y := 59) (as := [.ref 43, .int 3]) (rest := []) (v := some (.int v1088)) (w1 := (hp u1089 fL fD, c, z)) rfl rfl (Nat.le_of_ble_eq_true rfl) ((ev_M_fails hf3243).deep (by decide)) ?_
      refine mg_Ev.go 1 (pc' := 169) (loc' := [some (.ref 43), none, none, none, none, none, some (.int x1086), none, none, none]) (st' := [.int v1088]) (w' := (hp u1089 fL fD, c, z)) rfl ?_
      cases h
      exact mg_Ev.fin rfl rfl rfl
    · rw [if_neg hc3242] at h
      refine mg_Ev.go 2 (pc' := 166) (loc' := [some (.ref 43), none, none, none, none, none, some (.int x1086), none, none, none]) (st' := [.int x1086, .ref 43]) (w' := (hp u1087 fL fD, c, z)) rfl ?_
      obtain ⟨⟨v1091, u1092⟩, hf3244, h⟩ := Option.bind_eq_some_iff.mp h
      try dsimp only at h
      refine mg_Ev.call (y := 60) (as := [.ref 43, .int x1086]) (rest := []) (v := some (.int v1091)) (w1 := (hp u1092 fL fD, c, z)) rfl rfl (Nat.le_of_ble_eq_true rfl) ((ev_M_done hf3244).deep (by decide)) ?_
      cases h
      exact mg_Ev.fin rfl rfl rfl
  · rw [if_neg hc3239] at h
    refine mg_Ev.go 2 (pc' := 19) (loc' := [some (.ref 43), some (.int a0), some (.int a1), some (.int a2), some (.int a3), some (.int v1082), none, none, none, none]) (st' := [.int v1082, .ref 43]) (w' := (hp u fL fD, c, z)) rfl ?_
    obtain ⟨⟨v1094, u1095⟩, hf3245, h⟩ := Option.bind_eq_some_iff.mp h
    try dsimp only at h
    refine mg_Ev.call (y := 59) (as := [.ref 43, .int v1082]) (rest := []) (v := some (.int v1094)) (w1 := (hp u1095 fL fD, c, z)) rfl rfl (Nat.le_of_ble_eq_true rfl) ((ev_M_fails hf3245).deep (by decide)) ?_
    cases h
    exact mg_Ev.fin rfl rfl rfl

def M_part (a0 : Int32) (a1 : Int32) (u : mg_Rg) : Option (Int32 × mg_Rg) :=
  (M_isCountry a0 u).bind fun v1097 =>
  if v1097 = 0 then
  (M_fails 1 u).bind fun p1100 => match p1100 with
    | (v1098, u1099) =>
      some (v1098, u1099)
  else
  (M_in a1 1 9999 u).bind fun v1101 =>
    if v1101 = 0 then
    (M_fails 2 u).bind fun p1104 => match p1104 with
      | (v1102, u1103) =>
        some (v1102, u1103)
    else
    if (u 43 6) = 4 then
      (M_fails 3 u).bind fun p1107 => match p1107 with
        | (v1105, u1106) =>
          some (v1105, u1106)
      else
      (M_remembers u).bind fun u1108 =>
        if (192 + (2 * (u1108 43 6))) < 0 ∨ 690 ≤ (192 + (2 * (u1108 43 6))).toNatClampNeg then none else
        if ((192 + (2 * ((mg_up u1108 43 ((192 + (2 * (u1108 43 6))).toNatClampNeg) a0) 43 6))) + 1) < 0 ∨ 690 ≤ ((192 + (2 * ((mg_up u1108 43 ((192 + (2 * (u1108 43 6))).toNatClampNeg) a0) 43 6))) + 1).toNatClampNeg then none else
        (M_done ((mg_up (mg_up (mg_up u1108 43 ((192 + (2 * (u1108 43 6))).toNatClampNeg) a0) 43 (((192 + (2 * ((mg_up u1108 43 ((192 + (2 * (u1108 43 6))).toNatClampNeg) a0) 43 6))) + 1).toNatClampNeg) a1) 43 6 (((mg_up (mg_up u1108 43 ((192 + (2 * (u1108 43 6))).toNatClampNeg) a0) 43 (((192 + (2 * ((mg_up u1108 43 ((192 + (2 * (u1108 43 6))).toNatClampNeg) a0) 43 6))) + 1).toNatClampNeg) a1) 43 6) + 1)) 43 6) (mg_up (mg_up (mg_up u1108 43 ((192 + (2 * (u1108 43 6))).toNatClampNeg) a0) 43 (((192 + (2 * ((mg_up u1108 43 ((192 + (2 * (u1108 43 6))).toNatClampNeg) a0) 43 6))) + 1).toNatClampNeg) a1) 43 6 (((mg_up (mg_up u1108 43 ((192 + (2 * (u1108 43 6))).toNatClampNeg) a0) 43 (((192 + (2 * ((mg_up u1108 43 ((192 + (2 * (u1108 43 6))).toNatClampNeg) a0) 43 6))) + 1).toNatClampNeg) a1) 43 6) + 1))).bind fun p1111 => match p1111 with
        | (v1109, u1110) =>
          some (v1109, u1110)

set_option maxRecDepth 10000 in
set_option maxHeartbeats 4000000 in
theorem ev_M_part {sc : mg_Sc} {c z : Nat} {fL : Nat → Int64} {fD : Nat → UInt64} {a0 : Int32} {a1 : Int32} {u : mg_Rg} {p : Int32 × mg_Rg} (h : M_part a0 a1 u = some p) : mg_Ev sc 3 95 0 (mg_entry 95 [.ref 43, .int a0, .int a1]) [] (hp u fL fD, c, z) (.inl (some (.int p.1)), (hp p.2 fL fD, c, z)) := by
  unfold M_part at h
  show mg_Ev _ _ _ 0 [some (.ref 43), some (.int a0), some (.int a1)] [] _ _
  refine mg_Ev.go 1 (pc' := 1) (loc' := [some (.ref 43), some (.int a0), some (.int a1)]) (st' := [.int a0]) (w' := (hp u fL fD, c, z)) rfl ?_
  obtain ⟨v1097, hf3246, h⟩ := Option.bind_eq_some_iff.mp h
  refine mg_Ev.call (y := 65) (as := [.int a0]) (rest := []) (v := some (.int v1097)) (w1 := (hp u fL fD, c, z)) rfl rfl (Nat.le_of_ble_eq_true rfl) ((ev_M_isCountry hf3246).deep (by decide)) ?_
  refine mg_Ev.br (P := v1097 = 0) (t := 7) (nx := 13) (st' := []) rfl rfl rfl rfl (fun hc3247 => ?_) (fun hc3247 => ?_)
  · rw [if_pos hc3247] at h
    refine mg_Ev.go 2 (pc' := 9) (loc' := [some (.ref 43), some (.int a0), some (.int a1)]) (st' := [.int 1, .ref 43]) (w' := (hp u fL fD, c, z)) rfl ?_
    obtain ⟨⟨v1098, u1099⟩, hf3248, h⟩ := Option.bind_eq_some_iff.mp h
    try dsimp only at h
    refine mg_Ev.call (y := 59) (as := [.ref 43, .int 1]) (rest := []) (v := some (.int v1098)) (w1 := (hp u1099 fL fD, c, z)) rfl rfl (Nat.le_of_ble_eq_true rfl) ((ev_M_fails hf3248).deep (by decide)) ?_
    cases h
    exact mg_Ev.fin rfl rfl rfl
  · rw [if_neg hc3247] at h
    refine mg_Ev.go 3 (pc' := 18) (loc' := [some (.ref 43), some (.int a0), some (.int a1)]) (st' := [.int 9999, .int 1, .int a1]) (w' := (hp u fL fD, c, z)) rfl ?_
    obtain ⟨v1101, hf3249, h⟩ := Option.bind_eq_some_iff.mp h
    refine mg_Ev.call (y := 58) (as := [.int a1, .int 1, .int 9999]) (rest := []) (v := some (.int v1101)) (w1 := (hp u fL fD, c, z)) rfl rfl (Nat.le_of_ble_eq_true rfl) ((ev_M_in hf3249).deep (by decide)) ?_
    refine mg_Ev.br (P := v1101 = 0) (t := 24) (nx := 30) (st' := []) rfl rfl rfl rfl (fun hc3250 => ?_) (fun hc3250 => ?_)
    · rw [if_pos hc3250] at h
      refine mg_Ev.go 2 (pc' := 26) (loc' := [some (.ref 43), some (.int a0), some (.int a1)]) (st' := [.int 2, .ref 43]) (w' := (hp u fL fD, c, z)) rfl ?_
      obtain ⟨⟨v1102, u1103⟩, hf3251, h⟩ := Option.bind_eq_some_iff.mp h
      try dsimp only at h
      refine mg_Ev.call (y := 59) (as := [.ref 43, .int 2]) (rest := []) (v := some (.int v1102)) (w1 := (hp u1103 fL fD, c, z)) rfl rfl (Nat.le_of_ble_eq_true rfl) ((ev_M_fails hf3251).deep (by decide)) ?_
      cases h
      exact mg_Ev.fin rfl rfl rfl
    · rw [if_neg hc3250] at h
      refine mg_Ev.go 3 (pc' := 36) (loc' := [some (.ref 43), some (.int a0), some (.int a1)]) (st' := [.int 6, .ref 44]) (w' := (hp u fL fD, c, z)) rfl ?_
      refine mg_Ev.iald (a := 43) (n := 690) (f := u 43) (j := 6) rfl (hpg_43 _ _ _) (by decide) (by decide) ?_
      refine mg_Ev.go 1 (pc' := 38) (loc' := [some (.ref 43), some (.int a0), some (.int a1)]) (st' := [.int 4, .int (u 43 6)]) (w' := (hp u fL fD, c, z)) rfl ?_
      refine mg_Ev.br (P := (u 43 6) = 4) (t := 41) (nx := 47) (st' := []) rfl rfl rfl rfl (fun hc3252 => ?_) (fun hc3252 => ?_)
      · rw [if_pos hc3252] at h
        refine mg_Ev.go 2 (pc' := 43) (loc' := [some (.ref 43), some (.int a0), some (.int a1)]) (st' := [.int 3, .ref 43]) (w' := (hp u fL fD, c, z)) rfl ?_
        obtain ⟨⟨v1105, u1106⟩, hf3253, h⟩ := Option.bind_eq_some_iff.mp h
        try dsimp only at h
        refine mg_Ev.call (y := 59) (as := [.ref 43, .int 3]) (rest := []) (v := some (.int v1105)) (w1 := (hp u1106 fL fD, c, z)) rfl rfl (Nat.le_of_ble_eq_true rfl) ((ev_M_fails hf3253).deep (by decide)) ?_
        cases h
        exact mg_Ev.fin rfl rfl rfl
      · rw [if_neg hc3252] at h
        refine mg_Ev.go 1 (pc' := 48) (loc' := [some (.ref 43), some (.int a0), some (.int a1)]) (st' := [.ref 43]) (w' := (hp u fL fD, c, z)) rfl ?_
        obtain ⟨u1108, hf3254, h⟩ := Option.bind_eq_some_iff.mp h
        refine mg_Ev.call (y := 63) (as := [.ref 43]) (rest := []) (v := none) (w1 := (hp u1108 fL fD, c, z)) rfl rfl (Nat.le_of_ble_eq_true rfl) ((ev_M_remembers hf3254).deep (by decide)) ?_
        refine mg_Ev.go 7 (pc' := 65) (loc' := [some (.ref 43), some (.int a0), some (.int a1)]) (st' := [.int 6, .ref 44, .int 2, .int 192, .ref 44]) (w' := (hp u1108 fL fD, c, z)) rfl ?_
        refine mg_Ev.iald (a := 43) (n := 690) (f := u1108 43) (j := 6) rfl (hpg_43 _ _ _) (by decide) (by decide) ?_
        refine mg_Ev.go 3 (pc' := 69) (loc' := [some (.ref 43), some (.int a0), some (.int a1)]) (st' := [.int a0, .int (192 + (2 * (u1108 43 6))), .ref 44]) (w' := (hp u1108 fL fD, c, z)) rfl ?_
        by_cases hb3255 : (192 + (2 * (u1108 43 6))) < 0 ∨ 690 ≤ (192 + (2 * (u1108 43 6))).toNatClampNeg
        · rw [if_pos hb3255] at h
          cases h
        · rw [if_neg hb3255] at h
          refine mg_Ev.iast (a := 43) (n := 690) rfl (hpg_43 _ _ _) rfl hb3255 (hpa_43 _ _ _ _ _ _ _) ?_
          refine mg_Ev.go 7 (pc' := 84) (loc' := [some (.ref 43), some (.int a0), some (.int a1)]) (st' := [.int 6, .ref 44, .int 2, .int 192, .ref 44]) (w' := (hp (mg_up u1108 43 ((192 + (2 * (u1108 43 6))).toNatClampNeg) a0) fL fD, c, z)) rfl ?_
          refine mg_Ev.iald (a := 43) (n := 690) (f := (mg_up u1108 43 ((192 + (2 * (u1108 43 6))).toNatClampNeg) a0) 43) (j := 6) rfl (hpg_43 _ _ _) (by decide) (by decide) ?_
          refine mg_Ev.go 5 (pc' := 90) (loc' := [some (.ref 43), some (.int a0), some (.int a1)]) (st' := [.int a1, .int ((192 + (2 * ((mg_up u1108 43 ((192 + (2 * (u1108 43 6))).toNatClampNeg) a0) 43 6))) + 1), .ref 44]) (w' := (hp (mg_up u1108 43 ((192 + (2 * (u1108 43 6))).toNatClampNeg) a0) fL fD, c, z)) rfl ?_
          by_cases hb3256 : ((192 + (2 * ((mg_up u1108 43 ((192 + (2 * (u1108 43 6))).toNatClampNeg) a0) 43 6))) + 1) < 0 ∨ 690 ≤ ((192 + (2 * ((mg_up u1108 43 ((192 + (2 * (u1108 43 6))).toNatClampNeg) a0) 43 6))) + 1).toNatClampNeg
          · rw [if_pos hb3256] at h
            cases h
          · rw [if_neg hb3256] at h
            refine mg_Ev.iast (a := 43) (n := 690) rfl (hpg_43 _ _ _) rfl hb3256 (hpa_43 _ _ _ _ _ _ _) ?_
            refine mg_Ev.go 4 (pc' := 98) (loc' := [some (.ref 43), some (.int a0), some (.int a1)]) (st' := [.int 6, .ref 44, .int 6, .ref 44]) (w' := (hp (mg_up (mg_up u1108 43 ((192 + (2 * (u1108 43 6))).toNatClampNeg) a0) 43 (((192 + (2 * ((mg_up u1108 43 ((192 + (2 * (u1108 43 6))).toNatClampNeg) a0) 43 6))) + 1).toNatClampNeg) a1) fL fD, c, z)) rfl ?_
            refine mg_Ev.iald (a := 43) (n := 690) (f := (mg_up (mg_up u1108 43 ((192 + (2 * (u1108 43 6))).toNatClampNeg) a0) 43 (((192 + (2 * ((mg_up u1108 43 ((192 + (2 * (u1108 43 6))).toNatClampNeg) a0) 43 6))) + 1).toNatClampNeg) a1) 43) (j := 6) rfl (hpg_43 _ _ _) (by decide) (by decide) ?_
            refine mg_Ev.go 2 (pc' := 101) (loc' := [some (.ref 43), some (.int a0), some (.int a1)]) (st' := [.int (((mg_up (mg_up u1108 43 ((192 + (2 * (u1108 43 6))).toNatClampNeg) a0) 43 (((192 + (2 * ((mg_up u1108 43 ((192 + (2 * (u1108 43 6))).toNatClampNeg) a0) 43 6))) + 1).toNatClampNeg) a1) 43 6) + 1), .int 6, .ref 44]) (w' := (hp (mg_up (mg_up u1108 43 ((192 + (2 * (u1108 43 6))).toNatClampNeg) a0) 43 (((192 + (2 * ((mg_up u1108 43 ((192 + (2 * (u1108 43 6))).toNatClampNeg) a0) 43 6))) + 1).toNatClampNeg) a1) fL fD, c, z)) rfl ?_
            refine mg_Ev.iast (a := 43) (n := 690) (j := 6) rfl (hpg_43 _ _ _) (by decide) (by decide) (hpa_43 _ _ _ _ _ _ _) ?_
            refine mg_Ev.go 4 (pc' := 109) (loc' := [some (.ref 43), some (.int a0), some (.int a1)]) (st' := [.int 6, .ref 44, .ref 43]) (w' := (hp (mg_up (mg_up (mg_up u1108 43 ((192 + (2 * (u1108 43 6))).toNatClampNeg) a0) 43 (((192 + (2 * ((mg_up u1108 43 ((192 + (2 * (u1108 43 6))).toNatClampNeg) a0) 43 6))) + 1).toNatClampNeg) a1) 43 6 (((mg_up (mg_up u1108 43 ((192 + (2 * (u1108 43 6))).toNatClampNeg) a0) 43 (((192 + (2 * ((mg_up u1108 43 ((192 + (2 * (u1108 43 6))).toNatClampNeg) a0) 43 6))) + 1).toNatClampNeg) a1) 43 6) + 1)) fL fD, c, z)) rfl ?_
            refine mg_Ev.iald (a := 43) (n := 690) (f := (mg_up (mg_up (mg_up u1108 43 ((192 + (2 * (u1108 43 6))).toNatClampNeg) a0) 43 (((192 + (2 * ((mg_up u1108 43 ((192 + (2 * (u1108 43 6))).toNatClampNeg) a0) 43 6))) + 1).toNatClampNeg) a1) 43 6 (((mg_up (mg_up u1108 43 ((192 + (2 * (u1108 43 6))).toNatClampNeg) a0) 43 (((192 + (2 * ((mg_up u1108 43 ((192 + (2 * (u1108 43 6))).toNatClampNeg) a0) 43 6))) + 1).toNatClampNeg) a1) 43 6) + 1)) 43) (j := 6) rfl (hpg_43 _ _ _) (by decide) (by decide) ?_
            obtain ⟨⟨v1109, u1110⟩, hf3257, h⟩ := Option.bind_eq_some_iff.mp h
            try dsimp only at h
            refine mg_Ev.call (y := 60) (as := [.ref 43, .int ((mg_up (mg_up (mg_up u1108 43 ((192 + (2 * (u1108 43 6))).toNatClampNeg) a0) 43 (((192 + (2 * ((mg_up u1108 43 ((192 + (2 * (u1108 43 6))).toNatClampNeg) a0) 43 6))) + 1).toNatClampNeg) a1) 43 6 (((mg_up (mg_up u1108 43 ((192 + (2 * (u1108 43 6))).toNatClampNeg) a0) 43 (((192 + (2 * ((mg_up u1108 43 ((192 + (2 * (u1108 43 6))).toNatClampNeg) a0) 43 6))) + 1).toNatClampNeg) a1) 43 6) + 1)) 43 6)]) (rest := []) (v := some (.int v1109)) (w1 := (hp u1110 fL fD, c, z)) rfl rfl (Nat.le_of_ble_eq_true rfl) ((ev_M_done hf3257).deep (by decide)) ?_
            cases h
            exact mg_Ev.fin rfl rfl rfl

def M_forget (u : mg_Rg) : Option (Int32 × mg_Rg) :=
  (M_remembers u).bind fun u1112 =>
  (M_done (u1112 43 6) (mg_up u1112 43 6 0)).bind fun p1115 => match p1115 with
  | (v1113, u1114) =>
    some (v1113, u1114)

set_option maxRecDepth 10000 in
set_option maxHeartbeats 4000000 in
theorem ev_M_forget {sc : mg_Sc} {c z : Nat} {fL : Nat → Int64} {fD : Nat → UInt64} {u : mg_Rg} {p : Int32 × mg_Rg} (h : M_forget u = some p) : mg_Ev sc 3 96 0 (mg_entry 96 [.ref 43]) [] (hp u fL fD, c, z) (.inl (some (.int p.1)), (hp p.2 fL fD, c, z)) := by
  unfold M_forget at h
  show mg_Ev _ _ _ 0 [some (.ref 43), none] [] _ _
  refine mg_Ev.go 1 (pc' := 1) (loc' := [some (.ref 43), none]) (st' := [.ref 43]) (w' := (hp u fL fD, c, z)) rfl ?_
  obtain ⟨u1112, hf3258, h⟩ := Option.bind_eq_some_iff.mp h
  refine mg_Ev.call (y := 63) (as := [.ref 43]) (rest := []) (v := none) (w1 := (hp u1112 fL fD, c, z)) rfl rfl (Nat.le_of_ble_eq_true rfl) ((ev_M_remembers hf3258).deep (by decide)) ?_
  refine mg_Ev.go 3 (pc' := 10) (loc' := [some (.ref 43), none]) (st' := [.int 6, .ref 44]) (w' := (hp u1112 fL fD, c, z)) rfl ?_
  refine mg_Ev.iald (a := 43) (n := 690) (f := u1112 43) (j := 6) rfl (hpg_43 _ _ _) (by decide) (by decide) ?_
  refine mg_Ev.go 5 (pc' := 19) (loc' := [some (.ref 43), some (.int (u1112 43 6))]) (st' := [.int 0, .int 6, .ref 44]) (w' := (hp u1112 fL fD, c, z)) rfl ?_
  refine mg_Ev.iast (a := 43) (n := 690) (j := 6) rfl (hpg_43 _ _ _) (by decide) (by decide) (hpa_43 _ _ _ _ _ _ _) ?_
  refine mg_Ev.go 2 (pc' := 22) (loc' := [some (.ref 43), some (.int (u1112 43 6))]) (st' := [.int (u1112 43 6), .ref 43]) (w' := (hp (mg_up u1112 43 6 0) fL fD, c, z)) rfl ?_
  obtain ⟨⟨v1113, u1114⟩, hf3259, h⟩ := Option.bind_eq_some_iff.mp h
  try dsimp only at h
  refine mg_Ev.call (y := 60) (as := [.ref 43, .int (u1112 43 6)]) (rest := []) (v := some (.int v1113)) (w1 := (hp u1114 fL fD, c, z)) rfl rfl (Nat.le_of_ble_eq_true rfl) ((ev_M_done hf3259).deep (by decide)) ?_
  cases h
  exact mg_Ev.fin rfl rfl rfl

def M_partsValue_L4 : Nat → Int32 → Int32 → mg_Rg → Option (Int32)
  | 0, _, _, _ => none
  | n + 1, x1, x2, u =>
    if (u 43 6) ≤ x2 then
    some (x1)
    else
    if ((192 + (2 * x2)) + 1) < 0 ∨ 690 ≤ ((192 + (2 * x2)) + 1).toNatClampNeg then none else
      M_partsValue_L4 n (x1 + (u 43 (((192 + (2 * x2)) + 1).toNatClampNeg))) (x2 + 1) u
set_option maxRecDepth 10000 in
set_option maxHeartbeats 4000000 in
theorem ev_M_partsValue_L4 {sc : mg_Sc} {c z : Nat} {fL : Nat → Int64} {fD : Nat → UInt64} : ∀ (n : Nat) (x1 : Int32) (x2 : Int32) (u : mg_Rg) (res : Int32), M_partsValue_L4 n x1 x2 u = some res → ∀ r, (match res with | y1 => mg_Ev sc 0 97 38 [none, some (.int y1), none] [] (hp u fL fD, c, z) r) → mg_Ev sc 0 97 4 [some (.ref 43), some (.int x1), some (.int x2)] [] (hp u fL fD, c, z) r := by
  intro n
  induction n with
  | zero => intro x1 x2 u res h; cases h
  | succ n ih =>
    intro x1 x2 u res h r K
    unfold M_partsValue_L4 at h
    refine mg_Ev.go 4 (pc' := 11) (loc' := [some (.ref 43), some (.int x1), some (.int x2)]) (st' := [.int 6, .ref 44, .int x2]) (w' := (hp u fL fD, c, z)) rfl ?_
    refine mg_Ev.iald (a := 43) (n := 690) (f := u 43) (j := 6) rfl (hpg_43 _ _ _) (by decide) (by decide) ?_
    refine mg_Ev.br (P := (u 43 6) ≤ x2) (t := 38) (nx := 15) (st' := []) rfl rfl rfl rfl (fun hc3260 => ?_) (fun hc3260 => ?_)
    · rw [if_pos hc3260] at h
      cases h
      exact mg_Ev.more (loc := [none, some (.int x1), none]) K ⟨rfl, trivial⟩
    · rw [if_neg hc3260] at h
      refine mg_Ev.go 10 (pc' := 29) (loc' := [some (.ref 43), some (.int x1), some (.int x2)]) (st' := [.int ((192 + (2 * x2)) + 1), .ref 44, .int x1]) (w' := (hp u fL fD, c, z)) rfl ?_
      by_cases hb3261 : ((192 + (2 * x2)) + 1) < 0 ∨ 690 ≤ ((192 + (2 * x2)) + 1).toNatClampNeg
      · rw [if_pos hb3261] at h
        cases h
      · rw [if_neg hb3261] at h
        refine mg_Ev.iald (a := 43) (n := 690) (f := u 43) rfl (hpg_43 _ _ _) rfl hb3261 ?_
        refine mg_Ev.go 4 (pc' := 4) (loc' := [some (.ref 43), some (.int (x1 + (u 43 (((192 + (2 * x2)) + 1).toNatClampNeg)))), some (.int (x2 + 1))]) (st' := []) (w' := (hp u fL fD, c, z)) rfl ?_
        exact mg_Ev.more (loc := [some (.ref 43), some (.int (x1 + (u 43 (((192 + (2 * x2)) + 1).toNatClampNeg)))), some (.int (x2 + 1))]) (ih _ _ _ _ h _ K) ⟨rfl, ⟨rfl, ⟨rfl, trivial⟩⟩⟩

def M_partsValue (u : mg_Rg) : Option (Int32) :=
  (M_partsValue_L4 mg_F 0 0 u).bind fun q3262 => match q3262 with
  | x1116 =>
    some x1116

set_option maxRecDepth 10000 in
set_option maxHeartbeats 4000000 in
theorem ev_M_partsValue {sc : mg_Sc} {c z : Nat} {fL : Nat → Int64} {fD : Nat → UInt64} {u : mg_Rg} {v : Int32} (h : M_partsValue u = some v) : mg_Ev sc 0 97 0 (mg_entry 97 [.ref 43]) [] (hp u fL fD, c, z) (.inl (some (.int v)), (hp u fL fD, c, z)) := by
  unfold M_partsValue at h
  show mg_Ev _ _ _ 0 [some (.ref 43), none, none] [] _ _
  refine mg_Ev.go 4 (pc' := 4) (loc' := [some (.ref 43), some (.int 0), some (.int 0)]) (st' := []) (w' := (hp u fL fD, c, z)) rfl ?_
  obtain ⟨x1116, hl3263, h⟩ := Option.bind_eq_some_iff.mp h
  try dsimp only at h
  refine mg_Ev.more (loc := [some (.ref 43), some (.int 0), some (.int 0)]) (ev_M_partsValue_L4 _ _ _ _ _ hl3263 _ ?_) ⟨rfl, ⟨rfl, ⟨rfl, trivial⟩⟩⟩
  show mg_Ev _ _ _ 38 [none, some (.int x1116), none] [] (hp u fL fD, c, z) _
  refine mg_Ev.go 1 (pc' := 39) (loc' := [none, some (.int x1116), none]) (st' := [.int x1116]) (w' := (hp u fL fD, c, z)) rfl ?_
  cases h
  exact mg_Ev.fin rfl rfl rfl

def M_partsOrigin_L18 : Nat → Int32 → Int32 → Int32 → Int32 → Int32 → mg_Rg → Option (Int32)
  | 0, _, _, _, _, _, _ => none
  | n + 1, x1, x2, x3, x4, x5, u =>
    if (u 43 6) ≤ x5 then
    some (x4)
    else
    if (192 + (2 * x5)) < 0 ∨ 690 ≤ (192 + (2 * x5)).toNatClampNeg then none else
      if (u 43 ((192 + (2 * x5)).toNatClampNeg)) = x3 then
      if ((192 + (2 * x5)) + 1) < 0 ∨ 690 ≤ ((192 + (2 * x5)) + 1).toNatClampNeg then none else
        M_partsOrigin_L18 n x1 x2 x3 (x4 + (u 43 (((192 + (2 * x5)) + 1).toNatClampNeg))) (x5 + 1) u
      else
      M_partsOrigin_L18 n x1 x2 x3 (x4 + 0) (x5 + 1) u
set_option maxRecDepth 10000 in
set_option maxHeartbeats 4000000 in
theorem ev_M_partsOrigin_L18 {sc : mg_Sc} {c z : Nat} {fL : Nat → Int64} {fD : Nat → UInt64} : ∀ (n : Nat) (x1 : Int32) (x2 : Int32) (x3 : Int32) (x4 : Int32) (x5 : Int32) (u : mg_Rg) (res : Int32), M_partsOrigin_L18 n x1 x2 x3 x4 x5 u = some res → ∀ r, (match res with | y4 => mg_Ev sc 1 98 77 [some (.ref 43), some (.int x1), some (.int x2), some (.int x3), some (.int y4), none] [] (hp u fL fD, c, z) r) → mg_Ev sc 1 98 18 [some (.ref 43), some (.int x1), some (.int x2), some (.int x3), some (.int x4), some (.int x5)] [] (hp u fL fD, c, z) r := by
  intro n
  induction n with
  | zero => intro x1 x2 x3 x4 x5 u res h; cases h
  | succ n ih =>
    intro x1 x2 x3 x4 x5 u res h r K
    unfold M_partsOrigin_L18 at h
    refine mg_Ev.go 4 (pc' := 26) (loc' := [some (.ref 43), some (.int x1), some (.int x2), some (.int x3), some (.int x4), some (.int x5)]) (st' := [.int 6, .ref 44, .int x5]) (w' := (hp u fL fD, c, z)) rfl ?_
    refine mg_Ev.iald (a := 43) (n := 690) (f := u 43) (j := 6) rfl (hpg_43 _ _ _) (by decide) (by decide) ?_
    refine mg_Ev.br (P := (u 43 6) ≤ x5) (t := 77) (nx := 30) (st' := []) rfl rfl rfl rfl (fun hc3264 => ?_) (fun hc3264 => ?_)
    · rw [if_pos hc3264] at h
      cases h
      exact mg_Ev.more (loc := [some (.ref 43), some (.int x1), some (.int x2), some (.int x3), some (.int x4), none]) K ⟨rfl, ⟨rfl, ⟨rfl, ⟨rfl, ⟨rfl, trivial⟩⟩⟩⟩⟩
    · rw [if_neg hc3264] at h
      refine mg_Ev.go 8 (pc' := 44) (loc' := [some (.ref 43), some (.int x1), some (.int x2), some (.int x3), some (.int x4), some (.int x5)]) (st' := [.int (192 + (2 * x5)), .ref 44, .int x4]) (w' := (hp u fL fD, c, z)) rfl ?_
      by_cases hb3265 : (192 + (2 * x5)) < 0 ∨ 690 ≤ (192 + (2 * x5)).toNatClampNeg
      · rw [if_pos hb3265] at h
        cases h
      · rw [if_neg hb3265] at h
        refine mg_Ev.iald (a := 43) (n := 690) (f := u 43) rfl (hpg_43 _ _ _) rfl hb3265 ?_
        refine mg_Ev.go 1 (pc' := 46) (loc' := [some (.ref 43), some (.int x1), some (.int x2), some (.int x3), some (.int x4), some (.int x5)]) (st' := [.int x3, .int (u 43 ((192 + (2 * x5)).toNatClampNeg)), .int x4]) (w' := (hp u fL fD, c, z)) rfl ?_
        refine mg_Ev.br (P := (u 43 ((192 + (2 * x5)).toNatClampNeg)) = x3) (t := 49) (nx := 67) (st' := [.int x4]) rfl rfl rfl rfl (fun hc3266 => ?_) (fun hc3266 => ?_)
        · rw [if_pos hc3266] at h
          refine mg_Ev.go 9 (pc' := 63) (loc' := [some (.ref 43), some (.int x1), some (.int x2), some (.int x3), some (.int x4), some (.int x5)]) (st' := [.int ((192 + (2 * x5)) + 1), .ref 44, .int x4]) (w' := (hp u fL fD, c, z)) rfl ?_
          by_cases hb3267 : ((192 + (2 * x5)) + 1) < 0 ∨ 690 ≤ ((192 + (2 * x5)) + 1).toNatClampNeg
          · rw [if_pos hb3267] at h
            cases h
          · rw [if_neg hb3267] at h
            refine mg_Ev.iald (a := 43) (n := 690) (f := u 43) rfl (hpg_43 _ _ _) rfl hb3267 ?_
            refine mg_Ev.go 5 (pc' := 18) (loc' := [some (.ref 43), some (.int x1), some (.int x2), some (.int x3), some (.int (x4 + (u 43 (((192 + (2 * x5)) + 1).toNatClampNeg)))), some (.int (x5 + 1))]) (st' := []) (w' := (hp u fL fD, c, z)) rfl ?_
            exact mg_Ev.more (loc := [some (.ref 43), some (.int x1), some (.int x2), some (.int x3), some (.int (x4 + (u 43 (((192 + (2 * x5)) + 1).toNatClampNeg)))), some (.int (x5 + 1))]) (ih _ _ _ _ _ _ _ h _ K) ⟨rfl, ⟨rfl, ⟨rfl, ⟨rfl, ⟨rfl, ⟨rfl, trivial⟩⟩⟩⟩⟩⟩
        · rw [if_neg hc3266] at h
          refine mg_Ev.go 5 (pc' := 18) (loc' := [some (.ref 43), some (.int x1), some (.int x2), some (.int x3), some (.int (x4 + 0)), some (.int (x5 + 1))]) (st' := []) (w' := (hp u fL fD, c, z)) rfl ?_
          exact mg_Ev.more (loc := [some (.ref 43), some (.int x1), some (.int x2), some (.int x3), some (.int (x4 + 0)), some (.int (x5 + 1))]) (ih _ _ _ _ _ _ _ h _ K) ⟨rfl, ⟨rfl, ⟨rfl, ⟨rfl, ⟨rfl, ⟨rfl, trivial⟩⟩⟩⟩⟩⟩

def M_partsOrigin_L6 : Nat → Int32 → Int32 → Int32 → mg_Rg → Option (Int32)
  | 0, _, _, _, _ => none
  | n + 1, x1, x2, x3, u =>
    if 8 ≤ x3 then
    some (x1)
    else
    (M_partsOrigin_L18 mg_F x1 x2 x3 0 0 u).bind fun q3268 => match q3268 with
      | x1117 =>
        if x1117 ≤ x2 then
        M_partsOrigin_L6 n x1 x2 (x3 + 1) u
        else
        (M_partsValue u).bind fun v1118 =>
          if (x1117 * 100) < ((u 43 10) * v1118) then
          M_partsOrigin_L6 n x1 x2 (x3 + 1) u
          else
          M_partsOrigin_L6 n x3 x1117 (x3 + 1) u
set_option maxRecDepth 10000 in
set_option maxHeartbeats 4000000 in
theorem ev_M_partsOrigin_L6 {sc : mg_Sc} {c z : Nat} {fL : Nat → Int64} {fD : Nat → UInt64} : ∀ (n : Nat) (x1 : Int32) (x2 : Int32) (x3 : Int32) (u : mg_Rg) (res : Int32), M_partsOrigin_L6 n x1 x2 x3 u = some res → ∀ r, (match res with | y1 => mg_Ev sc 1 98 114 [some (.ref 43), some (.int y1), none, none, none, none] [] (hp u fL fD, c, z) r) → mg_Ev sc 1 98 6 [some (.ref 43), some (.int x1), some (.int x2), some (.int x3), none, none] [] (hp u fL fD, c, z) r := by
  intro n
  induction n with
  | zero => intro x1 x2 x3 u res h; cases h
  | succ n ih =>
    intro x1 x2 x3 u res h r K
    unfold M_partsOrigin_L6 at h
    refine mg_Ev.go 2 (pc' := 9) (loc' := [some (.ref 43), some (.int x1), some (.int x2), some (.int x3), none, none]) (st' := [.int 8, .int x3]) (w' := (hp u fL fD, c, z)) rfl ?_
    refine mg_Ev.br (P := 8 ≤ x3) (t := 114) (nx := 12) (st' := []) rfl rfl rfl rfl (fun hc3269 => ?_) (fun hc3269 => ?_)
    · rw [if_pos hc3269] at h
      cases h
      exact mg_Ev.more (loc := [some (.ref 43), some (.int x1), none, none, none, none]) K ⟨rfl, ⟨rfl, trivial⟩⟩
    · rw [if_neg hc3269] at h
      refine mg_Ev.go 4 (pc' := 18) (loc' := [some (.ref 43), some (.int x1), some (.int x2), some (.int x3), some (.int 0), some (.int 0)]) (st' := []) (w' := (hp u fL fD, c, z)) rfl ?_
      obtain ⟨x1117, hl3270, h⟩ := Option.bind_eq_some_iff.mp h
      try dsimp only at h
      refine mg_Ev.more (loc := [some (.ref 43), some (.int x1), some (.int x2), some (.int x3), some (.int 0), some (.int 0)]) (ev_M_partsOrigin_L18 _ _ _ _ _ _ _ _ hl3270 _ ?_) ⟨rfl, ⟨rfl, ⟨rfl, ⟨rfl, ⟨rfl, ⟨rfl, trivial⟩⟩⟩⟩⟩⟩
      show mg_Ev _ _ _ 77 [some (.ref 43), some (.int x1), some (.int x2), some (.int x3), some (.int x1117), none] [] (hp u fL fD, c, z) _
      refine mg_Ev.go 2 (pc' := 80) (loc' := [some (.ref 43), some (.int x1), some (.int x2), some (.int x3), some (.int x1117), none]) (st' := [.int x2, .int x1117]) (w' := (hp u fL fD, c, z)) rfl ?_
      refine mg_Ev.br (P := x1117 ≤ x2) (t := 108) (nx := 83) (st' := []) rfl rfl rfl rfl (fun hc3271 => ?_) (fun hc3271 => ?_)
      · rw [if_pos hc3271] at h
        refine mg_Ev.go 2 (pc' := 6) (loc' := [some (.ref 43), some (.int x1), some (.int x2), some (.int (x3 + 1)), some (.int x1117), none]) (st' := []) (w' := (hp u fL fD, c, z)) rfl ?_
        exact mg_Ev.more (loc := [some (.ref 43), some (.int x1), some (.int x2), some (.int (x3 + 1)), none, none]) (ih _ _ _ _ _ h _ K) ⟨rfl, ⟨rfl, ⟨rfl, ⟨rfl, trivial⟩⟩⟩⟩
      · rw [if_neg hc3271] at h
        refine mg_Ev.go 6 (pc' := 94) (loc' := [some (.ref 43), some (.int x1), some (.int x2), some (.int x3), some (.int x1117), none]) (st' := [.int 10, .ref 44, .int (x1117 * 100)]) (w' := (hp u fL fD, c, z)) rfl ?_
        refine mg_Ev.iald (a := 43) (n := 690) (f := u 43) (j := 10) rfl (hpg_43 _ _ _) (by decide) (by decide) ?_
        refine mg_Ev.go 1 (pc' := 96) (loc' := [some (.ref 43), some (.int x1), some (.int x2), some (.int x3), some (.int x1117), none]) (st' := [.ref 43, .int (u 43 10), .int (x1117 * 100)]) (w' := (hp u fL fD, c, z)) rfl ?_
        obtain ⟨v1118, hf3272, h⟩ := Option.bind_eq_some_iff.mp h
        refine mg_Ev.call (y := 97) (as := [.ref 43]) (rest := [.int (u 43 10), .int (x1117 * 100)]) (v := some (.int v1118)) (w1 := (hp u fL fD, c, z)) rfl rfl (Nat.le_of_ble_eq_true rfl) ((ev_M_partsValue hf3272).deep (by decide)) ?_
        refine mg_Ev.go 1 (pc' := 100) (loc' := [some (.ref 43), some (.int x1), some (.int x2), some (.int x3), some (.int x1117), none]) (st' := [.int ((u 43 10) * v1118), .int (x1117 * 100)]) (w' := (hp u fL fD, c, z)) rfl ?_
        refine mg_Ev.br (P := (x1117 * 100) < ((u 43 10) * v1118)) (t := 108) (nx := 103) (st' := []) rfl rfl rfl rfl (fun hc3273 => ?_) (fun hc3273 => ?_)
        · rw [if_pos hc3273] at h
          refine mg_Ev.go 2 (pc' := 6) (loc' := [some (.ref 43), some (.int x1), some (.int x2), some (.int (x3 + 1)), some (.int x1117), none]) (st' := []) (w' := (hp u fL fD, c, z)) rfl ?_
          exact mg_Ev.more (loc := [some (.ref 43), some (.int x1), some (.int x2), some (.int (x3 + 1)), none, none]) (ih _ _ _ _ _ h _ K) ⟨rfl, ⟨rfl, ⟨rfl, ⟨rfl, trivial⟩⟩⟩⟩
        · rw [if_neg hc3273] at h
          refine mg_Ev.go 6 (pc' := 6) (loc' := [some (.ref 43), some (.int x3), some (.int x1117), some (.int (x3 + 1)), some (.int x1117), none]) (st' := []) (w' := (hp u fL fD, c, z)) rfl ?_
          exact mg_Ev.more (loc := [some (.ref 43), some (.int x3), some (.int x1117), some (.int (x3 + 1)), none, none]) (ih _ _ _ _ _ h _ K) ⟨rfl, ⟨rfl, ⟨rfl, ⟨rfl, trivial⟩⟩⟩⟩

def M_partsOrigin (u : mg_Rg) : Option (Int32) :=
  (M_partsOrigin_L6 mg_F (-1) 0 0 u).bind fun q3274 => match q3274 with
  | x1119 =>
    if x1119 = (-1) then
    if (192 + (2 * ((u 43 6) - 1))) < 0 ∨ 690 ≤ (192 + (2 * ((u 43 6) - 1))).toNatClampNeg then none else
      some (u 43 ((192 + (2 * ((u 43 6) - 1))).toNatClampNeg))
    else
    some x1119

set_option maxRecDepth 10000 in
set_option maxHeartbeats 4000000 in
theorem ev_M_partsOrigin {sc : mg_Sc} {c z : Nat} {fL : Nat → Int64} {fD : Nat → UInt64} {u : mg_Rg} {v : Int32} (h : M_partsOrigin u = some v) : mg_Ev sc 1 98 0 (mg_entry 98 [.ref 43]) [] (hp u fL fD, c, z) (.inl (some (.int v)), (hp u fL fD, c, z)) := by
  unfold M_partsOrigin at h
  show mg_Ev _ _ _ 0 [some (.ref 43), none, none, none, none, none] [] _ _
  refine mg_Ev.go 6 (pc' := 6) (loc' := [some (.ref 43), some (.int (-1)), some (.int 0), some (.int 0), none, none]) (st' := []) (w' := (hp u fL fD, c, z)) rfl ?_
  obtain ⟨x1119, hl3275, h⟩ := Option.bind_eq_some_iff.mp h
  try dsimp only at h
  refine mg_Ev.more (loc := [some (.ref 43), some (.int (-1)), some (.int 0), some (.int 0), none, none]) (ev_M_partsOrigin_L6 _ _ _ _ _ _ hl3275 _ ?_) ⟨rfl, ⟨rfl, ⟨rfl, ⟨rfl, trivial⟩⟩⟩⟩
  show mg_Ev _ _ _ 114 [some (.ref 43), some (.int x1119), none, none, none, none] [] (hp u fL fD, c, z) _
  refine mg_Ev.go 2 (pc' := 116) (loc' := [some (.ref 43), some (.int x1119), none, none, none, none]) (st' := [.int (-1), .int x1119]) (w' := (hp u fL fD, c, z)) rfl ?_
  refine mg_Ev.br (P := x1119 = (-1)) (t := 119) (nx := 142) (st' := []) rfl rfl rfl rfl (fun hc3276 => ?_) (fun hc3276 => ?_)
  · rw [if_pos hc3276] at h
    refine mg_Ev.go 7 (pc' := 133) (loc' := [some (.ref 43), some (.int x1119), none, none, none, none]) (st' := [.int 6, .ref 44, .int 2, .int 192, .ref 44]) (w' := (hp u fL fD, c, z)) rfl ?_
    refine mg_Ev.iald (a := 43) (n := 690) (f := u 43) (j := 6) rfl (hpg_43 _ _ _) (by decide) (by decide) ?_
    refine mg_Ev.go 4 (pc' := 138) (loc' := [some (.ref 43), some (.int x1119), none, none, none, none]) (st' := [.int (192 + (2 * ((u 43 6) - 1))), .ref 44]) (w' := (hp u fL fD, c, z)) rfl ?_
    by_cases hb3277 : (192 + (2 * ((u 43 6) - 1))) < 0 ∨ 690 ≤ (192 + (2 * ((u 43 6) - 1))).toNatClampNeg
    · rw [if_pos hb3277] at h
      cases h
    · rw [if_neg hb3277] at h
      refine mg_Ev.iald (a := 43) (n := 690) (f := u 43) rfl (hpg_43 _ _ _) rfl hb3277 ?_
      refine mg_Ev.go 1 (pc' := 143) (loc' := [some (.ref 43), some (.int x1119), none, none, none, none]) (st' := [.int (u 43 ((192 + (2 * ((u 43 6) - 1))).toNatClampNeg))]) (w' := (hp u fL fD, c, z)) rfl ?_
      cases h
      exact mg_Ev.fin rfl rfl rfl
  · rw [if_neg hc3276] at h
    refine mg_Ev.go 1 (pc' := 143) (loc' := [some (.ref 43), some (.int x1119), none, none, none, none]) (st' := [.int x1119]) (w' := (hp u fL fD, c, z)) rfl ?_
    cases h
    exact mg_Ev.fin rfl rfl rfl

def M_origin (u : mg_Rg) : Option (Int32 × mg_Rg) :=
  if (u 43 6) = 0 then
  (M_fails 1 u).bind fun p1122 => match p1122 with
    | (v1120, u1121) =>
      some (v1120, u1121)
  else
  (M_partsOrigin u).bind fun v1123 =>
    (M_done v1123 u).bind fun p1126 => match p1126 with
    | (v1124, u1125) =>
      some (v1124, u1125)

set_option maxRecDepth 10000 in
set_option maxHeartbeats 4000000 in
theorem ev_M_origin {sc : mg_Sc} {c z : Nat} {fL : Nat → Int64} {fD : Nat → UInt64} {u : mg_Rg} {p : Int32 × mg_Rg} (h : M_origin u = some p) : mg_Ev sc 2 99 0 (mg_entry 99 [.ref 43]) [] (hp u fL fD, c, z) (.inl (some (.int p.1)), (hp p.2 fL fD, c, z)) := by
  unfold M_origin at h
  show mg_Ev _ _ _ 0 [some (.ref 43)] [] _ _
  refine mg_Ev.go 3 (pc' := 6) (loc' := [some (.ref 43)]) (st' := [.int 6, .ref 44]) (w' := (hp u fL fD, c, z)) rfl ?_
  refine mg_Ev.iald (a := 43) (n := 690) (f := u 43) (j := 6) rfl (hpg_43 _ _ _) (by decide) (by decide) ?_
  refine mg_Ev.br (P := (u 43 6) = 0) (t := 10) (nx := 18) (st' := []) rfl rfl rfl rfl (fun hc3278 => ?_) (fun hc3278 => ?_)
  · rw [if_pos hc3278] at h
    refine mg_Ev.go 2 (pc' := 12) (loc' := [some (.ref 43)]) (st' := [.int 1, .ref 43]) (w' := (hp u fL fD, c, z)) rfl ?_
    obtain ⟨⟨v1120, u1121⟩, hf3279, h⟩ := Option.bind_eq_some_iff.mp h
    try dsimp only at h
    refine mg_Ev.call (y := 59) (as := [.ref 43, .int 1]) (rest := []) (v := some (.int v1120)) (w1 := (hp u1121 fL fD, c, z)) rfl rfl (Nat.le_of_ble_eq_true rfl) ((ev_M_fails hf3279).deep (by decide)) ?_
    refine mg_Ev.go 1 (pc' := 26) (loc' := [some (.ref 43)]) (st' := [.int v1120]) (w' := (hp u1121 fL fD, c, z)) rfl ?_
    cases h
    exact mg_Ev.fin rfl rfl rfl
  · rw [if_neg hc3278] at h
    refine mg_Ev.go 2 (pc' := 20) (loc' := [some (.ref 43)]) (st' := [.ref 43, .ref 43]) (w' := (hp u fL fD, c, z)) rfl ?_
    obtain ⟨v1123, hf3280, h⟩ := Option.bind_eq_some_iff.mp h
    refine mg_Ev.call (y := 98) (as := [.ref 43]) (rest := [.ref 43]) (v := some (.int v1123)) (w1 := (hp u fL fD, c, z)) rfl rfl (Nat.le_of_ble_eq_true rfl) ((ev_M_partsOrigin hf3280).deep (by decide)) ?_
    obtain ⟨⟨v1124, u1125⟩, hf3281, h⟩ := Option.bind_eq_some_iff.mp h
    try dsimp only at h
    refine mg_Ev.call (y := 60) (as := [.ref 43, .int v1123]) (rest := []) (v := some (.int v1124)) (w1 := (hp u1125 fL fD, c, z)) rfl rfl (Nat.le_of_ble_eq_true rfl) ((ev_M_done hf3281).deep (by decide)) ?_
    cases h
    exact mg_Ev.fin rfl rfl rfl

