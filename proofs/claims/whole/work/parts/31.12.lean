def M_partsOrigin_L18 : Nat → Int32 → Int32 → Int32 → Int32 → Int32 → mg_Rg → Option (Int32)
  | 0, _, _, _, _, _, _ => none
  | n + 1, x1, x2, x3, x4, x5, u =>
    if (u 43 6) ≤ x5 then
    some (x4)
    else
    if (192 + (2 * x5)) < 0 ∨ 690 ≤ (192 + (2 * x5)).toNatClampNeg then none else
      if (u 43 ((192 + (2 * x5)).toNatClampNeg)) = x3 then
      if ((192 + (2 * x5)) + 1) < 0 ∨ 690 ≤ ((192 + (2 * x5)) + 1).toNatClampNeg then none else
        M_partsOrigin_L18 n x1 x2 x3 (x4 + (u 43 (((192 + (2 * x5)) + 1).toNatClampNeg))) (x5 + 1) u
      else
      M_partsOrigin_L18 n x1 x2 x3 (x4 + 0) (x5 + 1) u
set_option maxRecDepth 10000 in
set_option maxHeartbeats 4000000 in
theorem ev_M_partsOrigin_L18 {sc : mg_Sc} {c z : Nat} {fL : Nat → Int64} {fD : Nat → UInt64} : ∀ (n : Nat) (x1 : Int32) (x2 : Int32) (x3 : Int32) (x4 : Int32) (x5 : Int32) (u : mg_Rg) (res : Int32), M_partsOrigin_L18 n x1 x2 x3 x4 x5 u = some res → ∀ r, (match res with | y4 => mg_Ev sc 1 98 77 [some (.ref 43), some (.int x1), some (.int x2), some (.int x3), some (.int y4), none] [] (hp u fL fD, c, z) r) → mg_Ev sc 1 98 18 [some (.ref 43), some (.int x1), some (.int x2), some (.int x3), some (.int x4), some (.int x5)] [] (hp u fL fD, c, z) r := by
  intro n
  induction n with
  | zero => intro x1 x2 x3 x4 x5 u res h; cases h
  | succ n ih =>
    intro x1 x2 x3 x4 x5 u res h r K
    unfold M_partsOrigin_L18 at h
    refine mg_Ev.go 4 (pc' := 26) (loc' := [some (.ref 43), some (.int x1), some (.int x2), some (.int x3), some (.int x4), some (.int x5)]) (st' := [.int 6, .ref 44, .int x5]) (w' := (hp u fL fD, c, z)) rfl ?_
    refine mg_Ev.iald (a := 43) (n := 690) (f := u 43) (j := 6) rfl rfl (by decide) (by decide) ?_
    refine mg_Ev.br (P := (u 43 6) ≤ x5) (t := 77) (nx := 30) (st' := []) rfl rfl rfl rfl (fun hc3264 => ?_) (fun hc3264 => ?_)
    · rw [if_pos hc3264] at h
      cases h
      exact mg_Ev.more (loc := [some (.ref 43), some (.int x1), some (.int x2), some (.int x3), some (.int x4), none]) K ⟨rfl, ⟨rfl, ⟨rfl, ⟨rfl, ⟨rfl, trivial⟩⟩⟩⟩⟩
    · rw [if_neg hc3264] at h
      refine mg_Ev.go 8 (pc' := 44) (loc' := [some (.ref 43), some (.int x1), some (.int x2), some (.int x3), some (.int x4), some (.int x5)]) (st' := [.int (192 + (2 * x5)), .ref 44, .int x4]) (w' := (hp u fL fD, c, z)) rfl ?_
      by_cases hb3265 : (192 + (2 * x5)) < 0 ∨ 690 ≤ (192 + (2 * x5)).toNatClampNeg
      · rw [if_pos hb3265] at h
        cases h
      · rw [if_neg hb3265] at h
        refine mg_Ev.iald (a := 43) (n := 690) (f := u 43) rfl rfl rfl hb3265 ?_
        refine mg_Ev.go 1 (pc' := 46) (loc' := [some (.ref 43), some (.int x1), some (.int x2), some (.int x3), some (.int x4), some (.int x5)]) (st' := [.int x3, .int (u 43 ((192 + (2 * x5)).toNatClampNeg)), .int x4]) (w' := (hp u fL fD, c, z)) rfl ?_
        refine mg_Ev.br (P := (u 43 ((192 + (2 * x5)).toNatClampNeg)) = x3) (t := 49) (nx := 67) (st' := [.int x4]) rfl rfl rfl rfl (fun hc3266 => ?_) (fun hc3266 => ?_)
        · rw [if_pos hc3266] at h
          refine mg_Ev.go 9 (pc' := 63) (loc' := [some (.ref 43), some (.int x1), some (.int x2), some (.int x3), some (.int x4), some (.int x5)]) (st' := [.int ((192 + (2 * x5)) + 1), .ref 44, .int x4]) (w' := (hp u fL fD, c, z)) rfl ?_
          by_cases hb3267 : ((192 + (2 * x5)) + 1) < 0 ∨ 690 ≤ ((192 + (2 * x5)) + 1).toNatClampNeg
          · rw [if_pos hb3267] at h
            cases h
          · rw [if_neg hb3267] at h
            refine mg_Ev.iald (a := 43) (n := 690) (f := u 43) rfl rfl rfl hb3267 ?_
            refine mg_Ev.go 5 (pc' := 18) (loc' := [some (.ref 43), some (.int x1), some (.int x2), some (.int x3), some (.int (x4 + (u 43 (((192 + (2 * x5)) + 1).toNatClampNeg)))), some (.int (x5 + 1))]) (st' := []) (w' := (hp u fL fD, c, z)) rfl ?_
            exact mg_Ev.more (loc := [some (.ref 43), some (.int x1), some (.int x2), some (.int x3), some (.int (x4 + (u 43 (((192 + (2 * x5)) + 1).toNatClampNeg)))), some (.int (x5 + 1))]) (ih _ _ _ _ _ _ _ h _ K) ⟨rfl, ⟨rfl, ⟨rfl, ⟨rfl, ⟨rfl, ⟨rfl, trivial⟩⟩⟩⟩⟩⟩
        · rw [if_neg hc3266] at h
          refine mg_Ev.go 5 (pc' := 18) (loc' := [some (.ref 43), some (.int x1), some (.int x2), some (.int x3), some (.int (x4 + 0)), some (.int (x5 + 1))]) (st' := []) (w' := (hp u fL fD, c, z)) rfl ?_
          exact mg_Ev.more (loc := [some (.ref 43), some (.int x1), some (.int x2), some (.int x3), some (.int (x4 + 0)), some (.int (x5 + 1))]) (ih _ _ _ _ _ _ _ h _ K) ⟨rfl, ⟨rfl, ⟨rfl, ⟨rfl, ⟨rfl, ⟨rfl, trivial⟩⟩⟩⟩⟩⟩

def M_partsOrigin_L6 : Nat → Int32 → Int32 → Int32 → mg_Rg → Option (Int32)
  | 0, _, _, _, _ => none
  | n + 1, x1, x2, x3, u =>
    if 8 ≤ x3 then
    some (x1)
    else
    (M_partsOrigin_L18 mg_F x1 x2 x3 0 0 u).bind fun q3268 => match q3268 with
      | x1117 =>
        if x1117 ≤ x2 then
        M_partsOrigin_L6 n x1 x2 (x3 + 1) u
        else
        (M_partsValue u).bind fun v1118 =>
          if (x1117 * 100) < ((u 43 10) * v1118) then
          M_partsOrigin_L6 n x1 x2 (x3 + 1) u
          else
          M_partsOrigin_L6 n x3 x1117 (x3 + 1) u
set_option maxRecDepth 10000 in
set_option maxHeartbeats 4000000 in
theorem ev_M_partsOrigin_L6 {sc : mg_Sc} {c z : Nat} {fL : Nat → Int64} {fD : Nat → UInt64} : ∀ (n : Nat) (x1 : Int32) (x2 : Int32) (x3 : Int32) (u : mg_Rg) (res : Int32), M_partsOrigin_L6 n x1 x2 x3 u = some res → ∀ r, (match res with | y1 => mg_Ev sc 1 98 114 [some (.ref 43), some (.int y1), none, none, none, none] [] (hp u fL fD, c, z) r) → mg_Ev sc 1 98 6 [some (.ref 43), some (.int x1), some (.int x2), some (.int x3), none, none] [] (hp u fL fD, c, z) r := by
  intro n
  induction n with
  | zero => intro x1 x2 x3 u res h; cases h
  | succ n ih =>
    intro x1 x2 x3 u res h r K
    unfold M_partsOrigin_L6 at h
    refine mg_Ev.go 2 (pc' := 9) (loc' := [some (.ref 43), some (.int x1), some (.int x2), some (.int x3), none, none]) (st' := [.int 8, .int x3]) (w' := (hp u fL fD, c, z)) rfl ?_
    refine mg_Ev.br (P := 8 ≤ x3) (t := 114) (nx := 12) (st' := []) rfl rfl rfl rfl (fun hc3269 => ?_) (fun hc3269 => ?_)
    · rw [if_pos hc3269] at h
      cases h
      exact mg_Ev.more (loc := [some (.ref 43), some (.int x1), none, none, none, none]) K ⟨rfl, ⟨rfl, trivial⟩⟩
    · rw [if_neg hc3269] at h
      refine mg_Ev.go 4 (pc' := 18) (loc' := [some (.ref 43), some (.int x1), some (.int x2), some (.int x3), some (.int 0), some (.int 0)]) (st' := []) (w' := (hp u fL fD, c, z)) rfl ?_
      obtain ⟨x1117, hl3270, h⟩ := Option.bind_eq_some_iff.mp h
      try dsimp only at h
      refine mg_Ev.more (loc := [some (.ref 43), some (.int x1), some (.int x2), some (.int x3), some (.int 0), some (.int 0)]) (ev_M_partsOrigin_L18 _ _ _ _ _ _ _ _ hl3270 _ ?_) ⟨rfl, ⟨rfl, ⟨rfl, ⟨rfl, ⟨rfl, ⟨rfl, trivial⟩⟩⟩⟩⟩⟩
      show mg_Ev _ _ _ 77 [some (.ref 43), some (.int x1), some (.int x2), some (.int x3), some (.int x1117), none] [] (hp u fL fD, c, z) _
      refine mg_Ev.go 2 (pc' := 80) (loc' := [some (.ref 43), some (.int x1), some (.int x2), some (.int x3), some (.int x1117), none]) (st' := [.int x2, .int x1117]) (w' := (hp u fL fD, c, z)) rfl ?_
      refine mg_Ev.br (P := x1117 ≤ x2) (t := 108) (nx := 83) (st' := []) rfl rfl rfl rfl (fun hc3271 => ?_) (fun hc3271 => ?_)
      · rw [if_pos hc3271] at h
        refine mg_Ev.go 2 (pc' := 6) (loc' := [some (.ref 43), some (.int x1), some (.int x2), some (.int (x3 + 1)), some (.int x1117), none]) (st' := []) (w' := (hp u fL fD, c, z)) rfl ?_
        exact mg_Ev.more (loc := [some (.ref 43), some (.int x1), some (.int x2), some (.int (x3 + 1)), none, none]) (ih _ _ _ _ _ h _ K) ⟨rfl, ⟨rfl, ⟨rfl, ⟨rfl, trivial⟩⟩⟩⟩
      · rw [if_neg hc3271] at h
        refine mg_Ev.go 6 (pc' := 94) (loc' := [some (.ref 43), some (.int x1), some (.int x2), some (.int x3), some (.int x1117), none]) (st' := [.int 10, .ref 44, .int (x1117 * 100)]) (w' := (hp u fL fD, c, z)) rfl ?_
        refine mg_Ev.iald (a := 43) (n := 690) (f := u 43) (j := 10) rfl rfl (by decide) (by decide) ?_
        refine mg_Ev.go 1 (pc' := 96) (loc' := [some (.ref 43), some (.int x1), some (.int x2), some (.int x3), some (.int x1117), none]) (st' := [.ref 43, .int (u 43 10), .int (x1117 * 100)]) (w' := (hp u fL fD, c, z)) rfl ?_
        obtain ⟨v1118, hf3272, h⟩ := Option.bind_eq_some_iff.mp h
        refine mg_Ev.call (y := 97) (as := [.ref 43]) (rest := [.int (u 43 10), .int (x1117 * 100)]) (v := some (.int v1118)) (w1 := (hp u fL fD, c, z)) rfl rfl (Nat.le_of_ble_eq_true rfl) ((ev_M_partsValue hf3272).deep (by decide)) ?_
        refine mg_Ev.go 1 (pc' := 100) (loc' := [some (.ref 43), some (.int x1), some (.int x2), some (.int x3), some (.int x1117), none]) (st' := [.int ((u 43 10) * v1118), .int (x1117 * 100)]) (w' := (hp u fL fD, c, z)) rfl ?_
        refine mg_Ev.br (P := (x1117 * 100) < ((u 43 10) * v1118)) (t := 108) (nx := 103) (st' := []) rfl rfl rfl rfl (fun hc3273 => ?_) (fun hc3273 => ?_)
        · rw [if_pos hc3273] at h
          refine mg_Ev.go 2 (pc' := 6) (loc' := [some (.ref 43), some (.int x1), some (.int x2), some (.int (x3 + 1)), some (.int x1117), none]) (st' := []) (w' := (hp u fL fD, c, z)) rfl ?_
          exact mg_Ev.more (loc := [some (.ref 43), some (.int x1), some (.int x2), some (.int (x3 + 1)), none, none]) (ih _ _ _ _ _ h _ K) ⟨rfl, ⟨rfl, ⟨rfl, ⟨rfl, trivial⟩⟩⟩⟩
        · rw [if_neg hc3273] at h
          refine mg_Ev.go 6 (pc' := 6) (loc' := [some (.ref 43), some (.int x3), some (.int x1117), some (.int (x3 + 1)), some (.int x1117), none]) (st' := []) (w' := (hp u fL fD, c, z)) rfl ?_
          exact mg_Ev.more (loc := [some (.ref 43), some (.int x3), some (.int x1117), some (.int (x3 + 1)), none, none]) (ih _ _ _ _ _ h _ K) ⟨rfl, ⟨rfl, ⟨rfl, ⟨rfl, trivial⟩⟩⟩⟩

def M_partsOrigin (u : mg_Rg) : Option (Int32) :=
  (M_partsOrigin_L6 mg_F (-1) 0 0 u).bind fun q3274 => match q3274 with
  | x1119 =>
    if x1119 = (-1) then
    if (192 + (2 * ((u 43 6) - 1))) < 0 ∨ 690 ≤ (192 + (2 * ((u 43 6) - 1))).toNatClampNeg then none else
      some (u 43 ((192 + (2 * ((u 43 6) - 1))).toNatClampNeg))
    else
    some x1119

set_option maxRecDepth 10000 in
set_option maxHeartbeats 4000000 in
theorem ev_M_partsOrigin {sc : mg_Sc} {c z : Nat} {fL : Nat → Int64} {fD : Nat → UInt64} {u : mg_Rg} {v : Int32} (h : M_partsOrigin u = some v) : mg_Ev sc 1 98 0 (mg_entry 98 [.ref 43]) [] (hp u fL fD, c, z) (.inl (some (.int v)), (hp u fL fD, c, z)) := by
  unfold M_partsOrigin at h
  show mg_Ev _ _ _ 0 [some (.ref 43), none, none, none, none, none] [] _ _
  refine mg_Ev.go 6 (pc' := 6) (loc' := [some (.ref 43), some (.int (-1)), some (.int 0), some (.int 0), none, none]) (st' := []) (w' := (hp u fL fD, c, z)) rfl ?_
  obtain ⟨x1119, hl3275, h⟩ := Option.bind_eq_some_iff.mp h
  try dsimp only at h
  refine mg_Ev.more (loc := [some (.ref 43), some (.int (-1)), some (.int 0), some (.int 0), none, none]) (ev_M_partsOrigin_L6 _ _ _ _ _ _ hl3275 _ ?_) ⟨rfl, ⟨rfl, ⟨rfl, ⟨rfl, trivial⟩⟩⟩⟩
  show mg_Ev _ _ _ 114 [some (.ref 43), some (.int x1119), none, none, none, none] [] (hp u fL fD, c, z) _
  refine mg_Ev.go 2 (pc' := 116) (loc' := [some (.ref 43), some (.int x1119), none, none, none, none]) (st' := [.int (-1), .int x1119]) (w' := (hp u fL fD, c, z)) rfl ?_
  refine mg_Ev.br (P := x1119 = (-1)) (t := 119) (nx := 142) (st' := []) rfl rfl rfl rfl (fun hc3276 => ?_) (fun hc3276 => ?_)
  · rw [if_pos hc3276] at h
    refine mg_Ev.go 7 (pc' := 133) (loc' := [some (.ref 43), some (.int x1119), none, none, none, none]) (st' := [.int 6, .ref 44, .int 2, .int 192, .ref 44]) (w' := (hp u fL fD, c, z)) rfl ?_
    refine mg_Ev.iald (a := 43) (n := 690) (f := u 43) (j := 6) rfl rfl (by decide) (by decide) ?_
    refine mg_Ev.go 4 (pc' := 138) (loc' := [some (.ref 43), some (.int x1119), none, none, none, none]) (st' := [.int (192 + (2 * ((u 43 6) - 1))), .ref 44]) (w' := (hp u fL fD, c, z)) rfl ?_
    by_cases hb3277 : (192 + (2 * ((u 43 6) - 1))) < 0 ∨ 690 ≤ (192 + (2 * ((u 43 6) - 1))).toNatClampNeg
    · rw [if_pos hb3277] at h
      cases h
    · rw [if_neg hb3277] at h
      refine mg_Ev.iald (a := 43) (n := 690) (f := u 43) rfl rfl rfl hb3277 ?_
      refine mg_Ev.go 1 (pc' := 143) (loc' := [some (.ref 43), some (.int x1119), none, none, none, none]) (st' := [.int (u 43 ((192 + (2 * ((u 43 6) - 1))).toNatClampNeg))]) (w' := (hp u fL fD, c, z)) rfl ?_
      cases h
      exact mg_Ev.fin rfl rfl rfl
  · rw [if_neg hc3276] at h
    refine mg_Ev.go 1 (pc' := 143) (loc' := [some (.ref 43), some (.int x1119), none, none, none, none]) (st' := [.int x1119]) (w' := (hp u fL fD, c, z)) rfl ?_
    cases h
    exact mg_Ev.fin rfl rfl rfl

def M_origin (u : mg_Rg) : Option (Int32 × mg_Rg) :=
  if (u 43 6) = 0 then
  (M_fails 1 u).bind fun p1122 => match p1122 with
    | (v1120, u1121) =>
      some (v1120, u1121)
  else
  (M_partsOrigin u).bind fun v1123 =>
    (M_done v1123 u).bind fun p1126 => match p1126 with
    | (v1124, u1125) =>
      some (v1124, u1125)

set_option maxRecDepth 10000 in
set_option maxHeartbeats 4000000 in
theorem ev_M_origin {sc : mg_Sc} {c z : Nat} {fL : Nat → Int64} {fD : Nat → UInt64} {u : mg_Rg} {p : Int32 × mg_Rg} (h : M_origin u = some p) : mg_Ev sc 2 99 0 (mg_entry 99 [.ref 43]) [] (hp u fL fD, c, z) (.inl (some (.int p.1)), (hp p.2 fL fD, c, z)) := by
  unfold M_origin at h
  show mg_Ev _ _ _ 0 [some (.ref 43)] [] _ _
  refine mg_Ev.go 3 (pc' := 6) (loc' := [some (.ref 43)]) (st' := [.int 6, .ref 44]) (w' := (hp u fL fD, c, z)) rfl ?_
  refine mg_Ev.iald (a := 43) (n := 690) (f := u 43) (j := 6) rfl rfl (by decide) (by decide) ?_
  refine mg_Ev.br (P := (u 43 6) = 0) (t := 10) (nx := 18) (st' := []) rfl rfl rfl rfl (fun hc3278 => ?_) (fun hc3278 => ?_)
  · rw [if_pos hc3278] at h
    refine mg_Ev.go 2 (pc' := 12) (loc' := [some (.ref 43)]) (st' := [.int 1, .ref 43]) (w' := (hp u fL fD, c, z)) rfl ?_
    obtain ⟨⟨v1120, u1121⟩, hf3279, h⟩ := Option.bind_eq_some_iff.mp h
    try dsimp only at h
    refine mg_Ev.call (y := 59) (as := [.ref 43, .int 1]) (rest := []) (v := some (.int v1120)) (w1 := (hp u1121 fL fD, c, z)) rfl rfl (Nat.le_of_ble_eq_true rfl) ((ev_M_fails hf3279).deep (by decide)) ?_
    refine mg_Ev.go 1 (pc' := 26) (loc' := [some (.ref 43)]) (st' := [.int v1120]) (w' := (hp u1121 fL fD, c, z)) rfl ?_
    cases h
    exact mg_Ev.fin rfl rfl rfl
  · rw [if_neg hc3278] at h
    refine mg_Ev.go 2 (pc' := 20) (loc' := [some (.ref 43)]) (st' := [.ref 43, .ref 43]) (w' := (hp u fL fD, c, z)) rfl ?_
    obtain ⟨v1123, hf3280, h⟩ := Option.bind_eq_some_iff.mp h
    refine mg_Ev.call (y := 98) (as := [.ref 43]) (rest := [.ref 43]) (v := some (.int v1123)) (w1 := (hp u fL fD, c, z)) rfl rfl (Nat.le_of_ble_eq_true rfl) ((ev_M_partsOrigin hf3280).deep (by decide)) ?_
    obtain ⟨⟨v1124, u1125⟩, hf3281, h⟩ := Option.bind_eq_some_iff.mp h
    try dsimp only at h
    refine mg_Ev.call (y := 60) (as := [.ref 43, .int v1123]) (rest := []) (v := some (.int v1124)) (w1 := (hp u1125 fL fD, c, z)) rfl rfl (Nat.le_of_ble_eq_true rfl) ((ev_M_done hf3281).deep (by decide)) ?_
    cases h
    exact mg_Ev.fin rfl rfl rfl

