def C_givenBack (u : mg_Rg) : Option ((UInt64 ⊕ Nat) × mg_Rg) :=
  (Lg_found u).bind fun v571 =>
  if v571 = 0 then
  some (.inr 5, u)
  else
  (Lg_allGivenBack u).bind fun v572 =>
    (Lg_found u).bind fun v573 =>
    if (FP.ddiv (FP.i2d v572) (FP.i2d v573)) &&& 0x7fffffffffffffff ≤ 0x7ff0000000000000 then
    some (.inl (FP.ddiv (FP.i2d v572) (FP.i2d v573)), u)
    else none

set_option maxRecDepth 10000 in
set_option maxHeartbeats 4000000 in
theorem ev_C_givenBack {sc : mg_Sc} {c z : Nat} {fL : Nat → Int64} {fD : Nat → UInt64} {u : mg_Rg} {p : (UInt64 ⊕ Nat) × mg_Rg} (h : C_givenBack u = some p) : mg_Ev sc 2 29 0 (mg_entry 29 [.ref 1]) [] (hp u fL fD, c, z) (xrd p.1, xw p.1 (hp p.2 fL fD) c z) := by
  unfold C_givenBack at h
  show mg_Ev _ _ _ 0 [some (.ref 1)] [] _ _
  refine mg_Ev.go 2 (pc' := 4) (loc' := [some (.ref 1)]) (st' := [.ref 16]) (w' := (hp u fL fD, c, z)) rfl ?_
  obtain ⟨v571, hf2577, h⟩ := Option.bind_eq_some_iff.mp h
  refine mg_Ev.call (y := 145) (as := [.ref 16]) (rest := []) (v := some (.int v571)) (w1 := (hp u fL fD, c, z)) rfl rfl (Nat.le_of_ble_eq_true rfl) ((ev_Lg_found hf2577).deep (by decide)) ?_
  refine mg_Ev.br (P := v571 = 0) (t := 10) (nx := 21) (st' := []) rfl rfl rfl rfl (fun hc2578 => ?_) (fun hc2578 => ?_)
  · rw [if_pos hc2578] at h
    cases h
    exact mg_Ev.fin rfl rfl rfl
  · rw [if_neg hc2578] at h
    refine mg_Ev.go 2 (pc' := 25) (loc' := [some (.ref 1)]) (st' := [.ref 16]) (w' := (hp u fL fD, c, z)) rfl ?_
    obtain ⟨v572, hf2579, h⟩ := Option.bind_eq_some_iff.mp h
    refine mg_Ev.call (y := 146) (as := [.ref 16]) (rest := []) (v := some (.int v572)) (w1 := (hp u fL fD, c, z)) rfl rfl (Nat.le_of_ble_eq_true rfl) ((ev_Lg_allGivenBack hf2579).deep (by decide)) ?_
    refine mg_Ev.go 3 (pc' := 33) (loc' := [some (.ref 1)]) (st' := [.ref 16, .double (FP.i2d v572)]) (w' := (hp u fL fD, c, z)) rfl ?_
    obtain ⟨v573, hf2580, h⟩ := Option.bind_eq_some_iff.mp h
    refine mg_Ev.call (y := 145) (as := [.ref 16]) (rest := [.double (FP.i2d v572)]) (v := some (.int v573)) (w1 := (hp u fL fD, c, z)) rfl rfl (Nat.le_of_ble_eq_true rfl) ((ev_Lg_found hf2580).deep (by decide)) ?_
    refine mg_Ev.go 1 (pc' := 37) (loc' := [some (.ref 1)]) (st' := [.double (FP.i2d v573), .double (FP.i2d v572)]) (w' := (hp u fL fD, c, z)) rfl ?_
    by_cases hn2581 : (FP.ddiv (FP.i2d v572) (FP.i2d v573)) &&& 0x7fffffffffffffff ≤ 0x7ff0000000000000
    · rw [if_pos hn2581] at h
      refine mg_Ev.need (pc' := 38) (loc' := [some (.ref 1)]) (st' := [.double (FP.ddiv (FP.i2d v572) (FP.i2d v573))]) (w' := (hp u fL fD, c, z)) hn2581 rfl rfl rfl rfl ?_
      cases h
      exact mg_Ev.fin rfl rfl rfl
    · rw [if_neg hn2581] at h
      cases h

def O_assessedValue_L4 : Nat → Int32 → Int32 → mg_Rg → Option (Int32)
  | 0, _, _, _ => none
  | n + 1, x1, x2, u =>
    (T_count_25 u).bind fun v574 =>
    if v574 ≤ x2 then
    some (x1)
    else
    (O_hasStatus x2 0 u).bind fun v575 =>
      if v575 = 0 then
      (T_get_25 x2 2 u).bind fun v576 =>
        O_assessedValue_L4 n (x1 + v576) (x2 + 1) u
      else
      O_assessedValue_L4 n x1 (x2 + 1) u
set_option maxRecDepth 10000 in
set_option maxHeartbeats 4000000 in
theorem ev_O_assessedValue_L4 {sc : mg_Sc} {c z : Nat} {fL : Nat → Int64} {fD : Nat → UInt64} : ∀ (n : Nat) (x1 : Int32) (x2 : Int32) (u : mg_Rg) (res : Int32), O_assessedValue_L4 n x1 x2 u = some res → ∀ r, (match res with | y1 => mg_Ev sc 2 163 42 [none, some (.int y1), none] [] (hp u fL fD, c, z) r) → mg_Ev sc 2 163 4 [some (.ref 2), some (.int x1), some (.int x2)] [] (hp u fL fD, c, z) r := by
  intro n
  induction n with
  | zero => intro x1 x2 u res h; cases h
  | succ n ih =>
    intro x1 x2 u res h r K
    unfold O_assessedValue_L4 at h
    refine mg_Ev.go 3 (pc' := 9) (loc' := [some (.ref 2), some (.int x1), some (.int x2)]) (st' := [.ref 26, .int x2]) (w' := (hp u fL fD, c, z)) rfl ?_
    obtain ⟨v574, hf2582, h⟩ := Option.bind_eq_some_iff.mp h
    refine mg_Ev.call (y := 181) (as := [.ref 26]) (rest := [.int x2]) (v := some (.int v574)) (w1 := (hp u fL fD, c, z)) rfl rfl (Nat.le_of_ble_eq_true rfl) ((ev_T_count_25 hf2582).deep (by decide)) ?_
    refine mg_Ev.br (P := v574 ≤ x2) (t := 42) (nx := 15) (st' := []) rfl rfl rfl rfl (fun hc2583 => ?_) (fun hc2583 => ?_)
    · rw [if_pos hc2583] at h
      cases h
      exact mg_Ev.more (loc := [none, some (.int x1), none]) K ⟨rfl, trivial⟩
    · rw [if_neg hc2583] at h
      refine mg_Ev.go 3 (pc' := 18) (loc' := [some (.ref 2), some (.int x1), some (.int x2)]) (st' := [.int 0, .int x2, .ref 2]) (w' := (hp u fL fD, c, z)) rfl ?_
      obtain ⟨v575, hf2584, h⟩ := Option.bind_eq_some_iff.mp h
      refine mg_Ev.call (y := 153) (as := [.ref 2, .int x2, .int 0]) (rest := []) (v := some (.int v575)) (w1 := (hp u fL fD, c, z)) rfl rfl (Nat.le_of_ble_eq_true rfl) ((ev_O_hasStatus hf2584).deep (by decide)) ?_
      refine mg_Ev.br (P := v575 = 0) (t := 24) (nx := 36) (st' := []) rfl rfl rfl rfl (fun hc2585 => ?_) (fun hc2585 => ?_)
      · rw [if_pos hc2585] at h
        refine mg_Ev.go 5 (pc' := 31) (loc' := [some (.ref 2), some (.int x1), some (.int x2)]) (st' := [.int 2, .int x2, .ref 26, .int x1]) (w' := (hp u fL fD, c, z)) rfl ?_
        obtain ⟨v576, hf2586, h⟩ := Option.bind_eq_some_iff.mp h
        refine mg_Ev.call (y := 184) (as := [.ref 26, .int x2, .int 2]) (rest := [.int x1]) (v := some (.int v576)) (w1 := (hp u fL fD, c, z)) rfl rfl (Nat.le_of_ble_eq_true rfl) ((ev_T_get_25 hf2586).deep (by decide)) ?_
        refine mg_Ev.go 4 (pc' := 4) (loc' := [some (.ref 2), some (.int (x1 + v576)), some (.int (x2 + 1))]) (st' := []) (w' := (hp u fL fD, c, z)) rfl ?_
        exact mg_Ev.more (loc := [some (.ref 2), some (.int (x1 + v576)), some (.int (x2 + 1))]) (ih _ _ _ _ h _ K) ⟨rfl, ⟨rfl, ⟨rfl, trivial⟩⟩⟩
      · rw [if_neg hc2585] at h
        refine mg_Ev.go 2 (pc' := 4) (loc' := [some (.ref 2), some (.int x1), some (.int (x2 + 1))]) (st' := []) (w' := (hp u fL fD, c, z)) rfl ?_
        exact mg_Ev.more (loc := [some (.ref 2), some (.int x1), some (.int (x2 + 1))]) (ih _ _ _ _ h _ K) ⟨rfl, ⟨rfl, ⟨rfl, trivial⟩⟩⟩

def O_assessedValue (u : mg_Rg) : Option (Int32) :=
  (O_assessedValue_L4 mg_F 0 0 u).bind fun q2587 => match q2587 with
  | x577 =>
    some x577

set_option maxRecDepth 10000 in
set_option maxHeartbeats 4000000 in
theorem ev_O_assessedValue {sc : mg_Sc} {c z : Nat} {fL : Nat → Int64} {fD : Nat → UInt64} {u : mg_Rg} {v : Int32} (h : O_assessedValue u = some v) : mg_Ev sc 2 163 0 (mg_entry 163 [.ref 2]) [] (hp u fL fD, c, z) (.inl (some (.int v)), (hp u fL fD, c, z)) := by
  unfold O_assessedValue at h
  show mg_Ev _ _ _ 0 [some (.ref 2), none, none] [] _ _
  refine mg_Ev.go 4 (pc' := 4) (loc' := [some (.ref 2), some (.int 0), some (.int 0)]) (st' := []) (w' := (hp u fL fD, c, z)) rfl ?_
  obtain ⟨x577, hl2588, h⟩ := Option.bind_eq_some_iff.mp h
  try dsimp only at h
  refine mg_Ev.more (loc := [some (.ref 2), some (.int 0), some (.int 0)]) (ev_O_assessedValue_L4 _ _ _ _ _ hl2588 _ ?_) ⟨rfl, ⟨rfl, ⟨rfl, trivial⟩⟩⟩
  show mg_Ev _ _ _ 42 [none, some (.int x577), none] [] (hp u fL fD, c, z) _
  refine mg_Ev.go 1 (pc' := 43) (loc' := [none, some (.int x577), none]) (st' := [.int x577]) (w' := (hp u fL fD, c, z)) rfl ?_
  cases h
  exact mg_Ev.fin rfl rfl rfl

def C_meanRate (u : mg_Rg) : Option ((UInt32 ⊕ Nat) × mg_Rg) :=
  (O_assessedValue u).bind fun v578 =>
  if v578 = 0 then
  some (.inr 5, u)
  else
  (Lg_found u).bind fun v579 =>
    (Lg_allGivenBack u).bind fun v580 =>
    if (FP.fdiv (FP.i2f (v579 - v580)) (FP.i2f v578)) &&& 0x7fffffff ≤ 0x7f800000 then
    some (.inl (FP.fdiv (FP.i2f (v579 - v580)) (FP.i2f v578)), u)
    else none

set_option maxRecDepth 10000 in
set_option maxHeartbeats 4000000 in
theorem ev_C_meanRate {sc : mg_Sc} {c z : Nat} {fL : Nat → Int64} {fD : Nat → UInt64} {u : mg_Rg} {p : (UInt32 ⊕ Nat) × mg_Rg} (h : C_meanRate u = some p) : mg_Ev sc 3 30 0 (mg_entry 30 [.ref 1]) [] (hp u fL fD, c, z) (xrf p.1, xw p.1 (hp p.2 fL fD) c z) := by
  unfold C_meanRate at h
  show mg_Ev _ _ _ 0 [some (.ref 1), none] [] _ _
  refine mg_Ev.go 2 (pc' := 4) (loc' := [some (.ref 1), none]) (st' := [.ref 2]) (w' := (hp u fL fD, c, z)) rfl ?_
  obtain ⟨v578, hf2589, h⟩ := Option.bind_eq_some_iff.mp h
  refine mg_Ev.call (y := 163) (as := [.ref 2]) (rest := []) (v := some (.int v578)) (w1 := (hp u fL fD, c, z)) rfl rfl (Nat.le_of_ble_eq_true rfl) ((ev_O_assessedValue hf2589).deep (by decide)) ?_
  refine mg_Ev.go 2 (pc' := 9) (loc' := [some (.ref 1), some (.int v578)]) (st' := [.int v578]) (w' := (hp u fL fD, c, z)) rfl ?_
  refine mg_Ev.br (P := v578 = 0) (t := 12) (nx := 23) (st' := []) rfl rfl rfl rfl (fun hc2590 => ?_) (fun hc2590 => ?_)
  · rw [if_pos hc2590] at h
    cases h
    exact mg_Ev.fin rfl rfl rfl
  · rw [if_neg hc2590] at h
    refine mg_Ev.go 2 (pc' := 27) (loc' := [some (.ref 1), some (.int v578)]) (st' := [.ref 16]) (w' := (hp u fL fD, c, z)) rfl ?_
    obtain ⟨v579, hf2591, h⟩ := Option.bind_eq_some_iff.mp h
    refine mg_Ev.call (y := 145) (as := [.ref 16]) (rest := []) (v := some (.int v579)) (w1 := (hp u fL fD, c, z)) rfl rfl (Nat.le_of_ble_eq_true rfl) ((ev_Lg_found hf2591).deep (by decide)) ?_
    refine mg_Ev.go 2 (pc' := 34) (loc' := [some (.ref 1), some (.int v578)]) (st' := [.ref 16, .int v579]) (w' := (hp u fL fD, c, z)) rfl ?_
    obtain ⟨v580, hf2592, h⟩ := Option.bind_eq_some_iff.mp h
    refine mg_Ev.call (y := 146) (as := [.ref 16]) (rest := [.int v579]) (v := some (.int v580)) (w1 := (hp u fL fD, c, z)) rfl rfl (Nat.le_of_ble_eq_true rfl) ((ev_Lg_allGivenBack hf2592).deep (by decide)) ?_
    refine mg_Ev.go 4 (pc' := 41) (loc' := [some (.ref 1), some (.int v578)]) (st' := [.float (FP.i2f v578), .float (FP.i2f (v579 - v580))]) (w' := (hp u fL fD, c, z)) rfl ?_
    by_cases hn2593 : (FP.fdiv (FP.i2f (v579 - v580)) (FP.i2f v578)) &&& 0x7fffffff ≤ 0x7f800000
    · rw [if_pos hn2593] at h
      refine mg_Ev.need (pc' := 42) (loc' := [some (.ref 1), some (.int v578)]) (st' := [.float (FP.fdiv (FP.i2f (v579 - v580)) (FP.i2f v578))]) (w' := (hp u fL fD, c, z)) hn2593 rfl rfl rfl rfl ?_
      cases h
      exact mg_Ev.fin rfl rfl rfl
    · rw [if_neg hn2593] at h
      cases h

def X_addCharacter (a0 : Int32) (u : mg_Rg) : Option (Int32 × mg_Rg) :=
  if (u 37 2) < 0 then
  some ((u 37 2), u)
  else
  if 60 ≤ (u 37 2) then
    some ((u 37 2), u)
    else
    if (u 37 2) < 0 ∨ 60 ≤ (u 37 2).toNatClampNeg then none else
      some (((mg_up (mg_up u 38 ((u 37 2).toNatClampNeg) (vp_nar .char a0)) 37 2 (((mg_up u 38 ((u 37 2).toNatClampNeg) (vp_nar .char a0)) 37 2) + 1)) 37 2), (mg_up (mg_up u 38 ((u 37 2).toNatClampNeg) (vp_nar .char a0)) 37 2 (((mg_up u 38 ((u 37 2).toNatClampNeg) (vp_nar .char a0)) 37 2) + 1)))

set_option maxRecDepth 10000 in
set_option maxHeartbeats 4000000 in
theorem ev_X_addCharacter {sc : mg_Sc} {c z : Nat} {fL : Nat → Int64} {fD : Nat → UInt64} {a0 : Int32} {u : mg_Rg} {p : Int32 × mg_Rg} (h : X_addCharacter a0 u = some p) : mg_Ev sc 0 212 0 (mg_entry 212 [.ref 38, .int a0]) [] (hp u fL fD, c, z) (.inl (some (.int p.1)), (hp p.2 fL fD, c, z)) := by
  unfold X_addCharacter at h
  show mg_Ev _ _ _ 0 [some (.ref 38), some (.int a0)] [] _ _
  refine mg_Ev.go 2 (pc' := 4) (loc' := [some (.ref 38), some (.int a0)]) (st' := [.int (u 37 2)]) (w' := (hp u fL fD, c, z)) rfl ?_
  refine mg_Ev.br (P := (u 37 2) < 0) (t := 39) (nx := 7) (st' := []) rfl rfl rfl rfl (fun hc2594 => ?_) (fun hc2594 => ?_)
  · rw [if_pos hc2594] at h
    refine mg_Ev.go 2 (pc' := 43) (loc' := [some (.ref 38), some (.int a0)]) (st' := [.int (u 37 2)]) (w' := (hp u fL fD, c, z)) rfl ?_
    cases h
    exact mg_Ev.fin rfl rfl rfl
  · rw [if_neg hc2594] at h
    refine mg_Ev.go 5 (pc' := 16) (loc' := [some (.ref 38), some (.int a0)]) (st' := [.int 60, .int (u 37 2)]) (w' := (hp u fL fD, c, z)) rfl ?_
    refine mg_Ev.br (P := 60 ≤ (u 37 2)) (t := 39) (nx := 19) (st' := []) rfl rfl rfl rfl (fun hc2595 => ?_) (fun hc2595 => ?_)
    · rw [if_pos hc2595] at h
      refine mg_Ev.go 2 (pc' := 43) (loc' := [some (.ref 38), some (.int a0)]) (st' := [.int (u 37 2)]) (w' := (hp u fL fD, c, z)) rfl ?_
      cases h
      exact mg_Ev.fin rfl rfl rfl
    · rw [if_neg hc2595] at h
      refine mg_Ev.go 5 (pc' := 28) (loc' := [some (.ref 38), some (.int a0)]) (st' := [.int a0, .int (u 37 2), .ref 39]) (w' := (hp u fL fD, c, z)) rfl ?_
      by_cases hb2596 : (u 37 2) < 0 ∨ 60 ≤ (u 37 2).toNatClampNeg
      · rw [if_pos hb2596] at h
        cases h
      · rw [if_neg hb2596] at h
        refine mg_Ev.cast (a := 38) (n := 60) rfl (hpg_38 _ _ _) rfl hb2596 (hpa_38 _ _ _ _ _ _ _) ?_
        refine mg_Ev.go 5 (pc' := 36) (loc' := [some (.ref 38), some (.int a0)]) (st' := [.int (((mg_up u 38 ((u 37 2).toNatClampNeg) (vp_nar .char a0)) 37 2) + 1), .ref 38]) (w' := (hp (mg_up u 38 ((u 37 2).toNatClampNeg) (vp_nar .char a0)) fL fD, c, z)) rfl ?_
        refine mg_Ev.put rfl (hpg_37 _ _ _) (Nat.le_of_ble_eq_true rfl) rfl (hpf_37_2 _ _ _ _ _ _) ?_
        refine mg_Ev.go 2 (pc' := 43) (loc' := [some (.ref 38), some (.int a0)]) (st' := [.int ((mg_up (mg_up u 38 ((u 37 2).toNatClampNeg) (vp_nar .char a0)) 37 2 (((mg_up u 38 ((u 37 2).toNatClampNeg) (vp_nar .char a0)) 37 2) + 1)) 37 2)]) (w' := (hp (mg_up (mg_up u 38 ((u 37 2).toNatClampNeg) (vp_nar .char a0)) 37 2 (((mg_up u 38 ((u 37 2).toNatClampNeg) (vp_nar .char a0)) 37 2) + 1)) fL fD, c, z)) rfl ?_
        cases h
        exact mg_Ev.fin rfl rfl rfl

def C_append (a0 : Int32) (u : mg_Rg) : Option ((Int32 ⊕ Nat) × mg_Rg) :=
  (C_isWithin a0 33 126 u).bind fun v581 =>
  if v581 = 0 then
  some (.inr 1, u)
  else
  if (u 37 2) < 60 then
    (X_addCharacter a0 u).bind fun p584 => match p584 with
      | (v582, u583) =>
        some (.inl v582, u583)
    else
    some (.inr 2, u)

set_option maxRecDepth 10000 in
set_option maxHeartbeats 4000000 in
theorem ev_C_append {sc : mg_Sc} {c z : Nat} {fL : Nat → Int64} {fD : Nat → UInt64} {a0 : Int32} {u : mg_Rg} {p : (Int32 ⊕ Nat) × mg_Rg} (h : C_append a0 u = some p) : mg_Ev sc 1 31 0 (mg_entry 31 [.ref 1, .int a0]) [] (hp u fL fD, c, z) (xri p.1, xw p.1 (hp p.2 fL fD) c z) := by
  unfold C_append at h
  show mg_Ev _ _ _ 0 [some (.ref 1), some (.int a0)] [] _ _
  refine mg_Ev.go 3 (pc' := 5) (loc' := [some (.ref 1), some (.int a0)]) (st' := [.int 126, .int 33, .int a0]) (w' := (hp u fL fD, c, z)) rfl ?_
  obtain ⟨v581, hf2597, h⟩ := Option.bind_eq_some_iff.mp h
  refine mg_Ev.call (y := 54) (as := [.int a0, .int 33, .int 126]) (rest := []) (v := some (.int v581)) (w1 := (hp u fL fD, c, z)) rfl rfl (Nat.le_of_ble_eq_true rfl) ((ev_C_isWithin hf2597).deep (by decide)) ?_
  refine mg_Ev.br (P := v581 = 0) (t := 11) (nx := 22) (st' := []) rfl rfl rfl rfl (fun hc2598 => ?_) (fun hc2598 => ?_)
  · rw [if_pos hc2598] at h
    cases h
    exact mg_Ev.fin rfl rfl rfl
  · rw [if_neg hc2598] at h
    refine mg_Ev.go 4 (pc' := 31) (loc' := [some (.ref 1), some (.int a0)]) (st' := [.int 60, .int (u 37 2)]) (w' := (hp u fL fD, c, z)) rfl ?_
    refine mg_Ev.br (P := (u 37 2) < 60) (t := 45) (nx := 34) (st' := []) rfl rfl rfl rfl (fun hc2599 => ?_) (fun hc2599 => ?_)
    · rw [if_pos hc2599] at h
      refine mg_Ev.go 3 (pc' := 50) (loc' := [some (.ref 1), some (.int a0)]) (st' := [.int a0, .ref 38]) (w' := (hp u fL fD, c, z)) rfl ?_
      obtain ⟨⟨v582, u583⟩, hf2600, h⟩ := Option.bind_eq_some_iff.mp h
      try dsimp only at h
      refine mg_Ev.call (y := 212) (as := [.ref 38, .int a0]) (rest := []) (v := some (.int v582)) (w1 := (hp u583 fL fD, c, z)) rfl rfl (Nat.le_of_ble_eq_true rfl) ((ev_X_addCharacter hf2600).deep (by decide)) ?_
      cases h
      exact mg_Ev.fin rfl rfl rfl
    · rw [if_neg hc2599] at h
      cases h
      exact mg_Ev.fin rfl rfl rfl

def T_setCount_39 (a0 : Int32) (u : mg_Rg) : Option (mg_Rg) :=
  some (mg_up u 40 0 a0)

set_option maxRecDepth 10000 in
set_option maxHeartbeats 4000000 in
theorem ev_T_setCount_39 {sc : mg_Sc} {c z : Nat} {fL : Nat → Int64} {fD : Nat → UInt64} {a0 : Int32} {u : mg_Rg} {v : mg_Rg} (h : T_setCount_39 a0 u = some v) : mg_Ev sc 0 193 0 (mg_entry 193 [.ref 40, .int a0]) [] (hp u fL fD, c, z) (.inl none, (hp v fL fD, c, z)) := by
  unfold T_setCount_39 at h
  show mg_Ev _ _ _ 0 [some (.ref 40), some (.int a0)] [] _ _
  refine mg_Ev.go 3 (pc' := 5) (loc' := [some (.ref 40), some (.int a0)]) (st' := [.int 105]) (w' := (hp u fL fD, c, z)) rfl ?_
  refine mg_Ev.br (P := (105 : Int32) ≤ 0) (t := 15) (nx := 8) (st' := []) rfl rfl rfl rfl (fun q => absurd q (by decide)) (fun _ => ?_)
  refine mg_Ev.go 4 (pc' := 14) (loc' := [some (.ref 40), some (.int a0)]) (st' := [.int a0, .int 0, .ref 41]) (w' := (hp u fL fD, c, z)) rfl ?_
  refine mg_Ev.iast (a := 40) (n := 105) (j := 0) rfl (hpg_40 _ _ _) (by decide) (by decide) (hpa_40 _ _ _ _ _ _ _) ?_
  cases h
  exact mg_Ev.fin rfl rfl rfl

def T_clear_39 (u : mg_Rg) : Option (mg_Rg) :=
  (T_setCount_39 0 u).bind fun u585 =>
  some u585

set_option maxRecDepth 10000 in
set_option maxHeartbeats 4000000 in
theorem ev_T_clear_39 {sc : mg_Sc} {c z : Nat} {fL : Nat → Int64} {fD : Nat → UInt64} {u : mg_Rg} {v : mg_Rg} (h : T_clear_39 u = some v) : mg_Ev sc 1 189 0 (mg_entry 189 [.ref 40]) [] (hp u fL fD, c, z) (.inl none, (hp v fL fD, c, z)) := by
  unfold T_clear_39 at h
  show mg_Ev _ _ _ 0 [some (.ref 40)] [] _ _
  refine mg_Ev.go 2 (pc' := 2) (loc' := [some (.ref 40)]) (st' := [.int 0, .ref 40]) (w' := (hp u fL fD, c, z)) rfl ?_
  obtain ⟨u585, hf2602, h⟩ := Option.bind_eq_some_iff.mp h
  refine mg_Ev.call (y := 193) (as := [.ref 40, .int 0]) (rest := []) (v := none) (w1 := (hp u585 fL fD, c, z)) rfl rfl (Nat.le_of_ble_eq_true rfl) ((ev_T_setCount_39 hf2602).deep (by decide)) ?_
  cases h
  exact mg_Ev.fin rfl rfl rfl

def T_count_39 (u : mg_Rg) : Option (Int32) :=
  some (u 40 0)

set_option maxRecDepth 10000 in
set_option maxHeartbeats 4000000 in
theorem ev_T_count_39 {sc : mg_Sc} {c z : Nat} {fL : Nat → Int64} {fD : Nat → UInt64} {u : mg_Rg} {v : Int32} (h : T_count_39 u = some v) : mg_Ev sc 0 181 0 (mg_entry 181 [.ref 40]) [] (hp u fL fD, c, z) (.inl (some (.int v)), (hp u fL fD, c, z)) := by
  unfold T_count_39 at h
  show mg_Ev _ _ _ 0 [some (.ref 40)] [] _ _
  refine mg_Ev.go 3 (pc' := 5) (loc' := [some (.ref 40)]) (st' := [.int 105]) (w' := (hp u fL fD, c, z)) rfl ?_
  refine mg_Ev.br (P := (105 : Int32) ≤ 0) (t := 17) (nx := 8) (st' := []) rfl rfl rfl rfl (fun q => absurd q (by decide)) (fun _ => ?_)
  refine mg_Ev.go 3 (pc' := 13) (loc' := [some (.ref 40)]) (st' := [.int 0, .ref 41]) (w' := (hp u fL fD, c, z)) rfl ?_
  refine mg_Ev.iald (a := 40) (n := 105) (f := u 40) (j := 0) rfl (hpg_40 _ _ _) (by decide) (by decide) ?_
  refine mg_Ev.go 1 (pc' := 18) (loc' := [some (.ref 40)]) (st' := [.int (u 40 0)]) (w' := (hp u fL fD, c, z)) rfl ?_
  cases h
  exact mg_Ev.fin rfl rfl rfl

def T_put_39 (a0 : Int32) (a1 : Int32) (a2 : Int32) (u : mg_Rg) : Option (mg_Rg) :=
  if a0 < 0 then
  some u
  else
  if 8 ≤ a0 then
    some u
    else
    if a1 < 0 then
      some u
      else
      if a1 < 13 then
        if ((1 + (a0 * 13)) + a1) < 0 then
          some u
          else
          if 105 ≤ ((1 + (a0 * 13)) + a1) then
            some u
            else
            if ((1 + (a0 * 13)) + a1) < 0 ∨ 105 ≤ ((1 + (a0 * 13)) + a1).toNatClampNeg then none else
              some (mg_up u 40 (((1 + (a0 * 13)) + a1).toNatClampNeg) a2)
        else
        some u

set_option maxRecDepth 10000 in
set_option maxHeartbeats 4000000 in
theorem ev_T_put_39 {sc : mg_Sc} {c z : Nat} {fL : Nat → Int64} {fD : Nat → UInt64} {a0 : Int32} {a1 : Int32} {a2 : Int32} {u : mg_Rg} {v : mg_Rg} (h : T_put_39 a0 a1 a2 u = some v) : mg_Ev sc 0 185 0 (mg_entry 185 [.ref 40, .int a0, .int a1, .int a2]) [] (hp u fL fD, c, z) (.inl none, (hp v fL fD, c, z)) := by
  unfold T_put_39 at h
  show mg_Ev _ _ _ 0 [some (.ref 40), some (.int a0), some (.int a1), some (.int a2), none] [] _ _
  refine mg_Ev.go 1 (pc' := 1) (loc' := [some (.ref 40), some (.int a0), some (.int a1), some (.int a2), none]) (st' := [.int a0]) (w' := (hp u fL fD, c, z)) rfl ?_
  refine mg_Ev.br (P := a0 < 0) (t := 24) (nx := 4) (st' := []) rfl rfl rfl rfl (fun hc2604 => ?_) (fun hc2604 => ?_)
  · rw [if_pos hc2604] at h
    cases h
    exact mg_Ev.fin rfl rfl rfl
  · rw [if_neg hc2604] at h
    refine mg_Ev.go 3 (pc' := 9) (loc' := [some (.ref 40), some (.int a0), some (.int a1), some (.int a2), none]) (st' := [.int 8, .int a0]) (w' := (hp u fL fD, c, z)) rfl ?_
    refine mg_Ev.br (P := 8 ≤ a0) (t := 24) (nx := 12) (st' := []) rfl rfl rfl rfl (fun hc2605 => ?_) (fun hc2605 => ?_)
    · rw [if_pos hc2605] at h
      cases h
      exact mg_Ev.fin rfl rfl rfl
    · rw [if_neg hc2605] at h
      refine mg_Ev.go 1 (pc' := 13) (loc' := [some (.ref 40), some (.int a0), some (.int a1), some (.int a2), none]) (st' := [.int a1]) (w' := (hp u fL fD, c, z)) rfl ?_
      refine mg_Ev.br (P := a1 < 0) (t := 24) (nx := 16) (st' := []) rfl rfl rfl rfl (fun hc2606 => ?_) (fun hc2606 => ?_)
      · rw [if_pos hc2606] at h
        cases h
        exact mg_Ev.fin rfl rfl rfl
      · rw [if_neg hc2606] at h
        refine mg_Ev.go 3 (pc' := 21) (loc' := [some (.ref 40), some (.int a0), some (.int a1), some (.int a2), none]) (st' := [.int 13, .int a1]) (w' := (hp u fL fD, c, z)) rfl ?_
        refine mg_Ev.br (P := a1 < 13) (t := 25) (nx := 24) (st' := []) rfl rfl rfl rfl (fun hc2607 => ?_) (fun hc2607 => ?_)
        · rw [if_pos hc2607] at h
          refine mg_Ev.go 10 (pc' := 39) (loc' := [some (.ref 40), some (.int a0), some (.int a1), some (.int a2), some (.int ((1 + (a0 * 13)) + a1))]) (st' := [.int ((1 + (a0 * 13)) + a1)]) (w' := (hp u fL fD, c, z)) rfl ?_
          refine mg_Ev.br (P := ((1 + (a0 * 13)) + a1) < 0) (t := 60) (nx := 42) (st' := []) rfl rfl rfl rfl (fun hc2608 => ?_) (fun hc2608 => ?_)
          · rw [if_pos hc2608] at h
            cases h
            exact mg_Ev.fin rfl rfl rfl
          · rw [if_neg hc2608] at h
            refine mg_Ev.go 4 (pc' := 49) (loc' := [some (.ref 40), some (.int a0), some (.int a1), some (.int a2), some (.int ((1 + (a0 * 13)) + a1))]) (st' := [.int 105, .int ((1 + (a0 * 13)) + a1)]) (w' := (hp u fL fD, c, z)) rfl ?_
            refine mg_Ev.br (P := 105 ≤ ((1 + (a0 * 13)) + a1)) (t := 60) (nx := 52) (st' := []) rfl rfl rfl rfl (fun hc2609 => ?_) (fun hc2609 => ?_)
            · rw [if_pos hc2609] at h
              cases h
              exact mg_Ev.fin rfl rfl rfl
            · rw [if_neg hc2609] at h
              refine mg_Ev.go 4 (pc' := 59) (loc' := [some (.ref 40), some (.int a0), some (.int a1), some (.int a2), some (.int ((1 + (a0 * 13)) + a1))]) (st' := [.int a2, .int ((1 + (a0 * 13)) + a1), .ref 41]) (w' := (hp u fL fD, c, z)) rfl ?_
              by_cases hb2610 : ((1 + (a0 * 13)) + a1) < 0 ∨ 105 ≤ ((1 + (a0 * 13)) + a1).toNatClampNeg
              · rw [if_pos hb2610] at h
                cases h
              · rw [if_neg hb2610] at h
                refine mg_Ev.iast (a := 40) (n := 105) rfl (hpg_40 _ _ _) rfl hb2610 (hpa_40 _ _ _ _ _ _ _) ?_
                cases h
                exact mg_Ev.fin rfl rfl rfl
        · rw [if_neg hc2607] at h
          cases h
          exact mg_Ev.fin rfl rfl rfl

def T_add_39_L17 : Nat → Int32 → Int32 → mg_Rg → Option (mg_Rg)
  | 0, _, _, _ => none
  | n + 1, x1, x2, u =>
    if 13 ≤ x2 then
    some (u)
    else
    (T_put_39 x1 x2 0 u).bind fun u588 =>
      T_add_39_L17 n x1 (x2 + 1) u588
set_option maxRecDepth 10000 in
set_option maxHeartbeats 4000000 in
theorem ev_T_add_39_L17 {sc : mg_Sc} {c z : Nat} {fL : Nat → Int64} {fD : Nat → UInt64} : ∀ (n : Nat) (x1 : Int32) (x2 : Int32) (u : mg_Rg) (res : mg_Rg), T_add_39_L17 n x1 x2 u = some res → ∀ r, (match res with | yu => mg_Ev sc 1 187 38 [some (.ref 40), some (.int x1), none] [] (hp yu fL fD, c, z) r) → mg_Ev sc 1 187 17 [some (.ref 40), some (.int x1), some (.int x2)] [] (hp u fL fD, c, z) r := by
  intro n
  induction n with
  | zero => intro x1 x2 u res h; cases h
  | succ n ih =>
    intro x1 x2 u res h r K
    unfold T_add_39_L17 at h
    refine mg_Ev.go 3 (pc' := 22) (loc' := [some (.ref 40), some (.int x1), some (.int x2)]) (st' := [.int 13, .int x2]) (w' := (hp u fL fD, c, z)) rfl ?_
    refine mg_Ev.br (P := 13 ≤ x2) (t := 38) (nx := 25) (st' := []) rfl rfl rfl rfl (fun hc2611 => ?_) (fun hc2611 => ?_)
    · rw [if_pos hc2611] at h
      cases h
      exact mg_Ev.more (loc := [some (.ref 40), some (.int x1), none]) K ⟨rfl, ⟨rfl, trivial⟩⟩
    · rw [if_neg hc2611] at h
      refine mg_Ev.go 4 (pc' := 29) (loc' := [some (.ref 40), some (.int x1), some (.int x2)]) (st' := [.int 0, .int x2, .int x1, .ref 40]) (w' := (hp u fL fD, c, z)) rfl ?_
      obtain ⟨u588, hf2612, h⟩ := Option.bind_eq_some_iff.mp h
      refine mg_Ev.call (y := 185) (as := [.ref 40, .int x1, .int x2, .int 0]) (rest := []) (v := none) (w1 := (hp u588 fL fD, c, z)) rfl rfl (Nat.le_of_ble_eq_true rfl) ((ev_T_put_39 hf2612).deep (by decide)) ?_
      refine mg_Ev.go 2 (pc' := 17) (loc' := [some (.ref 40), some (.int x1), some (.int (x2 + 1))]) (st' := []) (w' := (hp u588 fL fD, c, z)) rfl ?_
      exact mg_Ev.more (loc := [some (.ref 40), some (.int x1), some (.int (x2 + 1))]) (ih _ _ _ _ h _ K) ⟨rfl, ⟨rfl, ⟨rfl, trivial⟩⟩⟩

def T_add_39 (u : mg_Rg) : Option (Int32 × mg_Rg) :=
  (T_count_39 u).bind fun v587 =>
  if v587 < 8 then
  (T_add_39_L17 mg_F v587 0 u).bind fun q2613 => match q2613 with
    | u589 =>
      (T_setCount_39 (v587 + 1) u589).bind fun u590 =>
      some (v587, u590)
  else
  some ((-1), u)

set_option maxRecDepth 10000 in
set_option maxHeartbeats 4000000 in
theorem ev_T_add_39 {sc : mg_Sc} {c z : Nat} {fL : Nat → Int64} {fD : Nat → UInt64} {u : mg_Rg} {p : Int32 × mg_Rg} (h : T_add_39 u = some p) : mg_Ev sc 1 187 0 (mg_entry 187 [.ref 40]) [] (hp u fL fD, c, z) (.inl (some (.int p.1)), (hp p.2 fL fD, c, z)) := by
  unfold T_add_39 at h
  show mg_Ev _ _ _ 0 [some (.ref 40), none, none] [] _ _
  refine mg_Ev.go 1 (pc' := 1) (loc' := [some (.ref 40), none, none]) (st' := [.ref 40]) (w' := (hp u fL fD, c, z)) rfl ?_
  obtain ⟨v587, hf2614, h⟩ := Option.bind_eq_some_iff.mp h
  refine mg_Ev.call (y := 181) (as := [.ref 40]) (rest := []) (v := some (.int v587)) (w1 := (hp u fL fD, c, z)) rfl rfl (Nat.le_of_ble_eq_true rfl) ((ev_T_count_39 hf2614).deep (by decide)) ?_
  refine mg_Ev.go 4 (pc' := 10) (loc' := [some (.ref 40), some (.int v587), none]) (st' := [.int 8, .int v587]) (w' := (hp u fL fD, c, z)) rfl ?_
  refine mg_Ev.br (P := v587 < 8) (t := 15) (nx := 13) (st' := []) rfl rfl rfl rfl (fun hc2615 => ?_) (fun hc2615 => ?_)
  · rw [if_pos hc2615] at h
    refine mg_Ev.go 2 (pc' := 17) (loc' := [some (.ref 40), some (.int v587), some (.int 0)]) (st' := []) (w' := (hp u fL fD, c, z)) rfl ?_
    obtain ⟨u589, hl2616, h⟩ := Option.bind_eq_some_iff.mp h
    try dsimp only at h
    refine mg_Ev.more (loc := [some (.ref 40), some (.int v587), some (.int 0)]) (ev_T_add_39_L17 _ _ _ _ _ hl2616 _ ?_) ⟨rfl, ⟨rfl, ⟨rfl, trivial⟩⟩⟩
    show mg_Ev _ _ _ 38 [some (.ref 40), some (.int v587), none] [] (hp u589 fL fD, c, z) _
    refine mg_Ev.go 4 (pc' := 42) (loc' := [some (.ref 40), some (.int v587), none]) (st' := [.int (v587 + 1), .ref 40]) (w' := (hp u589 fL fD, c, z)) rfl ?_
    obtain ⟨u590, hf2617, h⟩ := Option.bind_eq_some_iff.mp h
    refine mg_Ev.call (y := 193) (as := [.ref 40, .int (v587 + 1)]) (rest := []) (v := none) (w1 := (hp u590 fL fD, c, z)) rfl rfl (Nat.le_of_ble_eq_true rfl) ((ev_T_setCount_39 hf2617).deep (by decide)) ?_
    refine mg_Ev.go 1 (pc' := 46) (loc' := [some (.ref 40), some (.int v587), none]) (st' := [.int v587]) (w' := (hp u590 fL fD, c, z)) rfl ?_
    cases h
    exact mg_Ev.fin rfl rfl rfl
  · rw [if_neg hc2615] at h
    refine mg_Ev.go 1 (pc' := 14) (loc' := [some (.ref 40), some (.int v587), none]) (st' := [.int (-1)]) (w' := (hp u fL fD, c, z)) rfl ?_
    cases h
    exact mg_Ev.fin rfl rfl rfl

def X_isInText (u : mg_Rg) : Option (Int32) :=
  if (u 37 3) < 0 then
  some 0
  else
  if (u 37 2) ≤ (u 37 3) then
    some 0
    else
    if 60 ≤ (u 37 3) then
      some 0
      else
      some 1

set_option maxRecDepth 10000 in
set_option maxHeartbeats 4000000 in
theorem ev_X_isInText {sc : mg_Sc} {c z : Nat} {fL : Nat → Int64} {fD : Nat → UInt64} {u : mg_Rg} {v : Int32} (h : X_isInText u = some v) : mg_Ev sc 0 222 0 (mg_entry 222 [.ref 38]) [] (hp u fL fD, c, z) (.inl (some (.int v)), (hp u fL fD, c, z)) := by
  unfold X_isInText at h
  show mg_Ev _ _ _ 0 [some (.ref 38)] [] _ _
  refine mg_Ev.go 2 (pc' := 4) (loc' := [some (.ref 38)]) (st' := [.int (u 37 3)]) (w' := (hp u fL fD, c, z)) rfl ?_
  refine mg_Ev.br (P := (u 37 3) < 0) (t := 34) (nx := 7) (st' := []) rfl rfl rfl rfl (fun hc2618 => ?_) (fun hc2618 => ?_)
  · rw [if_pos hc2618] at h
    refine mg_Ev.go 1 (pc' := 35) (loc' := [some (.ref 38)]) (st' := [.int 0]) (w' := (hp u fL fD, c, z)) rfl ?_
    cases h
    exact mg_Ev.fin rfl rfl rfl
  · rw [if_neg hc2618] at h
    refine mg_Ev.go 4 (pc' := 15) (loc' := [some (.ref 38)]) (st' := [.int (u 37 2), .int (u 37 3)]) (w' := (hp u fL fD, c, z)) rfl ?_
    refine mg_Ev.br (P := (u 37 2) ≤ (u 37 3)) (t := 34) (nx := 18) (st' := []) rfl rfl rfl rfl (fun hc2619 => ?_) (fun hc2619 => ?_)
    · rw [if_pos hc2619] at h
      refine mg_Ev.go 1 (pc' := 35) (loc' := [some (.ref 38)]) (st' := [.int 0]) (w' := (hp u fL fD, c, z)) rfl ?_
      cases h
      exact mg_Ev.fin rfl rfl rfl
    · rw [if_neg hc2619] at h
      refine mg_Ev.go 5 (pc' := 27) (loc' := [some (.ref 38)]) (st' := [.int 60, .int (u 37 3)]) (w' := (hp u fL fD, c, z)) rfl ?_
      refine mg_Ev.br (P := 60 ≤ (u 37 3)) (t := 34) (nx := 30) (st' := []) rfl rfl rfl rfl (fun hc2620 => ?_) (fun hc2620 => ?_)
      · rw [if_pos hc2620] at h
        refine mg_Ev.go 1 (pc' := 35) (loc' := [some (.ref 38)]) (st' := [.int 0]) (w' := (hp u fL fD, c, z)) rfl ?_
        cases h
        exact mg_Ev.fin rfl rfl rfl
      · rw [if_neg hc2620] at h
        refine mg_Ev.go 2 (pc' := 35) (loc' := [some (.ref 38)]) (st' := [.int 1]) (w' := (hp u fL fD, c, z)) rfl ?_
        cases h
        exact mg_Ev.fin rfl rfl rfl

def X_digitHere (u : mg_Rg) : Option (Int32) :=
  (X_isInText u).bind fun v595 =>
  if v595 = 0 then
  some (-1)
  else
  if (u 37 3) < 0 ∨ 60 ≤ (u 37 3).toNatClampNeg then none else
    if (u 38 ((u 37 3).toNatClampNeg)) < 48 then
    some (-1)
    else
    if (u 37 3) < 0 ∨ 60 ≤ (u 37 3).toNatClampNeg then none else
      if (u 38 ((u 37 3).toNatClampNeg)) ≤ 57 then
      if (u 37 3) < 0 ∨ 60 ≤ (u 37 3).toNatClampNeg then none else
        some ((u 38 ((u 37 3).toNatClampNeg)) - 48)
      else
      some (-1)

set_option maxRecDepth 10000 in
set_option maxHeartbeats 4000000 in
theorem ev_X_digitHere {sc : mg_Sc} {c z : Nat} {fL : Nat → Int64} {fD : Nat → UInt64} {u : mg_Rg} {v : Int32} (h : X_digitHere u = some v) : mg_Ev sc 1 221 0 (mg_entry 221 [.ref 38]) [] (hp u fL fD, c, z) (.inl (some (.int v)), (hp u fL fD, c, z)) := by
  unfold X_digitHere at h
  show mg_Ev _ _ _ 0 [some (.ref 38)] [] _ _
  refine mg_Ev.go 1 (pc' := 1) (loc' := [some (.ref 38)]) (st' := [.ref 38]) (w' := (hp u fL fD, c, z)) rfl ?_
  obtain ⟨v595, hf2621, h⟩ := Option.bind_eq_some_iff.mp h
  refine mg_Ev.call (y := 222) (as := [.ref 38]) (rest := []) (v := some (.int v595)) (w1 := (hp u fL fD, c, z)) rfl rfl (Nat.le_of_ble_eq_true rfl) ((ev_X_isInText hf2621).deep (by decide)) ?_
  refine mg_Ev.br (P := v595 = 0) (t := 35) (nx := 7) (st' := []) rfl rfl rfl rfl (fun hc2622 => ?_) (fun hc2622 => ?_)
  · rw [if_pos hc2622] at h
    refine mg_Ev.go 1 (pc' := 36) (loc' := [some (.ref 38)]) (st' := [.int (-1)]) (w' := (hp u fL fD, c, z)) rfl ?_
    cases h
    exact mg_Ev.fin rfl rfl rfl
  · rw [if_neg hc2622] at h
    refine mg_Ev.go 4 (pc' := 15) (loc' := [some (.ref 38)]) (st' := [.int (u 37 3), .ref 39]) (w' := (hp u fL fD, c, z)) rfl ?_
    by_cases hb2623 : (u 37 3) < 0 ∨ 60 ≤ (u 37 3).toNatClampNeg
    · rw [if_pos hb2623] at h
      cases h
    · rw [if_neg hb2623] at h
      refine mg_Ev.cald (a := 38) (n := 60) (f := u 38) rfl (hpg_38 _ _ _) rfl hb2623 ?_
      refine mg_Ev.go 1 (pc' := 18) (loc' := [some (.ref 38)]) (st' := [.int 48, .int (u 38 ((u 37 3).toNatClampNeg))]) (w' := (hp u fL fD, c, z)) rfl ?_
      refine mg_Ev.br (P := (u 38 ((u 37 3).toNatClampNeg)) < 48) (t := 35) (nx := 21) (st' := []) rfl rfl rfl rfl (fun hc2624 => ?_) (fun hc2624 => ?_)
      · rw [if_pos hc2624] at h
        refine mg_Ev.go 1 (pc' := 36) (loc' := [some (.ref 38)]) (st' := [.int (-1)]) (w' := (hp u fL fD, c, z)) rfl ?_
        cases h
        exact mg_Ev.fin rfl rfl rfl
      · rw [if_neg hc2624] at h
        refine mg_Ev.go 4 (pc' := 29) (loc' := [some (.ref 38)]) (st' := [.int (u 37 3), .ref 39]) (w' := (hp u fL fD, c, z)) rfl ?_
        by_cases hb2625 : (u 37 3) < 0 ∨ 60 ≤ (u 37 3).toNatClampNeg
        · rw [if_pos hb2625] at h
          cases h
        · rw [if_neg hb2625] at h
          refine mg_Ev.cald (a := 38) (n := 60) (f := u 38) rfl (hpg_38 _ _ _) rfl hb2625 ?_
          refine mg_Ev.go 1 (pc' := 32) (loc' := [some (.ref 38)]) (st' := [.int 57, .int (u 38 ((u 37 3).toNatClampNeg))]) (w' := (hp u fL fD, c, z)) rfl ?_
          refine mg_Ev.br (P := (u 38 ((u 37 3).toNatClampNeg)) ≤ 57) (t := 37) (nx := 35) (st' := []) rfl rfl rfl rfl (fun hc2626 => ?_) (fun hc2626 => ?_)
          · rw [if_pos hc2626] at h
            refine mg_Ev.go 4 (pc' := 45) (loc' := [some (.ref 38)]) (st' := [.int (u 37 3), .ref 39]) (w' := (hp u fL fD, c, z)) rfl ?_
            by_cases hb2627 : (u 37 3) < 0 ∨ 60 ≤ (u 37 3).toNatClampNeg
            · rw [if_pos hb2627] at h
              cases h
            · rw [if_neg hb2627] at h
              refine mg_Ev.cald (a := 38) (n := 60) (f := u 38) rfl (hpg_38 _ _ _) rfl hb2627 ?_
              refine mg_Ev.go 2 (pc' := 49) (loc' := [some (.ref 38)]) (st' := [.int ((u 38 ((u 37 3).toNatClampNeg)) - 48)]) (w' := (hp u fL fD, c, z)) rfl ?_
              cases h
              exact mg_Ev.fin rfl rfl rfl
          · rw [if_neg hc2626] at h
            refine mg_Ev.go 1 (pc' := 36) (loc' := [some (.ref 38)]) (st' := [.int (-1)]) (w' := (hp u fL fD, c, z)) rfl ?_
            cases h
            exact mg_Ev.fin rfl rfl rfl

def X_readNumber_L6 : Nat → Int32 → Int32 → Int32 → Int32 → Int32 → Int32 → mg_Rg → Option (Int32 × mg_Rg)
  | 0, _, _, _, _, _, _, _ => none
  | n + 1, x1, x2, x3, x4, x5, x6, u =>
    if x3 ≤ x6 then
    some ((x5, u))
    else
    (X_digitHere u).bind fun v596 =>
      if x6 = 0 then
      if 1 ≤ v596 then
        X_readNumber_L6 n x1 x2 x3 x4 ((x5 * 10) + v596) (x6 + 1) (mg_up u 37 3 ((u 37 3) + 1))
        else
        some ((x5, u))
      else
      if x4 ≤ v596 then
        X_readNumber_L6 n x1 x2 x3 x4 ((x5 * 10) + v596) (x6 + 1) (mg_up u 37 3 ((u 37 3) + 1))
        else
        some ((x5, u))
set_option maxRecDepth 10000 in
set_option maxHeartbeats 4000000 in
theorem ev_X_readNumber_L6 {sc : mg_Sc} {c z : Nat} {fL : Nat → Int64} {fD : Nat → UInt64} : ∀ (n : Nat) (x1 : Int32) (x2 : Int32) (x3 : Int32) (x4 : Int32) (x5 : Int32) (x6 : Int32) (u : mg_Rg) (res : Int32 × mg_Rg), X_readNumber_L6 n x1 x2 x3 x4 x5 x6 u = some res → ∀ r, (match res with | (y5, yu) => mg_Ev sc 2 218 63 [some (.ref 38), some (.int x1), some (.int x2), none, none, some (.int y5), none, none] [] (hp yu fL fD, c, z) r) → mg_Ev sc 2 218 6 [some (.ref 38), some (.int x1), some (.int x2), some (.int x3), some (.int x4), some (.int x5), some (.int x6), none] [] (hp u fL fD, c, z) r := by
  intro n
  induction n with
  | zero => intro x1 x2 x3 x4 x5 x6 u res h; cases h
  | succ n ih =>
    intro x1 x2 x3 x4 x5 x6 u res h r K
    unfold X_readNumber_L6 at h
    refine mg_Ev.go 2 (pc' := 9) (loc' := [some (.ref 38), some (.int x1), some (.int x2), some (.int x3), some (.int x4), some (.int x5), some (.int x6), none]) (st' := [.int x3, .int x6]) (w' := (hp u fL fD, c, z)) rfl ?_
    refine mg_Ev.br (P := x3 ≤ x6) (t := 63) (nx := 12) (st' := []) rfl rfl rfl rfl (fun hc2628 => ?_) (fun hc2628 => ?_)
    · rw [if_pos hc2628] at h
      cases h
      exact mg_Ev.more (loc := [some (.ref 38), some (.int x1), some (.int x2), none, none, some (.int x5), none, none]) K ⟨rfl, ⟨rfl, ⟨rfl, ⟨rfl, trivial⟩⟩⟩⟩
    · rw [if_neg hc2628] at h
      refine mg_Ev.go 1 (pc' := 13) (loc' := [some (.ref 38), some (.int x1), some (.int x2), some (.int x3), some (.int x4), some (.int x5), some (.int x6), none]) (st' := [.ref 38]) (w' := (hp u fL fD, c, z)) rfl ?_
      obtain ⟨v596, hf2629, h⟩ := Option.bind_eq_some_iff.mp h
      refine mg_Ev.call (y := 221) (as := [.ref 38]) (rest := []) (v := some (.int v596)) (w1 := (hp u fL fD, c, z)) rfl rfl (Nat.le_of_ble_eq_true rfl) ((ev_X_digitHere hf2629).deep (by decide)) ?_
      refine mg_Ev.go 3 (pc' := 22) (loc' := [some (.ref 38), some (.int x1), some (.int x2), some (.int x3), some (.int x4), some (.int x5), some (.int x6), some (.int v596)]) (st' := [.int x6, .int v596]) (w' := (hp u fL fD, c, z)) rfl ?_
      refine mg_Ev.br (P := x6 = 0) (t := 25) (nx := 29) (st' := [.int v596]) rfl rfl rfl rfl (fun hc2630 => ?_) (fun hc2630 => ?_)
      · rw [if_pos hc2630] at h
        refine mg_Ev.go 2 (pc' := 31) (loc' := [some (.ref 38), some (.int x1), some (.int x2), some (.int x3), some (.int x4), some (.int x5), some (.int x6), some (.int v596)]) (st' := [.int 1, .int v596]) (w' := (hp u fL fD, c, z)) rfl ?_
        refine mg_Ev.br (P := 1 ≤ v596) (t := 37) (nx := 34) (st' := []) rfl rfl rfl rfl (fun hc2631 => ?_) (fun hc2631 => ?_)
        · rw [if_pos hc2631] at h
          refine mg_Ev.go 10 (pc' := 53) (loc' := [some (.ref 38), some (.int x1), some (.int x2), some (.int x3), some (.int x4), some (.int ((x5 * 10) + v596)), some (.int x6), some (.int v596)]) (st' := [.int 1, .int (u 37 3), .ref 38]) (w' := (hp u fL fD, c, z)) rfl ?_
          refine mg_Ev.go 1 (pc' := 54) (loc' := [some (.ref 38), some (.int x1), some (.int x2), some (.int x3), some (.int x4), some (.int ((x5 * 10) + v596)), some (.int x6), some (.int v596)]) (st' := [.int ((u 37 3) + 1), .ref 38]) (w' := (hp u fL fD, c, z)) rfl ?_
          refine mg_Ev.put rfl (hpg_37 _ _ _) (Nat.le_of_ble_eq_true rfl) rfl (hpf_37_3 _ _ _ _ _ _) ?_
          refine mg_Ev.go 2 (pc' := 6) (loc' := [some (.ref 38), some (.int x1), some (.int x2), some (.int x3), some (.int x4), some (.int ((x5 * 10) + v596)), some (.int (x6 + 1)), some (.int v596)]) (st' := []) (w' := (hp (mg_up u 37 3 ((u 37 3) + 1)) fL fD, c, z)) rfl ?_
          exact mg_Ev.more (loc := [some (.ref 38), some (.int x1), some (.int x2), some (.int x3), some (.int x4), some (.int ((x5 * 10) + v596)), some (.int (x6 + 1)), none]) (ih _ _ _ _ _ _ _ _ h _ K) ⟨rfl, ⟨rfl, ⟨rfl, ⟨rfl, ⟨rfl, ⟨rfl, ⟨rfl, trivial⟩⟩⟩⟩⟩⟩⟩
        · rw [if_neg hc2631] at h
          refine mg_Ev.go 1 (pc' := 63) (loc' := [some (.ref 38), some (.int x1), some (.int x2), some (.int x3), some (.int x4), some (.int x5), some (.int x6), some (.int v596)]) (st' := []) (w' := (hp u fL fD, c, z)) rfl ?_
          cases h
          exact mg_Ev.more (loc := [some (.ref 38), some (.int x1), some (.int x2), none, none, some (.int x5), none, none]) K ⟨rfl, ⟨rfl, ⟨rfl, ⟨rfl, trivial⟩⟩⟩⟩
      · rw [if_neg hc2630] at h
        refine mg_Ev.go 1 (pc' := 31) (loc' := [some (.ref 38), some (.int x1), some (.int x2), some (.int x3), some (.int x4), some (.int x5), some (.int x6), some (.int v596)]) (st' := [.int x4, .int v596]) (w' := (hp u fL fD, c, z)) rfl ?_
        refine mg_Ev.br (P := x4 ≤ v596) (t := 37) (nx := 34) (st' := []) rfl rfl rfl rfl (fun hc2632 => ?_) (fun hc2632 => ?_)
        · rw [if_pos hc2632] at h
          refine mg_Ev.go 10 (pc' := 53) (loc' := [some (.ref 38), some (.int x1), some (.int x2), some (.int x3), some (.int x4), some (.int ((x5 * 10) + v596)), some (.int x6), some (.int v596)]) (st' := [.int 1, .int (u 37 3), .ref 38]) (w' := (hp u fL fD, c, z)) rfl ?_
          refine mg_Ev.go 1 (pc' := 54) (loc' := [some (.ref 38), some (.int x1), some (.int x2), some (.int x3), some (.int x4), some (.int ((x5 * 10) + v596)), some (.int x6), some (.int v596)]) (st' := [.int ((u 37 3) + 1), .ref 38]) (w' := (hp u fL fD, c, z)) rfl ?_
          refine mg_Ev.put rfl (hpg_37 _ _ _) (Nat.le_of_ble_eq_true rfl) rfl (hpf_37_3 _ _ _ _ _ _) ?_
          refine mg_Ev.go 2 (pc' := 6) (loc' := [some (.ref 38), some (.int x1), some (.int x2), some (.int x3), some (.int x4), some (.int ((x5 * 10) + v596)), some (.int (x6 + 1)), some (.int v596)]) (st' := []) (w' := (hp (mg_up u 37 3 ((u 37 3) + 1)) fL fD, c, z)) rfl ?_
          exact mg_Ev.more (loc := [some (.ref 38), some (.int x1), some (.int x2), some (.int x3), some (.int x4), some (.int ((x5 * 10) + v596)), some (.int (x6 + 1)), none]) (ih _ _ _ _ _ _ _ _ h _ K) ⟨rfl, ⟨rfl, ⟨rfl, ⟨rfl, ⟨rfl, ⟨rfl, ⟨rfl, trivial⟩⟩⟩⟩⟩⟩⟩
        · rw [if_neg hc2632] at h
          refine mg_Ev.go 1 (pc' := 63) (loc' := [some (.ref 38), some (.int x1), some (.int x2), some (.int x3), some (.int x4), some (.int x5), some (.int x6), some (.int v596)]) (st' := []) (w' := (hp u fL fD, c, z)) rfl ?_
          cases h
          exact mg_Ev.more (loc := [some (.ref 38), some (.int x1), some (.int x2), none, none, some (.int x5), none, none]) K ⟨rfl, ⟨rfl, ⟨rfl, ⟨rfl, trivial⟩⟩⟩⟩

def X_readNumber (a0 : Int32) (a1 : Int32) (a2 : Int32) (a3 : Int32) (u : mg_Rg) : Option (Int32 × mg_Rg) :=
  (X_readNumber_L6 mg_F a0 a1 a2 a3 0 0 u).bind fun q2633 => match q2633 with
  | (x597, u598) =>
    (T_put_39 a0 a1 x597 u598).bind fun u599 =>
    if x597 ≤ 0 then
    some (0, u599)
    else
    some (1, u599)

set_option maxRecDepth 10000 in
set_option maxHeartbeats 4000000 in
theorem ev_X_readNumber {sc : mg_Sc} {c z : Nat} {fL : Nat → Int64} {fD : Nat → UInt64} {a0 : Int32} {a1 : Int32} {a2 : Int32} {a3 : Int32} {u : mg_Rg} {p : Int32 × mg_Rg} (h : X_readNumber a0 a1 a2 a3 u = some p) : mg_Ev sc 2 218 0 (mg_entry 218 [.ref 38, .int a0, .int a1, .int a2, .int a3]) [] (hp u fL fD, c, z) (.inl (some (.int p.1)), (hp p.2 fL fD, c, z)) := by
  unfold X_readNumber at h
  show mg_Ev _ _ _ 0 [some (.ref 38), some (.int a0), some (.int a1), some (.int a2), some (.int a3), none, none, none] [] _ _
  refine mg_Ev.go 4 (pc' := 6) (loc' := [some (.ref 38), some (.int a0), some (.int a1), some (.int a2), some (.int a3), some (.int 0), some (.int 0), none]) (st' := []) (w' := (hp u fL fD, c, z)) rfl ?_
  obtain ⟨⟨x597, u598⟩, hl2634, h⟩ := Option.bind_eq_some_iff.mp h
  try dsimp only at h
  refine mg_Ev.more (loc := [some (.ref 38), some (.int a0), some (.int a1), some (.int a2), some (.int a3), some (.int 0), some (.int 0), none]) (ev_X_readNumber_L6 _ _ _ _ _ _ _ _ _ hl2634 _ ?_) ⟨rfl, ⟨rfl, ⟨rfl, ⟨rfl, ⟨rfl, ⟨rfl, ⟨rfl, trivial⟩⟩⟩⟩⟩⟩⟩
  show mg_Ev _ _ _ 63 [some (.ref 38), some (.int a0), some (.int a1), none, none, some (.int x597), none, none] [] (hp u598 fL fD, c, z) _
  refine mg_Ev.go 5 (pc' := 71) (loc' := [some (.ref 38), some (.int a0), some (.int a1), none, none, some (.int x597), none, none]) (st' := [.int x597, .int a1, .int a0, .ref 40]) (w' := (hp u598 fL fD, c, z)) rfl ?_
  obtain ⟨u599, hf2635, h⟩ := Option.bind_eq_some_iff.mp h
  refine mg_Ev.call (y := 185) (as := [.ref 40, .int a0, .int a1, .int x597]) (rest := []) (v := none) (w1 := (hp u599 fL fD, c, z)) rfl rfl (Nat.le_of_ble_eq_true rfl) ((ev_T_put_39 hf2635).deep (by decide)) ?_
  refine mg_Ev.go 1 (pc' := 76) (loc' := [some (.ref 38), some (.int a0), some (.int a1), none, none, some (.int x597), none, none]) (st' := [.int x597]) (w' := (hp u599 fL fD, c, z)) rfl ?_
  refine mg_Ev.br (P := x597 ≤ 0) (t := 83) (nx := 79) (st' := []) rfl rfl rfl rfl (fun hc2636 => ?_) (fun hc2636 => ?_)
  · rw [if_pos hc2636] at h
    refine mg_Ev.go 1 (pc' := 84) (loc' := [some (.ref 38), some (.int a0), some (.int a1), none, none, some (.int x597), none, none]) (st' := [.int 0]) (w' := (hp u599 fL fD, c, z)) rfl ?_
    cases h
    exact mg_Ev.fin rfl rfl rfl
  · rw [if_neg hc2636] at h
    refine mg_Ev.go 2 (pc' := 84) (loc' := [some (.ref 38), some (.int a0), some (.int a1), none, none, some (.int x597), none, none]) (st' := [.int 1]) (w' := (hp u599 fL fD, c, z)) rfl ?_
    cases h
    exact mg_Ev.fin rfl rfl rfl

def X_take (a0 : Int32) (u : mg_Rg) : Option (Int32 × mg_Rg) :=
  (X_isInText u).bind fun v603 =>
  if v603 = 0 then
  some (0, u)
  else
  if (u 37 3) < 0 ∨ 60 ≤ (u 37 3).toNatClampNeg then none else
    if (u 38 ((u 37 3).toNatClampNeg)) = a0 then
    some (1, (mg_up u 37 3 ((u 37 3) + 1)))
    else
    some (0, u)

set_option maxRecDepth 10000 in
set_option maxHeartbeats 4000000 in
theorem ev_X_take {sc : mg_Sc} {c z : Nat} {fL : Nat → Int64} {fD : Nat → UInt64} {a0 : Int32} {u : mg_Rg} {p : Int32 × mg_Rg} (h : X_take a0 u = some p) : mg_Ev sc 1 220 0 (mg_entry 220 [.ref 38, .int a0]) [] (hp u fL fD, c, z) (.inl (some (.int p.1)), (hp p.2 fL fD, c, z)) := by
  unfold X_take at h
  show mg_Ev _ _ _ 0 [some (.ref 38), some (.int a0)] [] _ _
  refine mg_Ev.go 1 (pc' := 1) (loc' := [some (.ref 38), some (.int a0)]) (st' := [.ref 38]) (w' := (hp u fL fD, c, z)) rfl ?_
  obtain ⟨v603, hf2637, h⟩ := Option.bind_eq_some_iff.mp h
  refine mg_Ev.call (y := 222) (as := [.ref 38]) (rest := []) (v := some (.int v603)) (w1 := (hp u fL fD, c, z)) rfl rfl (Nat.le_of_ble_eq_true rfl) ((ev_X_isInText hf2637).deep (by decide)) ?_
  refine mg_Ev.br (P := v603 = 0) (t := 20) (nx := 7) (st' := []) rfl rfl rfl rfl (fun hc2638 => ?_) (fun hc2638 => ?_)
  · rw [if_pos hc2638] at h
    refine mg_Ev.go 1 (pc' := 21) (loc' := [some (.ref 38), some (.int a0)]) (st' := [.int 0]) (w' := (hp u fL fD, c, z)) rfl ?_
    cases h
    exact mg_Ev.fin rfl rfl rfl
  · rw [if_neg hc2638] at h
    refine mg_Ev.go 4 (pc' := 15) (loc' := [some (.ref 38), some (.int a0)]) (st' := [.int (u 37 3), .ref 39]) (w' := (hp u fL fD, c, z)) rfl ?_
    by_cases hb2639 : (u 37 3) < 0 ∨ 60 ≤ (u 37 3).toNatClampNeg
    · rw [if_pos hb2639] at h
      cases h
    · rw [if_neg hb2639] at h
      refine mg_Ev.cald (a := 38) (n := 60) (f := u 38) rfl (hpg_38 _ _ _) rfl hb2639 ?_
      refine mg_Ev.go 1 (pc' := 17) (loc' := [some (.ref 38), some (.int a0)]) (st' := [.int a0, .int (u 38 ((u 37 3).toNatClampNeg))]) (w' := (hp u fL fD, c, z)) rfl ?_
      refine mg_Ev.br (P := (u 38 ((u 37 3).toNatClampNeg)) = a0) (t := 22) (nx := 20) (st' := []) rfl rfl rfl rfl (fun hc2640 => ?_) (fun hc2640 => ?_)
      · rw [if_pos hc2640] at h
        refine mg_Ev.go 5 (pc' := 29) (loc' := [some (.ref 38), some (.int a0)]) (st' := [.int ((u 37 3) + 1), .ref 38]) (w' := (hp u fL fD, c, z)) rfl ?_
        refine mg_Ev.put rfl (hpg_37 _ _ _) (Nat.le_of_ble_eq_true rfl) rfl (hpf_37_3 _ _ _ _ _ _) ?_
        refine mg_Ev.go 1 (pc' := 33) (loc' := [some (.ref 38), some (.int a0)]) (st' := [.int 1]) (w' := (hp (mg_up u 37 3 ((u 37 3) + 1)) fL fD, c, z)) rfl ?_
        cases h
        exact mg_Ev.fin rfl rfl rfl
      · rw [if_neg hc2640] at h
        refine mg_Ev.go 1 (pc' := 21) (loc' := [some (.ref 38), some (.int a0)]) (st' := [.int 0]) (w' := (hp u fL fD, c, z)) rfl ?_
        cases h
        exact mg_Ev.fin rfl rfl rfl

def X_partColumn (a0 : Int32) (a1 : Int32) (u : mg_Rg) : Option (Int32) :=
  some ((5 + (a0 * 2)) + a1)

set_option maxRecDepth 10000 in
set_option maxHeartbeats 4000000 in
theorem ev_X_partColumn {sc : mg_Sc} {c z : Nat} {fL : Nat → Int64} {fD : Nat → UInt64} {a0 : Int32} {a1 : Int32} {u : mg_Rg} {v : Int32} (h : X_partColumn a0 a1 u = some v) : mg_Ev sc 0 223 0 (mg_entry 223 [.int a0, .int a1]) [] (hp u fL fD, c, z) (.inl (some (.int v)), (hp u fL fD, c, z)) := by
  unfold X_partColumn at h
  show mg_Ev _ _ _ 0 [some (.int a0), some (.int a1)] [] _ _
  refine mg_Ev.go 7 (pc' := 7) (loc' := [some (.int a0), some (.int a1)]) (st' := [.int ((5 + (a0 * 2)) + a1)]) (w' := (hp u fL fD, c, z)) rfl ?_
  cases h
  exact mg_Ev.fin rfl rfl rfl

def X_readDigit (a0 : Int32) (a1 : Int32) (u : mg_Rg) : Option (Int32 × mg_Rg) :=
  (X_digitHere u).bind fun v614 =>
  if v614 = (-1) then
  some (0, u)
  else
  (T_put_39 a0 a1 v614 u).bind fun u615 =>
    some (1, (mg_up u615 37 3 ((u615 37 3) + 1)))

set_option maxRecDepth 10000 in
set_option maxHeartbeats 4000000 in
theorem ev_X_readDigit {sc : mg_Sc} {c z : Nat} {fL : Nat → Int64} {fD : Nat → UInt64} {a0 : Int32} {a1 : Int32} {u : mg_Rg} {p : Int32 × mg_Rg} (h : X_readDigit a0 a1 u = some p) : mg_Ev sc 2 219 0 (mg_entry 219 [.ref 38, .int a0, .int a1]) [] (hp u fL fD, c, z) (.inl (some (.int p.1)), (hp p.2 fL fD, c, z)) := by
  unfold X_readDigit at h
  show mg_Ev _ _ _ 0 [some (.ref 38), some (.int a0), some (.int a1), none] [] _ _
  refine mg_Ev.go 1 (pc' := 1) (loc' := [some (.ref 38), some (.int a0), some (.int a1), none]) (st' := [.ref 38]) (w' := (hp u fL fD, c, z)) rfl ?_
  obtain ⟨v614, hf2641, h⟩ := Option.bind_eq_some_iff.mp h
  refine mg_Ev.call (y := 221) (as := [.ref 38]) (rest := []) (v := some (.int v614)) (w1 := (hp u fL fD, c, z)) rfl rfl (Nat.le_of_ble_eq_true rfl) ((ev_X_digitHere hf2641).deep (by decide)) ?_
  refine mg_Ev.go 3 (pc' := 7) (loc' := [some (.ref 38), some (.int a0), some (.int a1), some (.int v614)]) (st' := [.int (-1), .int v614]) (w' := (hp u fL fD, c, z)) rfl ?_
  refine mg_Ev.br (P := v614 = (-1)) (t := 10) (nx := 12) (st' := []) rfl rfl rfl rfl (fun hc2642 => ?_) (fun hc2642 => ?_)
  · rw [if_pos hc2642] at h
    refine mg_Ev.go 1 (pc' := 11) (loc' := [some (.ref 38), some (.int a0), some (.int a1), some (.int v614)]) (st' := [.int 0]) (w' := (hp u fL fD, c, z)) rfl ?_
    cases h
    exact mg_Ev.fin rfl rfl rfl
  · rw [if_neg hc2642] at h
    refine mg_Ev.go 5 (pc' := 19) (loc' := [some (.ref 38), some (.int a0), some (.int a1), some (.int v614)]) (st' := [.int v614, .int a1, .int a0, .ref 40]) (w' := (hp u fL fD, c, z)) rfl ?_
    obtain ⟨u615, hf2643, h⟩ := Option.bind_eq_some_iff.mp h
    refine mg_Ev.call (y := 185) (as := [.ref 40, .int a0, .int a1, .int v614]) (rest := []) (v := none) (w1 := (hp u615 fL fD, c, z)) rfl rfl (Nat.le_of_ble_eq_true rfl) ((ev_T_put_39 hf2643).deep (by decide)) ?_
    refine mg_Ev.go 5 (pc' := 29) (loc' := [some (.ref 38), some (.int a0), some (.int a1), some (.int v614)]) (st' := [.int ((u615 37 3) + 1), .ref 38]) (w' := (hp u615 fL fD, c, z)) rfl ?_
    refine mg_Ev.put rfl (hpg_37 _ _ _) (Nat.le_of_ble_eq_true rfl) rfl (hpf_37_3 _ _ _ _ _ _) ?_
    refine mg_Ev.go 1 (pc' := 33) (loc' := [some (.ref 38), some (.int a0), some (.int a1), some (.int v614)]) (st' := [.int 1]) (w' := (hp (mg_up u615 37 3 ((u615 37 3) + 1)) fL fD, c, z)) rfl ?_
    cases h
    exact mg_Ev.fin rfl rfl rfl

def X_readParts_L2 : Nat → Int32 → Int32 → mg_Rg → Option ((mg_Rg) ⊕ (Int32 × mg_Rg))
  | 0, _, _, _ => none
  | n + 1, x1, x2, u =>
    if 4 ≤ x2 then
    some (.inl u)
    else
    if x2 ≤ 0 then
      (X_partColumn x2 0 u).bind fun v613 =>
        (X_readDigit x1 v613 u).bind fun p618 => match p618 with
        | (v616, u617) =>
          if v616 = 0 then
          some (.inr (0, u617))
          else
          (X_take 58 u617).bind fun p621 => match p621 with
            | (v619, u620) =>
              if v619 = 0 then
              some (.inr (0, u620))
              else
              (X_partColumn x2 1 u620).bind fun v622 =>
                (X_readNumber x1 v622 5 0 u620).bind fun p625 => match p625 with
                | (v623, u624) =>
                  if v623 = 0 then
                  some (.inr (0, u624))
                  else
                  (T_put_39 x1 4 (x2 + 1) u624).bind fun u626 =>
                    X_readParts_L2 n x1 (x2 + 1) u626
      else
      (X_take 43 u).bind fun p629 => match p629 with
        | (v627, u628) =>
          if v627 = 0 then
          some (.inr (1, u628))
          else
          (X_partColumn x2 0 u628).bind fun v630 =>
            (X_readDigit x1 v630 u628).bind fun p633 => match p633 with
            | (v631, u632) =>
              if v631 = 0 then
              some (.inr (0, u632))
              else
              (X_take 58 u632).bind fun p636 => match p636 with
                | (v634, u635) =>
                  if v634 = 0 then
                  some (.inr (0, u635))
                  else
                  (X_partColumn x2 1 u635).bind fun v637 =>
                    (X_readNumber x1 v637 5 0 u635).bind fun p640 => match p640 with
                    | (v638, u639) =>
                      if v638 = 0 then
                      some (.inr (0, u639))
                      else
                      (T_put_39 x1 4 (x2 + 1) u639).bind fun u641 =>
                        X_readParts_L2 n x1 (x2 + 1) u641
set_option maxRecDepth 10000 in
set_option maxHeartbeats 4000000 in
theorem ev_X_readParts_L2 {sc : mg_Sc} {c z : Nat} {fL : Nat → Int64} {fD : Nat → UInt64} : ∀ (n : Nat) (x1 : Int32) (x2 : Int32) (u : mg_Rg) (res : (mg_Rg) ⊕ (Int32 × mg_Rg)), X_readParts_L2 n x1 x2 u = some res → ∀ r, (match res with | .inl yu => mg_Ev sc 3 216 79 [none, none, none] [] (hp yu fL fD, c, z) r | .inr (rv, ru) => r = (.inl (some (.int rv)), (hp ru fL fD, c, z))) → mg_Ev sc 3 216 2 [some (.ref 38), some (.int x1), some (.int x2)] [] (hp u fL fD, c, z) r := by
  intro n
  induction n with
  | zero => intro x1 x2 u res h; cases h
  | succ n ih =>
    intro x1 x2 u res h r K
    unfold X_readParts_L2 at h
    refine mg_Ev.go 2 (pc' := 4) (loc' := [some (.ref 38), some (.int x1), some (.int x2)]) (st' := [.int 4, .int x2]) (w' := (hp u fL fD, c, z)) rfl ?_
    refine mg_Ev.br (P := 4 ≤ x2) (t := 79) (nx := 7) (st' := []) rfl rfl rfl rfl (fun hc2644 => ?_) (fun hc2644 => ?_)
    · rw [if_pos hc2644] at h
      cases h
      exact mg_Ev.more (loc := [none, none, none]) K trivial
    · rw [if_neg hc2644] at h
      refine mg_Ev.go 1 (pc' := 8) (loc' := [some (.ref 38), some (.int x1), some (.int x2)]) (st' := [.int x2]) (w' := (hp u fL fD, c, z)) rfl ?_
      refine mg_Ev.br (P := x2 ≤ 0) (t := 22) (nx := 11) (st' := []) rfl rfl rfl rfl (fun hc2645 => ?_) (fun hc2645 => ?_)
      · rw [if_pos hc2645] at h
        refine mg_Ev.go 4 (pc' := 26) (loc' := [some (.ref 38), some (.int x1), some (.int x2)]) (st' := [.int 0, .int x2, .int x1, .ref 38]) (w' := (hp u fL fD, c, z)) rfl ?_
        obtain ⟨v613, hf2646, h⟩ := Option.bind_eq_some_iff.mp h
        refine mg_Ev.call (y := 223) (as := [.int x2, .int 0]) (rest := [.int x1, .ref 38]) (v := some (.int v613)) (w1 := (hp u fL fD, c, z)) rfl rfl (Nat.le_of_ble_eq_true rfl) ((ev_X_partColumn hf2646).deep (by decide)) ?_
        obtain ⟨⟨v616, u617⟩, hf2647, h⟩ := Option.bind_eq_some_iff.mp h
        try dsimp only at h
        refine mg_Ev.call (y := 219) (as := [.ref 38, .int x1, .int v613]) (rest := []) (v := some (.int v616)) (w1 := (hp u617 fL fD, c, z)) rfl rfl (Nat.le_of_ble_eq_true rfl) ((ev_X_readDigit hf2647).deep (by decide)) ?_
        refine mg_Ev.br (P := v616 = 0) (t := 59) (nx := 35) (st' := []) rfl rfl rfl rfl (fun hc2648 => ?_) (fun hc2648 => ?_)
        · rw [if_pos hc2648] at h
          refine mg_Ev.go 1 (pc' := 60) (loc' := [some (.ref 38), some (.int x1), some (.int x2)]) (st' := [.int 0]) (w' := (hp u617 fL fD, c, z)) rfl ?_
          cases h
          cases K
          exact mg_Ev.fin rfl rfl rfl
        · rw [if_neg hc2648] at h
          refine mg_Ev.go 2 (pc' := 38) (loc' := [some (.ref 38), some (.int x1), some (.int x2)]) (st' := [.int 58, .ref 38]) (w' := (hp u617 fL fD, c, z)) rfl ?_
          obtain ⟨⟨v619, u620⟩, hf2649, h⟩ := Option.bind_eq_some_iff.mp h
          try dsimp only at h
          refine mg_Ev.call (y := 220) (as := [.ref 38, .int 58]) (rest := []) (v := some (.int v619)) (w1 := (hp u620 fL fD, c, z)) rfl rfl (Nat.le_of_ble_eq_true rfl) ((ev_X_take hf2649).deep (by decide)) ?_
          refine mg_Ev.br (P := v619 = 0) (t := 59) (nx := 44) (st' := []) rfl rfl rfl rfl (fun hc2650 => ?_) (fun hc2650 => ?_)
          · rw [if_pos hc2650] at h
            refine mg_Ev.go 1 (pc' := 60) (loc' := [some (.ref 38), some (.int x1), some (.int x2)]) (st' := [.int 0]) (w' := (hp u620 fL fD, c, z)) rfl ?_
            cases h
            cases K
            exact mg_Ev.fin rfl rfl rfl
          · rw [if_neg hc2650] at h
            refine mg_Ev.go 4 (pc' := 48) (loc' := [some (.ref 38), some (.int x1), some (.int x2)]) (st' := [.int 1, .int x2, .int x1, .ref 38]) (w' := (hp u620 fL fD, c, z)) rfl ?_
            obtain ⟨v622, hf2651, h⟩ := Option.bind_eq_some_iff.mp h
            refine mg_Ev.call (y := 223) (as := [.int x2, .int 1]) (rest := [.int x1, .ref 38]) (v := some (.int v622)) (w1 := (hp u620 fL fD, c, z)) rfl rfl (Nat.le_of_ble_eq_true rfl) ((ev_X_partColumn hf2651).deep (by decide)) ?_
            refine mg_Ev.go 2 (pc' := 53) (loc' := [some (.ref 38), some (.int x1), some (.int x2)]) (st' := [.int 0, .int 5, .int v622, .int x1, .ref 38]) (w' := (hp u620 fL fD, c, z)) rfl ?_
            obtain ⟨⟨v623, u624⟩, hf2652, h⟩ := Option.bind_eq_some_iff.mp h
            try dsimp only at h
            refine mg_Ev.call (y := 218) (as := [.ref 38, .int x1, .int v622, .int 5, .int 0]) (rest := []) (v := some (.int v623)) (w1 := (hp u624 fL fD, c, z)) rfl rfl (Nat.le_of_ble_eq_true rfl) ((ev_X_readNumber hf2652).deep (by decide)) ?_
            refine mg_Ev.br (P := v623 = 0) (t := 59) (nx := 61) (st' := []) rfl rfl rfl rfl (fun hc2653 => ?_) (fun hc2653 => ?_)
            · rw [if_pos hc2653] at h
              refine mg_Ev.go 1 (pc' := 60) (loc' := [some (.ref 38), some (.int x1), some (.int x2)]) (st' := [.int 0]) (w' := (hp u624 fL fD, c, z)) rfl ?_
              cases h
              cases K
              exact mg_Ev.fin rfl rfl rfl
            · rw [if_neg hc2653] at h
              refine mg_Ev.go 7 (pc' := 70) (loc' := [some (.ref 38), some (.int x1), some (.int x2)]) (st' := [.int (x2 + 1), .int 4, .int x1, .ref 40]) (w' := (hp u624 fL fD, c, z)) rfl ?_
              obtain ⟨u626, hf2654, h⟩ := Option.bind_eq_some_iff.mp h
              refine mg_Ev.call (y := 185) (as := [.ref 40, .int x1, .int 4, .int (x2 + 1)]) (rest := []) (v := none) (w1 := (hp u626 fL fD, c, z)) rfl rfl (Nat.le_of_ble_eq_true rfl) ((ev_T_put_39 hf2654).deep (by decide)) ?_
              refine mg_Ev.go 2 (pc' := 2) (loc' := [some (.ref 38), some (.int x1), some (.int (x2 + 1))]) (st' := []) (w' := (hp u626 fL fD, c, z)) rfl ?_
              exact mg_Ev.more (loc := [some (.ref 38), some (.int x1), some (.int (x2 + 1))]) (ih _ _ _ _ h _ K) ⟨rfl, ⟨rfl, ⟨rfl, trivial⟩⟩⟩
      · rw [if_neg hc2645] at h
        refine mg_Ev.go 2 (pc' := 14) (loc' := [some (.ref 38), some (.int x1), some (.int x2)]) (st' := [.int 43, .ref 38]) (w' := (hp u fL fD, c, z)) rfl ?_
        obtain ⟨⟨v627, u628⟩, hf2655, h⟩ := Option.bind_eq_some_iff.mp h
        try dsimp only at h
        refine mg_Ev.call (y := 220) (as := [.ref 38, .int 43]) (rest := []) (v := some (.int v627)) (w1 := (hp u628 fL fD, c, z)) rfl rfl (Nat.le_of_ble_eq_true rfl) ((ev_X_take hf2655).deep (by decide)) ?_
        refine mg_Ev.br (P := v627 = 0) (t := 20) (nx := 22) (st' := []) rfl rfl rfl rfl (fun hc2656 => ?_) (fun hc2656 => ?_)
        · rw [if_pos hc2656] at h
          refine mg_Ev.go 1 (pc' := 21) (loc' := [some (.ref 38), some (.int x1), some (.int x2)]) (st' := [.int 1]) (w' := (hp u628 fL fD, c, z)) rfl ?_
          cases h
          cases K
          exact mg_Ev.fin rfl rfl rfl
        · rw [if_neg hc2656] at h
          refine mg_Ev.go 4 (pc' := 26) (loc' := [some (.ref 38), some (.int x1), some (.int x2)]) (st' := [.int 0, .int x2, .int x1, .ref 38]) (w' := (hp u628 fL fD, c, z)) rfl ?_
          obtain ⟨v630, hf2657, h⟩ := Option.bind_eq_some_iff.mp h
          refine mg_Ev.call (y := 223) (as := [.int x2, .int 0]) (rest := [.int x1, .ref 38]) (v := some (.int v630)) (w1 := (hp u628 fL fD, c, z)) rfl rfl (Nat.le_of_ble_eq_true rfl) ((ev_X_partColumn hf2657).deep (by decide)) ?_
          obtain ⟨⟨v631, u632⟩, hf2658, h⟩ := Option.bind_eq_some_iff.mp h
          try dsimp only at h
          refine mg_Ev.call (y := 219) (as := [.ref 38, .int x1, .int v630]) (rest := []) (v := some (.int v631)) (w1 := (hp u632 fL fD, c, z)) rfl rfl (Nat.le_of_ble_eq_true rfl) ((ev_X_readDigit hf2658).deep (by decide)) ?_
          refine mg_Ev.br (P := v631 = 0) (t := 59) (nx := 35) (st' := []) rfl rfl rfl rfl (fun hc2659 => ?_) (fun hc2659 => ?_)
          · rw [if_pos hc2659] at h
            refine mg_Ev.go 1 (pc' := 60) (loc' := [some (.ref 38), some (.int x1), some (.int x2)]) (st' := [.int 0]) (w' := (hp u632 fL fD, c, z)) rfl ?_
            cases h
            cases K
            exact mg_Ev.fin rfl rfl rfl
          · rw [if_neg hc2659] at h
            refine mg_Ev.go 2 (pc' := 38) (loc' := [some (.ref 38), some (.int x1), some (.int x2)]) (st' := [.int 58, .ref 38]) (w' := (hp u632 fL fD, c, z)) rfl ?_
            obtain ⟨⟨v634, u635⟩, hf2660, h⟩ := Option.bind_eq_some_iff.mp h
            try dsimp only at h
            refine mg_Ev.call (y := 220) (as := [.ref 38, .int 58]) (rest := []) (v := some (.int v634)) (w1 := (hp u635 fL fD, c, z)) rfl rfl (Nat.le_of_ble_eq_true rfl) ((ev_X_take hf2660).deep (by decide)) ?_
            refine mg_Ev.br (P := v634 = 0) (t := 59) (nx := 44) (st' := []) rfl rfl rfl rfl (fun hc2661 => ?_) (fun hc2661 => ?_)
            · rw [if_pos hc2661] at h
              refine mg_Ev.go 1 (pc' := 60) (loc' := [some (.ref 38), some (.int x1), some (.int x2)]) (st' := [.int 0]) (w' := (hp u635 fL fD, c, z)) rfl ?_
              cases h
              cases K
              exact mg_Ev.fin rfl rfl rfl
            · rw [if_neg hc2661] at h
              refine mg_Ev.go 4 (pc' := 48) (loc' := [some (.ref 38), some (.int x1), some (.int x2)]) (st' := [.int 1, .int x2, .int x1, .ref 38]) (w' := (hp u635 fL fD, c, z)) rfl ?_
              obtain ⟨v637, hf2662, h⟩ := Option.bind_eq_some_iff.mp h
              refine mg_Ev.call (y := 223) (as := [.int x2, .int 1]) (rest := [.int x1, .ref 38]) (v := some (.int v637)) (w1 := (hp u635 fL fD, c, z)) rfl rfl (Nat.le_of_ble_eq_true rfl) ((ev_X_partColumn hf2662).deep (by decide)) ?_
              refine mg_Ev.go 2 (pc' := 53) (loc' := [some (.ref 38), some (.int x1), some (.int x2)]) (st' := [.int 0, .int 5, .int v637, .int x1, .ref 38]) (w' := (hp u635 fL fD, c, z)) rfl ?_
              obtain ⟨⟨v638, u639⟩, hf2663, h⟩ := Option.bind_eq_some_iff.mp h
              try dsimp only at h
              refine mg_Ev.call (y := 218) (as := [.ref 38, .int x1, .int v637, .int 5, .int 0]) (rest := []) (v := some (.int v638)) (w1 := (hp u639 fL fD, c, z)) rfl rfl (Nat.le_of_ble_eq_true rfl) ((ev_X_readNumber hf2663).deep (by decide)) ?_
              refine mg_Ev.br (P := v638 = 0) (t := 59) (nx := 61) (st' := []) rfl rfl rfl rfl (fun hc2664 => ?_) (fun hc2664 => ?_)
              · rw [if_pos hc2664] at h
                refine mg_Ev.go 1 (pc' := 60) (loc' := [some (.ref 38), some (.int x1), some (.int x2)]) (st' := [.int 0]) (w' := (hp u639 fL fD, c, z)) rfl ?_
                cases h
                cases K
                exact mg_Ev.fin rfl rfl rfl
              · rw [if_neg hc2664] at h
                refine mg_Ev.go 7 (pc' := 70) (loc' := [some (.ref 38), some (.int x1), some (.int x2)]) (st' := [.int (x2 + 1), .int 4, .int x1, .ref 40]) (w' := (hp u639 fL fD, c, z)) rfl ?_
                obtain ⟨u641, hf2665, h⟩ := Option.bind_eq_some_iff.mp h
                refine mg_Ev.call (y := 185) (as := [.ref 40, .int x1, .int 4, .int (x2 + 1)]) (rest := []) (v := none) (w1 := (hp u641 fL fD, c, z)) rfl rfl (Nat.le_of_ble_eq_true rfl) ((ev_T_put_39 hf2665).deep (by decide)) ?_
                refine mg_Ev.go 2 (pc' := 2) (loc' := [some (.ref 38), some (.int x1), some (.int (x2 + 1))]) (st' := []) (w' := (hp u641 fL fD, c, z)) rfl ?_
                exact mg_Ev.more (loc := [some (.ref 38), some (.int x1), some (.int (x2 + 1))]) (ih _ _ _ _ h _ K) ⟨rfl, ⟨rfl, ⟨rfl, trivial⟩⟩⟩

def X_readParts (a0 : Int32) (u : mg_Rg) : Option (Int32 × mg_Rg) :=
  (X_readParts_L2 mg_F a0 0 u).bind fun q2666 => match q2666 with
  | .inl u642 =>
    some (1, u642)
  | .inr (v643, u644) =>
    some (v643, u644)

set_option maxRecDepth 10000 in
set_option maxHeartbeats 4000000 in
theorem ev_X_readParts {sc : mg_Sc} {c z : Nat} {fL : Nat → Int64} {fD : Nat → UInt64} {a0 : Int32} {u : mg_Rg} {p : Int32 × mg_Rg} (h : X_readParts a0 u = some p) : mg_Ev sc 3 216 0 (mg_entry 216 [.ref 38, .int a0]) [] (hp u fL fD, c, z) (.inl (some (.int p.1)), (hp p.2 fL fD, c, z)) := by
  unfold X_readParts at h
  show mg_Ev _ _ _ 0 [some (.ref 38), some (.int a0), none] [] _ _
  refine mg_Ev.go 2 (pc' := 2) (loc' := [some (.ref 38), some (.int a0), some (.int 0)]) (st' := []) (w' := (hp u fL fD, c, z)) rfl ?_
  obtain ⟨(u642 | ⟨v643, u644⟩), hl2667, h⟩ := Option.bind_eq_some_iff.mp h
  · try dsimp only at h
    refine mg_Ev.more (loc := [some (.ref 38), some (.int a0), some (.int 0)]) (ev_X_readParts_L2 _ _ _ _ _ hl2667 _ ?_) ⟨rfl, ⟨rfl, ⟨rfl, trivial⟩⟩⟩
    show mg_Ev _ _ _ 79 [none, none, none] [] (hp u642 fL fD, c, z) _
    refine mg_Ev.go 1 (pc' := 80) (loc' := [none, none, none]) (st' := [.int 1]) (w' := (hp u642 fL fD, c, z)) rfl ?_
    cases h
    exact mg_Ev.fin rfl rfl rfl
  · try dsimp only at h
    cases h
    refine mg_Ev.more (loc := [some (.ref 38), some (.int a0), some (.int 0)]) (ev_X_readParts_L2 _ _ _ _ _ hl2667 _ ?_) ⟨rfl, ⟨rfl, ⟨rfl, trivial⟩⟩⟩
    rfl

def X_readChoice (a0 : Int32) (a1 : Int32) (a2 : Int32) (u : mg_Rg) : Option (Int32 × mg_Rg) :=
  (X_take a1 u).bind fun p650 => match p650 with
  | (v648, u649) =>
    if v648 = 0 then
    some (1, u649)
    else
    (X_readDigit a0 a2 u649).bind fun p653 => match p653 with
      | (v651, u652) =>
        if v651 = 0 then
        some (0, u652)
        else
        some (1, u652)

set_option maxRecDepth 10000 in
set_option maxHeartbeats 4000000 in
theorem ev_X_readChoice {sc : mg_Sc} {c z : Nat} {fL : Nat → Int64} {fD : Nat → UInt64} {a0 : Int32} {a1 : Int32} {a2 : Int32} {u : mg_Rg} {p : Int32 × mg_Rg} (h : X_readChoice a0 a1 a2 u = some p) : mg_Ev sc 3 217 0 (mg_entry 217 [.ref 38, .int a0, .int a1, .int a2]) [] (hp u fL fD, c, z) (.inl (some (.int p.1)), (hp p.2 fL fD, c, z)) := by
  unfold X_readChoice at h
  show mg_Ev _ _ _ 0 [some (.ref 38), some (.int a0), some (.int a1), some (.int a2)] [] _ _
  refine mg_Ev.go 2 (pc' := 2) (loc' := [some (.ref 38), some (.int a0), some (.int a1), some (.int a2)]) (st' := [.int a1, .ref 38]) (w' := (hp u fL fD, c, z)) rfl ?_
  obtain ⟨⟨v648, u649⟩, hf2668, h⟩ := Option.bind_eq_some_iff.mp h
  try dsimp only at h
  refine mg_Ev.call (y := 220) (as := [.ref 38, .int a1]) (rest := []) (v := some (.int v648)) (w1 := (hp u649 fL fD, c, z)) rfl rfl (Nat.le_of_ble_eq_true rfl) ((ev_X_take hf2668).deep (by decide)) ?_
  refine mg_Ev.br (P := v648 = 0) (t := 17) (nx := 8) (st' := []) rfl rfl rfl rfl (fun hc2669 => ?_) (fun hc2669 => ?_)
  · rw [if_pos hc2669] at h
    refine mg_Ev.go 2 (pc' := 22) (loc' := [some (.ref 38), some (.int a0), some (.int a1), some (.int a2)]) (st' := [.int 1]) (w' := (hp u649 fL fD, c, z)) rfl ?_
    cases h
    exact mg_Ev.fin rfl rfl rfl
  · rw [if_neg hc2669] at h
    refine mg_Ev.go 3 (pc' := 11) (loc' := [some (.ref 38), some (.int a0), some (.int a1), some (.int a2)]) (st' := [.int a2, .int a0, .ref 38]) (w' := (hp u649 fL fD, c, z)) rfl ?_
    obtain ⟨⟨v651, u652⟩, hf2670, h⟩ := Option.bind_eq_some_iff.mp h
    try dsimp only at h
    refine mg_Ev.call (y := 219) (as := [.ref 38, .int a0, .int a2]) (rest := []) (v := some (.int v651)) (w1 := (hp u652 fL fD, c, z)) rfl rfl (Nat.le_of_ble_eq_true rfl) ((ev_X_readDigit hf2670).deep (by decide)) ?_
    refine mg_Ev.br (P := v651 = 0) (t := 21) (nx := 17) (st' := []) rfl rfl rfl rfl (fun hc2671 => ?_) (fun hc2671 => ?_)
    · rw [if_pos hc2671] at h
      refine mg_Ev.go 1 (pc' := 22) (loc' := [some (.ref 38), some (.int a0), some (.int a1), some (.int a2)]) (st' := [.int 0]) (w' := (hp u652 fL fD, c, z)) rfl ?_
      cases h
      exact mg_Ev.fin rfl rfl rfl
    · rw [if_neg hc2671] at h
      refine mg_Ev.go 2 (pc' := 22) (loc' := [some (.ref 38), some (.int a0), some (.int a1), some (.int a2)]) (st' := [.int 1]) (w' := (hp u652 fL fD, c, z)) rfl ?_
      cases h
      exact mg_Ev.fin rfl rfl rfl

def X_readEntry (u : mg_Rg) : Option (Int32 × mg_Rg) :=
  (T_add_39 u).bind fun p593 => match p593 with
  | (v591, u592) =>
    (T_put_39 v591 3 (-1) u592).bind fun u594 =>
    (X_readNumber v591 0 4 1 u594).bind fun p602 => match p602 with
    | (v600, u601) =>
      if v600 = 0 then
      some (0, u601)
      else
      (X_take 120 u601).bind fun p606 => match p606 with
        | (v604, u605) =>
          if v604 = 0 then
          some (0, u605)
          else
          (X_readNumber v591 1 5 0 u605).bind fun p609 => match p609 with
            | (v607, u608) =>
              if v607 = 0 then
              some (0, u608)
              else
              (X_take 64 u608).bind fun p612 => match p612 with
                | (v610, u611) =>
                  if v610 = 0 then
                  some (0, u611)
                  else
                  (X_readParts v591 u611).bind fun p647 => match p647 with
                    | (v645, u646) =>
                      if v645 = 0 then
                      some (0, u646)
                      else
                      (X_readChoice v591 33 2 u646).bind fun p656 => match p656 with
                        | (v654, u655) =>
                          if v654 = 0 then
                          some (0, u655)
                          else
                          (X_readChoice v591 35 3 u655).bind fun p659 => match p659 with
                            | (v657, u658) =>
                              if v657 = 0 then
                              some (0, u658)
                              else
                              some (1, u658)

set_option maxRecDepth 10000 in
set_option maxHeartbeats 4000000 in
theorem ev_X_readEntry {sc : mg_Sc} {c z : Nat} {fL : Nat → Int64} {fD : Nat → UInt64} {u : mg_Rg} {p : Int32 × mg_Rg} (h : X_readEntry u = some p) : mg_Ev sc 4 215 0 (mg_entry 215 [.ref 38]) [] (hp u fL fD, c, z) (.inl (some (.int p.1)), (hp p.2 fL fD, c, z)) := by
  unfold X_readEntry at h
  show mg_Ev _ _ _ 0 [some (.ref 38), none] [] _ _
  refine mg_Ev.go 2 (pc' := 4) (loc' := [some (.ref 38), none]) (st' := [.ref 40]) (w' := (hp u fL fD, c, z)) rfl ?_
  obtain ⟨⟨v591, u592⟩, hf2672, h⟩ := Option.bind_eq_some_iff.mp h
  try dsimp only at h
  refine mg_Ev.call (y := 187) (as := [.ref 40]) (rest := []) (v := some (.int v591)) (w1 := (hp u592 fL fD, c, z)) rfl rfl (Nat.le_of_ble_eq_true rfl) ((ev_T_add_39 hf2672).deep (by decide)) ?_
  refine mg_Ev.go 6 (pc' := 15) (loc' := [some (.ref 38), some (.int v591)]) (st' := [.int (-1), .int 3, .int v591, .ref 40]) (w' := (hp u592 fL fD, c, z)) rfl ?_
  obtain ⟨u594, hf2673, h⟩ := Option.bind_eq_some_iff.mp h
  refine mg_Ev.call (y := 185) (as := [.ref 40, .int v591, .int 3, .int (-1)]) (rest := []) (v := none) (w1 := (hp u594 fL fD, c, z)) rfl rfl (Nat.le_of_ble_eq_true rfl) ((ev_T_put_39 hf2673).deep (by decide)) ?_
  refine mg_Ev.go 5 (pc' := 23) (loc' := [some (.ref 38), some (.int v591)]) (st' := [.int 1, .int 4, .int 0, .int v591, .ref 38]) (w' := (hp u594 fL fD, c, z)) rfl ?_
  obtain ⟨⟨v600, u601⟩, hf2674, h⟩ := Option.bind_eq_some_iff.mp h
  try dsimp only at h
  refine mg_Ev.call (y := 218) (as := [.ref 38, .int v591, .int 0, .int 4, .int 1]) (rest := []) (v := some (.int v600)) (w1 := (hp u601 fL fD, c, z)) rfl rfl (Nat.le_of_ble_eq_true rfl) ((ev_X_readNumber hf2674).deep (by decide)) ?_
  refine mg_Ev.br (P := v600 = 0) (t := 92) (nx := 29) (st' := []) rfl rfl rfl rfl (fun hc2675 => ?_) (fun hc2675 => ?_)
  · rw [if_pos hc2675] at h
    refine mg_Ev.go 1 (pc' := 93) (loc' := [some (.ref 38), some (.int v591)]) (st' := [.int 0]) (w' := (hp u601 fL fD, c, z)) rfl ?_
    cases h
    exact mg_Ev.fin rfl rfl rfl
  · rw [if_neg hc2675] at h
    refine mg_Ev.go 2 (pc' := 32) (loc' := [some (.ref 38), some (.int v591)]) (st' := [.int 120, .ref 38]) (w' := (hp u601 fL fD, c, z)) rfl ?_
    obtain ⟨⟨v604, u605⟩, hf2676, h⟩ := Option.bind_eq_some_iff.mp h
    try dsimp only at h
    refine mg_Ev.call (y := 220) (as := [.ref 38, .int 120]) (rest := []) (v := some (.int v604)) (w1 := (hp u605 fL fD, c, z)) rfl rfl (Nat.le_of_ble_eq_true rfl) ((ev_X_take hf2676).deep (by decide)) ?_
    refine mg_Ev.br (P := v604 = 0) (t := 92) (nx := 38) (st' := []) rfl rfl rfl rfl (fun hc2677 => ?_) (fun hc2677 => ?_)
    · rw [if_pos hc2677] at h
      refine mg_Ev.go 1 (pc' := 93) (loc' := [some (.ref 38), some (.int v591)]) (st' := [.int 0]) (w' := (hp u605 fL fD, c, z)) rfl ?_
      cases h
      exact mg_Ev.fin rfl rfl rfl
    · rw [if_neg hc2677] at h
      refine mg_Ev.go 5 (pc' := 43) (loc' := [some (.ref 38), some (.int v591)]) (st' := [.int 0, .int 5, .int 1, .int v591, .ref 38]) (w' := (hp u605 fL fD, c, z)) rfl ?_
      obtain ⟨⟨v607, u608⟩, hf2678, h⟩ := Option.bind_eq_some_iff.mp h
      try dsimp only at h
      refine mg_Ev.call (y := 218) (as := [.ref 38, .int v591, .int 1, .int 5, .int 0]) (rest := []) (v := some (.int v607)) (w1 := (hp u608 fL fD, c, z)) rfl rfl (Nat.le_of_ble_eq_true rfl) ((ev_X_readNumber hf2678).deep (by decide)) ?_
      refine mg_Ev.br (P := v607 = 0) (t := 92) (nx := 49) (st' := []) rfl rfl rfl rfl (fun hc2679 => ?_) (fun hc2679 => ?_)
      · rw [if_pos hc2679] at h
        refine mg_Ev.go 1 (pc' := 93) (loc' := [some (.ref 38), some (.int v591)]) (st' := [.int 0]) (w' := (hp u608 fL fD, c, z)) rfl ?_
        cases h
        exact mg_Ev.fin rfl rfl rfl
      · rw [if_neg hc2679] at h
        refine mg_Ev.go 2 (pc' := 52) (loc' := [some (.ref 38), some (.int v591)]) (st' := [.int 64, .ref 38]) (w' := (hp u608 fL fD, c, z)) rfl ?_
        obtain ⟨⟨v610, u611⟩, hf2680, h⟩ := Option.bind_eq_some_iff.mp h
        try dsimp only at h
        refine mg_Ev.call (y := 220) (as := [.ref 38, .int 64]) (rest := []) (v := some (.int v610)) (w1 := (hp u611 fL fD, c, z)) rfl rfl (Nat.le_of_ble_eq_true rfl) ((ev_X_take hf2680).deep (by decide)) ?_
        refine mg_Ev.br (P := v610 = 0) (t := 92) (nx := 58) (st' := []) rfl rfl rfl rfl (fun hc2681 => ?_) (fun hc2681 => ?_)
        · rw [if_pos hc2681] at h
          refine mg_Ev.go 1 (pc' := 93) (loc' := [some (.ref 38), some (.int v591)]) (st' := [.int 0]) (w' := (hp u611 fL fD, c, z)) rfl ?_
          cases h
          exact mg_Ev.fin rfl rfl rfl
        · rw [if_neg hc2681] at h
          refine mg_Ev.go 2 (pc' := 60) (loc' := [some (.ref 38), some (.int v591)]) (st' := [.int v591, .ref 38]) (w' := (hp u611 fL fD, c, z)) rfl ?_
          obtain ⟨⟨v645, u646⟩, hf2682, h⟩ := Option.bind_eq_some_iff.mp h
          try dsimp only at h
          refine mg_Ev.call (y := 216) (as := [.ref 38, .int v591]) (rest := []) (v := some (.int v645)) (w1 := (hp u646 fL fD, c, z)) rfl rfl (Nat.le_of_ble_eq_true rfl) ((ev_X_readParts hf2682).deep (by decide)) ?_
          refine mg_Ev.br (P := v645 = 0) (t := 92) (nx := 66) (st' := []) rfl rfl rfl rfl (fun hc2683 => ?_) (fun hc2683 => ?_)
          · rw [if_pos hc2683] at h
            refine mg_Ev.go 1 (pc' := 93) (loc' := [some (.ref 38), some (.int v591)]) (st' := [.int 0]) (w' := (hp u646 fL fD, c, z)) rfl ?_
            cases h
            exact mg_Ev.fin rfl rfl rfl
          · rw [if_neg hc2683] at h
            refine mg_Ev.go 4 (pc' := 71) (loc' := [some (.ref 38), some (.int v591)]) (st' := [.int 2, .int 33, .int v591, .ref 38]) (w' := (hp u646 fL fD, c, z)) rfl ?_
            obtain ⟨⟨v654, u655⟩, hf2684, h⟩ := Option.bind_eq_some_iff.mp h
            try dsimp only at h
            refine mg_Ev.call (y := 217) (as := [.ref 38, .int v591, .int 33, .int 2]) (rest := []) (v := some (.int v654)) (w1 := (hp u655 fL fD, c, z)) rfl rfl (Nat.le_of_ble_eq_true rfl) ((ev_X_readChoice hf2684).deep (by decide)) ?_
            refine mg_Ev.br (P := v654 = 0) (t := 92) (nx := 77) (st' := []) rfl rfl rfl rfl (fun hc2685 => ?_) (fun hc2685 => ?_)
            · rw [if_pos hc2685] at h
              refine mg_Ev.go 1 (pc' := 93) (loc' := [some (.ref 38), some (.int v591)]) (st' := [.int 0]) (w' := (hp u655 fL fD, c, z)) rfl ?_
              cases h
              exact mg_Ev.fin rfl rfl rfl
            · rw [if_neg hc2685] at h
              refine mg_Ev.go 4 (pc' := 82) (loc' := [some (.ref 38), some (.int v591)]) (st' := [.int 3, .int 35, .int v591, .ref 38]) (w' := (hp u655 fL fD, c, z)) rfl ?_
              obtain ⟨⟨v657, u658⟩, hf2686, h⟩ := Option.bind_eq_some_iff.mp h
              try dsimp only at h
              refine mg_Ev.call (y := 217) (as := [.ref 38, .int v591, .int 35, .int 3]) (rest := []) (v := some (.int v657)) (w1 := (hp u658 fL fD, c, z)) rfl rfl (Nat.le_of_ble_eq_true rfl) ((ev_X_readChoice hf2686).deep (by decide)) ?_
              refine mg_Ev.br (P := v657 = 0) (t := 92) (nx := 88) (st' := []) rfl rfl rfl rfl (fun hc2687 => ?_) (fun hc2687 => ?_)
              · rw [if_pos hc2687] at h
                refine mg_Ev.go 1 (pc' := 93) (loc' := [some (.ref 38), some (.int v591)]) (st' := [.int 0]) (w' := (hp u658 fL fD, c, z)) rfl ?_
                cases h
                exact mg_Ev.fin rfl rfl rfl
              · rw [if_neg hc2687] at h
                refine mg_Ev.go 2 (pc' := 93) (loc' := [some (.ref 38), some (.int v591)]) (st' := [.int 1]) (w' := (hp u658 fL fD, c, z)) rfl ?_
                cases h
                exact mg_Ev.fin rfl rfl rfl

def X_readAll_L19 : Nat → Int32 → Int32 → mg_Rg → Option (Int32 × mg_Rg)
  | 0, _, _, _ => none
  | n + 1, x1, x2, u =>
    if 60 ≤ x2 then
    some ((x1, u))
    else
    if x1 = 0 then
      some ((x1, u))
      else
      if (u 37 2) ≤ (u 37 3) then
        some ((x1, u))
        else
        (X_take 59 u).bind fun p665 => match p665 with
          | (v663, u664) =>
            if v663 = 0 then
            X_readAll_L19 n 0 (x2 + 1) u664
            else
            (X_readEntry u664).bind fun p668 => match p668 with
              | (v666, u667) =>
                if v666 = 0 then
                X_readAll_L19 n 0 (x2 + 1) u667
                else
                X_readAll_L19 n 1 (x2 + 1) u667
set_option maxRecDepth 10000 in
set_option maxHeartbeats 4000000 in
theorem ev_X_readAll_L19 {sc : mg_Sc} {c z : Nat} {fL : Nat → Int64} {fD : Nat → UInt64} : ∀ (n : Nat) (x1 : Int32) (x2 : Int32) (u : mg_Rg) (res : Int32 × mg_Rg), X_readAll_L19 n x1 x2 u = some res → ∀ r, (match res with | (y1, yu) => mg_Ev sc 5 213 68 [some (.ref 38), some (.int y1), none] [] (hp yu fL fD, c, z) r) → mg_Ev sc 5 213 19 [some (.ref 38), some (.int x1), some (.int x2)] [] (hp u fL fD, c, z) r := by
  intro n
  induction n with
  | zero => intro x1 x2 u res h; cases h
  | succ n ih =>
    intro x1 x2 u res h r K
    unfold X_readAll_L19 at h
    refine mg_Ev.go 2 (pc' := 22) (loc' := [some (.ref 38), some (.int x1), some (.int x2)]) (st' := [.int 60, .int x2]) (w' := (hp u fL fD, c, z)) rfl ?_
    refine mg_Ev.br (P := 60 ≤ x2) (t := 68) (nx := 25) (st' := []) rfl rfl rfl rfl (fun hc2688 => ?_) (fun hc2688 => ?_)
    · rw [if_pos hc2688] at h
      cases h
      exact mg_Ev.more (loc := [some (.ref 38), some (.int x1), none]) K ⟨rfl, ⟨rfl, trivial⟩⟩
    · rw [if_neg hc2688] at h
      refine mg_Ev.go 1 (pc' := 26) (loc' := [some (.ref 38), some (.int x1), some (.int x2)]) (st' := [.int x1]) (w' := (hp u fL fD, c, z)) rfl ?_
      refine mg_Ev.br (P := x1 = 0) (t := 68) (nx := 29) (st' := []) rfl rfl rfl rfl (fun hc2689 => ?_) (fun hc2689 => ?_)
      · rw [if_pos hc2689] at h
        cases h
        exact mg_Ev.more (loc := [some (.ref 38), some (.int x1), none]) K ⟨rfl, ⟨rfl, trivial⟩⟩
      · rw [if_neg hc2689] at h
        refine mg_Ev.go 4 (pc' := 37) (loc' := [some (.ref 38), some (.int x1), some (.int x2)]) (st' := [.int (u 37 2), .int (u 37 3)]) (w' := (hp u fL fD, c, z)) rfl ?_
        refine mg_Ev.br (P := (u 37 2) ≤ (u 37 3)) (t := 68) (nx := 40) (st' := []) rfl rfl rfl rfl (fun hc2690 => ?_) (fun hc2690 => ?_)
        · rw [if_pos hc2690] at h
          cases h
          exact mg_Ev.more (loc := [some (.ref 38), some (.int x1), none]) K ⟨rfl, ⟨rfl, trivial⟩⟩
        · rw [if_neg hc2690] at h
          refine mg_Ev.go 2 (pc' := 43) (loc' := [some (.ref 38), some (.int x1), some (.int x2)]) (st' := [.int 59, .ref 38]) (w' := (hp u fL fD, c, z)) rfl ?_
          obtain ⟨⟨v663, u664⟩, hf2691, h⟩ := Option.bind_eq_some_iff.mp h
          try dsimp only at h
          refine mg_Ev.call (y := 220) (as := [.ref 38, .int 59]) (rest := []) (v := some (.int v663)) (w1 := (hp u664 fL fD, c, z)) rfl rfl (Nat.le_of_ble_eq_true rfl) ((ev_X_take hf2691).deep (by decide)) ?_
          refine mg_Ev.br (P := v663 = 0) (t := 60) (nx := 49) (st' := []) rfl rfl rfl rfl (fun hc2692 => ?_) (fun hc2692 => ?_)
          · rw [if_pos hc2692] at h
            refine mg_Ev.go 4 (pc' := 19) (loc' := [some (.ref 38), some (.int 0), some (.int (x2 + 1))]) (st' := []) (w' := (hp u664 fL fD, c, z)) rfl ?_
            exact mg_Ev.more (loc := [some (.ref 38), some (.int 0), some (.int (x2 + 1))]) (ih _ _ _ _ h _ K) ⟨rfl, ⟨rfl, ⟨rfl, trivial⟩⟩⟩
          · rw [if_neg hc2692] at h
            refine mg_Ev.go 1 (pc' := 50) (loc' := [some (.ref 38), some (.int x1), some (.int x2)]) (st' := [.ref 38]) (w' := (hp u664 fL fD, c, z)) rfl ?_
            obtain ⟨⟨v666, u667⟩, hf2693, h⟩ := Option.bind_eq_some_iff.mp h
            try dsimp only at h
            refine mg_Ev.call (y := 215) (as := [.ref 38]) (rest := []) (v := some (.int v666)) (w1 := (hp u667 fL fD, c, z)) rfl rfl (Nat.le_of_ble_eq_true rfl) ((ev_X_readEntry hf2693).deep (by decide)) ?_
            refine mg_Ev.br (P := v666 = 0) (t := 60) (nx := 56) (st' := []) rfl rfl rfl rfl (fun hc2694 => ?_) (fun hc2694 => ?_)
            · rw [if_pos hc2694] at h
              refine mg_Ev.go 4 (pc' := 19) (loc' := [some (.ref 38), some (.int 0), some (.int (x2 + 1))]) (st' := []) (w' := (hp u667 fL fD, c, z)) rfl ?_
              exact mg_Ev.more (loc := [some (.ref 38), some (.int 0), some (.int (x2 + 1))]) (ih _ _ _ _ h _ K) ⟨rfl, ⟨rfl, ⟨rfl, trivial⟩⟩⟩
            · rw [if_neg hc2694] at h
              refine mg_Ev.go 5 (pc' := 19) (loc' := [some (.ref 38), some (.int 1), some (.int (x2 + 1))]) (st' := []) (w' := (hp u667 fL fD, c, z)) rfl ?_
              exact mg_Ev.more (loc := [some (.ref 38), some (.int 1), some (.int (x2 + 1))]) (ih _ _ _ _ h _ K) ⟨rfl, ⟨rfl, ⟨rfl, trivial⟩⟩⟩

def X_readAll (u : mg_Rg) : Option (Int32 × mg_Rg) :=
  (T_clear_39 (mg_up u 37 3 0)).bind fun u586 =>
  (X_readEntry u586).bind fun p662 => match p662 with
  | (v660, u661) =>
    (X_readAll_L19 mg_F v660 0 u661).bind fun q2695 => match q2695 with
    | (x669, u670) =>
      if x669 = 0 then
      if x669 = 0 ∨ x669 = 1 then some (x669, (mg_up (mg_up u670 37 4 (u670 37 3)) 37 2 0)) else none
      else
      if x669 = 0 ∨ x669 = 1 then some (x669, (mg_up u670 37 2 0)) else none

set_option maxRecDepth 10000 in
set_option maxHeartbeats 4000000 in
theorem ev_X_readAll {sc : mg_Sc} {c z : Nat} {fL : Nat → Int64} {fD : Nat → UInt64} {u : mg_Rg} {p : Int32 × mg_Rg} (h : X_readAll u = some p) : mg_Ev sc 5 213 0 (mg_entry 213 [.ref 38]) [] (hp u fL fD, c, z) (.inl (some (.int p.1)), (hp p.2 fL fD, c, z)) := by
  unfold X_readAll at h
  show mg_Ev _ _ _ 0 [some (.ref 38), none, none] [] _ _
  refine mg_Ev.go 2 (pc' := 2) (loc' := [some (.ref 38), none, none]) (st' := [.int 0, .ref 38]) (w' := (hp u fL fD, c, z)) rfl ?_
  refine mg_Ev.put rfl (hpg_37 _ _ _) (Nat.le_of_ble_eq_true rfl) rfl (hpf_37_3 _ _ _ _ _ _) ?_
  refine mg_Ev.go 2 (pc' := 9) (loc' := [some (.ref 38), none, none]) (st' := [.ref 40]) (w' := (hp (mg_up u 37 3 0) fL fD, c, z)) rfl ?_
  obtain ⟨u586, hf2696, h⟩ := Option.bind_eq_some_iff.mp h
  refine mg_Ev.call (y := 189) (as := [.ref 40]) (rest := []) (v := none) (w1 := (hp u586 fL fD, c, z)) rfl rfl (Nat.le_of_ble_eq_true rfl) ((ev_T_clear_39 hf2696).deep (by decide)) ?_
  refine mg_Ev.go 1 (pc' := 13) (loc' := [some (.ref 38), none, none]) (st' := [.ref 38]) (w' := (hp u586 fL fD, c, z)) rfl ?_
  obtain ⟨⟨v660, u661⟩, hf2697, h⟩ := Option.bind_eq_some_iff.mp h
  try dsimp only at h
  refine mg_Ev.call (y := 215) (as := [.ref 38]) (rest := []) (v := some (.int v660)) (w1 := (hp u661 fL fD, c, z)) rfl rfl (Nat.le_of_ble_eq_true rfl) ((ev_X_readEntry hf2697).deep (by decide)) ?_
  refine mg_Ev.go 3 (pc' := 19) (loc' := [some (.ref 38), some (.int v660), some (.int 0)]) (st' := []) (w' := (hp u661 fL fD, c, z)) rfl ?_
  obtain ⟨⟨x669, u670⟩, hl2698, h⟩ := Option.bind_eq_some_iff.mp h
  try dsimp only at h
  refine mg_Ev.more (loc := [some (.ref 38), some (.int v660), some (.int 0)]) (ev_X_readAll_L19 _ _ _ _ _ hl2698 _ ?_) ⟨rfl, ⟨rfl, ⟨rfl, trivial⟩⟩⟩
  show mg_Ev _ _ _ 68 [some (.ref 38), some (.int x669), none] [] (hp u670 fL fD, c, z) _
  refine mg_Ev.go 1 (pc' := 69) (loc' := [some (.ref 38), some (.int x669), none]) (st' := [.int x669]) (w' := (hp u670 fL fD, c, z)) rfl ?_
  refine mg_Ev.br (P := x669 = 0) (t := 72) (nx := 80) (st' := []) rfl rfl rfl rfl (fun hc2699 => ?_) (fun hc2699 => ?_)
  · rw [if_pos hc2699] at h
    refine mg_Ev.go 3 (pc' := 77) (loc' := [some (.ref 38), some (.int x669), none]) (st' := [.int (u670 37 3), .ref 38]) (w' := (hp u670 fL fD, c, z)) rfl ?_
    refine mg_Ev.put rfl (hpg_37 _ _ _) (Nat.le_of_ble_eq_true rfl) rfl (hpf_37_4 _ _ _ _ _ _) ?_
    refine mg_Ev.go 2 (pc' := 82) (loc' := [some (.ref 38), some (.int x669), none]) (st' := [.int 0, .ref 38]) (w' := (hp (mg_up u670 37 4 (u670 37 3)) fL fD, c, z)) rfl ?_
    refine mg_Ev.put rfl (hpg_37 _ _ _) (Nat.le_of_ble_eq_true rfl) rfl (hpf_37_2 _ _ _ _ _ _) ?_
    refine mg_Ev.go 1 (pc' := 86) (loc' := [some (.ref 38), some (.int x669), none]) (st' := [.int x669]) (w' := (hp (mg_up (mg_up u670 37 4 (u670 37 3)) 37 2 0) fL fD, c, z)) rfl ?_
    by_cases hz2700 : x669 = 0 ∨ x669 = 1
    · rw [if_pos hz2700] at h
      cases h
      exact mg_Ev.zret rfl rfl rfl hz2700
    · rw [if_neg hz2700] at h
      cases h
  · rw [if_neg hc2699] at h
    refine mg_Ev.go 2 (pc' := 82) (loc' := [some (.ref 38), some (.int x669), none]) (st' := [.int 0, .ref 38]) (w' := (hp u670 fL fD, c, z)) rfl ?_
    refine mg_Ev.put rfl (hpg_37 _ _ _) (Nat.le_of_ble_eq_true rfl) rfl (hpf_37_2 _ _ _ _ _ _) ?_
    refine mg_Ev.go 1 (pc' := 86) (loc' := [some (.ref 38), some (.int x669), none]) (st' := [.int x669]) (w' := (hp (mg_up u670 37 2 0) fL fD, c, z)) rfl ?_
    by_cases hz2701 : x669 = 0 ∨ x669 = 1
    · rw [if_pos hz2701] at h
      cases h
      exact mg_Ev.zret rfl rfl rfl hz2701
    · rw [if_neg hz2701] at h
      cases h

def T_get_39 (a0 : Int32) (a1 : Int32) (u : mg_Rg) : Option (Int32) :=
  if a0 < 0 then
  some 0
  else
  if 8 ≤ a0 then
    some 0
    else
    if a1 < 0 then
      some 0
      else
      if a1 < 13 then
        if ((1 + (a0 * 13)) + a1) < 0 then
          some 0
          else
          if 105 ≤ ((1 + (a0 * 13)) + a1) then
            some 0
            else
            if ((1 + (a0 * 13)) + a1) < 0 ∨ 105 ≤ ((1 + (a0 * 13)) + a1).toNatClampNeg then none else
              some (u 40 (((1 + (a0 * 13)) + a1).toNatClampNeg))
        else
        some 0

set_option maxRecDepth 10000 in
set_option maxHeartbeats 4000000 in
theorem ev_T_get_39 {sc : mg_Sc} {c z : Nat} {fL : Nat → Int64} {fD : Nat → UInt64} {a0 : Int32} {a1 : Int32} {u : mg_Rg} {v : Int32} (h : T_get_39 a0 a1 u = some v) : mg_Ev sc 0 184 0 (mg_entry 184 [.ref 40, .int a0, .int a1]) [] (hp u fL fD, c, z) (.inl (some (.int v)), (hp u fL fD, c, z)) := by
  unfold T_get_39 at h
  show mg_Ev _ _ _ 0 [some (.ref 40), some (.int a0), some (.int a1), none] [] _ _
  refine mg_Ev.go 1 (pc' := 1) (loc' := [some (.ref 40), some (.int a0), some (.int a1), none]) (st' := [.int a0]) (w' := (hp u fL fD, c, z)) rfl ?_
  refine mg_Ev.br (P := a0 < 0) (t := 24) (nx := 4) (st' := []) rfl rfl rfl rfl (fun hc2702 => ?_) (fun hc2702 => ?_)
  · rw [if_pos hc2702] at h
    refine mg_Ev.go 1 (pc' := 25) (loc' := [some (.ref 40), some (.int a0), some (.int a1), none]) (st' := [.int 0]) (w' := (hp u fL fD, c, z)) rfl ?_
    cases h
    exact mg_Ev.fin rfl rfl rfl
  · rw [if_neg hc2702] at h
    refine mg_Ev.go 3 (pc' := 9) (loc' := [some (.ref 40), some (.int a0), some (.int a1), none]) (st' := [.int 8, .int a0]) (w' := (hp u fL fD, c, z)) rfl ?_
    refine mg_Ev.br (P := 8 ≤ a0) (t := 24) (nx := 12) (st' := []) rfl rfl rfl rfl (fun hc2703 => ?_) (fun hc2703 => ?_)
    · rw [if_pos hc2703] at h
      refine mg_Ev.go 1 (pc' := 25) (loc' := [some (.ref 40), some (.int a0), some (.int a1), none]) (st' := [.int 0]) (w' := (hp u fL fD, c, z)) rfl ?_
      cases h
      exact mg_Ev.fin rfl rfl rfl
    · rw [if_neg hc2703] at h
      refine mg_Ev.go 1 (pc' := 13) (loc' := [some (.ref 40), some (.int a0), some (.int a1), none]) (st' := [.int a1]) (w' := (hp u fL fD, c, z)) rfl ?_
      refine mg_Ev.br (P := a1 < 0) (t := 24) (nx := 16) (st' := []) rfl rfl rfl rfl (fun hc2704 => ?_) (fun hc2704 => ?_)
      · rw [if_pos hc2704] at h
        refine mg_Ev.go 1 (pc' := 25) (loc' := [some (.ref 40), some (.int a0), some (.int a1), none]) (st' := [.int 0]) (w' := (hp u fL fD, c, z)) rfl ?_
        cases h
        exact mg_Ev.fin rfl rfl rfl
      · rw [if_neg hc2704] at h
        refine mg_Ev.go 3 (pc' := 21) (loc' := [some (.ref 40), some (.int a0), some (.int a1), none]) (st' := [.int 13, .int a1]) (w' := (hp u fL fD, c, z)) rfl ?_
        refine mg_Ev.br (P := a1 < 13) (t := 26) (nx := 24) (st' := []) rfl rfl rfl rfl (fun hc2705 => ?_) (fun hc2705 => ?_)
        · rw [if_pos hc2705] at h
          refine mg_Ev.go 10 (pc' := 38) (loc' := [some (.ref 40), some (.int a0), some (.int a1), some (.int ((1 + (a0 * 13)) + a1))]) (st' := [.int ((1 + (a0 * 13)) + a1)]) (w' := (hp u fL fD, c, z)) rfl ?_
          refine mg_Ev.br (P := ((1 + (a0 * 13)) + a1) < 0) (t := 59) (nx := 41) (st' := []) rfl rfl rfl rfl (fun hc2706 => ?_) (fun hc2706 => ?_)
          · rw [if_pos hc2706] at h
            refine mg_Ev.go 1 (pc' := 60) (loc' := [some (.ref 40), some (.int a0), some (.int a1), some (.int ((1 + (a0 * 13)) + a1))]) (st' := [.int 0]) (w' := (hp u fL fD, c, z)) rfl ?_
            cases h
            exact mg_Ev.fin rfl rfl rfl
          · rw [if_neg hc2706] at h
            refine mg_Ev.go 4 (pc' := 47) (loc' := [some (.ref 40), some (.int a0), some (.int a1), some (.int ((1 + (a0 * 13)) + a1))]) (st' := [.int 105, .int ((1 + (a0 * 13)) + a1)]) (w' := (hp u fL fD, c, z)) rfl ?_
            refine mg_Ev.br (P := 105 ≤ ((1 + (a0 * 13)) + a1)) (t := 59) (nx := 50) (st' := []) rfl rfl rfl rfl (fun hc2707 => ?_) (fun hc2707 => ?_)
            · rw [if_pos hc2707] at h
              refine mg_Ev.go 1 (pc' := 60) (loc' := [some (.ref 40), some (.int a0), some (.int a1), some (.int ((1 + (a0 * 13)) + a1))]) (st' := [.int 0]) (w' := (hp u fL fD, c, z)) rfl ?_
              cases h
              exact mg_Ev.fin rfl rfl rfl
            · rw [if_neg hc2707] at h
              refine mg_Ev.go 3 (pc' := 55) (loc' := [some (.ref 40), some (.int a0), some (.int a1), some (.int ((1 + (a0 * 13)) + a1))]) (st' := [.int ((1 + (a0 * 13)) + a1), .ref 41]) (w' := (hp u fL fD, c, z)) rfl ?_
              by_cases hb2708 : ((1 + (a0 * 13)) + a1) < 0 ∨ 105 ≤ ((1 + (a0 * 13)) + a1).toNatClampNeg
              · rw [if_pos hb2708] at h
                cases h
              · rw [if_neg hb2708] at h
                refine mg_Ev.iald (a := 40) (n := 105) (f := u 40) rfl (hpg_40 _ _ _) rfl hb2708 ?_
                refine mg_Ev.go 1 (pc' := 60) (loc' := [some (.ref 40), some (.int a0), some (.int a1), some (.int ((1 + (a0 * 13)) + a1))]) (st' := [.int (u 40 (((1 + (a0 * 13)) + a1).toNatClampNeg))]) (w' := (hp u fL fD, c, z)) rfl ?_
                cases h
                exact mg_Ev.fin rfl rfl rfl
        · rw [if_neg hc2705] at h
          refine mg_Ev.go 1 (pc' := 25) (loc' := [some (.ref 40), some (.int a0), some (.int a1), none]) (st' := [.int 0]) (w' := (hp u fL fD, c, z)) rfl ?_
          cases h
          exact mg_Ev.fin rfl rfl rfl

def C_areCodesKnown_L2 : Nat → Int32 → mg_Rg → Option ((Unit) ⊕ (Int32))
  | 0, _, _ => none
  | n + 1, x1, u =>
    (T_count_39 u).bind fun v674 =>
    if v674 ≤ x1 then
    some (.inl ())
    else
    (T_get_39 x1 0 u).bind fun v675 =>
      (Tf_headingWithCode v675 u).bind fun v676 =>
      if v676 = (-1) then
      some (.inr 0)
      else
      C_areCodesKnown_L2 n (x1 + 1) u
set_option maxRecDepth 10000 in
set_option maxHeartbeats 4000000 in
theorem ev_C_areCodesKnown_L2 {sc : mg_Sc} {c z : Nat} {fL : Nat → Int64} {fD : Nat → UInt64} : ∀ (n : Nat) (x1 : Int32) (u : mg_Rg) (res : (Unit) ⊕ (Int32)), C_areCodesKnown_L2 n x1 u = some res → ∀ r, (match res with | .inl _ => mg_Ev sc 3 47 47 [none, none] [] (hp u fL fD, c, z) r | .inr rv => r = (.inl (some (.int rv)), (hp u fL fD, c, z))) → mg_Ev sc 3 47 2 [some (.ref 1), some (.int x1)] [] (hp u fL fD, c, z) r := by
  intro n
  induction n with
  | zero => intro x1 u res h; cases h
  | succ n ih =>
    intro x1 u res h r K
    unfold C_areCodesKnown_L2 at h
    refine mg_Ev.go 4 (pc' := 10) (loc' := [some (.ref 1), some (.int x1)]) (st' := [.ref 40, .int x1]) (w' := (hp u fL fD, c, z)) rfl ?_
    obtain ⟨v674, hf2709, h⟩ := Option.bind_eq_some_iff.mp h
    refine mg_Ev.call (y := 181) (as := [.ref 40]) (rest := [.int x1]) (v := some (.int v674)) (w1 := (hp u fL fD, c, z)) rfl rfl (Nat.le_of_ble_eq_true rfl) ((ev_T_count_39 hf2709).deep (by decide)) ?_
    refine mg_Ev.br (P := v674 ≤ x1) (t := 47) (nx := 16) (st' := []) rfl rfl rfl rfl (fun hc2710 => ?_) (fun hc2710 => ?_)
    · rw [if_pos hc2710] at h
      cases h
      exact mg_Ev.more (loc := [none, none]) K trivial
    · rw [if_neg hc2710] at h
      refine mg_Ev.go 7 (pc' := 29) (loc' := [some (.ref 1), some (.int x1)]) (st' := [.int 0, .int x1, .ref 40, .ref 3]) (w' := (hp u fL fD, c, z)) rfl ?_
      obtain ⟨v675, hf2711, h⟩ := Option.bind_eq_some_iff.mp h
      refine mg_Ev.call (y := 184) (as := [.ref 40, .int x1, .int 0]) (rest := [.ref 3]) (v := some (.int v675)) (w1 := (hp u fL fD, c, z)) rfl rfl (Nat.le_of_ble_eq_true rfl) ((ev_T_get_39 hf2711).deep (by decide)) ?_
      obtain ⟨v676, hf2712, h⟩ := Option.bind_eq_some_iff.mp h
      refine mg_Ev.call (y := 199) (as := [.ref 3, .int v675]) (rest := []) (v := some (.int v676)) (w1 := (hp u fL fD, c, z)) rfl rfl (Nat.le_of_ble_eq_true rfl) ((ev_Tf_headingWithCode hf2712).deep (by decide)) ?_
      refine mg_Ev.go 1 (pc' := 36) (loc' := [some (.ref 1), some (.int x1)]) (st' := [.int (-1), .int v676]) (w' := (hp u fL fD, c, z)) rfl ?_
      refine mg_Ev.br (P := v676 = (-1)) (t := 39) (nx := 41) (st' := []) rfl rfl rfl rfl (fun hc2713 => ?_) (fun hc2713 => ?_)
      · rw [if_pos hc2713] at h
        refine mg_Ev.go 1 (pc' := 40) (loc' := [some (.ref 1), some (.int x1)]) (st' := [.int 0]) (w' := (hp u fL fD, c, z)) rfl ?_
        cases h
        cases K
        exact mg_Ev.fin rfl rfl rfl
      · rw [if_neg hc2713] at h
        refine mg_Ev.go 2 (pc' := 2) (loc' := [some (.ref 1), some (.int (x1 + 1))]) (st' := []) (w' := (hp u fL fD, c, z)) rfl ?_
        exact mg_Ev.more (loc := [some (.ref 1), some (.int (x1 + 1))]) (ih _ _ _ h _ K) ⟨rfl, ⟨rfl, trivial⟩⟩

def C_areCodesKnown (u : mg_Rg) : Option (Int32) :=
  (C_areCodesKnown_L2 mg_F 0 u).bind fun q2714 => match q2714 with
  | .inl _ =>
    some 1
  | .inr v677 =>
    some v677

set_option maxRecDepth 10000 in
set_option maxHeartbeats 4000000 in
theorem ev_C_areCodesKnown {sc : mg_Sc} {c z : Nat} {fL : Nat → Int64} {fD : Nat → UInt64} {u : mg_Rg} {v : Int32} (h : C_areCodesKnown u = some v) : mg_Ev sc 3 47 0 (mg_entry 47 [.ref 1]) [] (hp u fL fD, c, z) (.inl (some (.int v)), (hp u fL fD, c, z)) := by
  unfold C_areCodesKnown at h
  show mg_Ev _ _ _ 0 [some (.ref 1), none] [] _ _
  refine mg_Ev.go 2 (pc' := 2) (loc' := [some (.ref 1), some (.int 0)]) (st' := []) (w' := (hp u fL fD, c, z)) rfl ?_
  obtain ⟨(⟨⟩ | v677), hl2715, h⟩ := Option.bind_eq_some_iff.mp h
  · try dsimp only at h
    refine mg_Ev.more (loc := [some (.ref 1), some (.int 0)]) (ev_C_areCodesKnown_L2 _ _ _ _ hl2715 _ ?_) ⟨rfl, ⟨rfl, trivial⟩⟩
    show mg_Ev _ _ _ 47 [none, none] [] (hp u fL fD, c, z) _
    refine mg_Ev.go 1 (pc' := 48) (loc' := [none, none]) (st' := [.int 1]) (w' := (hp u fL fD, c, z)) rfl ?_
    cases h
    exact mg_Ev.fin rfl rfl rfl
  · try dsimp only at h
    cases h
    refine mg_Ev.more (loc := [some (.ref 1), some (.int 0)]) (ev_C_areCodesKnown_L2 _ _ _ _ hl2715 _ ?_) ⟨rfl, ⟨rfl, trivial⟩⟩
    rfl

def X_partNumber (a0 : Int32) (a1 : Int32) (a2 : Int32) (u : mg_Rg) : Option (Int32) :=
  (X_partColumn a1 a2 u).bind fun v692 =>
  (T_get_39 a0 v692 u).bind fun v693 =>
  some v693

set_option maxRecDepth 10000 in
set_option maxHeartbeats 4000000 in
theorem ev_X_partNumber {sc : mg_Sc} {c z : Nat} {fL : Nat → Int64} {fD : Nat → UInt64} {a0 : Int32} {a1 : Int32} {a2 : Int32} {u : mg_Rg} {v : Int32} (h : X_partNumber a0 a1 a2 u = some v) : mg_Ev sc 1 214 0 (mg_entry 214 [.ref 38, .int a0, .int a1, .int a2]) [] (hp u fL fD, c, z) (.inl (some (.int v)), (hp u fL fD, c, z)) := by
  unfold X_partNumber at h
  show mg_Ev _ _ _ 0 [some (.ref 38), some (.int a0), some (.int a1), some (.int a2)] [] _ _
  refine mg_Ev.go 5 (pc' := 7) (loc' := [some (.ref 38), some (.int a0), some (.int a1), some (.int a2)]) (st' := [.int a2, .int a1, .int a0, .ref 40]) (w' := (hp u fL fD, c, z)) rfl ?_
  obtain ⟨v692, hf2716, h⟩ := Option.bind_eq_some_iff.mp h
  refine mg_Ev.call (y := 223) (as := [.int a1, .int a2]) (rest := [.int a0, .ref 40]) (v := some (.int v692)) (w1 := (hp u fL fD, c, z)) rfl rfl (Nat.le_of_ble_eq_true rfl) ((ev_X_partColumn hf2716).deep (by decide)) ?_
  obtain ⟨v693, hf2717, h⟩ := Option.bind_eq_some_iff.mp h
  refine mg_Ev.call (y := 184) (as := [.ref 40, .int a0, .int v692]) (rest := []) (v := some (.int v693)) (w1 := (hp u fL fD, c, z)) rfl rfl (Nat.le_of_ble_eq_true rfl) ((ev_T_get_39 hf2717).deep (by decide)) ?_
  cases h
  exact mg_Ev.fin rfl rfl rfl

