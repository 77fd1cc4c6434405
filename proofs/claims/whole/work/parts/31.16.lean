def M_reads (a0 : Int32) (u : mg_Rg) : Option (mg_Rg) :=
  (M_here u).bind fun v1475 =>
  if v1475 = a0 then
  if ((u 42 14) ||| 0) = 0 ∨ ((u 42 14) ||| 0) = 1 then
    if ((mg_up u 42 14 ((u 42 14) ||| 0)) 42 14) = 0 then
      some (mg_up (mg_up u 42 14 ((u 42 14) ||| 0)) 42 13 (((mg_up u 42 14 ((u 42 14) ||| 0)) 42 13) + 1))
      else
      some (mg_up (mg_up u 42 14 ((u 42 14) ||| 0)) 42 13 (((mg_up u 42 14 ((u 42 14) ||| 0)) 42 13) + 0))
    else none
  else
  if ((u 42 14) ||| 1) = 0 ∨ ((u 42 14) ||| 1) = 1 then
    if ((mg_up u 42 14 ((u 42 14) ||| 1)) 42 14) = 0 then
      some (mg_up (mg_up u 42 14 ((u 42 14) ||| 1)) 42 13 (((mg_up u 42 14 ((u 42 14) ||| 1)) 42 13) + 1))
      else
      some (mg_up (mg_up u 42 14 ((u 42 14) ||| 1)) 42 13 (((mg_up u 42 14 ((u 42 14) ||| 1)) 42 13) + 0))
    else none

set_option maxRecDepth 10000 in
set_option maxHeartbeats 4000000 in
theorem ev_M_reads {sc : mg_Sc} {c z : Nat} {fL : Nat → Int64} {fD : Nat → UInt64} {a0 : Int32} {u : mg_Rg} {v : mg_Rg} (h : M_reads a0 u = some v) : mg_Ev sc 1 129 0 (mg_entry 129 [.ref 43, .int a0]) [] (hp u fL fD, c, z) (.inl none, (hp v fL fD, c, z)) := by
  unfold M_reads at h
  show mg_Ev _ _ _ 0 [some (.ref 43), some (.int a0)] [] _ _
  refine mg_Ev.go 4 (pc' := 6) (loc' := [some (.ref 43), some (.int a0)]) (st' := [.ref 43, .int (u 42 14), .ref 43]) (w' := (hp u fL fD, c, z)) rfl ?_
  obtain ⟨v1475, hf3672, h⟩ := Option.bind_eq_some_iff.mp h
  refine mg_Ev.call (y := 128) (as := [.ref 43]) (rest := [.int (u 42 14), .ref 43]) (v := some (.int v1475)) (w1 := (hp u fL fD, c, z)) rfl rfl (Nat.le_of_ble_eq_true rfl) ((ev_M_here hf3672).deep (by decide)) ?_
  refine mg_Ev.go 1 (pc' := 10) (loc' := [some (.ref 43), some (.int a0)]) (st' := [.int a0, .int v1475, .int (u 42 14), .ref 43]) (w' := (hp u fL fD, c, z)) rfl ?_
  refine mg_Ev.br (P := v1475 = a0) (t := 17) (nx := 13) (st' := [.int (u 42 14), .ref 43]) rfl rfl rfl rfl (fun hc3673 => ?_) (fun hc3673 => ?_)
  · rw [if_pos hc3673] at h
    refine mg_Ev.go 2 (pc' := 19) (loc' := [some (.ref 43), some (.int a0)]) (st' := [.int ((u 42 14) ||| 0), .ref 43]) (w' := (hp u fL fD, c, z)) rfl ?_
    by_cases hb3674 : ((u 42 14) ||| 0) = 0 ∨ ((u 42 14) ||| 0) = 1
    · rw [if_pos hb3674] at h
      refine mg_Ev.putb rfl (hpg_42 _ _ _) (Nat.le_of_ble_eq_true rfl) rfl hb3674 (hpf_42_14 _ _ _ _ _ _) ?_
      refine mg_Ev.go 5 (pc' := 31) (loc' := [some (.ref 43), some (.int a0)]) (st' := [.int ((mg_up u 42 14 ((u 42 14) ||| 0)) 42 14), .int ((mg_up u 42 14 ((u 42 14) ||| 0)) 42 13), .ref 43]) (w' := (hp (mg_up u 42 14 ((u 42 14) ||| 0)) fL fD, c, z)) rfl ?_
      refine mg_Ev.br (P := ((mg_up u 42 14 ((u 42 14) ||| 0)) 42 14) = 0) (t := 38) (nx := 34) (st' := [.int ((mg_up u 42 14 ((u 42 14) ||| 0)) 42 13), .ref 43]) rfl rfl rfl rfl (fun hc3675 => ?_) (fun hc3675 => ?_)
      · rw [if_pos hc3675] at h
        refine mg_Ev.go 2 (pc' := 40) (loc' := [some (.ref 43), some (.int a0)]) (st' := [.int (((mg_up u 42 14 ((u 42 14) ||| 0)) 42 13) + 1), .ref 43]) (w' := (hp (mg_up u 42 14 ((u 42 14) ||| 0)) fL fD, c, z)) rfl ?_
        refine mg_Ev.put rfl (hpg_42 _ _ _) (Nat.le_of_ble_eq_true rfl) rfl (hpf_42_13 _ _ _ _ _ _) ?_
        cases h
        exact mg_Ev.fin rfl rfl rfl
      · rw [if_neg hc3675] at h
        refine mg_Ev.go 3 (pc' := 40) (loc' := [some (.ref 43), some (.int a0)]) (st' := [.int (((mg_up u 42 14 ((u 42 14) ||| 0)) 42 13) + 0), .ref 43]) (w' := (hp (mg_up u 42 14 ((u 42 14) ||| 0)) fL fD, c, z)) rfl ?_
        refine mg_Ev.put rfl (hpg_42 _ _ _) (Nat.le_of_ble_eq_true rfl) rfl (hpf_42_13 _ _ _ _ _ _) ?_
        cases h
        exact mg_Ev.fin rfl rfl rfl
    · rw [if_neg hb3674] at h
      cases h
  · rw [if_neg hc3673] at h
    refine mg_Ev.go 3 (pc' := 19) (loc' := [some (.ref 43), some (.int a0)]) (st' := [.int ((u 42 14) ||| 1), .ref 43]) (w' := (hp u fL fD, c, z)) rfl ?_
    by_cases hb3676 : ((u 42 14) ||| 1) = 0 ∨ ((u 42 14) ||| 1) = 1
    · rw [if_pos hb3676] at h
      refine mg_Ev.putb rfl (hpg_42 _ _ _) (Nat.le_of_ble_eq_true rfl) rfl hb3676 (hpf_42_14 _ _ _ _ _ _) ?_
      refine mg_Ev.go 5 (pc' := 31) (loc' := [some (.ref 43), some (.int a0)]) (st' := [.int ((mg_up u 42 14 ((u 42 14) ||| 1)) 42 14), .int ((mg_up u 42 14 ((u 42 14) ||| 1)) 42 13), .ref 43]) (w' := (hp (mg_up u 42 14 ((u 42 14) ||| 1)) fL fD, c, z)) rfl ?_
      refine mg_Ev.br (P := ((mg_up u 42 14 ((u 42 14) ||| 1)) 42 14) = 0) (t := 38) (nx := 34) (st' := [.int ((mg_up u 42 14 ((u 42 14) ||| 1)) 42 13), .ref 43]) rfl rfl rfl rfl (fun hc3677 => ?_) (fun hc3677 => ?_)
      · rw [if_pos hc3677] at h
        refine mg_Ev.go 2 (pc' := 40) (loc' := [some (.ref 43), some (.int a0)]) (st' := [.int (((mg_up u 42 14 ((u 42 14) ||| 1)) 42 13) + 1), .ref 43]) (w' := (hp (mg_up u 42 14 ((u 42 14) ||| 1)) fL fD, c, z)) rfl ?_
        refine mg_Ev.put rfl (hpg_42 _ _ _) (Nat.le_of_ble_eq_true rfl) rfl (hpf_42_13 _ _ _ _ _ _) ?_
        cases h
        exact mg_Ev.fin rfl rfl rfl
      · rw [if_neg hc3677] at h
        refine mg_Ev.go 3 (pc' := 40) (loc' := [some (.ref 43), some (.int a0)]) (st' := [.int (((mg_up u 42 14 ((u 42 14) ||| 1)) 42 13) + 0), .ref 43]) (w' := (hp (mg_up u 42 14 ((u 42 14) ||| 1)) fL fD, c, z)) rfl ?_
        refine mg_Ev.put rfl (hpg_42 _ _ _) (Nat.le_of_ble_eq_true rfl) rfl (hpf_42_13 _ _ _ _ _ _) ?_
        cases h
        exact mg_Ev.fin rfl rfl rfl
    · rw [if_neg hb3676] at h
      cases h

def M_readsDigit (a0 : Int32) (a1 : Int32) (u : mg_Rg) : Option (Int32 × mg_Rg) :=
  (M_here u).bind fun v1476 =>
  (M_in v1476 a0 a1 u).bind fun v1477 =>
  if v1477 = 0 then
  if ((u 42 14) ||| 1) = 0 ∨ ((u 42 14) ||| 1) = 1 then
    if ((mg_up u 42 14 ((u 42 14) ||| 1)) 42 14) = 0 then
      (M_here (mg_up u 42 14 ((u 42 14) ||| 1))).bind fun v1478 =>
        if ((mg_up u 42 14 ((u 42 14) ||| 1)) 42 14) = 0 then
        some ((v1478 - 48), (mg_up (mg_up u 42 14 ((u 42 14) ||| 1)) 42 13 (((mg_up u 42 14 ((u 42 14) ||| 1)) 42 13) + 1)))
        else
        some ((v1478 - 48), (mg_up (mg_up u 42 14 ((u 42 14) ||| 1)) 42 13 (((mg_up u 42 14 ((u 42 14) ||| 1)) 42 13) + 0)))
      else
      if ((mg_up u 42 14 ((u 42 14) ||| 1)) 42 14) = 0 then
        some (0, (mg_up (mg_up u 42 14 ((u 42 14) ||| 1)) 42 13 (((mg_up u 42 14 ((u 42 14) ||| 1)) 42 13) + 1)))
        else
        some (0, (mg_up (mg_up u 42 14 ((u 42 14) ||| 1)) 42 13 (((mg_up u 42 14 ((u 42 14) ||| 1)) 42 13) + 0)))
    else none
  else
  if ((u 42 14) ||| 0) = 0 ∨ ((u 42 14) ||| 0) = 1 then
    if ((mg_up u 42 14 ((u 42 14) ||| 0)) 42 14) = 0 then
      (M_here (mg_up u 42 14 ((u 42 14) ||| 0))).bind fun v1479 =>
        if ((mg_up u 42 14 ((u 42 14) ||| 0)) 42 14) = 0 then
        some ((v1479 - 48), (mg_up (mg_up u 42 14 ((u 42 14) ||| 0)) 42 13 (((mg_up u 42 14 ((u 42 14) ||| 0)) 42 13) + 1)))
        else
        some ((v1479 - 48), (mg_up (mg_up u 42 14 ((u 42 14) ||| 0)) 42 13 (((mg_up u 42 14 ((u 42 14) ||| 0)) 42 13) + 0)))
      else
      if ((mg_up u 42 14 ((u 42 14) ||| 0)) 42 14) = 0 then
        some (0, (mg_up (mg_up u 42 14 ((u 42 14) ||| 0)) 42 13 (((mg_up u 42 14 ((u 42 14) ||| 0)) 42 13) + 1)))
        else
        some (0, (mg_up (mg_up u 42 14 ((u 42 14) ||| 0)) 42 13 (((mg_up u 42 14 ((u 42 14) ||| 0)) 42 13) + 0)))
    else none

set_option maxRecDepth 10000 in
set_option maxHeartbeats 4000000 in
theorem ev_M_readsDigit {sc : mg_Sc} {c z : Nat} {fL : Nat → Int64} {fD : Nat → UInt64} {a0 : Int32} {a1 : Int32} {u : mg_Rg} {p : Int32 × mg_Rg} (h : M_readsDigit a0 a1 u = some p) : mg_Ev sc 1 130 0 (mg_entry 130 [.ref 43, .int a0, .int a1]) [] (hp u fL fD, c, z) (.inl (some (.int p.1)), (hp p.2 fL fD, c, z)) := by
  unfold M_readsDigit at h
  show mg_Ev _ _ _ 0 [some (.ref 43), some (.int a0), some (.int a1), none] [] _ _
  refine mg_Ev.go 4 (pc' := 6) (loc' := [some (.ref 43), some (.int a0), some (.int a1), none]) (st' := [.ref 43, .int (u 42 14), .ref 43]) (w' := (hp u fL fD, c, z)) rfl ?_
  obtain ⟨v1476, hf3678, h⟩ := Option.bind_eq_some_iff.mp h
  refine mg_Ev.call (y := 128) (as := [.ref 43]) (rest := [.int (u 42 14), .ref 43]) (v := some (.int v1476)) (w1 := (hp u fL fD, c, z)) rfl rfl (Nat.le_of_ble_eq_true rfl) ((ev_M_here hf3678).deep (by decide)) ?_
  refine mg_Ev.go 2 (pc' := 11) (loc' := [some (.ref 43), some (.int a0), some (.int a1), none]) (st' := [.int a1, .int a0, .int v1476, .int (u 42 14), .ref 43]) (w' := (hp u fL fD, c, z)) rfl ?_
  obtain ⟨v1477, hf3679, h⟩ := Option.bind_eq_some_iff.mp h
  refine mg_Ev.call (y := 58) (as := [.int v1476, .int a0, .int a1]) (rest := [.int (u 42 14), .ref 43]) (v := some (.int v1477)) (w1 := (hp u fL fD, c, z)) rfl rfl (Nat.le_of_ble_eq_true rfl) ((ev_M_in hf3679).deep (by decide)) ?_
  refine mg_Ev.br (P := v1477 = 0) (t := 17) (nx := 21) (st' := [.int (u 42 14), .ref 43]) rfl rfl rfl rfl (fun hc3680 => ?_) (fun hc3680 => ?_)
  · rw [if_pos hc3680] at h
    refine mg_Ev.go 3 (pc' := 23) (loc' := [some (.ref 43), some (.int a0), some (.int a1), none]) (st' := [.int ((u 42 14) ||| 1), .ref 43]) (w' := (hp u fL fD, c, z)) rfl ?_
    by_cases hb3681 : ((u 42 14) ||| 1) = 0 ∨ ((u 42 14) ||| 1) = 1
    · rw [if_pos hb3681] at h
      refine mg_Ev.putb rfl (hpg_42 _ _ _) (Nat.le_of_ble_eq_true rfl) rfl hb3681 (hpf_42_14 _ _ _ _ _ _) ?_
      refine mg_Ev.go 2 (pc' := 30) (loc' := [some (.ref 43), some (.int a0), some (.int a1), none]) (st' := [.int ((mg_up u 42 14 ((u 42 14) ||| 1)) 42 14)]) (w' := (hp (mg_up u 42 14 ((u 42 14) ||| 1)) fL fD, c, z)) rfl ?_
      refine mg_Ev.br (P := ((mg_up u 42 14 ((u 42 14) ||| 1)) 42 14) = 0) (t := 37) (nx := 33) (st' := []) rfl rfl rfl rfl (fun hc3682 => ?_) (fun hc3682 => ?_)
      · rw [if_pos hc3682] at h
        refine mg_Ev.go 1 (pc' := 38) (loc' := [some (.ref 43), some (.int a0), some (.int a1), none]) (st' := [.ref 43]) (w' := (hp (mg_up u 42 14 ((u 42 14) ||| 1)) fL fD, c, z)) rfl ?_
        obtain ⟨v1478, hf3683, h⟩ := Option.bind_eq_some_iff.mp h
        refine mg_Ev.call (y := 128) (as := [.ref 43]) (rest := []) (v := some (.int v1478)) (w1 := (hp (mg_up u 42 14 ((u 42 14) ||| 1)) fL fD, c, z)) rfl rfl (Nat.le_of_ble_eq_true rfl) ((ev_M_here hf3683).deep (by decide)) ?_
        refine mg_Ev.go 8 (pc' := 54) (loc' := [some (.ref 43), some (.int a0), some (.int a1), some (.int (v1478 - 48))]) (st' := [.int ((mg_up u 42 14 ((u 42 14) ||| 1)) 42 14), .int ((mg_up u 42 14 ((u 42 14) ||| 1)) 42 13), .ref 43]) (w' := (hp (mg_up u 42 14 ((u 42 14) ||| 1)) fL fD, c, z)) rfl ?_
        refine mg_Ev.br (P := ((mg_up u 42 14 ((u 42 14) ||| 1)) 42 14) = 0) (t := 61) (nx := 57) (st' := [.int ((mg_up u 42 14 ((u 42 14) ||| 1)) 42 13), .ref 43]) rfl rfl rfl rfl (fun hc3684 => ?_) (fun hc3684 => ?_)
        · rw [if_pos hc3684] at h
          refine mg_Ev.go 2 (pc' := 63) (loc' := [some (.ref 43), some (.int a0), some (.int a1), some (.int (v1478 - 48))]) (st' := [.int (((mg_up u 42 14 ((u 42 14) ||| 1)) 42 13) + 1), .ref 43]) (w' := (hp (mg_up u 42 14 ((u 42 14) ||| 1)) fL fD, c, z)) rfl ?_
          refine mg_Ev.put rfl (hpg_42 _ _ _) (Nat.le_of_ble_eq_true rfl) rfl (hpf_42_13 _ _ _ _ _ _) ?_
          refine mg_Ev.go 1 (pc' := 67) (loc' := [some (.ref 43), some (.int a0), some (.int a1), some (.int (v1478 - 48))]) (st' := [.int (v1478 - 48)]) (w' := (hp (mg_up (mg_up u 42 14 ((u 42 14) ||| 1)) 42 13 (((mg_up u 42 14 ((u 42 14) ||| 1)) 42 13) + 1)) fL fD, c, z)) rfl ?_
          cases h
          exact mg_Ev.fin rfl rfl rfl
        · rw [if_neg hc3684] at h
          refine mg_Ev.go 3 (pc' := 63) (loc' := [some (.ref 43), some (.int a0), some (.int a1), some (.int (v1478 - 48))]) (st' := [.int (((mg_up u 42 14 ((u 42 14) ||| 1)) 42 13) + 0), .ref 43]) (w' := (hp (mg_up u 42 14 ((u 42 14) ||| 1)) fL fD, c, z)) rfl ?_
          refine mg_Ev.put rfl (hpg_42 _ _ _) (Nat.le_of_ble_eq_true rfl) rfl (hpf_42_13 _ _ _ _ _ _) ?_
          refine mg_Ev.go 1 (pc' := 67) (loc' := [some (.ref 43), some (.int a0), some (.int a1), some (.int (v1478 - 48))]) (st' := [.int (v1478 - 48)]) (w' := (hp (mg_up (mg_up u 42 14 ((u 42 14) ||| 1)) 42 13 (((mg_up u 42 14 ((u 42 14) ||| 1)) 42 13) + 0)) fL fD, c, z)) rfl ?_
          cases h
          exact mg_Ev.fin rfl rfl rfl
      · rw [if_neg hc3682] at h
        refine mg_Ev.go 8 (pc' := 54) (loc' := [some (.ref 43), some (.int a0), some (.int a1), some (.int 0)]) (st' := [.int ((mg_up u 42 14 ((u 42 14) ||| 1)) 42 14), .int ((mg_up u 42 14 ((u 42 14) ||| 1)) 42 13), .ref 43]) (w' := (hp (mg_up u 42 14 ((u 42 14) ||| 1)) fL fD, c, z)) rfl ?_
        refine mg_Ev.br (P := ((mg_up u 42 14 ((u 42 14) ||| 1)) 42 14) = 0) (t := 61) (nx := 57) (st' := [.int ((mg_up u 42 14 ((u 42 14) ||| 1)) 42 13), .ref 43]) rfl rfl rfl rfl (fun hc3685 => ?_) (fun hc3685 => ?_)
        · rw [if_pos hc3685] at h
          refine mg_Ev.go 2 (pc' := 63) (loc' := [some (.ref 43), some (.int a0), some (.int a1), some (.int 0)]) (st' := [.int (((mg_up u 42 14 ((u 42 14) ||| 1)) 42 13) + 1), .ref 43]) (w' := (hp (mg_up u 42 14 ((u 42 14) ||| 1)) fL fD, c, z)) rfl ?_
          refine mg_Ev.put rfl (hpg_42 _ _ _) (Nat.le_of_ble_eq_true rfl) rfl (hpf_42_13 _ _ _ _ _ _) ?_
          refine mg_Ev.go 1 (pc' := 67) (loc' := [some (.ref 43), some (.int a0), some (.int a1), some (.int 0)]) (st' := [.int 0]) (w' := (hp (mg_up (mg_up u 42 14 ((u 42 14) ||| 1)) 42 13 (((mg_up u 42 14 ((u 42 14) ||| 1)) 42 13) + 1)) fL fD, c, z)) rfl ?_
          cases h
          exact mg_Ev.fin rfl rfl rfl
        · rw [if_neg hc3685] at h
          refine mg_Ev.go 3 (pc' := 63) (loc' := [some (.ref 43), some (.int a0), some (.int a1), some (.int 0)]) (st' := [.int (((mg_up u 42 14 ((u 42 14) ||| 1)) 42 13) + 0), .ref 43]) (w' := (hp (mg_up u 42 14 ((u 42 14) ||| 1)) fL fD, c, z)) rfl ?_
          refine mg_Ev.put rfl (hpg_42 _ _ _) (Nat.le_of_ble_eq_true rfl) rfl (hpf_42_13 _ _ _ _ _ _) ?_
          refine mg_Ev.go 1 (pc' := 67) (loc' := [some (.ref 43), some (.int a0), some (.int a1), some (.int 0)]) (st' := [.int 0]) (w' := (hp (mg_up (mg_up u 42 14 ((u 42 14) ||| 1)) 42 13 (((mg_up u 42 14 ((u 42 14) ||| 1)) 42 13) + 0)) fL fD, c, z)) rfl ?_
          cases h
          exact mg_Ev.fin rfl rfl rfl
    · rw [if_neg hb3681] at h
      cases h
  · rw [if_neg hc3680] at h
    refine mg_Ev.go 2 (pc' := 23) (loc' := [some (.ref 43), some (.int a0), some (.int a1), none]) (st' := [.int ((u 42 14) ||| 0), .ref 43]) (w' := (hp u fL fD, c, z)) rfl ?_
    by_cases hb3686 : ((u 42 14) ||| 0) = 0 ∨ ((u 42 14) ||| 0) = 1
    · rw [if_pos hb3686] at h
      refine mg_Ev.putb rfl (hpg_42 _ _ _) (Nat.le_of_ble_eq_true rfl) rfl hb3686 (hpf_42_14 _ _ _ _ _ _) ?_
      refine mg_Ev.go 2 (pc' := 30) (loc' := [some (.ref 43), some (.int a0), some (.int a1), none]) (st' := [.int ((mg_up u 42 14 ((u 42 14) ||| 0)) 42 14)]) (w' := (hp (mg_up u 42 14 ((u 42 14) ||| 0)) fL fD, c, z)) rfl ?_
      refine mg_Ev.br (P := ((mg_up u 42 14 ((u 42 14) ||| 0)) 42 14) = 0) (t := 37) (nx := 33) (st' := []) rfl rfl rfl rfl (fun hc3687 => ?_) (fun hc3687 => ?_)
      · rw [if_pos hc3687] at h
        refine mg_Ev.go 1 (pc' := 38) (loc' := [some (.ref 43), some (.int a0), some (.int a1), none]) (st' := [.ref 43]) (w' := (hp (mg_up u 42 14 ((u 42 14) ||| 0)) fL fD, c, z)) rfl ?_
        obtain ⟨v1479, hf3688, h⟩ := Option.bind_eq_some_iff.mp h
        refine mg_Ev.call (y := 128) (as := [.ref 43]) (rest := []) (v := some (.int v1479)) (w1 := (hp (mg_up u 42 14 ((u 42 14) ||| 0)) fL fD, c, z)) rfl rfl (Nat.le_of_ble_eq_true rfl) ((ev_M_here hf3688).deep (by decide)) ?_
        refine mg_Ev.go 8 (pc' := 54) (loc' := [some (.ref 43), some (.int a0), some (.int a1), some (.int (v1479 - 48))]) (st' := [.int ((mg_up u 42 14 ((u 42 14) ||| 0)) 42 14), .int ((mg_up u 42 14 ((u 42 14) ||| 0)) 42 13), .ref 43]) (w' := (hp (mg_up u 42 14 ((u 42 14) ||| 0)) fL fD, c, z)) rfl ?_
        refine mg_Ev.br (P := ((mg_up u 42 14 ((u 42 14) ||| 0)) 42 14) = 0) (t := 61) (nx := 57) (st' := [.int ((mg_up u 42 14 ((u 42 14) ||| 0)) 42 13), .ref 43]) rfl rfl rfl rfl (fun hc3689 => ?_) (fun hc3689 => ?_)
        · rw [if_pos hc3689] at h
          refine mg_Ev.go 2 (pc' := 63) (loc' := [some (.ref 43), some (.int a0), some (.int a1), some (.int (v1479 - 48))]) (st' := [.int (((mg_up u 42 14 ((u 42 14) ||| 0)) 42 13) + 1), .ref 43]) (w' := (hp (mg_up u 42 14 ((u 42 14) ||| 0)) fL fD, c, z)) rfl ?_
          refine mg_Ev.put rfl (hpg_42 _ _ _) (Nat.le_of_ble_eq_true rfl) rfl (hpf_42_13 _ _ _ _ _ _) ?_
          refine mg_Ev.go 1 (pc' := 67) (loc' := [some (.ref 43), some (.int a0), some (.int a1), some (.int (v1479 - 48))]) (st' := [.int (v1479 - 48)]) (w' := (hp (mg_up (mg_up u 42 14 ((u 42 14) ||| 0)) 42 13 (((mg_up u 42 14 ((u 42 14) ||| 0)) 42 13) + 1)) fL fD, c, z)) rfl ?_
          cases h
          exact mg_Ev.fin rfl rfl rfl
        · rw [if_neg hc3689] at h
          refine mg_Ev.go 3 (pc' := 63) (loc' := [some (.ref 43), some (.int a0), some (.int a1), some (.int (v1479 - 48))]) (st' := [.int (((mg_up u 42 14 ((u 42 14) ||| 0)) 42 13) + 0), .ref 43]) (w' := (hp (mg_up u 42 14 ((u 42 14) ||| 0)) fL fD, c, z)) rfl ?_
          refine mg_Ev.put rfl (hpg_42 _ _ _) (Nat.le_of_ble_eq_true rfl) rfl (hpf_42_13 _ _ _ _ _ _) ?_
          refine mg_Ev.go 1 (pc' := 67) (loc' := [some (.ref 43), some (.int a0), some (.int a1), some (.int (v1479 - 48))]) (st' := [.int (v1479 - 48)]) (w' := (hp (mg_up (mg_up u 42 14 ((u 42 14) ||| 0)) 42 13 (((mg_up u 42 14 ((u 42 14) ||| 0)) 42 13) + 0)) fL fD, c, z)) rfl ?_
          cases h
          exact mg_Ev.fin rfl rfl rfl
      · rw [if_neg hc3687] at h
        refine mg_Ev.go 8 (pc' := 54) (loc' := [some (.ref 43), some (.int a0), some (.int a1), some (.int 0)]) (st' := [.int ((mg_up u 42 14 ((u 42 14) ||| 0)) 42 14), .int ((mg_up u 42 14 ((u 42 14) ||| 0)) 42 13), .ref 43]) (w' := (hp (mg_up u 42 14 ((u 42 14) ||| 0)) fL fD, c, z)) rfl ?_
        refine mg_Ev.br (P := ((mg_up u 42 14 ((u 42 14) ||| 0)) 42 14) = 0) (t := 61) (nx := 57) (st' := [.int ((mg_up u 42 14 ((u 42 14) ||| 0)) 42 13), .ref 43]) rfl rfl rfl rfl (fun hc3690 => ?_) (fun hc3690 => ?_)
        · rw [if_pos hc3690] at h
          refine mg_Ev.go 2 (pc' := 63) (loc' := [some (.ref 43), some (.int a0), some (.int a1), some (.int 0)]) (st' := [.int (((mg_up u 42 14 ((u 42 14) ||| 0)) 42 13) + 1), .ref 43]) (w' := (hp (mg_up u 42 14 ((u 42 14) ||| 0)) fL fD, c, z)) rfl ?_
          refine mg_Ev.put rfl (hpg_42 _ _ _) (Nat.le_of_ble_eq_true rfl) rfl (hpf_42_13 _ _ _ _ _ _) ?_
          refine mg_Ev.go 1 (pc' := 67) (loc' := [some (.ref 43), some (.int a0), some (.int a1), some (.int 0)]) (st' := [.int 0]) (w' := (hp (mg_up (mg_up u 42 14 ((u 42 14) ||| 0)) 42 13 (((mg_up u 42 14 ((u 42 14) ||| 0)) 42 13) + 1)) fL fD, c, z)) rfl ?_
          cases h
          exact mg_Ev.fin rfl rfl rfl
        · rw [if_neg hc3690] at h
          refine mg_Ev.go 3 (pc' := 63) (loc' := [some (.ref 43), some (.int a0), some (.int a1), some (.int 0)]) (st' := [.int (((mg_up u 42 14 ((u 42 14) ||| 0)) 42 13) + 0), .ref 43]) (w' := (hp (mg_up u 42 14 ((u 42 14) ||| 0)) fL fD, c, z)) rfl ?_
          refine mg_Ev.put rfl (hpg_42 _ _ _) (Nat.le_of_ble_eq_true rfl) rfl (hpf_42_13 _ _ _ _ _ _) ?_
          refine mg_Ev.go 1 (pc' := 67) (loc' := [some (.ref 43), some (.int a0), some (.int a1), some (.int 0)]) (st' := [.int 0]) (w' := (hp (mg_up (mg_up u 42 14 ((u 42 14) ||| 0)) 42 13 (((mg_up u 42 14 ((u 42 14) ||| 0)) 42 13) + 0)) fL fD, c, z)) rfl ?_
          cases h
          exact mg_Ev.fin rfl rfl rfl
    · rw [if_neg hb3686] at h
      cases h

def M_readsCode_L11 : Nat → Int32 → Int32 → mg_Rg → Option (Int32 × mg_Rg)
  | 0, _, _, _ => none
  | n + 1, x1, x2, u =>
    if (u 42 14) = 0 then
    if 4 ≤ x2 then
      some ((x1, u))
      else
      (M_here u).bind fun v1483 =>
        (M_in v1483 49 57 u).bind fun v1484 =>
        if v1484 = 0 then
        some ((x1, u))
        else
        (M_readsDigit 49 57 u).bind fun p1487 => match p1487 with
          | (v1485, u1486) =>
            M_readsCode_L11 n ((10 * x1) + v1485) (x2 + 1) u1486
    else
    some ((x1, u))
set_option maxRecDepth 10000 in
set_option maxHeartbeats 4000000 in
theorem ev_M_readsCode_L11 {sc : mg_Sc} {c z : Nat} {fL : Nat → Int64} {fD : Nat → UInt64} : ∀ (n : Nat) (x1 : Int32) (x2 : Int32) (u : mg_Rg) (res : Int32 × mg_Rg), M_readsCode_L11 n x1 x2 u = some res → ∀ r, (match res with | (y1, yu) => mg_Ev sc 2 131 57 [none, some (.int y1), none] [] (hp yu fL fD, c, z) r) → mg_Ev sc 2 131 11 [some (.ref 43), some (.int x1), some (.int x2)] [] (hp u fL fD, c, z) r := by
  intro n
  induction n with
  | zero => intro x1 x2 u res h; cases h
  | succ n ih =>
    intro x1 x2 u res h r K
    unfold M_readsCode_L11 at h
    refine mg_Ev.go 2 (pc' := 15) (loc' := [some (.ref 43), some (.int x1), some (.int x2)]) (st' := [.int (u 42 14)]) (w' := (hp u fL fD, c, z)) rfl ?_
    refine mg_Ev.br (P := (u 42 14) = 0) (t := 18) (nx := 57) (st' := []) rfl rfl rfl rfl (fun hc3691 => ?_) (fun hc3691 => ?_)
    · rw [if_pos hc3691] at h
      refine mg_Ev.go 2 (pc' := 20) (loc' := [some (.ref 43), some (.int x1), some (.int x2)]) (st' := [.int 4, .int x2]) (w' := (hp u fL fD, c, z)) rfl ?_
      refine mg_Ev.br (P := 4 ≤ x2) (t := 57) (nx := 23) (st' := []) rfl rfl rfl rfl (fun hc3692 => ?_) (fun hc3692 => ?_)
      · rw [if_pos hc3692] at h
        cases h
        exact mg_Ev.more (loc := [none, some (.int x1), none]) K ⟨rfl, trivial⟩
      · rw [if_neg hc3692] at h
        refine mg_Ev.go 1 (pc' := 24) (loc' := [some (.ref 43), some (.int x1), some (.int x2)]) (st' := [.ref 43]) (w' := (hp u fL fD, c, z)) rfl ?_
        obtain ⟨v1483, hf3693, h⟩ := Option.bind_eq_some_iff.mp h
        refine mg_Ev.call (y := 128) (as := [.ref 43]) (rest := []) (v := some (.int v1483)) (w1 := (hp u fL fD, c, z)) rfl rfl (Nat.le_of_ble_eq_true rfl) ((ev_M_here hf3693).deep (by decide)) ?_
        refine mg_Ev.go 2 (pc' := 31) (loc' := [some (.ref 43), some (.int x1), some (.int x2)]) (st' := [.int 57, .int 49, .int v1483]) (w' := (hp u fL fD, c, z)) rfl ?_
        obtain ⟨v1484, hf3694, h⟩ := Option.bind_eq_some_iff.mp h
        refine mg_Ev.call (y := 58) (as := [.int v1483, .int 49, .int 57]) (rest := []) (v := some (.int v1484)) (w1 := (hp u fL fD, c, z)) rfl rfl (Nat.le_of_ble_eq_true rfl) ((ev_M_in hf3694).deep (by decide)) ?_
        refine mg_Ev.br (P := v1484 = 0) (t := 57) (nx := 37) (st' := []) rfl rfl rfl rfl (fun hc3695 => ?_) (fun hc3695 => ?_)
        · rw [if_pos hc3695] at h
          cases h
          exact mg_Ev.more (loc := [none, some (.int x1), none]) K ⟨rfl, trivial⟩
        · rw [if_neg hc3695] at h
          refine mg_Ev.go 6 (pc' := 46) (loc' := [some (.ref 43), some (.int x1), some (.int x2)]) (st' := [.int 57, .int 49, .ref 43, .int (10 * x1)]) (w' := (hp u fL fD, c, z)) rfl ?_
          obtain ⟨⟨v1485, u1486⟩, hf3696, h⟩ := Option.bind_eq_some_iff.mp h
          try dsimp only at h
          refine mg_Ev.call (y := 130) (as := [.ref 43, .int 49, .int 57]) (rest := [.int (10 * x1)]) (v := some (.int v1485)) (w1 := (hp u1486 fL fD, c, z)) rfl rfl (Nat.le_of_ble_eq_true rfl) ((ev_M_readsDigit hf3696).deep (by decide)) ?_
          refine mg_Ev.go 4 (pc' := 11) (loc' := [some (.ref 43), some (.int ((10 * x1) + v1485)), some (.int (x2 + 1))]) (st' := []) (w' := (hp u1486 fL fD, c, z)) rfl ?_
          exact mg_Ev.more (loc := [some (.ref 43), some (.int ((10 * x1) + v1485)), some (.int (x2 + 1))]) (ih _ _ _ _ h _ K) ⟨rfl, ⟨rfl, ⟨rfl, trivial⟩⟩⟩
    · rw [if_neg hc3691] at h
      cases h
      exact mg_Ev.more (loc := [none, some (.int x1), none]) K ⟨rfl, trivial⟩

def M_readsCode (u : mg_Rg) : Option (Int32 × mg_Rg) :=
  (M_readsDigit 49 57 u).bind fun p1482 => match p1482 with
  | (v1480, u1481) =>
    (M_readsCode_L11 mg_F v1480 1 u1481).bind fun q3697 => match q3697 with
    | (x1488, u1489) =>
      some (x1488, u1489)

set_option maxRecDepth 10000 in
set_option maxHeartbeats 4000000 in
theorem ev_M_readsCode {sc : mg_Sc} {c z : Nat} {fL : Nat → Int64} {fD : Nat → UInt64} {u : mg_Rg} {p : Int32 × mg_Rg} (h : M_readsCode u = some p) : mg_Ev sc 2 131 0 (mg_entry 131 [.ref 43]) [] (hp u fL fD, c, z) (.inl (some (.int p.1)), (hp p.2 fL fD, c, z)) := by
  unfold M_readsCode at h
  show mg_Ev _ _ _ 0 [some (.ref 43), none, none] [] _ _
  refine mg_Ev.go 3 (pc' := 5) (loc' := [some (.ref 43), none, none]) (st' := [.int 57, .int 49, .ref 43]) (w' := (hp u fL fD, c, z)) rfl ?_
  obtain ⟨⟨v1480, u1481⟩, hf3698, h⟩ := Option.bind_eq_some_iff.mp h
  try dsimp only at h
  refine mg_Ev.call (y := 130) (as := [.ref 43, .int 49, .int 57]) (rest := []) (v := some (.int v1480)) (w1 := (hp u1481 fL fD, c, z)) rfl rfl (Nat.le_of_ble_eq_true rfl) ((ev_M_readsDigit hf3698).deep (by decide)) ?_
  refine mg_Ev.go 3 (pc' := 11) (loc' := [some (.ref 43), some (.int v1480), some (.int 1)]) (st' := []) (w' := (hp u1481 fL fD, c, z)) rfl ?_
  obtain ⟨⟨x1488, u1489⟩, hl3699, h⟩ := Option.bind_eq_some_iff.mp h
  try dsimp only at h
  refine mg_Ev.more (loc := [some (.ref 43), some (.int v1480), some (.int 1)]) (ev_M_readsCode_L11 _ _ _ _ _ hl3699 _ ?_) ⟨rfl, ⟨rfl, ⟨rfl, trivial⟩⟩⟩
  show mg_Ev _ _ _ 57 [none, some (.int x1488), none] [] (hp u1489 fL fD, c, z) _
  refine mg_Ev.go 1 (pc' := 58) (loc' := [none, some (.int x1488), none]) (st' := [.int x1488]) (w' := (hp u1489 fL fD, c, z)) rfl ?_
  cases h
  exact mg_Ev.fin rfl rfl rfl

def M_readsNumber_L11 : Nat → Int32 → Int32 → mg_Rg → Option (Int32 × mg_Rg)
  | 0, _, _, _ => none
  | n + 1, x1, x2, u =>
    if (u 42 14) = 0 then
    if 5 ≤ x2 then
      some ((x1, u))
      else
      (M_here u).bind fun v1493 =>
        (M_in v1493 48 57 u).bind fun v1494 =>
        if v1494 = 0 then
        some ((x1, u))
        else
        (M_readsDigit 48 57 u).bind fun p1497 => match p1497 with
          | (v1495, u1496) =>
            M_readsNumber_L11 n ((10 * x1) + v1495) (x2 + 1) u1496
    else
    some ((x1, u))
set_option maxRecDepth 10000 in
set_option maxHeartbeats 4000000 in
theorem ev_M_readsNumber_L11 {sc : mg_Sc} {c z : Nat} {fL : Nat → Int64} {fD : Nat → UInt64} : ∀ (n : Nat) (x1 : Int32) (x2 : Int32) (u : mg_Rg) (res : Int32 × mg_Rg), M_readsNumber_L11 n x1 x2 u = some res → ∀ r, (match res with | (y1, yu) => mg_Ev sc 2 132 57 [none, some (.int y1), none] [] (hp yu fL fD, c, z) r) → mg_Ev sc 2 132 11 [some (.ref 43), some (.int x1), some (.int x2)] [] (hp u fL fD, c, z) r := by
  intro n
  induction n with
  | zero => intro x1 x2 u res h; cases h
  | succ n ih =>
    intro x1 x2 u res h r K
    unfold M_readsNumber_L11 at h
    refine mg_Ev.go 2 (pc' := 15) (loc' := [some (.ref 43), some (.int x1), some (.int x2)]) (st' := [.int (u 42 14)]) (w' := (hp u fL fD, c, z)) rfl ?_
    refine mg_Ev.br (P := (u 42 14) = 0) (t := 18) (nx := 57) (st' := []) rfl rfl rfl rfl (fun hc3700 => ?_) (fun hc3700 => ?_)
    · rw [if_pos hc3700] at h
      refine mg_Ev.go 2 (pc' := 20) (loc' := [some (.ref 43), some (.int x1), some (.int x2)]) (st' := [.int 5, .int x2]) (w' := (hp u fL fD, c, z)) rfl ?_
      refine mg_Ev.br (P := 5 ≤ x2) (t := 57) (nx := 23) (st' := []) rfl rfl rfl rfl (fun hc3701 => ?_) (fun hc3701 => ?_)
      · rw [if_pos hc3701] at h
        cases h
        exact mg_Ev.more (loc := [none, some (.int x1), none]) K ⟨rfl, trivial⟩
      · rw [if_neg hc3701] at h
        refine mg_Ev.go 1 (pc' := 24) (loc' := [some (.ref 43), some (.int x1), some (.int x2)]) (st' := [.ref 43]) (w' := (hp u fL fD, c, z)) rfl ?_
        obtain ⟨v1493, hf3702, h⟩ := Option.bind_eq_some_iff.mp h
        refine mg_Ev.call (y := 128) (as := [.ref 43]) (rest := []) (v := some (.int v1493)) (w1 := (hp u fL fD, c, z)) rfl rfl (Nat.le_of_ble_eq_true rfl) ((ev_M_here hf3702).deep (by decide)) ?_
        refine mg_Ev.go 2 (pc' := 31) (loc' := [some (.ref 43), some (.int x1), some (.int x2)]) (st' := [.int 57, .int 48, .int v1493]) (w' := (hp u fL fD, c, z)) rfl ?_
        obtain ⟨v1494, hf3703, h⟩ := Option.bind_eq_some_iff.mp h
        refine mg_Ev.call (y := 58) (as := [.int v1493, .int 48, .int 57]) (rest := []) (v := some (.int v1494)) (w1 := (hp u fL fD, c, z)) rfl rfl (Nat.le_of_ble_eq_true rfl) ((ev_M_in hf3703).deep (by decide)) ?_
        refine mg_Ev.br (P := v1494 = 0) (t := 57) (nx := 37) (st' := []) rfl rfl rfl rfl (fun hc3704 => ?_) (fun hc3704 => ?_)
        · rw [if_pos hc3704] at h
          cases h
          exact mg_Ev.more (loc := [none, some (.int x1), none]) K ⟨rfl, trivial⟩
        · rw [if_neg hc3704] at h
          refine mg_Ev.go 6 (pc' := 46) (loc' := [some (.ref 43), some (.int x1), some (.int x2)]) (st' := [.int 57, .int 48, .ref 43, .int (10 * x1)]) (w' := (hp u fL fD, c, z)) rfl ?_
          obtain ⟨⟨v1495, u1496⟩, hf3705, h⟩ := Option.bind_eq_some_iff.mp h
          try dsimp only at h
          refine mg_Ev.call (y := 130) (as := [.ref 43, .int 48, .int 57]) (rest := [.int (10 * x1)]) (v := some (.int v1495)) (w1 := (hp u1496 fL fD, c, z)) rfl rfl (Nat.le_of_ble_eq_true rfl) ((ev_M_readsDigit hf3705).deep (by decide)) ?_
          refine mg_Ev.go 4 (pc' := 11) (loc' := [some (.ref 43), some (.int ((10 * x1) + v1495)), some (.int (x2 + 1))]) (st' := []) (w' := (hp u1496 fL fD, c, z)) rfl ?_
          exact mg_Ev.more (loc := [some (.ref 43), some (.int ((10 * x1) + v1495)), some (.int (x2 + 1))]) (ih _ _ _ _ h _ K) ⟨rfl, ⟨rfl, ⟨rfl, trivial⟩⟩⟩
    · rw [if_neg hc3700] at h
      cases h
      exact mg_Ev.more (loc := [none, some (.int x1), none]) K ⟨rfl, trivial⟩

def M_readsNumber (u : mg_Rg) : Option (Int32 × mg_Rg) :=
  (M_readsDigit 49 57 u).bind fun p1492 => match p1492 with
  | (v1490, u1491) =>
    (M_readsNumber_L11 mg_F v1490 1 u1491).bind fun q3706 => match q3706 with
    | (x1498, u1499) =>
      some (x1498, u1499)

set_option maxRecDepth 10000 in
set_option maxHeartbeats 4000000 in
theorem ev_M_readsNumber {sc : mg_Sc} {c z : Nat} {fL : Nat → Int64} {fD : Nat → UInt64} {u : mg_Rg} {p : Int32 × mg_Rg} (h : M_readsNumber u = some p) : mg_Ev sc 2 132 0 (mg_entry 132 [.ref 43]) [] (hp u fL fD, c, z) (.inl (some (.int p.1)), (hp p.2 fL fD, c, z)) := by
  unfold M_readsNumber at h
  show mg_Ev _ _ _ 0 [some (.ref 43), none, none] [] _ _
  refine mg_Ev.go 3 (pc' := 5) (loc' := [some (.ref 43), none, none]) (st' := [.int 57, .int 49, .ref 43]) (w' := (hp u fL fD, c, z)) rfl ?_
  obtain ⟨⟨v1490, u1491⟩, hf3707, h⟩ := Option.bind_eq_some_iff.mp h
  try dsimp only at h
  refine mg_Ev.call (y := 130) (as := [.ref 43, .int 49, .int 57]) (rest := []) (v := some (.int v1490)) (w1 := (hp u1491 fL fD, c, z)) rfl rfl (Nat.le_of_ble_eq_true rfl) ((ev_M_readsDigit hf3707).deep (by decide)) ?_
  refine mg_Ev.go 3 (pc' := 11) (loc' := [some (.ref 43), some (.int v1490), some (.int 1)]) (st' := []) (w' := (hp u1491 fL fD, c, z)) rfl ?_
  obtain ⟨⟨x1498, u1499⟩, hl3708, h⟩ := Option.bind_eq_some_iff.mp h
  try dsimp only at h
  refine mg_Ev.more (loc := [some (.ref 43), some (.int v1490), some (.int 1)]) (ev_M_readsNumber_L11 _ _ _ _ _ hl3708 _ ?_) ⟨rfl, ⟨rfl, ⟨rfl, trivial⟩⟩⟩
  show mg_Ev _ _ _ 57 [none, some (.int x1498), none] [] (hp u1499 fL fD, c, z) _
  refine mg_Ev.go 1 (pc' := 58) (loc' := [none, some (.int x1498), none]) (st' := [.int x1498]) (w' := (hp u1499 fL fD, c, z)) rfl ?_
  cases h
  exact mg_Ev.fin rfl rfl rfl

