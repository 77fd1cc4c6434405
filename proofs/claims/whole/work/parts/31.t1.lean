def T_get_3 (a0 : Int32) (a1 : Int32) (u : mg_Rg) : Option (Int32) :=
  if a0 < 0 then
  some 0
  else
  if 20 ≤ a0 then
    some 0
    else
    if a1 < 0 then
      some 0
      else
      if a1 < 3 then
        if ((1 + (a0 * 3)) + a1) < 0 then
          some 0
          else
          if 61 ≤ ((1 + (a0 * 3)) + a1) then
            some 0
            else
            if ((1 + (a0 * 3)) + a1) < 0 ∨ 61 ≤ ((1 + (a0 * 3)) + a1).toNatClampNeg then none else
              some (u 4 (((1 + (a0 * 3)) + a1).toNatClampNeg))
        else
        some 0

set_option maxRecDepth 10000 in
set_option maxHeartbeats 4000000 in
theorem ev_T_get_3 {sc : mg_Sc} {c z : Nat} {fL : Nat → Int64} {fD : Nat → UInt64} {a0 : Int32} {a1 : Int32} {u : mg_Rg} {v : Int32} (h : T_get_3 a0 a1 u = some v) : mg_Ev sc 0 184 0 (mg_entry 184 [.ref 4, .int a0, .int a1]) [] (hp u fL fD, c, z) (.inl (some (.int v)), (hp u fL fD, c, z)) := by
  unfold T_get_3 at h
  show mg_Ev _ _ _ 0 [some (.ref 4), some (.int a0), some (.int a1), none] [] _ _
  refine mg_Ev.go 1 (pc' := 1) (loc' := [some (.ref 4), some (.int a0), some (.int a1), none]) (st' := [.int a0]) (w' := (hp u fL fD, c, z)) rfl ?_
  refine mg_Ev.br (P := a0 < 0) (t := 24) (nx := 4) (st' := []) rfl rfl rfl rfl (fun hc1 => ?_) (fun hc1 => ?_)
  · rw [if_pos hc1] at h
    refine mg_Ev.go 1 (pc' := 25) (loc' := [some (.ref 4), some (.int a0), some (.int a1), none]) (st' := [.int 0]) (w' := (hp u fL fD, c, z)) rfl ?_
    cases h
    exact mg_Ev.fin rfl rfl rfl
  · rw [if_neg hc1] at h
    refine mg_Ev.go 3 (pc' := 9) (loc' := [some (.ref 4), some (.int a0), some (.int a1), none]) (st' := [.int 20, .int a0]) (w' := (hp u fL fD, c, z)) rfl ?_
    refine mg_Ev.br (P := 20 ≤ a0) (t := 24) (nx := 12) (st' := []) rfl rfl rfl rfl (fun hc2 => ?_) (fun hc2 => ?_)
    · rw [if_pos hc2] at h
      refine mg_Ev.go 1 (pc' := 25) (loc' := [some (.ref 4), some (.int a0), some (.int a1), none]) (st' := [.int 0]) (w' := (hp u fL fD, c, z)) rfl ?_
      cases h
      exact mg_Ev.fin rfl rfl rfl
    · rw [if_neg hc2] at h
      refine mg_Ev.go 1 (pc' := 13) (loc' := [some (.ref 4), some (.int a0), some (.int a1), none]) (st' := [.int a1]) (w' := (hp u fL fD, c, z)) rfl ?_
      refine mg_Ev.br (P := a1 < 0) (t := 24) (nx := 16) (st' := []) rfl rfl rfl rfl (fun hc3 => ?_) (fun hc3 => ?_)
      · rw [if_pos hc3] at h
        refine mg_Ev.go 1 (pc' := 25) (loc' := [some (.ref 4), some (.int a0), some (.int a1), none]) (st' := [.int 0]) (w' := (hp u fL fD, c, z)) rfl ?_
        cases h
        exact mg_Ev.fin rfl rfl rfl
      · rw [if_neg hc3] at h
        refine mg_Ev.go 3 (pc' := 21) (loc' := [some (.ref 4), some (.int a0), some (.int a1), none]) (st' := [.int 3, .int a1]) (w' := (hp u fL fD, c, z)) rfl ?_
        refine mg_Ev.br (P := a1 < 3) (t := 26) (nx := 24) (st' := []) rfl rfl rfl rfl (fun hc4 => ?_) (fun hc4 => ?_)
        · rw [if_pos hc4] at h
          refine mg_Ev.go 10 (pc' := 38) (loc' := [some (.ref 4), some (.int a0), some (.int a1), some (.int ((1 + (a0 * 3)) + a1))]) (st' := [.int ((1 + (a0 * 3)) + a1)]) (w' := (hp u fL fD, c, z)) rfl ?_
          refine mg_Ev.br (P := ((1 + (a0 * 3)) + a1) < 0) (t := 59) (nx := 41) (st' := []) rfl rfl rfl rfl (fun hc5 => ?_) (fun hc5 => ?_)
          · rw [if_pos hc5] at h
            refine mg_Ev.go 1 (pc' := 60) (loc' := [some (.ref 4), some (.int a0), some (.int a1), some (.int ((1 + (a0 * 3)) + a1))]) (st' := [.int 0]) (w' := (hp u fL fD, c, z)) rfl ?_
            cases h
            exact mg_Ev.fin rfl rfl rfl
          · rw [if_neg hc5] at h
            refine mg_Ev.go 4 (pc' := 47) (loc' := [some (.ref 4), some (.int a0), some (.int a1), some (.int ((1 + (a0 * 3)) + a1))]) (st' := [.int 61, .int ((1 + (a0 * 3)) + a1)]) (w' := (hp u fL fD, c, z)) rfl ?_
            refine mg_Ev.br (P := 61 ≤ ((1 + (a0 * 3)) + a1)) (t := 59) (nx := 50) (st' := []) rfl rfl rfl rfl (fun hc6 => ?_) (fun hc6 => ?_)
            · rw [if_pos hc6] at h
              refine mg_Ev.go 1 (pc' := 60) (loc' := [some (.ref 4), some (.int a0), some (.int a1), some (.int ((1 + (a0 * 3)) + a1))]) (st' := [.int 0]) (w' := (hp u fL fD, c, z)) rfl ?_
              cases h
              exact mg_Ev.fin rfl rfl rfl
            · rw [if_neg hc6] at h
              refine mg_Ev.go 3 (pc' := 55) (loc' := [some (.ref 4), some (.int a0), some (.int a1), some (.int ((1 + (a0 * 3)) + a1))]) (st' := [.int ((1 + (a0 * 3)) + a1), .ref 5]) (w' := (hp u fL fD, c, z)) rfl ?_
              by_cases hb7 : ((1 + (a0 * 3)) + a1) < 0 ∨ 61 ≤ ((1 + (a0 * 3)) + a1).toNatClampNeg
              · rw [if_pos hb7] at h
                cases h
              · rw [if_neg hb7] at h
                refine mg_Ev.iald (a := 4) (n := 61) (f := u 4) rfl rfl rfl hb7 ?_
                refine mg_Ev.go 1 (pc' := 60) (loc' := [some (.ref 4), some (.int a0), some (.int a1), some (.int ((1 + (a0 * 3)) + a1))]) (st' := [.int (u 4 (((1 + (a0 * 3)) + a1).toNatClampNeg))]) (w' := (hp u fL fD, c, z)) rfl ?_
                cases h
                exact mg_Ev.fin rfl rfl rfl
        · rw [if_neg hc4] at h
          refine mg_Ev.go 1 (pc' := 25) (loc' := [some (.ref 4), some (.int a0), some (.int a1), none]) (st' := [.int 0]) (w' := (hp u fL fD, c, z)) rfl ?_
          cases h
          exact mg_Ev.fin rfl rfl rfl

def Tf_isUnder_L5 : Nat → Int32 → Int32 → Int32 → mg_Rg → Option ((Unit) ⊕ (Int32))
  | 0, _, _, _, _ => none
  | n + 1, x2, x3, x4, u =>
    if x3 = (-1) then
    some (.inl ())
    else
    if 4 ≤ x4 then
      some (.inl ())
      else
      if x3 = x2 then
        some (.inr 1)
        else
        (T_get_3 x3 0 u).bind fun v8 =>
          Tf_isUnder_L5 n x2 v8 (x4 + 1) u
set_option maxRecDepth 10000 in
set_option maxHeartbeats 4000000 in
theorem ev_Tf_isUnder_L5 {sc : mg_Sc} {c z : Nat} {fL : Nat → Int64} {fD : Nat → UInt64} : ∀ (n : Nat) (x2 : Int32) (x3 : Int32) (x4 : Int32) (u : mg_Rg) (res : (Unit) ⊕ (Int32)), Tf_isUnder_L5 n x2 x3 x4 u = some res → ∀ r, (match res with | .inl _ => mg_Ev sc 1 201 39 [none, none, none, none, none] [] (hp u fL fD, c, z) r | .inr rv => r = (.inl (some (.int rv)), (hp u fL fD, c, z))) → mg_Ev sc 1 201 5 [some (.ref 3), none, some (.int x2), some (.int x3), some (.int x4)] [] (hp u fL fD, c, z) r := by
  intro n
  induction n with
  | zero => intro x2 x3 x4 u res h; cases h
  | succ n ih =>
    intro x2 x3 x4 u res h r K
    unfold Tf_isUnder_L5 at h
    refine mg_Ev.go 2 (pc' := 7) (loc' := [some (.ref 3), none, some (.int x2), some (.int x3), some (.int x4)]) (st' := [.int (-1), .int x3]) (w' := (hp u fL fD, c, z)) rfl ?_
    refine mg_Ev.br (P := x3 = (-1)) (t := 39) (nx := 10) (st' := []) rfl rfl rfl rfl (fun hc11 => ?_) (fun hc11 => ?_)
    · rw [if_pos hc11] at h
      cases h
      exact mg_Ev.more (loc := [none, none, none, none, none]) K trivial
    · rw [if_neg hc11] at h
      refine mg_Ev.go 2 (pc' := 13) (loc' := [some (.ref 3), none, some (.int x2), some (.int x3), some (.int x4)]) (st' := [.int 4, .int x4]) (w' := (hp u fL fD, c, z)) rfl ?_
      refine mg_Ev.br (P := 4 ≤ x4) (t := 39) (nx := 16) (st' := []) rfl rfl rfl rfl (fun hc12 => ?_) (fun hc12 => ?_)
      · rw [if_pos hc12] at h
        cases h
        exact mg_Ev.more (loc := [none, none, none, none, none]) K trivial
      · rw [if_neg hc12] at h
        refine mg_Ev.go 2 (pc' := 18) (loc' := [some (.ref 3), none, some (.int x2), some (.int x3), some (.int x4)]) (st' := [.int x2, .int x3]) (w' := (hp u fL fD, c, z)) rfl ?_
        refine mg_Ev.br (P := x3 = x2) (t := 21) (nx := 23) (st' := []) rfl rfl rfl rfl (fun hc13 => ?_) (fun hc13 => ?_)
        · rw [if_pos hc13] at h
          refine mg_Ev.go 1 (pc' := 22) (loc' := [some (.ref 3), none, some (.int x2), some (.int x3), some (.int x4)]) (st' := [.int 1]) (w' := (hp u fL fD, c, z)) rfl ?_
          cases h
          cases K
          exact mg_Ev.fin rfl rfl rfl
        · rw [if_neg hc13] at h
          refine mg_Ev.go 4 (pc' := 29) (loc' := [some (.ref 3), none, some (.int x2), some (.int x3), some (.int x4)]) (st' := [.int 0, .int x3, .ref 4]) (w' := (hp u fL fD, c, z)) rfl ?_
          obtain ⟨v8, hf14, h⟩ := Option.bind_eq_some_iff.mp h
          refine mg_Ev.call (y := 184) (as := [.ref 4, .int x3, .int 0]) (rest := []) (v := some (.int v8)) (w1 := (hp u fL fD, c, z)) rfl rfl (Nat.le_of_ble_eq_true rfl) ((ev_T_get_3 hf14).deep (by decide)) ?_
          refine mg_Ev.go 3 (pc' := 5) (loc' := [some (.ref 3), none, some (.int x2), some (.int v8), some (.int (x4 + 1))]) (st' := []) (w' := (hp u fL fD, c, z)) rfl ?_
          exact mg_Ev.more (loc := [some (.ref 3), none, some (.int x2), some (.int v8), some (.int (x4 + 1))]) (ih _ _ _ _ _ h _ K) ⟨rfl, ⟨rfl, ⟨rfl, ⟨rfl, trivial⟩⟩⟩⟩

def Tf_isUnder (a0 : Int32) (a1 : Int32) (u : mg_Rg) : Option (Int32) :=
  (Tf_isUnder_L5 mg_F a1 a0 0 u).bind fun q15 => match q15 with
  | .inl _ =>
    some 0
  | .inr v9 =>
    some v9

set_option maxRecDepth 10000 in
set_option maxHeartbeats 4000000 in
theorem ev_Tf_isUnder {sc : mg_Sc} {c z : Nat} {fL : Nat → Int64} {fD : Nat → UInt64} {a0 : Int32} {a1 : Int32} {u : mg_Rg} {v : Int32} (h : Tf_isUnder a0 a1 u = some v) : mg_Ev sc 1 201 0 (mg_entry 201 [.ref 3, .int a0, .int a1]) [] (hp u fL fD, c, z) (.inl (some (.int v)), (hp u fL fD, c, z)) := by
  unfold Tf_isUnder at h
  show mg_Ev _ _ _ 0 [some (.ref 3), some (.int a0), some (.int a1), none, none] [] _ _
  refine mg_Ev.go 4 (pc' := 5) (loc' := [some (.ref 3), some (.int a0), some (.int a1), some (.int a0), some (.int 0)]) (st' := []) (w' := (hp u fL fD, c, z)) rfl ?_
  obtain ⟨(⟨⟩ | v9), hl16, h⟩ := Option.bind_eq_some_iff.mp h
  · try dsimp only at h
    refine mg_Ev.more (loc := [some (.ref 3), none, some (.int a1), some (.int a0), some (.int 0)]) (ev_Tf_isUnder_L5 _ _ _ _ _ _ hl16 _ ?_) ⟨rfl, ⟨rfl, ⟨rfl, ⟨rfl, trivial⟩⟩⟩⟩
    show mg_Ev _ _ _ 39 [none, none, none, none, none] [] (hp u fL fD, c, z) _
    refine mg_Ev.go 1 (pc' := 40) (loc' := [none, none, none, none, none]) (st' := [.int 0]) (w' := (hp u fL fD, c, z)) rfl ?_
    cases h
    exact mg_Ev.fin rfl rfl rfl
  · try dsimp only at h
    cases h
    refine mg_Ev.more (loc := [some (.ref 3), none, some (.int a1), some (.int a0), some (.int 0)]) (ev_Tf_isUnder_L5 _ _ _ _ _ _ hl16 _ ?_) ⟨rfl, ⟨rfl, ⟨rfl, ⟨rfl, trivial⟩⟩⟩⟩
    rfl

