def C_isWithin (a0 : Int32) (a1 : Int32) (a2 : Int32) (u : mg_Rg) : Option (Int32) :=
  if a0 < a1 then
  some 0
  else
  if a2 < a0 then
    some 0
    else
    some 1

set_option maxRecDepth 10000 in
set_option maxHeartbeats 4000000 in
theorem ev_C_isWithin {sc : mg_Sc} {c z : Nat} {fL : Nat → Int64} {fD : Nat → UInt64} {a0 : Int32} {a1 : Int32} {a2 : Int32} {u : mg_Rg} {v : Int32} (h : C_isWithin a0 a1 a2 u = some v) : mg_Ev sc 0 54 0 (mg_entry 54 [.int a0, .int a1, .int a2]) [] (hp u fL fD, c, z) (.inl (some (.int v)), (hp u fL fD, c, z)) := by
  unfold C_isWithin at h
  show mg_Ev _ _ _ 0 [some (.int a0), some (.int a1), some (.int a2)] [] _ _
  refine mg_Ev.go 2 (pc' := 2) (loc' := [some (.int a0), some (.int a1), some (.int a2)]) (st' := [.int a1, .int a0]) (w' := (hp u fL fD, c, z)) rfl ?_
  refine mg_Ev.br (P := a0 < a1) (t := 14) (nx := 5) (st' := []) rfl rfl rfl rfl (fun hc1685 => ?_) (fun hc1685 => ?_)
  · rw [if_pos hc1685] at h
    refine mg_Ev.go 1 (pc' := 15) (loc' := [some (.int a0), some (.int a1), some (.int a2)]) (st' := [.int 0]) (w' := (hp u fL fD, c, z)) rfl ?_
    cases h
    exact mg_Ev.fin rfl rfl rfl
  · rw [if_neg hc1685] at h
    refine mg_Ev.go 2 (pc' := 7) (loc' := [some (.int a0), some (.int a1), some (.int a2)]) (st' := [.int a2, .int a0]) (w' := (hp u fL fD, c, z)) rfl ?_
    refine mg_Ev.br (P := a2 < a0) (t := 14) (nx := 10) (st' := []) rfl rfl rfl rfl (fun hc1686 => ?_) (fun hc1686 => ?_)
    · rw [if_pos hc1686] at h
      refine mg_Ev.go 1 (pc' := 15) (loc' := [some (.int a0), some (.int a1), some (.int a2)]) (st' := [.int 0]) (w' := (hp u fL fD, c, z)) rfl ?_
      cases h
      exact mg_Ev.fin rfl rfl rfl
    · rw [if_neg hc1686] at h
      refine mg_Ev.go 2 (pc' := 15) (loc' := [some (.int a0), some (.int a1), some (.int a2)]) (st' := [.int 1]) (w' := (hp u fL fD, c, z)) rfl ?_
      cases h
      exact mg_Ev.fin rfl rfl rfl

def T_count_3 (u : mg_Rg) : Option (Int32) :=
  some (u 4 0)

set_option maxRecDepth 10000 in
set_option maxHeartbeats 4000000 in
theorem ev_T_count_3 {sc : mg_Sc} {c z : Nat} {fL : Nat → Int64} {fD : Nat → UInt64} {u : mg_Rg} {v : Int32} (h : T_count_3 u = some v) : mg_Ev sc 0 181 0 (mg_entry 181 [.ref 4]) [] (hp u fL fD, c, z) (.inl (some (.int v)), (hp u fL fD, c, z)) := by
  unfold T_count_3 at h
  show mg_Ev _ _ _ 0 [some (.ref 4)] [] _ _
  refine mg_Ev.go 3 (pc' := 5) (loc' := [some (.ref 4)]) (st' := [.int 61]) (w' := (hp u fL fD, c, z)) rfl ?_
  refine mg_Ev.br (P := (61 : Int32) ≤ 0) (t := 17) (nx := 8) (st' := []) rfl rfl rfl rfl (fun q => absurd q (by decide)) (fun _ => ?_)
  refine mg_Ev.go 3 (pc' := 13) (loc' := [some (.ref 4)]) (st' := [.int 0, .ref 5]) (w' := (hp u fL fD, c, z)) rfl ?_
  refine mg_Ev.iald (a := 4) (n := 61) (f := u 4) (j := 0) rfl (hpg_4 _ _ _) (by decide) (by decide) ?_
  refine mg_Ev.go 1 (pc' := 18) (loc' := [some (.ref 4)]) (st' := [.int (u 4 0)]) (w' := (hp u fL fD, c, z)) rfl ?_
  cases h
  exact mg_Ev.fin rfl rfl rfl

def T_get_3 (a0 : Int32) (a1 : Int32) (u : mg_Rg) : Option (Int32) :=
  if a0 < 0 then
  some 0
  else
  if 20 ≤ a0 then
    some 0
    else
    if a1 < 0 then
      some 0
      else
      if a1 < 3 then
        if ((1 + (a0 * 3)) + a1) < 0 then
          some 0
          else
          if 61 ≤ ((1 + (a0 * 3)) + a1) then
            some 0
            else
            if ((1 + (a0 * 3)) + a1) < 0 ∨ 61 ≤ ((1 + (a0 * 3)) + a1).toNatClampNeg then none else
              some (u 4 (((1 + (a0 * 3)) + a1).toNatClampNeg))
        else
        some 0

set_option maxRecDepth 10000 in
set_option maxHeartbeats 4000000 in
theorem ev_T_get_3 {sc : mg_Sc} {c z : Nat} {fL : Nat → Int64} {fD : Nat → UInt64} {a0 : Int32} {a1 : Int32} {u : mg_Rg} {v : Int32} (h : T_get_3 a0 a1 u = some v) : mg_Ev sc 0 184 0 (mg_entry 184 [.ref 4, .int a0, .int a1]) [] (hp u fL fD, c, z) (.inl (some (.int v)), (hp u fL fD, c, z)) := by
  unfold T_get_3 at h
  show mg_Ev _ _ _ 0 [some (.ref 4), some (.int a0), some (.int a1), none] [] _ _
  refine mg_Ev.go 1 (pc' := 1) (loc' := [some (.ref 4), some (.int a0), some (.int a1), none]) (st' := [.int a0]) (w' := (hp u fL fD, c, z)) rfl ?_
  refine mg_Ev.br (P := a0 < 0) (t := 24) (nx := 4) (st' := []) rfl rfl rfl rfl (fun hc1688 => ?_) (fun hc1688 => ?_)
  · rw [if_pos hc1688] at h
    refine mg_Ev.go 1 (pc' := 25) (loc' := [some (.ref 4), some (.int a0), some (.int a1), none]) (st' := [.int 0]) (w' := (hp u fL fD, c, z)) rfl ?_
    cases h
    exact mg_Ev.fin rfl rfl rfl
  · rw [if_neg hc1688] at h
    refine mg_Ev.go 3 (pc' := 9) (loc' := [some (.ref 4), some (.int a0), some (.int a1), none]) (st' := [.int 20, .int a0]) (w' := (hp u fL fD, c, z)) rfl ?_
    refine mg_Ev.br (P := 20 ≤ a0) (t := 24) (nx := 12) (st' := []) rfl rfl rfl rfl (fun hc1689 => ?_) (fun hc1689 => ?_)
    · rw [if_pos hc1689] at h
      refine mg_Ev.go 1 (pc' := 25) (loc' := [some (.ref 4), some (.int a0), some (.int a1), none]) (st' := [.int 0]) (w' := (hp u fL fD, c, z)) rfl ?_
      cases h
      exact mg_Ev.fin rfl rfl rfl
    · rw [if_neg hc1689] at h
      refine mg_Ev.go 1 (pc' := 13) (loc' := [some (.ref 4), some (.int a0), some (.int a1), none]) (st' := [.int a1]) (w' := (hp u fL fD, c, z)) rfl ?_
      refine mg_Ev.br (P := a1 < 0) (t := 24) (nx := 16) (st' := []) rfl rfl rfl rfl (fun hc1690 => ?_) (fun hc1690 => ?_)
      · rw [if_pos hc1690] at h
        refine mg_Ev.go 1 (pc' := 25) (loc' := [some (.ref 4), some (.int a0), some (.int a1), none]) (st' := [.int 0]) (w' := (hp u fL fD, c, z)) rfl ?_
        cases h
        exact mg_Ev.fin rfl rfl rfl
      · rw [if_neg hc1690] at h
        refine mg_Ev.go 3 (pc' := 21) (loc' := [some (.ref 4), some (.int a0), some (.int a1), none]) (st' := [.int 3, .int a1]) (w' := (hp u fL fD, c, z)) rfl ?_
        refine mg_Ev.br (P := a1 < 3) (t := 26) (nx := 24) (st' := []) rfl rfl rfl rfl (fun hc1691 => ?_) (fun hc1691 => ?_)
        · rw [if_pos hc1691] at h
          refine mg_Ev.go 10 (pc' := 38) (loc' := [some (.ref 4), some (.int a0), some (.int a1), some (.int ((1 + (a0 * 3)) + a1))]) (st' := [.int ((1 + (a0 * 3)) + a1)]) (w' := (hp u fL fD, c, z)) rfl ?_
          refine mg_Ev.br (P := ((1 + (a0 * 3)) + a1) < 0) (t := 59) (nx := 41) (st' := []) rfl rfl rfl rfl (fun hc1692 => ?_) (fun hc1692 => ?_)
          · rw [if_pos hc1692] at h
            refine mg_Ev.go 1 (pc' := 60) (loc' := [some (.ref 4), some (.int a0), some (.int a1), some (.int ((1 + (a0 * 3)) + a1))]) (st' := [.int 0]) (w' := (hp u fL fD, c, z)) rfl ?_
            cases h
            exact mg_Ev.fin rfl rfl rfl
          · rw [if_neg hc1692] at h
            refine mg_Ev.go 4 (pc' := 47) (loc' := [some (.ref 4), some (.int a0), some (.int a1), some (.int ((1 + (a0 * 3)) + a1))]) (st' := [.int 61, .int ((1 + (a0 * 3)) + a1)]) (w' := (hp u fL fD, c, z)) rfl ?_
            refine mg_Ev.br (P := 61 ≤ ((1 + (a0 * 3)) + a1)) (t := 59) (nx := 50) (st' := []) rfl rfl rfl rfl (fun hc1693 => ?_) (fun hc1693 => ?_)
            · rw [if_pos hc1693] at h
              refine mg_Ev.go 1 (pc' := 60) (loc' := [some (.ref 4), some (.int a0), some (.int a1), some (.int ((1 + (a0 * 3)) + a1))]) (st' := [.int 0]) (w' := (hp u fL fD, c, z)) rfl ?_
              cases h
              exact mg_Ev.fin rfl rfl rfl
            · rw [if_neg hc1693] at h
              refine mg_Ev.go 3 (pc' := 55) (loc' := [some (.ref 4), some (.int a0), some (.int a1), some (.int ((1 + (a0 * 3)) + a1))]) (st' := [.int ((1 + (a0 * 3)) + a1), .ref 5]) (w' := (hp u fL fD, c, z)) rfl ?_
              by_cases hb1694 : ((1 + (a0 * 3)) + a1) < 0 ∨ 61 ≤ ((1 + (a0 * 3)) + a1).toNatClampNeg
              · rw [if_pos hb1694] at h
                cases h
              · rw [if_neg hb1694] at h
                refine mg_Ev.iald (a := 4) (n := 61) (f := u 4) rfl (hpg_4 _ _ _) rfl hb1694 ?_
                refine mg_Ev.go 1 (pc' := 60) (loc' := [some (.ref 4), some (.int a0), some (.int a1), some (.int ((1 + (a0 * 3)) + a1))]) (st' := [.int (u 4 (((1 + (a0 * 3)) + a1).toNatClampNeg))]) (w' := (hp u fL fD, c, z)) rfl ?_
                cases h
                exact mg_Ev.fin rfl rfl rfl
        · rw [if_neg hc1691] at h
          refine mg_Ev.go 1 (pc' := 25) (loc' := [some (.ref 4), some (.int a0), some (.int a1), none]) (st' := [.int 0]) (w' := (hp u fL fD, c, z)) rfl ?_
          cases h
          exact mg_Ev.fin rfl rfl rfl

def Tf_isTaken_L2 : Nat → Int32 → Int32 → Int32 → mg_Rg → Option ((Unit) ⊕ (Int32))
  | 0, _, _, _, _ => none
  | n + 1, x1, x2, x3, u =>
    (T_count_3 u).bind fun v2 =>
    if v2 ≤ x3 then
    some (.inl ())
    else
    (T_get_3 x3 0 u).bind fun v3 =>
      if v3 = x1 then
      (T_get_3 x3 1 u).bind fun v4 =>
        if v4 = x2 then
        some (.inr 1)
        else
        Tf_isTaken_L2 n x1 x2 (x3 + 1) u
      else
      Tf_isTaken_L2 n x1 x2 (x3 + 1) u
set_option maxRecDepth 10000 in
set_option maxHeartbeats 4000000 in
theorem ev_Tf_isTaken_L2 {sc : mg_Sc} {c z : Nat} {fL : Nat → Int64} {fD : Nat → UInt64} : ∀ (n : Nat) (x1 : Int32) (x2 : Int32) (x3 : Int32) (u : mg_Rg) (res : (Unit) ⊕ (Int32)), Tf_isTaken_L2 n x1 x2 x3 u = some res → ∀ r, (match res with | .inl _ => mg_Ev sc 1 196 47 [none, none, none, none] [] (hp u fL fD, c, z) r | .inr rv => r = (.inl (some (.int rv)), (hp u fL fD, c, z))) → mg_Ev sc 1 196 2 [some (.ref 3), some (.int x1), some (.int x2), some (.int x3)] [] (hp u fL fD, c, z) r := by
  intro n
  induction n with
  | zero => intro x1 x2 x3 u res h; cases h
  | succ n ih =>
    intro x1 x2 x3 u res h r K
    unfold Tf_isTaken_L2 at h
    refine mg_Ev.go 3 (pc' := 7) (loc' := [some (.ref 3), some (.int x1), some (.int x2), some (.int x3)]) (st' := [.ref 4, .int x3]) (w' := (hp u fL fD, c, z)) rfl ?_
    obtain ⟨v2, hf1695, h⟩ := Option.bind_eq_some_iff.mp h
    refine mg_Ev.call (y := 181) (as := [.ref 4]) (rest := [.int x3]) (v := some (.int v2)) (w1 := (hp u fL fD, c, z)) rfl rfl (Nat.le_of_ble_eq_true rfl) ((ev_T_count_3 hf1695).deep (by decide)) ?_
    refine mg_Ev.br (P := v2 ≤ x3) (t := 47) (nx := 13) (st' := []) rfl rfl rfl rfl (fun hc1696 => ?_) (fun hc1696 => ?_)
    · rw [if_pos hc1696] at h
      cases h
      exact mg_Ev.more (loc := [none, none, none, none]) K trivial
    · rw [if_neg hc1696] at h
      refine mg_Ev.go 4 (pc' := 19) (loc' := [some (.ref 3), some (.int x1), some (.int x2), some (.int x3)]) (st' := [.int 0, .int x3, .ref 4]) (w' := (hp u fL fD, c, z)) rfl ?_
      obtain ⟨v3, hf1697, h⟩ := Option.bind_eq_some_iff.mp h
      refine mg_Ev.call (y := 184) (as := [.ref 4, .int x3, .int 0]) (rest := []) (v := some (.int v3)) (w1 := (hp u fL fD, c, z)) rfl rfl (Nat.le_of_ble_eq_true rfl) ((ev_T_get_3 hf1697).deep (by decide)) ?_
      refine mg_Ev.go 1 (pc' := 23) (loc' := [some (.ref 3), some (.int x1), some (.int x2), some (.int x3)]) (st' := [.int x1, .int v3]) (w' := (hp u fL fD, c, z)) rfl ?_
      refine mg_Ev.br (P := v3 = x1) (t := 26) (nx := 41) (st' := []) rfl rfl rfl rfl (fun hc1698 => ?_) (fun hc1698 => ?_)
      · rw [if_pos hc1698] at h
        refine mg_Ev.go 4 (pc' := 32) (loc' := [some (.ref 3), some (.int x1), some (.int x2), some (.int x3)]) (st' := [.int 1, .int x3, .ref 4]) (w' := (hp u fL fD, c, z)) rfl ?_
        obtain ⟨v4, hf1699, h⟩ := Option.bind_eq_some_iff.mp h
        refine mg_Ev.call (y := 184) (as := [.ref 4, .int x3, .int 1]) (rest := []) (v := some (.int v4)) (w1 := (hp u fL fD, c, z)) rfl rfl (Nat.le_of_ble_eq_true rfl) ((ev_T_get_3 hf1699).deep (by decide)) ?_
        refine mg_Ev.go 1 (pc' := 36) (loc' := [some (.ref 3), some (.int x1), some (.int x2), some (.int x3)]) (st' := [.int x2, .int v4]) (w' := (hp u fL fD, c, z)) rfl ?_
        refine mg_Ev.br (P := v4 = x2) (t := 39) (nx := 41) (st' := []) rfl rfl rfl rfl (fun hc1700 => ?_) (fun hc1700 => ?_)
        · rw [if_pos hc1700] at h
          refine mg_Ev.go 1 (pc' := 40) (loc' := [some (.ref 3), some (.int x1), some (.int x2), some (.int x3)]) (st' := [.int 1]) (w' := (hp u fL fD, c, z)) rfl ?_
          cases h
          cases K
          exact mg_Ev.fin rfl rfl rfl
        · rw [if_neg hc1700] at h
          refine mg_Ev.go 2 (pc' := 2) (loc' := [some (.ref 3), some (.int x1), some (.int x2), some (.int (x3 + 1))]) (st' := []) (w' := (hp u fL fD, c, z)) rfl ?_
          exact mg_Ev.more (loc := [some (.ref 3), some (.int x1), some (.int x2), some (.int (x3 + 1))]) (ih _ _ _ _ _ h _ K) ⟨rfl, ⟨rfl, ⟨rfl, ⟨rfl, trivial⟩⟩⟩⟩
      · rw [if_neg hc1698] at h
        refine mg_Ev.go 2 (pc' := 2) (loc' := [some (.ref 3), some (.int x1), some (.int x2), some (.int (x3 + 1))]) (st' := []) (w' := (hp u fL fD, c, z)) rfl ?_
        exact mg_Ev.more (loc := [some (.ref 3), some (.int x1), some (.int x2), some (.int (x3 + 1))]) (ih _ _ _ _ _ h _ K) ⟨rfl, ⟨rfl, ⟨rfl, ⟨rfl, trivial⟩⟩⟩⟩

def Tf_isTaken (a0 : Int32) (a1 : Int32) (u : mg_Rg) : Option (Int32) :=
  (Tf_isTaken_L2 mg_F a0 a1 0 u).bind fun q1701 => match q1701 with
  | .inl _ =>
    some 0
  | .inr v5 =>
    some v5

set_option maxRecDepth 10000 in
set_option maxHeartbeats 4000000 in
theorem ev_Tf_isTaken {sc : mg_Sc} {c z : Nat} {fL : Nat → Int64} {fD : Nat → UInt64} {a0 : Int32} {a1 : Int32} {u : mg_Rg} {v : Int32} (h : Tf_isTaken a0 a1 u = some v) : mg_Ev sc 1 196 0 (mg_entry 196 [.ref 3, .int a0, .int a1]) [] (hp u fL fD, c, z) (.inl (some (.int v)), (hp u fL fD, c, z)) := by
  unfold Tf_isTaken at h
  show mg_Ev _ _ _ 0 [some (.ref 3), some (.int a0), some (.int a1), none] [] _ _
  refine mg_Ev.go 2 (pc' := 2) (loc' := [some (.ref 3), some (.int a0), some (.int a1), some (.int 0)]) (st' := []) (w' := (hp u fL fD, c, z)) rfl ?_
  obtain ⟨(⟨⟩ | v5), hl1702, h⟩ := Option.bind_eq_some_iff.mp h
  · try dsimp only at h
    refine mg_Ev.more (loc := [some (.ref 3), some (.int a0), some (.int a1), some (.int 0)]) (ev_Tf_isTaken_L2 _ _ _ _ _ _ hl1702 _ ?_) ⟨rfl, ⟨rfl, ⟨rfl, ⟨rfl, trivial⟩⟩⟩⟩
    show mg_Ev _ _ _ 47 [none, none, none, none] [] (hp u fL fD, c, z) _
    refine mg_Ev.go 1 (pc' := 48) (loc' := [none, none, none, none]) (st' := [.int 0]) (w' := (hp u fL fD, c, z)) rfl ?_
    cases h
    exact mg_Ev.fin rfl rfl rfl
  · try dsimp only at h
    cases h
    refine mg_Ev.more (loc := [some (.ref 3), some (.int a0), some (.int a1), some (.int 0)]) (ev_Tf_isTaken_L2 _ _ _ _ _ _ hl1702 _ ?_) ⟨rfl, ⟨rfl, ⟨rfl, ⟨rfl, trivial⟩⟩⟩⟩
    rfl

def T_isFull_3 (u : mg_Rg) : Option (Int32) :=
  (T_count_3 u).bind fun v8 =>
  if v8 < 20 then
  some 0
  else
  some 1

set_option maxRecDepth 10000 in
set_option maxHeartbeats 4000000 in
theorem ev_T_isFull_3 {sc : mg_Sc} {c z : Nat} {fL : Nat → Int64} {fD : Nat → UInt64} {u : mg_Rg} {v : Int32} (h : T_isFull_3 u = some v) : mg_Ev sc 1 183 0 (mg_entry 183 [.ref 4]) [] (hp u fL fD, c, z) (.inl (some (.int v)), (hp u fL fD, c, z)) := by
  unfold T_isFull_3 at h
  show mg_Ev _ _ _ 0 [some (.ref 4)] [] _ _
  refine mg_Ev.go 1 (pc' := 1) (loc' := [some (.ref 4)]) (st' := [.ref 4]) (w' := (hp u fL fD, c, z)) rfl ?_
  obtain ⟨v8, hf1703, h⟩ := Option.bind_eq_some_iff.mp h
  refine mg_Ev.call (y := 181) (as := [.ref 4]) (rest := []) (v := some (.int v8)) (w1 := (hp u fL fD, c, z)) rfl rfl (Nat.le_of_ble_eq_true rfl) ((ev_T_count_3 hf1703).deep (by decide)) ?_
  refine mg_Ev.go 2 (pc' := 8) (loc' := [some (.ref 4)]) (st' := [.int 20, .int v8]) (w' := (hp u fL fD, c, z)) rfl ?_
  refine mg_Ev.br (P := v8 < 20) (t := 15) (nx := 11) (st' := []) rfl rfl rfl rfl (fun hc1704 => ?_) (fun hc1704 => ?_)
  · rw [if_pos hc1704] at h
    refine mg_Ev.go 1 (pc' := 16) (loc' := [some (.ref 4)]) (st' := [.int 0]) (w' := (hp u fL fD, c, z)) rfl ?_
    cases h
    exact mg_Ev.fin rfl rfl rfl
  · rw [if_neg hc1704] at h
    refine mg_Ev.go 2 (pc' := 16) (loc' := [some (.ref 4)]) (st' := [.int 1]) (w' := (hp u fL fD, c, z)) rfl ?_
    cases h
    exact mg_Ev.fin rfl rfl rfl

def Tf_levelOf_L4 : Nat → Int32 → Int32 → mg_Rg → Option (Int32)
  | 0, _, _, _ => none
  | n + 1, x2, x3, u =>
    if x3 = (-1) then
    some (x2)
    else
    if 4 ≤ x2 then
      some (x2)
      else
      (T_get_3 x3 0 u).bind fun v10 =>
        Tf_levelOf_L4 n (x2 + 1) v10 u
set_option maxRecDepth 10000 in
set_option maxHeartbeats 4000000 in
theorem ev_Tf_levelOf_L4 {sc : mg_Sc} {c z : Nat} {fL : Nat → Int64} {fD : Nat → UInt64} : ∀ (n : Nat) (x2 : Int32) (x3 : Int32) (u : mg_Rg) (res : Int32), Tf_levelOf_L4 n x2 x3 u = some res → ∀ r, (match res with | y2 => mg_Ev sc 1 197 30 [none, none, some (.int y2), none] [] (hp u fL fD, c, z) r) → mg_Ev sc 1 197 4 [some (.ref 3), none, some (.int x2), some (.int x3)] [] (hp u fL fD, c, z) r := by
  intro n
  induction n with
  | zero => intro x2 x3 u res h; cases h
  | succ n ih =>
    intro x2 x3 u res h r K
    unfold Tf_levelOf_L4 at h
    refine mg_Ev.go 2 (pc' := 6) (loc' := [some (.ref 3), none, some (.int x2), some (.int x3)]) (st' := [.int (-1), .int x3]) (w' := (hp u fL fD, c, z)) rfl ?_
    refine mg_Ev.br (P := x3 = (-1)) (t := 30) (nx := 9) (st' := []) rfl rfl rfl rfl (fun hc1705 => ?_) (fun hc1705 => ?_)
    · rw [if_pos hc1705] at h
      cases h
      exact mg_Ev.more (loc := [none, none, some (.int x2), none]) K ⟨rfl, trivial⟩
    · rw [if_neg hc1705] at h
      refine mg_Ev.go 2 (pc' := 11) (loc' := [some (.ref 3), none, some (.int x2), some (.int x3)]) (st' := [.int 4, .int x2]) (w' := (hp u fL fD, c, z)) rfl ?_
      refine mg_Ev.br (P := 4 ≤ x2) (t := 30) (nx := 14) (st' := []) rfl rfl rfl rfl (fun hc1706 => ?_) (fun hc1706 => ?_)
      · rw [if_pos hc1706] at h
        cases h
        exact mg_Ev.more (loc := [none, none, some (.int x2), none]) K ⟨rfl, trivial⟩
      · rw [if_neg hc1706] at h
        refine mg_Ev.go 5 (pc' := 23) (loc' := [some (.ref 3), none, some (.int (x2 + 1)), some (.int x3)]) (st' := [.int 0, .int x3, .ref 4]) (w' := (hp u fL fD, c, z)) rfl ?_
        obtain ⟨v10, hf1707, h⟩ := Option.bind_eq_some_iff.mp h
        refine mg_Ev.call (y := 184) (as := [.ref 4, .int x3, .int 0]) (rest := []) (v := some (.int v10)) (w1 := (hp u fL fD, c, z)) rfl rfl (Nat.le_of_ble_eq_true rfl) ((ev_T_get_3 hf1707).deep (by decide)) ?_
        refine mg_Ev.go 2 (pc' := 4) (loc' := [some (.ref 3), none, some (.int (x2 + 1)), some (.int v10)]) (st' := []) (w' := (hp u fL fD, c, z)) rfl ?_
        exact mg_Ev.more (loc := [some (.ref 3), none, some (.int (x2 + 1)), some (.int v10)]) (ih _ _ _ _ h _ K) ⟨rfl, ⟨rfl, ⟨rfl, trivial⟩⟩⟩

def Tf_levelOf (a0 : Int32) (u : mg_Rg) : Option (Int32) :=
  (Tf_levelOf_L4 mg_F 0 a0 u).bind fun q1708 => match q1708 with
  | x11 =>
    some x11

set_option maxRecDepth 10000 in
set_option maxHeartbeats 4000000 in
theorem ev_Tf_levelOf {sc : mg_Sc} {c z : Nat} {fL : Nat → Int64} {fD : Nat → UInt64} {a0 : Int32} {u : mg_Rg} {v : Int32} (h : Tf_levelOf a0 u = some v) : mg_Ev sc 1 197 0 (mg_entry 197 [.ref 3, .int a0]) [] (hp u fL fD, c, z) (.inl (some (.int v)), (hp u fL fD, c, z)) := by
  unfold Tf_levelOf at h
  show mg_Ev _ _ _ 0 [some (.ref 3), some (.int a0), none, none] [] _ _
  refine mg_Ev.go 4 (pc' := 4) (loc' := [some (.ref 3), some (.int a0), some (.int 0), some (.int a0)]) (st' := []) (w' := (hp u fL fD, c, z)) rfl ?_
  obtain ⟨x11, hl1709, h⟩ := Option.bind_eq_some_iff.mp h
  try dsimp only at h
  refine mg_Ev.more (loc := [some (.ref 3), none, some (.int 0), some (.int a0)]) (ev_Tf_levelOf_L4 _ _ _ _ _ hl1709 _ ?_) ⟨rfl, ⟨rfl, ⟨rfl, trivial⟩⟩⟩
  show mg_Ev _ _ _ 30 [none, none, some (.int x11), none] [] (hp u fL fD, c, z) _
  refine mg_Ev.go 1 (pc' := 31) (loc' := [none, none, some (.int x11), none]) (st' := [.int x11]) (w' := (hp u fL fD, c, z)) rfl ?_
  cases h
  exact mg_Ev.fin rfl rfl rfl

def T_hasSlot_3 (a0 : Int32) (u : mg_Rg) : Option (Int32) :=
  if a0 < 0 then
  some 0
  else
  if 9 ≤ a0 then
    some 0
    else
    if 549 < ((a0 + 1) * 61) then
      some 0
      else
      some 1

set_option maxRecDepth 10000 in
set_option maxHeartbeats 4000000 in
theorem ev_T_hasSlot_3 {sc : mg_Sc} {c z : Nat} {fL : Nat → Int64} {fD : Nat → UInt64} {a0 : Int32} {u : mg_Rg} {v : Int32} (h : T_hasSlot_3 a0 u = some v) : mg_Ev sc 0 192 0 (mg_entry 192 [.ref 4, .int a0]) [] (hp u fL fD, c, z) (.inl (some (.int v)), (hp u fL fD, c, z)) := by
  unfold T_hasSlot_3 at h
  show mg_Ev _ _ _ 0 [some (.ref 4), some (.int a0)] [] _ _
  refine mg_Ev.go 1 (pc' := 1) (loc' := [some (.ref 4), some (.int a0)]) (st' := [.int a0]) (w' := (hp u fL fD, c, z)) rfl ?_
  refine mg_Ev.br (P := a0 < 0) (t := 31) (nx := 4) (st' := []) rfl rfl rfl rfl (fun hc1710 => ?_) (fun hc1710 => ?_)
  · rw [if_pos hc1710] at h
    refine mg_Ev.go 1 (pc' := 32) (loc' := [some (.ref 4), some (.int a0)]) (st' := [.int 0]) (w' := (hp u fL fD, c, z)) rfl ?_
    cases h
    exact mg_Ev.fin rfl rfl rfl
  · rw [if_neg hc1710] at h
    refine mg_Ev.go 2 (pc' := 7) (loc' := [some (.ref 4), some (.int a0)]) (st' := [.int 9, .int a0]) (w' := (hp u fL fD, c, z)) rfl ?_
    refine mg_Ev.br (P := 9 ≤ a0) (t := 31) (nx := 10) (st' := []) rfl rfl rfl rfl (fun hc1711 => ?_) (fun hc1711 => ?_)
    · rw [if_pos hc1711] at h
      refine mg_Ev.go 1 (pc' := 32) (loc' := [some (.ref 4), some (.int a0)]) (st' := [.int 0]) (w' := (hp u fL fD, c, z)) rfl ?_
      cases h
      exact mg_Ev.fin rfl rfl rfl
    · rw [if_neg hc1711] at h
      refine mg_Ev.go 10 (pc' := 24) (loc' := [some (.ref 4), some (.int a0)]) (st' := [.int 549, .int ((a0 + 1) * 61)]) (w' := (hp u fL fD, c, z)) rfl ?_
      refine mg_Ev.br (P := 549 < ((a0 + 1) * 61)) (t := 31) (nx := 27) (st' := []) rfl rfl rfl rfl (fun hc1712 => ?_) (fun hc1712 => ?_)
      · rw [if_pos hc1712] at h
        refine mg_Ev.go 1 (pc' := 32) (loc' := [some (.ref 4), some (.int a0)]) (st' := [.int 0]) (w' := (hp u fL fD, c, z)) rfl ?_
        cases h
        exact mg_Ev.fin rfl rfl rfl
      · rw [if_neg hc1712] at h
        refine mg_Ev.go 2 (pc' := 32) (loc' := [some (.ref 4), some (.int a0)]) (st' := [.int 1]) (w' := (hp u fL fD, c, z)) rfl ?_
        cases h
        exact mg_Ev.fin rfl rfl rfl

def T_keepIn_3 (a0 : Int32) (u : mg_Rg) : Option (mg_Rg) :=
  (T_hasSlot_3 a0 u).bind fun v13 =>
  if v13 = 0 then
  some u
  else
  if ¬ (0 : Int32) < 0 ∧ ¬ (a0 * 61) < 0 ∧ ¬ (61 : Int32) < 0 ∧ (0 : Int32).toNatClampNeg + (61 : Int32).toNatClampNeg ≤ 61 ∧ (a0 * 61).toNatClampNeg + (61 : Int32).toNatClampNeg ≤ 549 then
    some (mg_rw u 5 (va_cpy (u 4) (u 5) (0 : Int32).toNatClampNeg (a0 * 61).toNatClampNeg (61 : Int32).toNatClampNeg))
    else none

set_option maxRecDepth 10000 in
set_option maxHeartbeats 4000000 in
theorem ev_T_keepIn_3 {sc : mg_Sc} {c z : Nat} {fL : Nat → Int64} {fD : Nat → UInt64} {a0 : Int32} {u : mg_Rg} {v : mg_Rg} (h : T_keepIn_3 a0 u = some v) : mg_Ev sc 1 190 0 (mg_entry 190 [.ref 4, .int a0]) [] (hp u fL fD, c, z) (.inl none, (hp v fL fD, c, z)) := by
  unfold T_keepIn_3 at h
  show mg_Ev _ _ _ 0 [some (.ref 4), some (.int a0)] [] _ _
  refine mg_Ev.go 2 (pc' := 2) (loc' := [some (.ref 4), some (.int a0)]) (st' := [.int a0, .ref 4]) (w' := (hp u fL fD, c, z)) rfl ?_
  obtain ⟨v13, hf1713, h⟩ := Option.bind_eq_some_iff.mp h
  refine mg_Ev.call (y := 192) (as := [.ref 4, .int a0]) (rest := []) (v := some (.int v13)) (w1 := (hp u fL fD, c, z)) rfl rfl (Nat.le_of_ble_eq_true rfl) ((ev_T_hasSlot_3 hf1713).deep (by decide)) ?_
  refine mg_Ev.br (P := v13 = 0) (t := 32) (nx := 8) (st' := []) rfl rfl rfl rfl (fun hc1714 => ?_) (fun hc1714 => ?_)
  · rw [if_pos hc1714] at h
    cases h
    exact mg_Ev.fin rfl rfl rfl
  · rw [if_neg hc1714] at h
    refine mg_Ev.go 10 (pc' := 24) (loc' := [some (.ref 4), some (.int a0)]) (st' := [.int (a0 * 61), .ref 6, .int 0, .ref 5]) (w' := (hp u fL fD, c, z)) rfl ?_
    refine mg_Ev.go 3 (pc' := 29) (loc' := [some (.ref 4), some (.int a0)]) (st' := [.int 61, .int (a0 * 61), .ref 6, .int 0, .ref 5]) (w' := (hp u fL fD, c, z)) rfl ?_
    by_cases hn1715 : ¬ (0 : Int32) < 0 ∧ ¬ (a0 * 61) < 0 ∧ ¬ (61 : Int32) < 0 ∧ (0 : Int32).toNatClampNeg + (61 : Int32).toNatClampNeg ≤ 61 ∧ (a0 * 61).toNatClampNeg + (61 : Int32).toNatClampNeg ≤ 549
    · rw [if_pos hn1715] at h
      refine mg_Ev.copy rfl (hpg_4 _ _ _) (hpg_5 _ _ _) hn1715 (hpr_5 _ _ _ _ _ _) ?_
      cases h
      exact mg_Ev.fin rfl rfl rfl
    · rw [if_neg hn1715] at h
      cases h

def T_hasSlot_6 (a0 : Int32) (u : mg_Rg) : Option (Int32) :=
  if a0 < 0 then
  some 0
  else
  if 9 ≤ a0 then
    some 0
    else
    if 369 < ((a0 + 1) * 41) then
      some 0
      else
      some 1

set_option maxRecDepth 10000 in
set_option maxHeartbeats 4000000 in
theorem ev_T_hasSlot_6 {sc : mg_Sc} {c z : Nat} {fL : Nat → Int64} {fD : Nat → UInt64} {a0 : Int32} {u : mg_Rg} {v : Int32} (h : T_hasSlot_6 a0 u = some v) : mg_Ev sc 0 192 0 (mg_entry 192 [.ref 7, .int a0]) [] (hp u fL fD, c, z) (.inl (some (.int v)), (hp u fL fD, c, z)) := by
  unfold T_hasSlot_6 at h
  show mg_Ev _ _ _ 0 [some (.ref 7), some (.int a0)] [] _ _
  refine mg_Ev.go 1 (pc' := 1) (loc' := [some (.ref 7), some (.int a0)]) (st' := [.int a0]) (w' := (hp u fL fD, c, z)) rfl ?_
  refine mg_Ev.br (P := a0 < 0) (t := 31) (nx := 4) (st' := []) rfl rfl rfl rfl (fun hc1716 => ?_) (fun hc1716 => ?_)
  · rw [if_pos hc1716] at h
    refine mg_Ev.go 1 (pc' := 32) (loc' := [some (.ref 7), some (.int a0)]) (st' := [.int 0]) (w' := (hp u fL fD, c, z)) rfl ?_
    cases h
    exact mg_Ev.fin rfl rfl rfl
  · rw [if_neg hc1716] at h
    refine mg_Ev.go 2 (pc' := 7) (loc' := [some (.ref 7), some (.int a0)]) (st' := [.int 9, .int a0]) (w' := (hp u fL fD, c, z)) rfl ?_
    refine mg_Ev.br (P := 9 ≤ a0) (t := 31) (nx := 10) (st' := []) rfl rfl rfl rfl (fun hc1717 => ?_) (fun hc1717 => ?_)
    · rw [if_pos hc1717] at h
      refine mg_Ev.go 1 (pc' := 32) (loc' := [some (.ref 7), some (.int a0)]) (st' := [.int 0]) (w' := (hp u fL fD, c, z)) rfl ?_
      cases h
      exact mg_Ev.fin rfl rfl rfl
    · rw [if_neg hc1717] at h
      refine mg_Ev.go 10 (pc' := 24) (loc' := [some (.ref 7), some (.int a0)]) (st' := [.int 369, .int ((a0 + 1) * 41)]) (w' := (hp u fL fD, c, z)) rfl ?_
      refine mg_Ev.br (P := 369 < ((a0 + 1) * 41)) (t := 31) (nx := 27) (st' := []) rfl rfl rfl rfl (fun hc1718 => ?_) (fun hc1718 => ?_)
      · rw [if_pos hc1718] at h
        refine mg_Ev.go 1 (pc' := 32) (loc' := [some (.ref 7), some (.int a0)]) (st' := [.int 0]) (w' := (hp u fL fD, c, z)) rfl ?_
        cases h
        exact mg_Ev.fin rfl rfl rfl
      · rw [if_neg hc1718] at h
        refine mg_Ev.go 2 (pc' := 32) (loc' := [some (.ref 7), some (.int a0)]) (st' := [.int 1]) (w' := (hp u fL fD, c, z)) rfl ?_
        cases h
        exact mg_Ev.fin rfl rfl rfl

def T_keepIn_6 (a0 : Int32) (u : mg_Rg) : Option (mg_Rg) :=
  (T_hasSlot_6 a0 u).bind fun v15 =>
  if v15 = 0 then
  some u
  else
  if ¬ (0 : Int32) < 0 ∧ ¬ (a0 * 41) < 0 ∧ ¬ (41 : Int32) < 0 ∧ (0 : Int32).toNatClampNeg + (41 : Int32).toNatClampNeg ≤ 41 ∧ (a0 * 41).toNatClampNeg + (41 : Int32).toNatClampNeg ≤ 369 then
    some (mg_rw u 8 (va_cpy (u 7) (u 8) (0 : Int32).toNatClampNeg (a0 * 41).toNatClampNeg (41 : Int32).toNatClampNeg))
    else none

set_option maxRecDepth 10000 in
set_option maxHeartbeats 4000000 in
theorem ev_T_keepIn_6 {sc : mg_Sc} {c z : Nat} {fL : Nat → Int64} {fD : Nat → UInt64} {a0 : Int32} {u : mg_Rg} {v : mg_Rg} (h : T_keepIn_6 a0 u = some v) : mg_Ev sc 1 190 0 (mg_entry 190 [.ref 7, .int a0]) [] (hp u fL fD, c, z) (.inl none, (hp v fL fD, c, z)) := by
  unfold T_keepIn_6 at h
  show mg_Ev _ _ _ 0 [some (.ref 7), some (.int a0)] [] _ _
  refine mg_Ev.go 2 (pc' := 2) (loc' := [some (.ref 7), some (.int a0)]) (st' := [.int a0, .ref 7]) (w' := (hp u fL fD, c, z)) rfl ?_
  obtain ⟨v15, hf1719, h⟩ := Option.bind_eq_some_iff.mp h
  refine mg_Ev.call (y := 192) (as := [.ref 7, .int a0]) (rest := []) (v := some (.int v15)) (w1 := (hp u fL fD, c, z)) rfl rfl (Nat.le_of_ble_eq_true rfl) ((ev_T_hasSlot_6 hf1719).deep (by decide)) ?_
  refine mg_Ev.br (P := v15 = 0) (t := 32) (nx := 8) (st' := []) rfl rfl rfl rfl (fun hc1720 => ?_) (fun hc1720 => ?_)
  · rw [if_pos hc1720] at h
    cases h
    exact mg_Ev.fin rfl rfl rfl
  · rw [if_neg hc1720] at h
    refine mg_Ev.go 10 (pc' := 24) (loc' := [some (.ref 7), some (.int a0)]) (st' := [.int (a0 * 41), .ref 9, .int 0, .ref 8]) (w' := (hp u fL fD, c, z)) rfl ?_
    refine mg_Ev.go 3 (pc' := 29) (loc' := [some (.ref 7), some (.int a0)]) (st' := [.int 41, .int (a0 * 41), .ref 9, .int 0, .ref 8]) (w' := (hp u fL fD, c, z)) rfl ?_
    by_cases hn1721 : ¬ (0 : Int32) < 0 ∧ ¬ (a0 * 41) < 0 ∧ ¬ (41 : Int32) < 0 ∧ (0 : Int32).toNatClampNeg + (41 : Int32).toNatClampNeg ≤ 41 ∧ (a0 * 41).toNatClampNeg + (41 : Int32).toNatClampNeg ≤ 369
    · rw [if_pos hn1721] at h
      refine mg_Ev.copy rfl (hpg_7 _ _ _) (hpg_8 _ _ _) hn1721 (hpr_8 _ _ _ _ _ _) ?_
      cases h
      exact mg_Ev.fin rfl rfl rfl
    · rw [if_neg hn1721] at h
      cases h

def T_hasSlot_9 (a0 : Int32) (u : mg_Rg) : Option (Int32) :=
  if a0 < 0 then
  some 0
  else
  if 9 ≤ a0 then
    some 0
    else
    if 171 < ((a0 + 1) * 19) then
      some 0
      else
      some 1

set_option maxRecDepth 10000 in
set_option maxHeartbeats 4000000 in
theorem ev_T_hasSlot_9 {sc : mg_Sc} {c z : Nat} {fL : Nat → Int64} {fD : Nat → UInt64} {a0 : Int32} {u : mg_Rg} {v : Int32} (h : T_hasSlot_9 a0 u = some v) : mg_Ev sc 0 192 0 (mg_entry 192 [.ref 10, .int a0]) [] (hp u fL fD, c, z) (.inl (some (.int v)), (hp u fL fD, c, z)) := by
  unfold T_hasSlot_9 at h
  show mg_Ev _ _ _ 0 [some (.ref 10), some (.int a0)] [] _ _
  refine mg_Ev.go 1 (pc' := 1) (loc' := [some (.ref 10), some (.int a0)]) (st' := [.int a0]) (w' := (hp u fL fD, c, z)) rfl ?_
  refine mg_Ev.br (P := a0 < 0) (t := 31) (nx := 4) (st' := []) rfl rfl rfl rfl (fun hc1722 => ?_) (fun hc1722 => ?_)
  · rw [if_pos hc1722] at h
    refine mg_Ev.go 1 (pc' := 32) (loc' := [some (.ref 10), some (.int a0)]) (st' := [.int 0]) (w' := (hp u fL fD, c, z)) rfl ?_
    cases h
    exact mg_Ev.fin rfl rfl rfl
  · rw [if_neg hc1722] at h
    refine mg_Ev.go 2 (pc' := 7) (loc' := [some (.ref 10), some (.int a0)]) (st' := [.int 9, .int a0]) (w' := (hp u fL fD, c, z)) rfl ?_
    refine mg_Ev.br (P := 9 ≤ a0) (t := 31) (nx := 10) (st' := []) rfl rfl rfl rfl (fun hc1723 => ?_) (fun hc1723 => ?_)
    · rw [if_pos hc1723] at h
      refine mg_Ev.go 1 (pc' := 32) (loc' := [some (.ref 10), some (.int a0)]) (st' := [.int 0]) (w' := (hp u fL fD, c, z)) rfl ?_
      cases h
      exact mg_Ev.fin rfl rfl rfl
    · rw [if_neg hc1723] at h
      refine mg_Ev.go 10 (pc' := 24) (loc' := [some (.ref 10), some (.int a0)]) (st' := [.int 171, .int ((a0 + 1) * 19)]) (w' := (hp u fL fD, c, z)) rfl ?_
      refine mg_Ev.br (P := 171 < ((a0 + 1) * 19)) (t := 31) (nx := 27) (st' := []) rfl rfl rfl rfl (fun hc1724 => ?_) (fun hc1724 => ?_)
      · rw [if_pos hc1724] at h
        refine mg_Ev.go 1 (pc' := 32) (loc' := [some (.ref 10), some (.int a0)]) (st' := [.int 0]) (w' := (hp u fL fD, c, z)) rfl ?_
        cases h
        exact mg_Ev.fin rfl rfl rfl
      · rw [if_neg hc1724] at h
        refine mg_Ev.go 2 (pc' := 32) (loc' := [some (.ref 10), some (.int a0)]) (st' := [.int 1]) (w' := (hp u fL fD, c, z)) rfl ?_
        cases h
        exact mg_Ev.fin rfl rfl rfl

def T_keepIn_9 (a0 : Int32) (u : mg_Rg) : Option (mg_Rg) :=
  (T_hasSlot_9 a0 u).bind fun v17 =>
  if v17 = 0 then
  some u
  else
  if ¬ (0 : Int32) < 0 ∧ ¬ (a0 * 19) < 0 ∧ ¬ (19 : Int32) < 0 ∧ (0 : Int32).toNatClampNeg + (19 : Int32).toNatClampNeg ≤ 19 ∧ (a0 * 19).toNatClampNeg + (19 : Int32).toNatClampNeg ≤ 171 then
    some (mg_rw u 11 (va_cpy (u 10) (u 11) (0 : Int32).toNatClampNeg (a0 * 19).toNatClampNeg (19 : Int32).toNatClampNeg))
    else none

set_option maxRecDepth 10000 in
set_option maxHeartbeats 4000000 in
theorem ev_T_keepIn_9 {sc : mg_Sc} {c z : Nat} {fL : Nat → Int64} {fD : Nat → UInt64} {a0 : Int32} {u : mg_Rg} {v : mg_Rg} (h : T_keepIn_9 a0 u = some v) : mg_Ev sc 1 190 0 (mg_entry 190 [.ref 10, .int a0]) [] (hp u fL fD, c, z) (.inl none, (hp v fL fD, c, z)) := by
  unfold T_keepIn_9 at h
  show mg_Ev _ _ _ 0 [some (.ref 10), some (.int a0)] [] _ _
  refine mg_Ev.go 2 (pc' := 2) (loc' := [some (.ref 10), some (.int a0)]) (st' := [.int a0, .ref 10]) (w' := (hp u fL fD, c, z)) rfl ?_
  obtain ⟨v17, hf1725, h⟩ := Option.bind_eq_some_iff.mp h
  refine mg_Ev.call (y := 192) (as := [.ref 10, .int a0]) (rest := []) (v := some (.int v17)) (w1 := (hp u fL fD, c, z)) rfl rfl (Nat.le_of_ble_eq_true rfl) ((ev_T_hasSlot_9 hf1725).deep (by decide)) ?_
  refine mg_Ev.br (P := v17 = 0) (t := 32) (nx := 8) (st' := []) rfl rfl rfl rfl (fun hc1726 => ?_) (fun hc1726 => ?_)
  · rw [if_pos hc1726] at h
    cases h
    exact mg_Ev.fin rfl rfl rfl
  · rw [if_neg hc1726] at h
    refine mg_Ev.go 10 (pc' := 24) (loc' := [some (.ref 10), some (.int a0)]) (st' := [.int (a0 * 19), .ref 12, .int 0, .ref 11]) (w' := (hp u fL fD, c, z)) rfl ?_
    refine mg_Ev.go 3 (pc' := 29) (loc' := [some (.ref 10), some (.int a0)]) (st' := [.int 19, .int (a0 * 19), .ref 12, .int 0, .ref 11]) (w' := (hp u fL fD, c, z)) rfl ?_
    by_cases hn1727 : ¬ (0 : Int32) < 0 ∧ ¬ (a0 * 19) < 0 ∧ ¬ (19 : Int32) < 0 ∧ (0 : Int32).toNatClampNeg + (19 : Int32).toNatClampNeg ≤ 19 ∧ (a0 * 19).toNatClampNeg + (19 : Int32).toNatClampNeg ≤ 171
    · rw [if_pos hn1727] at h
      refine mg_Ev.copy rfl (hpg_10 _ _ _) (hpg_11 _ _ _) hn1727 (hpr_11 _ _ _ _ _ _) ?_
      cases h
      exact mg_Ev.fin rfl rfl rfl
    · rw [if_neg hn1727] at h
      cases h

def T_hasSlot_12 (a0 : Int32) (u : mg_Rg) : Option (Int32) :=
  if a0 < 0 then
  some 0
  else
  if 9 ≤ a0 then
    some 0
    else
    if 36 < ((a0 + 1) * 4) then
      some 0
      else
      some 1

set_option maxRecDepth 10000 in
set_option maxHeartbeats 4000000 in
theorem ev_T_hasSlot_12 {sc : mg_Sc} {c z : Nat} {fL : Nat → Int64} {fD : Nat → UInt64} {a0 : Int32} {u : mg_Rg} {v : Int32} (h : T_hasSlot_12 a0 u = some v) : mg_Ev sc 0 192 0 (mg_entry 192 [.ref 13, .int a0]) [] (hp u fL fD, c, z) (.inl (some (.int v)), (hp u fL fD, c, z)) := by
  unfold T_hasSlot_12 at h
  show mg_Ev _ _ _ 0 [some (.ref 13), some (.int a0)] [] _ _
  refine mg_Ev.go 1 (pc' := 1) (loc' := [some (.ref 13), some (.int a0)]) (st' := [.int a0]) (w' := (hp u fL fD, c, z)) rfl ?_
  refine mg_Ev.br (P := a0 < 0) (t := 31) (nx := 4) (st' := []) rfl rfl rfl rfl (fun hc1728 => ?_) (fun hc1728 => ?_)
  · rw [if_pos hc1728] at h
    refine mg_Ev.go 1 (pc' := 32) (loc' := [some (.ref 13), some (.int a0)]) (st' := [.int 0]) (w' := (hp u fL fD, c, z)) rfl ?_
    cases h
    exact mg_Ev.fin rfl rfl rfl
  · rw [if_neg hc1728] at h
    refine mg_Ev.go 2 (pc' := 7) (loc' := [some (.ref 13), some (.int a0)]) (st' := [.int 9, .int a0]) (w' := (hp u fL fD, c, z)) rfl ?_
    refine mg_Ev.br (P := 9 ≤ a0) (t := 31) (nx := 10) (st' := []) rfl rfl rfl rfl (fun hc1729 => ?_) (fun hc1729 => ?_)
    · rw [if_pos hc1729] at h
      refine mg_Ev.go 1 (pc' := 32) (loc' := [some (.ref 13), some (.int a0)]) (st' := [.int 0]) (w' := (hp u fL fD, c, z)) rfl ?_
      cases h
      exact mg_Ev.fin rfl rfl rfl
    · rw [if_neg hc1729] at h
      refine mg_Ev.go 10 (pc' := 24) (loc' := [some (.ref 13), some (.int a0)]) (st' := [.int 36, .int ((a0 + 1) * 4)]) (w' := (hp u fL fD, c, z)) rfl ?_
      refine mg_Ev.br (P := 36 < ((a0 + 1) * 4)) (t := 31) (nx := 27) (st' := []) rfl rfl rfl rfl (fun hc1730 => ?_) (fun hc1730 => ?_)
      · rw [if_pos hc1730] at h
        refine mg_Ev.go 1 (pc' := 32) (loc' := [some (.ref 13), some (.int a0)]) (st' := [.int 0]) (w' := (hp u fL fD, c, z)) rfl ?_
        cases h
        exact mg_Ev.fin rfl rfl rfl
      · rw [if_neg hc1730] at h
        refine mg_Ev.go 2 (pc' := 32) (loc' := [some (.ref 13), some (.int a0)]) (st' := [.int 1]) (w' := (hp u fL fD, c, z)) rfl ?_
        cases h
        exact mg_Ev.fin rfl rfl rfl

def T_keepIn_12 (a0 : Int32) (u : mg_Rg) : Option (mg_Rg) :=
  (T_hasSlot_12 a0 u).bind fun v19 =>
  if v19 = 0 then
  some u
  else
  if ¬ (0 : Int32) < 0 ∧ ¬ (a0 * 4) < 0 ∧ ¬ (4 : Int32) < 0 ∧ (0 : Int32).toNatClampNeg + (4 : Int32).toNatClampNeg ≤ 4 ∧ (a0 * 4).toNatClampNeg + (4 : Int32).toNatClampNeg ≤ 36 then
    some (mg_rw u 14 (va_cpy (u 13) (u 14) (0 : Int32).toNatClampNeg (a0 * 4).toNatClampNeg (4 : Int32).toNatClampNeg))
    else none

set_option maxRecDepth 10000 in
set_option maxHeartbeats 4000000 in
theorem ev_T_keepIn_12 {sc : mg_Sc} {c z : Nat} {fL : Nat → Int64} {fD : Nat → UInt64} {a0 : Int32} {u : mg_Rg} {v : mg_Rg} (h : T_keepIn_12 a0 u = some v) : mg_Ev sc 1 190 0 (mg_entry 190 [.ref 13, .int a0]) [] (hp u fL fD, c, z) (.inl none, (hp v fL fD, c, z)) := by
  unfold T_keepIn_12 at h
  show mg_Ev _ _ _ 0 [some (.ref 13), some (.int a0)] [] _ _
  refine mg_Ev.go 2 (pc' := 2) (loc' := [some (.ref 13), some (.int a0)]) (st' := [.int a0, .ref 13]) (w' := (hp u fL fD, c, z)) rfl ?_
  obtain ⟨v19, hf1731, h⟩ := Option.bind_eq_some_iff.mp h
  refine mg_Ev.call (y := 192) (as := [.ref 13, .int a0]) (rest := []) (v := some (.int v19)) (w1 := (hp u fL fD, c, z)) rfl rfl (Nat.le_of_ble_eq_true rfl) ((ev_T_hasSlot_12 hf1731).deep (by decide)) ?_
  refine mg_Ev.br (P := v19 = 0) (t := 32) (nx := 8) (st' := []) rfl rfl rfl rfl (fun hc1732 => ?_) (fun hc1732 => ?_)
  · rw [if_pos hc1732] at h
    cases h
    exact mg_Ev.fin rfl rfl rfl
  · rw [if_neg hc1732] at h
    refine mg_Ev.go 10 (pc' := 24) (loc' := [some (.ref 13), some (.int a0)]) (st' := [.int (a0 * 4), .ref 15, .int 0, .ref 14]) (w' := (hp u fL fD, c, z)) rfl ?_
    refine mg_Ev.go 3 (pc' := 29) (loc' := [some (.ref 13), some (.int a0)]) (st' := [.int 4, .int (a0 * 4), .ref 15, .int 0, .ref 14]) (w' := (hp u fL fD, c, z)) rfl ?_
    by_cases hn1733 : ¬ (0 : Int32) < 0 ∧ ¬ (a0 * 4) < 0 ∧ ¬ (4 : Int32) < 0 ∧ (0 : Int32).toNatClampNeg + (4 : Int32).toNatClampNeg ≤ 4 ∧ (a0 * 4).toNatClampNeg + (4 : Int32).toNatClampNeg ≤ 36
    · rw [if_pos hn1733] at h
      refine mg_Ev.copy rfl (hpg_13 _ _ _) (hpg_14 _ _ _) hn1733 (hpr_14 _ _ _ _ _ _) ?_
      cases h
      exact mg_Ev.fin rfl rfl rfl
    · rw [if_neg hn1733] at h
      cases h

def Tf_keepIn (a0 : Int32) (u : mg_Rg) : Option (mg_Rg) :=
  (T_keepIn_3 a0 u).bind fun u14 =>
  (T_keepIn_6 a0 u14).bind fun u16 =>
  (T_keepIn_9 a0 u16).bind fun u18 =>
  (T_keepIn_12 a0 u18).bind fun u20 =>
  some u20

set_option maxRecDepth 10000 in
set_option maxHeartbeats 4000000 in
theorem ev_Tf_keepIn {sc : mg_Sc} {c z : Nat} {fL : Nat → Int64} {fD : Nat → UInt64} {a0 : Int32} {u : mg_Rg} {v : mg_Rg} (h : Tf_keepIn a0 u = some v) : mg_Ev sc 2 206 0 (mg_entry 206 [.ref 3, .int a0]) [] (hp u fL fD, c, z) (.inl none, (hp v fL fD, c, z)) := by
  unfold Tf_keepIn at h
  show mg_Ev _ _ _ 0 [some (.ref 3), some (.int a0)] [] _ _
  refine mg_Ev.go 3 (pc' := 5) (loc' := [some (.ref 3), some (.int a0)]) (st' := [.int a0, .ref 4]) (w' := (hp u fL fD, c, z)) rfl ?_
  obtain ⟨u14, hf1734, h⟩ := Option.bind_eq_some_iff.mp h
  refine mg_Ev.call (y := 190) (as := [.ref 4, .int a0]) (rest := []) (v := none) (w1 := (hp u14 fL fD, c, z)) rfl rfl (Nat.le_of_ble_eq_true rfl) ((ev_T_keepIn_3 hf1734).deep (by decide)) ?_
  refine mg_Ev.go 3 (pc' := 13) (loc' := [some (.ref 3), some (.int a0)]) (st' := [.int a0, .ref 7]) (w' := (hp u14 fL fD, c, z)) rfl ?_
  obtain ⟨u16, hf1735, h⟩ := Option.bind_eq_some_iff.mp h
  refine mg_Ev.call (y := 190) (as := [.ref 7, .int a0]) (rest := []) (v := none) (w1 := (hp u16 fL fD, c, z)) rfl rfl (Nat.le_of_ble_eq_true rfl) ((ev_T_keepIn_6 hf1735).deep (by decide)) ?_
  refine mg_Ev.go 3 (pc' := 21) (loc' := [some (.ref 3), some (.int a0)]) (st' := [.int a0, .ref 10]) (w' := (hp u16 fL fD, c, z)) rfl ?_
  obtain ⟨u18, hf1736, h⟩ := Option.bind_eq_some_iff.mp h
  refine mg_Ev.call (y := 190) (as := [.ref 10, .int a0]) (rest := []) (v := none) (w1 := (hp u18 fL fD, c, z)) rfl rfl (Nat.le_of_ble_eq_true rfl) ((ev_T_keepIn_9 hf1736).deep (by decide)) ?_
  refine mg_Ev.go 3 (pc' := 29) (loc' := [some (.ref 3), some (.int a0)]) (st' := [.int a0, .ref 13]) (w' := (hp u18 fL fD, c, z)) rfl ?_
  obtain ⟨u20, hf1737, h⟩ := Option.bind_eq_some_iff.mp h
  refine mg_Ev.call (y := 190) (as := [.ref 13, .int a0]) (rest := []) (v := none) (w1 := (hp u20 fL fD, c, z)) rfl rfl (Nat.le_of_ble_eq_true rfl) ((ev_T_keepIn_12 hf1737).deep (by decide)) ?_
  cases h
  exact mg_Ev.fin rfl rfl rfl

def T_hasSlot_16 (a0 : Int32) (u : mg_Rg) : Option (Int32) :=
  if a0 < 0 then
  some 0
  else
  if 9 ≤ a0 then
    some 0
    else
    if 36 < ((a0 + 1) * 4) then
      some 0
      else
      some 1

set_option maxRecDepth 10000 in
set_option maxHeartbeats 4000000 in
theorem ev_T_hasSlot_16 {sc : mg_Sc} {c z : Nat} {fL : Nat → Int64} {fD : Nat → UInt64} {a0 : Int32} {u : mg_Rg} {v : Int32} (h : T_hasSlot_16 a0 u = some v) : mg_Ev sc 0 192 0 (mg_entry 192 [.ref 17, .int a0]) [] (hp u fL fD, c, z) (.inl (some (.int v)), (hp u fL fD, c, z)) := by
  unfold T_hasSlot_16 at h
  show mg_Ev _ _ _ 0 [some (.ref 17), some (.int a0)] [] _ _
  refine mg_Ev.go 1 (pc' := 1) (loc' := [some (.ref 17), some (.int a0)]) (st' := [.int a0]) (w' := (hp u fL fD, c, z)) rfl ?_
  refine mg_Ev.br (P := a0 < 0) (t := 31) (nx := 4) (st' := []) rfl rfl rfl rfl (fun hc1738 => ?_) (fun hc1738 => ?_)
  · rw [if_pos hc1738] at h
    refine mg_Ev.go 1 (pc' := 32) (loc' := [some (.ref 17), some (.int a0)]) (st' := [.int 0]) (w' := (hp u fL fD, c, z)) rfl ?_
    cases h
    exact mg_Ev.fin rfl rfl rfl
  · rw [if_neg hc1738] at h
    refine mg_Ev.go 2 (pc' := 7) (loc' := [some (.ref 17), some (.int a0)]) (st' := [.int 9, .int a0]) (w' := (hp u fL fD, c, z)) rfl ?_
    refine mg_Ev.br (P := 9 ≤ a0) (t := 31) (nx := 10) (st' := []) rfl rfl rfl rfl (fun hc1739 => ?_) (fun hc1739 => ?_)
    · rw [if_pos hc1739] at h
      refine mg_Ev.go 1 (pc' := 32) (loc' := [some (.ref 17), some (.int a0)]) (st' := [.int 0]) (w' := (hp u fL fD, c, z)) rfl ?_
      cases h
      exact mg_Ev.fin rfl rfl rfl
    · rw [if_neg hc1739] at h
      refine mg_Ev.go 10 (pc' := 24) (loc' := [some (.ref 17), some (.int a0)]) (st' := [.int 36, .int ((a0 + 1) * 4)]) (w' := (hp u fL fD, c, z)) rfl ?_
      refine mg_Ev.br (P := 36 < ((a0 + 1) * 4)) (t := 31) (nx := 27) (st' := []) rfl rfl rfl rfl (fun hc1740 => ?_) (fun hc1740 => ?_)
      · rw [if_pos hc1740] at h
        refine mg_Ev.go 1 (pc' := 32) (loc' := [some (.ref 17), some (.int a0)]) (st' := [.int 0]) (w' := (hp u fL fD, c, z)) rfl ?_
        cases h
        exact mg_Ev.fin rfl rfl rfl
      · rw [if_neg hc1740] at h
        refine mg_Ev.go 2 (pc' := 32) (loc' := [some (.ref 17), some (.int a0)]) (st' := [.int 1]) (w' := (hp u fL fD, c, z)) rfl ?_
        cases h
        exact mg_Ev.fin rfl rfl rfl

def T_keepIn_16 (a0 : Int32) (u : mg_Rg) : Option (mg_Rg) :=
  (T_hasSlot_16 a0 u).bind fun v22 =>
  if v22 = 0 then
  some u
  else
  if ¬ (0 : Int32) < 0 ∧ ¬ (a0 * 4) < 0 ∧ ¬ (4 : Int32) < 0 ∧ (0 : Int32).toNatClampNeg + (4 : Int32).toNatClampNeg ≤ 4 ∧ (a0 * 4).toNatClampNeg + (4 : Int32).toNatClampNeg ≤ 36 then
    some (mg_rw u 18 (va_cpy (u 17) (u 18) (0 : Int32).toNatClampNeg (a0 * 4).toNatClampNeg (4 : Int32).toNatClampNeg))
    else none

set_option maxRecDepth 10000 in
set_option maxHeartbeats 4000000 in
theorem ev_T_keepIn_16 {sc : mg_Sc} {c z : Nat} {fL : Nat → Int64} {fD : Nat → UInt64} {a0 : Int32} {u : mg_Rg} {v : mg_Rg} (h : T_keepIn_16 a0 u = some v) : mg_Ev sc 1 190 0 (mg_entry 190 [.ref 17, .int a0]) [] (hp u fL fD, c, z) (.inl none, (hp v fL fD, c, z)) := by
  unfold T_keepIn_16 at h
  show mg_Ev _ _ _ 0 [some (.ref 17), some (.int a0)] [] _ _
  refine mg_Ev.go 2 (pc' := 2) (loc' := [some (.ref 17), some (.int a0)]) (st' := [.int a0, .ref 17]) (w' := (hp u fL fD, c, z)) rfl ?_
  obtain ⟨v22, hf1741, h⟩ := Option.bind_eq_some_iff.mp h
  refine mg_Ev.call (y := 192) (as := [.ref 17, .int a0]) (rest := []) (v := some (.int v22)) (w1 := (hp u fL fD, c, z)) rfl rfl (Nat.le_of_ble_eq_true rfl) ((ev_T_hasSlot_16 hf1741).deep (by decide)) ?_
  refine mg_Ev.br (P := v22 = 0) (t := 32) (nx := 8) (st' := []) rfl rfl rfl rfl (fun hc1742 => ?_) (fun hc1742 => ?_)
  · rw [if_pos hc1742] at h
    cases h
    exact mg_Ev.fin rfl rfl rfl
  · rw [if_neg hc1742] at h
    refine mg_Ev.go 10 (pc' := 24) (loc' := [some (.ref 17), some (.int a0)]) (st' := [.int (a0 * 4), .ref 19, .int 0, .ref 18]) (w' := (hp u fL fD, c, z)) rfl ?_
    refine mg_Ev.go 3 (pc' := 29) (loc' := [some (.ref 17), some (.int a0)]) (st' := [.int 4, .int (a0 * 4), .ref 19, .int 0, .ref 18]) (w' := (hp u fL fD, c, z)) rfl ?_
    by_cases hn1743 : ¬ (0 : Int32) < 0 ∧ ¬ (a0 * 4) < 0 ∧ ¬ (4 : Int32) < 0 ∧ (0 : Int32).toNatClampNeg + (4 : Int32).toNatClampNeg ≤ 4 ∧ (a0 * 4).toNatClampNeg + (4 : Int32).toNatClampNeg ≤ 36
    · rw [if_pos hn1743] at h
      refine mg_Ev.copy rfl (hpg_17 _ _ _) (hpg_18 _ _ _) hn1743 (hpr_18 _ _ _ _ _ _) ?_
      cases h
      exact mg_Ev.fin rfl rfl rfl
    · rw [if_neg hn1743] at h
      cases h

def T_hasSlot_19 (a0 : Int32) (u : mg_Rg) : Option (Int32) :=
  if a0 < 0 then
  some 0
  else
  if 9 ≤ a0 then
    some 0
    else
    if 81 < ((a0 + 1) * 9) then
      some 0
      else
      some 1

set_option maxRecDepth 10000 in
set_option maxHeartbeats 4000000 in
theorem ev_T_hasSlot_19 {sc : mg_Sc} {c z : Nat} {fL : Nat → Int64} {fD : Nat → UInt64} {a0 : Int32} {u : mg_Rg} {v : Int32} (h : T_hasSlot_19 a0 u = some v) : mg_Ev sc 0 192 0 (mg_entry 192 [.ref 20, .int a0]) [] (hp u fL fD, c, z) (.inl (some (.int v)), (hp u fL fD, c, z)) := by
  unfold T_hasSlot_19 at h
  show mg_Ev _ _ _ 0 [some (.ref 20), some (.int a0)] [] _ _
  refine mg_Ev.go 1 (pc' := 1) (loc' := [some (.ref 20), some (.int a0)]) (st' := [.int a0]) (w' := (hp u fL fD, c, z)) rfl ?_
  refine mg_Ev.br (P := a0 < 0) (t := 31) (nx := 4) (st' := []) rfl rfl rfl rfl (fun hc1744 => ?_) (fun hc1744 => ?_)
  · rw [if_pos hc1744] at h
    refine mg_Ev.go 1 (pc' := 32) (loc' := [some (.ref 20), some (.int a0)]) (st' := [.int 0]) (w' := (hp u fL fD, c, z)) rfl ?_
    cases h
    exact mg_Ev.fin rfl rfl rfl
  · rw [if_neg hc1744] at h
    refine mg_Ev.go 2 (pc' := 7) (loc' := [some (.ref 20), some (.int a0)]) (st' := [.int 9, .int a0]) (w' := (hp u fL fD, c, z)) rfl ?_
    refine mg_Ev.br (P := 9 ≤ a0) (t := 31) (nx := 10) (st' := []) rfl rfl rfl rfl (fun hc1745 => ?_) (fun hc1745 => ?_)
    · rw [if_pos hc1745] at h
      refine mg_Ev.go 1 (pc' := 32) (loc' := [some (.ref 20), some (.int a0)]) (st' := [.int 0]) (w' := (hp u fL fD, c, z)) rfl ?_
      cases h
      exact mg_Ev.fin rfl rfl rfl
    · rw [if_neg hc1745] at h
      refine mg_Ev.go 10 (pc' := 24) (loc' := [some (.ref 20), some (.int a0)]) (st' := [.int 81, .int ((a0 + 1) * 9)]) (w' := (hp u fL fD, c, z)) rfl ?_
      refine mg_Ev.br (P := 81 < ((a0 + 1) * 9)) (t := 31) (nx := 27) (st' := []) rfl rfl rfl rfl (fun hc1746 => ?_) (fun hc1746 => ?_)
      · rw [if_pos hc1746] at h
        refine mg_Ev.go 1 (pc' := 32) (loc' := [some (.ref 20), some (.int a0)]) (st' := [.int 0]) (w' := (hp u fL fD, c, z)) rfl ?_
        cases h
        exact mg_Ev.fin rfl rfl rfl
      · rw [if_neg hc1746] at h
        refine mg_Ev.go 2 (pc' := 32) (loc' := [some (.ref 20), some (.int a0)]) (st' := [.int 1]) (w' := (hp u fL fD, c, z)) rfl ?_
        cases h
        exact mg_Ev.fin rfl rfl rfl

def T_keepIn_19 (a0 : Int32) (u : mg_Rg) : Option (mg_Rg) :=
  (T_hasSlot_19 a0 u).bind fun v24 =>
  if v24 = 0 then
  some u
  else
  if ¬ (0 : Int32) < 0 ∧ ¬ (a0 * 9) < 0 ∧ ¬ (9 : Int32) < 0 ∧ (0 : Int32).toNatClampNeg + (9 : Int32).toNatClampNeg ≤ 9 ∧ (a0 * 9).toNatClampNeg + (9 : Int32).toNatClampNeg ≤ 81 then
    some (mg_rw u 21 (va_cpy (u 20) (u 21) (0 : Int32).toNatClampNeg (a0 * 9).toNatClampNeg (9 : Int32).toNatClampNeg))
    else none

set_option maxRecDepth 10000 in
set_option maxHeartbeats 4000000 in
theorem ev_T_keepIn_19 {sc : mg_Sc} {c z : Nat} {fL : Nat → Int64} {fD : Nat → UInt64} {a0 : Int32} {u : mg_Rg} {v : mg_Rg} (h : T_keepIn_19 a0 u = some v) : mg_Ev sc 1 190 0 (mg_entry 190 [.ref 20, .int a0]) [] (hp u fL fD, c, z) (.inl none, (hp v fL fD, c, z)) := by
  unfold T_keepIn_19 at h
  show mg_Ev _ _ _ 0 [some (.ref 20), some (.int a0)] [] _ _
  refine mg_Ev.go 2 (pc' := 2) (loc' := [some (.ref 20), some (.int a0)]) (st' := [.int a0, .ref 20]) (w' := (hp u fL fD, c, z)) rfl ?_
  obtain ⟨v24, hf1747, h⟩ := Option.bind_eq_some_iff.mp h
  refine mg_Ev.call (y := 192) (as := [.ref 20, .int a0]) (rest := []) (v := some (.int v24)) (w1 := (hp u fL fD, c, z)) rfl rfl (Nat.le_of_ble_eq_true rfl) ((ev_T_hasSlot_19 hf1747).deep (by decide)) ?_
  refine mg_Ev.br (P := v24 = 0) (t := 32) (nx := 8) (st' := []) rfl rfl rfl rfl (fun hc1748 => ?_) (fun hc1748 => ?_)
  · rw [if_pos hc1748] at h
    cases h
    exact mg_Ev.fin rfl rfl rfl
  · rw [if_neg hc1748] at h
    refine mg_Ev.go 10 (pc' := 24) (loc' := [some (.ref 20), some (.int a0)]) (st' := [.int (a0 * 9), .ref 22, .int 0, .ref 21]) (w' := (hp u fL fD, c, z)) rfl ?_
    refine mg_Ev.go 3 (pc' := 29) (loc' := [some (.ref 20), some (.int a0)]) (st' := [.int 9, .int (a0 * 9), .ref 22, .int 0, .ref 21]) (w' := (hp u fL fD, c, z)) rfl ?_
    by_cases hn1749 : ¬ (0 : Int32) < 0 ∧ ¬ (a0 * 9) < 0 ∧ ¬ (9 : Int32) < 0 ∧ (0 : Int32).toNatClampNeg + (9 : Int32).toNatClampNeg ≤ 9 ∧ (a0 * 9).toNatClampNeg + (9 : Int32).toNatClampNeg ≤ 81
    · rw [if_pos hn1749] at h
      refine mg_Ev.copy rfl (hpg_20 _ _ _) (hpg_21 _ _ _) hn1749 (hpr_21 _ _ _ _ _ _) ?_
      cases h
      exact mg_Ev.fin rfl rfl rfl
    · rw [if_neg hn1749] at h
      cases h

def Lg_keepIn (a0 : Int32) (u : mg_Rg) : Option (mg_Rg) :=
  (T_keepIn_16 a0 u).bind fun u23 =>
  (T_keepIn_19 a0 u23).bind fun u25 =>
  some u25

set_option maxRecDepth 10000 in
set_option maxHeartbeats 4000000 in
theorem ev_Lg_keepIn {sc : mg_Sc} {c z : Nat} {fL : Nat → Int64} {fD : Nat → UInt64} {a0 : Int32} {u : mg_Rg} {v : mg_Rg} (h : Lg_keepIn a0 u = some v) : mg_Ev sc 2 149 0 (mg_entry 149 [.ref 16, .int a0]) [] (hp u fL fD, c, z) (.inl none, (hp v fL fD, c, z)) := by
  unfold Lg_keepIn at h
  show mg_Ev _ _ _ 0 [some (.ref 16), some (.int a0)] [] _ _
  refine mg_Ev.go 3 (pc' := 5) (loc' := [some (.ref 16), some (.int a0)]) (st' := [.int a0, .ref 17]) (w' := (hp u fL fD, c, z)) rfl ?_
  obtain ⟨u23, hf1750, h⟩ := Option.bind_eq_some_iff.mp h
  refine mg_Ev.call (y := 190) (as := [.ref 17, .int a0]) (rest := []) (v := none) (w1 := (hp u23 fL fD, c, z)) rfl rfl (Nat.le_of_ble_eq_true rfl) ((ev_T_keepIn_16 hf1750).deep (by decide)) ?_
  refine mg_Ev.go 3 (pc' := 13) (loc' := [some (.ref 16), some (.int a0)]) (st' := [.int a0, .ref 20]) (w' := (hp u23 fL fD, c, z)) rfl ?_
  obtain ⟨u25, hf1751, h⟩ := Option.bind_eq_some_iff.mp h
  refine mg_Ev.call (y := 190) (as := [.ref 20, .int a0]) (rest := []) (v := none) (w1 := (hp u25 fL fD, c, z)) rfl rfl (Nat.le_of_ble_eq_true rfl) ((ev_T_keepIn_19 hf1751).deep (by decide)) ?_
  cases h
  exact mg_Ev.fin rfl rfl rfl

def T_hasSlot_22 (a0 : Int32) (u : mg_Rg) : Option (Int32) :=
  if a0 < 0 then
  some 0
  else
  if 9 ≤ a0 then
    some 0
    else
    if 495 < ((a0 + 1) * 55) then
      some 0
      else
      some 1

set_option maxRecDepth 10000 in
set_option maxHeartbeats 4000000 in
theorem ev_T_hasSlot_22 {sc : mg_Sc} {c z : Nat} {fL : Nat → Int64} {fD : Nat → UInt64} {a0 : Int32} {u : mg_Rg} {v : Int32} (h : T_hasSlot_22 a0 u = some v) : mg_Ev sc 0 192 0 (mg_entry 192 [.ref 23, .int a0]) [] (hp u fL fD, c, z) (.inl (some (.int v)), (hp u fL fD, c, z)) := by
  unfold T_hasSlot_22 at h
  show mg_Ev _ _ _ 0 [some (.ref 23), some (.int a0)] [] _ _
  refine mg_Ev.go 1 (pc' := 1) (loc' := [some (.ref 23), some (.int a0)]) (st' := [.int a0]) (w' := (hp u fL fD, c, z)) rfl ?_
  refine mg_Ev.br (P := a0 < 0) (t := 31) (nx := 4) (st' := []) rfl rfl rfl rfl (fun hc1752 => ?_) (fun hc1752 => ?_)
  · rw [if_pos hc1752] at h
    refine mg_Ev.go 1 (pc' := 32) (loc' := [some (.ref 23), some (.int a0)]) (st' := [.int 0]) (w' := (hp u fL fD, c, z)) rfl ?_
    cases h
    exact mg_Ev.fin rfl rfl rfl
  · rw [if_neg hc1752] at h
    refine mg_Ev.go 2 (pc' := 7) (loc' := [some (.ref 23), some (.int a0)]) (st' := [.int 9, .int a0]) (w' := (hp u fL fD, c, z)) rfl ?_
    refine mg_Ev.br (P := 9 ≤ a0) (t := 31) (nx := 10) (st' := []) rfl rfl rfl rfl (fun hc1753 => ?_) (fun hc1753 => ?_)
    · rw [if_pos hc1753] at h
      refine mg_Ev.go 1 (pc' := 32) (loc' := [some (.ref 23), some (.int a0)]) (st' := [.int 0]) (w' := (hp u fL fD, c, z)) rfl ?_
      cases h
      exact mg_Ev.fin rfl rfl rfl
    · rw [if_neg hc1753] at h
      refine mg_Ev.go 10 (pc' := 24) (loc' := [some (.ref 23), some (.int a0)]) (st' := [.int 495, .int ((a0 + 1) * 55)]) (w' := (hp u fL fD, c, z)) rfl ?_
      refine mg_Ev.br (P := 495 < ((a0 + 1) * 55)) (t := 31) (nx := 27) (st' := []) rfl rfl rfl rfl (fun hc1754 => ?_) (fun hc1754 => ?_)
      · rw [if_pos hc1754] at h
        refine mg_Ev.go 1 (pc' := 32) (loc' := [some (.ref 23), some (.int a0)]) (st' := [.int 0]) (w' := (hp u fL fD, c, z)) rfl ?_
        cases h
        exact mg_Ev.fin rfl rfl rfl
      · rw [if_neg hc1754] at h
        refine mg_Ev.go 2 (pc' := 32) (loc' := [some (.ref 23), some (.int a0)]) (st' := [.int 1]) (w' := (hp u fL fD, c, z)) rfl ?_
        cases h
        exact mg_Ev.fin rfl rfl rfl

def T_keepIn_22 (a0 : Int32) (u : mg_Rg) : Option (mg_Rg) :=
  (T_hasSlot_22 a0 u).bind fun v27 =>
  if v27 = 0 then
  some u
  else
  if ¬ (0 : Int32) < 0 ∧ ¬ (a0 * 55) < 0 ∧ ¬ (55 : Int32) < 0 ∧ (0 : Int32).toNatClampNeg + (55 : Int32).toNatClampNeg ≤ 55 ∧ (a0 * 55).toNatClampNeg + (55 : Int32).toNatClampNeg ≤ 495 then
    some (mg_rw u 24 (va_cpy (u 23) (u 24) (0 : Int32).toNatClampNeg (a0 * 55).toNatClampNeg (55 : Int32).toNatClampNeg))
    else none

set_option maxRecDepth 10000 in
set_option maxHeartbeats 4000000 in
theorem ev_T_keepIn_22 {sc : mg_Sc} {c z : Nat} {fL : Nat → Int64} {fD : Nat → UInt64} {a0 : Int32} {u : mg_Rg} {v : mg_Rg} (h : T_keepIn_22 a0 u = some v) : mg_Ev sc 1 190 0 (mg_entry 190 [.ref 23, .int a0]) [] (hp u fL fD, c, z) (.inl none, (hp v fL fD, c, z)) := by
  unfold T_keepIn_22 at h
  show mg_Ev _ _ _ 0 [some (.ref 23), some (.int a0)] [] _ _
  refine mg_Ev.go 2 (pc' := 2) (loc' := [some (.ref 23), some (.int a0)]) (st' := [.int a0, .ref 23]) (w' := (hp u fL fD, c, z)) rfl ?_
  obtain ⟨v27, hf1755, h⟩ := Option.bind_eq_some_iff.mp h
  refine mg_Ev.call (y := 192) (as := [.ref 23, .int a0]) (rest := []) (v := some (.int v27)) (w1 := (hp u fL fD, c, z)) rfl rfl (Nat.le_of_ble_eq_true rfl) ((ev_T_hasSlot_22 hf1755).deep (by decide)) ?_
  refine mg_Ev.br (P := v27 = 0) (t := 32) (nx := 8) (st' := []) rfl rfl rfl rfl (fun hc1756 => ?_) (fun hc1756 => ?_)
  · rw [if_pos hc1756] at h
    cases h
    exact mg_Ev.fin rfl rfl rfl
  · rw [if_neg hc1756] at h
    refine mg_Ev.go 10 (pc' := 24) (loc' := [some (.ref 23), some (.int a0)]) (st' := [.int (a0 * 55), .ref 25, .int 0, .ref 24]) (w' := (hp u fL fD, c, z)) rfl ?_
    refine mg_Ev.go 3 (pc' := 29) (loc' := [some (.ref 23), some (.int a0)]) (st' := [.int 55, .int (a0 * 55), .ref 25, .int 0, .ref 24]) (w' := (hp u fL fD, c, z)) rfl ?_
    by_cases hn1757 : ¬ (0 : Int32) < 0 ∧ ¬ (a0 * 55) < 0 ∧ ¬ (55 : Int32) < 0 ∧ (0 : Int32).toNatClampNeg + (55 : Int32).toNatClampNeg ≤ 55 ∧ (a0 * 55).toNatClampNeg + (55 : Int32).toNatClampNeg ≤ 495
    · rw [if_pos hn1757] at h
      refine mg_Ev.copy rfl (hpg_23 _ _ _) (hpg_24 _ _ _) hn1757 (hpr_24 _ _ _ _ _ _) ?_
      cases h
      exact mg_Ev.fin rfl rfl rfl
    · rw [if_neg hn1757] at h
      cases h

def T_hasSlot_25 (a0 : Int32) (u : mg_Rg) : Option (Int32) :=
  if a0 < 0 then
  some 0
  else
  if 9 ≤ a0 then
    some 0
    else
    if 4059 < ((a0 + 1) * 451) then
      some 0
      else
      some 1

set_option maxRecDepth 10000 in
set_option maxHeartbeats 4000000 in
theorem ev_T_hasSlot_25 {sc : mg_Sc} {c z : Nat} {fL : Nat → Int64} {fD : Nat → UInt64} {a0 : Int32} {u : mg_Rg} {v : Int32} (h : T_hasSlot_25 a0 u = some v) : mg_Ev sc 0 192 0 (mg_entry 192 [.ref 26, .int a0]) [] (hp u fL fD, c, z) (.inl (some (.int v)), (hp u fL fD, c, z)) := by
  unfold T_hasSlot_25 at h
  show mg_Ev _ _ _ 0 [some (.ref 26), some (.int a0)] [] _ _
  refine mg_Ev.go 1 (pc' := 1) (loc' := [some (.ref 26), some (.int a0)]) (st' := [.int a0]) (w' := (hp u fL fD, c, z)) rfl ?_
  refine mg_Ev.br (P := a0 < 0) (t := 31) (nx := 4) (st' := []) rfl rfl rfl rfl (fun hc1758 => ?_) (fun hc1758 => ?_)
  · rw [if_pos hc1758] at h
    refine mg_Ev.go 1 (pc' := 32) (loc' := [some (.ref 26), some (.int a0)]) (st' := [.int 0]) (w' := (hp u fL fD, c, z)) rfl ?_
    cases h
    exact mg_Ev.fin rfl rfl rfl
  · rw [if_neg hc1758] at h
    refine mg_Ev.go 2 (pc' := 7) (loc' := [some (.ref 26), some (.int a0)]) (st' := [.int 9, .int a0]) (w' := (hp u fL fD, c, z)) rfl ?_
    refine mg_Ev.br (P := 9 ≤ a0) (t := 31) (nx := 10) (st' := []) rfl rfl rfl rfl (fun hc1759 => ?_) (fun hc1759 => ?_)
    · rw [if_pos hc1759] at h
      refine mg_Ev.go 1 (pc' := 32) (loc' := [some (.ref 26), some (.int a0)]) (st' := [.int 0]) (w' := (hp u fL fD, c, z)) rfl ?_
      cases h
      exact mg_Ev.fin rfl rfl rfl
    · rw [if_neg hc1759] at h
      refine mg_Ev.go 10 (pc' := 24) (loc' := [some (.ref 26), some (.int a0)]) (st' := [.int 4059, .int ((a0 + 1) * 451)]) (w' := (hp u fL fD, c, z)) rfl ?_
      refine mg_Ev.br (P := 4059 < ((a0 + 1) * 451)) (t := 31) (nx := 27) (st' := []) rfl rfl rfl rfl (fun hc1760 => ?_) (fun hc1760 => ?_)
      · rw [if_pos hc1760] at h
        refine mg_Ev.go 1 (pc' := 32) (loc' := [some (.ref 26), some (.int a0)]) (st' := [.int 0]) (w' := (hp u fL fD, c, z)) rfl ?_
        cases h
        exact mg_Ev.fin rfl rfl rfl
      · rw [if_neg hc1760] at h
        refine mg_Ev.go 2 (pc' := 32) (loc' := [some (.ref 26), some (.int a0)]) (st' := [.int 1]) (w' := (hp u fL fD, c, z)) rfl ?_
        cases h
        exact mg_Ev.fin rfl rfl rfl

def T_keepIn_25 (a0 : Int32) (u : mg_Rg) : Option (mg_Rg) :=
  (T_hasSlot_25 a0 u).bind fun v29 =>
  if v29 = 0 then
  some u
  else
  if ¬ (0 : Int32) < 0 ∧ ¬ (a0 * 451) < 0 ∧ ¬ (451 : Int32) < 0 ∧ (0 : Int32).toNatClampNeg + (451 : Int32).toNatClampNeg ≤ 451 ∧ (a0 * 451).toNatClampNeg + (451 : Int32).toNatClampNeg ≤ 4059 then
    some (mg_rw u 27 (va_cpy (u 26) (u 27) (0 : Int32).toNatClampNeg (a0 * 451).toNatClampNeg (451 : Int32).toNatClampNeg))
    else none

set_option maxRecDepth 10000 in
set_option maxHeartbeats 4000000 in
theorem ev_T_keepIn_25 {sc : mg_Sc} {c z : Nat} {fL : Nat → Int64} {fD : Nat → UInt64} {a0 : Int32} {u : mg_Rg} {v : mg_Rg} (h : T_keepIn_25 a0 u = some v) : mg_Ev sc 1 190 0 (mg_entry 190 [.ref 26, .int a0]) [] (hp u fL fD, c, z) (.inl none, (hp v fL fD, c, z)) := by
  unfold T_keepIn_25 at h
  show mg_Ev _ _ _ 0 [some (.ref 26), some (.int a0)] [] _ _
  refine mg_Ev.go 2 (pc' := 2) (loc' := [some (.ref 26), some (.int a0)]) (st' := [.int a0, .ref 26]) (w' := (hp u fL fD, c, z)) rfl ?_
  obtain ⟨v29, hf1761, h⟩ := Option.bind_eq_some_iff.mp h
  refine mg_Ev.call (y := 192) (as := [.ref 26, .int a0]) (rest := []) (v := some (.int v29)) (w1 := (hp u fL fD, c, z)) rfl rfl (Nat.le_of_ble_eq_true rfl) ((ev_T_hasSlot_25 hf1761).deep (by decide)) ?_
  refine mg_Ev.br (P := v29 = 0) (t := 32) (nx := 8) (st' := []) rfl rfl rfl rfl (fun hc1762 => ?_) (fun hc1762 => ?_)
  · rw [if_pos hc1762] at h
    cases h
    exact mg_Ev.fin rfl rfl rfl
  · rw [if_neg hc1762] at h
    refine mg_Ev.go 10 (pc' := 24) (loc' := [some (.ref 26), some (.int a0)]) (st' := [.int (a0 * 451), .ref 28, .int 0, .ref 27]) (w' := (hp u fL fD, c, z)) rfl ?_
    refine mg_Ev.go 3 (pc' := 29) (loc' := [some (.ref 26), some (.int a0)]) (st' := [.int 451, .int (a0 * 451), .ref 28, .int 0, .ref 27]) (w' := (hp u fL fD, c, z)) rfl ?_
    by_cases hn1763 : ¬ (0 : Int32) < 0 ∧ ¬ (a0 * 451) < 0 ∧ ¬ (451 : Int32) < 0 ∧ (0 : Int32).toNatClampNeg + (451 : Int32).toNatClampNeg ≤ 451 ∧ (a0 * 451).toNatClampNeg + (451 : Int32).toNatClampNeg ≤ 4059
    · rw [if_pos hn1763] at h
      refine mg_Ev.copy rfl (hpg_26 _ _ _) (hpg_27 _ _ _) hn1763 (hpr_27 _ _ _ _ _ _) ?_
      cases h
      exact mg_Ev.fin rfl rfl rfl
    · rw [if_neg hn1763] at h
      cases h

def O_keepIn (a0 : Int32) (u : mg_Rg) : Option (mg_Rg) :=
  (Tf_keepIn a0 u).bind fun u21 =>
  (Lg_keepIn a0 u21).bind fun u26 =>
  (T_keepIn_22 a0 u26).bind fun u28 =>
  (T_keepIn_25 a0 u28).bind fun u30 =>
  some u30

set_option maxRecDepth 10000 in
set_option maxHeartbeats 4000000 in
theorem ev_O_keepIn {sc : mg_Sc} {c z : Nat} {fL : Nat → Int64} {fD : Nat → UInt64} {a0 : Int32} {u : mg_Rg} {v : mg_Rg} (h : O_keepIn a0 u = some v) : mg_Ev sc 3 164 0 (mg_entry 164 [.ref 2, .int a0]) [] (hp u fL fD, c, z) (.inl none, (hp v fL fD, c, z)) := by
  unfold O_keepIn at h
  show mg_Ev _ _ _ 0 [some (.ref 2), some (.int a0)] [] _ _
  refine mg_Ev.go 3 (pc' := 5) (loc' := [some (.ref 2), some (.int a0)]) (st' := [.int a0, .ref 3]) (w' := (hp u fL fD, c, z)) rfl ?_
  obtain ⟨u21, hf1764, h⟩ := Option.bind_eq_some_iff.mp h
  refine mg_Ev.call (y := 206) (as := [.ref 3, .int a0]) (rest := []) (v := none) (w1 := (hp u21 fL fD, c, z)) rfl rfl (Nat.le_of_ble_eq_true rfl) ((ev_Tf_keepIn hf1764).deep (by decide)) ?_
  refine mg_Ev.go 3 (pc' := 13) (loc' := [some (.ref 2), some (.int a0)]) (st' := [.int a0, .ref 16]) (w' := (hp u21 fL fD, c, z)) rfl ?_
  obtain ⟨u26, hf1765, h⟩ := Option.bind_eq_some_iff.mp h
  refine mg_Ev.call (y := 149) (as := [.ref 16, .int a0]) (rest := []) (v := none) (w1 := (hp u26 fL fD, c, z)) rfl rfl (Nat.le_of_ble_eq_true rfl) ((ev_Lg_keepIn hf1765).deep (by decide)) ?_
  refine mg_Ev.go 3 (pc' := 21) (loc' := [some (.ref 2), some (.int a0)]) (st' := [.int a0, .ref 23]) (w' := (hp u26 fL fD, c, z)) rfl ?_
  obtain ⟨u28, hf1766, h⟩ := Option.bind_eq_some_iff.mp h
  refine mg_Ev.call (y := 190) (as := [.ref 23, .int a0]) (rest := []) (v := none) (w1 := (hp u28 fL fD, c, z)) rfl rfl (Nat.le_of_ble_eq_true rfl) ((ev_T_keepIn_22 hf1766).deep (by decide)) ?_
  refine mg_Ev.go 3 (pc' := 29) (loc' := [some (.ref 2), some (.int a0)]) (st' := [.int a0, .ref 26]) (w' := (hp u28 fL fD, c, z)) rfl ?_
  obtain ⟨u30, hf1767, h⟩ := Option.bind_eq_some_iff.mp h
  refine mg_Ev.call (y := 190) (as := [.ref 26, .int a0]) (rest := []) (v := none) (w1 := (hp u30 fL fD, c, z)) rfl rfl (Nat.le_of_ble_eq_true rfl) ((ev_T_keepIn_25 hf1767).deep (by decide)) ?_
  cases h
  exact mg_Ev.fin rfl rfl rfl

def T_hasSlot_30 (a0 : Int32) (u : mg_Rg) : Option (Int32) :=
  if a0 < 0 then
  some 0
  else
  if 9 ≤ a0 then
    some 0
    else
    if 81 < ((a0 + 1) * 9) then
      some 0
      else
      some 1

set_option maxRecDepth 10000 in
set_option maxHeartbeats 4000000 in
theorem ev_T_hasSlot_30 {sc : mg_Sc} {c z : Nat} {fL : Nat → Int64} {fD : Nat → UInt64} {a0 : Int32} {u : mg_Rg} {v : Int32} (h : T_hasSlot_30 a0 u = some v) : mg_Ev sc 0 192 0 (mg_entry 192 [.ref 31, .int a0]) [] (hp u fL fD, c, z) (.inl (some (.int v)), (hp u fL fD, c, z)) := by
  unfold T_hasSlot_30 at h
  show mg_Ev _ _ _ 0 [some (.ref 31), some (.int a0)] [] _ _
  refine mg_Ev.go 1 (pc' := 1) (loc' := [some (.ref 31), some (.int a0)]) (st' := [.int a0]) (w' := (hp u fL fD, c, z)) rfl ?_
  refine mg_Ev.br (P := a0 < 0) (t := 31) (nx := 4) (st' := []) rfl rfl rfl rfl (fun hc1768 => ?_) (fun hc1768 => ?_)
  · rw [if_pos hc1768] at h
    refine mg_Ev.go 1 (pc' := 32) (loc' := [some (.ref 31), some (.int a0)]) (st' := [.int 0]) (w' := (hp u fL fD, c, z)) rfl ?_
    cases h
    exact mg_Ev.fin rfl rfl rfl
  · rw [if_neg hc1768] at h
    refine mg_Ev.go 2 (pc' := 7) (loc' := [some (.ref 31), some (.int a0)]) (st' := [.int 9, .int a0]) (w' := (hp u fL fD, c, z)) rfl ?_
    refine mg_Ev.br (P := 9 ≤ a0) (t := 31) (nx := 10) (st' := []) rfl rfl rfl rfl (fun hc1769 => ?_) (fun hc1769 => ?_)
    · rw [if_pos hc1769] at h
      refine mg_Ev.go 1 (pc' := 32) (loc' := [some (.ref 31), some (.int a0)]) (st' := [.int 0]) (w' := (hp u fL fD, c, z)) rfl ?_
      cases h
      exact mg_Ev.fin rfl rfl rfl
    · rw [if_neg hc1769] at h
      refine mg_Ev.go 10 (pc' := 24) (loc' := [some (.ref 31), some (.int a0)]) (st' := [.int 81, .int ((a0 + 1) * 9)]) (w' := (hp u fL fD, c, z)) rfl ?_
      refine mg_Ev.br (P := 81 < ((a0 + 1) * 9)) (t := 31) (nx := 27) (st' := []) rfl rfl rfl rfl (fun hc1770 => ?_) (fun hc1770 => ?_)
      · rw [if_pos hc1770] at h
        refine mg_Ev.go 1 (pc' := 32) (loc' := [some (.ref 31), some (.int a0)]) (st' := [.int 0]) (w' := (hp u fL fD, c, z)) rfl ?_
        cases h
        exact mg_Ev.fin rfl rfl rfl
      · rw [if_neg hc1770] at h
        refine mg_Ev.go 2 (pc' := 32) (loc' := [some (.ref 31), some (.int a0)]) (st' := [.int 1]) (w' := (hp u fL fD, c, z)) rfl ?_
        cases h
        exact mg_Ev.fin rfl rfl rfl

def T_keepIn_30 (a0 : Int32) (u : mg_Rg) : Option (mg_Rg) :=
  (T_hasSlot_30 a0 u).bind fun v32 =>
  if v32 = 0 then
  some u
  else
  if ¬ (0 : Int32) < 0 ∧ ¬ (a0 * 9) < 0 ∧ ¬ (9 : Int32) < 0 ∧ (0 : Int32).toNatClampNeg + (9 : Int32).toNatClampNeg ≤ 9 ∧ (a0 * 9).toNatClampNeg + (9 : Int32).toNatClampNeg ≤ 81 then
    some (mg_rw u 32 (va_cpy (u 31) (u 32) (0 : Int32).toNatClampNeg (a0 * 9).toNatClampNeg (9 : Int32).toNatClampNeg))
    else none

set_option maxRecDepth 10000 in
set_option maxHeartbeats 4000000 in
theorem ev_T_keepIn_30 {sc : mg_Sc} {c z : Nat} {fL : Nat → Int64} {fD : Nat → UInt64} {a0 : Int32} {u : mg_Rg} {v : mg_Rg} (h : T_keepIn_30 a0 u = some v) : mg_Ev sc 1 190 0 (mg_entry 190 [.ref 31, .int a0]) [] (hp u fL fD, c, z) (.inl none, (hp v fL fD, c, z)) := by
  unfold T_keepIn_30 at h
  show mg_Ev _ _ _ 0 [some (.ref 31), some (.int a0)] [] _ _
  refine mg_Ev.go 2 (pc' := 2) (loc' := [some (.ref 31), some (.int a0)]) (st' := [.int a0, .ref 31]) (w' := (hp u fL fD, c, z)) rfl ?_
  obtain ⟨v32, hf1771, h⟩ := Option.bind_eq_some_iff.mp h
  refine mg_Ev.call (y := 192) (as := [.ref 31, .int a0]) (rest := []) (v := some (.int v32)) (w1 := (hp u fL fD, c, z)) rfl rfl (Nat.le_of_ble_eq_true rfl) ((ev_T_hasSlot_30 hf1771).deep (by decide)) ?_
  refine mg_Ev.br (P := v32 = 0) (t := 32) (nx := 8) (st' := []) rfl rfl rfl rfl (fun hc1772 => ?_) (fun hc1772 => ?_)
  · rw [if_pos hc1772] at h
    cases h
    exact mg_Ev.fin rfl rfl rfl
  · rw [if_neg hc1772] at h
    refine mg_Ev.go 10 (pc' := 24) (loc' := [some (.ref 31), some (.int a0)]) (st' := [.int (a0 * 9), .ref 33, .int 0, .ref 32]) (w' := (hp u fL fD, c, z)) rfl ?_
    refine mg_Ev.go 3 (pc' := 29) (loc' := [some (.ref 31), some (.int a0)]) (st' := [.int 9, .int (a0 * 9), .ref 33, .int 0, .ref 32]) (w' := (hp u fL fD, c, z)) rfl ?_
    by_cases hn1773 : ¬ (0 : Int32) < 0 ∧ ¬ (a0 * 9) < 0 ∧ ¬ (9 : Int32) < 0 ∧ (0 : Int32).toNatClampNeg + (9 : Int32).toNatClampNeg ≤ 9 ∧ (a0 * 9).toNatClampNeg + (9 : Int32).toNatClampNeg ≤ 81
    · rw [if_pos hn1773] at h
      refine mg_Ev.copy rfl (hpg_31 _ _ _) (hpg_32 _ _ _) hn1773 (hpr_32 _ _ _ _ _ _) ?_
      cases h
      exact mg_Ev.fin rfl rfl rfl
    · rw [if_neg hn1773] at h
      cases h

def C_keepIn (a0 : Int32) (u : mg_Rg) : Option (mg_Rg) :=
  (O_keepIn a0 u).bind fun u31 =>
  (T_keepIn_30 a0 u31).bind fun u33 =>
  some u33

set_option maxRecDepth 10000 in
set_option maxHeartbeats 4000000 in
theorem ev_C_keepIn {sc : mg_Sc} {c z : Nat} {fL : Nat → Int64} {fD : Nat → UInt64} {a0 : Int32} {u : mg_Rg} {v : mg_Rg} (h : C_keepIn a0 u = some v) : mg_Ev sc 4 39 0 (mg_entry 39 [.ref 1, .int a0]) [] (hp u fL fD, c, z) (.inl none, (hp v fL fD, c, z)) := by
  unfold C_keepIn at h
  show mg_Ev _ _ _ 0 [some (.ref 1), some (.int a0)] [] _ _
  refine mg_Ev.go 3 (pc' := 5) (loc' := [some (.ref 1), some (.int a0)]) (st' := [.int a0, .ref 2]) (w' := (hp u fL fD, c, z)) rfl ?_
  obtain ⟨u31, hf1774, h⟩ := Option.bind_eq_some_iff.mp h
  refine mg_Ev.call (y := 164) (as := [.ref 2, .int a0]) (rest := []) (v := none) (w1 := (hp u31 fL fD, c, z)) rfl rfl (Nat.le_of_ble_eq_true rfl) ((ev_O_keepIn hf1774).deep (by decide)) ?_
  refine mg_Ev.go 4 (pc' := 16) (loc' := [some (.ref 1), some (.int a0)]) (st' := [.int a0, .ref 31]) (w' := (hp u31 fL fD, c, z)) rfl ?_
  obtain ⟨u33, hf1775, h⟩ := Option.bind_eq_some_iff.mp h
  refine mg_Ev.call (y := 190) (as := [.ref 31, .int a0]) (rest := []) (v := none) (w1 := (hp u33 fL fD, c, z)) rfl rfl (Nat.le_of_ble_eq_true rfl) ((ev_T_keepIn_30 hf1775).deep (by decide)) ?_
  cases h
  exact mg_Ev.fin rfl rfl rfl

def C_keepForUndo (u : mg_Rg) : Option (mg_Rg) :=
  (C_keepIn (u 0 6) u).bind fun u34 =>
  some (mg_up (mg_up u34 0 6 (((u34 0 6) + 1) - ((u34 0 6) + 1) / 8 * 8)) 0 7 (if (((mg_up u34 0 6 (((u34 0 6) + 1) - ((u34 0 6) + 1) / 8 * 8)) 0 7) + 1) < 8 then (((mg_up u34 0 6 (((u34 0 6) + 1) - ((u34 0 6) + 1) / 8 * 8)) 0 7) + 1) else 8))

set_option maxRecDepth 10000 in
set_option maxHeartbeats 4000000 in
theorem ev_C_keepForUndo {sc : mg_Sc} {c z : Nat} {fL : Nat → Int64} {fD : Nat → UInt64} {u : mg_Rg} {v : mg_Rg} (h : C_keepForUndo u = some v) : mg_Ev sc 5 38 0 (mg_entry 38 [.ref 1]) [] (hp u fL fD, c, z) (.inl none, (hp v fL fD, c, z)) := by
  unfold C_keepForUndo at h
  show mg_Ev _ _ _ 0 [some (.ref 1)] [] _ _
  refine mg_Ev.go 3 (pc' := 5) (loc' := [some (.ref 1)]) (st' := [.int (u 0 6), .ref 1]) (w' := (hp u fL fD, c, z)) rfl ?_
  obtain ⟨u34, hf1776, h⟩ := Option.bind_eq_some_iff.mp h
  refine mg_Ev.call (y := 39) (as := [.ref 1, .int (u 0 6)]) (rest := []) (v := none) (w1 := (hp u34 fL fD, c, z)) rfl rfl (Nat.le_of_ble_eq_true rfl) ((ev_C_keepIn hf1776).deep (by decide)) ?_
  refine mg_Ev.go 6 (pc' := 17) (loc' := [some (.ref 1)]) (st' := [.int 8, .int ((u34 0 6) + 1), .ref 1]) (w' := (hp u34 fL fD, c, z)) rfl ?_
  refine mg_Ev.irem rfl (by decide) ?_
  refine mg_Ev.put rfl (hpg_0 _ _ _) (Nat.le_of_ble_eq_true rfl) rfl (hpf_0_6 _ _ _ _ _ _) ?_
  refine mg_Ev.go 7 (pc' := 33) (loc' := [some (.ref 1)]) (st' := [.int (if (((mg_up u34 0 6 (((u34 0 6) + 1) - ((u34 0 6) + 1) / 8 * 8)) 0 7) + 1) < 8 then (((mg_up u34 0 6 (((u34 0 6) + 1) - ((u34 0 6) + 1) / 8 * 8)) 0 7) + 1) else 8), .ref 1]) (w' := (hp (mg_up u34 0 6 (((u34 0 6) + 1) - ((u34 0 6) + 1) / 8 * 8)) fL fD, c, z)) rfl ?_
  refine mg_Ev.put rfl (hpg_0 _ _ _) (Nat.le_of_ble_eq_true rfl) rfl (hpf_0_7 _ _ _ _ _ _) ?_
  cases h
  exact mg_Ev.fin rfl rfl rfl

def T_put_3 (a0 : Int32) (a1 : Int32) (a2 : Int32) (u : mg_Rg) : Option (mg_Rg) :=
  if a0 < 0 then
  some u
  else
  if 20 ≤ a0 then
    some u
    else
    if a1 < 0 then
      some u
      else
      if a1 < 3 then
        if ((1 + (a0 * 3)) + a1) < 0 then
          some u
          else
          if 61 ≤ ((1 + (a0 * 3)) + a1) then
            some u
            else
            if ((1 + (a0 * 3)) + a1) < 0 ∨ 61 ≤ ((1 + (a0 * 3)) + a1).toNatClampNeg then none else
              some (mg_up u 4 (((1 + (a0 * 3)) + a1).toNatClampNeg) a2)
        else
        some u

set_option maxRecDepth 10000 in
set_option maxHeartbeats 4000000 in
theorem ev_T_put_3 {sc : mg_Sc} {c z : Nat} {fL : Nat → Int64} {fD : Nat → UInt64} {a0 : Int32} {a1 : Int32} {a2 : Int32} {u : mg_Rg} {v : mg_Rg} (h : T_put_3 a0 a1 a2 u = some v) : mg_Ev sc 0 185 0 (mg_entry 185 [.ref 4, .int a0, .int a1, .int a2]) [] (hp u fL fD, c, z) (.inl none, (hp v fL fD, c, z)) := by
  unfold T_put_3 at h
  show mg_Ev _ _ _ 0 [some (.ref 4), some (.int a0), some (.int a1), some (.int a2), none] [] _ _
  refine mg_Ev.go 1 (pc' := 1) (loc' := [some (.ref 4), some (.int a0), some (.int a1), some (.int a2), none]) (st' := [.int a0]) (w' := (hp u fL fD, c, z)) rfl ?_
  refine mg_Ev.br (P := a0 < 0) (t := 24) (nx := 4) (st' := []) rfl rfl rfl rfl (fun hc1777 => ?_) (fun hc1777 => ?_)
  · rw [if_pos hc1777] at h
    cases h
    exact mg_Ev.fin rfl rfl rfl
  · rw [if_neg hc1777] at h
    refine mg_Ev.go 3 (pc' := 9) (loc' := [some (.ref 4), some (.int a0), some (.int a1), some (.int a2), none]) (st' := [.int 20, .int a0]) (w' := (hp u fL fD, c, z)) rfl ?_
    refine mg_Ev.br (P := 20 ≤ a0) (t := 24) (nx := 12) (st' := []) rfl rfl rfl rfl (fun hc1778 => ?_) (fun hc1778 => ?_)
    · rw [if_pos hc1778] at h
      cases h
      exact mg_Ev.fin rfl rfl rfl
    · rw [if_neg hc1778] at h
      refine mg_Ev.go 1 (pc' := 13) (loc' := [some (.ref 4), some (.int a0), some (.int a1), some (.int a2), none]) (st' := [.int a1]) (w' := (hp u fL fD, c, z)) rfl ?_
      refine mg_Ev.br (P := a1 < 0) (t := 24) (nx := 16) (st' := []) rfl rfl rfl rfl (fun hc1779 => ?_) (fun hc1779 => ?_)
      · rw [if_pos hc1779] at h
        cases h
        exact mg_Ev.fin rfl rfl rfl
      · rw [if_neg hc1779] at h
        refine mg_Ev.go 3 (pc' := 21) (loc' := [some (.ref 4), some (.int a0), some (.int a1), some (.int a2), none]) (st' := [.int 3, .int a1]) (w' := (hp u fL fD, c, z)) rfl ?_
        refine mg_Ev.br (P := a1 < 3) (t := 25) (nx := 24) (st' := []) rfl rfl rfl rfl (fun hc1780 => ?_) (fun hc1780 => ?_)
        · rw [if_pos hc1780] at h
          refine mg_Ev.go 10 (pc' := 39) (loc' := [some (.ref 4), some (.int a0), some (.int a1), some (.int a2), some (.int ((1 + (a0 * 3)) + a1))]) (st' := [.int ((1 + (a0 * 3)) + a1)]) (w' := (hp u fL fD, c, z)) rfl ?_
          refine mg_Ev.br (P := ((1 + (a0 * 3)) + a1) < 0) (t := 60) (nx := 42) (st' := []) rfl rfl rfl rfl (fun hc1781 => ?_) (fun hc1781 => ?_)
          · rw [if_pos hc1781] at h
            cases h
            exact mg_Ev.fin rfl rfl rfl
          · rw [if_neg hc1781] at h
            refine mg_Ev.go 4 (pc' := 49) (loc' := [some (.ref 4), some (.int a0), some (.int a1), some (.int a2), some (.int ((1 + (a0 * 3)) + a1))]) (st' := [.int 61, .int ((1 + (a0 * 3)) + a1)]) (w' := (hp u fL fD, c, z)) rfl ?_
            refine mg_Ev.br (P := 61 ≤ ((1 + (a0 * 3)) + a1)) (t := 60) (nx := 52) (st' := []) rfl rfl rfl rfl (fun hc1782 => ?_) (fun hc1782 => ?_)
            · rw [if_pos hc1782] at h
              cases h
              exact mg_Ev.fin rfl rfl rfl
            · rw [if_neg hc1782] at h
              refine mg_Ev.go 4 (pc' := 59) (loc' := [some (.ref 4), some (.int a0), some (.int a1), some (.int a2), some (.int ((1 + (a0 * 3)) + a1))]) (st' := [.int a2, .int ((1 + (a0 * 3)) + a1), .ref 5]) (w' := (hp u fL fD, c, z)) rfl ?_
              by_cases hb1783 : ((1 + (a0 * 3)) + a1) < 0 ∨ 61 ≤ ((1 + (a0 * 3)) + a1).toNatClampNeg
              · rw [if_pos hb1783] at h
                cases h
              · rw [if_neg hb1783] at h
                refine mg_Ev.iast (a := 4) (n := 61) rfl (hpg_4 _ _ _) rfl hb1783 (hpa_4 _ _ _ _ _ _ _) ?_
                cases h
                exact mg_Ev.fin rfl rfl rfl
        · rw [if_neg hc1780] at h
          cases h
          exact mg_Ev.fin rfl rfl rfl

def T_setCount_3 (a0 : Int32) (u : mg_Rg) : Option (mg_Rg) :=
  some (mg_up u 4 0 a0)

set_option maxRecDepth 10000 in
set_option maxHeartbeats 4000000 in
theorem ev_T_setCount_3 {sc : mg_Sc} {c z : Nat} {fL : Nat → Int64} {fD : Nat → UInt64} {a0 : Int32} {u : mg_Rg} {v : mg_Rg} (h : T_setCount_3 a0 u = some v) : mg_Ev sc 0 193 0 (mg_entry 193 [.ref 4, .int a0]) [] (hp u fL fD, c, z) (.inl none, (hp v fL fD, c, z)) := by
  unfold T_setCount_3 at h
  show mg_Ev _ _ _ 0 [some (.ref 4), some (.int a0)] [] _ _
  refine mg_Ev.go 3 (pc' := 5) (loc' := [some (.ref 4), some (.int a0)]) (st' := [.int 61]) (w' := (hp u fL fD, c, z)) rfl ?_
  refine mg_Ev.br (P := (61 : Int32) ≤ 0) (t := 15) (nx := 8) (st' := []) rfl rfl rfl rfl (fun q => absurd q (by decide)) (fun _ => ?_)
  refine mg_Ev.go 4 (pc' := 14) (loc' := [some (.ref 4), some (.int a0)]) (st' := [.int a0, .int 0, .ref 5]) (w' := (hp u fL fD, c, z)) rfl ?_
  refine mg_Ev.iast (a := 4) (n := 61) (j := 0) rfl (hpg_4 _ _ _) (by decide) (by decide) (hpa_4 _ _ _ _ _ _ _) ?_
  cases h
  exact mg_Ev.fin rfl rfl rfl

def T_add_3_L17 : Nat → Int32 → Int32 → mg_Rg → Option (mg_Rg)
  | 0, _, _, _ => none
  | n + 1, x1, x2, u =>
    if 3 ≤ x2 then
    some (u)
    else
    (T_put_3 x1 x2 0 u).bind fun u37 =>
      T_add_3_L17 n x1 (x2 + 1) u37
set_option maxRecDepth 10000 in
set_option maxHeartbeats 4000000 in
theorem ev_T_add_3_L17 {sc : mg_Sc} {c z : Nat} {fL : Nat → Int64} {fD : Nat → UInt64} : ∀ (n : Nat) (x1 : Int32) (x2 : Int32) (u : mg_Rg) (res : mg_Rg), T_add_3_L17 n x1 x2 u = some res → ∀ r, (match res with | yu => mg_Ev sc 1 187 38 [some (.ref 4), some (.int x1), none] [] (hp yu fL fD, c, z) r) → mg_Ev sc 1 187 17 [some (.ref 4), some (.int x1), some (.int x2)] [] (hp u fL fD, c, z) r := by
  intro n
  induction n with
  | zero => intro x1 x2 u res h; cases h
  | succ n ih =>
    intro x1 x2 u res h r K
    unfold T_add_3_L17 at h
    refine mg_Ev.go 3 (pc' := 22) (loc' := [some (.ref 4), some (.int x1), some (.int x2)]) (st' := [.int 3, .int x2]) (w' := (hp u fL fD, c, z)) rfl ?_
    refine mg_Ev.br (P := 3 ≤ x2) (t := 38) (nx := 25) (st' := []) rfl rfl rfl rfl (fun hc1785 => ?_) (fun hc1785 => ?_)
    · rw [if_pos hc1785] at h
      cases h
      exact mg_Ev.more (loc := [some (.ref 4), some (.int x1), none]) K ⟨rfl, ⟨rfl, trivial⟩⟩
    · rw [if_neg hc1785] at h
      refine mg_Ev.go 4 (pc' := 29) (loc' := [some (.ref 4), some (.int x1), some (.int x2)]) (st' := [.int 0, .int x2, .int x1, .ref 4]) (w' := (hp u fL fD, c, z)) rfl ?_
      obtain ⟨u37, hf1786, h⟩ := Option.bind_eq_some_iff.mp h
      refine mg_Ev.call (y := 185) (as := [.ref 4, .int x1, .int x2, .int 0]) (rest := []) (v := none) (w1 := (hp u37 fL fD, c, z)) rfl rfl (Nat.le_of_ble_eq_true rfl) ((ev_T_put_3 hf1786).deep (by decide)) ?_
      refine mg_Ev.go 2 (pc' := 17) (loc' := [some (.ref 4), some (.int x1), some (.int (x2 + 1))]) (st' := []) (w' := (hp u37 fL fD, c, z)) rfl ?_
      exact mg_Ev.more (loc := [some (.ref 4), some (.int x1), some (.int (x2 + 1))]) (ih _ _ _ _ h _ K) ⟨rfl, ⟨rfl, ⟨rfl, trivial⟩⟩⟩

def T_add_3 (u : mg_Rg) : Option (Int32 × mg_Rg) :=
  (T_count_3 u).bind fun v36 =>
  if v36 < 20 then
  (T_add_3_L17 mg_F v36 0 u).bind fun q1787 => match q1787 with
    | u38 =>
      (T_setCount_3 (v36 + 1) u38).bind fun u39 =>
      some (v36, u39)
  else
  some ((-1), u)

set_option maxRecDepth 10000 in
set_option maxHeartbeats 4000000 in
theorem ev_T_add_3 {sc : mg_Sc} {c z : Nat} {fL : Nat → Int64} {fD : Nat → UInt64} {u : mg_Rg} {p : Int32 × mg_Rg} (h : T_add_3 u = some p) : mg_Ev sc 1 187 0 (mg_entry 187 [.ref 4]) [] (hp u fL fD, c, z) (.inl (some (.int p.1)), (hp p.2 fL fD, c, z)) := by
  unfold T_add_3 at h
  show mg_Ev _ _ _ 0 [some (.ref 4), none, none] [] _ _
  refine mg_Ev.go 1 (pc' := 1) (loc' := [some (.ref 4), none, none]) (st' := [.ref 4]) (w' := (hp u fL fD, c, z)) rfl ?_
  obtain ⟨v36, hf1788, h⟩ := Option.bind_eq_some_iff.mp h
  refine mg_Ev.call (y := 181) (as := [.ref 4]) (rest := []) (v := some (.int v36)) (w1 := (hp u fL fD, c, z)) rfl rfl (Nat.le_of_ble_eq_true rfl) ((ev_T_count_3 hf1788).deep (by decide)) ?_
  refine mg_Ev.go 4 (pc' := 10) (loc' := [some (.ref 4), some (.int v36), none]) (st' := [.int 20, .int v36]) (w' := (hp u fL fD, c, z)) rfl ?_
  refine mg_Ev.br (P := v36 < 20) (t := 15) (nx := 13) (st' := []) rfl rfl rfl rfl (fun hc1789 => ?_) (fun hc1789 => ?_)
  · rw [if_pos hc1789] at h
    refine mg_Ev.go 2 (pc' := 17) (loc' := [some (.ref 4), some (.int v36), some (.int 0)]) (st' := []) (w' := (hp u fL fD, c, z)) rfl ?_
    obtain ⟨u38, hl1790, h⟩ := Option.bind_eq_some_iff.mp h
    try dsimp only at h
    refine mg_Ev.more (loc := [some (.ref 4), some (.int v36), some (.int 0)]) (ev_T_add_3_L17 _ _ _ _ _ hl1790 _ ?_) ⟨rfl, ⟨rfl, ⟨rfl, trivial⟩⟩⟩
    show mg_Ev _ _ _ 38 [some (.ref 4), some (.int v36), none] [] (hp u38 fL fD, c, z) _
    refine mg_Ev.go 4 (pc' := 42) (loc' := [some (.ref 4), some (.int v36), none]) (st' := [.int (v36 + 1), .ref 4]) (w' := (hp u38 fL fD, c, z)) rfl ?_
    obtain ⟨u39, hf1791, h⟩ := Option.bind_eq_some_iff.mp h
    refine mg_Ev.call (y := 193) (as := [.ref 4, .int (v36 + 1)]) (rest := []) (v := none) (w1 := (hp u39 fL fD, c, z)) rfl rfl (Nat.le_of_ble_eq_true rfl) ((ev_T_setCount_3 hf1791).deep (by decide)) ?_
    refine mg_Ev.go 1 (pc' := 46) (loc' := [some (.ref 4), some (.int v36), none]) (st' := [.int v36]) (w' := (hp u39 fL fD, c, z)) rfl ?_
    cases h
    exact mg_Ev.fin rfl rfl rfl
  · rw [if_neg hc1789] at h
    refine mg_Ev.go 1 (pc' := 14) (loc' := [some (.ref 4), some (.int v36), none]) (st' := [.int (-1)]) (w' := (hp u fL fD, c, z)) rfl ?_
    cases h
    exact mg_Ev.fin rfl rfl rfl

def T_has_3 (a0 : Int32) (u : mg_Rg) : Option (Int32) :=
  if a0 < 0 then
  some 0
  else
  (T_count_3 u).bind fun v46 =>
    if v46 ≤ a0 then
    some 0
    else
    some 1

set_option maxRecDepth 10000 in
set_option maxHeartbeats 4000000 in
theorem ev_T_has_3 {sc : mg_Sc} {c z : Nat} {fL : Nat → Int64} {fD : Nat → UInt64} {a0 : Int32} {u : mg_Rg} {v : Int32} (h : T_has_3 a0 u = some v) : mg_Ev sc 1 182 0 (mg_entry 182 [.ref 4, .int a0]) [] (hp u fL fD, c, z) (.inl (some (.int v)), (hp u fL fD, c, z)) := by
  unfold T_has_3 at h
  show mg_Ev _ _ _ 0 [some (.ref 4), some (.int a0)] [] _ _
  refine mg_Ev.go 1 (pc' := 1) (loc' := [some (.ref 4), some (.int a0)]) (st' := [.int a0]) (w' := (hp u fL fD, c, z)) rfl ?_
  refine mg_Ev.br (P := a0 < 0) (t := 16) (nx := 4) (st' := []) rfl rfl rfl rfl (fun hc1792 => ?_) (fun hc1792 => ?_)
  · rw [if_pos hc1792] at h
    refine mg_Ev.go 1 (pc' := 17) (loc' := [some (.ref 4), some (.int a0)]) (st' := [.int 0]) (w' := (hp u fL fD, c, z)) rfl ?_
    cases h
    exact mg_Ev.fin rfl rfl rfl
  · rw [if_neg hc1792] at h
    refine mg_Ev.go 2 (pc' := 6) (loc' := [some (.ref 4), some (.int a0)]) (st' := [.ref 4, .int a0]) (w' := (hp u fL fD, c, z)) rfl ?_
    obtain ⟨v46, hf1793, h⟩ := Option.bind_eq_some_iff.mp h
    refine mg_Ev.call (y := 181) (as := [.ref 4]) (rest := [.int a0]) (v := some (.int v46)) (w1 := (hp u fL fD, c, z)) rfl rfl (Nat.le_of_ble_eq_true rfl) ((ev_T_count_3 hf1793).deep (by decide)) ?_
    refine mg_Ev.br (P := v46 ≤ a0) (t := 16) (nx := 12) (st' := []) rfl rfl rfl rfl (fun hc1794 => ?_) (fun hc1794 => ?_)
    · rw [if_pos hc1794] at h
      refine mg_Ev.go 1 (pc' := 17) (loc' := [some (.ref 4), some (.int a0)]) (st' := [.int 0]) (w' := (hp u fL fD, c, z)) rfl ?_
      cases h
      exact mg_Ev.fin rfl rfl rfl
    · rw [if_neg hc1794] at h
      refine mg_Ev.go 2 (pc' := 17) (loc' := [some (.ref 4), some (.int a0)]) (st' := [.int 1]) (w' := (hp u fL fD, c, z)) rfl ?_
      cases h
      exact mg_Ev.fin rfl rfl rfl

def C_heading (a0 : Int32) (a1 : Int32) (u : mg_Rg) : Option ((Int32 ⊕ Nat) × mg_Rg) :=
  if a0 = (-1) then
  (C_isWithin a1 1 9 u).bind fun v1 =>
    if v1 = 0 then
    some (.inr 1, u)
    else
    (Tf_isTaken a0 a1 u).bind fun v7 =>
      if v7 = 0 then
      (T_isFull_3 u).bind fun v9 =>
        if v9 = 0 then
        (Tf_levelOf a0 u).bind fun v12 =>
          if v12 < 4 then
          (C_keepForUndo u).bind fun u35 =>
            (T_add_3 u35).bind fun p42 => match p42 with
            | (v40, u41) =>
              (T_put_3 v40 0 a0 u41).bind fun u43 =>
              (T_put_3 v40 1 a1 u43).bind fun u44 =>
              (T_put_3 v40 2 (-1) u44).bind fun u45 =>
              some (.inl v40, u45)
          else
          some (.inr 2, u)
        else
        some (.inr 2, u)
      else
      some (.inr 1, u)
  else
  (T_has_3 a0 u).bind fun v47 =>
    if v47 = 0 then
    some (.inr 0, u)
    else
    (C_isWithin a1 1 9 u).bind fun v48 =>
      if v48 = 0 then
      some (.inr 1, u)
      else
      (Tf_isTaken a0 a1 u).bind fun v49 =>
        if v49 = 0 then
        (T_isFull_3 u).bind fun v50 =>
          if v50 = 0 then
          (Tf_levelOf a0 u).bind fun v51 =>
            if v51 < 4 then
            (C_keepForUndo u).bind fun u52 =>
              (T_add_3 u52).bind fun p55 => match p55 with
              | (v53, u54) =>
                (T_put_3 v53 0 a0 u54).bind fun u56 =>
                (T_put_3 v53 1 a1 u56).bind fun u57 =>
                (T_put_3 v53 2 (-1) u57).bind fun u58 =>
                some (.inl v53, u58)
            else
            some (.inr 2, u)
          else
          some (.inr 2, u)
        else
        some (.inr 1, u)

set_option maxRecDepth 10000 in
set_option maxHeartbeats 4000000 in
theorem ev_C_heading {sc : mg_Sc} {c z : Nat} {fL : Nat → Int64} {fD : Nat → UInt64} {a0 : Int32} {a1 : Int32} {u : mg_Rg} {p : (Int32 ⊕ Nat) × mg_Rg} (h : C_heading a0 a1 u = some p) : mg_Ev sc 6 1 0 (mg_entry 1 [.ref 1, .int a0, .int a1]) [] (hp u fL fD, c, z) (xri p.1, xw p.1 (hp p.2 fL fD) c z) := by
  unfold C_heading at h
  show mg_Ev _ _ _ 0 [some (.ref 1), some (.int a0), some (.int a1), none] [] _ _
  refine mg_Ev.go 2 (pc' := 2) (loc' := [some (.ref 1), some (.int a0), some (.int a1), none]) (st' := [.int (-1), .int a0]) (w' := (hp u fL fD, c, z)) rfl ?_
  refine mg_Ev.br (P := a0 = (-1)) (t := 29) (nx := 5) (st' := []) rfl rfl rfl rfl (fun hc1795 => ?_) (fun hc1795 => ?_)
  · rw [if_pos hc1795] at h
    refine mg_Ev.go 3 (pc' := 33) (loc' := [some (.ref 1), some (.int a0), some (.int a1), none]) (st' := [.int 9, .int 1, .int a1]) (w' := (hp u fL fD, c, z)) rfl ?_
    obtain ⟨v1, hf1796, h⟩ := Option.bind_eq_some_iff.mp h
    refine mg_Ev.call (y := 54) (as := [.int a1, .int 1, .int 9]) (rest := []) (v := some (.int v1)) (w1 := (hp u fL fD, c, z)) rfl rfl (Nat.le_of_ble_eq_true rfl) ((ev_C_isWithin hf1796).deep (by decide)) ?_
    refine mg_Ev.br (P := v1 = 0) (t := 51) (nx := 39) (st' := []) rfl rfl rfl rfl (fun hc1797 => ?_) (fun hc1797 => ?_)
    · rw [if_pos hc1797] at h
      cases h
      exact mg_Ev.fin rfl rfl rfl
    · rw [if_neg hc1797] at h
      refine mg_Ev.go 4 (pc' := 45) (loc' := [some (.ref 1), some (.int a0), some (.int a1), none]) (st' := [.int a1, .int a0, .ref 3]) (w' := (hp u fL fD, c, z)) rfl ?_
      obtain ⟨v7, hf1798, h⟩ := Option.bind_eq_some_iff.mp h
      refine mg_Ev.call (y := 196) (as := [.ref 3, .int a0, .int a1]) (rest := []) (v := some (.int v7)) (w1 := (hp u fL fD, c, z)) rfl rfl (Nat.le_of_ble_eq_true rfl) ((ev_Tf_isTaken hf1798).deep (by decide)) ?_
      refine mg_Ev.br (P := v7 = 0) (t := 61) (nx := 51) (st' := []) rfl rfl rfl rfl (fun hc1799 => ?_) (fun hc1799 => ?_)
      · rw [if_pos hc1799] at h
        refine mg_Ev.go 3 (pc' := 68) (loc' := [some (.ref 1), some (.int a0), some (.int a1), none]) (st' := [.ref 4]) (w' := (hp u fL fD, c, z)) rfl ?_
        obtain ⟨v9, hf1800, h⟩ := Option.bind_eq_some_iff.mp h
        refine mg_Ev.call (y := 183) (as := [.ref 4]) (rest := []) (v := some (.int v9)) (w1 := (hp u fL fD, c, z)) rfl rfl (Nat.le_of_ble_eq_true rfl) ((ev_T_isFull_3 hf1800).deep (by decide)) ?_
        refine mg_Ev.br (P := v9 = 0) (t := 74) (nx := 86) (st' := []) rfl rfl rfl rfl (fun hc1801 => ?_) (fun hc1801 => ?_)
        · rw [if_pos hc1801] at h
          refine mg_Ev.go 3 (pc' := 79) (loc' := [some (.ref 1), some (.int a0), some (.int a1), none]) (st' := [.int a0, .ref 3]) (w' := (hp u fL fD, c, z)) rfl ?_
          obtain ⟨v12, hf1802, h⟩ := Option.bind_eq_some_iff.mp h
          refine mg_Ev.call (y := 197) (as := [.ref 3, .int a0]) (rest := []) (v := some (.int v12)) (w1 := (hp u fL fD, c, z)) rfl rfl (Nat.le_of_ble_eq_true rfl) ((ev_Tf_levelOf hf1802).deep (by decide)) ?_
          refine mg_Ev.go 1 (pc' := 83) (loc' := [some (.ref 1), some (.int a0), some (.int a1), none]) (st' := [.int 4, .int v12]) (w' := (hp u fL fD, c, z)) rfl ?_
          refine mg_Ev.br (P := v12 < 4) (t := 96) (nx := 86) (st' := []) rfl rfl rfl rfl (fun hc1803 => ?_) (fun hc1803 => ?_)
          · rw [if_pos hc1803] at h
            refine mg_Ev.go 1 (pc' := 97) (loc' := [some (.ref 1), some (.int a0), some (.int a1), none]) (st' := [.ref 1]) (w' := (hp u fL fD, c, z)) rfl ?_
            obtain ⟨u35, hf1804, h⟩ := Option.bind_eq_some_iff.mp h
            refine mg_Ev.call (y := 38) (as := [.ref 1]) (rest := []) (v := none) (w1 := (hp u35 fL fD, c, z)) rfl rfl (Nat.le_of_ble_eq_true rfl) ((ev_C_keepForUndo hf1804).deep (by decide)) ?_
            refine mg_Ev.go 3 (pc' := 107) (loc' := [some (.ref 1), some (.int a0), some (.int a1), none]) (st' := [.ref 4]) (w' := (hp u35 fL fD, c, z)) rfl ?_
            obtain ⟨⟨v40, u41⟩, hf1805, h⟩ := Option.bind_eq_some_iff.mp h
            try dsimp only at h
            refine mg_Ev.call (y := 187) (as := [.ref 4]) (rest := []) (v := some (.int v40)) (w1 := (hp u41 fL fD, c, z)) rfl rfl (Nat.le_of_ble_eq_true rfl) ((ev_T_add_3 hf1805).deep (by decide)) ?_
            refine mg_Ev.go 7 (pc' := 121) (loc' := [some (.ref 1), some (.int a0), some (.int a1), some (.int v40)]) (st' := [.int a0, .int 0, .int v40, .ref 4]) (w' := (hp u41 fL fD, c, z)) rfl ?_
            obtain ⟨u43, hf1806, h⟩ := Option.bind_eq_some_iff.mp h
            refine mg_Ev.call (y := 185) (as := [.ref 4, .int v40, .int 0, .int a0]) (rest := []) (v := none) (w1 := (hp u43 fL fD, c, z)) rfl rfl (Nat.le_of_ble_eq_true rfl) ((ev_T_put_3 hf1806).deep (by decide)) ?_
            refine mg_Ev.go 6 (pc' := 134) (loc' := [some (.ref 1), some (.int a0), some (.int a1), some (.int v40)]) (st' := [.int a1, .int 1, .int v40, .ref 4]) (w' := (hp u43 fL fD, c, z)) rfl ?_
            obtain ⟨u44, hf1807, h⟩ := Option.bind_eq_some_iff.mp h
            refine mg_Ev.call (y := 185) (as := [.ref 4, .int v40, .int 1, .int a1]) (rest := []) (v := none) (w1 := (hp u44 fL fD, c, z)) rfl rfl (Nat.le_of_ble_eq_true rfl) ((ev_T_put_3 hf1807).deep (by decide)) ?_
            refine mg_Ev.go 6 (pc' := 147) (loc' := [some (.ref 1), some (.int a0), some (.int a1), some (.int v40)]) (st' := [.int (-1), .int 2, .int v40, .ref 4]) (w' := (hp u44 fL fD, c, z)) rfl ?_
            obtain ⟨u45, hf1808, h⟩ := Option.bind_eq_some_iff.mp h
            refine mg_Ev.call (y := 185) (as := [.ref 4, .int v40, .int 2, .int (-1)]) (rest := []) (v := none) (w1 := (hp u45 fL fD, c, z)) rfl rfl (Nat.le_of_ble_eq_true rfl) ((ev_T_put_3 hf1808).deep (by decide)) ?_
            refine mg_Ev.go 1 (pc' := 151) (loc' := [some (.ref 1), some (.int a0), some (.int a1), some (.int v40)]) (st' := [.int v40]) (w' := (hp u45 fL fD, c, z)) rfl ?_
            cases h
            exact mg_Ev.fin rfl rfl rfl
          · rw [if_neg hc1803] at h
            cases h
            exact mg_Ev.fin rfl rfl rfl
        · rw [if_neg hc1801] at h
          cases h
          exact mg_Ev.fin rfl rfl rfl
      · rw [if_neg hc1799] at h
        cases h
        exact mg_Ev.fin rfl rfl rfl
  · rw [if_neg hc1795] at h
    refine mg_Ev.go 4 (pc' := 13) (loc' := [some (.ref 1), some (.int a0), some (.int a1), none]) (st' := [.int a0, .ref 4]) (w' := (hp u fL fD, c, z)) rfl ?_
    obtain ⟨v47, hf1809, h⟩ := Option.bind_eq_some_iff.mp h
    refine mg_Ev.call (y := 182) (as := [.ref 4, .int a0]) (rest := []) (v := some (.int v47)) (w1 := (hp u fL fD, c, z)) rfl rfl (Nat.le_of_ble_eq_true rfl) ((ev_T_has_3 hf1809).deep (by decide)) ?_
    refine mg_Ev.br (P := v47 = 0) (t := 19) (nx := 29) (st' := []) rfl rfl rfl rfl (fun hc1810 => ?_) (fun hc1810 => ?_)
    · rw [if_pos hc1810] at h
      cases h
      exact mg_Ev.fin rfl rfl rfl
    · rw [if_neg hc1810] at h
      refine mg_Ev.go 3 (pc' := 33) (loc' := [some (.ref 1), some (.int a0), some (.int a1), none]) (st' := [.int 9, .int 1, .int a1]) (w' := (hp u fL fD, c, z)) rfl ?_
      obtain ⟨v48, hf1811, h⟩ := Option.bind_eq_some_iff.mp h
      refine mg_Ev.call (y := 54) (as := [.int a1, .int 1, .int 9]) (rest := []) (v := some (.int v48)) (w1 := (hp u fL fD, c, z)) rfl rfl (Nat.le_of_ble_eq_true rfl) ((ev_C_isWithin hf1811).deep (by decide)) ?_
      refine mg_Ev.br (P := v48 = 0) (t := 51) (nx := 39) (st' := []) rfl rfl rfl rfl (fun hc1812 => ?_) (fun hc1812 => ?_)
      · rw [if_pos hc1812] at h
        cases h
        exact mg_Ev.fin rfl rfl rfl
      · rw [if_neg hc1812] at h
        refine mg_Ev.go 4 (pc' := 45) (loc' := [some (.ref 1), some (.int a0), some (.int a1), none]) (st' := [.int a1, .int a0, .ref 3]) (w' := (hp u fL fD, c, z)) rfl ?_
        obtain ⟨v49, hf1813, h⟩ := Option.bind_eq_some_iff.mp h
        refine mg_Ev.call (y := 196) (as := [.ref 3, .int a0, .int a1]) (rest := []) (v := some (.int v49)) (w1 := (hp u fL fD, c, z)) rfl rfl (Nat.le_of_ble_eq_true rfl) ((ev_Tf_isTaken hf1813).deep (by decide)) ?_
        refine mg_Ev.br (P := v49 = 0) (t := 61) (nx := 51) (st' := []) rfl rfl rfl rfl (fun hc1814 => ?_) (fun hc1814 => ?_)
        · rw [if_pos hc1814] at h
          refine mg_Ev.go 3 (pc' := 68) (loc' := [some (.ref 1), some (.int a0), some (.int a1), none]) (st' := [.ref 4]) (w' := (hp u fL fD, c, z)) rfl ?_
          obtain ⟨v50, hf1815, h⟩ := Option.bind_eq_some_iff.mp h
          refine mg_Ev.call (y := 183) (as := [.ref 4]) (rest := []) (v := some (.int v50)) (w1 := (hp u fL fD, c, z)) rfl rfl (Nat.le_of_ble_eq_true rfl) ((ev_T_isFull_3 hf1815).deep (by decide)) ?_
          refine mg_Ev.br (P := v50 = 0) (t := 74) (nx := 86) (st' := []) rfl rfl rfl rfl (fun hc1816 => ?_) (fun hc1816 => ?_)
          · rw [if_pos hc1816] at h
            refine mg_Ev.go 3 (pc' := 79) (loc' := [some (.ref 1), some (.int a0), some (.int a1), none]) (st' := [.int a0, .ref 3]) (w' := (hp u fL fD, c, z)) rfl ?_
            obtain ⟨v51, hf1817, h⟩ := Option.bind_eq_some_iff.mp h
            refine mg_Ev.call (y := 197) (as := [.ref 3, .int a0]) (rest := []) (v := some (.int v51)) (w1 := (hp u fL fD, c, z)) rfl rfl (Nat.le_of_ble_eq_true rfl) ((ev_Tf_levelOf hf1817).deep (by decide)) ?_
            refine mg_Ev.go 1 (pc' := 83) (loc' := [some (.ref 1), some (.int a0), some (.int a1), none]) (st' := [.int 4, .int v51]) (w' := (hp u fL fD, c, z)) rfl ?_
            refine mg_Ev.br (P := v51 < 4) (t := 96) (nx := 86) (st' := []) rfl rfl rfl rfl (fun hc1818 => ?_) (fun hc1818 => ?_)
            · rw [if_pos hc1818] at h
              refine mg_Ev.go 1 (pc' := 97) (loc' := [some (.ref 1), some (.int a0), some (.int a1), none]) (st' := [.ref 1]) (w' := (hp u fL fD, c, z)) rfl ?_
              obtain ⟨u52, hf1819, h⟩ := Option.bind_eq_some_iff.mp h
              refine mg_Ev.call (y := 38) (as := [.ref 1]) (rest := []) (v := none) (w1 := (hp u52 fL fD, c, z)) rfl rfl (Nat.le_of_ble_eq_true rfl) ((ev_C_keepForUndo hf1819).deep (by decide)) ?_
              refine mg_Ev.go 3 (pc' := 107) (loc' := [some (.ref 1), some (.int a0), some (.int a1), none]) (st' := [.ref 4]) (w' := (hp u52 fL fD, c, z)) rfl ?_
              obtain ⟨⟨v53, u54⟩, hf1820, h⟩ := Option.bind_eq_some_iff.mp h
              try dsimp only at h
              refine mg_Ev.call (y := 187) (as := [.ref 4]) (rest := []) (v := some (.int v53)) (w1 := (hp u54 fL fD, c, z)) rfl rfl (Nat.le_of_ble_eq_true rfl) ((ev_T_add_3 hf1820).deep (by decide)) ?_
              refine mg_Ev.go 7 (pc' := 121) (loc' := [some (.ref 1), some (.int a0), some (.int a1), some (.int v53)]) (st' := [.int a0, .int 0, .int v53, .ref 4]) (w' := (hp u54 fL fD, c, z)) rfl ?_
              obtain ⟨u56, hf1821, h⟩ := Option.bind_eq_some_iff.mp h
              refine mg_Ev.call (y := 185) (as := [.ref 4, .int v53, .int 0, .int a0]) (rest := []) (v := none) (w1 := (hp u56 fL fD, c, z)) rfl rfl (Nat.le_of_ble_eq_true rfl) ((ev_T_put_3 hf1821).deep (by decide)) ?_
              refine mg_Ev.go 6 (pc' := 134) (loc' := [some (.ref 1), some (.int a0), some (.int a1), some (.int v53)]) (st' := [.int a1, .int 1, .int v53, .ref 4]) (w' := (hp u56 fL fD, c, z)) rfl ?_
              obtain ⟨u57, hf1822, h⟩ := Option.bind_eq_some_iff.mp h
              refine mg_Ev.call (y := 185) (as := [.ref 4, .int v53, .int 1, .int a1]) (rest := []) (v := none) (w1 := (hp u57 fL fD, c, z)) rfl rfl (Nat.le_of_ble_eq_true rfl) ((ev_T_put_3 hf1822).deep (by decide)) ?_
              refine mg_Ev.go 6 (pc' := 147) (loc' := [some (.ref 1), some (.int a0), some (.int a1), some (.int v53)]) (st' := [.int (-1), .int 2, .int v53, .ref 4]) (w' := (hp u57 fL fD, c, z)) rfl ?_
              obtain ⟨u58, hf1823, h⟩ := Option.bind_eq_some_iff.mp h
              refine mg_Ev.call (y := 185) (as := [.ref 4, .int v53, .int 2, .int (-1)]) (rest := []) (v := none) (w1 := (hp u58 fL fD, c, z)) rfl rfl (Nat.le_of_ble_eq_true rfl) ((ev_T_put_3 hf1823).deep (by decide)) ?_
              refine mg_Ev.go 1 (pc' := 151) (loc' := [some (.ref 1), some (.int a0), some (.int a1), some (.int v53)]) (st' := [.int v53]) (w' := (hp u58 fL fD, c, z)) rfl ?_
              cases h
              exact mg_Ev.fin rfl rfl rfl
            · rw [if_neg hc1818] at h
              cases h
              exact mg_Ev.fin rfl rfl rfl
          · rw [if_neg hc1816] at h
            cases h
            exact mg_Ev.fin rfl rfl rfl
        · rw [if_neg hc1814] at h
          cases h
          exact mg_Ev.fin rfl rfl rfl

def C_requireHeading (a0 : Int32) (u : mg_Rg) : Option ((Unit ⊕ Nat) × mg_Rg) :=
  (T_has_3 a0 u).bind fun v59 =>
  if v59 = 0 then
  some (.inr 0, u)
  else
  some (.inl (), u)

set_option maxRecDepth 10000 in
set_option maxHeartbeats 4000000 in
theorem ev_C_requireHeading {sc : mg_Sc} {c z : Nat} {fL : Nat → Int64} {fD : Nat → UInt64} {a0 : Int32} {u : mg_Rg} {p : (Unit ⊕ Nat) × mg_Rg} (h : C_requireHeading a0 u = some p) : mg_Ev sc 2 41 0 (mg_entry 41 [.ref 1, .int a0]) [] (hp u fL fD, c, z) (xru p.1, xw p.1 (hp p.2 fL fD) c z) := by
  unfold C_requireHeading at h
  show mg_Ev _ _ _ 0 [some (.ref 1), some (.int a0)] [] _ _
  refine mg_Ev.go 4 (pc' := 8) (loc' := [some (.ref 1), some (.int a0)]) (st' := [.int a0, .ref 4]) (w' := (hp u fL fD, c, z)) rfl ?_
  obtain ⟨v59, hf1824, h⟩ := Option.bind_eq_some_iff.mp h
  refine mg_Ev.call (y := 182) (as := [.ref 4, .int a0]) (rest := []) (v := some (.int v59)) (w1 := (hp u fL fD, c, z)) rfl rfl (Nat.le_of_ble_eq_true rfl) ((ev_T_has_3 hf1824).deep (by decide)) ?_
  refine mg_Ev.br (P := v59 = 0) (t := 14) (nx := 25) (st' := []) rfl rfl rfl rfl (fun hc1825 => ?_) (fun hc1825 => ?_)
  · rw [if_pos hc1825] at h
    cases h
    exact mg_Ev.fin rfl rfl rfl
  · rw [if_neg hc1825] at h
    cases h
    exact mg_Ev.fin rfl rfl rfl

