def T_count_22 (u : mg_Rg) : Option (Int32) :=
  some (u 23 0)

set_option maxRecDepth 10000 in
set_option maxHeartbeats 4000000 in
theorem ev_T_count_22 {sc : mg_Sc} {c z : Nat} {fL : Nat → Int64} {fD : Nat → UInt64} {u : mg_Rg} {v : Int32} (h : T_count_22 u = some v) : mg_Ev sc 0 181 0 (mg_entry 181 [.ref 23]) [] (hp u fL fD, c, z) (.inl (some (.int v)), (hp u fL fD, c, z)) := by
  unfold T_count_22 at h
  show mg_Ev _ _ _ 0 [some (.ref 23)] [] _ _
  refine mg_Ev.go 3 (pc' := 5) (loc' := [some (.ref 23)]) (st' := [.int 55]) (w' := (hp u fL fD, c, z)) rfl ?_
  refine mg_Ev.br (P := (55 : Int32) ≤ 0) (t := 17) (nx := 8) (st' := []) rfl rfl rfl rfl (fun q => absurd q (by decide)) (fun _ => ?_)
  refine mg_Ev.go 3 (pc' := 13) (loc' := [some (.ref 23)]) (st' := [.int 0, .ref 24]) (w' := (hp u fL fD, c, z)) rfl ?_
  refine mg_Ev.iald (a := 23) (n := 55) (f := u 23) (j := 0) rfl (hpg_23 _ _ _) (by decide) (by decide) ?_
  refine mg_Ev.go 1 (pc' := 18) (loc' := [some (.ref 23)]) (st' := [.int (u 23 0)]) (w' := (hp u fL fD, c, z)) rfl ?_
  cases h
  exact mg_Ev.fin rfl rfl rfl

def T_isFull_22 (u : mg_Rg) : Option (Int32) :=
  (T_count_22 u).bind fun v153 =>
  if v153 < 6 then
  some 0
  else
  some 1

set_option maxRecDepth 10000 in
set_option maxHeartbeats 4000000 in
theorem ev_T_isFull_22 {sc : mg_Sc} {c z : Nat} {fL : Nat → Int64} {fD : Nat → UInt64} {u : mg_Rg} {v : Int32} (h : T_isFull_22 u = some v) : mg_Ev sc 1 183 0 (mg_entry 183 [.ref 23]) [] (hp u fL fD, c, z) (.inl (some (.int v)), (hp u fL fD, c, z)) := by
  unfold T_isFull_22 at h
  show mg_Ev _ _ _ 0 [some (.ref 23)] [] _ _
  refine mg_Ev.go 1 (pc' := 1) (loc' := [some (.ref 23)]) (st' := [.ref 23]) (w' := (hp u fL fD, c, z)) rfl ?_
  obtain ⟨v153, hf1977, h⟩ := Option.bind_eq_some_iff.mp h
  refine mg_Ev.call (y := 181) (as := [.ref 23]) (rest := []) (v := some (.int v153)) (w1 := (hp u fL fD, c, z)) rfl rfl (Nat.le_of_ble_eq_true rfl) ((ev_T_count_22 hf1977).deep (by decide)) ?_
  refine mg_Ev.go 2 (pc' := 8) (loc' := [some (.ref 23)]) (st' := [.int 6, .int v153]) (w' := (hp u fL fD, c, z)) rfl ?_
  refine mg_Ev.br (P := v153 < 6) (t := 15) (nx := 11) (st' := []) rfl rfl rfl rfl (fun hc1978 => ?_) (fun hc1978 => ?_)
  · rw [if_pos hc1978] at h
    refine mg_Ev.go 1 (pc' := 16) (loc' := [some (.ref 23)]) (st' := [.int 0]) (w' := (hp u fL fD, c, z)) rfl ?_
    cases h
    exact mg_Ev.fin rfl rfl rfl
  · rw [if_neg hc1978] at h
    refine mg_Ev.go 2 (pc' := 16) (loc' := [some (.ref 23)]) (st' := [.int 1]) (w' := (hp u fL fD, c, z)) rfl ?_
    cases h
    exact mg_Ev.fin rfl rfl rfl

def T_put_22 (a0 : Int32) (a1 : Int32) (a2 : Int32) (u : mg_Rg) : Option (mg_Rg) :=
  if a0 < 0 then
  some u
  else
  if 6 ≤ a0 then
    some u
    else
    if a1 < 0 then
      some u
      else
      if a1 < 9 then
        if ((1 + (a0 * 9)) + a1) < 0 then
          some u
          else
          if 55 ≤ ((1 + (a0 * 9)) + a1) then
            some u
            else
            if ((1 + (a0 * 9)) + a1) < 0 ∨ 55 ≤ ((1 + (a0 * 9)) + a1).toNatClampNeg then none else
              some (mg_up u 23 (((1 + (a0 * 9)) + a1).toNatClampNeg) a2)
        else
        some u

set_option maxRecDepth 10000 in
set_option maxHeartbeats 4000000 in
theorem ev_T_put_22 {sc : mg_Sc} {c z : Nat} {fL : Nat → Int64} {fD : Nat → UInt64} {a0 : Int32} {a1 : Int32} {a2 : Int32} {u : mg_Rg} {v : mg_Rg} (h : T_put_22 a0 a1 a2 u = some v) : mg_Ev sc 0 185 0 (mg_entry 185 [.ref 23, .int a0, .int a1, .int a2]) [] (hp u fL fD, c, z) (.inl none, (hp v fL fD, c, z)) := by
  unfold T_put_22 at h
  show mg_Ev _ _ _ 0 [some (.ref 23), some (.int a0), some (.int a1), some (.int a2), none] [] _ _
  refine mg_Ev.go 1 (pc' := 1) (loc' := [some (.ref 23), some (.int a0), some (.int a1), some (.int a2), none]) (st' := [.int a0]) (w' := (hp u fL fD, c, z)) rfl ?_
  refine mg_Ev.br (P := a0 < 0) (t := 24) (nx := 4) (st' := []) rfl rfl rfl rfl (fun hc1979 => ?_) (fun hc1979 => ?_)
  · rw [if_pos hc1979] at h
    cases h
    exact mg_Ev.fin rfl rfl rfl
  · rw [if_neg hc1979] at h
    refine mg_Ev.go 3 (pc' := 9) (loc' := [some (.ref 23), some (.int a0), some (.int a1), some (.int a2), none]) (st' := [.int 6, .int a0]) (w' := (hp u fL fD, c, z)) rfl ?_
    refine mg_Ev.br (P := 6 ≤ a0) (t := 24) (nx := 12) (st' := []) rfl rfl rfl rfl (fun hc1980 => ?_) (fun hc1980 => ?_)
    · rw [if_pos hc1980] at h
      cases h
      exact mg_Ev.fin rfl rfl rfl
    · rw [if_neg hc1980] at h
      refine mg_Ev.go 1 (pc' := 13) (loc' := [some (.ref 23), some (.int a0), some (.int a1), some (.int a2), none]) (st' := [.int a1]) (w' := (hp u fL fD, c, z)) rfl ?_
      refine mg_Ev.br (P := a1 < 0) (t := 24) (nx := 16) (st' := []) rfl rfl rfl rfl (fun hc1981 => ?_) (fun hc1981 => ?_)
      · rw [if_pos hc1981] at h
        cases h
        exact mg_Ev.fin rfl rfl rfl
      · rw [if_neg hc1981] at h
        refine mg_Ev.go 3 (pc' := 21) (loc' := [some (.ref 23), some (.int a0), some (.int a1), some (.int a2), none]) (st' := [.int 9, .int a1]) (w' := (hp u fL fD, c, z)) rfl ?_
        refine mg_Ev.br (P := a1 < 9) (t := 25) (nx := 24) (st' := []) rfl rfl rfl rfl (fun hc1982 => ?_) (fun hc1982 => ?_)
        · rw [if_pos hc1982] at h
          refine mg_Ev.go 10 (pc' := 39) (loc' := [some (.ref 23), some (.int a0), some (.int a1), some (.int a2), some (.int ((1 + (a0 * 9)) + a1))]) (st' := [.int ((1 + (a0 * 9)) + a1)]) (w' := (hp u fL fD, c, z)) rfl ?_
          refine mg_Ev.br (P := ((1 + (a0 * 9)) + a1) < 0) (t := 60) (nx := 42) (st' := []) rfl rfl rfl rfl (fun hc1983 => ?_) (fun hc1983 => ?_)
          · rw [if_pos hc1983] at h
            cases h
            exact mg_Ev.fin rfl rfl rfl
          · rw [if_neg hc1983] at h
            refine mg_Ev.go 4 (pc' := 49) (loc' := [some (.ref 23), some (.int a0), some (.int a1), some (.int a2), some (.int ((1 + (a0 * 9)) + a1))]) (st' := [.int 55, .int ((1 + (a0 * 9)) + a1)]) (w' := (hp u fL fD, c, z)) rfl ?_
            refine mg_Ev.br (P := 55 ≤ ((1 + (a0 * 9)) + a1)) (t := 60) (nx := 52) (st' := []) rfl rfl rfl rfl (fun hc1984 => ?_) (fun hc1984 => ?_)
            · rw [if_pos hc1984] at h
              cases h
              exact mg_Ev.fin rfl rfl rfl
            · rw [if_neg hc1984] at h
              refine mg_Ev.go 4 (pc' := 59) (loc' := [some (.ref 23), some (.int a0), some (.int a1), some (.int a2), some (.int ((1 + (a0 * 9)) + a1))]) (st' := [.int a2, .int ((1 + (a0 * 9)) + a1), .ref 24]) (w' := (hp u fL fD, c, z)) rfl ?_
              by_cases hb1985 : ((1 + (a0 * 9)) + a1) < 0 ∨ 55 ≤ ((1 + (a0 * 9)) + a1).toNatClampNeg
              · rw [if_pos hb1985] at h
                cases h
              · rw [if_neg hb1985] at h
                refine mg_Ev.iast (a := 23) (n := 55) rfl (hpg_23 _ _ _) rfl hb1985 (hpa_23 _ _ _ _ _ _ _) ?_
                cases h
                exact mg_Ev.fin rfl rfl rfl
        · rw [if_neg hc1982] at h
          cases h
          exact mg_Ev.fin rfl rfl rfl

def T_setCount_22 (a0 : Int32) (u : mg_Rg) : Option (mg_Rg) :=
  some (mg_up u 23 0 a0)

set_option maxRecDepth 10000 in
set_option maxHeartbeats 4000000 in
theorem ev_T_setCount_22 {sc : mg_Sc} {c z : Nat} {fL : Nat → Int64} {fD : Nat → UInt64} {a0 : Int32} {u : mg_Rg} {v : mg_Rg} (h : T_setCount_22 a0 u = some v) : mg_Ev sc 0 193 0 (mg_entry 193 [.ref 23, .int a0]) [] (hp u fL fD, c, z) (.inl none, (hp v fL fD, c, z)) := by
  unfold T_setCount_22 at h
  show mg_Ev _ _ _ 0 [some (.ref 23), some (.int a0)] [] _ _
  refine mg_Ev.go 3 (pc' := 5) (loc' := [some (.ref 23), some (.int a0)]) (st' := [.int 55]) (w' := (hp u fL fD, c, z)) rfl ?_
  refine mg_Ev.br (P := (55 : Int32) ≤ 0) (t := 15) (nx := 8) (st' := []) rfl rfl rfl rfl (fun q => absurd q (by decide)) (fun _ => ?_)
  refine mg_Ev.go 4 (pc' := 14) (loc' := [some (.ref 23), some (.int a0)]) (st' := [.int a0, .int 0, .ref 24]) (w' := (hp u fL fD, c, z)) rfl ?_
  refine mg_Ev.iast (a := 23) (n := 55) (j := 0) rfl (hpg_23 _ _ _) (by decide) (by decide) (hpa_23 _ _ _ _ _ _ _) ?_
  cases h
  exact mg_Ev.fin rfl rfl rfl

def T_add_22_L17 : Nat → Int32 → Int32 → mg_Rg → Option (mg_Rg)
  | 0, _, _, _ => none
  | n + 1, x1, x2, u =>
    if 9 ≤ x2 then
    some (u)
    else
    (T_put_22 x1 x2 0 u).bind fun u157 =>
      T_add_22_L17 n x1 (x2 + 1) u157
set_option maxRecDepth 10000 in
set_option maxHeartbeats 4000000 in
theorem ev_T_add_22_L17 {sc : mg_Sc} {c z : Nat} {fL : Nat → Int64} {fD : Nat → UInt64} : ∀ (n : Nat) (x1 : Int32) (x2 : Int32) (u : mg_Rg) (res : mg_Rg), T_add_22_L17 n x1 x2 u = some res → ∀ r, (match res with | yu => mg_Ev sc 1 187 38 [some (.ref 23), some (.int x1), none] [] (hp yu fL fD, c, z) r) → mg_Ev sc 1 187 17 [some (.ref 23), some (.int x1), some (.int x2)] [] (hp u fL fD, c, z) r := by
  intro n
  induction n with
  | zero => intro x1 x2 u res h; cases h
  | succ n ih =>
    intro x1 x2 u res h r K
    unfold T_add_22_L17 at h
    refine mg_Ev.go 3 (pc' := 22) (loc' := [some (.ref 23), some (.int x1), some (.int x2)]) (st' := [.int 9, .int x2]) (w' := (hp u fL fD, c, z)) rfl ?_
    refine mg_Ev.br (P := 9 ≤ x2) (t := 38) (nx := 25) (st' := []) rfl rfl rfl rfl (fun hc1987 => ?_) (fun hc1987 => ?_)
    · rw [if_pos hc1987] at h
      cases h
      exact mg_Ev.more (loc := [some (.ref 23), some (.int x1), none]) K ⟨rfl, ⟨rfl, trivial⟩⟩
    · rw [if_neg hc1987] at h
      refine mg_Ev.go 4 (pc' := 29) (loc' := [some (.ref 23), some (.int x1), some (.int x2)]) (st' := [.int 0, .int x2, .int x1, .ref 23]) (w' := (hp u fL fD, c, z)) rfl ?_
      obtain ⟨u157, hf1988, h⟩ := Option.bind_eq_some_iff.mp h
      refine mg_Ev.call (y := 185) (as := [.ref 23, .int x1, .int x2, .int 0]) (rest := []) (v := none) (w1 := (hp u157 fL fD, c, z)) rfl rfl (Nat.le_of_ble_eq_true rfl) ((ev_T_put_22 hf1988).deep (by decide)) ?_
      refine mg_Ev.go 2 (pc' := 17) (loc' := [some (.ref 23), some (.int x1), some (.int (x2 + 1))]) (st' := []) (w' := (hp u157 fL fD, c, z)) rfl ?_
      exact mg_Ev.more (loc := [some (.ref 23), some (.int x1), some (.int (x2 + 1))]) (ih _ _ _ _ h _ K) ⟨rfl, ⟨rfl, ⟨rfl, trivial⟩⟩⟩

def T_add_22 (u : mg_Rg) : Option (Int32 × mg_Rg) :=
  (T_count_22 u).bind fun v156 =>
  if v156 < 6 then
  (T_add_22_L17 mg_F v156 0 u).bind fun q1989 => match q1989 with
    | u158 =>
      (T_setCount_22 (v156 + 1) u158).bind fun u159 =>
      some (v156, u159)
  else
  some ((-1), u)

set_option maxRecDepth 10000 in
set_option maxHeartbeats 4000000 in
theorem ev_T_add_22 {sc : mg_Sc} {c z : Nat} {fL : Nat → Int64} {fD : Nat → UInt64} {u : mg_Rg} {p : Int32 × mg_Rg} (h : T_add_22 u = some p) : mg_Ev sc 1 187 0 (mg_entry 187 [.ref 23]) [] (hp u fL fD, c, z) (.inl (some (.int p.1)), (hp p.2 fL fD, c, z)) := by
  unfold T_add_22 at h
  show mg_Ev _ _ _ 0 [some (.ref 23), none, none] [] _ _
  refine mg_Ev.go 1 (pc' := 1) (loc' := [some (.ref 23), none, none]) (st' := [.ref 23]) (w' := (hp u fL fD, c, z)) rfl ?_
  obtain ⟨v156, hf1990, h⟩ := Option.bind_eq_some_iff.mp h
  refine mg_Ev.call (y := 181) (as := [.ref 23]) (rest := []) (v := some (.int v156)) (w1 := (hp u fL fD, c, z)) rfl rfl (Nat.le_of_ble_eq_true rfl) ((ev_T_count_22 hf1990).deep (by decide)) ?_
  refine mg_Ev.go 4 (pc' := 10) (loc' := [some (.ref 23), some (.int v156), none]) (st' := [.int 6, .int v156]) (w' := (hp u fL fD, c, z)) rfl ?_
  refine mg_Ev.br (P := v156 < 6) (t := 15) (nx := 13) (st' := []) rfl rfl rfl rfl (fun hc1991 => ?_) (fun hc1991 => ?_)
  · rw [if_pos hc1991] at h
    refine mg_Ev.go 2 (pc' := 17) (loc' := [some (.ref 23), some (.int v156), some (.int 0)]) (st' := []) (w' := (hp u fL fD, c, z)) rfl ?_
    obtain ⟨u158, hl1992, h⟩ := Option.bind_eq_some_iff.mp h
    try dsimp only at h
    refine mg_Ev.more (loc := [some (.ref 23), some (.int v156), some (.int 0)]) (ev_T_add_22_L17 _ _ _ _ _ hl1992 _ ?_) ⟨rfl, ⟨rfl, ⟨rfl, trivial⟩⟩⟩
    show mg_Ev _ _ _ 38 [some (.ref 23), some (.int v156), none] [] (hp u158 fL fD, c, z) _
    refine mg_Ev.go 4 (pc' := 42) (loc' := [some (.ref 23), some (.int v156), none]) (st' := [.int (v156 + 1), .ref 23]) (w' := (hp u158 fL fD, c, z)) rfl ?_
    obtain ⟨u159, hf1993, h⟩ := Option.bind_eq_some_iff.mp h
    refine mg_Ev.call (y := 193) (as := [.ref 23, .int (v156 + 1)]) (rest := []) (v := none) (w1 := (hp u159 fL fD, c, z)) rfl rfl (Nat.le_of_ble_eq_true rfl) ((ev_T_setCount_22 hf1993).deep (by decide)) ?_
    refine mg_Ev.go 1 (pc' := 46) (loc' := [some (.ref 23), some (.int v156), none]) (st' := [.int v156]) (w' := (hp u159 fL fD, c, z)) rfl ?_
    cases h
    exact mg_Ev.fin rfl rfl rfl
  · rw [if_neg hc1991] at h
    refine mg_Ev.go 1 (pc' := 14) (loc' := [some (.ref 23), some (.int v156), none]) (st' := [.int (-1)]) (w' := (hp u fL fD, c, z)) rfl ?_
    cases h
    exact mg_Ev.fin rfl rfl rfl

def C_quota (a0 : Int32) (a1 : Int32) (a2 : Int32) (a3 : Int32) (a4 : Int32) (u : mg_Rg) : Option ((Int32 ⊕ Nat) × mg_Rg) :=
  (C_requireHeading a0 u).bind fun p145 => match p145 with
  | (.inr ee, u147) => some (.inr ee, u147)
  | (.inl _, u147) =>
    if a1 = (-1) then
    (Lg_day u147).bind fun v149 =>
      (C_isWithin a2 1 9999 u147).bind fun v150 =>
      if v150 = 0 then
      some (.inr 1, u147)
      else
      (C_isWithin a3 0 1000 u147).bind fun v151 =>
        if v151 = 0 then
        some (.inr 1, u147)
        else
        (C_isWithin a4 v149 999 u147).bind fun v152 =>
          if v152 = 0 then
          some (.inr 1, u147)
          else
          (T_isFull_22 u147).bind fun v154 =>
            if v154 = 0 then
            (C_keepForUndo u147).bind fun u155 =>
              (T_add_22 u155).bind fun p162 => match p162 with
              | (v160, u161) =>
                (T_put_22 v160 0 a0 u161).bind fun u163 =>
                (T_put_22 v160 1 a1 u163).bind fun u164 =>
                (T_put_22 v160 2 a2 u164).bind fun u165 =>
                (T_put_22 v160 3 a3 u165).bind fun u166 =>
                (T_put_22 v160 4 v149 u166).bind fun u167 =>
                (T_put_22 v160 5 a4 u167).bind fun u168 =>
                (T_put_22 v160 6 a2 u168).bind fun u169 =>
                some (.inl v160, u169)
            else
            some (.inr 2, u147)
    else
    (C_requireCountry a1 u147).bind fun p170 => match p170 with
      | (.inr ee, u172) => some (.inr ee, u172)
      | (.inl _, u172) =>
        (Lg_day u172).bind fun v173 =>
        (C_isWithin a2 1 9999 u172).bind fun v174 =>
        if v174 = 0 then
        some (.inr 1, u172)
        else
        (C_isWithin a3 0 1000 u172).bind fun v175 =>
          if v175 = 0 then
          some (.inr 1, u172)
          else
          (C_isWithin a4 v173 999 u172).bind fun v176 =>
            if v176 = 0 then
            some (.inr 1, u172)
            else
            (T_isFull_22 u172).bind fun v177 =>
              if v177 = 0 then
              (C_keepForUndo u172).bind fun u178 =>
                (T_add_22 u178).bind fun p181 => match p181 with
                | (v179, u180) =>
                  (T_put_22 v179 0 a0 u180).bind fun u182 =>
                  (T_put_22 v179 1 a1 u182).bind fun u183 =>
                  (T_put_22 v179 2 a2 u183).bind fun u184 =>
                  (T_put_22 v179 3 a3 u184).bind fun u185 =>
                  (T_put_22 v179 4 v173 u185).bind fun u186 =>
                  (T_put_22 v179 5 a4 u186).bind fun u187 =>
                  (T_put_22 v179 6 a2 u187).bind fun u188 =>
                  some (.inl v179, u188)
              else
              some (.inr 2, u172)

set_option maxRecDepth 10000 in
set_option maxHeartbeats 4000000 in
theorem ev_C_quota {sc : mg_Sc} {c z : Nat} {fL : Nat → Int64} {fD : Nat → UInt64} {a0 : Int32} {a1 : Int32} {a2 : Int32} {a3 : Int32} {a4 : Int32} {u : mg_Rg} {p : (Int32 ⊕ Nat) × mg_Rg} (h : C_quota a0 a1 a2 a3 a4 u = some p) : mg_Ev sc 6 8 0 (mg_entry 8 [.ref 1, .int a0, .int a1, .int a2, .int a3, .int a4]) [] (hp u fL fD, c, z) (xri p.1, xw p.1 (hp p.2 fL fD) c z) := by
  unfold C_quota at h
  show mg_Ev _ _ _ 0 [some (.ref 1), some (.int a0), some (.int a1), some (.int a2), some (.int a3), some (.int a4), none, none] [] _ _
  refine mg_Ev.go 2 (pc' := 2) (loc' := [some (.ref 1), some (.int a0), some (.int a1), some (.int a2), some (.int a3), some (.int a4), none, none]) (st' := [.int a0, .ref 1]) (w' := (hp u fL fD, c, z)) rfl ?_
  obtain ⟨⟨⟨⟩ | ee, u147⟩, hf1994, h⟩ := Option.bind_eq_some_iff.mp h
  · try dsimp only at h
    refine mg_Ev.call (y := 41) (as := [.ref 1, .int a0]) (rest := []) (v := none) (w1 := (hp u147 fL fD, c, z)) rfl rfl (Nat.le_of_ble_eq_true rfl) ((ev_C_requireHeading hf1994).deep (by decide)) ?_
    refine mg_Ev.go 2 (pc' := 7) (loc' := [some (.ref 1), some (.int a0), some (.int a1), some (.int a2), some (.int a3), some (.int a4), none, none]) (st' := [.int (-1), .int a1]) (w' := (hp u147 fL fD, c, z)) rfl ?_
    refine mg_Ev.br (P := a1 = (-1)) (t := 15) (nx := 10) (st' := []) rfl rfl rfl rfl (fun hc1995 => ?_) (fun hc1995 => ?_)
    · rw [if_pos hc1995] at h
      refine mg_Ev.go 2 (pc' := 19) (loc' := [some (.ref 1), some (.int a0), some (.int a1), some (.int a2), some (.int a3), some (.int a4), none, none]) (st' := [.ref 16]) (w' := (hp u147 fL fD, c, z)) rfl ?_
      obtain ⟨v149, hf1996, h⟩ := Option.bind_eq_some_iff.mp h
      refine mg_Ev.call (y := 144) (as := [.ref 16]) (rest := []) (v := some (.int v149)) (w1 := (hp u147 fL fD, c, z)) rfl rfl (Nat.le_of_ble_eq_true rfl) ((ev_Lg_day hf1996).deep (by decide)) ?_
      refine mg_Ev.go 4 (pc' := 29) (loc' := [some (.ref 1), some (.int a0), some (.int a1), some (.int a2), some (.int a3), some (.int a4), some (.int v149), none]) (st' := [.int 9999, .int 1, .int a2]) (w' := (hp u147 fL fD, c, z)) rfl ?_
      obtain ⟨v150, hf1997, h⟩ := Option.bind_eq_some_iff.mp h
      refine mg_Ev.call (y := 54) (as := [.int a2, .int 1, .int 9999]) (rest := []) (v := some (.int v150)) (w1 := (hp u147 fL fD, c, z)) rfl rfl (Nat.le_of_ble_eq_true rfl) ((ev_C_isWithin hf1997).deep (by decide)) ?_
      refine mg_Ev.br (P := v150 = 0) (t := 60) (nx := 35) (st' := []) rfl rfl rfl rfl (fun hc1998 => ?_) (fun hc1998 => ?_)
      · rw [if_pos hc1998] at h
        cases h
        exact mg_Ev.fin rfl rfl rfl
      · rw [if_neg hc1998] at h
        refine mg_Ev.go 3 (pc' := 41) (loc' := [some (.ref 1), some (.int a0), some (.int a1), some (.int a2), some (.int a3), some (.int a4), some (.int v149), none]) (st' := [.int 1000, .int 0, .int a3]) (w' := (hp u147 fL fD, c, z)) rfl ?_
        obtain ⟨v151, hf1999, h⟩ := Option.bind_eq_some_iff.mp h
        refine mg_Ev.call (y := 54) (as := [.int a3, .int 0, .int 1000]) (rest := []) (v := some (.int v151)) (w1 := (hp u147 fL fD, c, z)) rfl rfl (Nat.le_of_ble_eq_true rfl) ((ev_C_isWithin hf1999).deep (by decide)) ?_
        refine mg_Ev.br (P := v151 = 0) (t := 60) (nx := 47) (st' := []) rfl rfl rfl rfl (fun hc2000 => ?_) (fun hc2000 => ?_)
        · rw [if_pos hc2000] at h
          cases h
          exact mg_Ev.fin rfl rfl rfl
        · rw [if_neg hc2000] at h
          refine mg_Ev.go 3 (pc' := 54) (loc' := [some (.ref 1), some (.int a0), some (.int a1), some (.int a2), some (.int a3), some (.int a4), some (.int v149), none]) (st' := [.int 999, .int v149, .int a4]) (w' := (hp u147 fL fD, c, z)) rfl ?_
          obtain ⟨v152, hf2001, h⟩ := Option.bind_eq_some_iff.mp h
          refine mg_Ev.call (y := 54) (as := [.int a4, .int v149, .int 999]) (rest := []) (v := some (.int v152)) (w1 := (hp u147 fL fD, c, z)) rfl rfl (Nat.le_of_ble_eq_true rfl) ((ev_C_isWithin hf2001).deep (by decide)) ?_
          refine mg_Ev.br (P := v152 = 0) (t := 60) (nx := 70) (st' := []) rfl rfl rfl rfl (fun hc2002 => ?_) (fun hc2002 => ?_)
          · rw [if_pos hc2002] at h
            cases h
            exact mg_Ev.fin rfl rfl rfl
          · rw [if_neg hc2002] at h
            refine mg_Ev.go 3 (pc' := 77) (loc' := [some (.ref 1), some (.int a0), some (.int a1), some (.int a2), some (.int a3), some (.int a4), some (.int v149), none]) (st' := [.ref 23]) (w' := (hp u147 fL fD, c, z)) rfl ?_
            obtain ⟨v154, hf2003, h⟩ := Option.bind_eq_some_iff.mp h
            refine mg_Ev.call (y := 183) (as := [.ref 23]) (rest := []) (v := some (.int v154)) (w1 := (hp u147 fL fD, c, z)) rfl rfl (Nat.le_of_ble_eq_true rfl) ((ev_T_isFull_22 hf2003).deep (by decide)) ?_
            refine mg_Ev.br (P := v154 = 0) (t := 93) (nx := 83) (st' := []) rfl rfl rfl rfl (fun hc2004 => ?_) (fun hc2004 => ?_)
            · rw [if_pos hc2004] at h
              refine mg_Ev.go 1 (pc' := 94) (loc' := [some (.ref 1), some (.int a0), some (.int a1), some (.int a2), some (.int a3), some (.int a4), some (.int v149), none]) (st' := [.ref 1]) (w' := (hp u147 fL fD, c, z)) rfl ?_
              obtain ⟨u155, hf2005, h⟩ := Option.bind_eq_some_iff.mp h
              refine mg_Ev.call (y := 38) (as := [.ref 1]) (rest := []) (v := none) (w1 := (hp u155 fL fD, c, z)) rfl rfl (Nat.le_of_ble_eq_true rfl) ((ev_C_keepForUndo hf2005).deep (by decide)) ?_
              refine mg_Ev.go 3 (pc' := 104) (loc' := [some (.ref 1), some (.int a0), some (.int a1), some (.int a2), some (.int a3), some (.int a4), some (.int v149), none]) (st' := [.ref 23]) (w' := (hp u155 fL fD, c, z)) rfl ?_
              obtain ⟨⟨v160, u161⟩, hf2006, h⟩ := Option.bind_eq_some_iff.mp h
              try dsimp only at h
              refine mg_Ev.call (y := 187) (as := [.ref 23]) (rest := []) (v := some (.int v160)) (w1 := (hp u161 fL fD, c, z)) rfl rfl (Nat.le_of_ble_eq_true rfl) ((ev_T_add_22 hf2006).deep (by decide)) ?_
              refine mg_Ev.go 7 (pc' := 120) (loc' := [some (.ref 1), some (.int a0), some (.int a1), some (.int a2), some (.int a3), some (.int a4), some (.int v149), some (.int v160)]) (st' := [.int a0, .int 0, .int v160, .ref 23]) (w' := (hp u161 fL fD, c, z)) rfl ?_
              obtain ⟨u163, hf2007, h⟩ := Option.bind_eq_some_iff.mp h
              refine mg_Ev.call (y := 185) (as := [.ref 23, .int v160, .int 0, .int a0]) (rest := []) (v := none) (w1 := (hp u163 fL fD, c, z)) rfl rfl (Nat.le_of_ble_eq_true rfl) ((ev_T_put_22 hf2007).deep (by decide)) ?_
              refine mg_Ev.go 6 (pc' := 134) (loc' := [some (.ref 1), some (.int a0), some (.int a1), some (.int a2), some (.int a3), some (.int a4), some (.int v149), some (.int v160)]) (st' := [.int a1, .int 1, .int v160, .ref 23]) (w' := (hp u163 fL fD, c, z)) rfl ?_
              obtain ⟨u164, hf2008, h⟩ := Option.bind_eq_some_iff.mp h
              refine mg_Ev.call (y := 185) (as := [.ref 23, .int v160, .int 1, .int a1]) (rest := []) (v := none) (w1 := (hp u164 fL fD, c, z)) rfl rfl (Nat.le_of_ble_eq_true rfl) ((ev_T_put_22 hf2008).deep (by decide)) ?_
              refine mg_Ev.go 6 (pc' := 148) (loc' := [some (.ref 1), some (.int a0), some (.int a1), some (.int a2), some (.int a3), some (.int a4), some (.int v149), some (.int v160)]) (st' := [.int a2, .int 2, .int v160, .ref 23]) (w' := (hp u164 fL fD, c, z)) rfl ?_
              obtain ⟨u165, hf2009, h⟩ := Option.bind_eq_some_iff.mp h
              refine mg_Ev.call (y := 185) (as := [.ref 23, .int v160, .int 2, .int a2]) (rest := []) (v := none) (w1 := (hp u165 fL fD, c, z)) rfl rfl (Nat.le_of_ble_eq_true rfl) ((ev_T_put_22 hf2009).deep (by decide)) ?_
              refine mg_Ev.go 6 (pc' := 163) (loc' := [some (.ref 1), some (.int a0), some (.int a1), some (.int a2), some (.int a3), some (.int a4), some (.int v149), some (.int v160)]) (st' := [.int a3, .int 3, .int v160, .ref 23]) (w' := (hp u165 fL fD, c, z)) rfl ?_
              obtain ⟨u166, hf2010, h⟩ := Option.bind_eq_some_iff.mp h
              refine mg_Ev.call (y := 185) (as := [.ref 23, .int v160, .int 3, .int a3]) (rest := []) (v := none) (w1 := (hp u166 fL fD, c, z)) rfl rfl (Nat.le_of_ble_eq_true rfl) ((ev_T_put_22 hf2010).deep (by decide)) ?_
              refine mg_Ev.go 6 (pc' := 178) (loc' := [some (.ref 1), some (.int a0), some (.int a1), some (.int a2), some (.int a3), some (.int a4), some (.int v149), some (.int v160)]) (st' := [.int v149, .int 4, .int v160, .ref 23]) (w' := (hp u166 fL fD, c, z)) rfl ?_
              obtain ⟨u167, hf2011, h⟩ := Option.bind_eq_some_iff.mp h
              refine mg_Ev.call (y := 185) (as := [.ref 23, .int v160, .int 4, .int v149]) (rest := []) (v := none) (w1 := (hp u167 fL fD, c, z)) rfl rfl (Nat.le_of_ble_eq_true rfl) ((ev_T_put_22 hf2011).deep (by decide)) ?_
              refine mg_Ev.go 6 (pc' := 193) (loc' := [some (.ref 1), some (.int a0), some (.int a1), some (.int a2), some (.int a3), some (.int a4), some (.int v149), some (.int v160)]) (st' := [.int a4, .int 5, .int v160, .ref 23]) (w' := (hp u167 fL fD, c, z)) rfl ?_
              obtain ⟨u168, hf2012, h⟩ := Option.bind_eq_some_iff.mp h
              refine mg_Ev.call (y := 185) (as := [.ref 23, .int v160, .int 5, .int a4]) (rest := []) (v := none) (w1 := (hp u168 fL fD, c, z)) rfl rfl (Nat.le_of_ble_eq_true rfl) ((ev_T_put_22 hf2012).deep (by decide)) ?_
              refine mg_Ev.go 6 (pc' := 208) (loc' := [some (.ref 1), some (.int a0), some (.int a1), some (.int a2), some (.int a3), some (.int a4), some (.int v149), some (.int v160)]) (st' := [.int a2, .int 6, .int v160, .ref 23]) (w' := (hp u168 fL fD, c, z)) rfl ?_
              obtain ⟨u169, hf2013, h⟩ := Option.bind_eq_some_iff.mp h
              refine mg_Ev.call (y := 185) (as := [.ref 23, .int v160, .int 6, .int a2]) (rest := []) (v := none) (w1 := (hp u169 fL fD, c, z)) rfl rfl (Nat.le_of_ble_eq_true rfl) ((ev_T_put_22 hf2013).deep (by decide)) ?_
              refine mg_Ev.go 1 (pc' := 213) (loc' := [some (.ref 1), some (.int a0), some (.int a1), some (.int a2), some (.int a3), some (.int a4), some (.int v149), some (.int v160)]) (st' := [.int v160]) (w' := (hp u169 fL fD, c, z)) rfl ?_
              cases h
              exact mg_Ev.fin rfl rfl rfl
            · rw [if_neg hc2004] at h
              cases h
              exact mg_Ev.fin rfl rfl rfl
    · rw [if_neg hc1995] at h
      refine mg_Ev.go 2 (pc' := 12) (loc' := [some (.ref 1), some (.int a0), some (.int a1), some (.int a2), some (.int a3), some (.int a4), none, none]) (st' := [.int a1, .ref 1]) (w' := (hp u147 fL fD, c, z)) rfl ?_
      obtain ⟨⟨⟨⟩ | ee, u172⟩, hf2014, h⟩ := Option.bind_eq_some_iff.mp h
      · try dsimp only at h
        refine mg_Ev.call (y := 42) (as := [.ref 1, .int a1]) (rest := []) (v := none) (w1 := (hp u172 fL fD, c, z)) rfl rfl (Nat.le_of_ble_eq_true rfl) ((ev_C_requireCountry hf2014).deep (by decide)) ?_
        refine mg_Ev.go 2 (pc' := 19) (loc' := [some (.ref 1), some (.int a0), some (.int a1), some (.int a2), some (.int a3), some (.int a4), none, none]) (st' := [.ref 16]) (w' := (hp u172 fL fD, c, z)) rfl ?_
        obtain ⟨v173, hf2015, h⟩ := Option.bind_eq_some_iff.mp h
        refine mg_Ev.call (y := 144) (as := [.ref 16]) (rest := []) (v := some (.int v173)) (w1 := (hp u172 fL fD, c, z)) rfl rfl (Nat.le_of_ble_eq_true rfl) ((ev_Lg_day hf2015).deep (by decide)) ?_
        refine mg_Ev.go 4 (pc' := 29) (loc' := [some (.ref 1), some (.int a0), some (.int a1), some (.int a2), some (.int a3), some (.int a4), some (.int v173), none]) (st' := [.int 9999, .int 1, .int a2]) (w' := (hp u172 fL fD, c, z)) rfl ?_
        obtain ⟨v174, hf2016, h⟩ := Option.bind_eq_some_iff.mp h
        refine mg_Ev.call (y := 54) (as := [.int a2, .int 1, .int 9999]) (rest := []) (v := some (.int v174)) (w1 := (hp u172 fL fD, c, z)) rfl rfl (Nat.le_of_ble_eq_true rfl) ((ev_C_isWithin hf2016).deep (by decide)) ?_
        refine mg_Ev.br (P := v174 = 0) (t := 60) (nx := 35) (st' := []) rfl rfl rfl rfl (fun hc2017 => ?_) (fun hc2017 => ?_)
        · rw [if_pos hc2017] at h
          cases h
          exact mg_Ev.fin rfl rfl rfl
        · rw [if_neg hc2017] at h
          refine mg_Ev.go 3 (pc' := 41) (loc' := [some (.ref 1), some (.int a0), some (.int a1), some (.int a2), some (.int a3), some (.int a4), some (.int v173), none]) (st' := [.int 1000, .int 0, .int a3]) (w' := (hp u172 fL fD, c, z)) rfl ?_
          obtain ⟨v175, hf2018, h⟩ := Option.bind_eq_some_iff.mp h
          refine mg_Ev.call (y := 54) (as := [.int a3, .int 0, .int 1000]) (rest := []) (v := some (.int v175)) (w1 := (hp u172 fL fD, c, z)) rfl rfl (Nat.le_of_ble_eq_true rfl) ((ev_C_isWithin hf2018).deep (by decide)) ?_
          refine mg_Ev.br (P := v175 = 0) (t := 60) (nx := 47) (st' := []) rfl rfl rfl rfl (fun hc2019 => ?_) (fun hc2019 => ?_)
          · rw [if_pos hc2019] at h
            cases h
            exact mg_Ev.fin rfl rfl rfl
          · rw [if_neg hc2019] at h
            refine mg_Ev.go 3 (pc' := 54) (loc' := [some (.ref 1), some (.int a0), some (.int a1), some (.int a2), some (.int a3), some (.int a4), some (.int v173), none]) (st' := [.int 999, .int v173, .int a4]) (w' := (hp u172 fL fD, c, z)) rfl ?_
            obtain ⟨v176, hf2020, h⟩ := Option.bind_eq_some_iff.mp h
            refine mg_Ev.call (y := 54) (as := [.int a4, .int v173, .int 999]) (rest := []) (v := some (.int v176)) (w1 := (hp u172 fL fD, c, z)) rfl rfl (Nat.le_of_ble_eq_true rfl) ((ev_C_isWithin hf2020).deep (by decide)) ?_
            refine mg_Ev.br (P := v176 = 0) (t := 60) (nx := 70) (st' := []) rfl rfl rfl rfl (fun hc2021 => ?_) (fun hc2021 => ?_)
            · rw [if_pos hc2021] at h
              cases h
              exact mg_Ev.fin rfl rfl rfl
            · rw [if_neg hc2021] at h
              refine mg_Ev.go 3 (pc' := 77) (loc' := [some (.ref 1), some (.int a0), some (.int a1), some (.int a2), some (.int a3), some (.int a4), some (.int v173), none]) (st' := [.ref 23]) (w' := (hp u172 fL fD, c, z)) rfl ?_
              obtain ⟨v177, hf2022, h⟩ := Option.bind_eq_some_iff.mp h
              refine mg_Ev.call (y := 183) (as := [.ref 23]) (rest := []) (v := some (.int v177)) (w1 := (hp u172 fL fD, c, z)) rfl rfl (Nat.le_of_ble_eq_true rfl) ((ev_T_isFull_22 hf2022).deep (by decide)) ?_
              refine mg_Ev.br (P := v177 = 0) (t := 93) (nx := 83) (st' := []) rfl rfl rfl rfl (fun hc2023 => ?_) (fun hc2023 => ?_)
              · rw [if_pos hc2023] at h
                refine mg_Ev.go 1 (pc' := 94) (loc' := [some (.ref 1), some (.int a0), some (.int a1), some (.int a2), some (.int a3), some (.int a4), some (.int v173), none]) (st' := [.ref 1]) (w' := (hp u172 fL fD, c, z)) rfl ?_
                obtain ⟨u178, hf2024, h⟩ := Option.bind_eq_some_iff.mp h
                refine mg_Ev.call (y := 38) (as := [.ref 1]) (rest := []) (v := none) (w1 := (hp u178 fL fD, c, z)) rfl rfl (Nat.le_of_ble_eq_true rfl) ((ev_C_keepForUndo hf2024).deep (by decide)) ?_
                refine mg_Ev.go 3 (pc' := 104) (loc' := [some (.ref 1), some (.int a0), some (.int a1), some (.int a2), some (.int a3), some (.int a4), some (.int v173), none]) (st' := [.ref 23]) (w' := (hp u178 fL fD, c, z)) rfl ?_
                obtain ⟨⟨v179, u180⟩, hf2025, h⟩ := Option.bind_eq_some_iff.mp h
                try dsimp only at h
                refine mg_Ev.call (y := 187) (as := [.ref 23]) (rest := []) (v := some (.int v179)) (w1 := (hp u180 fL fD, c, z)) rfl rfl (Nat.le_of_ble_eq_true rfl) ((ev_T_add_22 hf2025).deep (by decide)) ?_
                refine mg_Ev.go 7 (pc' := 120) (loc' := [some (.ref 1), some (.int a0), some (.int a1), some (.int a2), some (.int a3), some (.int a4), some (.int v173), some (.int v179)]) (st' := [.int a0, .int 0, .int v179, .ref 23]) (w' := (hp u180 fL fD, c, z)) rfl ?_
                obtain ⟨u182, hf2026, h⟩ := Option.bind_eq_some_iff.mp h
                refine mg_Ev.call (y := 185) (as := [.ref 23, .int v179, .int 0, .int a0]) (rest := []) (v := none) (w1 := (hp u182 fL fD, c, z)) rfl rfl (Nat.le_of_ble_eq_true rfl) ((ev_T_put_22 hf2026).deep (by decide)) ?_
                refine mg_Ev.go 6 (pc' := 134) (loc' := [some (.ref 1), some (.int a0), some (.int a1), some (.int a2), some (.int a3), some (.int a4), some (.int v173), some (.int v179)]) (st' := [.int a1, .int 1, .int v179, .ref 23]) (w' := (hp u182 fL fD, c, z)) rfl ?_
                obtain ⟨u183, hf2027, h⟩ := Option.bind_eq_some_iff.mp h
                refine mg_Ev.call (y := 185) (as := [.ref 23, .int v179, .int 1, .int a1]) (rest := []) (v := none) (w1 := (hp u183 fL fD, c, z)) rfl rfl (Nat.le_of_ble_eq_true rfl) ((ev_T_put_22 hf2027).deep (by decide)) ?_
                refine mg_Ev.go 6 (pc' := 148) (loc' := [some (.ref 1), some (.int a0), some (.int a1), some (.int a2), some (.int a3), some (.int a4), some (.int v173), some (.int v179)]) (st' := [.int a2, .int 2, .int v179, .ref 23]) (w' := (hp u183 fL fD, c, z)) rfl ?_
                obtain ⟨u184, hf2028, h⟩ := Option.bind_eq_some_iff.mp h
                refine mg_Ev.call (y := 185) (as := [.ref 23, .int v179, .int 2, .int a2]) (rest := []) (v := none) (w1 := (hp u184 fL fD, c, z)) rfl rfl (Nat.le_of_ble_eq_true rfl) ((ev_T_put_22 hf2028).deep (by decide)) ?_
                refine mg_Ev.go 6 (pc' := 163) (loc' := [some (.ref 1), some (.int a0), some (.int a1), some (.int a2), some (.int a3), some (.int a4), some (.int v173), some (.int v179)]) (st' := [.int a3, .int 3, .int v179, .ref 23]) (w' := (hp u184 fL fD, c, z)) rfl ?_
                obtain ⟨u185, hf2029, h⟩ := Option.bind_eq_some_iff.mp h
                refine mg_Ev.call (y := 185) (as := [.ref 23, .int v179, .int 3, .int a3]) (rest := []) (v := none) (w1 := (hp u185 fL fD, c, z)) rfl rfl (Nat.le_of_ble_eq_true rfl) ((ev_T_put_22 hf2029).deep (by decide)) ?_
                refine mg_Ev.go 6 (pc' := 178) (loc' := [some (.ref 1), some (.int a0), some (.int a1), some (.int a2), some (.int a3), some (.int a4), some (.int v173), some (.int v179)]) (st' := [.int v173, .int 4, .int v179, .ref 23]) (w' := (hp u185 fL fD, c, z)) rfl ?_
                obtain ⟨u186, hf2030, h⟩ := Option.bind_eq_some_iff.mp h
                refine mg_Ev.call (y := 185) (as := [.ref 23, .int v179, .int 4, .int v173]) (rest := []) (v := none) (w1 := (hp u186 fL fD, c, z)) rfl rfl (Nat.le_of_ble_eq_true rfl) ((ev_T_put_22 hf2030).deep (by decide)) ?_
                refine mg_Ev.go 6 (pc' := 193) (loc' := [some (.ref 1), some (.int a0), some (.int a1), some (.int a2), some (.int a3), some (.int a4), some (.int v173), some (.int v179)]) (st' := [.int a4, .int 5, .int v179, .ref 23]) (w' := (hp u186 fL fD, c, z)) rfl ?_
                obtain ⟨u187, hf2031, h⟩ := Option.bind_eq_some_iff.mp h
                refine mg_Ev.call (y := 185) (as := [.ref 23, .int v179, .int 5, .int a4]) (rest := []) (v := none) (w1 := (hp u187 fL fD, c, z)) rfl rfl (Nat.le_of_ble_eq_true rfl) ((ev_T_put_22 hf2031).deep (by decide)) ?_
                refine mg_Ev.go 6 (pc' := 208) (loc' := [some (.ref 1), some (.int a0), some (.int a1), some (.int a2), some (.int a3), some (.int a4), some (.int v173), some (.int v179)]) (st' := [.int a2, .int 6, .int v179, .ref 23]) (w' := (hp u187 fL fD, c, z)) rfl ?_
                obtain ⟨u188, hf2032, h⟩ := Option.bind_eq_some_iff.mp h
                refine mg_Ev.call (y := 185) (as := [.ref 23, .int v179, .int 6, .int a2]) (rest := []) (v := none) (w1 := (hp u188 fL fD, c, z)) rfl rfl (Nat.le_of_ble_eq_true rfl) ((ev_T_put_22 hf2032).deep (by decide)) ?_
                refine mg_Ev.go 1 (pc' := 213) (loc' := [some (.ref 1), some (.int a0), some (.int a1), some (.int a2), some (.int a3), some (.int a4), some (.int v173), some (.int v179)]) (st' := [.int v179]) (w' := (hp u188 fL fD, c, z)) rfl ?_
                cases h
                exact mg_Ev.fin rfl rfl rfl
              · rw [if_neg hc2023] at h
                cases h
                exact mg_Ev.fin rfl rfl rfl
      · cases h
        exact mg_Ev.callX (y := 42) (as := [.ref 1, .int a1]) (rest := []) rfl rfl (Nat.le_of_ble_eq_true rfl) ((ev_C_requireCountry hf2014).deep (by decide)) rfl
  · cases h
    exact mg_Ev.callX (y := 41) (as := [.ref 1, .int a0]) (rest := []) rfl rfl (Nat.le_of_ble_eq_true rfl) ((ev_C_requireHeading hf1994).deep (by decide)) rfl

def T_has_22 (a0 : Int32) (u : mg_Rg) : Option (Int32) :=
  if a0 < 0 then
  some 0
  else
  (T_count_22 u).bind fun v189 =>
    if v189 ≤ a0 then
    some 0
    else
    some 1

set_option maxRecDepth 10000 in
set_option maxHeartbeats 4000000 in
theorem ev_T_has_22 {sc : mg_Sc} {c z : Nat} {fL : Nat → Int64} {fD : Nat → UInt64} {a0 : Int32} {u : mg_Rg} {v : Int32} (h : T_has_22 a0 u = some v) : mg_Ev sc 1 182 0 (mg_entry 182 [.ref 23, .int a0]) [] (hp u fL fD, c, z) (.inl (some (.int v)), (hp u fL fD, c, z)) := by
  unfold T_has_22 at h
  show mg_Ev _ _ _ 0 [some (.ref 23), some (.int a0)] [] _ _
  refine mg_Ev.go 1 (pc' := 1) (loc' := [some (.ref 23), some (.int a0)]) (st' := [.int a0]) (w' := (hp u fL fD, c, z)) rfl ?_
  refine mg_Ev.br (P := a0 < 0) (t := 16) (nx := 4) (st' := []) rfl rfl rfl rfl (fun hc2033 => ?_) (fun hc2033 => ?_)
  · rw [if_pos hc2033] at h
    refine mg_Ev.go 1 (pc' := 17) (loc' := [some (.ref 23), some (.int a0)]) (st' := [.int 0]) (w' := (hp u fL fD, c, z)) rfl ?_
    cases h
    exact mg_Ev.fin rfl rfl rfl
  · rw [if_neg hc2033] at h
    refine mg_Ev.go 2 (pc' := 6) (loc' := [some (.ref 23), some (.int a0)]) (st' := [.ref 23, .int a0]) (w' := (hp u fL fD, c, z)) rfl ?_
    obtain ⟨v189, hf2034, h⟩ := Option.bind_eq_some_iff.mp h
    refine mg_Ev.call (y := 181) (as := [.ref 23]) (rest := [.int a0]) (v := some (.int v189)) (w1 := (hp u fL fD, c, z)) rfl rfl (Nat.le_of_ble_eq_true rfl) ((ev_T_count_22 hf2034).deep (by decide)) ?_
    refine mg_Ev.br (P := v189 ≤ a0) (t := 16) (nx := 12) (st' := []) rfl rfl rfl rfl (fun hc2035 => ?_) (fun hc2035 => ?_)
    · rw [if_pos hc2035] at h
      refine mg_Ev.go 1 (pc' := 17) (loc' := [some (.ref 23), some (.int a0)]) (st' := [.int 0]) (w' := (hp u fL fD, c, z)) rfl ?_
      cases h
      exact mg_Ev.fin rfl rfl rfl
    · rw [if_neg hc2035] at h
      refine mg_Ev.go 2 (pc' := 17) (loc' := [some (.ref 23), some (.int a0)]) (st' := [.int 1]) (w' := (hp u fL fD, c, z)) rfl ?_
      cases h
      exact mg_Ev.fin rfl rfl rfl

def C_requireQuota (a0 : Int32) (u : mg_Rg) : Option ((Unit ⊕ Nat) × mg_Rg) :=
  (T_has_22 a0 u).bind fun v190 =>
  if v190 = 0 then
  some (.inr 0, u)
  else
  some (.inl (), u)

set_option maxRecDepth 10000 in
set_option maxHeartbeats 4000000 in
theorem ev_C_requireQuota {sc : mg_Sc} {c z : Nat} {fL : Nat → Int64} {fD : Nat → UInt64} {a0 : Int32} {u : mg_Rg} {p : (Unit ⊕ Nat) × mg_Rg} (h : C_requireQuota a0 u = some p) : mg_Ev sc 2 43 0 (mg_entry 43 [.ref 1, .int a0]) [] (hp u fL fD, c, z) (xru p.1, xw p.1 (hp p.2 fL fD) c z) := by
  unfold C_requireQuota at h
  show mg_Ev _ _ _ 0 [some (.ref 1), some (.int a0)] [] _ _
  refine mg_Ev.go 4 (pc' := 8) (loc' := [some (.ref 1), some (.int a0)]) (st' := [.int a0, .ref 23]) (w' := (hp u fL fD, c, z)) rfl ?_
  obtain ⟨v190, hf2036, h⟩ := Option.bind_eq_some_iff.mp h
  refine mg_Ev.call (y := 182) (as := [.ref 23, .int a0]) (rest := []) (v := some (.int v190)) (w1 := (hp u fL fD, c, z)) rfl rfl (Nat.le_of_ble_eq_true rfl) ((ev_T_has_22 hf2036).deep (by decide)) ?_
  refine mg_Ev.br (P := v190 = 0) (t := 14) (nx := 25) (st' := []) rfl rfl rfl rfl (fun hc2037 => ?_) (fun hc2037 => ?_)
  · rw [if_pos hc2037] at h
    cases h
    exact mg_Ev.fin rfl rfl rfl
  · rw [if_neg hc2037] at h
    cases h
    exact mg_Ev.fin rfl rfl rfl

def T_get_22 (a0 : Int32) (a1 : Int32) (u : mg_Rg) : Option (Int32) :=
  if a0 < 0 then
  some 0
  else
  if 6 ≤ a0 then
    some 0
    else
    if a1 < 0 then
      some 0
      else
      if a1 < 9 then
        if ((1 + (a0 * 9)) + a1) < 0 then
          some 0
          else
          if 55 ≤ ((1 + (a0 * 9)) + a1) then
            some 0
            else
            if ((1 + (a0 * 9)) + a1) < 0 ∨ 55 ≤ ((1 + (a0 * 9)) + a1).toNatClampNeg then none else
              some (u 23 (((1 + (a0 * 9)) + a1).toNatClampNeg))
        else
        some 0

set_option maxRecDepth 10000 in
set_option maxHeartbeats 4000000 in
theorem ev_T_get_22 {sc : mg_Sc} {c z : Nat} {fL : Nat → Int64} {fD : Nat → UInt64} {a0 : Int32} {a1 : Int32} {u : mg_Rg} {v : Int32} (h : T_get_22 a0 a1 u = some v) : mg_Ev sc 0 184 0 (mg_entry 184 [.ref 23, .int a0, .int a1]) [] (hp u fL fD, c, z) (.inl (some (.int v)), (hp u fL fD, c, z)) := by
  unfold T_get_22 at h
  show mg_Ev _ _ _ 0 [some (.ref 23), some (.int a0), some (.int a1), none] [] _ _
  refine mg_Ev.go 1 (pc' := 1) (loc' := [some (.ref 23), some (.int a0), some (.int a1), none]) (st' := [.int a0]) (w' := (hp u fL fD, c, z)) rfl ?_
  refine mg_Ev.br (P := a0 < 0) (t := 24) (nx := 4) (st' := []) rfl rfl rfl rfl (fun hc2038 => ?_) (fun hc2038 => ?_)
  · rw [if_pos hc2038] at h
    refine mg_Ev.go 1 (pc' := 25) (loc' := [some (.ref 23), some (.int a0), some (.int a1), none]) (st' := [.int 0]) (w' := (hp u fL fD, c, z)) rfl ?_
    cases h
    exact mg_Ev.fin rfl rfl rfl
  · rw [if_neg hc2038] at h
    refine mg_Ev.go 3 (pc' := 9) (loc' := [some (.ref 23), some (.int a0), some (.int a1), none]) (st' := [.int 6, .int a0]) (w' := (hp u fL fD, c, z)) rfl ?_
    refine mg_Ev.br (P := 6 ≤ a0) (t := 24) (nx := 12) (st' := []) rfl rfl rfl rfl (fun hc2039 => ?_) (fun hc2039 => ?_)
    · rw [if_pos hc2039] at h
      refine mg_Ev.go 1 (pc' := 25) (loc' := [some (.ref 23), some (.int a0), some (.int a1), none]) (st' := [.int 0]) (w' := (hp u fL fD, c, z)) rfl ?_
      cases h
      exact mg_Ev.fin rfl rfl rfl
    · rw [if_neg hc2039] at h
      refine mg_Ev.go 1 (pc' := 13) (loc' := [some (.ref 23), some (.int a0), some (.int a1), none]) (st' := [.int a1]) (w' := (hp u fL fD, c, z)) rfl ?_
      refine mg_Ev.br (P := a1 < 0) (t := 24) (nx := 16) (st' := []) rfl rfl rfl rfl (fun hc2040 => ?_) (fun hc2040 => ?_)
      · rw [if_pos hc2040] at h
        refine mg_Ev.go 1 (pc' := 25) (loc' := [some (.ref 23), some (.int a0), some (.int a1), none]) (st' := [.int 0]) (w' := (hp u fL fD, c, z)) rfl ?_
        cases h
        exact mg_Ev.fin rfl rfl rfl
      · rw [if_neg hc2040] at h
        refine mg_Ev.go 3 (pc' := 21) (loc' := [some (.ref 23), some (.int a0), some (.int a1), none]) (st' := [.int 9, .int a1]) (w' := (hp u fL fD, c, z)) rfl ?_
        refine mg_Ev.br (P := a1 < 9) (t := 26) (nx := 24) (st' := []) rfl rfl rfl rfl (fun hc2041 => ?_) (fun hc2041 => ?_)
        · rw [if_pos hc2041] at h
          refine mg_Ev.go 10 (pc' := 38) (loc' := [some (.ref 23), some (.int a0), some (.int a1), some (.int ((1 + (a0 * 9)) + a1))]) (st' := [.int ((1 + (a0 * 9)) + a1)]) (w' := (hp u fL fD, c, z)) rfl ?_
          refine mg_Ev.br (P := ((1 + (a0 * 9)) + a1) < 0) (t := 59) (nx := 41) (st' := []) rfl rfl rfl rfl (fun hc2042 => ?_) (fun hc2042 => ?_)
          · rw [if_pos hc2042] at h
            refine mg_Ev.go 1 (pc' := 60) (loc' := [some (.ref 23), some (.int a0), some (.int a1), some (.int ((1 + (a0 * 9)) + a1))]) (st' := [.int 0]) (w' := (hp u fL fD, c, z)) rfl ?_
            cases h
            exact mg_Ev.fin rfl rfl rfl
          · rw [if_neg hc2042] at h
            refine mg_Ev.go 4 (pc' := 47) (loc' := [some (.ref 23), some (.int a0), some (.int a1), some (.int ((1 + (a0 * 9)) + a1))]) (st' := [.int 55, .int ((1 + (a0 * 9)) + a1)]) (w' := (hp u fL fD, c, z)) rfl ?_
            refine mg_Ev.br (P := 55 ≤ ((1 + (a0 * 9)) + a1)) (t := 59) (nx := 50) (st' := []) rfl rfl rfl rfl (fun hc2043 => ?_) (fun hc2043 => ?_)
            · rw [if_pos hc2043] at h
              refine mg_Ev.go 1 (pc' := 60) (loc' := [some (.ref 23), some (.int a0), some (.int a1), some (.int ((1 + (a0 * 9)) + a1))]) (st' := [.int 0]) (w' := (hp u fL fD, c, z)) rfl ?_
              cases h
              exact mg_Ev.fin rfl rfl rfl
            · rw [if_neg hc2043] at h
              refine mg_Ev.go 3 (pc' := 55) (loc' := [some (.ref 23), some (.int a0), some (.int a1), some (.int ((1 + (a0 * 9)) + a1))]) (st' := [.int ((1 + (a0 * 9)) + a1), .ref 24]) (w' := (hp u fL fD, c, z)) rfl ?_
              by_cases hb2044 : ((1 + (a0 * 9)) + a1) < 0 ∨ 55 ≤ ((1 + (a0 * 9)) + a1).toNatClampNeg
              · rw [if_pos hb2044] at h
                cases h
              · rw [if_neg hb2044] at h
                refine mg_Ev.iald (a := 23) (n := 55) (f := u 23) rfl (hpg_23 _ _ _) rfl hb2044 ?_
                refine mg_Ev.go 1 (pc' := 60) (loc' := [some (.ref 23), some (.int a0), some (.int a1), some (.int ((1 + (a0 * 9)) + a1))]) (st' := [.int (u 23 (((1 + (a0 * 9)) + a1).toNatClampNeg))]) (w' := (hp u fL fD, c, z)) rfl ?_
                cases h
                exact mg_Ev.fin rfl rfl rfl
        · rw [if_neg hc2041] at h
          refine mg_Ev.go 1 (pc' := 25) (loc' := [some (.ref 23), some (.int a0), some (.int a1), none]) (st' := [.int 0]) (w' := (hp u fL fD, c, z)) rfl ?_
          cases h
          exact mg_Ev.fin rfl rfl rfl

def C_quotaTold (a0 : Int32) (a1 : Int32) (u : mg_Rg) : Option ((Int32 ⊕ Nat) × mg_Rg) :=
  (C_requireQuota a0 u).bind fun p191 => match p191 with
  | (.inr ee, u193) => some (.inr ee, u193)
  | (.inl _, u193) =>
    (C_isWithin a1 0 8 u193).bind fun v194 =>
    if v194 = 0 then
    some (.inr 1, u193)
    else
    (T_get_22 a0 a1 u193).bind fun v195 =>
      some (.inl v195, u193)

set_option maxRecDepth 10000 in
set_option maxHeartbeats 4000000 in
theorem ev_C_quotaTold {sc : mg_Sc} {c z : Nat} {fL : Nat → Int64} {fD : Nat → UInt64} {a0 : Int32} {a1 : Int32} {u : mg_Rg} {p : (Int32 ⊕ Nat) × mg_Rg} (h : C_quotaTold a0 a1 u = some p) : mg_Ev sc 3 9 0 (mg_entry 9 [.ref 1, .int a0, .int a1]) [] (hp u fL fD, c, z) (xri p.1, xw p.1 (hp p.2 fL fD) c z) := by
  unfold C_quotaTold at h
  show mg_Ev _ _ _ 0 [some (.ref 1), some (.int a0), some (.int a1)] [] _ _
  refine mg_Ev.go 2 (pc' := 2) (loc' := [some (.ref 1), some (.int a0), some (.int a1)]) (st' := [.int a0, .ref 1]) (w' := (hp u fL fD, c, z)) rfl ?_
  obtain ⟨⟨⟨⟩ | ee, u193⟩, hf2045, h⟩ := Option.bind_eq_some_iff.mp h
  · try dsimp only at h
    refine mg_Ev.call (y := 43) (as := [.ref 1, .int a0]) (rest := []) (v := none) (w1 := (hp u193 fL fD, c, z)) rfl rfl (Nat.le_of_ble_eq_true rfl) ((ev_C_requireQuota hf2045).deep (by decide)) ?_
    refine mg_Ev.go 3 (pc' := 9) (loc' := [some (.ref 1), some (.int a0), some (.int a1)]) (st' := [.int 8, .int 0, .int a1]) (w' := (hp u193 fL fD, c, z)) rfl ?_
    obtain ⟨v194, hf2046, h⟩ := Option.bind_eq_some_iff.mp h
    refine mg_Ev.call (y := 54) (as := [.int a1, .int 0, .int 8]) (rest := []) (v := some (.int v194)) (w1 := (hp u193 fL fD, c, z)) rfl rfl (Nat.le_of_ble_eq_true rfl) ((ev_C_isWithin hf2046).deep (by decide)) ?_
    refine mg_Ev.br (P := v194 = 0) (t := 15) (nx := 25) (st' := []) rfl rfl rfl rfl (fun hc2047 => ?_) (fun hc2047 => ?_)
    · rw [if_pos hc2047] at h
      cases h
      exact mg_Ev.fin rfl rfl rfl
    · rw [if_neg hc2047] at h
      refine mg_Ev.go 5 (pc' := 34) (loc' := [some (.ref 1), some (.int a0), some (.int a1)]) (st' := [.int a1, .int a0, .ref 23]) (w' := (hp u193 fL fD, c, z)) rfl ?_
      obtain ⟨v195, hf2048, h⟩ := Option.bind_eq_some_iff.mp h
      refine mg_Ev.call (y := 184) (as := [.ref 23, .int a0, .int a1]) (rest := []) (v := some (.int v195)) (w1 := (hp u193 fL fD, c, z)) rfl rfl (Nat.le_of_ble_eq_true rfl) ((ev_T_get_22 hf2048).deep (by decide)) ?_
      cases h
      exact mg_Ev.fin rfl rfl rfl
  · cases h
    exact mg_Ev.callX (y := 43) (as := [.ref 1, .int a0]) (rest := []) rfl rfl (Nat.le_of_ble_eq_true rfl) ((ev_C_requireQuota hf2045).deep (by decide)) rfl

def C_isSettingValue (a0 : Int32) (a1 : Int32) (u : mg_Rg) : Option (Int32) :=
  if (a0).toInt < 0 ∨ 2 < (a0).toInt then
  some 0
  else if a0 = 0 then
  (C_isWithin a1 30 100 u).bind fun v196 =>
    if v196 = 0 ∨ v196 = 1 then some v196 else none
  else if a0 = 1 then
  (C_isWithin a1 0 99 u).bind fun v197 =>
    if v197 = 0 ∨ v197 = 1 then some v197 else none
  else if a0 = 2 then
  (C_isWithin a1 0 99999 u).bind fun v198 =>
    if v198 = 0 ∨ v198 = 1 then some v198 else none
  else none

set_option maxRecDepth 10000 in
set_option maxHeartbeats 4000000 in
theorem ev_C_isSettingValue {sc : mg_Sc} {c z : Nat} {fL : Nat → Int64} {fD : Nat → UInt64} {a0 : Int32} {a1 : Int32} {u : mg_Rg} {v : Int32} (h : C_isSettingValue a0 a1 u = some v) : mg_Ev sc 1 52 0 (mg_entry 52 [.int a0, .int a1]) [] (hp u fL fD, c, z) (.inl (some (.int v)), (hp u fL fD, c, z)) := by
  unfold C_isSettingValue at h
  show mg_Ev _ _ _ 0 [some (.int a0), some (.int a1)] [] _ _
  refine mg_Ev.go 1 (pc' := 1) (loc' := [some (.int a0), some (.int a1)]) (st' := [.int a0]) (w' := (hp u fL fD, c, z)) rfl ?_
  by_cases hs2049 : (a0).toInt < 0 ∨ 2 < (a0).toInt
  · rw [if_pos hs2049] at h
    refine mg_Ev.swD rfl hs2049 ?_
    refine mg_Ev.go 1 (pc' := 55) (loc' := [some (.int a0), some (.int a1)]) (st' := [.int 0]) (w' := (hp u fL fD, c, z)) rfl ?_
    cases h
    exact mg_Ev.fin rfl rfl rfl
  · rw [if_neg hs2049] at h
    by_cases hk2050 : a0 = 0
    · rw [if_pos hk2050] at h
      refine mg_Ev.swK (k := 0) (t := 28) rfl hk2050 (by decide) (by decide) rfl ?_
      refine mg_Ev.go 3 (pc' := 33) (loc' := [some (.int a0), some (.int a1)]) (st' := [.int 100, .int 30, .int a1]) (w' := (hp u fL fD, c, z)) rfl ?_
      obtain ⟨v196, hf2051, h⟩ := Option.bind_eq_some_iff.mp h
      refine mg_Ev.call (y := 54) (as := [.int a1, .int 30, .int 100]) (rest := []) (v := some (.int v196)) (w1 := (hp u fL fD, c, z)) rfl rfl (Nat.le_of_ble_eq_true rfl) ((ev_C_isWithin hf2051).deep (by decide)) ?_
      by_cases hz2052 : v196 = 0 ∨ v196 = 1
      · rw [if_pos hz2052] at h
        cases h
        exact mg_Ev.zret rfl rfl rfl hz2052
      · rw [if_neg hz2052] at h
        cases h
    · rw [if_neg hk2050] at h
      by_cases hk2053 : a0 = 1
      · rw [if_pos hk2053] at h
        refine mg_Ev.swK (k := 1) (t := 37) rfl hk2053 (by decide) (by decide) rfl ?_
        refine mg_Ev.go 3 (pc' := 41) (loc' := [some (.int a0), some (.int a1)]) (st' := [.int 99, .int 0, .int a1]) (w' := (hp u fL fD, c, z)) rfl ?_
        obtain ⟨v197, hf2054, h⟩ := Option.bind_eq_some_iff.mp h
        refine mg_Ev.call (y := 54) (as := [.int a1, .int 0, .int 99]) (rest := []) (v := some (.int v197)) (w1 := (hp u fL fD, c, z)) rfl rfl (Nat.le_of_ble_eq_true rfl) ((ev_C_isWithin hf2054).deep (by decide)) ?_
        by_cases hz2055 : v197 = 0 ∨ v197 = 1
        · rw [if_pos hz2055] at h
          cases h
          exact mg_Ev.zret rfl rfl rfl hz2055
        · rw [if_neg hz2055] at h
          cases h
      · rw [if_neg hk2053] at h
        by_cases hk2056 : a0 = 2
        · rw [if_pos hk2056] at h
          refine mg_Ev.swK (k := 2) (t := 45) rfl hk2056 (by decide) (by decide) rfl ?_
          refine mg_Ev.go 3 (pc' := 50) (loc' := [some (.int a0), some (.int a1)]) (st' := [.int 99999, .int 0, .int a1]) (w' := (hp u fL fD, c, z)) rfl ?_
          obtain ⟨v198, hf2057, h⟩ := Option.bind_eq_some_iff.mp h
          refine mg_Ev.call (y := 54) (as := [.int a1, .int 0, .int 99999]) (rest := []) (v := some (.int v198)) (w1 := (hp u fL fD, c, z)) rfl rfl (Nat.le_of_ble_eq_true rfl) ((ev_C_isWithin hf2057).deep (by decide)) ?_
          by_cases hz2058 : v198 = 0 ∨ v198 = 1
          · rw [if_pos hz2058] at h
            cases h
            exact mg_Ev.zret rfl rfl rfl hz2058
          · rw [if_neg hz2058] at h
            cases h
        · rw [if_neg hk2056] at h
          cases h

def T_get_12 (a0 : Int32) (a1 : Int32) (u : mg_Rg) : Option (Int32) :=
  if a0 < 0 then
  some 0
  else
  if 3 ≤ a0 then
    some 0
    else
    if a1 < 0 then
      some 0
      else
      if a1 < 1 then
        if ((1 + (a0 * 1)) + a1) < 0 then
          some 0
          else
          if 4 ≤ ((1 + (a0 * 1)) + a1) then
            some 0
            else
            if ((1 + (a0 * 1)) + a1) < 0 ∨ 4 ≤ ((1 + (a0 * 1)) + a1).toNatClampNeg then none else
              some (u 13 (((1 + (a0 * 1)) + a1).toNatClampNeg))
        else
        some 0

set_option maxRecDepth 10000 in
set_option maxHeartbeats 4000000 in
theorem ev_T_get_12 {sc : mg_Sc} {c z : Nat} {fL : Nat → Int64} {fD : Nat → UInt64} {a0 : Int32} {a1 : Int32} {u : mg_Rg} {v : Int32} (h : T_get_12 a0 a1 u = some v) : mg_Ev sc 0 184 0 (mg_entry 184 [.ref 13, .int a0, .int a1]) [] (hp u fL fD, c, z) (.inl (some (.int v)), (hp u fL fD, c, z)) := by
  unfold T_get_12 at h
  show mg_Ev _ _ _ 0 [some (.ref 13), some (.int a0), some (.int a1), none] [] _ _
  refine mg_Ev.go 1 (pc' := 1) (loc' := [some (.ref 13), some (.int a0), some (.int a1), none]) (st' := [.int a0]) (w' := (hp u fL fD, c, z)) rfl ?_
  refine mg_Ev.br (P := a0 < 0) (t := 24) (nx := 4) (st' := []) rfl rfl rfl rfl (fun hc2059 => ?_) (fun hc2059 => ?_)
  · rw [if_pos hc2059] at h
    refine mg_Ev.go 1 (pc' := 25) (loc' := [some (.ref 13), some (.int a0), some (.int a1), none]) (st' := [.int 0]) (w' := (hp u fL fD, c, z)) rfl ?_
    cases h
    exact mg_Ev.fin rfl rfl rfl
  · rw [if_neg hc2059] at h
    refine mg_Ev.go 3 (pc' := 9) (loc' := [some (.ref 13), some (.int a0), some (.int a1), none]) (st' := [.int 3, .int a0]) (w' := (hp u fL fD, c, z)) rfl ?_
    refine mg_Ev.br (P := 3 ≤ a0) (t := 24) (nx := 12) (st' := []) rfl rfl rfl rfl (fun hc2060 => ?_) (fun hc2060 => ?_)
    · rw [if_pos hc2060] at h
      refine mg_Ev.go 1 (pc' := 25) (loc' := [some (.ref 13), some (.int a0), some (.int a1), none]) (st' := [.int 0]) (w' := (hp u fL fD, c, z)) rfl ?_
      cases h
      exact mg_Ev.fin rfl rfl rfl
    · rw [if_neg hc2060] at h
      refine mg_Ev.go 1 (pc' := 13) (loc' := [some (.ref 13), some (.int a0), some (.int a1), none]) (st' := [.int a1]) (w' := (hp u fL fD, c, z)) rfl ?_
      refine mg_Ev.br (P := a1 < 0) (t := 24) (nx := 16) (st' := []) rfl rfl rfl rfl (fun hc2061 => ?_) (fun hc2061 => ?_)
      · rw [if_pos hc2061] at h
        refine mg_Ev.go 1 (pc' := 25) (loc' := [some (.ref 13), some (.int a0), some (.int a1), none]) (st' := [.int 0]) (w' := (hp u fL fD, c, z)) rfl ?_
        cases h
        exact mg_Ev.fin rfl rfl rfl
      · rw [if_neg hc2061] at h
        refine mg_Ev.go 3 (pc' := 21) (loc' := [some (.ref 13), some (.int a0), some (.int a1), none]) (st' := [.int 1, .int a1]) (w' := (hp u fL fD, c, z)) rfl ?_
        refine mg_Ev.br (P := a1 < 1) (t := 26) (nx := 24) (st' := []) rfl rfl rfl rfl (fun hc2062 => ?_) (fun hc2062 => ?_)
        · rw [if_pos hc2062] at h
          refine mg_Ev.go 10 (pc' := 38) (loc' := [some (.ref 13), some (.int a0), some (.int a1), some (.int ((1 + (a0 * 1)) + a1))]) (st' := [.int ((1 + (a0 * 1)) + a1)]) (w' := (hp u fL fD, c, z)) rfl ?_
          refine mg_Ev.br (P := ((1 + (a0 * 1)) + a1) < 0) (t := 59) (nx := 41) (st' := []) rfl rfl rfl rfl (fun hc2063 => ?_) (fun hc2063 => ?_)
          · rw [if_pos hc2063] at h
            refine mg_Ev.go 1 (pc' := 60) (loc' := [some (.ref 13), some (.int a0), some (.int a1), some (.int ((1 + (a0 * 1)) + a1))]) (st' := [.int 0]) (w' := (hp u fL fD, c, z)) rfl ?_
            cases h
            exact mg_Ev.fin rfl rfl rfl
          · rw [if_neg hc2063] at h
            refine mg_Ev.go 4 (pc' := 47) (loc' := [some (.ref 13), some (.int a0), some (.int a1), some (.int ((1 + (a0 * 1)) + a1))]) (st' := [.int 4, .int ((1 + (a0 * 1)) + a1)]) (w' := (hp u fL fD, c, z)) rfl ?_
            refine mg_Ev.br (P := 4 ≤ ((1 + (a0 * 1)) + a1)) (t := 59) (nx := 50) (st' := []) rfl rfl rfl rfl (fun hc2064 => ?_) (fun hc2064 => ?_)
            · rw [if_pos hc2064] at h
              refine mg_Ev.go 1 (pc' := 60) (loc' := [some (.ref 13), some (.int a0), some (.int a1), some (.int ((1 + (a0 * 1)) + a1))]) (st' := [.int 0]) (w' := (hp u fL fD, c, z)) rfl ?_
              cases h
              exact mg_Ev.fin rfl rfl rfl
            · rw [if_neg hc2064] at h
              refine mg_Ev.go 3 (pc' := 55) (loc' := [some (.ref 13), some (.int a0), some (.int a1), some (.int ((1 + (a0 * 1)) + a1))]) (st' := [.int ((1 + (a0 * 1)) + a1), .ref 14]) (w' := (hp u fL fD, c, z)) rfl ?_
              by_cases hb2065 : ((1 + (a0 * 1)) + a1) < 0 ∨ 4 ≤ ((1 + (a0 * 1)) + a1).toNatClampNeg
              · rw [if_pos hb2065] at h
                cases h
              · rw [if_neg hb2065] at h
                refine mg_Ev.iald (a := 13) (n := 4) (f := u 13) rfl (hpg_13 _ _ _) rfl hb2065 ?_
                refine mg_Ev.go 1 (pc' := 60) (loc' := [some (.ref 13), some (.int a0), some (.int a1), some (.int ((1 + (a0 * 1)) + a1))]) (st' := [.int (u 13 (((1 + (a0 * 1)) + a1).toNatClampNeg))]) (w' := (hp u fL fD, c, z)) rfl ?_
                cases h
                exact mg_Ev.fin rfl rfl rfl
        · rw [if_neg hc2062] at h
          refine mg_Ev.go 1 (pc' := 25) (loc' := [some (.ref 13), some (.int a0), some (.int a1), none]) (st' := [.int 0]) (w' := (hp u fL fD, c, z)) rfl ?_
          cases h
          exact mg_Ev.fin rfl rfl rfl

def Tf_setting (a0 : Int32) (u : mg_Rg) : Option (Int32) :=
  (T_get_12 a0 0 u).bind fun v201 =>
  some v201

set_option maxRecDepth 10000 in
set_option maxHeartbeats 4000000 in
theorem ev_Tf_setting {sc : mg_Sc} {c z : Nat} {fL : Nat → Int64} {fD : Nat → UInt64} {a0 : Int32} {u : mg_Rg} {v : Int32} (h : Tf_setting a0 u = some v) : mg_Ev sc 1 195 0 (mg_entry 195 [.ref 3, .int a0]) [] (hp u fL fD, c, z) (.inl (some (.int v)), (hp u fL fD, c, z)) := by
  unfold Tf_setting at h
  show mg_Ev _ _ _ 0 [some (.ref 3), some (.int a0)] [] _ _
  refine mg_Ev.go 4 (pc' := 6) (loc' := [some (.ref 3), some (.int a0)]) (st' := [.int 0, .int a0, .ref 13]) (w' := (hp u fL fD, c, z)) rfl ?_
  obtain ⟨v201, hf2066, h⟩ := Option.bind_eq_some_iff.mp h
  refine mg_Ev.call (y := 184) (as := [.ref 13, .int a0, .int 0]) (rest := []) (v := some (.int v201)) (w1 := (hp u fL fD, c, z)) rfl rfl (Nat.le_of_ble_eq_true rfl) ((ev_T_get_12 hf2066).deep (by decide)) ?_
  cases h
  exact mg_Ev.fin rfl rfl rfl

def T_put_12 (a0 : Int32) (a1 : Int32) (a2 : Int32) (u : mg_Rg) : Option (mg_Rg) :=
  if a0 < 0 then
  some u
  else
  if 3 ≤ a0 then
    some u
    else
    if a1 < 0 then
      some u
      else
      if a1 < 1 then
        if ((1 + (a0 * 1)) + a1) < 0 then
          some u
          else
          if 4 ≤ ((1 + (a0 * 1)) + a1) then
            some u
            else
            if ((1 + (a0 * 1)) + a1) < 0 ∨ 4 ≤ ((1 + (a0 * 1)) + a1).toNatClampNeg then none else
              some (mg_up u 13 (((1 + (a0 * 1)) + a1).toNatClampNeg) a2)
        else
        some u

set_option maxRecDepth 10000 in
set_option maxHeartbeats 4000000 in
theorem ev_T_put_12 {sc : mg_Sc} {c z : Nat} {fL : Nat → Int64} {fD : Nat → UInt64} {a0 : Int32} {a1 : Int32} {a2 : Int32} {u : mg_Rg} {v : mg_Rg} (h : T_put_12 a0 a1 a2 u = some v) : mg_Ev sc 0 185 0 (mg_entry 185 [.ref 13, .int a0, .int a1, .int a2]) [] (hp u fL fD, c, z) (.inl none, (hp v fL fD, c, z)) := by
  unfold T_put_12 at h
  show mg_Ev _ _ _ 0 [some (.ref 13), some (.int a0), some (.int a1), some (.int a2), none] [] _ _
  refine mg_Ev.go 1 (pc' := 1) (loc' := [some (.ref 13), some (.int a0), some (.int a1), some (.int a2), none]) (st' := [.int a0]) (w' := (hp u fL fD, c, z)) rfl ?_
  refine mg_Ev.br (P := a0 < 0) (t := 24) (nx := 4) (st' := []) rfl rfl rfl rfl (fun hc2067 => ?_) (fun hc2067 => ?_)
  · rw [if_pos hc2067] at h
    cases h
    exact mg_Ev.fin rfl rfl rfl
  · rw [if_neg hc2067] at h
    refine mg_Ev.go 3 (pc' := 9) (loc' := [some (.ref 13), some (.int a0), some (.int a1), some (.int a2), none]) (st' := [.int 3, .int a0]) (w' := (hp u fL fD, c, z)) rfl ?_
    refine mg_Ev.br (P := 3 ≤ a0) (t := 24) (nx := 12) (st' := []) rfl rfl rfl rfl (fun hc2068 => ?_) (fun hc2068 => ?_)
    · rw [if_pos hc2068] at h
      cases h
      exact mg_Ev.fin rfl rfl rfl
    · rw [if_neg hc2068] at h
      refine mg_Ev.go 1 (pc' := 13) (loc' := [some (.ref 13), some (.int a0), some (.int a1), some (.int a2), none]) (st' := [.int a1]) (w' := (hp u fL fD, c, z)) rfl ?_
      refine mg_Ev.br (P := a1 < 0) (t := 24) (nx := 16) (st' := []) rfl rfl rfl rfl (fun hc2069 => ?_) (fun hc2069 => ?_)
      · rw [if_pos hc2069] at h
        cases h
        exact mg_Ev.fin rfl rfl rfl
      · rw [if_neg hc2069] at h
        refine mg_Ev.go 3 (pc' := 21) (loc' := [some (.ref 13), some (.int a0), some (.int a1), some (.int a2), none]) (st' := [.int 1, .int a1]) (w' := (hp u fL fD, c, z)) rfl ?_
        refine mg_Ev.br (P := a1 < 1) (t := 25) (nx := 24) (st' := []) rfl rfl rfl rfl (fun hc2070 => ?_) (fun hc2070 => ?_)
        · rw [if_pos hc2070] at h
          refine mg_Ev.go 10 (pc' := 39) (loc' := [some (.ref 13), some (.int a0), some (.int a1), some (.int a2), some (.int ((1 + (a0 * 1)) + a1))]) (st' := [.int ((1 + (a0 * 1)) + a1)]) (w' := (hp u fL fD, c, z)) rfl ?_
          refine mg_Ev.br (P := ((1 + (a0 * 1)) + a1) < 0) (t := 60) (nx := 42) (st' := []) rfl rfl rfl rfl (fun hc2071 => ?_) (fun hc2071 => ?_)
          · rw [if_pos hc2071] at h
            cases h
            exact mg_Ev.fin rfl rfl rfl
          · rw [if_neg hc2071] at h
            refine mg_Ev.go 4 (pc' := 49) (loc' := [some (.ref 13), some (.int a0), some (.int a1), some (.int a2), some (.int ((1 + (a0 * 1)) + a1))]) (st' := [.int 4, .int ((1 + (a0 * 1)) + a1)]) (w' := (hp u fL fD, c, z)) rfl ?_
            refine mg_Ev.br (P := 4 ≤ ((1 + (a0 * 1)) + a1)) (t := 60) (nx := 52) (st' := []) rfl rfl rfl rfl (fun hc2072 => ?_) (fun hc2072 => ?_)
            · rw [if_pos hc2072] at h
              cases h
              exact mg_Ev.fin rfl rfl rfl
            · rw [if_neg hc2072] at h
              refine mg_Ev.go 4 (pc' := 59) (loc' := [some (.ref 13), some (.int a0), some (.int a1), some (.int a2), some (.int ((1 + (a0 * 1)) + a1))]) (st' := [.int a2, .int ((1 + (a0 * 1)) + a1), .ref 14]) (w' := (hp u fL fD, c, z)) rfl ?_
              by_cases hb2073 : ((1 + (a0 * 1)) + a1) < 0 ∨ 4 ≤ ((1 + (a0 * 1)) + a1).toNatClampNeg
              · rw [if_pos hb2073] at h
                cases h
              · rw [if_neg hb2073] at h
                refine mg_Ev.iast (a := 13) (n := 4) rfl (hpg_13 _ _ _) rfl hb2073 (hpa_13 _ _ _ _ _ _ _) ?_
                cases h
                exact mg_Ev.fin rfl rfl rfl
        · rw [if_neg hc2070] at h
          cases h
          exact mg_Ev.fin rfl rfl rfl

def C_set (a0 : Int32) (a1 : Int32) (u : mg_Rg) : Option ((Int32 ⊕ Nat) × mg_Rg) :=
  (C_isSettingValue a0 a1 u).bind fun v199 =>
  if v199 = 0 then
  some (.inr 1, u)
  else
  (C_keepForUndo u).bind fun u200 =>
    (Tf_setting a0 u200).bind fun v202 =>
    (T_put_12 a0 0 a1 u200).bind fun u203 =>
    some (.inl v202, u203)

set_option maxRecDepth 10000 in
set_option maxHeartbeats 4000000 in
theorem ev_C_set {sc : mg_Sc} {c z : Nat} {fL : Nat → Int64} {fD : Nat → UInt64} {a0 : Int32} {a1 : Int32} {u : mg_Rg} {p : (Int32 ⊕ Nat) × mg_Rg} (h : C_set a0 a1 u = some p) : mg_Ev sc 6 10 0 (mg_entry 10 [.ref 1, .int a0, .int a1]) [] (hp u fL fD, c, z) (xri p.1, xw p.1 (hp p.2 fL fD) c z) := by
  unfold C_set at h
  show mg_Ev _ _ _ 0 [some (.ref 1), some (.int a0), some (.int a1), none] [] _ _
  refine mg_Ev.go 2 (pc' := 2) (loc' := [some (.ref 1), some (.int a0), some (.int a1), none]) (st' := [.int a1, .int a0]) (w' := (hp u fL fD, c, z)) rfl ?_
  obtain ⟨v199, hf2074, h⟩ := Option.bind_eq_some_iff.mp h
  refine mg_Ev.call (y := 52) (as := [.int a0, .int a1]) (rest := []) (v := some (.int v199)) (w1 := (hp u fL fD, c, z)) rfl rfl (Nat.le_of_ble_eq_true rfl) ((ev_C_isSettingValue hf2074).deep (by decide)) ?_
  refine mg_Ev.br (P := v199 = 0) (t := 8) (nx := 18) (st' := []) rfl rfl rfl rfl (fun hc2075 => ?_) (fun hc2075 => ?_)
  · rw [if_pos hc2075] at h
    cases h
    exact mg_Ev.fin rfl rfl rfl
  · rw [if_neg hc2075] at h
    refine mg_Ev.go 1 (pc' := 19) (loc' := [some (.ref 1), some (.int a0), some (.int a1), none]) (st' := [.ref 1]) (w' := (hp u fL fD, c, z)) rfl ?_
    obtain ⟨u200, hf2076, h⟩ := Option.bind_eq_some_iff.mp h
    refine mg_Ev.call (y := 38) (as := [.ref 1]) (rest := []) (v := none) (w1 := (hp u200 fL fD, c, z)) rfl rfl (Nat.le_of_ble_eq_true rfl) ((ev_C_keepForUndo hf2076).deep (by decide)) ?_
    refine mg_Ev.go 3 (pc' := 27) (loc' := [some (.ref 1), some (.int a0), some (.int a1), none]) (st' := [.int a0, .ref 3]) (w' := (hp u200 fL fD, c, z)) rfl ?_
    obtain ⟨v202, hf2077, h⟩ := Option.bind_eq_some_iff.mp h
    refine mg_Ev.call (y := 195) (as := [.ref 3, .int a0]) (rest := []) (v := some (.int v202)) (w1 := (hp u200 fL fD, c, z)) rfl rfl (Nat.le_of_ble_eq_true rfl) ((ev_Tf_setting hf2077).deep (by decide)) ?_
    refine mg_Ev.go 7 (pc' := 41) (loc' := [some (.ref 1), some (.int a0), some (.int a1), some (.int v202)]) (st' := [.int a1, .int 0, .int a0, .ref 13]) (w' := (hp u200 fL fD, c, z)) rfl ?_
    obtain ⟨u203, hf2078, h⟩ := Option.bind_eq_some_iff.mp h
    refine mg_Ev.call (y := 185) (as := [.ref 13, .int a0, .int 0, .int a1]) (rest := []) (v := none) (w1 := (hp u203 fL fD, c, z)) rfl rfl (Nat.le_of_ble_eq_true rfl) ((ev_T_put_12 hf2078).deep (by decide)) ?_
    refine mg_Ev.go 1 (pc' := 45) (loc' := [some (.ref 1), some (.int a0), some (.int a1), some (.int v202)]) (st' := [.int v202]) (w' := (hp u203 fL fD, c, z)) rfl ?_
    cases h
    exact mg_Ev.fin rfl rfl rfl

def G_fill (a0 : Int32) (a1 : Int32) (a2 : Int32) (a3 : Int32) (a4 : Int32) (u : mg_Rg) : Option (mg_Rg) :=
  some (mg_up (mg_up (mg_up (mg_up (mg_up u 28 0 a0) 28 1 a1) 28 2 a2) 28 3 a3) 28 4 a4)

set_option maxRecDepth 10000 in
set_option maxHeartbeats 4000000 in
theorem ev_G_fill {sc : mg_Sc} {c z : Nat} {fL : Nat → Int64} {fD : Nat → UInt64} {a0 : Int32} {a1 : Int32} {a2 : Int32} {a3 : Int32} {a4 : Int32} {u : mg_Rg} {v : mg_Rg} (h : G_fill a0 a1 a2 a3 a4 u = some v) : mg_Ev sc 0 142 0 (mg_entry 142 [.ref 29, .int a0, .int a1, .int a2, .int a3, .int a4]) [] (hp u fL fD, c, z) (.inl none, (hp v fL fD, c, z)) := by
  unfold G_fill at h
  show mg_Ev _ _ _ 0 [some (.ref 29), some (.int a0), some (.int a1), some (.int a2), some (.int a3), some (.int a4)] [] _ _
  refine mg_Ev.go 2 (pc' := 2) (loc' := [some (.ref 29), some (.int a0), some (.int a1), some (.int a2), some (.int a3), some (.int a4)]) (st' := [.int a0, .ref 29]) (w' := (hp u fL fD, c, z)) rfl ?_
  refine mg_Ev.put rfl (hpg_28 _ _ _) (Nat.le_of_ble_eq_true rfl) rfl (hpf_28_0 _ _ _ _ _ _) ?_
  refine mg_Ev.go 2 (pc' := 7) (loc' := [some (.ref 29), some (.int a0), some (.int a1), some (.int a2), some (.int a3), some (.int a4)]) (st' := [.int a1, .ref 29]) (w' := (hp (mg_up u 28 0 a0) fL fD, c, z)) rfl ?_
  refine mg_Ev.put rfl (hpg_28 _ _ _) (Nat.le_of_ble_eq_true rfl) rfl (hpf_28_1 _ _ _ _ _ _) ?_
  refine mg_Ev.go 2 (pc' := 12) (loc' := [some (.ref 29), some (.int a0), some (.int a1), some (.int a2), some (.int a3), some (.int a4)]) (st' := [.int a2, .ref 29]) (w' := (hp (mg_up (mg_up u 28 0 a0) 28 1 a1) fL fD, c, z)) rfl ?_
  refine mg_Ev.put rfl (hpg_28 _ _ _) (Nat.le_of_ble_eq_true rfl) rfl (hpf_28_2 _ _ _ _ _ _) ?_
  refine mg_Ev.go 2 (pc' := 18) (loc' := [some (.ref 29), some (.int a0), some (.int a1), some (.int a2), some (.int a3), some (.int a4)]) (st' := [.int a3, .ref 29]) (w' := (hp (mg_up (mg_up (mg_up u 28 0 a0) 28 1 a1) 28 2 a2) fL fD, c, z)) rfl ?_
  refine mg_Ev.put rfl (hpg_28 _ _ _) (Nat.le_of_ble_eq_true rfl) rfl (hpf_28_3 _ _ _ _ _ _) ?_
  refine mg_Ev.go 2 (pc' := 24) (loc' := [some (.ref 29), some (.int a0), some (.int a1), some (.int a2), some (.int a3), some (.int a4)]) (st' := [.int a4, .ref 29]) (w' := (hp (mg_up (mg_up (mg_up (mg_up u 28 0 a0) 28 1 a1) 28 2 a2) 28 3 a3) fL fD, c, z)) rfl ?_
  refine mg_Ev.put rfl (hpg_28 _ _ _) (Nat.le_of_ble_eq_true rfl) rfl (hpf_28_4 _ _ _ _ _ _) ?_
  cases h
  exact mg_Ev.fin rfl rfl rfl

def C_goodsNow (a0 : Int32) (a1 : Int32) (a2 : Int32) (a3 : Int32) (u : mg_Rg) : Option ((Unit ⊕ Nat) × mg_Rg) :=
  (C_requireHeading a0 u).bind fun p204 => match p204 with
  | (.inr ee, u206) => some (.inr ee, u206)
  | (.inl _, u206) =>
    (C_requireCountry a1 u206).bind fun p207 => match p207 with
    | (.inr ee, u209) => some (.inr ee, u209)
    | (.inl _, u209) =>
      (C_isWithin a2 1 99999 u209).bind fun v210 =>
      if v210 = 0 then
      some (.inr 1, u209)
      else
      (C_isWithin a3 0 2 u209).bind fun v211 =>
        if v211 = 0 then
        some (.inr 1, u209)
        else
        (Lg_day u209).bind fun v212 =>
          (G_fill a0 a1 a2 a3 v212 u209).bind fun u213 =>
          some (.inl (), u213)

set_option maxRecDepth 10000 in
set_option maxHeartbeats 4000000 in
theorem ev_C_goodsNow {sc : mg_Sc} {c z : Nat} {fL : Nat → Int64} {fD : Nat → UInt64} {a0 : Int32} {a1 : Int32} {a2 : Int32} {a3 : Int32} {u : mg_Rg} {p : (Unit ⊕ Nat) × mg_Rg} (h : C_goodsNow a0 a1 a2 a3 u = some p) : mg_Ev sc 3 46 0 (mg_entry 46 [.ref 1, .int a0, .int a1, .int a2, .int a3]) [] (hp u fL fD, c, z) (xrr 29 p.1, xw p.1 (hp p.2 fL fD) c z) := by
  unfold C_goodsNow at h
  show mg_Ev _ _ _ 0 [some (.ref 1), some (.int a0), some (.int a1), some (.int a2), some (.int a3)] [] _ _
  refine mg_Ev.go 2 (pc' := 2) (loc' := [some (.ref 1), some (.int a0), some (.int a1), some (.int a2), some (.int a3)]) (st' := [.int a0, .ref 1]) (w' := (hp u fL fD, c, z)) rfl ?_
  obtain ⟨⟨⟨⟩ | ee, u206⟩, hf2079, h⟩ := Option.bind_eq_some_iff.mp h
  · try dsimp only at h
    refine mg_Ev.call (y := 41) (as := [.ref 1, .int a0]) (rest := []) (v := none) (w1 := (hp u206 fL fD, c, z)) rfl rfl (Nat.le_of_ble_eq_true rfl) ((ev_C_requireHeading hf2079).deep (by decide)) ?_
    refine mg_Ev.go 2 (pc' := 7) (loc' := [some (.ref 1), some (.int a0), some (.int a1), some (.int a2), some (.int a3)]) (st' := [.int a1, .ref 1]) (w' := (hp u206 fL fD, c, z)) rfl ?_
    obtain ⟨⟨⟨⟩ | ee, u209⟩, hf2080, h⟩ := Option.bind_eq_some_iff.mp h
    · try dsimp only at h
      refine mg_Ev.call (y := 42) (as := [.ref 1, .int a1]) (rest := []) (v := none) (w1 := (hp u209 fL fD, c, z)) rfl rfl (Nat.le_of_ble_eq_true rfl) ((ev_C_requireCountry hf2080).deep (by decide)) ?_
      refine mg_Ev.go 3 (pc' := 15) (loc' := [some (.ref 1), some (.int a0), some (.int a1), some (.int a2), some (.int a3)]) (st' := [.int 99999, .int 1, .int a2]) (w' := (hp u209 fL fD, c, z)) rfl ?_
      obtain ⟨v210, hf2081, h⟩ := Option.bind_eq_some_iff.mp h
      refine mg_Ev.call (y := 54) (as := [.int a2, .int 1, .int 99999]) (rest := []) (v := some (.int v210)) (w1 := (hp u209 fL fD, c, z)) rfl rfl (Nat.le_of_ble_eq_true rfl) ((ev_C_isWithin hf2081).deep (by decide)) ?_
      refine mg_Ev.br (P := v210 = 0) (t := 31) (nx := 21) (st' := []) rfl rfl rfl rfl (fun hc2082 => ?_) (fun hc2082 => ?_)
      · rw [if_pos hc2082] at h
        cases h
        exact mg_Ev.fin rfl rfl rfl
      · rw [if_neg hc2082] at h
        refine mg_Ev.go 3 (pc' := 25) (loc' := [some (.ref 1), some (.int a0), some (.int a1), some (.int a2), some (.int a3)]) (st' := [.int 2, .int 0, .int a3]) (w' := (hp u209 fL fD, c, z)) rfl ?_
        obtain ⟨v211, hf2083, h⟩ := Option.bind_eq_some_iff.mp h
        refine mg_Ev.call (y := 54) (as := [.int a3, .int 0, .int 2]) (rest := []) (v := some (.int v211)) (w1 := (hp u209 fL fD, c, z)) rfl rfl (Nat.le_of_ble_eq_true rfl) ((ev_C_isWithin hf2083).deep (by decide)) ?_
        refine mg_Ev.br (P := v211 = 0) (t := 31) (nx := 42) (st' := []) rfl rfl rfl rfl (fun hc2084 => ?_) (fun hc2084 => ?_)
        · rw [if_pos hc2084] at h
          cases h
          exact mg_Ev.fin rfl rfl rfl
        · rw [if_neg hc2084] at h
          refine mg_Ev.go 9 (pc' := 58) (loc' := [some (.ref 1), some (.int a0), some (.int a1), some (.int a2), some (.int a3)]) (st' := [.ref 16, .int a3, .int a2, .int a1, .int a0, .ref 29]) (w' := (hp u209 fL fD, c, z)) rfl ?_
          obtain ⟨v212, hf2085, h⟩ := Option.bind_eq_some_iff.mp h
          refine mg_Ev.call (y := 144) (as := [.ref 16]) (rest := [.int a3, .int a2, .int a1, .int a0, .ref 29]) (v := some (.int v212)) (w1 := (hp u209 fL fD, c, z)) rfl rfl (Nat.le_of_ble_eq_true rfl) ((ev_Lg_day hf2085).deep (by decide)) ?_
          obtain ⟨u213, hf2086, h⟩ := Option.bind_eq_some_iff.mp h
          refine mg_Ev.call (y := 142) (as := [.ref 29, .int a0, .int a1, .int a2, .int a3, .int v212]) (rest := []) (v := none) (w1 := (hp u213 fL fD, c, z)) rfl rfl (Nat.le_of_ble_eq_true rfl) ((ev_G_fill hf2086).deep (by decide)) ?_
          refine mg_Ev.go 3 (pc' := 71) (loc' := [some (.ref 1), some (.int a0), some (.int a1), some (.int a2), some (.int a3)]) (st' := [.ref 29]) (w' := (hp u213 fL fD, c, z)) rfl ?_
          cases h
          exact mg_Ev.fin rfl rfl rfl
    · cases h
      exact mg_Ev.callX (y := 42) (as := [.ref 1, .int a1]) (rest := []) rfl rfl (Nat.le_of_ble_eq_true rfl) ((ev_C_requireCountry hf2080).deep (by decide)) rfl
  · cases h
    exact mg_Ev.callX (y := 41) (as := [.ref 1, .int a0]) (rest := []) rfl rfl (Nat.le_of_ble_eq_true rfl) ((ev_C_requireHeading hf2079).deep (by decide)) rfl

def T_get_9 (a0 : Int32) (a1 : Int32) (u : mg_Rg) : Option (Int32) :=
  if a0 < 0 then
  some 0
  else
  if 6 ≤ a0 then
    some 0
    else
    if a1 < 0 then
      some 0
      else
      if a1 < 3 then
        if ((1 + (a0 * 3)) + a1) < 0 then
          some 0
          else
          if 19 ≤ ((1 + (a0 * 3)) + a1) then
            some 0
            else
            if ((1 + (a0 * 3)) + a1) < 0 ∨ 19 ≤ ((1 + (a0 * 3)) + a1).toNatClampNeg then none else
              some (u 10 (((1 + (a0 * 3)) + a1).toNatClampNeg))
        else
        some 0

set_option maxRecDepth 10000 in
set_option maxHeartbeats 4000000 in
theorem ev_T_get_9 {sc : mg_Sc} {c z : Nat} {fL : Nat → Int64} {fD : Nat → UInt64} {a0 : Int32} {a1 : Int32} {u : mg_Rg} {v : Int32} (h : T_get_9 a0 a1 u = some v) : mg_Ev sc 0 184 0 (mg_entry 184 [.ref 10, .int a0, .int a1]) [] (hp u fL fD, c, z) (.inl (some (.int v)), (hp u fL fD, c, z)) := by
  unfold T_get_9 at h
  show mg_Ev _ _ _ 0 [some (.ref 10), some (.int a0), some (.int a1), none] [] _ _
  refine mg_Ev.go 1 (pc' := 1) (loc' := [some (.ref 10), some (.int a0), some (.int a1), none]) (st' := [.int a0]) (w' := (hp u fL fD, c, z)) rfl ?_
  refine mg_Ev.br (P := a0 < 0) (t := 24) (nx := 4) (st' := []) rfl rfl rfl rfl (fun hc2087 => ?_) (fun hc2087 => ?_)
  · rw [if_pos hc2087] at h
    refine mg_Ev.go 1 (pc' := 25) (loc' := [some (.ref 10), some (.int a0), some (.int a1), none]) (st' := [.int 0]) (w' := (hp u fL fD, c, z)) rfl ?_
    cases h
    exact mg_Ev.fin rfl rfl rfl
  · rw [if_neg hc2087] at h
    refine mg_Ev.go 3 (pc' := 9) (loc' := [some (.ref 10), some (.int a0), some (.int a1), none]) (st' := [.int 6, .int a0]) (w' := (hp u fL fD, c, z)) rfl ?_
    refine mg_Ev.br (P := 6 ≤ a0) (t := 24) (nx := 12) (st' := []) rfl rfl rfl rfl (fun hc2088 => ?_) (fun hc2088 => ?_)
    · rw [if_pos hc2088] at h
      refine mg_Ev.go 1 (pc' := 25) (loc' := [some (.ref 10), some (.int a0), some (.int a1), none]) (st' := [.int 0]) (w' := (hp u fL fD, c, z)) rfl ?_
      cases h
      exact mg_Ev.fin rfl rfl rfl
    · rw [if_neg hc2088] at h
      refine mg_Ev.go 1 (pc' := 13) (loc' := [some (.ref 10), some (.int a0), some (.int a1), none]) (st' := [.int a1]) (w' := (hp u fL fD, c, z)) rfl ?_
      refine mg_Ev.br (P := a1 < 0) (t := 24) (nx := 16) (st' := []) rfl rfl rfl rfl (fun hc2089 => ?_) (fun hc2089 => ?_)
      · rw [if_pos hc2089] at h
        refine mg_Ev.go 1 (pc' := 25) (loc' := [some (.ref 10), some (.int a0), some (.int a1), none]) (st' := [.int 0]) (w' := (hp u fL fD, c, z)) rfl ?_
        cases h
        exact mg_Ev.fin rfl rfl rfl
      · rw [if_neg hc2089] at h
        refine mg_Ev.go 3 (pc' := 21) (loc' := [some (.ref 10), some (.int a0), some (.int a1), none]) (st' := [.int 3, .int a1]) (w' := (hp u fL fD, c, z)) rfl ?_
        refine mg_Ev.br (P := a1 < 3) (t := 26) (nx := 24) (st' := []) rfl rfl rfl rfl (fun hc2090 => ?_) (fun hc2090 => ?_)
        · rw [if_pos hc2090] at h
          refine mg_Ev.go 10 (pc' := 38) (loc' := [some (.ref 10), some (.int a0), some (.int a1), some (.int ((1 + (a0 * 3)) + a1))]) (st' := [.int ((1 + (a0 * 3)) + a1)]) (w' := (hp u fL fD, c, z)) rfl ?_
          refine mg_Ev.br (P := ((1 + (a0 * 3)) + a1) < 0) (t := 59) (nx := 41) (st' := []) rfl rfl rfl rfl (fun hc2091 => ?_) (fun hc2091 => ?_)
          · rw [if_pos hc2091] at h
            refine mg_Ev.go 1 (pc' := 60) (loc' := [some (.ref 10), some (.int a0), some (.int a1), some (.int ((1 + (a0 * 3)) + a1))]) (st' := [.int 0]) (w' := (hp u fL fD, c, z)) rfl ?_
            cases h
            exact mg_Ev.fin rfl rfl rfl
          · rw [if_neg hc2091] at h
            refine mg_Ev.go 4 (pc' := 47) (loc' := [some (.ref 10), some (.int a0), some (.int a1), some (.int ((1 + (a0 * 3)) + a1))]) (st' := [.int 19, .int ((1 + (a0 * 3)) + a1)]) (w' := (hp u fL fD, c, z)) rfl ?_
            refine mg_Ev.br (P := 19 ≤ ((1 + (a0 * 3)) + a1)) (t := 59) (nx := 50) (st' := []) rfl rfl rfl rfl (fun hc2092 => ?_) (fun hc2092 => ?_)
            · rw [if_pos hc2092] at h
              refine mg_Ev.go 1 (pc' := 60) (loc' := [some (.ref 10), some (.int a0), some (.int a1), some (.int ((1 + (a0 * 3)) + a1))]) (st' := [.int 0]) (w' := (hp u fL fD, c, z)) rfl ?_
              cases h
              exact mg_Ev.fin rfl rfl rfl
            · rw [if_neg hc2092] at h
              refine mg_Ev.go 3 (pc' := 55) (loc' := [some (.ref 10), some (.int a0), some (.int a1), some (.int ((1 + (a0 * 3)) + a1))]) (st' := [.int ((1 + (a0 * 3)) + a1), .ref 11]) (w' := (hp u fL fD, c, z)) rfl ?_
              by_cases hb2093 : ((1 + (a0 * 3)) + a1) < 0 ∨ 19 ≤ ((1 + (a0 * 3)) + a1).toNatClampNeg
              · rw [if_pos hb2093] at h
                cases h
              · rw [if_neg hb2093] at h
                refine mg_Ev.iald (a := 10) (n := 19) (f := u 10) rfl (hpg_10 _ _ _) rfl hb2093 ?_
                refine mg_Ev.go 1 (pc' := 60) (loc' := [some (.ref 10), some (.int a0), some (.int a1), some (.int ((1 + (a0 * 3)) + a1))]) (st' := [.int (u 10 (((1 + (a0 * 3)) + a1).toNatClampNeg))]) (w' := (hp u fL fD, c, z)) rfl ?_
                cases h
                exact mg_Ev.fin rfl rfl rfl
        · rw [if_neg hc2090] at h
          refine mg_Ev.go 1 (pc' := 25) (loc' := [some (.ref 10), some (.int a0), some (.int a1), none]) (st' := [.int 0]) (w' := (hp u fL fD, c, z)) rfl ?_
          cases h
          exact mg_Ev.fin rfl rfl rfl

def Tf_isUnder_L5 : Nat → Int32 → Int32 → Int32 → mg_Rg → Option ((Unit) ⊕ (Int32))
  | 0, _, _, _, _ => none
  | n + 1, x2, x3, x4, u =>
    if x3 = (-1) then
    some (.inl ())
    else
    if 4 ≤ x4 then
      some (.inl ())
      else
      if x3 = x2 then
        some (.inr 1)
        else
        (T_get_3 x3 0 u).bind fun v222 =>
          Tf_isUnder_L5 n x2 v222 (x4 + 1) u
set_option maxRecDepth 10000 in
set_option maxHeartbeats 4000000 in
theorem ev_Tf_isUnder_L5 {sc : mg_Sc} {c z : Nat} {fL : Nat → Int64} {fD : Nat → UInt64} : ∀ (n : Nat) (x2 : Int32) (x3 : Int32) (x4 : Int32) (u : mg_Rg) (res : (Unit) ⊕ (Int32)), Tf_isUnder_L5 n x2 x3 x4 u = some res → ∀ r, (match res with | .inl _ => mg_Ev sc 1 201 39 [none, none, none, none, none] [] (hp u fL fD, c, z) r | .inr rv => r = (.inl (some (.int rv)), (hp u fL fD, c, z))) → mg_Ev sc 1 201 5 [some (.ref 3), none, some (.int x2), some (.int x3), some (.int x4)] [] (hp u fL fD, c, z) r := by
  intro n
  induction n with
  | zero => intro x2 x3 x4 u res h; cases h
  | succ n ih =>
    intro x2 x3 x4 u res h r K
    unfold Tf_isUnder_L5 at h
    refine mg_Ev.go 2 (pc' := 7) (loc' := [some (.ref 3), none, some (.int x2), some (.int x3), some (.int x4)]) (st' := [.int (-1), .int x3]) (w' := (hp u fL fD, c, z)) rfl ?_
    refine mg_Ev.br (P := x3 = (-1)) (t := 39) (nx := 10) (st' := []) rfl rfl rfl rfl (fun hc2094 => ?_) (fun hc2094 => ?_)
    · rw [if_pos hc2094] at h
      cases h
      exact mg_Ev.more (loc := [none, none, none, none, none]) K trivial
    · rw [if_neg hc2094] at h
      refine mg_Ev.go 2 (pc' := 13) (loc' := [some (.ref 3), none, some (.int x2), some (.int x3), some (.int x4)]) (st' := [.int 4, .int x4]) (w' := (hp u fL fD, c, z)) rfl ?_
      refine mg_Ev.br (P := 4 ≤ x4) (t := 39) (nx := 16) (st' := []) rfl rfl rfl rfl (fun hc2095 => ?_) (fun hc2095 => ?_)
      · rw [if_pos hc2095] at h
        cases h
        exact mg_Ev.more (loc := [none, none, none, none, none]) K trivial
      · rw [if_neg hc2095] at h
        refine mg_Ev.go 2 (pc' := 18) (loc' := [some (.ref 3), none, some (.int x2), some (.int x3), some (.int x4)]) (st' := [.int x2, .int x3]) (w' := (hp u fL fD, c, z)) rfl ?_
        refine mg_Ev.br (P := x3 = x2) (t := 21) (nx := 23) (st' := []) rfl rfl rfl rfl (fun hc2096 => ?_) (fun hc2096 => ?_)
        · rw [if_pos hc2096] at h
          refine mg_Ev.go 1 (pc' := 22) (loc' := [some (.ref 3), none, some (.int x2), some (.int x3), some (.int x4)]) (st' := [.int 1]) (w' := (hp u fL fD, c, z)) rfl ?_
          cases h
          cases K
          exact mg_Ev.fin rfl rfl rfl
        · rw [if_neg hc2096] at h
          refine mg_Ev.go 4 (pc' := 29) (loc' := [some (.ref 3), none, some (.int x2), some (.int x3), some (.int x4)]) (st' := [.int 0, .int x3, .ref 4]) (w' := (hp u fL fD, c, z)) rfl ?_
          obtain ⟨v222, hf2097, h⟩ := Option.bind_eq_some_iff.mp h
          refine mg_Ev.call (y := 184) (as := [.ref 4, .int x3, .int 0]) (rest := []) (v := some (.int v222)) (w1 := (hp u fL fD, c, z)) rfl rfl (Nat.le_of_ble_eq_true rfl) ((ev_T_get_3 hf2097).deep (by decide)) ?_
          refine mg_Ev.go 3 (pc' := 5) (loc' := [some (.ref 3), none, some (.int x2), some (.int v222), some (.int (x4 + 1))]) (st' := []) (w' := (hp u fL fD, c, z)) rfl ?_
          exact mg_Ev.more (loc := [some (.ref 3), none, some (.int x2), some (.int v222), some (.int (x4 + 1))]) (ih _ _ _ _ _ h _ K) ⟨rfl, ⟨rfl, ⟨rfl, ⟨rfl, trivial⟩⟩⟩⟩

def Tf_isUnder (a0 : Int32) (a1 : Int32) (u : mg_Rg) : Option (Int32) :=
  (Tf_isUnder_L5 mg_F a1 a0 0 u).bind fun q2098 => match q2098 with
  | .inl _ =>
    some 0
  | .inr v223 =>
    some v223

set_option maxRecDepth 10000 in
set_option maxHeartbeats 4000000 in
theorem ev_Tf_isUnder {sc : mg_Sc} {c z : Nat} {fL : Nat → Int64} {fD : Nat → UInt64} {a0 : Int32} {a1 : Int32} {u : mg_Rg} {v : Int32} (h : Tf_isUnder a0 a1 u = some v) : mg_Ev sc 1 201 0 (mg_entry 201 [.ref 3, .int a0, .int a1]) [] (hp u fL fD, c, z) (.inl (some (.int v)), (hp u fL fD, c, z)) := by
  unfold Tf_isUnder at h
  show mg_Ev _ _ _ 0 [some (.ref 3), some (.int a0), some (.int a1), none, none] [] _ _
  refine mg_Ev.go 4 (pc' := 5) (loc' := [some (.ref 3), some (.int a0), some (.int a1), some (.int a0), some (.int 0)]) (st' := []) (w' := (hp u fL fD, c, z)) rfl ?_
  obtain ⟨(⟨⟩ | v223), hl2099, h⟩ := Option.bind_eq_some_iff.mp h
  · try dsimp only at h
    refine mg_Ev.more (loc := [some (.ref 3), none, some (.int a1), some (.int a0), some (.int 0)]) (ev_Tf_isUnder_L5 _ _ _ _ _ _ hl2099 _ ?_) ⟨rfl, ⟨rfl, ⟨rfl, ⟨rfl, trivial⟩⟩⟩⟩
    show mg_Ev _ _ _ 39 [none, none, none, none, none] [] (hp u fL fD, c, z) _
    refine mg_Ev.go 1 (pc' := 40) (loc' := [none, none, none, none, none]) (st' := [.int 0]) (w' := (hp u fL fD, c, z)) rfl ?_
    cases h
    exact mg_Ev.fin rfl rfl rfl
  · try dsimp only at h
    cases h
    refine mg_Ev.more (loc := [some (.ref 3), none, some (.int a1), some (.int a0), some (.int 0)]) (ev_Tf_isUnder_L5 _ _ _ _ _ _ hl2099 _ ?_) ⟨rfl, ⟨rfl, ⟨rfl, ⟨rfl, trivial⟩⟩⟩⟩
    rfl

def Tf_isSuspended_28_L2 : Nat → Int32 → mg_Rg → Option ((Unit) ⊕ (Int32))
  | 0, _, _ => none
  | n + 1, x2, u =>
    (T_count_9 u).bind fun v217 =>
    if v217 ≤ x2 then
    some (.inl ())
    else
    (T_get_9 x2 1 u).bind fun v218 =>
      (T_get_9 x2 2 u).bind fun v219 =>
      (C_isWithin (u 28 4) v218 v219 u).bind fun v220 =>
      if v220 = 0 then
      Tf_isSuspended_28_L2 n (x2 + 1) u
      else
      (T_get_9 x2 0 u).bind fun v221 =>
        (Tf_isUnder (u 28 0) v221 u).bind fun v225 =>
        if v225 = 0 then
        Tf_isSuspended_28_L2 n (x2 + 1) u
        else
        some (.inr 1)
set_option maxRecDepth 10000 in
set_option maxHeartbeats 4000000 in
theorem ev_Tf_isSuspended_28_L2 {sc : mg_Sc} {c z : Nat} {fL : Nat → Int64} {fD : Nat → UInt64} : ∀ (n : Nat) (x2 : Int32) (u : mg_Rg) (res : (Unit) ⊕ (Int32)), Tf_isSuspended_28_L2 n x2 u = some res → ∀ r, (match res with | .inl _ => mg_Ev sc 2 208 69 [none, none, none] [] (hp u fL fD, c, z) r | .inr rv => r = (.inl (some (.int rv)), (hp u fL fD, c, z))) → mg_Ev sc 2 208 2 [some (.ref 3), some (.ref 29), some (.int x2)] [] (hp u fL fD, c, z) r := by
  intro n
  induction n with
  | zero => intro x2 u res h; cases h
  | succ n ih =>
    intro x2 u res h r K
    unfold Tf_isSuspended_28_L2 at h
    refine mg_Ev.go 3 (pc' := 7) (loc' := [some (.ref 3), some (.ref 29), some (.int x2)]) (st' := [.ref 10, .int x2]) (w' := (hp u fL fD, c, z)) rfl ?_
    obtain ⟨v217, hf2100, h⟩ := Option.bind_eq_some_iff.mp h
    refine mg_Ev.call (y := 181) (as := [.ref 10]) (rest := [.int x2]) (v := some (.int v217)) (w1 := (hp u fL fD, c, z)) rfl rfl (Nat.le_of_ble_eq_true rfl) ((ev_T_count_9 hf2100).deep (by decide)) ?_
    refine mg_Ev.br (P := v217 ≤ x2) (t := 69) (nx := 13) (st' := []) rfl rfl rfl rfl (fun hc2101 => ?_) (fun hc2101 => ?_)
    · rw [if_pos hc2101] at h
      cases h
      exact mg_Ev.more (loc := [none, none, none]) K trivial
    · rw [if_neg hc2101] at h
      refine mg_Ev.go 6 (pc' := 23) (loc' := [some (.ref 3), some (.ref 29), some (.int x2)]) (st' := [.int 1, .int x2, .ref 10, .int (u 28 4)]) (w' := (hp u fL fD, c, z)) rfl ?_
      obtain ⟨v218, hf2102, h⟩ := Option.bind_eq_some_iff.mp h
      refine mg_Ev.call (y := 184) (as := [.ref 10, .int x2, .int 1]) (rest := [.int (u 28 4)]) (v := some (.int v218)) (w1 := (hp u fL fD, c, z)) rfl rfl (Nat.le_of_ble_eq_true rfl) ((ev_T_get_9 hf2102).deep (by decide)) ?_
      refine mg_Ev.go 4 (pc' := 32) (loc' := [some (.ref 3), some (.ref 29), some (.int x2)]) (st' := [.int 2, .int x2, .ref 10, .int v218, .int (u 28 4)]) (w' := (hp u fL fD, c, z)) rfl ?_
      obtain ⟨v219, hf2103, h⟩ := Option.bind_eq_some_iff.mp h
      refine mg_Ev.call (y := 184) (as := [.ref 10, .int x2, .int 2]) (rest := [.int v218, .int (u 28 4)]) (v := some (.int v219)) (w1 := (hp u fL fD, c, z)) rfl rfl (Nat.le_of_ble_eq_true rfl) ((ev_T_get_9 hf2103).deep (by decide)) ?_
      obtain ⟨v220, hf2104, h⟩ := Option.bind_eq_some_iff.mp h
      refine mg_Ev.call (y := 54) (as := [.int (u 28 4), .int v218, .int v219]) (rest := []) (v := some (.int v220)) (w1 := (hp u fL fD, c, z)) rfl rfl (Nat.le_of_ble_eq_true rfl) ((ev_C_isWithin hf2104).deep (by decide)) ?_
      refine mg_Ev.br (P := v220 = 0) (t := 63) (nx := 41) (st' := []) rfl rfl rfl rfl (fun hc2105 => ?_) (fun hc2105 => ?_)
      · rw [if_pos hc2105] at h
        refine mg_Ev.go 2 (pc' := 2) (loc' := [some (.ref 3), some (.ref 29), some (.int (x2 + 1))]) (st' := []) (w' := (hp u fL fD, c, z)) rfl ?_
        exact mg_Ev.more (loc := [some (.ref 3), some (.ref 29), some (.int (x2 + 1))]) (ih _ _ _ h _ K) ⟨rfl, ⟨rfl, ⟨rfl, trivial⟩⟩⟩
      · rw [if_neg hc2105] at h
        refine mg_Ev.go 7 (pc' := 52) (loc' := [some (.ref 3), some (.ref 29), some (.int x2)]) (st' := [.int 0, .int x2, .ref 10, .int (u 28 0), .ref 3]) (w' := (hp u fL fD, c, z)) rfl ?_
        obtain ⟨v221, hf2106, h⟩ := Option.bind_eq_some_iff.mp h
        refine mg_Ev.call (y := 184) (as := [.ref 10, .int x2, .int 0]) (rest := [.int (u 28 0), .ref 3]) (v := some (.int v221)) (w1 := (hp u fL fD, c, z)) rfl rfl (Nat.le_of_ble_eq_true rfl) ((ev_T_get_9 hf2106).deep (by decide)) ?_
        obtain ⟨v225, hf2107, h⟩ := Option.bind_eq_some_iff.mp h
        refine mg_Ev.call (y := 201) (as := [.ref 3, .int (u 28 0), .int v221]) (rest := []) (v := some (.int v225)) (w1 := (hp u fL fD, c, z)) rfl rfl (Nat.le_of_ble_eq_true rfl) ((ev_Tf_isUnder hf2107).deep (by decide)) ?_
        refine mg_Ev.br (P := v225 = 0) (t := 63) (nx := 61) (st' := []) rfl rfl rfl rfl (fun hc2108 => ?_) (fun hc2108 => ?_)
        · rw [if_pos hc2108] at h
          refine mg_Ev.go 2 (pc' := 2) (loc' := [some (.ref 3), some (.ref 29), some (.int (x2 + 1))]) (st' := []) (w' := (hp u fL fD, c, z)) rfl ?_
          exact mg_Ev.more (loc := [some (.ref 3), some (.ref 29), some (.int (x2 + 1))]) (ih _ _ _ h _ K) ⟨rfl, ⟨rfl, ⟨rfl, trivial⟩⟩⟩
        · rw [if_neg hc2108] at h
          refine mg_Ev.go 1 (pc' := 62) (loc' := [some (.ref 3), some (.ref 29), some (.int x2)]) (st' := [.int 1]) (w' := (hp u fL fD, c, z)) rfl ?_
          cases h
          cases K
          exact mg_Ev.fin rfl rfl rfl

def Tf_isSuspended_28 (u : mg_Rg) : Option (Int32) :=
  (Tf_isSuspended_28_L2 mg_F 0 u).bind fun q2109 => match q2109 with
  | .inl _ =>
    some 0
  | .inr v226 =>
    some v226

set_option maxRecDepth 10000 in
set_option maxHeartbeats 4000000 in
theorem ev_Tf_isSuspended_28 {sc : mg_Sc} {c z : Nat} {fL : Nat → Int64} {fD : Nat → UInt64} {u : mg_Rg} {v : Int32} (h : Tf_isSuspended_28 u = some v) : mg_Ev sc 2 208 0 (mg_entry 208 [.ref 3, .ref 29]) [] (hp u fL fD, c, z) (.inl (some (.int v)), (hp u fL fD, c, z)) := by
  unfold Tf_isSuspended_28 at h
  show mg_Ev _ _ _ 0 [some (.ref 3), some (.ref 29), none] [] _ _
  refine mg_Ev.go 2 (pc' := 2) (loc' := [some (.ref 3), some (.ref 29), some (.int 0)]) (st' := []) (w' := (hp u fL fD, c, z)) rfl ?_
  obtain ⟨(⟨⟩ | v226), hl2110, h⟩ := Option.bind_eq_some_iff.mp h
  · try dsimp only at h
    refine mg_Ev.more (loc := [some (.ref 3), some (.ref 29), some (.int 0)]) (ev_Tf_isSuspended_28_L2 _ _ _ _ hl2110 _ ?_) ⟨rfl, ⟨rfl, ⟨rfl, trivial⟩⟩⟩
    show mg_Ev _ _ _ 69 [none, none, none] [] (hp u fL fD, c, z) _
    refine mg_Ev.go 1 (pc' := 70) (loc' := [none, none, none]) (st' := [.int 0]) (w' := (hp u fL fD, c, z)) rfl ?_
    cases h
    exact mg_Ev.fin rfl rfl rfl
  · try dsimp only at h
    cases h
    refine mg_Ev.more (loc := [some (.ref 3), some (.ref 29), some (.int 0)]) (ev_Tf_isSuspended_28_L2 _ _ _ _ hl2110 _ ?_) ⟨rfl, ⟨rfl, ⟨rfl, trivial⟩⟩⟩
    rfl

def Tf_meetsNeed_28 (a0 : Int32) (u : mg_Rg) : Option (Int32) :=
  (T_get_6 a0 3 u).bind fun v234 =>
  if v234 = 0 then
  some 1
  else
  if (u 28 3) = 1 then
    some 1
    else
    if v234 = 2 then
      if (u 28 3) = 2 then
        (T_get_12 2 0 u).bind fun v235 =>
          if v235 < (u 28 2) then
          some 0
          else
          some 1
        else
        some 0
      else
      some 0

set_option maxRecDepth 10000 in
set_option maxHeartbeats 4000000 in
theorem ev_Tf_meetsNeed_28 {sc : mg_Sc} {c z : Nat} {fL : Nat → Int64} {fD : Nat → UInt64} {a0 : Int32} {u : mg_Rg} {v : Int32} (h : Tf_meetsNeed_28 a0 u = some v) : mg_Ev sc 1 210 0 (mg_entry 210 [.ref 3, .int a0, .ref 29]) [] (hp u fL fD, c, z) (.inl (some (.int v)), (hp u fL fD, c, z)) := by
  unfold Tf_meetsNeed_28 at h
  show mg_Ev _ _ _ 0 [some (.ref 3), some (.int a0), some (.ref 29), none] [] _ _
  refine mg_Ev.go 4 (pc' := 6) (loc' := [some (.ref 3), some (.int a0), some (.ref 29), none]) (st' := [.int 3, .int a0, .ref 7]) (w' := (hp u fL fD, c, z)) rfl ?_
  obtain ⟨v234, hf2111, h⟩ := Option.bind_eq_some_iff.mp h
  refine mg_Ev.call (y := 184) (as := [.ref 7, .int a0, .int 3]) (rest := []) (v := some (.int v234)) (w1 := (hp u fL fD, c, z)) rfl rfl (Nat.le_of_ble_eq_true rfl) ((ev_T_get_6 hf2111).deep (by decide)) ?_
  refine mg_Ev.go 2 (pc' := 11) (loc' := [some (.ref 3), some (.int a0), some (.ref 29), some (.int v234)]) (st' := [.int v234]) (w' := (hp u fL fD, c, z)) rfl ?_
  refine mg_Ev.br (P := v234 = 0) (t := 22) (nx := 14) (st' := []) rfl rfl rfl rfl (fun hc2112 => ?_) (fun hc2112 => ?_)
  · rw [if_pos hc2112] at h
    refine mg_Ev.go 1 (pc' := 23) (loc' := [some (.ref 3), some (.int a0), some (.ref 29), some (.int v234)]) (st' := [.int 1]) (w' := (hp u fL fD, c, z)) rfl ?_
    cases h
    exact mg_Ev.fin rfl rfl rfl
  · rw [if_neg hc2112] at h
    refine mg_Ev.go 3 (pc' := 19) (loc' := [some (.ref 3), some (.int a0), some (.ref 29), some (.int v234)]) (st' := [.int 1, .int (u 28 3)]) (w' := (hp u fL fD, c, z)) rfl ?_
    refine mg_Ev.br (P := (u 28 3) = 1) (t := 22) (nx := 24) (st' := []) rfl rfl rfl rfl (fun hc2113 => ?_) (fun hc2113 => ?_)
    · rw [if_pos hc2113] at h
      refine mg_Ev.go 1 (pc' := 23) (loc' := [some (.ref 3), some (.int a0), some (.ref 29), some (.int v234)]) (st' := [.int 1]) (w' := (hp u fL fD, c, z)) rfl ?_
      cases h
      exact mg_Ev.fin rfl rfl rfl
    · rw [if_neg hc2113] at h
      refine mg_Ev.go 2 (pc' := 26) (loc' := [some (.ref 3), some (.int a0), some (.ref 29), some (.int v234)]) (st' := [.int 2, .int v234]) (w' := (hp u fL fD, c, z)) rfl ?_
      refine mg_Ev.br (P := v234 = 2) (t := 29) (nx := 57) (st' := []) rfl rfl rfl rfl (fun hc2114 => ?_) (fun hc2114 => ?_)
      · rw [if_pos hc2114] at h
        refine mg_Ev.go 3 (pc' := 34) (loc' := [some (.ref 3), some (.int a0), some (.ref 29), some (.int v234)]) (st' := [.int 2, .int (u 28 3)]) (w' := (hp u fL fD, c, z)) rfl ?_
        refine mg_Ev.br (P := (u 28 3) = 2) (t := 37) (nx := 57) (st' := []) rfl rfl rfl rfl (fun hc2115 => ?_) (fun hc2115 => ?_)
        · rw [if_pos hc2115] at h
          refine mg_Ev.go 6 (pc' := 47) (loc' := [some (.ref 3), some (.int a0), some (.ref 29), some (.int v234)]) (st' := [.int 0, .int 2, .ref 13, .int (u 28 2)]) (w' := (hp u fL fD, c, z)) rfl ?_
          obtain ⟨v235, hf2116, h⟩ := Option.bind_eq_some_iff.mp h
          refine mg_Ev.call (y := 184) (as := [.ref 13, .int 2, .int 0]) (rest := [.int (u 28 2)]) (v := some (.int v235)) (w1 := (hp u fL fD, c, z)) rfl rfl (Nat.le_of_ble_eq_true rfl) ((ev_T_get_12 hf2116).deep (by decide)) ?_
          refine mg_Ev.br (P := v235 < (u 28 2)) (t := 57) (nx := 53) (st' := []) rfl rfl rfl rfl (fun hc2117 => ?_) (fun hc2117 => ?_)
          · rw [if_pos hc2117] at h
            refine mg_Ev.go 1 (pc' := 58) (loc' := [some (.ref 3), some (.int a0), some (.ref 29), some (.int v234)]) (st' := [.int 0]) (w' := (hp u fL fD, c, z)) rfl ?_
            cases h
            exact mg_Ev.fin rfl rfl rfl
          · rw [if_neg hc2117] at h
            refine mg_Ev.go 2 (pc' := 58) (loc' := [some (.ref 3), some (.int a0), some (.ref 29), some (.int v234)]) (st' := [.int 1]) (w' := (hp u fL fD, c, z)) rfl ?_
            cases h
            exact mg_Ev.fin rfl rfl rfl
        · rw [if_neg hc2115] at h
          refine mg_Ev.go 1 (pc' := 58) (loc' := [some (.ref 3), some (.int a0), some (.ref 29), some (.int v234)]) (st' := [.int 0]) (w' := (hp u fL fD, c, z)) rfl ?_
          cases h
          exact mg_Ev.fin rfl rfl rfl
      · rw [if_neg hc2114] at h
        refine mg_Ev.go 1 (pc' := 58) (loc' := [some (.ref 3), some (.int a0), some (.ref 29), some (.int v234)]) (st' := [.int 0]) (w' := (hp u fL fD, c, z)) rfl ?_
        cases h
        exact mg_Ev.fin rfl rfl rfl

