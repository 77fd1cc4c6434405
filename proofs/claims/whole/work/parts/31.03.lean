def Tf_preferredRate_28_L6 : Nat → Int32 → Int32 → mg_Rg → Option (Int32)
  | 0, _, _, _ => none
  | n + 1, x2, x3, u =>
    (T_count_6 u).bind fun v230 =>
    if v230 ≤ x3 then
    some (x2)
    else
    (T_get_6 x3 1 u).bind fun v231 =>
      if v231 = (u 28 1) then
      (T_get_6 x3 0 u).bind fun v232 =>
        (Tf_isUnder (u 28 0) v232 u).bind fun v233 =>
        if v233 = 0 then
        Tf_preferredRate_28_L6 n x2 (x3 + 1) u
        else
        (Tf_meetsNeed_28 x3 u).bind fun v236 =>
          if v236 = 0 then
          Tf_preferredRate_28_L6 n x2 (x3 + 1) u
          else
          (T_get_6 x3 2 u).bind fun v237 =>
            Tf_preferredRate_28_L6 n (if v237 < x2 then v237 else x2) (x3 + 1) u
      else
      Tf_preferredRate_28_L6 n x2 (x3 + 1) u
set_option maxRecDepth 10000 in
set_option maxHeartbeats 4000000 in
theorem ev_Tf_preferredRate_28_L6 {sc : mg_Sc} {c z : Nat} {fL : Nat → Int64} {fD : Nat → UInt64} : ∀ (n : Nat) (x2 : Int32) (x3 : Int32) (u : mg_Rg) (res : Int32), Tf_preferredRate_28_L6 n x2 x3 u = some res → ∀ r, (match res with | y2 => mg_Ev sc 2 209 82 [none, none, some (.int y2), none] [] (hp u fL fD, c, z) r) → mg_Ev sc 2 209 6 [some (.ref 3), some (.ref 29), some (.int x2), some (.int x3)] [] (hp u fL fD, c, z) r := by
  intro n
  induction n with
  | zero => intro x2 x3 u res h; cases h
  | succ n ih =>
    intro x2 x3 u res h r K
    unfold Tf_preferredRate_28_L6 at h
    refine mg_Ev.go 3 (pc' := 11) (loc' := [some (.ref 3), some (.ref 29), some (.int x2), some (.int x3)]) (st' := [.ref 7, .int x3]) (w' := (hp u fL fD, c, z)) rfl ?_
    obtain ⟨v230, hf2118, h⟩ := Option.bind_eq_some_iff.mp h
    refine mg_Ev.call (y := 181) (as := [.ref 7]) (rest := [.int x3]) (v := some (.int v230)) (w1 := (hp u fL fD, c, z)) rfl rfl (Nat.le_of_ble_eq_true rfl) ((ev_T_count_6 hf2118).deep (by decide)) ?_
    refine mg_Ev.br (P := v230 ≤ x3) (t := 82) (nx := 17) (st' := []) rfl rfl rfl rfl (fun hc2119 => ?_) (fun hc2119 => ?_)
    · rw [if_pos hc2119] at h
      cases h
      exact mg_Ev.more (loc := [none, none, some (.int x2), none]) K ⟨rfl, trivial⟩
    · rw [if_neg hc2119] at h
      refine mg_Ev.go 4 (pc' := 23) (loc' := [some (.ref 3), some (.ref 29), some (.int x2), some (.int x3)]) (st' := [.int 1, .int x3, .ref 7]) (w' := (hp u fL fD, c, z)) rfl ?_
      obtain ⟨v231, hf2120, h⟩ := Option.bind_eq_some_iff.mp h
      refine mg_Ev.call (y := 184) (as := [.ref 7, .int x3, .int 1]) (rest := []) (v := some (.int v231)) (w1 := (hp u fL fD, c, z)) rfl rfl (Nat.le_of_ble_eq_true rfl) ((ev_T_get_6 hf2120).deep (by decide)) ?_
      refine mg_Ev.go 2 (pc' := 30) (loc' := [some (.ref 3), some (.ref 29), some (.int x2), some (.int x3)]) (st' := [.int (u 28 1), .int v231]) (w' := (hp u fL fD, c, z)) rfl ?_
      refine mg_Ev.br (P := v231 = (u 28 1)) (t := 33) (nx := 76) (st' := []) rfl rfl rfl rfl (fun hc2121 => ?_) (fun hc2121 => ?_)
      · rw [if_pos hc2121] at h
        refine mg_Ev.go 7 (pc' := 44) (loc' := [some (.ref 3), some (.ref 29), some (.int x2), some (.int x3)]) (st' := [.int 0, .int x3, .ref 7, .int (u 28 0), .ref 3]) (w' := (hp u fL fD, c, z)) rfl ?_
        obtain ⟨v232, hf2122, h⟩ := Option.bind_eq_some_iff.mp h
        refine mg_Ev.call (y := 184) (as := [.ref 7, .int x3, .int 0]) (rest := [.int (u 28 0), .ref 3]) (v := some (.int v232)) (w1 := (hp u fL fD, c, z)) rfl rfl (Nat.le_of_ble_eq_true rfl) ((ev_T_get_6 hf2122).deep (by decide)) ?_
        obtain ⟨v233, hf2123, h⟩ := Option.bind_eq_some_iff.mp h
        refine mg_Ev.call (y := 201) (as := [.ref 3, .int (u 28 0), .int v232]) (rest := []) (v := some (.int v233)) (w1 := (hp u fL fD, c, z)) rfl rfl (Nat.le_of_ble_eq_true rfl) ((ev_Tf_isUnder hf2123).deep (by decide)) ?_
        refine mg_Ev.br (P := v233 = 0) (t := 76) (nx := 53) (st' := []) rfl rfl rfl rfl (fun hc2124 => ?_) (fun hc2124 => ?_)
        · rw [if_pos hc2124] at h
          refine mg_Ev.go 2 (pc' := 6) (loc' := [some (.ref 3), some (.ref 29), some (.int x2), some (.int (x3 + 1))]) (st' := []) (w' := (hp u fL fD, c, z)) rfl ?_
          exact mg_Ev.more (loc := [some (.ref 3), some (.ref 29), some (.int x2), some (.int (x3 + 1))]) (ih _ _ _ _ h _ K) ⟨rfl, ⟨rfl, ⟨rfl, ⟨rfl, trivial⟩⟩⟩⟩
        · rw [if_neg hc2124] at h
          refine mg_Ev.go 3 (pc' := 56) (loc' := [some (.ref 3), some (.ref 29), some (.int x2), some (.int x3)]) (st' := [.ref 29, .int x3, .ref 3]) (w' := (hp u fL fD, c, z)) rfl ?_
          obtain ⟨v236, hf2125, h⟩ := Option.bind_eq_some_iff.mp h
          refine mg_Ev.call (y := 210) (as := [.ref 3, .int x3, .ref 29]) (rest := []) (v := some (.int v236)) (w1 := (hp u fL fD, c, z)) rfl rfl (Nat.le_of_ble_eq_true rfl) ((ev_Tf_meetsNeed_28 hf2125).deep (by decide)) ?_
          refine mg_Ev.br (P := v236 = 0) (t := 76) (nx := 62) (st' := []) rfl rfl rfl rfl (fun hc2126 => ?_) (fun hc2126 => ?_)
          · rw [if_pos hc2126] at h
            refine mg_Ev.go 2 (pc' := 6) (loc' := [some (.ref 3), some (.ref 29), some (.int x2), some (.int (x3 + 1))]) (st' := []) (w' := (hp u fL fD, c, z)) rfl ?_
            exact mg_Ev.more (loc := [some (.ref 3), some (.ref 29), some (.int x2), some (.int (x3 + 1))]) (ih _ _ _ _ h _ K) ⟨rfl, ⟨rfl, ⟨rfl, ⟨rfl, trivial⟩⟩⟩⟩
          · rw [if_neg hc2126] at h
            refine mg_Ev.go 5 (pc' := 69) (loc' := [some (.ref 3), some (.ref 29), some (.int x2), some (.int x3)]) (st' := [.int 2, .int x3, .ref 7, .int x2]) (w' := (hp u fL fD, c, z)) rfl ?_
            obtain ⟨v237, hf2127, h⟩ := Option.bind_eq_some_iff.mp h
            refine mg_Ev.call (y := 184) (as := [.ref 7, .int x3, .int 2]) (rest := [.int x2]) (v := some (.int v237)) (w1 := (hp u fL fD, c, z)) rfl rfl (Nat.le_of_ble_eq_true rfl) ((ev_T_get_6 hf2127).deep (by decide)) ?_
            refine mg_Ev.go 4 (pc' := 6) (loc' := [some (.ref 3), some (.ref 29), some (.int (if v237 < x2 then v237 else x2)), some (.int (x3 + 1))]) (st' := []) (w' := (hp u fL fD, c, z)) rfl ?_
            exact mg_Ev.more (loc := [some (.ref 3), some (.ref 29), some (.int (if v237 < x2 then v237 else x2)), some (.int (x3 + 1))]) (ih _ _ _ _ h _ K) ⟨rfl, ⟨rfl, ⟨rfl, ⟨rfl, trivial⟩⟩⟩⟩
      · rw [if_neg hc2121] at h
        refine mg_Ev.go 2 (pc' := 6) (loc' := [some (.ref 3), some (.ref 29), some (.int x2), some (.int (x3 + 1))]) (st' := []) (w' := (hp u fL fD, c, z)) rfl ?_
        exact mg_Ev.more (loc := [some (.ref 3), some (.ref 29), some (.int x2), some (.int (x3 + 1))]) (ih _ _ _ _ h _ K) ⟨rfl, ⟨rfl, ⟨rfl, ⟨rfl, trivial⟩⟩⟩⟩

def Tf_preferredRate_28 (u : mg_Rg) : Option (Int32) :=
  (Tf_preferredRate_28_L6 mg_F 1001 0 u).bind fun q2128 => match q2128 with
  | x238 =>
    some x238

set_option maxRecDepth 10000 in
set_option maxHeartbeats 4000000 in
theorem ev_Tf_preferredRate_28 {sc : mg_Sc} {c z : Nat} {fL : Nat → Int64} {fD : Nat → UInt64} {u : mg_Rg} {v : Int32} (h : Tf_preferredRate_28 u = some v) : mg_Ev sc 2 209 0 (mg_entry 209 [.ref 3, .ref 29]) [] (hp u fL fD, c, z) (.inl (some (.int v)), (hp u fL fD, c, z)) := by
  unfold Tf_preferredRate_28 at h
  show mg_Ev _ _ _ 0 [some (.ref 3), some (.ref 29), none, none] [] _ _
  refine mg_Ev.go 4 (pc' := 6) (loc' := [some (.ref 3), some (.ref 29), some (.int 1001), some (.int 0)]) (st' := []) (w' := (hp u fL fD, c, z)) rfl ?_
  obtain ⟨x238, hl2129, h⟩ := Option.bind_eq_some_iff.mp h
  try dsimp only at h
  refine mg_Ev.more (loc := [some (.ref 3), some (.ref 29), some (.int 1001), some (.int 0)]) (ev_Tf_preferredRate_28_L6 _ _ _ _ _ hl2129 _ ?_) ⟨rfl, ⟨rfl, ⟨rfl, ⟨rfl, trivial⟩⟩⟩⟩
  show mg_Ev _ _ _ 82 [none, none, some (.int x238), none] [] (hp u fL fD, c, z) _
  refine mg_Ev.go 1 (pc' := 83) (loc' := [none, none, some (.int x238), none]) (st' := [.int x238]) (w' := (hp u fL fD, c, z)) rfl ?_
  cases h
  exact mg_Ev.fin rfl rfl rfl

def Tf_leastRate_28 (u : mg_Rg) : Option (Int32) :=
  (Tf_isSuspended_28 u).bind fun v228 =>
  if v228 = 0 then
  (Tf_rateOfHeading (u 28 0) u).bind fun v229 =>
    (Tf_preferredRate_28 u).bind fun v239 =>
    some (if v239 < v229 then v239 else v229)
  else
  some 0

set_option maxRecDepth 10000 in
set_option maxHeartbeats 4000000 in
theorem ev_Tf_leastRate_28 {sc : mg_Sc} {c z : Nat} {fL : Nat → Int64} {fD : Nat → UInt64} {u : mg_Rg} {v : Int32} (h : Tf_leastRate_28 u = some v) : mg_Ev sc 3 203 0 (mg_entry 203 [.ref 3, .ref 29]) [] (hp u fL fD, c, z) (.inl (some (.int v)), (hp u fL fD, c, z)) := by
  unfold Tf_leastRate_28 at h
  show mg_Ev _ _ _ 0 [some (.ref 3), some (.ref 29)] [] _ _
  refine mg_Ev.go 2 (pc' := 2) (loc' := [some (.ref 3), some (.ref 29)]) (st' := [.ref 29, .ref 3]) (w' := (hp u fL fD, c, z)) rfl ?_
  obtain ⟨v228, hf2130, h⟩ := Option.bind_eq_some_iff.mp h
  refine mg_Ev.call (y := 208) (as := [.ref 3, .ref 29]) (rest := []) (v := some (.int v228)) (w1 := (hp u fL fD, c, z)) rfl rfl (Nat.le_of_ble_eq_true rfl) ((ev_Tf_isSuspended_28 hf2130).deep (by decide)) ?_
  refine mg_Ev.br (P := v228 = 0) (t := 10) (nx := 8) (st' := []) rfl rfl rfl rfl (fun hc2131 => ?_) (fun hc2131 => ?_)
  · rw [if_pos hc2131] at h
    refine mg_Ev.go 3 (pc' := 15) (loc' := [some (.ref 3), some (.ref 29)]) (st' := [.int (u 28 0), .ref 3]) (w' := (hp u fL fD, c, z)) rfl ?_
    obtain ⟨v229, hf2132, h⟩ := Option.bind_eq_some_iff.mp h
    refine mg_Ev.call (y := 202) (as := [.ref 3, .int (u 28 0)]) (rest := []) (v := some (.int v229)) (w1 := (hp u fL fD, c, z)) rfl rfl (Nat.le_of_ble_eq_true rfl) ((ev_Tf_rateOfHeading hf2132).deep (by decide)) ?_
    refine mg_Ev.go 2 (pc' := 20) (loc' := [some (.ref 3), some (.ref 29)]) (st' := [.ref 29, .ref 3, .int v229]) (w' := (hp u fL fD, c, z)) rfl ?_
    obtain ⟨v239, hf2133, h⟩ := Option.bind_eq_some_iff.mp h
    refine mg_Ev.call (y := 209) (as := [.ref 3, .ref 29]) (rest := [.int v229]) (v := some (.int v239)) (w1 := (hp u fL fD, c, z)) rfl rfl (Nat.le_of_ble_eq_true rfl) ((ev_Tf_preferredRate_28 hf2133).deep (by decide)) ?_
    refine mg_Ev.go 1 (pc' := 26) (loc' := [some (.ref 3), some (.ref 29)]) (st' := [.int (if v239 < v229 then v239 else v229)]) (w' := (hp u fL fD, c, z)) rfl ?_
    cases h
    exact mg_Ev.fin rfl rfl rfl
  · rw [if_neg hc2131] at h
    refine mg_Ev.go 1 (pc' := 9) (loc' := [some (.ref 3), some (.ref 29)]) (st' := [.int 0]) (w' := (hp u fL fD, c, z)) rfl ?_
    cases h
    exact mg_Ev.fin rfl rfl rfl

def C_rateOf (a0 : Int32) (a1 : Int32) (a2 : Int32) (a3 : Int32) (u : mg_Rg) : Option ((Int32 ⊕ Nat) × mg_Rg) :=
  (C_goodsNow a0 a1 a2 a3 u).bind fun p214 => match p214 with
  | (.inr ee, u216) => some (.inr ee, u216)
  | (.inl _, u216) =>
    (Tf_leastRate_28 u216).bind fun v240 =>
    some (.inl v240, u216)

set_option maxRecDepth 10000 in
set_option maxHeartbeats 4000000 in
theorem ev_C_rateOf {sc : mg_Sc} {c z : Nat} {fL : Nat → Int64} {fD : Nat → UInt64} {a0 : Int32} {a1 : Int32} {a2 : Int32} {a3 : Int32} {u : mg_Rg} {p : (Int32 ⊕ Nat) × mg_Rg} (h : C_rateOf a0 a1 a2 a3 u = some p) : mg_Ev sc 4 11 0 (mg_entry 11 [.ref 1, .int a0, .int a1, .int a2, .int a3]) [] (hp u fL fD, c, z) (xri p.1, xw p.1 (hp p.2 fL fD) c z) := by
  unfold C_rateOf at h
  show mg_Ev _ _ _ 0 [some (.ref 1), some (.int a0), some (.int a1), some (.int a2), some (.int a3)] [] _ _
  refine mg_Ev.go 7 (pc' := 10) (loc' := [some (.ref 1), some (.int a0), some (.int a1), some (.int a2), some (.int a3)]) (st' := [.int a3, .int a2, .int a1, .int a0, .ref 1, .ref 3]) (w' := (hp u fL fD, c, z)) rfl ?_
  obtain ⟨⟨⟨⟩ | ee, u216⟩, hf2134, h⟩ := Option.bind_eq_some_iff.mp h
  · try dsimp only at h
    refine mg_Ev.call (y := 46) (as := [.ref 1, .int a0, .int a1, .int a2, .int a3]) (rest := [.ref 3]) (v := some (.ref 29)) (w1 := (hp u216 fL fD, c, z)) rfl rfl (Nat.le_of_ble_eq_true rfl) ((ev_C_goodsNow hf2134).deep (by decide)) ?_
    obtain ⟨v240, hf2135, h⟩ := Option.bind_eq_some_iff.mp h
    refine mg_Ev.call (y := 203) (as := [.ref 3, .ref 29]) (rest := []) (v := some (.int v240)) (w1 := (hp u216 fL fD, c, z)) rfl rfl (Nat.le_of_ble_eq_true rfl) ((ev_Tf_leastRate_28 hf2135).deep (by decide)) ?_
    cases h
    exact mg_Ev.fin rfl rfl rfl
  · cases h
    exact mg_Ev.callX (y := 46) (as := [.ref 1, .int a0, .int a1, .int a2, .int a3]) (rest := [.ref 3]) rfl rfl (Nat.le_of_ble_eq_true rfl) ((ev_C_goodsNow hf2134).deep (by decide)) rfl

def Tf_sourceOf_28 (a0 : Int32) (u : mg_Rg) : Option (Int32) :=
  (Tf_rateOfHeading (u 28 0) u).bind fun v245 =>
  if v245 = a0 then
  some 0
  else
  (Tf_preferredRate_28 u).bind fun v246 =>
    if v246 = a0 then
    some 1
    else
    some 2

set_option maxRecDepth 10000 in
set_option maxHeartbeats 4000000 in
theorem ev_Tf_sourceOf_28 {sc : mg_Sc} {c z : Nat} {fL : Nat → Int64} {fD : Nat → UInt64} {a0 : Int32} {u : mg_Rg} {v : Int32} (h : Tf_sourceOf_28 a0 u = some v) : mg_Ev sc 3 204 0 (mg_entry 204 [.ref 3, .int a0, .ref 29]) [] (hp u fL fD, c, z) (.inl (some (.int v)), (hp u fL fD, c, z)) := by
  unfold Tf_sourceOf_28 at h
  show mg_Ev _ _ _ 0 [some (.ref 3), some (.int a0), some (.ref 29)] [] _ _
  refine mg_Ev.go 3 (pc' := 5) (loc' := [some (.ref 3), some (.int a0), some (.ref 29)]) (st' := [.int (u 28 0), .ref 3]) (w' := (hp u fL fD, c, z)) rfl ?_
  obtain ⟨v245, hf2136, h⟩ := Option.bind_eq_some_iff.mp h
  refine mg_Ev.call (y := 202) (as := [.ref 3, .int (u 28 0)]) (rest := []) (v := some (.int v245)) (w1 := (hp u fL fD, c, z)) rfl rfl (Nat.le_of_ble_eq_true rfl) ((ev_Tf_rateOfHeading hf2136).deep (by decide)) ?_
  refine mg_Ev.go 1 (pc' := 9) (loc' := [some (.ref 3), some (.int a0), some (.ref 29)]) (st' := [.int a0, .int v245]) (w' := (hp u fL fD, c, z)) rfl ?_
  refine mg_Ev.br (P := v245 = a0) (t := 12) (nx := 14) (st' := []) rfl rfl rfl rfl (fun hc2137 => ?_) (fun hc2137 => ?_)
  · rw [if_pos hc2137] at h
    refine mg_Ev.go 1 (pc' := 13) (loc' := [some (.ref 3), some (.int a0), some (.ref 29)]) (st' := [.int 0]) (w' := (hp u fL fD, c, z)) rfl ?_
    cases h
    exact mg_Ev.fin rfl rfl rfl
  · rw [if_neg hc2137] at h
    refine mg_Ev.go 2 (pc' := 16) (loc' := [some (.ref 3), some (.int a0), some (.ref 29)]) (st' := [.ref 29, .ref 3]) (w' := (hp u fL fD, c, z)) rfl ?_
    obtain ⟨v246, hf2138, h⟩ := Option.bind_eq_some_iff.mp h
    refine mg_Ev.call (y := 209) (as := [.ref 3, .ref 29]) (rest := []) (v := some (.int v246)) (w1 := (hp u fL fD, c, z)) rfl rfl (Nat.le_of_ble_eq_true rfl) ((ev_Tf_preferredRate_28 hf2138).deep (by decide)) ?_
    refine mg_Ev.go 1 (pc' := 20) (loc' := [some (.ref 3), some (.int a0), some (.ref 29)]) (st' := [.int a0, .int v246]) (w' := (hp u fL fD, c, z)) rfl ?_
    refine mg_Ev.br (P := v246 = a0) (t := 23) (nx := 27) (st' := []) rfl rfl rfl rfl (fun hc2139 => ?_) (fun hc2139 => ?_)
    · rw [if_pos hc2139] at h
      refine mg_Ev.go 2 (pc' := 28) (loc' := [some (.ref 3), some (.int a0), some (.ref 29)]) (st' := [.int 1]) (w' := (hp u fL fD, c, z)) rfl ?_
      cases h
      exact mg_Ev.fin rfl rfl rfl
    · rw [if_neg hc2139] at h
      refine mg_Ev.go 1 (pc' := 28) (loc' := [some (.ref 3), some (.int a0), some (.ref 29)]) (st' := [.int 2]) (w' := (hp u fL fD, c, z)) rfl ?_
      cases h
      exact mg_Ev.fin rfl rfl rfl

def C_comesFrom (a0 : Int32) (a1 : Int32) (a2 : Int32) (a3 : Int32) (u : mg_Rg) : Option ((Int32 ⊕ Nat) × mg_Rg) :=
  (C_goodsNow a0 a1 a2 a3 u).bind fun p241 => match p241 with
  | (.inr ee, u243) => some (.inr ee, u243)
  | (.inl _, u243) =>
    (Tf_leastRate_28 u243).bind fun v244 =>
    (Tf_sourceOf_28 v244 u243).bind fun v247 =>
    some (.inl v247, u243)

set_option maxRecDepth 10000 in
set_option maxHeartbeats 4000000 in
theorem ev_C_comesFrom {sc : mg_Sc} {c z : Nat} {fL : Nat → Int64} {fD : Nat → UInt64} {a0 : Int32} {a1 : Int32} {a2 : Int32} {a3 : Int32} {u : mg_Rg} {p : (Int32 ⊕ Nat) × mg_Rg} (h : C_comesFrom a0 a1 a2 a3 u = some p) : mg_Ev sc 4 12 0 (mg_entry 12 [.ref 1, .int a0, .int a1, .int a2, .int a3]) [] (hp u fL fD, c, z) (xri p.1, xw p.1 (hp p.2 fL fD) c z) := by
  unfold C_comesFrom at h
  show mg_Ev _ _ _ 0 [some (.ref 1), some (.int a0), some (.int a1), some (.int a2), some (.int a3), none] [] _ _
  refine mg_Ev.go 5 (pc' := 6) (loc' := [some (.ref 1), some (.int a0), some (.int a1), some (.int a2), some (.int a3), none]) (st' := [.int a3, .int a2, .int a1, .int a0, .ref 1]) (w' := (hp u fL fD, c, z)) rfl ?_
  obtain ⟨⟨⟨⟩ | ee, u243⟩, hf2140, h⟩ := Option.bind_eq_some_iff.mp h
  · try dsimp only at h
    refine mg_Ev.call (y := 46) (as := [.ref 1, .int a0, .int a1, .int a2, .int a3]) (rest := []) (v := some (.ref 29)) (w1 := (hp u243 fL fD, c, z)) rfl rfl (Nat.le_of_ble_eq_true rfl) ((ev_C_goodsNow hf2140).deep (by decide)) ?_
    refine mg_Ev.go 6 (pc' := 21) (loc' := [some (.ref 1), some (.int a0), some (.int a1), some (.int a2), some (.int a3), some (.ref 29)]) (st' := [.ref 29, .ref 3, .ref 3]) (w' := (hp u243 fL fD, c, z)) rfl ?_
    obtain ⟨v244, hf2141, h⟩ := Option.bind_eq_some_iff.mp h
    refine mg_Ev.call (y := 203) (as := [.ref 3, .ref 29]) (rest := [.ref 3]) (v := some (.int v244)) (w1 := (hp u243 fL fD, c, z)) rfl rfl (Nat.le_of_ble_eq_true rfl) ((ev_Tf_leastRate_28 hf2141).deep (by decide)) ?_
    refine mg_Ev.go 1 (pc' := 26) (loc' := [some (.ref 1), some (.int a0), some (.int a1), some (.int a2), some (.int a3), some (.ref 29)]) (st' := [.ref 29, .int v244, .ref 3]) (w' := (hp u243 fL fD, c, z)) rfl ?_
    obtain ⟨v247, hf2142, h⟩ := Option.bind_eq_some_iff.mp h
    refine mg_Ev.call (y := 204) (as := [.ref 3, .int v244, .ref 29]) (rest := []) (v := some (.int v247)) (w1 := (hp u243 fL fD, c, z)) rfl rfl (Nat.le_of_ble_eq_true rfl) ((ev_Tf_sourceOf_28 hf2142).deep (by decide)) ?_
    cases h
    exact mg_Ev.fin rfl rfl rfl
  · cases h
    exact mg_Ev.callX (y := 46) (as := [.ref 1, .int a0, .int a1, .int a2, .int a3]) (rest := []) rfl rfl (Nat.le_of_ble_eq_true rfl) ((ev_C_goodsNow hf2140).deep (by decide)) rfl

def Tf_bestMissed_28_L11 : Nat → Int32 → Int32 → Int32 → mg_Rg → Option (Int32)
  | 0, _, _, _, _ => none
  | n + 1, x2, x3, x4, u =>
    (T_count_6 u).bind fun v252 =>
    if v252 ≤ x4 then
    some (x2)
    else
    (T_get_6 x4 2 u).bind fun v253 =>
      if x3 ≤ v253 then
      Tf_bestMissed_28_L11 n x2 x3 (x4 + 1) u
      else
      (T_get_6 x4 1 u).bind fun v254 =>
        if v254 = (u 28 1) then
        (T_get_6 x4 0 u).bind fun v255 =>
          (Tf_isUnder (u 28 0) v255 u).bind fun v256 =>
          if v256 = 0 then
          Tf_bestMissed_28_L11 n x2 x3 (x4 + 1) u
          else
          (Tf_meetsNeed_28 x4 u).bind fun v257 =>
            if v257 = 0 then
            Tf_bestMissed_28_L11 n x4 v253 (x4 + 1) u
            else
            Tf_bestMissed_28_L11 n x2 x3 (x4 + 1) u
        else
        Tf_bestMissed_28_L11 n x2 x3 (x4 + 1) u
set_option maxRecDepth 10000 in
set_option maxHeartbeats 4000000 in
theorem ev_Tf_bestMissed_28_L11 {sc : mg_Sc} {c z : Nat} {fL : Nat → Int64} {fD : Nat → UInt64} : ∀ (n : Nat) (x2 : Int32) (x3 : Int32) (x4 : Int32) (u : mg_Rg) (res : Int32), Tf_bestMissed_28_L11 n x2 x3 x4 u = some res → ∀ r, (match res with | y2 => mg_Ev sc 4 205 101 [none, none, some (.int y2), none, none, none] [] (hp u fL fD, c, z) r) → mg_Ev sc 4 205 11 [some (.ref 3), some (.ref 29), some (.int x2), some (.int x3), some (.int x4), none] [] (hp u fL fD, c, z) r := by
  intro n
  induction n with
  | zero => intro x2 x3 x4 u res h; cases h
  | succ n ih =>
    intro x2 x3 x4 u res h r K
    unfold Tf_bestMissed_28_L11 at h
    refine mg_Ev.go 3 (pc' := 17) (loc' := [some (.ref 3), some (.ref 29), some (.int x2), some (.int x3), some (.int x4), none]) (st' := [.ref 7, .int x4]) (w' := (hp u fL fD, c, z)) rfl ?_
    obtain ⟨v252, hf2143, h⟩ := Option.bind_eq_some_iff.mp h
    refine mg_Ev.call (y := 181) (as := [.ref 7]) (rest := [.int x4]) (v := some (.int v252)) (w1 := (hp u fL fD, c, z)) rfl rfl (Nat.le_of_ble_eq_true rfl) ((ev_T_count_6 hf2143).deep (by decide)) ?_
    refine mg_Ev.br (P := v252 ≤ x4) (t := 101) (nx := 23) (st' := []) rfl rfl rfl rfl (fun hc2144 => ?_) (fun hc2144 => ?_)
    · rw [if_pos hc2144] at h
      cases h
      exact mg_Ev.more (loc := [none, none, some (.int x2), none, none, none]) K ⟨rfl, trivial⟩
    · rw [if_neg hc2144] at h
      refine mg_Ev.go 4 (pc' := 30) (loc' := [some (.ref 3), some (.ref 29), some (.int x2), some (.int x3), some (.int x4), none]) (st' := [.int 2, .int x4, .ref 7]) (w' := (hp u fL fD, c, z)) rfl ?_
      obtain ⟨v253, hf2145, h⟩ := Option.bind_eq_some_iff.mp h
      refine mg_Ev.call (y := 184) (as := [.ref 7, .int x4, .int 2]) (rest := []) (v := some (.int v253)) (w1 := (hp u fL fD, c, z)) rfl rfl (Nat.le_of_ble_eq_true rfl) ((ev_T_get_6 hf2145).deep (by decide)) ?_
      refine mg_Ev.go 3 (pc' := 38) (loc' := [some (.ref 3), some (.ref 29), some (.int x2), some (.int x3), some (.int x4), some (.int v253)]) (st' := [.int x3, .int v253]) (w' := (hp u fL fD, c, z)) rfl ?_
      refine mg_Ev.br (P := x3 ≤ v253) (t := 95) (nx := 41) (st' := []) rfl rfl rfl rfl (fun hc2146 => ?_) (fun hc2146 => ?_)
      · rw [if_pos hc2146] at h
        refine mg_Ev.go 2 (pc' := 11) (loc' := [some (.ref 3), some (.ref 29), some (.int x2), some (.int x3), some (.int (x4 + 1)), some (.int v253)]) (st' := []) (w' := (hp u fL fD, c, z)) rfl ?_
        exact mg_Ev.more (loc := [some (.ref 3), some (.ref 29), some (.int x2), some (.int x3), some (.int (x4 + 1)), none]) (ih _ _ _ _ _ h _ K) ⟨rfl, ⟨rfl, ⟨rfl, ⟨rfl, ⟨rfl, trivial⟩⟩⟩⟩⟩
      · rw [if_neg hc2146] at h
        refine mg_Ev.go 4 (pc' := 48) (loc' := [some (.ref 3), some (.ref 29), some (.int x2), some (.int x3), some (.int x4), some (.int v253)]) (st' := [.int 1, .int x4, .ref 7]) (w' := (hp u fL fD, c, z)) rfl ?_
        obtain ⟨v254, hf2147, h⟩ := Option.bind_eq_some_iff.mp h
        refine mg_Ev.call (y := 184) (as := [.ref 7, .int x4, .int 1]) (rest := []) (v := some (.int v254)) (w1 := (hp u fL fD, c, z)) rfl rfl (Nat.le_of_ble_eq_true rfl) ((ev_T_get_6 hf2147).deep (by decide)) ?_
        refine mg_Ev.go 2 (pc' := 55) (loc' := [some (.ref 3), some (.ref 29), some (.int x2), some (.int x3), some (.int x4), some (.int v253)]) (st' := [.int (u 28 1), .int v254]) (w' := (hp u fL fD, c, z)) rfl ?_
        refine mg_Ev.br (P := v254 = (u 28 1)) (t := 58) (nx := 95) (st' := []) rfl rfl rfl rfl (fun hc2148 => ?_) (fun hc2148 => ?_)
        · rw [if_pos hc2148] at h
          refine mg_Ev.go 7 (pc' := 70) (loc' := [some (.ref 3), some (.ref 29), some (.int x2), some (.int x3), some (.int x4), some (.int v253)]) (st' := [.int 0, .int x4, .ref 7, .int (u 28 0), .ref 3]) (w' := (hp u fL fD, c, z)) rfl ?_
          obtain ⟨v255, hf2149, h⟩ := Option.bind_eq_some_iff.mp h
          refine mg_Ev.call (y := 184) (as := [.ref 7, .int x4, .int 0]) (rest := [.int (u 28 0), .ref 3]) (v := some (.int v255)) (w1 := (hp u fL fD, c, z)) rfl rfl (Nat.le_of_ble_eq_true rfl) ((ev_T_get_6 hf2149).deep (by decide)) ?_
          obtain ⟨v256, hf2150, h⟩ := Option.bind_eq_some_iff.mp h
          refine mg_Ev.call (y := 201) (as := [.ref 3, .int (u 28 0), .int v255]) (rest := []) (v := some (.int v256)) (w1 := (hp u fL fD, c, z)) rfl rfl (Nat.le_of_ble_eq_true rfl) ((ev_Tf_isUnder hf2150).deep (by decide)) ?_
          refine mg_Ev.br (P := v256 = 0) (t := 95) (nx := 79) (st' := []) rfl rfl rfl rfl (fun hc2151 => ?_) (fun hc2151 => ?_)
          · rw [if_pos hc2151] at h
            refine mg_Ev.go 2 (pc' := 11) (loc' := [some (.ref 3), some (.ref 29), some (.int x2), some (.int x3), some (.int (x4 + 1)), some (.int v253)]) (st' := []) (w' := (hp u fL fD, c, z)) rfl ?_
            exact mg_Ev.more (loc := [some (.ref 3), some (.ref 29), some (.int x2), some (.int x3), some (.int (x4 + 1)), none]) (ih _ _ _ _ _ h _ K) ⟨rfl, ⟨rfl, ⟨rfl, ⟨rfl, ⟨rfl, trivial⟩⟩⟩⟩⟩
          · rw [if_neg hc2151] at h
            refine mg_Ev.go 3 (pc' := 83) (loc' := [some (.ref 3), some (.ref 29), some (.int x2), some (.int x3), some (.int x4), some (.int v253)]) (st' := [.ref 29, .int x4, .ref 3]) (w' := (hp u fL fD, c, z)) rfl ?_
            obtain ⟨v257, hf2152, h⟩ := Option.bind_eq_some_iff.mp h
            refine mg_Ev.call (y := 210) (as := [.ref 3, .int x4, .ref 29]) (rest := []) (v := some (.int v257)) (w1 := (hp u fL fD, c, z)) rfl rfl (Nat.le_of_ble_eq_true rfl) ((ev_Tf_meetsNeed_28 hf2152).deep (by decide)) ?_
            refine mg_Ev.br (P := v257 = 0) (t := 89) (nx := 95) (st' := []) rfl rfl rfl rfl (fun hc2153 => ?_) (fun hc2153 => ?_)
            · rw [if_pos hc2153] at h
              refine mg_Ev.go 6 (pc' := 11) (loc' := [some (.ref 3), some (.ref 29), some (.int x4), some (.int v253), some (.int (x4 + 1)), some (.int v253)]) (st' := []) (w' := (hp u fL fD, c, z)) rfl ?_
              exact mg_Ev.more (loc := [some (.ref 3), some (.ref 29), some (.int x4), some (.int v253), some (.int (x4 + 1)), none]) (ih _ _ _ _ _ h _ K) ⟨rfl, ⟨rfl, ⟨rfl, ⟨rfl, ⟨rfl, trivial⟩⟩⟩⟩⟩
            · rw [if_neg hc2153] at h
              refine mg_Ev.go 2 (pc' := 11) (loc' := [some (.ref 3), some (.ref 29), some (.int x2), some (.int x3), some (.int (x4 + 1)), some (.int v253)]) (st' := []) (w' := (hp u fL fD, c, z)) rfl ?_
              exact mg_Ev.more (loc := [some (.ref 3), some (.ref 29), some (.int x2), some (.int x3), some (.int (x4 + 1)), none]) (ih _ _ _ _ _ h _ K) ⟨rfl, ⟨rfl, ⟨rfl, ⟨rfl, ⟨rfl, trivial⟩⟩⟩⟩⟩
        · rw [if_neg hc2148] at h
          refine mg_Ev.go 2 (pc' := 11) (loc' := [some (.ref 3), some (.ref 29), some (.int x2), some (.int x3), some (.int (x4 + 1)), some (.int v253)]) (st' := []) (w' := (hp u fL fD, c, z)) rfl ?_
          exact mg_Ev.more (loc := [some (.ref 3), some (.ref 29), some (.int x2), some (.int x3), some (.int (x4 + 1)), none]) (ih _ _ _ _ _ h _ K) ⟨rfl, ⟨rfl, ⟨rfl, ⟨rfl, ⟨rfl, trivial⟩⟩⟩⟩⟩

def Tf_bestMissed_28 (u : mg_Rg) : Option (Int32) :=
  (Tf_leastRate_28 u).bind fun v251 =>
  (Tf_bestMissed_28_L11 mg_F (-1) v251 0 u).bind fun q2154 => match q2154 with
  | x258 =>
    some x258

set_option maxRecDepth 10000 in
set_option maxHeartbeats 4000000 in
theorem ev_Tf_bestMissed_28 {sc : mg_Sc} {c z : Nat} {fL : Nat → Int64} {fD : Nat → UInt64} {u : mg_Rg} {v : Int32} (h : Tf_bestMissed_28 u = some v) : mg_Ev sc 4 205 0 (mg_entry 205 [.ref 3, .ref 29]) [] (hp u fL fD, c, z) (.inl (some (.int v)), (hp u fL fD, c, z)) := by
  unfold Tf_bestMissed_28 at h
  show mg_Ev _ _ _ 0 [some (.ref 3), some (.ref 29), none, none, none, none] [] _ _
  refine mg_Ev.go 4 (pc' := 4) (loc' := [some (.ref 3), some (.ref 29), some (.int (-1)), none, none, none]) (st' := [.ref 29, .ref 3]) (w' := (hp u fL fD, c, z)) rfl ?_
  obtain ⟨v251, hf2155, h⟩ := Option.bind_eq_some_iff.mp h
  refine mg_Ev.call (y := 203) (as := [.ref 3, .ref 29]) (rest := []) (v := some (.int v251)) (w1 := (hp u fL fD, c, z)) rfl rfl (Nat.le_of_ble_eq_true rfl) ((ev_Tf_leastRate_28 hf2155).deep (by decide)) ?_
  refine mg_Ev.go 3 (pc' := 11) (loc' := [some (.ref 3), some (.ref 29), some (.int (-1)), some (.int v251), some (.int 0), none]) (st' := []) (w' := (hp u fL fD, c, z)) rfl ?_
  obtain ⟨x258, hl2156, h⟩ := Option.bind_eq_some_iff.mp h
  try dsimp only at h
  refine mg_Ev.more (loc := [some (.ref 3), some (.ref 29), some (.int (-1)), some (.int v251), some (.int 0), none]) (ev_Tf_bestMissed_28_L11 _ _ _ _ _ _ hl2156 _ ?_) ⟨rfl, ⟨rfl, ⟨rfl, ⟨rfl, ⟨rfl, trivial⟩⟩⟩⟩⟩
  show mg_Ev _ _ _ 101 [none, none, some (.int x258), none, none, none] [] (hp u fL fD, c, z) _
  refine mg_Ev.go 1 (pc' := 102) (loc' := [none, none, some (.int x258), none, none, none]) (st' := [.int x258]) (w' := (hp u fL fD, c, z)) rfl ?_
  cases h
  exact mg_Ev.fin rfl rfl rfl

def C_missed (a0 : Int32) (a1 : Int32) (a2 : Int32) (a3 : Int32) (u : mg_Rg) : Option ((Int32 ⊕ Nat) × mg_Rg) :=
  (C_goodsNow a0 a1 a2 a3 u).bind fun p248 => match p248 with
  | (.inr ee, u250) => some (.inr ee, u250)
  | (.inl _, u250) =>
    (Tf_bestMissed_28 u250).bind fun v259 =>
    if v259 = (-1) then
    some (.inr 3, u250)
    else
    some (.inl v259, u250)

set_option maxRecDepth 10000 in
set_option maxHeartbeats 4000000 in
theorem ev_C_missed {sc : mg_Sc} {c z : Nat} {fL : Nat → Int64} {fD : Nat → UInt64} {a0 : Int32} {a1 : Int32} {a2 : Int32} {a3 : Int32} {u : mg_Rg} {p : (Int32 ⊕ Nat) × mg_Rg} (h : C_missed a0 a1 a2 a3 u = some p) : mg_Ev sc 5 13 0 (mg_entry 13 [.ref 1, .int a0, .int a1, .int a2, .int a3]) [] (hp u fL fD, c, z) (xri p.1, xw p.1 (hp p.2 fL fD) c z) := by
  unfold C_missed at h
  show mg_Ev _ _ _ 0 [some (.ref 1), some (.int a0), some (.int a1), some (.int a2), some (.int a3), none] [] _ _
  refine mg_Ev.go 7 (pc' := 10) (loc' := [some (.ref 1), some (.int a0), some (.int a1), some (.int a2), some (.int a3), none]) (st' := [.int a3, .int a2, .int a1, .int a0, .ref 1, .ref 3]) (w' := (hp u fL fD, c, z)) rfl ?_
  obtain ⟨⟨⟨⟩ | ee, u250⟩, hf2157, h⟩ := Option.bind_eq_some_iff.mp h
  · try dsimp only at h
    refine mg_Ev.call (y := 46) (as := [.ref 1, .int a0, .int a1, .int a2, .int a3]) (rest := [.ref 3]) (v := some (.ref 29)) (w1 := (hp u250 fL fD, c, z)) rfl rfl (Nat.le_of_ble_eq_true rfl) ((ev_C_goodsNow hf2157).deep (by decide)) ?_
    obtain ⟨v259, hf2158, h⟩ := Option.bind_eq_some_iff.mp h
    refine mg_Ev.call (y := 205) (as := [.ref 3, .ref 29]) (rest := []) (v := some (.int v259)) (w1 := (hp u250 fL fD, c, z)) rfl rfl (Nat.le_of_ble_eq_true rfl) ((ev_Tf_bestMissed_28 hf2158).deep (by decide)) ?_
    refine mg_Ev.go 3 (pc' := 21) (loc' := [some (.ref 1), some (.int a0), some (.int a1), some (.int a2), some (.int a3), some (.int v259)]) (st' := [.int (-1), .int v259]) (w' := (hp u250 fL fD, c, z)) rfl ?_
    refine mg_Ev.br (P := v259 = (-1)) (t := 24) (nx := 34) (st' := []) rfl rfl rfl rfl (fun hc2159 => ?_) (fun hc2159 => ?_)
    · rw [if_pos hc2159] at h
      cases h
      exact mg_Ev.fin rfl rfl rfl
    · rw [if_neg hc2159] at h
      refine mg_Ev.go 1 (pc' := 36) (loc' := [some (.ref 1), some (.int a0), some (.int a1), some (.int a2), some (.int a3), some (.int v259)]) (st' := [.int v259]) (w' := (hp u250 fL fD, c, z)) rfl ?_
      cases h
      exact mg_Ev.fin rfl rfl rfl
  · cases h
    exact mg_Ev.callX (y := 46) (as := [.ref 1, .int a0, .int a1, .int a2, .int a3]) (rest := [.ref 3]) rfl rfl (Nat.le_of_ble_eq_true rfl) ((ev_C_goodsNow hf2157).deep (by decide)) rfl

def T_count_30 (u : mg_Rg) : Option (Int32) :=
  some (u 31 0)

set_option maxRecDepth 10000 in
set_option maxHeartbeats 4000000 in
theorem ev_T_count_30 {sc : mg_Sc} {c z : Nat} {fL : Nat → Int64} {fD : Nat → UInt64} {u : mg_Rg} {v : Int32} (h : T_count_30 u = some v) : mg_Ev sc 0 181 0 (mg_entry 181 [.ref 31]) [] (hp u fL fD, c, z) (.inl (some (.int v)), (hp u fL fD, c, z)) := by
  unfold T_count_30 at h
  show mg_Ev _ _ _ 0 [some (.ref 31)] [] _ _
  refine mg_Ev.go 3 (pc' := 5) (loc' := [some (.ref 31)]) (st' := [.int 9]) (w' := (hp u fL fD, c, z)) rfl ?_
  refine mg_Ev.br (P := (9 : Int32) ≤ 0) (t := 17) (nx := 8) (st' := []) rfl rfl rfl rfl (fun q => absurd q (by decide)) (fun _ => ?_)
  refine mg_Ev.go 3 (pc' := 13) (loc' := [some (.ref 31)]) (st' := [.int 0, .ref 32]) (w' := (hp u fL fD, c, z)) rfl ?_
  refine mg_Ev.iald (a := 31) (n := 9) (f := u 31) (j := 0) rfl (hpg_31 _ _ _) (by decide) (by decide) ?_
  refine mg_Ev.go 1 (pc' := 18) (loc' := [some (.ref 31)]) (st' := [.int (u 31 0)]) (w' := (hp u fL fD, c, z)) rfl ?_
  cases h
  exact mg_Ev.fin rfl rfl rfl

def T_isFull_30 (u : mg_Rg) : Option (Int32) :=
  (T_count_30 u).bind fun v264 =>
  if v264 < 4 then
  some 0
  else
  some 1

set_option maxRecDepth 10000 in
set_option maxHeartbeats 4000000 in
theorem ev_T_isFull_30 {sc : mg_Sc} {c z : Nat} {fL : Nat → Int64} {fD : Nat → UInt64} {u : mg_Rg} {v : Int32} (h : T_isFull_30 u = some v) : mg_Ev sc 1 183 0 (mg_entry 183 [.ref 31]) [] (hp u fL fD, c, z) (.inl (some (.int v)), (hp u fL fD, c, z)) := by
  unfold T_isFull_30 at h
  show mg_Ev _ _ _ 0 [some (.ref 31)] [] _ _
  refine mg_Ev.go 1 (pc' := 1) (loc' := [some (.ref 31)]) (st' := [.ref 31]) (w' := (hp u fL fD, c, z)) rfl ?_
  obtain ⟨v264, hf2161, h⟩ := Option.bind_eq_some_iff.mp h
  refine mg_Ev.call (y := 181) (as := [.ref 31]) (rest := []) (v := some (.int v264)) (w1 := (hp u fL fD, c, z)) rfl rfl (Nat.le_of_ble_eq_true rfl) ((ev_T_count_30 hf2161).deep (by decide)) ?_
  refine mg_Ev.go 2 (pc' := 8) (loc' := [some (.ref 31)]) (st' := [.int 4, .int v264]) (w' := (hp u fL fD, c, z)) rfl ?_
  refine mg_Ev.br (P := v264 < 4) (t := 15) (nx := 11) (st' := []) rfl rfl rfl rfl (fun hc2162 => ?_) (fun hc2162 => ?_)
  · rw [if_pos hc2162] at h
    refine mg_Ev.go 1 (pc' := 16) (loc' := [some (.ref 31)]) (st' := [.int 0]) (w' := (hp u fL fD, c, z)) rfl ?_
    cases h
    exact mg_Ev.fin rfl rfl rfl
  · rw [if_neg hc2162] at h
    refine mg_Ev.go 2 (pc' := 16) (loc' := [some (.ref 31)]) (st' := [.int 1]) (w' := (hp u fL fD, c, z)) rfl ?_
    cases h
    exact mg_Ev.fin rfl rfl rfl

def T_put_30 (a0 : Int32) (a1 : Int32) (a2 : Int32) (u : mg_Rg) : Option (mg_Rg) :=
  if a0 < 0 then
  some u
  else
  if 4 ≤ a0 then
    some u
    else
    if a1 < 0 then
      some u
      else
      if a1 < 2 then
        if ((1 + (a0 * 2)) + a1) < 0 then
          some u
          else
          if 9 ≤ ((1 + (a0 * 2)) + a1) then
            some u
            else
            if ((1 + (a0 * 2)) + a1) < 0 ∨ 9 ≤ ((1 + (a0 * 2)) + a1).toNatClampNeg then none else
              some (mg_up u 31 (((1 + (a0 * 2)) + a1).toNatClampNeg) a2)
        else
        some u

set_option maxRecDepth 10000 in
set_option maxHeartbeats 4000000 in
theorem ev_T_put_30 {sc : mg_Sc} {c z : Nat} {fL : Nat → Int64} {fD : Nat → UInt64} {a0 : Int32} {a1 : Int32} {a2 : Int32} {u : mg_Rg} {v : mg_Rg} (h : T_put_30 a0 a1 a2 u = some v) : mg_Ev sc 0 185 0 (mg_entry 185 [.ref 31, .int a0, .int a1, .int a2]) [] (hp u fL fD, c, z) (.inl none, (hp v fL fD, c, z)) := by
  unfold T_put_30 at h
  show mg_Ev _ _ _ 0 [some (.ref 31), some (.int a0), some (.int a1), some (.int a2), none] [] _ _
  refine mg_Ev.go 1 (pc' := 1) (loc' := [some (.ref 31), some (.int a0), some (.int a1), some (.int a2), none]) (st' := [.int a0]) (w' := (hp u fL fD, c, z)) rfl ?_
  refine mg_Ev.br (P := a0 < 0) (t := 24) (nx := 4) (st' := []) rfl rfl rfl rfl (fun hc2163 => ?_) (fun hc2163 => ?_)
  · rw [if_pos hc2163] at h
    cases h
    exact mg_Ev.fin rfl rfl rfl
  · rw [if_neg hc2163] at h
    refine mg_Ev.go 3 (pc' := 9) (loc' := [some (.ref 31), some (.int a0), some (.int a1), some (.int a2), none]) (st' := [.int 4, .int a0]) (w' := (hp u fL fD, c, z)) rfl ?_
    refine mg_Ev.br (P := 4 ≤ a0) (t := 24) (nx := 12) (st' := []) rfl rfl rfl rfl (fun hc2164 => ?_) (fun hc2164 => ?_)
    · rw [if_pos hc2164] at h
      cases h
      exact mg_Ev.fin rfl rfl rfl
    · rw [if_neg hc2164] at h
      refine mg_Ev.go 1 (pc' := 13) (loc' := [some (.ref 31), some (.int a0), some (.int a1), some (.int a2), none]) (st' := [.int a1]) (w' := (hp u fL fD, c, z)) rfl ?_
      refine mg_Ev.br (P := a1 < 0) (t := 24) (nx := 16) (st' := []) rfl rfl rfl rfl (fun hc2165 => ?_) (fun hc2165 => ?_)
      · rw [if_pos hc2165] at h
        cases h
        exact mg_Ev.fin rfl rfl rfl
      · rw [if_neg hc2165] at h
        refine mg_Ev.go 3 (pc' := 21) (loc' := [some (.ref 31), some (.int a0), some (.int a1), some (.int a2), none]) (st' := [.int 2, .int a1]) (w' := (hp u fL fD, c, z)) rfl ?_
        refine mg_Ev.br (P := a1 < 2) (t := 25) (nx := 24) (st' := []) rfl rfl rfl rfl (fun hc2166 => ?_) (fun hc2166 => ?_)
        · rw [if_pos hc2166] at h
          refine mg_Ev.go 10 (pc' := 39) (loc' := [some (.ref 31), some (.int a0), some (.int a1), some (.int a2), some (.int ((1 + (a0 * 2)) + a1))]) (st' := [.int ((1 + (a0 * 2)) + a1)]) (w' := (hp u fL fD, c, z)) rfl ?_
          refine mg_Ev.br (P := ((1 + (a0 * 2)) + a1) < 0) (t := 60) (nx := 42) (st' := []) rfl rfl rfl rfl (fun hc2167 => ?_) (fun hc2167 => ?_)
          · rw [if_pos hc2167] at h
            cases h
            exact mg_Ev.fin rfl rfl rfl
          · rw [if_neg hc2167] at h
            refine mg_Ev.go 4 (pc' := 49) (loc' := [some (.ref 31), some (.int a0), some (.int a1), some (.int a2), some (.int ((1 + (a0 * 2)) + a1))]) (st' := [.int 9, .int ((1 + (a0 * 2)) + a1)]) (w' := (hp u fL fD, c, z)) rfl ?_
            refine mg_Ev.br (P := 9 ≤ ((1 + (a0 * 2)) + a1)) (t := 60) (nx := 52) (st' := []) rfl rfl rfl rfl (fun hc2168 => ?_) (fun hc2168 => ?_)
            · rw [if_pos hc2168] at h
              cases h
              exact mg_Ev.fin rfl rfl rfl
            · rw [if_neg hc2168] at h
              refine mg_Ev.go 4 (pc' := 59) (loc' := [some (.ref 31), some (.int a0), some (.int a1), some (.int a2), some (.int ((1 + (a0 * 2)) + a1))]) (st' := [.int a2, .int ((1 + (a0 * 2)) + a1), .ref 32]) (w' := (hp u fL fD, c, z)) rfl ?_
              by_cases hb2169 : ((1 + (a0 * 2)) + a1) < 0 ∨ 9 ≤ ((1 + (a0 * 2)) + a1).toNatClampNeg
              · rw [if_pos hb2169] at h
                cases h
              · rw [if_neg hb2169] at h
                refine mg_Ev.iast (a := 31) (n := 9) rfl (hpg_31 _ _ _) rfl hb2169 (hpa_31 _ _ _ _ _ _ _) ?_
                cases h
                exact mg_Ev.fin rfl rfl rfl
        · rw [if_neg hc2166] at h
          cases h
          exact mg_Ev.fin rfl rfl rfl

def T_setCount_30 (a0 : Int32) (u : mg_Rg) : Option (mg_Rg) :=
  some (mg_up u 31 0 a0)

set_option maxRecDepth 10000 in
set_option maxHeartbeats 4000000 in
theorem ev_T_setCount_30 {sc : mg_Sc} {c z : Nat} {fL : Nat → Int64} {fD : Nat → UInt64} {a0 : Int32} {u : mg_Rg} {v : mg_Rg} (h : T_setCount_30 a0 u = some v) : mg_Ev sc 0 193 0 (mg_entry 193 [.ref 31, .int a0]) [] (hp u fL fD, c, z) (.inl none, (hp v fL fD, c, z)) := by
  unfold T_setCount_30 at h
  show mg_Ev _ _ _ 0 [some (.ref 31), some (.int a0)] [] _ _
  refine mg_Ev.go 3 (pc' := 5) (loc' := [some (.ref 31), some (.int a0)]) (st' := [.int 9]) (w' := (hp u fL fD, c, z)) rfl ?_
  refine mg_Ev.br (P := (9 : Int32) ≤ 0) (t := 15) (nx := 8) (st' := []) rfl rfl rfl rfl (fun q => absurd q (by decide)) (fun _ => ?_)
  refine mg_Ev.go 4 (pc' := 14) (loc' := [some (.ref 31), some (.int a0)]) (st' := [.int a0, .int 0, .ref 32]) (w' := (hp u fL fD, c, z)) rfl ?_
  refine mg_Ev.iast (a := 31) (n := 9) (j := 0) rfl (hpg_31 _ _ _) (by decide) (by decide) (hpa_31 _ _ _ _ _ _ _) ?_
  cases h
  exact mg_Ev.fin rfl rfl rfl

def T_add_30_L17 : Nat → Int32 → Int32 → mg_Rg → Option (mg_Rg)
  | 0, _, _, _ => none
  | n + 1, x1, x2, u =>
    if 2 ≤ x2 then
    some (u)
    else
    (T_put_30 x1 x2 0 u).bind fun u268 =>
      T_add_30_L17 n x1 (x2 + 1) u268
set_option maxRecDepth 10000 in
set_option maxHeartbeats 4000000 in
theorem ev_T_add_30_L17 {sc : mg_Sc} {c z : Nat} {fL : Nat → Int64} {fD : Nat → UInt64} : ∀ (n : Nat) (x1 : Int32) (x2 : Int32) (u : mg_Rg) (res : mg_Rg), T_add_30_L17 n x1 x2 u = some res → ∀ r, (match res with | yu => mg_Ev sc 1 187 38 [some (.ref 31), some (.int x1), none] [] (hp yu fL fD, c, z) r) → mg_Ev sc 1 187 17 [some (.ref 31), some (.int x1), some (.int x2)] [] (hp u fL fD, c, z) r := by
  intro n
  induction n with
  | zero => intro x1 x2 u res h; cases h
  | succ n ih =>
    intro x1 x2 u res h r K
    unfold T_add_30_L17 at h
    refine mg_Ev.go 3 (pc' := 22) (loc' := [some (.ref 31), some (.int x1), some (.int x2)]) (st' := [.int 2, .int x2]) (w' := (hp u fL fD, c, z)) rfl ?_
    refine mg_Ev.br (P := 2 ≤ x2) (t := 38) (nx := 25) (st' := []) rfl rfl rfl rfl (fun hc2171 => ?_) (fun hc2171 => ?_)
    · rw [if_pos hc2171] at h
      cases h
      exact mg_Ev.more (loc := [some (.ref 31), some (.int x1), none]) K ⟨rfl, ⟨rfl, trivial⟩⟩
    · rw [if_neg hc2171] at h
      refine mg_Ev.go 4 (pc' := 29) (loc' := [some (.ref 31), some (.int x1), some (.int x2)]) (st' := [.int 0, .int x2, .int x1, .ref 31]) (w' := (hp u fL fD, c, z)) rfl ?_
      obtain ⟨u268, hf2172, h⟩ := Option.bind_eq_some_iff.mp h
      refine mg_Ev.call (y := 185) (as := [.ref 31, .int x1, .int x2, .int 0]) (rest := []) (v := none) (w1 := (hp u268 fL fD, c, z)) rfl rfl (Nat.le_of_ble_eq_true rfl) ((ev_T_put_30 hf2172).deep (by decide)) ?_
      refine mg_Ev.go 2 (pc' := 17) (loc' := [some (.ref 31), some (.int x1), some (.int (x2 + 1))]) (st' := []) (w' := (hp u268 fL fD, c, z)) rfl ?_
      exact mg_Ev.more (loc := [some (.ref 31), some (.int x1), some (.int (x2 + 1))]) (ih _ _ _ _ h _ K) ⟨rfl, ⟨rfl, ⟨rfl, trivial⟩⟩⟩

def T_add_30 (u : mg_Rg) : Option (Int32 × mg_Rg) :=
  (T_count_30 u).bind fun v267 =>
  if v267 < 4 then
  (T_add_30_L17 mg_F v267 0 u).bind fun q2173 => match q2173 with
    | u269 =>
      (T_setCount_30 (v267 + 1) u269).bind fun u270 =>
      some (v267, u270)
  else
  some ((-1), u)

set_option maxRecDepth 10000 in
set_option maxHeartbeats 4000000 in
theorem ev_T_add_30 {sc : mg_Sc} {c z : Nat} {fL : Nat → Int64} {fD : Nat → UInt64} {u : mg_Rg} {p : Int32 × mg_Rg} (h : T_add_30 u = some p) : mg_Ev sc 1 187 0 (mg_entry 187 [.ref 31]) [] (hp u fL fD, c, z) (.inl (some (.int p.1)), (hp p.2 fL fD, c, z)) := by
  unfold T_add_30 at h
  show mg_Ev _ _ _ 0 [some (.ref 31), none, none] [] _ _
  refine mg_Ev.go 1 (pc' := 1) (loc' := [some (.ref 31), none, none]) (st' := [.ref 31]) (w' := (hp u fL fD, c, z)) rfl ?_
  obtain ⟨v267, hf2174, h⟩ := Option.bind_eq_some_iff.mp h
  refine mg_Ev.call (y := 181) (as := [.ref 31]) (rest := []) (v := some (.int v267)) (w1 := (hp u fL fD, c, z)) rfl rfl (Nat.le_of_ble_eq_true rfl) ((ev_T_count_30 hf2174).deep (by decide)) ?_
  refine mg_Ev.go 4 (pc' := 10) (loc' := [some (.ref 31), some (.int v267), none]) (st' := [.int 4, .int v267]) (w' := (hp u fL fD, c, z)) rfl ?_
  refine mg_Ev.br (P := v267 < 4) (t := 15) (nx := 13) (st' := []) rfl rfl rfl rfl (fun hc2175 => ?_) (fun hc2175 => ?_)
  · rw [if_pos hc2175] at h
    refine mg_Ev.go 2 (pc' := 17) (loc' := [some (.ref 31), some (.int v267), some (.int 0)]) (st' := []) (w' := (hp u fL fD, c, z)) rfl ?_
    obtain ⟨u269, hl2176, h⟩ := Option.bind_eq_some_iff.mp h
    try dsimp only at h
    refine mg_Ev.more (loc := [some (.ref 31), some (.int v267), some (.int 0)]) (ev_T_add_30_L17 _ _ _ _ _ hl2176 _ ?_) ⟨rfl, ⟨rfl, ⟨rfl, trivial⟩⟩⟩
    show mg_Ev _ _ _ 38 [some (.ref 31), some (.int v267), none] [] (hp u269 fL fD, c, z) _
    refine mg_Ev.go 4 (pc' := 42) (loc' := [some (.ref 31), some (.int v267), none]) (st' := [.int (v267 + 1), .ref 31]) (w' := (hp u269 fL fD, c, z)) rfl ?_
    obtain ⟨u270, hf2177, h⟩ := Option.bind_eq_some_iff.mp h
    refine mg_Ev.call (y := 193) (as := [.ref 31, .int (v267 + 1)]) (rest := []) (v := none) (w1 := (hp u270 fL fD, c, z)) rfl rfl (Nat.le_of_ble_eq_true rfl) ((ev_T_setCount_30 hf2177).deep (by decide)) ?_
    refine mg_Ev.go 1 (pc' := 46) (loc' := [some (.ref 31), some (.int v267), none]) (st' := [.int v267]) (w' := (hp u270 fL fD, c, z)) rfl ?_
    cases h
    exact mg_Ev.fin rfl rfl rfl
  · rw [if_neg hc2175] at h
    refine mg_Ev.go 1 (pc' := 14) (loc' := [some (.ref 31), some (.int v267), none]) (st' := [.int (-1)]) (w' := (hp u fL fD, c, z)) rfl ?_
    cases h
    exact mg_Ev.fin rfl rfl rfl

def P_addPart_29 (a0 : Int32) (a1 : Int32) (u : mg_Rg) : Option (mg_Rg) :=
  (T_add_30 u).bind fun p273 => match p273 with
  | (v271, u272) =>
    (T_put_30 v271 0 a0 u272).bind fun u274 =>
    (T_put_30 v271 1 a1 u274).bind fun u275 =>
    some u275

set_option maxRecDepth 10000 in
set_option maxHeartbeats 4000000 in
theorem ev_P_addPart_29 {sc : mg_Sc} {c z : Nat} {fL : Nat → Int64} {fD : Nat → UInt64} {a0 : Int32} {a1 : Int32} {u : mg_Rg} {v : mg_Rg} (h : P_addPart_29 a0 a1 u = some v) : mg_Ev sc 2 176 0 (mg_entry 176 [.ref 30, .int a0, .int a1]) [] (hp u fL fD, c, z) (.inl none, (hp v fL fD, c, z)) := by
  unfold P_addPart_29 at h
  show mg_Ev _ _ _ 0 [some (.ref 30), some (.int a0), some (.int a1), none] [] _ _
  refine mg_Ev.go 2 (pc' := 4) (loc' := [some (.ref 30), some (.int a0), some (.int a1), none]) (st' := [.ref 31]) (w' := (hp u fL fD, c, z)) rfl ?_
  obtain ⟨⟨v271, u272⟩, hf2178, h⟩ := Option.bind_eq_some_iff.mp h
  try dsimp only at h
  refine mg_Ev.call (y := 187) (as := [.ref 31]) (rest := []) (v := some (.int v271)) (w1 := (hp u272 fL fD, c, z)) rfl rfl (Nat.le_of_ble_eq_true rfl) ((ev_T_add_30 hf2178).deep (by decide)) ?_
  refine mg_Ev.go 6 (pc' := 15) (loc' := [some (.ref 30), some (.int a0), some (.int a1), some (.int v271)]) (st' := [.int a0, .int 0, .int v271, .ref 31]) (w' := (hp u272 fL fD, c, z)) rfl ?_
  obtain ⟨u274, hf2179, h⟩ := Option.bind_eq_some_iff.mp h
  refine mg_Ev.call (y := 185) (as := [.ref 31, .int v271, .int 0, .int a0]) (rest := []) (v := none) (w1 := (hp u274 fL fD, c, z)) rfl rfl (Nat.le_of_ble_eq_true rfl) ((ev_T_put_30 hf2179).deep (by decide)) ?_
  refine mg_Ev.go 5 (pc' := 25) (loc' := [some (.ref 30), some (.int a0), some (.int a1), some (.int v271)]) (st' := [.int a1, .int 1, .int v271, .ref 31]) (w' := (hp u274 fL fD, c, z)) rfl ?_
  obtain ⟨u275, hf2180, h⟩ := Option.bind_eq_some_iff.mp h
  refine mg_Ev.call (y := 185) (as := [.ref 31, .int v271, .int 1, .int a1]) (rest := []) (v := none) (w1 := (hp u275 fL fD, c, z)) rfl rfl (Nat.le_of_ble_eq_true rfl) ((ev_T_put_30 hf2180).deep (by decide)) ?_
  cases h
  exact mg_Ev.fin rfl rfl rfl

def C_part (a0 : Int32) (a1 : Int32) (u : mg_Rg) : Option ((Int32 ⊕ Nat) × mg_Rg) :=
  (C_requireCountry a0 u).bind fun p260 => match p260 with
  | (.inr ee, u262) => some (.inr ee, u262)
  | (.inl _, u262) =>
    (C_isWithin a1 1 9999 u262).bind fun v263 =>
    if v263 = 0 then
    some (.inr 1, u262)
    else
    (T_isFull_30 u262).bind fun v265 =>
      if v265 = 0 then
      (C_keepForUndo u262).bind fun u266 =>
        (P_addPart_29 a0 a1 u266).bind fun u276 =>
        (T_count_30 u276).bind fun v277 =>
        some (.inl v277, u276)
      else
      some (.inr 2, u262)

set_option maxRecDepth 10000 in
set_option maxHeartbeats 4000000 in
theorem ev_C_part {sc : mg_Sc} {c z : Nat} {fL : Nat → Int64} {fD : Nat → UInt64} {a0 : Int32} {a1 : Int32} {u : mg_Rg} {p : (Int32 ⊕ Nat) × mg_Rg} (h : C_part a0 a1 u = some p) : mg_Ev sc 6 14 0 (mg_entry 14 [.ref 1, .int a0, .int a1]) [] (hp u fL fD, c, z) (xri p.1, xw p.1 (hp p.2 fL fD) c z) := by
  unfold C_part at h
  show mg_Ev _ _ _ 0 [some (.ref 1), some (.int a0), some (.int a1)] [] _ _
  refine mg_Ev.go 2 (pc' := 2) (loc' := [some (.ref 1), some (.int a0), some (.int a1)]) (st' := [.int a0, .ref 1]) (w' := (hp u fL fD, c, z)) rfl ?_
  obtain ⟨⟨⟨⟩ | ee, u262⟩, hf2181, h⟩ := Option.bind_eq_some_iff.mp h
  · try dsimp only at h
    refine mg_Ev.call (y := 42) (as := [.ref 1, .int a0]) (rest := []) (v := none) (w1 := (hp u262 fL fD, c, z)) rfl rfl (Nat.le_of_ble_eq_true rfl) ((ev_C_requireCountry hf2181).deep (by decide)) ?_
    refine mg_Ev.go 3 (pc' := 10) (loc' := [some (.ref 1), some (.int a0), some (.int a1)]) (st' := [.int 9999, .int 1, .int a1]) (w' := (hp u262 fL fD, c, z)) rfl ?_
    obtain ⟨v263, hf2182, h⟩ := Option.bind_eq_some_iff.mp h
    refine mg_Ev.call (y := 54) (as := [.int a1, .int 1, .int 9999]) (rest := []) (v := some (.int v263)) (w1 := (hp u262 fL fD, c, z)) rfl rfl (Nat.le_of_ble_eq_true rfl) ((ev_C_isWithin hf2182).deep (by decide)) ?_
    refine mg_Ev.br (P := v263 = 0) (t := 16) (nx := 26) (st' := []) rfl rfl rfl rfl (fun hc2183 => ?_) (fun hc2183 => ?_)
    · rw [if_pos hc2183] at h
      cases h
      exact mg_Ev.fin rfl rfl rfl
    · rw [if_neg hc2183] at h
      refine mg_Ev.go 3 (pc' := 33) (loc' := [some (.ref 1), some (.int a0), some (.int a1)]) (st' := [.ref 31]) (w' := (hp u262 fL fD, c, z)) rfl ?_
      obtain ⟨v265, hf2184, h⟩ := Option.bind_eq_some_iff.mp h
      refine mg_Ev.call (y := 183) (as := [.ref 31]) (rest := []) (v := some (.int v265)) (w1 := (hp u262 fL fD, c, z)) rfl rfl (Nat.le_of_ble_eq_true rfl) ((ev_T_isFull_30 hf2184).deep (by decide)) ?_
      refine mg_Ev.br (P := v265 = 0) (t := 49) (nx := 39) (st' := []) rfl rfl rfl rfl (fun hc2185 => ?_) (fun hc2185 => ?_)
      · rw [if_pos hc2185] at h
        refine mg_Ev.go 1 (pc' := 50) (loc' := [some (.ref 1), some (.int a0), some (.int a1)]) (st' := [.ref 1]) (w' := (hp u262 fL fD, c, z)) rfl ?_
        obtain ⟨u266, hf2186, h⟩ := Option.bind_eq_some_iff.mp h
        refine mg_Ev.call (y := 38) (as := [.ref 1]) (rest := []) (v := none) (w1 := (hp u266 fL fD, c, z)) rfl rfl (Nat.le_of_ble_eq_true rfl) ((ev_C_keepForUndo hf2186).deep (by decide)) ?_
        refine mg_Ev.go 4 (pc' := 59) (loc' := [some (.ref 1), some (.int a0), some (.int a1)]) (st' := [.int a1, .int a0, .ref 30]) (w' := (hp u266 fL fD, c, z)) rfl ?_
        obtain ⟨u276, hf2187, h⟩ := Option.bind_eq_some_iff.mp h
        refine mg_Ev.call (y := 176) (as := [.ref 30, .int a0, .int a1]) (rest := []) (v := none) (w1 := (hp u276 fL fD, c, z)) rfl rfl (Nat.le_of_ble_eq_true rfl) ((ev_P_addPart_29 hf2187).deep (by decide)) ?_
        refine mg_Ev.go 3 (pc' := 69) (loc' := [some (.ref 1), some (.int a0), some (.int a1)]) (st' := [.ref 31]) (w' := (hp u276 fL fD, c, z)) rfl ?_
        obtain ⟨v277, hf2188, h⟩ := Option.bind_eq_some_iff.mp h
        refine mg_Ev.call (y := 181) (as := [.ref 31]) (rest := []) (v := some (.int v277)) (w1 := (hp u276 fL fD, c, z)) rfl rfl (Nat.le_of_ble_eq_true rfl) ((ev_T_count_30 hf2188).deep (by decide)) ?_
        cases h
        exact mg_Ev.fin rfl rfl rfl
      · rw [if_neg hc2185] at h
        cases h
        exact mg_Ev.fin rfl rfl rfl
  · cases h
    exact mg_Ev.callX (y := 42) (as := [.ref 1, .int a0]) (rest := []) rfl rfl (Nat.le_of_ble_eq_true rfl) ((ev_C_requireCountry hf2181).deep (by decide)) rfl

def T_clear_30 (u : mg_Rg) : Option (mg_Rg) :=
  (T_setCount_30 0 u).bind fun u280 =>
  some u280

set_option maxRecDepth 10000 in
set_option maxHeartbeats 4000000 in
theorem ev_T_clear_30 {sc : mg_Sc} {c z : Nat} {fL : Nat → Int64} {fD : Nat → UInt64} {u : mg_Rg} {v : mg_Rg} (h : T_clear_30 u = some v) : mg_Ev sc 1 189 0 (mg_entry 189 [.ref 31]) [] (hp u fL fD, c, z) (.inl none, (hp v fL fD, c, z)) := by
  unfold T_clear_30 at h
  show mg_Ev _ _ _ 0 [some (.ref 31)] [] _ _
  refine mg_Ev.go 2 (pc' := 2) (loc' := [some (.ref 31)]) (st' := [.int 0, .ref 31]) (w' := (hp u fL fD, c, z)) rfl ?_
  obtain ⟨u280, hf2189, h⟩ := Option.bind_eq_some_iff.mp h
  refine mg_Ev.call (y := 193) (as := [.ref 31, .int 0]) (rest := []) (v := none) (w1 := (hp u280 fL fD, c, z)) rfl rfl (Nat.le_of_ble_eq_true rfl) ((ev_T_setCount_30 hf2189).deep (by decide)) ?_
  cases h
  exact mg_Ev.fin rfl rfl rfl

def C_forget (u : mg_Rg) : Option (Int32 × mg_Rg) :=
  (C_keepForUndo u).bind fun u278 =>
  (T_count_30 u278).bind fun v279 =>
  (T_clear_30 u278).bind fun u281 =>
  some (v279, u281)

set_option maxRecDepth 10000 in
set_option maxHeartbeats 4000000 in
theorem ev_C_forget {sc : mg_Sc} {c z : Nat} {fL : Nat → Int64} {fD : Nat → UInt64} {u : mg_Rg} {p : Int32 × mg_Rg} (h : C_forget u = some p) : mg_Ev sc 6 15 0 (mg_entry 15 [.ref 1]) [] (hp u fL fD, c, z) (.inl (some (.int p.1)), (hp p.2 fL fD, c, z)) := by
  unfold C_forget at h
  show mg_Ev _ _ _ 0 [some (.ref 1), none] [] _ _
  refine mg_Ev.go 1 (pc' := 1) (loc' := [some (.ref 1), none]) (st' := [.ref 1]) (w' := (hp u fL fD, c, z)) rfl ?_
  obtain ⟨u278, hf2190, h⟩ := Option.bind_eq_some_iff.mp h
  refine mg_Ev.call (y := 38) (as := [.ref 1]) (rest := []) (v := none) (w1 := (hp u278 fL fD, c, z)) rfl rfl (Nat.le_of_ble_eq_true rfl) ((ev_C_keepForUndo hf2190).deep (by decide)) ?_
  refine mg_Ev.go 3 (pc' := 11) (loc' := [some (.ref 1), none]) (st' := [.ref 31]) (w' := (hp u278 fL fD, c, z)) rfl ?_
  obtain ⟨v279, hf2191, h⟩ := Option.bind_eq_some_iff.mp h
  refine mg_Ev.call (y := 181) (as := [.ref 31]) (rest := []) (v := some (.int v279)) (w1 := (hp u278 fL fD, c, z)) rfl rfl (Nat.le_of_ble_eq_true rfl) ((ev_T_count_30 hf2191).deep (by decide)) ?_
  refine mg_Ev.go 4 (pc' := 22) (loc' := [some (.ref 1), some (.int v279)]) (st' := [.ref 31]) (w' := (hp u278 fL fD, c, z)) rfl ?_
  obtain ⟨u281, hf2192, h⟩ := Option.bind_eq_some_iff.mp h
  refine mg_Ev.call (y := 189) (as := [.ref 31]) (rest := []) (v := none) (w1 := (hp u281 fL fD, c, z)) rfl rfl (Nat.le_of_ble_eq_true rfl) ((ev_T_clear_30 hf2192).deep (by decide)) ?_
  refine mg_Ev.go 1 (pc' := 26) (loc' := [some (.ref 1), some (.int v279)]) (st' := [.int v279]) (w' := (hp u281 fL fD, c, z)) rfl ?_
  cases h
  exact mg_Ev.fin rfl rfl rfl

def T_get_30 (a0 : Int32) (a1 : Int32) (u : mg_Rg) : Option (Int32) :=
  if a0 < 0 then
  some 0
  else
  if 4 ≤ a0 then
    some 0
    else
    if a1 < 0 then
      some 0
      else
      if a1 < 2 then
        if ((1 + (a0 * 2)) + a1) < 0 then
          some 0
          else
          if 9 ≤ ((1 + (a0 * 2)) + a1) then
            some 0
            else
            if ((1 + (a0 * 2)) + a1) < 0 ∨ 9 ≤ ((1 + (a0 * 2)) + a1).toNatClampNeg then none else
              some (u 31 (((1 + (a0 * 2)) + a1).toNatClampNeg))
        else
        some 0

set_option maxRecDepth 10000 in
set_option maxHeartbeats 4000000 in
theorem ev_T_get_30 {sc : mg_Sc} {c z : Nat} {fL : Nat → Int64} {fD : Nat → UInt64} {a0 : Int32} {a1 : Int32} {u : mg_Rg} {v : Int32} (h : T_get_30 a0 a1 u = some v) : mg_Ev sc 0 184 0 (mg_entry 184 [.ref 31, .int a0, .int a1]) [] (hp u fL fD, c, z) (.inl (some (.int v)), (hp u fL fD, c, z)) := by
  unfold T_get_30 at h
  show mg_Ev _ _ _ 0 [some (.ref 31), some (.int a0), some (.int a1), none] [] _ _
  refine mg_Ev.go 1 (pc' := 1) (loc' := [some (.ref 31), some (.int a0), some (.int a1), none]) (st' := [.int a0]) (w' := (hp u fL fD, c, z)) rfl ?_
  refine mg_Ev.br (P := a0 < 0) (t := 24) (nx := 4) (st' := []) rfl rfl rfl rfl (fun hc2193 => ?_) (fun hc2193 => ?_)
  · rw [if_pos hc2193] at h
    refine mg_Ev.go 1 (pc' := 25) (loc' := [some (.ref 31), some (.int a0), some (.int a1), none]) (st' := [.int 0]) (w' := (hp u fL fD, c, z)) rfl ?_
    cases h
    exact mg_Ev.fin rfl rfl rfl
  · rw [if_neg hc2193] at h
    refine mg_Ev.go 3 (pc' := 9) (loc' := [some (.ref 31), some (.int a0), some (.int a1), none]) (st' := [.int 4, .int a0]) (w' := (hp u fL fD, c, z)) rfl ?_
    refine mg_Ev.br (P := 4 ≤ a0) (t := 24) (nx := 12) (st' := []) rfl rfl rfl rfl (fun hc2194 => ?_) (fun hc2194 => ?_)
    · rw [if_pos hc2194] at h
      refine mg_Ev.go 1 (pc' := 25) (loc' := [some (.ref 31), some (.int a0), some (.int a1), none]) (st' := [.int 0]) (w' := (hp u fL fD, c, z)) rfl ?_
      cases h
      exact mg_Ev.fin rfl rfl rfl
    · rw [if_neg hc2194] at h
      refine mg_Ev.go 1 (pc' := 13) (loc' := [some (.ref 31), some (.int a0), some (.int a1), none]) (st' := [.int a1]) (w' := (hp u fL fD, c, z)) rfl ?_
      refine mg_Ev.br (P := a1 < 0) (t := 24) (nx := 16) (st' := []) rfl rfl rfl rfl (fun hc2195 => ?_) (fun hc2195 => ?_)
      · rw [if_pos hc2195] at h
        refine mg_Ev.go 1 (pc' := 25) (loc' := [some (.ref 31), some (.int a0), some (.int a1), none]) (st' := [.int 0]) (w' := (hp u fL fD, c, z)) rfl ?_
        cases h
        exact mg_Ev.fin rfl rfl rfl
      · rw [if_neg hc2195] at h
        refine mg_Ev.go 3 (pc' := 21) (loc' := [some (.ref 31), some (.int a0), some (.int a1), none]) (st' := [.int 2, .int a1]) (w' := (hp u fL fD, c, z)) rfl ?_
        refine mg_Ev.br (P := a1 < 2) (t := 26) (nx := 24) (st' := []) rfl rfl rfl rfl (fun hc2196 => ?_) (fun hc2196 => ?_)
        · rw [if_pos hc2196] at h
          refine mg_Ev.go 10 (pc' := 38) (loc' := [some (.ref 31), some (.int a0), some (.int a1), some (.int ((1 + (a0 * 2)) + a1))]) (st' := [.int ((1 + (a0 * 2)) + a1)]) (w' := (hp u fL fD, c, z)) rfl ?_
          refine mg_Ev.br (P := ((1 + (a0 * 2)) + a1) < 0) (t := 59) (nx := 41) (st' := []) rfl rfl rfl rfl (fun hc2197 => ?_) (fun hc2197 => ?_)
          · rw [if_pos hc2197] at h
            refine mg_Ev.go 1 (pc' := 60) (loc' := [some (.ref 31), some (.int a0), some (.int a1), some (.int ((1 + (a0 * 2)) + a1))]) (st' := [.int 0]) (w' := (hp u fL fD, c, z)) rfl ?_
            cases h
            exact mg_Ev.fin rfl rfl rfl
          · rw [if_neg hc2197] at h
            refine mg_Ev.go 4 (pc' := 47) (loc' := [some (.ref 31), some (.int a0), some (.int a1), some (.int ((1 + (a0 * 2)) + a1))]) (st' := [.int 9, .int ((1 + (a0 * 2)) + a1)]) (w' := (hp u fL fD, c, z)) rfl ?_
            refine mg_Ev.br (P := 9 ≤ ((1 + (a0 * 2)) + a1)) (t := 59) (nx := 50) (st' := []) rfl rfl rfl rfl (fun hc2198 => ?_) (fun hc2198 => ?_)
            · rw [if_pos hc2198] at h
              refine mg_Ev.go 1 (pc' := 60) (loc' := [some (.ref 31), some (.int a0), some (.int a1), some (.int ((1 + (a0 * 2)) + a1))]) (st' := [.int 0]) (w' := (hp u fL fD, c, z)) rfl ?_
              cases h
              exact mg_Ev.fin rfl rfl rfl
            · rw [if_neg hc2198] at h
              refine mg_Ev.go 3 (pc' := 55) (loc' := [some (.ref 31), some (.int a0), some (.int a1), some (.int ((1 + (a0 * 2)) + a1))]) (st' := [.int ((1 + (a0 * 2)) + a1), .ref 32]) (w' := (hp u fL fD, c, z)) rfl ?_
              by_cases hb2199 : ((1 + (a0 * 2)) + a1) < 0 ∨ 9 ≤ ((1 + (a0 * 2)) + a1).toNatClampNeg
              · rw [if_pos hb2199] at h
                cases h
              · rw [if_neg hb2199] at h
                refine mg_Ev.iald (a := 31) (n := 9) (f := u 31) rfl (hpg_31 _ _ _) rfl hb2199 ?_
                refine mg_Ev.go 1 (pc' := 60) (loc' := [some (.ref 31), some (.int a0), some (.int a1), some (.int ((1 + (a0 * 2)) + a1))]) (st' := [.int (u 31 (((1 + (a0 * 2)) + a1).toNatClampNeg))]) (w' := (hp u fL fD, c, z)) rfl ?_
                cases h
                exact mg_Ev.fin rfl rfl rfl
        · rw [if_neg hc2196] at h
          refine mg_Ev.go 1 (pc' := 25) (loc' := [some (.ref 31), some (.int a0), some (.int a1), none]) (st' := [.int 0]) (w' := (hp u fL fD, c, z)) rfl ?_
          cases h
          exact mg_Ev.fin rfl rfl rfl

def P_wholeValue_29_L4 : Nat → Int32 → Int32 → mg_Rg → Option (Int32)
  | 0, _, _, _ => none
  | n + 1, x1, x2, u =>
    (T_count_30 u).bind fun v284 =>
    if v284 ≤ x2 then
    some (x1)
    else
    (T_get_30 x2 1 u).bind fun v285 =>
      P_wholeValue_29_L4 n (x1 + v285) (x2 + 1) u
set_option maxRecDepth 10000 in
set_option maxHeartbeats 4000000 in
theorem ev_P_wholeValue_29_L4 {sc : mg_Sc} {c z : Nat} {fL : Nat → Int64} {fD : Nat → UInt64} : ∀ (n : Nat) (x1 : Int32) (x2 : Int32) (u : mg_Rg) (res : Int32), P_wholeValue_29_L4 n x1 x2 u = some res → ∀ r, (match res with | y1 => mg_Ev sc 1 177 33 [none, some (.int y1), none] [] (hp u fL fD, c, z) r) → mg_Ev sc 1 177 4 [some (.ref 30), some (.int x1), some (.int x2)] [] (hp u fL fD, c, z) r := by
  intro n
  induction n with
  | zero => intro x1 x2 u res h; cases h
  | succ n ih =>
    intro x1 x2 u res h r K
    unfold P_wholeValue_29_L4 at h
    refine mg_Ev.go 3 (pc' := 9) (loc' := [some (.ref 30), some (.int x1), some (.int x2)]) (st' := [.ref 31, .int x2]) (w' := (hp u fL fD, c, z)) rfl ?_
    obtain ⟨v284, hf2200, h⟩ := Option.bind_eq_some_iff.mp h
    refine mg_Ev.call (y := 181) (as := [.ref 31]) (rest := [.int x2]) (v := some (.int v284)) (w1 := (hp u fL fD, c, z)) rfl rfl (Nat.le_of_ble_eq_true rfl) ((ev_T_count_30 hf2200).deep (by decide)) ?_
    refine mg_Ev.br (P := v284 ≤ x2) (t := 33) (nx := 15) (st' := []) rfl rfl rfl rfl (fun hc2201 => ?_) (fun hc2201 => ?_)
    · rw [if_pos hc2201] at h
      cases h
      exact mg_Ev.more (loc := [none, some (.int x1), none]) K ⟨rfl, trivial⟩
    · rw [if_neg hc2201] at h
      refine mg_Ev.go 5 (pc' := 22) (loc' := [some (.ref 30), some (.int x1), some (.int x2)]) (st' := [.int 1, .int x2, .ref 31, .int x1]) (w' := (hp u fL fD, c, z)) rfl ?_
      obtain ⟨v285, hf2202, h⟩ := Option.bind_eq_some_iff.mp h
      refine mg_Ev.call (y := 184) (as := [.ref 31, .int x2, .int 1]) (rest := [.int x1]) (v := some (.int v285)) (w1 := (hp u fL fD, c, z)) rfl rfl (Nat.le_of_ble_eq_true rfl) ((ev_T_get_30 hf2202).deep (by decide)) ?_
      refine mg_Ev.go 4 (pc' := 4) (loc' := [some (.ref 30), some (.int (x1 + v285)), some (.int (x2 + 1))]) (st' := []) (w' := (hp u fL fD, c, z)) rfl ?_
      exact mg_Ev.more (loc := [some (.ref 30), some (.int (x1 + v285)), some (.int (x2 + 1))]) (ih _ _ _ _ h _ K) ⟨rfl, ⟨rfl, ⟨rfl, trivial⟩⟩⟩

def P_wholeValue_29 (u : mg_Rg) : Option (Int32) :=
  (P_wholeValue_29_L4 mg_F 0 0 u).bind fun q2203 => match q2203 with
  | x286 =>
    some x286

set_option maxRecDepth 10000 in
set_option maxHeartbeats 4000000 in
theorem ev_P_wholeValue_29 {sc : mg_Sc} {c z : Nat} {fL : Nat → Int64} {fD : Nat → UInt64} {u : mg_Rg} {v : Int32} (h : P_wholeValue_29 u = some v) : mg_Ev sc 1 177 0 (mg_entry 177 [.ref 30]) [] (hp u fL fD, c, z) (.inl (some (.int v)), (hp u fL fD, c, z)) := by
  unfold P_wholeValue_29 at h
  show mg_Ev _ _ _ 0 [some (.ref 30), none, none] [] _ _
  refine mg_Ev.go 4 (pc' := 4) (loc' := [some (.ref 30), some (.int 0), some (.int 0)]) (st' := []) (w' := (hp u fL fD, c, z)) rfl ?_
  obtain ⟨x286, hl2204, h⟩ := Option.bind_eq_some_iff.mp h
  try dsimp only at h
  refine mg_Ev.more (loc := [some (.ref 30), some (.int 0), some (.int 0)]) (ev_P_wholeValue_29_L4 _ _ _ _ _ hl2204 _ ?_) ⟨rfl, ⟨rfl, ⟨rfl, trivial⟩⟩⟩
  show mg_Ev _ _ _ 33 [none, some (.int x286), none] [] (hp u fL fD, c, z) _
  refine mg_Ev.go 1 (pc' := 34) (loc' := [none, some (.int x286), none]) (st' := [.int x286]) (w' := (hp u fL fD, c, z)) rfl ?_
  cases h
  exact mg_Ev.fin rfl rfl rfl

def P_amountOf_29_L4 : Nat → Int32 → Int32 → Int32 → mg_Rg → Option (Int32)
  | 0, _, _, _, _ => none
  | n + 1, x1, x2, x3, u =>
    (T_count_30 u).bind fun v290 =>
    if v290 ≤ x3 then
    some (x2)
    else
    (T_get_30 x3 0 u).bind fun v291 =>
      if v291 = x1 then
      (T_get_30 x3 1 u).bind fun v292 =>
        P_amountOf_29_L4 n x1 (x2 + v292) (x3 + 1) u
      else
      P_amountOf_29_L4 n x1 x2 (x3 + 1) u
set_option maxRecDepth 10000 in
set_option maxHeartbeats 4000000 in
theorem ev_P_amountOf_29_L4 {sc : mg_Sc} {c z : Nat} {fL : Nat → Int64} {fD : Nat → UInt64} : ∀ (n : Nat) (x1 : Int32) (x2 : Int32) (x3 : Int32) (u : mg_Rg) (res : Int32), P_amountOf_29_L4 n x1 x2 x3 u = some res → ∀ r, (match res with | y2 => mg_Ev sc 1 178 46 [none, none, some (.int y2), none] [] (hp u fL fD, c, z) r) → mg_Ev sc 1 178 4 [some (.ref 30), some (.int x1), some (.int x2), some (.int x3)] [] (hp u fL fD, c, z) r := by
  intro n
  induction n with
  | zero => intro x1 x2 x3 u res h; cases h
  | succ n ih =>
    intro x1 x2 x3 u res h r K
    unfold P_amountOf_29_L4 at h
    refine mg_Ev.go 3 (pc' := 9) (loc' := [some (.ref 30), some (.int x1), some (.int x2), some (.int x3)]) (st' := [.ref 31, .int x3]) (w' := (hp u fL fD, c, z)) rfl ?_
    obtain ⟨v290, hf2205, h⟩ := Option.bind_eq_some_iff.mp h
    refine mg_Ev.call (y := 181) (as := [.ref 31]) (rest := [.int x3]) (v := some (.int v290)) (w1 := (hp u fL fD, c, z)) rfl rfl (Nat.le_of_ble_eq_true rfl) ((ev_T_count_30 hf2205).deep (by decide)) ?_
    refine mg_Ev.br (P := v290 ≤ x3) (t := 46) (nx := 15) (st' := []) rfl rfl rfl rfl (fun hc2206 => ?_) (fun hc2206 => ?_)
    · rw [if_pos hc2206] at h
      cases h
      exact mg_Ev.more (loc := [none, none, some (.int x2), none]) K ⟨rfl, trivial⟩
    · rw [if_neg hc2206] at h
      refine mg_Ev.go 4 (pc' := 21) (loc' := [some (.ref 30), some (.int x1), some (.int x2), some (.int x3)]) (st' := [.int 0, .int x3, .ref 31]) (w' := (hp u fL fD, c, z)) rfl ?_
      obtain ⟨v291, hf2207, h⟩ := Option.bind_eq_some_iff.mp h
      refine mg_Ev.call (y := 184) (as := [.ref 31, .int x3, .int 0]) (rest := []) (v := some (.int v291)) (w1 := (hp u fL fD, c, z)) rfl rfl (Nat.le_of_ble_eq_true rfl) ((ev_T_get_30 hf2207).deep (by decide)) ?_
      refine mg_Ev.go 1 (pc' := 25) (loc' := [some (.ref 30), some (.int x1), some (.int x2), some (.int x3)]) (st' := [.int x1, .int v291]) (w' := (hp u fL fD, c, z)) rfl ?_
      refine mg_Ev.br (P := v291 = x1) (t := 28) (nx := 40) (st' := []) rfl rfl rfl rfl (fun hc2208 => ?_) (fun hc2208 => ?_)
      · rw [if_pos hc2208] at h
        refine mg_Ev.go 5 (pc' := 35) (loc' := [some (.ref 30), some (.int x1), some (.int x2), some (.int x3)]) (st' := [.int 1, .int x3, .ref 31, .int x2]) (w' := (hp u fL fD, c, z)) rfl ?_
        obtain ⟨v292, hf2209, h⟩ := Option.bind_eq_some_iff.mp h
        refine mg_Ev.call (y := 184) (as := [.ref 31, .int x3, .int 1]) (rest := [.int x2]) (v := some (.int v292)) (w1 := (hp u fL fD, c, z)) rfl rfl (Nat.le_of_ble_eq_true rfl) ((ev_T_get_30 hf2209).deep (by decide)) ?_
        refine mg_Ev.go 4 (pc' := 4) (loc' := [some (.ref 30), some (.int x1), some (.int (x2 + v292)), some (.int (x3 + 1))]) (st' := []) (w' := (hp u fL fD, c, z)) rfl ?_
        exact mg_Ev.more (loc := [some (.ref 30), some (.int x1), some (.int (x2 + v292)), some (.int (x3 + 1))]) (ih _ _ _ _ _ h _ K) ⟨rfl, ⟨rfl, ⟨rfl, ⟨rfl, trivial⟩⟩⟩⟩
      · rw [if_neg hc2208] at h
        refine mg_Ev.go 2 (pc' := 4) (loc' := [some (.ref 30), some (.int x1), some (.int x2), some (.int (x3 + 1))]) (st' := []) (w' := (hp u fL fD, c, z)) rfl ?_
        exact mg_Ev.more (loc := [some (.ref 30), some (.int x1), some (.int x2), some (.int (x3 + 1))]) (ih _ _ _ _ _ h _ K) ⟨rfl, ⟨rfl, ⟨rfl, ⟨rfl, trivial⟩⟩⟩⟩

def P_amountOf_29 (a0 : Int32) (u : mg_Rg) : Option (Int32) :=
  (P_amountOf_29_L4 mg_F a0 0 0 u).bind fun q2210 => match q2210 with
  | x293 =>
    some x293

set_option maxRecDepth 10000 in
set_option maxHeartbeats 4000000 in
theorem ev_P_amountOf_29 {sc : mg_Sc} {c z : Nat} {fL : Nat → Int64} {fD : Nat → UInt64} {a0 : Int32} {u : mg_Rg} {v : Int32} (h : P_amountOf_29 a0 u = some v) : mg_Ev sc 1 178 0 (mg_entry 178 [.ref 30, .int a0]) [] (hp u fL fD, c, z) (.inl (some (.int v)), (hp u fL fD, c, z)) := by
  unfold P_amountOf_29 at h
  show mg_Ev _ _ _ 0 [some (.ref 30), some (.int a0), none, none] [] _ _
  refine mg_Ev.go 4 (pc' := 4) (loc' := [some (.ref 30), some (.int a0), some (.int 0), some (.int 0)]) (st' := []) (w' := (hp u fL fD, c, z)) rfl ?_
  obtain ⟨x293, hl2211, h⟩ := Option.bind_eq_some_iff.mp h
  try dsimp only at h
  refine mg_Ev.more (loc := [some (.ref 30), some (.int a0), some (.int 0), some (.int 0)]) (ev_P_amountOf_29_L4 _ _ _ _ _ _ hl2211 _ ?_) ⟨rfl, ⟨rfl, ⟨rfl, ⟨rfl, trivial⟩⟩⟩⟩
  show mg_Ev _ _ _ 46 [none, none, some (.int x293), none] [] (hp u fL fD, c, z) _
  refine mg_Ev.go 1 (pc' := 47) (loc' := [none, none, some (.int x293), none]) (st' := [.int x293]) (w' := (hp u fL fD, c, z)) rfl ?_
  cases h
  exact mg_Ev.fin rfl rfl rfl

def P_originBy_29_L31 : Nat → Int32 → Int32 → Int32 → Int32 → mg_Rg → Option (Int32)
  | 0, _, _, _, _, _ => none
  | n + 1, x2, x3, x4, x5, u =>
    if 8 ≤ x5 then
    some (x4)
    else
    (P_amountOf_29 x5 u).bind fun v294 =>
      if v294 ≤ x3 then
      P_originBy_29_L31 n x2 x3 x4 (x5 + 1) u
      else
      if (v294 * 100) < x2 then
        P_originBy_29_L31 n x2 x3 x4 (x5 + 1) u
        else
        P_originBy_29_L31 n x2 v294 x5 (x5 + 1) u
set_option maxRecDepth 10000 in
set_option maxHeartbeats 4000000 in
theorem ev_P_originBy_29_L31 {sc : mg_Sc} {c z : Nat} {fL : Nat → Int64} {fD : Nat → UInt64} : ∀ (n : Nat) (x2 : Int32) (x3 : Int32) (x4 : Int32) (x5 : Int32) (u : mg_Rg) (res : Int32), P_originBy_29_L31 n x2 x3 x4 x5 u = some res → ∀ r, (match res with | y4 => mg_Ev sc 2 179 74 [none, none, none, none, some (.int y4), none, none] [] (hp u fL fD, c, z) r) → mg_Ev sc 2 179 31 [some (.ref 30), none, some (.int x2), some (.int x3), some (.int x4), some (.int x5), none] [] (hp u fL fD, c, z) r := by
  intro n
  induction n with
  | zero => intro x2 x3 x4 x5 u res h; cases h
  | succ n ih =>
    intro x2 x3 x4 x5 u res h r K
    unfold P_originBy_29_L31 at h
    refine mg_Ev.go 2 (pc' := 35) (loc' := [some (.ref 30), none, some (.int x2), some (.int x3), some (.int x4), some (.int x5), none]) (st' := [.int 8, .int x5]) (w' := (hp u fL fD, c, z)) rfl ?_
    refine mg_Ev.br (P := 8 ≤ x5) (t := 74) (nx := 38) (st' := []) rfl rfl rfl rfl (fun hc2212 => ?_) (fun hc2212 => ?_)
    · rw [if_pos hc2212] at h
      cases h
      exact mg_Ev.more (loc := [none, none, none, none, some (.int x4), none, none]) K ⟨rfl, trivial⟩
    · rw [if_neg hc2212] at h
      refine mg_Ev.go 2 (pc' := 41) (loc' := [some (.ref 30), none, some (.int x2), some (.int x3), some (.int x4), some (.int x5), none]) (st' := [.int x5, .ref 30]) (w' := (hp u fL fD, c, z)) rfl ?_
      obtain ⟨v294, hf2213, h⟩ := Option.bind_eq_some_iff.mp h
      refine mg_Ev.call (y := 178) (as := [.ref 30, .int x5]) (rest := []) (v := some (.int v294)) (w1 := (hp u fL fD, c, z)) rfl rfl (Nat.le_of_ble_eq_true rfl) ((ev_P_amountOf_29 hf2213).deep (by decide)) ?_
      refine mg_Ev.go 3 (pc' := 49) (loc' := [some (.ref 30), none, some (.int x2), some (.int x3), some (.int x4), some (.int x5), some (.int v294)]) (st' := [.int x3, .int v294]) (w' := (hp u fL fD, c, z)) rfl ?_
      refine mg_Ev.br (P := v294 ≤ x3) (t := 68) (nx := 52) (st' := []) rfl rfl rfl rfl (fun hc2214 => ?_) (fun hc2214 => ?_)
      · rw [if_pos hc2214] at h
        refine mg_Ev.go 2 (pc' := 31) (loc' := [some (.ref 30), none, some (.int x2), some (.int x3), some (.int x4), some (.int (x5 + 1)), some (.int v294)]) (st' := []) (w' := (hp u fL fD, c, z)) rfl ?_
        exact mg_Ev.more (loc := [some (.ref 30), none, some (.int x2), some (.int x3), some (.int x4), some (.int (x5 + 1)), none]) (ih _ _ _ _ _ _ h _ K) ⟨rfl, ⟨rfl, ⟨rfl, ⟨rfl, ⟨rfl, trivial⟩⟩⟩⟩⟩
      · rw [if_neg hc2214] at h
        refine mg_Ev.go 4 (pc' := 58) (loc' := [some (.ref 30), none, some (.int x2), some (.int x3), some (.int x4), some (.int x5), some (.int v294)]) (st' := [.int x2, .int (v294 * 100)]) (w' := (hp u fL fD, c, z)) rfl ?_
        refine mg_Ev.br (P := (v294 * 100) < x2) (t := 68) (nx := 61) (st' := []) rfl rfl rfl rfl (fun hc2215 => ?_) (fun hc2215 => ?_)
        · rw [if_pos hc2215] at h
          refine mg_Ev.go 2 (pc' := 31) (loc' := [some (.ref 30), none, some (.int x2), some (.int x3), some (.int x4), some (.int (x5 + 1)), some (.int v294)]) (st' := []) (w' := (hp u fL fD, c, z)) rfl ?_
          exact mg_Ev.more (loc := [some (.ref 30), none, some (.int x2), some (.int x3), some (.int x4), some (.int (x5 + 1)), none]) (ih _ _ _ _ _ _ h _ K) ⟨rfl, ⟨rfl, ⟨rfl, ⟨rfl, ⟨rfl, trivial⟩⟩⟩⟩⟩
        · rw [if_neg hc2215] at h
          refine mg_Ev.go 6 (pc' := 31) (loc' := [some (.ref 30), none, some (.int x2), some (.int v294), some (.int x5), some (.int (x5 + 1)), some (.int v294)]) (st' := []) (w' := (hp u fL fD, c, z)) rfl ?_
          exact mg_Ev.more (loc := [some (.ref 30), none, some (.int x2), some (.int v294), some (.int x5), some (.int (x5 + 1)), none]) (ih _ _ _ _ _ _ h _ K) ⟨rfl, ⟨rfl, ⟨rfl, ⟨rfl, ⟨rfl, trivial⟩⟩⟩⟩⟩

def P_originBy_29 (a0 : Int32) (u : mg_Rg) : Option (Int32) :=
  (P_wholeValue_29 u).bind fun v287 =>
  (T_count_30 u).bind fun v288 =>
  (T_get_30 (v288 - 1) 0 u).bind fun v289 =>
  (P_originBy_29_L31 mg_F (a0 * v287) 0 v289 0 u).bind fun q2216 => match q2216 with
  | x295 =>
    some x295

set_option maxRecDepth 10000 in
set_option maxHeartbeats 4000000 in
theorem ev_P_originBy_29 {sc : mg_Sc} {c z : Nat} {fL : Nat → Int64} {fD : Nat → UInt64} {a0 : Int32} {u : mg_Rg} {v : Int32} (h : P_originBy_29 a0 u = some v) : mg_Ev sc 2 179 0 (mg_entry 179 [.ref 30, .int a0]) [] (hp u fL fD, c, z) (.inl (some (.int v)), (hp u fL fD, c, z)) := by
  unfold P_originBy_29 at h
  show mg_Ev _ _ _ 0 [some (.ref 30), some (.int a0), none, none, none, none, none] [] _ _
  refine mg_Ev.go 2 (pc' := 2) (loc' := [some (.ref 30), some (.int a0), none, none, none, none, none]) (st' := [.ref 30, .int a0]) (w' := (hp u fL fD, c, z)) rfl ?_
  obtain ⟨v287, hf2217, h⟩ := Option.bind_eq_some_iff.mp h
  refine mg_Ev.call (y := 177) (as := [.ref 30]) (rest := [.int a0]) (v := some (.int v287)) (w1 := (hp u fL fD, c, z)) rfl rfl (Nat.le_of_ble_eq_true rfl) ((ev_P_wholeValue_29 hf2217).deep (by decide)) ?_
  refine mg_Ev.go 8 (pc' := 17) (loc' := [some (.ref 30), some (.int a0), some (.int (a0 * v287)), some (.int 0), none, none, none]) (st' := [.ref 31, .ref 31]) (w' := (hp u fL fD, c, z)) rfl ?_
  obtain ⟨v288, hf2218, h⟩ := Option.bind_eq_some_iff.mp h
  refine mg_Ev.call (y := 181) (as := [.ref 31]) (rest := [.ref 31]) (v := some (.int v288)) (w1 := (hp u fL fD, c, z)) rfl rfl (Nat.le_of_ble_eq_true rfl) ((ev_T_count_30 hf2218).deep (by decide)) ?_
  refine mg_Ev.go 3 (pc' := 23) (loc' := [some (.ref 30), some (.int a0), some (.int (a0 * v287)), some (.int 0), none, none, none]) (st' := [.int 0, .int (v288 - 1), .ref 31]) (w' := (hp u fL fD, c, z)) rfl ?_
  obtain ⟨v289, hf2219, h⟩ := Option.bind_eq_some_iff.mp h
  refine mg_Ev.call (y := 184) (as := [.ref 31, .int (v288 - 1), .int 0]) (rest := []) (v := some (.int v289)) (w1 := (hp u fL fD, c, z)) rfl rfl (Nat.le_of_ble_eq_true rfl) ((ev_T_get_30 hf2219).deep (by decide)) ?_
  refine mg_Ev.go 3 (pc' := 31) (loc' := [some (.ref 30), some (.int a0), some (.int (a0 * v287)), some (.int 0), some (.int v289), some (.int 0), none]) (st' := []) (w' := (hp u fL fD, c, z)) rfl ?_
  obtain ⟨x295, hl2220, h⟩ := Option.bind_eq_some_iff.mp h
  try dsimp only at h
  refine mg_Ev.more (loc := [some (.ref 30), none, some (.int (a0 * v287)), some (.int 0), some (.int v289), some (.int 0), none]) (ev_P_originBy_29_L31 _ _ _ _ _ _ _ hl2220 _ ?_) ⟨rfl, ⟨rfl, ⟨rfl, ⟨rfl, ⟨rfl, trivial⟩⟩⟩⟩⟩
  show mg_Ev _ _ _ 74 [none, none, none, none, some (.int x295), none, none] [] (hp u fL fD, c, z) _
  refine mg_Ev.go 1 (pc' := 76) (loc' := [none, none, none, none, some (.int x295), none, none]) (st' := [.int x295]) (w' := (hp u fL fD, c, z)) rfl ?_
  cases h
  exact mg_Ev.fin rfl rfl rfl

def C_origin (u : mg_Rg) : Option ((Int32 ⊕ Nat) × mg_Rg) :=
  (T_count_30 u).bind fun v282 =>
  if v282 = 0 then
  some (.inr 3, u)
  else
  (Tf_setting 0 u).bind fun v283 =>
    (P_originBy_29 v283 u).bind fun v296 =>
    some (.inl v296, u)

set_option maxRecDepth 10000 in
set_option maxHeartbeats 4000000 in
theorem ev_C_origin {sc : mg_Sc} {c z : Nat} {fL : Nat → Int64} {fD : Nat → UInt64} {u : mg_Rg} {p : (Int32 ⊕ Nat) × mg_Rg} (h : C_origin u = some p) : mg_Ev sc 3 16 0 (mg_entry 16 [.ref 1]) [] (hp u fL fD, c, z) (xri p.1, xw p.1 (hp p.2 fL fD) c z) := by
  unfold C_origin at h
  show mg_Ev _ _ _ 0 [some (.ref 1)] [] _ _
  refine mg_Ev.go 3 (pc' := 7) (loc' := [some (.ref 1)]) (st' := [.ref 31]) (w' := (hp u fL fD, c, z)) rfl ?_
  obtain ⟨v282, hf2221, h⟩ := Option.bind_eq_some_iff.mp h
  refine mg_Ev.call (y := 181) (as := [.ref 31]) (rest := []) (v := some (.int v282)) (w1 := (hp u fL fD, c, z)) rfl rfl (Nat.le_of_ble_eq_true rfl) ((ev_T_count_30 hf2221).deep (by decide)) ?_
  refine mg_Ev.br (P := v282 = 0) (t := 13) (nx := 23) (st' := []) rfl rfl rfl rfl (fun hc2222 => ?_) (fun hc2222 => ?_)
  · rw [if_pos hc2222] at h
    cases h
    exact mg_Ev.fin rfl rfl rfl
  · rw [if_neg hc2222] at h
    refine mg_Ev.go 5 (pc' := 32) (loc' := [some (.ref 1)]) (st' := [.int 0, .ref 3, .ref 30]) (w' := (hp u fL fD, c, z)) rfl ?_
    obtain ⟨v283, hf2223, h⟩ := Option.bind_eq_some_iff.mp h
    refine mg_Ev.call (y := 195) (as := [.ref 3, .int 0]) (rest := [.ref 30]) (v := some (.int v283)) (w1 := (hp u fL fD, c, z)) rfl rfl (Nat.le_of_ble_eq_true rfl) ((ev_Tf_setting hf2223).deep (by decide)) ?_
    obtain ⟨v296, hf2224, h⟩ := Option.bind_eq_some_iff.mp h
    refine mg_Ev.call (y := 179) (as := [.ref 30, .int v283]) (rest := []) (v := some (.int v296)) (w1 := (hp u fL fD, c, z)) rfl rfl (Nat.le_of_ble_eq_true rfl) ((ev_P_originBy_29 hf2224).deep (by decide)) ?_
    cases h
    exact mg_Ev.fin rfl rfl rfl

def T_count_25 (u : mg_Rg) : Option (Int32) :=
  some (u 26 0)

set_option maxRecDepth 10000 in
set_option maxHeartbeats 4000000 in
theorem ev_T_count_25 {sc : mg_Sc} {c z : Nat} {fL : Nat → Int64} {fD : Nat → UInt64} {u : mg_Rg} {v : Int32} (h : T_count_25 u = some v) : mg_Ev sc 0 181 0 (mg_entry 181 [.ref 26]) [] (hp u fL fD, c, z) (.inl (some (.int v)), (hp u fL fD, c, z)) := by
  unfold T_count_25 at h
  show mg_Ev _ _ _ 0 [some (.ref 26)] [] _ _
  refine mg_Ev.go 3 (pc' := 5) (loc' := [some (.ref 26)]) (st' := [.int 451]) (w' := (hp u fL fD, c, z)) rfl ?_
  refine mg_Ev.br (P := (451 : Int32) ≤ 0) (t := 17) (nx := 8) (st' := []) rfl rfl rfl rfl (fun q => absurd q (by decide)) (fun _ => ?_)
  refine mg_Ev.go 3 (pc' := 13) (loc' := [some (.ref 26)]) (st' := [.int 0, .ref 27]) (w' := (hp u fL fD, c, z)) rfl ?_
  refine mg_Ev.iald (a := 26) (n := 451) (f := u 26) (j := 0) rfl (hpg_26 _ _ _) (by decide) (by decide) ?_
  refine mg_Ev.go 1 (pc' := 18) (loc' := [some (.ref 26)]) (st' := [.int (u 26 0)]) (w' := (hp u fL fD, c, z)) rfl ?_
  cases h
  exact mg_Ev.fin rfl rfl rfl

def T_isFull_25 (u : mg_Rg) : Option (Int32) :=
  (T_count_25 u).bind fun v304 =>
  if v304 < 30 then
  some 0
  else
  some 1

set_option maxRecDepth 10000 in
set_option maxHeartbeats 4000000 in
theorem ev_T_isFull_25 {sc : mg_Sc} {c z : Nat} {fL : Nat → Int64} {fD : Nat → UInt64} {u : mg_Rg} {v : Int32} (h : T_isFull_25 u = some v) : mg_Ev sc 1 183 0 (mg_entry 183 [.ref 26]) [] (hp u fL fD, c, z) (.inl (some (.int v)), (hp u fL fD, c, z)) := by
  unfold T_isFull_25 at h
  show mg_Ev _ _ _ 0 [some (.ref 26)] [] _ _
  refine mg_Ev.go 1 (pc' := 1) (loc' := [some (.ref 26)]) (st' := [.ref 26]) (w' := (hp u fL fD, c, z)) rfl ?_
  obtain ⟨v304, hf2226, h⟩ := Option.bind_eq_some_iff.mp h
  refine mg_Ev.call (y := 181) (as := [.ref 26]) (rest := []) (v := some (.int v304)) (w1 := (hp u fL fD, c, z)) rfl rfl (Nat.le_of_ble_eq_true rfl) ((ev_T_count_25 hf2226).deep (by decide)) ?_
  refine mg_Ev.go 2 (pc' := 8) (loc' := [some (.ref 26)]) (st' := [.int 30, .int v304]) (w' := (hp u fL fD, c, z)) rfl ?_
  refine mg_Ev.br (P := v304 < 30) (t := 15) (nx := 11) (st' := []) rfl rfl rfl rfl (fun hc2227 => ?_) (fun hc2227 => ?_)
  · rw [if_pos hc2227] at h
    refine mg_Ev.go 1 (pc' := 16) (loc' := [some (.ref 26)]) (st' := [.int 0]) (w' := (hp u fL fD, c, z)) rfl ?_
    cases h
    exact mg_Ev.fin rfl rfl rfl
  · rw [if_neg hc2227] at h
    refine mg_Ev.go 2 (pc' := 16) (loc' := [some (.ref 26)]) (st' := [.int 1]) (w' := (hp u fL fD, c, z)) rfl ?_
    cases h
    exact mg_Ev.fin rfl rfl rfl

def T_put_25 (a0 : Int32) (a1 : Int32) (a2 : Int32) (u : mg_Rg) : Option (mg_Rg) :=
  if a0 < 0 then
  some u
  else
  if 30 ≤ a0 then
    some u
    else
    if a1 < 0 then
      some u
      else
      if a1 < 15 then
        if ((1 + (a0 * 15)) + a1) < 0 then
          some u
          else
          if 451 ≤ ((1 + (a0 * 15)) + a1) then
            some u
            else
            if ((1 + (a0 * 15)) + a1) < 0 ∨ 451 ≤ ((1 + (a0 * 15)) + a1).toNatClampNeg then none else
              some (mg_up u 26 (((1 + (a0 * 15)) + a1).toNatClampNeg) a2)
        else
        some u

set_option maxRecDepth 10000 in
set_option maxHeartbeats 4000000 in
theorem ev_T_put_25 {sc : mg_Sc} {c z : Nat} {fL : Nat → Int64} {fD : Nat → UInt64} {a0 : Int32} {a1 : Int32} {a2 : Int32} {u : mg_Rg} {v : mg_Rg} (h : T_put_25 a0 a1 a2 u = some v) : mg_Ev sc 0 185 0 (mg_entry 185 [.ref 26, .int a0, .int a1, .int a2]) [] (hp u fL fD, c, z) (.inl none, (hp v fL fD, c, z)) := by
  unfold T_put_25 at h
  show mg_Ev _ _ _ 0 [some (.ref 26), some (.int a0), some (.int a1), some (.int a2), none] [] _ _
  refine mg_Ev.go 1 (pc' := 1) (loc' := [some (.ref 26), some (.int a0), some (.int a1), some (.int a2), none]) (st' := [.int a0]) (w' := (hp u fL fD, c, z)) rfl ?_
  refine mg_Ev.br (P := a0 < 0) (t := 24) (nx := 4) (st' := []) rfl rfl rfl rfl (fun hc2228 => ?_) (fun hc2228 => ?_)
  · rw [if_pos hc2228] at h
    cases h
    exact mg_Ev.fin rfl rfl rfl
  · rw [if_neg hc2228] at h
    refine mg_Ev.go 3 (pc' := 9) (loc' := [some (.ref 26), some (.int a0), some (.int a1), some (.int a2), none]) (st' := [.int 30, .int a0]) (w' := (hp u fL fD, c, z)) rfl ?_
    refine mg_Ev.br (P := 30 ≤ a0) (t := 24) (nx := 12) (st' := []) rfl rfl rfl rfl (fun hc2229 => ?_) (fun hc2229 => ?_)
    · rw [if_pos hc2229] at h
      cases h
      exact mg_Ev.fin rfl rfl rfl
    · rw [if_neg hc2229] at h
      refine mg_Ev.go 1 (pc' := 13) (loc' := [some (.ref 26), some (.int a0), some (.int a1), some (.int a2), none]) (st' := [.int a1]) (w' := (hp u fL fD, c, z)) rfl ?_
      refine mg_Ev.br (P := a1 < 0) (t := 24) (nx := 16) (st' := []) rfl rfl rfl rfl (fun hc2230 => ?_) (fun hc2230 => ?_)
      · rw [if_pos hc2230] at h
        cases h
        exact mg_Ev.fin rfl rfl rfl
      · rw [if_neg hc2230] at h
        refine mg_Ev.go 3 (pc' := 21) (loc' := [some (.ref 26), some (.int a0), some (.int a1), some (.int a2), none]) (st' := [.int 15, .int a1]) (w' := (hp u fL fD, c, z)) rfl ?_
        refine mg_Ev.br (P := a1 < 15) (t := 25) (nx := 24) (st' := []) rfl rfl rfl rfl (fun hc2231 => ?_) (fun hc2231 => ?_)
        · rw [if_pos hc2231] at h
          refine mg_Ev.go 10 (pc' := 39) (loc' := [some (.ref 26), some (.int a0), some (.int a1), some (.int a2), some (.int ((1 + (a0 * 15)) + a1))]) (st' := [.int ((1 + (a0 * 15)) + a1)]) (w' := (hp u fL fD, c, z)) rfl ?_
          refine mg_Ev.br (P := ((1 + (a0 * 15)) + a1) < 0) (t := 60) (nx := 42) (st' := []) rfl rfl rfl rfl (fun hc2232 => ?_) (fun hc2232 => ?_)
          · rw [if_pos hc2232] at h
            cases h
            exact mg_Ev.fin rfl rfl rfl
          · rw [if_neg hc2232] at h
            refine mg_Ev.go 4 (pc' := 49) (loc' := [some (.ref 26), some (.int a0), some (.int a1), some (.int a2), some (.int ((1 + (a0 * 15)) + a1))]) (st' := [.int 451, .int ((1 + (a0 * 15)) + a1)]) (w' := (hp u fL fD, c, z)) rfl ?_
            refine mg_Ev.br (P := 451 ≤ ((1 + (a0 * 15)) + a1)) (t := 60) (nx := 52) (st' := []) rfl rfl rfl rfl (fun hc2233 => ?_) (fun hc2233 => ?_)
            · rw [if_pos hc2233] at h
              cases h
              exact mg_Ev.fin rfl rfl rfl
            · rw [if_neg hc2233] at h
              refine mg_Ev.go 4 (pc' := 59) (loc' := [some (.ref 26), some (.int a0), some (.int a1), some (.int a2), some (.int ((1 + (a0 * 15)) + a1))]) (st' := [.int a2, .int ((1 + (a0 * 15)) + a1), .ref 27]) (w' := (hp u fL fD, c, z)) rfl ?_
              by_cases hb2234 : ((1 + (a0 * 15)) + a1) < 0 ∨ 451 ≤ ((1 + (a0 * 15)) + a1).toNatClampNeg
              · rw [if_pos hb2234] at h
                cases h
              · rw [if_neg hb2234] at h
                refine mg_Ev.iast (a := 26) (n := 451) rfl (hpg_26 _ _ _) rfl hb2234 (hpa_26 _ _ _ _ _ _ _) ?_
                cases h
                exact mg_Ev.fin rfl rfl rfl
        · rw [if_neg hc2231] at h
          cases h
          exact mg_Ev.fin rfl rfl rfl

def T_setCount_25 (a0 : Int32) (u : mg_Rg) : Option (mg_Rg) :=
  some (mg_up u 26 0 a0)

set_option maxRecDepth 10000 in
set_option maxHeartbeats 4000000 in
theorem ev_T_setCount_25 {sc : mg_Sc} {c z : Nat} {fL : Nat → Int64} {fD : Nat → UInt64} {a0 : Int32} {u : mg_Rg} {v : mg_Rg} (h : T_setCount_25 a0 u = some v) : mg_Ev sc 0 193 0 (mg_entry 193 [.ref 26, .int a0]) [] (hp u fL fD, c, z) (.inl none, (hp v fL fD, c, z)) := by
  unfold T_setCount_25 at h
  show mg_Ev _ _ _ 0 [some (.ref 26), some (.int a0)] [] _ _
  refine mg_Ev.go 3 (pc' := 5) (loc' := [some (.ref 26), some (.int a0)]) (st' := [.int 451]) (w' := (hp u fL fD, c, z)) rfl ?_
  refine mg_Ev.br (P := (451 : Int32) ≤ 0) (t := 15) (nx := 8) (st' := []) rfl rfl rfl rfl (fun q => absurd q (by decide)) (fun _ => ?_)
  refine mg_Ev.go 4 (pc' := 14) (loc' := [some (.ref 26), some (.int a0)]) (st' := [.int a0, .int 0, .ref 27]) (w' := (hp u fL fD, c, z)) rfl ?_
  refine mg_Ev.iast (a := 26) (n := 451) (j := 0) rfl (hpg_26 _ _ _) (by decide) (by decide) (hpa_26 _ _ _ _ _ _ _) ?_
  cases h
  exact mg_Ev.fin rfl rfl rfl

def T_add_25_L17 : Nat → Int32 → Int32 → mg_Rg → Option (mg_Rg)
  | 0, _, _, _ => none
  | n + 1, x1, x2, u =>
    if 15 ≤ x2 then
    some (u)
    else
    (T_put_25 x1 x2 0 u).bind fun u308 =>
      T_add_25_L17 n x1 (x2 + 1) u308
set_option maxRecDepth 10000 in
set_option maxHeartbeats 4000000 in
theorem ev_T_add_25_L17 {sc : mg_Sc} {c z : Nat} {fL : Nat → Int64} {fD : Nat → UInt64} : ∀ (n : Nat) (x1 : Int32) (x2 : Int32) (u : mg_Rg) (res : mg_Rg), T_add_25_L17 n x1 x2 u = some res → ∀ r, (match res with | yu => mg_Ev sc 1 187 38 [some (.ref 26), some (.int x1), none] [] (hp yu fL fD, c, z) r) → mg_Ev sc 1 187 17 [some (.ref 26), some (.int x1), some (.int x2)] [] (hp u fL fD, c, z) r := by
  intro n
  induction n with
  | zero => intro x1 x2 u res h; cases h
  | succ n ih =>
    intro x1 x2 u res h r K
    unfold T_add_25_L17 at h
    refine mg_Ev.go 3 (pc' := 22) (loc' := [some (.ref 26), some (.int x1), some (.int x2)]) (st' := [.int 15, .int x2]) (w' := (hp u fL fD, c, z)) rfl ?_
    refine mg_Ev.br (P := 15 ≤ x2) (t := 38) (nx := 25) (st' := []) rfl rfl rfl rfl (fun hc2236 => ?_) (fun hc2236 => ?_)
    · rw [if_pos hc2236] at h
      cases h
      exact mg_Ev.more (loc := [some (.ref 26), some (.int x1), none]) K ⟨rfl, ⟨rfl, trivial⟩⟩
    · rw [if_neg hc2236] at h
      refine mg_Ev.go 4 (pc' := 29) (loc' := [some (.ref 26), some (.int x1), some (.int x2)]) (st' := [.int 0, .int x2, .int x1, .ref 26]) (w' := (hp u fL fD, c, z)) rfl ?_
      obtain ⟨u308, hf2237, h⟩ := Option.bind_eq_some_iff.mp h
      refine mg_Ev.call (y := 185) (as := [.ref 26, .int x1, .int x2, .int 0]) (rest := []) (v := none) (w1 := (hp u308 fL fD, c, z)) rfl rfl (Nat.le_of_ble_eq_true rfl) ((ev_T_put_25 hf2237).deep (by decide)) ?_
      refine mg_Ev.go 2 (pc' := 17) (loc' := [some (.ref 26), some (.int x1), some (.int (x2 + 1))]) (st' := []) (w' := (hp u308 fL fD, c, z)) rfl ?_
      exact mg_Ev.more (loc := [some (.ref 26), some (.int x1), some (.int (x2 + 1))]) (ih _ _ _ _ h _ K) ⟨rfl, ⟨rfl, ⟨rfl, trivial⟩⟩⟩

def T_add_25 (u : mg_Rg) : Option (Int32 × mg_Rg) :=
  (T_count_25 u).bind fun v307 =>
  if v307 < 30 then
  (T_add_25_L17 mg_F v307 0 u).bind fun q2238 => match q2238 with
    | u309 =>
      (T_setCount_25 (v307 + 1) u309).bind fun u310 =>
      some (v307, u310)
  else
  some ((-1), u)

set_option maxRecDepth 10000 in
set_option maxHeartbeats 4000000 in
theorem ev_T_add_25 {sc : mg_Sc} {c z : Nat} {fL : Nat → Int64} {fD : Nat → UInt64} {u : mg_Rg} {p : Int32 × mg_Rg} (h : T_add_25 u = some p) : mg_Ev sc 1 187 0 (mg_entry 187 [.ref 26]) [] (hp u fL fD, c, z) (.inl (some (.int p.1)), (hp p.2 fL fD, c, z)) := by
  unfold T_add_25 at h
  show mg_Ev _ _ _ 0 [some (.ref 26), none, none] [] _ _
  refine mg_Ev.go 1 (pc' := 1) (loc' := [some (.ref 26), none, none]) (st' := [.ref 26]) (w' := (hp u fL fD, c, z)) rfl ?_
  obtain ⟨v307, hf2239, h⟩ := Option.bind_eq_some_iff.mp h
  refine mg_Ev.call (y := 181) (as := [.ref 26]) (rest := []) (v := some (.int v307)) (w1 := (hp u fL fD, c, z)) rfl rfl (Nat.le_of_ble_eq_true rfl) ((ev_T_count_25 hf2239).deep (by decide)) ?_
  refine mg_Ev.go 4 (pc' := 10) (loc' := [some (.ref 26), some (.int v307), none]) (st' := [.int 30, .int v307]) (w' := (hp u fL fD, c, z)) rfl ?_
  refine mg_Ev.br (P := v307 < 30) (t := 15) (nx := 13) (st' := []) rfl rfl rfl rfl (fun hc2240 => ?_) (fun hc2240 => ?_)
  · rw [if_pos hc2240] at h
    refine mg_Ev.go 2 (pc' := 17) (loc' := [some (.ref 26), some (.int v307), some (.int 0)]) (st' := []) (w' := (hp u fL fD, c, z)) rfl ?_
    obtain ⟨u309, hl2241, h⟩ := Option.bind_eq_some_iff.mp h
    try dsimp only at h
    refine mg_Ev.more (loc := [some (.ref 26), some (.int v307), some (.int 0)]) (ev_T_add_25_L17 _ _ _ _ _ hl2241 _ ?_) ⟨rfl, ⟨rfl, ⟨rfl, trivial⟩⟩⟩
    show mg_Ev _ _ _ 38 [some (.ref 26), some (.int v307), none] [] (hp u309 fL fD, c, z) _
    refine mg_Ev.go 4 (pc' := 42) (loc' := [some (.ref 26), some (.int v307), none]) (st' := [.int (v307 + 1), .ref 26]) (w' := (hp u309 fL fD, c, z)) rfl ?_
    obtain ⟨u310, hf2242, h⟩ := Option.bind_eq_some_iff.mp h
    refine mg_Ev.call (y := 193) (as := [.ref 26, .int (v307 + 1)]) (rest := []) (v := none) (w1 := (hp u310 fL fD, c, z)) rfl rfl (Nat.le_of_ble_eq_true rfl) ((ev_T_setCount_25 hf2242).deep (by decide)) ?_
    refine mg_Ev.go 1 (pc' := 46) (loc' := [some (.ref 26), some (.int v307), none]) (st' := [.int v307]) (w' := (hp u310 fL fD, c, z)) rfl ?_
    cases h
    exact mg_Ev.fin rfl rfl rfl
  · rw [if_neg hc2240] at h
    refine mg_Ev.go 1 (pc' := 14) (loc' := [some (.ref 26), some (.int v307), none]) (st' := [.int (-1)]) (w' := (hp u fL fD, c, z)) rfl ?_
    cases h
    exact mg_Ev.fin rfl rfl rfl

def O_enter_29 (a0 : Int32) (a1 : Int32) (a2 : Int32) (a3 : Int32) (u : mg_Rg) : Option (Int32 × mg_Rg) :=
  (T_add_25 u).bind fun p313 => match p313 with
  | (v311, u312) =>
    (T_put_25 v311 0 a0 u312).bind fun u314 =>
    (T_put_25 v311 1 a1 u314).bind fun u315 =>
    (P_wholeValue_29 u315).bind fun v316 =>
    (T_put_25 v311 2 v316 u315).bind fun u317 =>
    (Tf_setting 0 u317).bind fun v318 =>
    (P_originBy_29 v318 u317).bind fun v319 =>
    (T_put_25 v311 3 v319 u317).bind fun u320 =>
    (T_put_25 v311 4 a2 u320).bind fun u321 =>
    (T_put_25 v311 5 a3 u321).bind fun u322 =>
    (Lg_day u322).bind fun v323 =>
    (T_put_25 v311 6 v323 u322).bind fun u324 =>
    (T_put_25 v311 7 0 u324).bind fun u325 =>
    (T_put_25 v311 12 (-1) u325).bind fun u326 =>
    (T_put_25 v311 13 (-1) u326).bind fun u327 =>
    (T_put_25 v311 14 (-1) u327).bind fun u328 =>
    some (v311, u328)

set_option maxRecDepth 10000 in
set_option maxHeartbeats 4000000 in
theorem ev_O_enter_29 {sc : mg_Sc} {c z : Nat} {fL : Nat → Int64} {fD : Nat → UInt64} {a0 : Int32} {a1 : Int32} {a2 : Int32} {a3 : Int32} {u : mg_Rg} {p : Int32 × mg_Rg} (h : O_enter_29 a0 a1 a2 a3 u = some p) : mg_Ev sc 3 152 0 (mg_entry 152 [.ref 2, .int a0, .int a1, .int a2, .int a3, .ref 30]) [] (hp u fL fD, c, z) (.inl (some (.int p.1)), (hp p.2 fL fD, c, z)) := by
  unfold O_enter_29 at h
  show mg_Ev _ _ _ 0 [some (.ref 2), some (.int a0), some (.int a1), some (.int a2), some (.int a3), some (.ref 30), none] [] _ _
  refine mg_Ev.go 2 (pc' := 4) (loc' := [some (.ref 2), some (.int a0), some (.int a1), some (.int a2), some (.int a3), some (.ref 30), none]) (st' := [.ref 26]) (w' := (hp u fL fD, c, z)) rfl ?_
  obtain ⟨⟨v311, u312⟩, hf2243, h⟩ := Option.bind_eq_some_iff.mp h
  try dsimp only at h
  refine mg_Ev.call (y := 187) (as := [.ref 26]) (rest := []) (v := some (.int v311)) (w1 := (hp u312 fL fD, c, z)) rfl rfl (Nat.le_of_ble_eq_true rfl) ((ev_T_add_25 hf2243).deep (by decide)) ?_
  refine mg_Ev.go 6 (pc' := 17) (loc' := [some (.ref 2), some (.int a0), some (.int a1), some (.int a2), some (.int a3), some (.ref 30), some (.int v311)]) (st' := [.int a0, .int 0, .int v311, .ref 26]) (w' := (hp u312 fL fD, c, z)) rfl ?_
  obtain ⟨u314, hf2244, h⟩ := Option.bind_eq_some_iff.mp h
  refine mg_Ev.call (y := 185) (as := [.ref 26, .int v311, .int 0, .int a0]) (rest := []) (v := none) (w1 := (hp u314 fL fD, c, z)) rfl rfl (Nat.le_of_ble_eq_true rfl) ((ev_T_put_25 hf2244).deep (by decide)) ?_
  refine mg_Ev.go 5 (pc' := 28) (loc' := [some (.ref 2), some (.int a0), some (.int a1), some (.int a2), some (.int a3), some (.ref 30), some (.int v311)]) (st' := [.int a1, .int 1, .int v311, .ref 26]) (w' := (hp u314 fL fD, c, z)) rfl ?_
  obtain ⟨u315, hf2245, h⟩ := Option.bind_eq_some_iff.mp h
  refine mg_Ev.call (y := 185) (as := [.ref 26, .int v311, .int 1, .int a1]) (rest := []) (v := none) (w1 := (hp u315 fL fD, c, z)) rfl rfl (Nat.le_of_ble_eq_true rfl) ((ev_T_put_25 hf2245).deep (by decide)) ?_
  refine mg_Ev.go 5 (pc' := 40) (loc' := [some (.ref 2), some (.int a0), some (.int a1), some (.int a2), some (.int a3), some (.ref 30), some (.int v311)]) (st' := [.ref 30, .int 2, .int v311, .ref 26]) (w' := (hp u315 fL fD, c, z)) rfl ?_
  obtain ⟨v316, hf2246, h⟩ := Option.bind_eq_some_iff.mp h
  refine mg_Ev.call (y := 177) (as := [.ref 30]) (rest := [.int 2, .int v311, .ref 26]) (v := some (.int v316)) (w1 := (hp u315 fL fD, c, z)) rfl rfl (Nat.le_of_ble_eq_true rfl) ((ev_P_wholeValue_29 hf2246).deep (by decide)) ?_
  obtain ⟨u317, hf2247, h⟩ := Option.bind_eq_some_iff.mp h
  refine mg_Ev.call (y := 185) (as := [.ref 26, .int v311, .int 2, .int v316]) (rest := []) (v := none) (w1 := (hp u317 fL fD, c, z)) rfl rfl (Nat.le_of_ble_eq_true rfl) ((ev_T_put_25 hf2247).deep (by decide)) ?_
  refine mg_Ev.go 8 (pc' := 60) (loc' := [some (.ref 2), some (.int a0), some (.int a1), some (.int a2), some (.int a3), some (.ref 30), some (.int v311)]) (st' := [.int 0, .ref 3, .ref 30, .int 3, .int v311, .ref 26]) (w' := (hp u317 fL fD, c, z)) rfl ?_
  obtain ⟨v318, hf2248, h⟩ := Option.bind_eq_some_iff.mp h
  refine mg_Ev.call (y := 195) (as := [.ref 3, .int 0]) (rest := [.ref 30, .int 3, .int v311, .ref 26]) (v := some (.int v318)) (w1 := (hp u317 fL fD, c, z)) rfl rfl (Nat.le_of_ble_eq_true rfl) ((ev_Tf_setting hf2248).deep (by decide)) ?_
  obtain ⟨v319, hf2249, h⟩ := Option.bind_eq_some_iff.mp h
  refine mg_Ev.call (y := 179) (as := [.ref 30, .int v318]) (rest := [.int 3, .int v311, .ref 26]) (v := some (.int v319)) (w1 := (hp u317 fL fD, c, z)) rfl rfl (Nat.le_of_ble_eq_true rfl) ((ev_P_originBy_29 hf2249).deep (by decide)) ?_
  obtain ⟨u320, hf2250, h⟩ := Option.bind_eq_some_iff.mp h
  refine mg_Ev.call (y := 185) (as := [.ref 26, .int v311, .int 3, .int v319]) (rest := []) (v := none) (w1 := (hp u320 fL fD, c, z)) rfl rfl (Nat.le_of_ble_eq_true rfl) ((ev_T_put_25 hf2250).deep (by decide)) ?_
  refine mg_Ev.go 5 (pc' := 77) (loc' := [some (.ref 2), some (.int a0), some (.int a1), some (.int a2), some (.int a3), some (.ref 30), some (.int v311)]) (st' := [.int a2, .int 4, .int v311, .ref 26]) (w' := (hp u320 fL fD, c, z)) rfl ?_
  obtain ⟨u321, hf2251, h⟩ := Option.bind_eq_some_iff.mp h
  refine mg_Ev.call (y := 185) (as := [.ref 26, .int v311, .int 4, .int a2]) (rest := []) (v := none) (w1 := (hp u321 fL fD, c, z)) rfl rfl (Nat.le_of_ble_eq_true rfl) ((ev_T_put_25 hf2251).deep (by decide)) ?_
  refine mg_Ev.go 5 (pc' := 89) (loc' := [some (.ref 2), some (.int a0), some (.int a1), some (.int a2), some (.int a3), some (.ref 30), some (.int v311)]) (st' := [.int a3, .int 5, .int v311, .ref 26]) (w' := (hp u321 fL fD, c, z)) rfl ?_
  obtain ⟨u322, hf2252, h⟩ := Option.bind_eq_some_iff.mp h
  refine mg_Ev.call (y := 185) (as := [.ref 26, .int v311, .int 5, .int a3]) (rest := []) (v := none) (w1 := (hp u322 fL fD, c, z)) rfl rfl (Nat.le_of_ble_eq_true rfl) ((ev_T_put_25 hf2252).deep (by decide)) ?_
  refine mg_Ev.go 6 (pc' := 104) (loc' := [some (.ref 2), some (.int a0), some (.int a1), some (.int a2), some (.int a3), some (.ref 30), some (.int v311)]) (st' := [.ref 16, .int 6, .int v311, .ref 26]) (w' := (hp u322 fL fD, c, z)) rfl ?_
  obtain ⟨v323, hf2253, h⟩ := Option.bind_eq_some_iff.mp h
  refine mg_Ev.call (y := 144) (as := [.ref 16]) (rest := [.int 6, .int v311, .ref 26]) (v := some (.int v323)) (w1 := (hp u322 fL fD, c, z)) rfl rfl (Nat.le_of_ble_eq_true rfl) ((ev_Lg_day hf2253).deep (by decide)) ?_
  obtain ⟨u324, hf2254, h⟩ := Option.bind_eq_some_iff.mp h
  refine mg_Ev.call (y := 185) (as := [.ref 26, .int v311, .int 6, .int v323]) (rest := []) (v := none) (w1 := (hp u324 fL fD, c, z)) rfl rfl (Nat.le_of_ble_eq_true rfl) ((ev_T_put_25 hf2254).deep (by decide)) ?_
  refine mg_Ev.go 5 (pc' := 119) (loc' := [some (.ref 2), some (.int a0), some (.int a1), some (.int a2), some (.int a3), some (.ref 30), some (.int v311)]) (st' := [.int 0, .int 7, .int v311, .ref 26]) (w' := (hp u324 fL fD, c, z)) rfl ?_
  obtain ⟨u325, hf2255, h⟩ := Option.bind_eq_some_iff.mp h
  refine mg_Ev.call (y := 185) (as := [.ref 26, .int v311, .int 7, .int 0]) (rest := []) (v := none) (w1 := (hp u325 fL fD, c, z)) rfl rfl (Nat.le_of_ble_eq_true rfl) ((ev_T_put_25 hf2255).deep (by decide)) ?_
  refine mg_Ev.go 5 (pc' := 131) (loc' := [some (.ref 2), some (.int a0), some (.int a1), some (.int a2), some (.int a3), some (.ref 30), some (.int v311)]) (st' := [.int (-1), .int 12, .int v311, .ref 26]) (w' := (hp u325 fL fD, c, z)) rfl ?_
  obtain ⟨u326, hf2256, h⟩ := Option.bind_eq_some_iff.mp h
  refine mg_Ev.call (y := 185) (as := [.ref 26, .int v311, .int 12, .int (-1)]) (rest := []) (v := none) (w1 := (hp u326 fL fD, c, z)) rfl rfl (Nat.le_of_ble_eq_true rfl) ((ev_T_put_25 hf2256).deep (by decide)) ?_
  refine mg_Ev.go 5 (pc' := 143) (loc' := [some (.ref 2), some (.int a0), some (.int a1), some (.int a2), some (.int a3), some (.ref 30), some (.int v311)]) (st' := [.int (-1), .int 13, .int v311, .ref 26]) (w' := (hp u326 fL fD, c, z)) rfl ?_
  obtain ⟨u327, hf2257, h⟩ := Option.bind_eq_some_iff.mp h
  refine mg_Ev.call (y := 185) (as := [.ref 26, .int v311, .int 13, .int (-1)]) (rest := []) (v := none) (w1 := (hp u327 fL fD, c, z)) rfl rfl (Nat.le_of_ble_eq_true rfl) ((ev_T_put_25 hf2257).deep (by decide)) ?_
  refine mg_Ev.go 5 (pc' := 155) (loc' := [some (.ref 2), some (.int a0), some (.int a1), some (.int a2), some (.int a3), some (.ref 30), some (.int v311)]) (st' := [.int (-1), .int 14, .int v311, .ref 26]) (w' := (hp u327 fL fD, c, z)) rfl ?_
  obtain ⟨u328, hf2258, h⟩ := Option.bind_eq_some_iff.mp h
  refine mg_Ev.call (y := 185) (as := [.ref 26, .int v311, .int 14, .int (-1)]) (rest := []) (v := none) (w1 := (hp u328 fL fD, c, z)) rfl rfl (Nat.le_of_ble_eq_true rfl) ((ev_T_put_25 hf2258).deep (by decide)) ?_
  refine mg_Ev.go 1 (pc' := 160) (loc' := [some (.ref 2), some (.int a0), some (.int a1), some (.int a2), some (.int a3), some (.ref 30), some (.int v311)]) (st' := [.int v311]) (w' := (hp u328 fL fD, c, z)) rfl ?_
  cases h
  exact mg_Ev.fin rfl rfl rfl

