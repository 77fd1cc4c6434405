def T_get_19 (a0 : Int32) (a1 : Int32) (u : mg_Rg) : Option (Int32) :=
  if a0 < 0 then
  some 0
  else
  if 8 ≤ a0 then
    some 0
    else
    if a1 < 0 then
      some 0
      else
      if a1 < 1 then
        if ((1 + (a0 * 1)) + a1) < 0 then
          some 0
          else
          if 9 ≤ ((1 + (a0 * 1)) + a1) then
            some 0
            else
            if ((1 + (a0 * 1)) + a1) < 0 ∨ 9 ≤ ((1 + (a0 * 1)) + a1).toNatClampNeg then none else
              some (u 20 (((1 + (a0 * 1)) + a1).toNatClampNeg))
        else
        some 0

set_option maxRecDepth 10000 in
set_option maxHeartbeats 4000000 in
theorem ev_T_get_19 {sc : mg_Sc} {c z : Nat} {fL : Nat → Int64} {fD : Nat → UInt64} {a0 : Int32} {a1 : Int32} {u : mg_Rg} {v : Int32} (h : T_get_19 a0 a1 u = some v) : mg_Ev sc 0 184 0 (mg_entry 184 [.ref 20, .int a0, .int a1]) [] (hp u fL fD, c, z) (.inl (some (.int v)), (hp u fL fD, c, z)) := by
  unfold T_get_19 at h
  show mg_Ev _ _ _ 0 [some (.ref 20), some (.int a0), some (.int a1), none] [] _ _
  refine mg_Ev.go 1 (pc' := 1) (loc' := [some (.ref 20), some (.int a0), some (.int a1), none]) (st' := [.int a0]) (w' := (hp u fL fD, c, z)) rfl ?_
  refine mg_Ev.br (P := a0 < 0) (t := 24) (nx := 4) (st' := []) rfl rfl rfl rfl (fun hc2415 => ?_) (fun hc2415 => ?_)
  · rw [if_pos hc2415] at h
    refine mg_Ev.go 1 (pc' := 25) (loc' := [some (.ref 20), some (.int a0), some (.int a1), none]) (st' := [.int 0]) (w' := (hp u fL fD, c, z)) rfl ?_
    cases h
    exact mg_Ev.fin rfl rfl rfl
  · rw [if_neg hc2415] at h
    refine mg_Ev.go 3 (pc' := 9) (loc' := [some (.ref 20), some (.int a0), some (.int a1), none]) (st' := [.int 8, .int a0]) (w' := (hp u fL fD, c, z)) rfl ?_
    refine mg_Ev.br (P := 8 ≤ a0) (t := 24) (nx := 12) (st' := []) rfl rfl rfl rfl (fun hc2416 => ?_) (fun hc2416 => ?_)
    · rw [if_pos hc2416] at h
      refine mg_Ev.go 1 (pc' := 25) (loc' := [some (.ref 20), some (.int a0), some (.int a1), none]) (st' := [.int 0]) (w' := (hp u fL fD, c, z)) rfl ?_
      cases h
      exact mg_Ev.fin rfl rfl rfl
    · rw [if_neg hc2416] at h
      refine mg_Ev.go 1 (pc' := 13) (loc' := [some (.ref 20), some (.int a0), some (.int a1), none]) (st' := [.int a1]) (w' := (hp u fL fD, c, z)) rfl ?_
      refine mg_Ev.br (P := a1 < 0) (t := 24) (nx := 16) (st' := []) rfl rfl rfl rfl (fun hc2417 => ?_) (fun hc2417 => ?_)
      · rw [if_pos hc2417] at h
        refine mg_Ev.go 1 (pc' := 25) (loc' := [some (.ref 20), some (.int a0), some (.int a1), none]) (st' := [.int 0]) (w' := (hp u fL fD, c, z)) rfl ?_
        cases h
        exact mg_Ev.fin rfl rfl rfl
      · rw [if_neg hc2417] at h
        refine mg_Ev.go 3 (pc' := 21) (loc' := [some (.ref 20), some (.int a0), some (.int a1), none]) (st' := [.int 1, .int a1]) (w' := (hp u fL fD, c, z)) rfl ?_
        refine mg_Ev.br (P := a1 < 1) (t := 26) (nx := 24) (st' := []) rfl rfl rfl rfl (fun hc2418 => ?_) (fun hc2418 => ?_)
        · rw [if_pos hc2418] at h
          refine mg_Ev.go 10 (pc' := 38) (loc' := [some (.ref 20), some (.int a0), some (.int a1), some (.int ((1 + (a0 * 1)) + a1))]) (st' := [.int ((1 + (a0 * 1)) + a1)]) (w' := (hp u fL fD, c, z)) rfl ?_
          refine mg_Ev.br (P := ((1 + (a0 * 1)) + a1) < 0) (t := 59) (nx := 41) (st' := []) rfl rfl rfl rfl (fun hc2419 => ?_) (fun hc2419 => ?_)
          · rw [if_pos hc2419] at h
            refine mg_Ev.go 1 (pc' := 60) (loc' := [some (.ref 20), some (.int a0), some (.int a1), some (.int ((1 + (a0 * 1)) + a1))]) (st' := [.int 0]) (w' := (hp u fL fD, c, z)) rfl ?_
            cases h
            exact mg_Ev.fin rfl rfl rfl
          · rw [if_neg hc2419] at h
            refine mg_Ev.go 4 (pc' := 47) (loc' := [some (.ref 20), some (.int a0), some (.int a1), some (.int ((1 + (a0 * 1)) + a1))]) (st' := [.int 9, .int ((1 + (a0 * 1)) + a1)]) (w' := (hp u fL fD, c, z)) rfl ?_
            refine mg_Ev.br (P := 9 ≤ ((1 + (a0 * 1)) + a1)) (t := 59) (nx := 50) (st' := []) rfl rfl rfl rfl (fun hc2420 => ?_) (fun hc2420 => ?_)
            · rw [if_pos hc2420] at h
              refine mg_Ev.go 1 (pc' := 60) (loc' := [some (.ref 20), some (.int a0), some (.int a1), some (.int ((1 + (a0 * 1)) + a1))]) (st' := [.int 0]) (w' := (hp u fL fD, c, z)) rfl ?_
              cases h
              exact mg_Ev.fin rfl rfl rfl
            · rw [if_neg hc2420] at h
              refine mg_Ev.go 3 (pc' := 55) (loc' := [some (.ref 20), some (.int a0), some (.int a1), some (.int ((1 + (a0 * 1)) + a1))]) (st' := [.int ((1 + (a0 * 1)) + a1), .ref 21]) (w' := (hp u fL fD, c, z)) rfl ?_
              by_cases hb2421 : ((1 + (a0 * 1)) + a1) < 0 ∨ 9 ≤ ((1 + (a0 * 1)) + a1).toNatClampNeg
              · rw [if_pos hb2421] at h
                cases h
              · rw [if_neg hb2421] at h
                refine mg_Ev.iald (a := 20) (n := 9) (f := u 20) rfl (hpg_20 _ _ _) rfl hb2421 ?_
                refine mg_Ev.go 1 (pc' := 60) (loc' := [some (.ref 20), some (.int a0), some (.int a1), some (.int ((1 + (a0 * 1)) + a1))]) (st' := [.int (u 20 (((1 + (a0 * 1)) + a1).toNatClampNeg))]) (w' := (hp u fL fD, c, z)) rfl ?_
                cases h
                exact mg_Ev.fin rfl rfl rfl
        · rw [if_neg hc2418] at h
          refine mg_Ev.go 1 (pc' := 25) (loc' := [some (.ref 20), some (.int a0), some (.int a1), none]) (st' := [.int 0]) (w' := (hp u fL fD, c, z)) rfl ?_
          cases h
          exact mg_Ev.fin rfl rfl rfl

def T_put_19 (a0 : Int32) (a1 : Int32) (a2 : Int32) (u : mg_Rg) : Option (mg_Rg) :=
  if a0 < 0 then
  some u
  else
  if 8 ≤ a0 then
    some u
    else
    if a1 < 0 then
      some u
      else
      if a1 < 1 then
        if ((1 + (a0 * 1)) + a1) < 0 then
          some u
          else
          if 9 ≤ ((1 + (a0 * 1)) + a1) then
            some u
            else
            if ((1 + (a0 * 1)) + a1) < 0 ∨ 9 ≤ ((1 + (a0 * 1)) + a1).toNatClampNeg then none else
              some (mg_up u 20 (((1 + (a0 * 1)) + a1).toNatClampNeg) a2)
        else
        some u

set_option maxRecDepth 10000 in
set_option maxHeartbeats 4000000 in
theorem ev_T_put_19 {sc : mg_Sc} {c z : Nat} {fL : Nat → Int64} {fD : Nat → UInt64} {a0 : Int32} {a1 : Int32} {a2 : Int32} {u : mg_Rg} {v : mg_Rg} (h : T_put_19 a0 a1 a2 u = some v) : mg_Ev sc 0 185 0 (mg_entry 185 [.ref 20, .int a0, .int a1, .int a2]) [] (hp u fL fD, c, z) (.inl none, (hp v fL fD, c, z)) := by
  unfold T_put_19 at h
  show mg_Ev _ _ _ 0 [some (.ref 20), some (.int a0), some (.int a1), some (.int a2), none] [] _ _
  refine mg_Ev.go 1 (pc' := 1) (loc' := [some (.ref 20), some (.int a0), some (.int a1), some (.int a2), none]) (st' := [.int a0]) (w' := (hp u fL fD, c, z)) rfl ?_
  refine mg_Ev.br (P := a0 < 0) (t := 24) (nx := 4) (st' := []) rfl rfl rfl rfl (fun hc2422 => ?_) (fun hc2422 => ?_)
  · rw [if_pos hc2422] at h
    cases h
    exact mg_Ev.fin rfl rfl rfl
  · rw [if_neg hc2422] at h
    refine mg_Ev.go 3 (pc' := 9) (loc' := [some (.ref 20), some (.int a0), some (.int a1), some (.int a2), none]) (st' := [.int 8, .int a0]) (w' := (hp u fL fD, c, z)) rfl ?_
    refine mg_Ev.br (P := 8 ≤ a0) (t := 24) (nx := 12) (st' := []) rfl rfl rfl rfl (fun hc2423 => ?_) (fun hc2423 => ?_)
    · rw [if_pos hc2423] at h
      cases h
      exact mg_Ev.fin rfl rfl rfl
    · rw [if_neg hc2423] at h
      refine mg_Ev.go 1 (pc' := 13) (loc' := [some (.ref 20), some (.int a0), some (.int a1), some (.int a2), none]) (st' := [.int a1]) (w' := (hp u fL fD, c, z)) rfl ?_
      refine mg_Ev.br (P := a1 < 0) (t := 24) (nx := 16) (st' := []) rfl rfl rfl rfl (fun hc2424 => ?_) (fun hc2424 => ?_)
      · rw [if_pos hc2424] at h
        cases h
        exact mg_Ev.fin rfl rfl rfl
      · rw [if_neg hc2424] at h
        refine mg_Ev.go 3 (pc' := 21) (loc' := [some (.ref 20), some (.int a0), some (.int a1), some (.int a2), none]) (st' := [.int 1, .int a1]) (w' := (hp u fL fD, c, z)) rfl ?_
        refine mg_Ev.br (P := a1 < 1) (t := 25) (nx := 24) (st' := []) rfl rfl rfl rfl (fun hc2425 => ?_) (fun hc2425 => ?_)
        · rw [if_pos hc2425] at h
          refine mg_Ev.go 10 (pc' := 39) (loc' := [some (.ref 20), some (.int a0), some (.int a1), some (.int a2), some (.int ((1 + (a0 * 1)) + a1))]) (st' := [.int ((1 + (a0 * 1)) + a1)]) (w' := (hp u fL fD, c, z)) rfl ?_
          refine mg_Ev.br (P := ((1 + (a0 * 1)) + a1) < 0) (t := 60) (nx := 42) (st' := []) rfl rfl rfl rfl (fun hc2426 => ?_) (fun hc2426 => ?_)
          · rw [if_pos hc2426] at h
            cases h
            exact mg_Ev.fin rfl rfl rfl
          · rw [if_neg hc2426] at h
            refine mg_Ev.go 4 (pc' := 49) (loc' := [some (.ref 20), some (.int a0), some (.int a1), some (.int a2), some (.int ((1 + (a0 * 1)) + a1))]) (st' := [.int 9, .int ((1 + (a0 * 1)) + a1)]) (w' := (hp u fL fD, c, z)) rfl ?_
            refine mg_Ev.br (P := 9 ≤ ((1 + (a0 * 1)) + a1)) (t := 60) (nx := 52) (st' := []) rfl rfl rfl rfl (fun hc2427 => ?_) (fun hc2427 => ?_)
            · rw [if_pos hc2427] at h
              cases h
              exact mg_Ev.fin rfl rfl rfl
            · rw [if_neg hc2427] at h
              refine mg_Ev.go 4 (pc' := 59) (loc' := [some (.ref 20), some (.int a0), some (.int a1), some (.int a2), some (.int ((1 + (a0 * 1)) + a1))]) (st' := [.int a2, .int ((1 + (a0 * 1)) + a1), .ref 21]) (w' := (hp u fL fD, c, z)) rfl ?_
              by_cases hb2428 : ((1 + (a0 * 1)) + a1) < 0 ∨ 9 ≤ ((1 + (a0 * 1)) + a1).toNatClampNeg
              · rw [if_pos hb2428] at h
                cases h
              · rw [if_neg hb2428] at h
                refine mg_Ev.iast (a := 20) (n := 9) rfl (hpg_20 _ _ _) rfl hb2428 (hpa_20 _ _ _ _ _ _ _) ?_
                cases h
                exact mg_Ev.fin rfl rfl rfl
        · rw [if_neg hc2425] at h
          cases h
          exact mg_Ev.fin rfl rfl rfl

def T_increase_19 (a0 : Int32) (a1 : Int32) (a2 : Int32) (u : mg_Rg) : Option (mg_Rg) :=
  (T_get_19 a0 a1 u).bind fun v464 =>
  (T_put_19 a0 a1 (v464 + a2) u).bind fun u465 =>
  some u465

set_option maxRecDepth 10000 in
set_option maxHeartbeats 4000000 in
theorem ev_T_increase_19 {sc : mg_Sc} {c z : Nat} {fL : Nat → Int64} {fD : Nat → UInt64} {a0 : Int32} {a1 : Int32} {a2 : Int32} {u : mg_Rg} {v : mg_Rg} (h : T_increase_19 a0 a1 a2 u = some v) : mg_Ev sc 1 186 0 (mg_entry 186 [.ref 20, .int a0, .int a1, .int a2]) [] (hp u fL fD, c, z) (.inl none, (hp v fL fD, c, z)) := by
  unfold T_increase_19 at h
  show mg_Ev _ _ _ 0 [some (.ref 20), some (.int a0), some (.int a1), some (.int a2)] [] _ _
  refine mg_Ev.go 6 (pc' := 6) (loc' := [some (.ref 20), some (.int a0), some (.int a1), some (.int a2)]) (st' := [.int a1, .int a0, .ref 20, .int a1, .int a0, .ref 20]) (w' := (hp u fL fD, c, z)) rfl ?_
  obtain ⟨v464, hf2429, h⟩ := Option.bind_eq_some_iff.mp h
  refine mg_Ev.call (y := 184) (as := [.ref 20, .int a0, .int a1]) (rest := [.int a1, .int a0, .ref 20]) (v := some (.int v464)) (w1 := (hp u fL fD, c, z)) rfl rfl (Nat.le_of_ble_eq_true rfl) ((ev_T_get_19 hf2429).deep (by decide)) ?_
  refine mg_Ev.go 2 (pc' := 11) (loc' := [some (.ref 20), some (.int a0), some (.int a1), some (.int a2)]) (st' := [.int (v464 + a2), .int a1, .int a0, .ref 20]) (w' := (hp u fL fD, c, z)) rfl ?_
  obtain ⟨u465, hf2430, h⟩ := Option.bind_eq_some_iff.mp h
  refine mg_Ev.call (y := 185) (as := [.ref 20, .int a0, .int a1, .int (v464 + a2)]) (rest := []) (v := none) (w1 := (hp u465 fL fD, c, z)) rfl rfl (Nat.le_of_ble_eq_true rfl) ((ev_T_put_19 hf2430).deep (by decide)) ?_
  cases h
  exact mg_Ev.fin rfl rfl rfl

def Lg_addDuty (a0 : Int32) (a1 : Int32) (u : mg_Rg) : Option (mg_Rg) :=
  (T_increase_16 1 0 a1 u).bind fun u463 =>
  (T_increase_19 a0 0 a1 u463).bind fun u466 =>
  some u466

set_option maxRecDepth 10000 in
set_option maxHeartbeats 4000000 in
theorem ev_Lg_addDuty {sc : mg_Sc} {c z : Nat} {fL : Nat → Int64} {fD : Nat → UInt64} {a0 : Int32} {a1 : Int32} {u : mg_Rg} {v : mg_Rg} (h : Lg_addDuty a0 a1 u = some v) : mg_Ev sc 2 147 0 (mg_entry 147 [.ref 16, .int a0, .int a1]) [] (hp u fL fD, c, z) (.inl none, (hp v fL fD, c, z)) := by
  unfold Lg_addDuty at h
  show mg_Ev _ _ _ 0 [some (.ref 16), some (.int a0), some (.int a1)] [] _ _
  refine mg_Ev.go 5 (pc' := 7) (loc' := [some (.ref 16), some (.int a0), some (.int a1)]) (st' := [.int a1, .int 0, .int 1, .ref 17]) (w' := (hp u fL fD, c, z)) rfl ?_
  obtain ⟨u463, hf2431, h⟩ := Option.bind_eq_some_iff.mp h
  refine mg_Ev.call (y := 186) (as := [.ref 17, .int 1, .int 0, .int a1]) (rest := []) (v := none) (w1 := (hp u463 fL fD, c, z)) rfl rfl (Nat.le_of_ble_eq_true rfl) ((ev_T_increase_16 hf2431).deep (by decide)) ?_
  refine mg_Ev.go 5 (pc' := 17) (loc' := [some (.ref 16), some (.int a0), some (.int a1)]) (st' := [.int a1, .int 0, .int a0, .ref 20]) (w' := (hp u463 fL fD, c, z)) rfl ?_
  obtain ⟨u466, hf2432, h⟩ := Option.bind_eq_some_iff.mp h
  refine mg_Ev.call (y := 186) (as := [.ref 20, .int a0, .int 0, .int a1]) (rest := []) (v := none) (w1 := (hp u466 fL fD, c, z)) rfl rfl (Nat.le_of_ble_eq_true rfl) ((ev_T_increase_19 hf2432).deep (by decide)) ?_
  cases h
  exact mg_Ev.fin rfl rfl rfl

def O_assess (a0 : Int32) (u : mg_Rg) : Option (mg_Rg) :=
  (O_loadGoods a0 u).bind fun u443 =>
  (T_get_25 a0 5 u443).bind fun v444 =>
  (Tf_leastRate_28 u443).bind fun v445 =>
  (O_valueInQuota a0 u443).bind fun v450 =>
  (T_get_22 v444 3 u443).bind fun v451 =>
  (O_secondPart a0 v445 u443).bind fun v454 =>
  (T_put_25 a0 9 ((v450 * v451) / 1000) u443).bind fun u455 =>
  (T_put_25 a0 10 v454 u455).bind fun u456 =>
  (T_put_25 a0 12 v445 u456).bind fun u457 =>
  (Tf_sourceOf_28 v445 u457).bind fun v458 =>
  (T_put_25 a0 13 v458 u457).bind fun u459 =>
  (T_put_25 a0 7 1 u459).bind fun u460 =>
  (Lg_addDuty (u460 28 1) (((v450 * v451) / 1000) + v454) u460).bind fun u467 =>
  some u467

set_option maxRecDepth 10000 in
set_option maxHeartbeats 4000000 in
theorem ev_O_assess {sc : mg_Sc} {c z : Nat} {fL : Nat → Int64} {fD : Nat → UInt64} {a0 : Int32} {u : mg_Rg} {v : mg_Rg} (h : O_assess a0 u = some v) : mg_Ev sc 4 170 0 (mg_entry 170 [.ref 2, .int a0]) [] (hp u fL fD, c, z) (.inl none, (hp v fL fD, c, z)) := by
  unfold O_assess at h
  show mg_Ev _ _ _ 0 [some (.ref 2), some (.int a0), none, none, none, none] [] _ _
  refine mg_Ev.go 2 (pc' := 2) (loc' := [some (.ref 2), some (.int a0), none, none, none, none]) (st' := [.int a0, .ref 2]) (w' := (hp u fL fD, c, z)) rfl ?_
  obtain ⟨u443, hf2433, h⟩ := Option.bind_eq_some_iff.mp h
  refine mg_Ev.call (y := 166) (as := [.ref 2, .int a0]) (rest := []) (v := none) (w1 := (hp u443 fL fD, c, z)) rfl rfl (Nat.le_of_ble_eq_true rfl) ((ev_O_loadGoods hf2433).deep (by decide)) ?_
  refine mg_Ev.go 4 (pc' := 11) (loc' := [some (.ref 2), some (.int a0), none, none, none, none]) (st' := [.int 5, .int a0, .ref 26]) (w' := (hp u443 fL fD, c, z)) rfl ?_
  obtain ⟨v444, hf2434, h⟩ := Option.bind_eq_some_iff.mp h
  refine mg_Ev.call (y := 184) (as := [.ref 26, .int a0, .int 5]) (rest := []) (v := some (.int v444)) (w1 := (hp u443 fL fD, c, z)) rfl rfl (Nat.le_of_ble_eq_true rfl) ((ev_T_get_25 hf2434).deep (by decide)) ?_
  refine mg_Ev.go 5 (pc' := 23) (loc' := [some (.ref 2), some (.int a0), some (.int v444), none, none, none]) (st' := [.ref 29, .ref 3]) (w' := (hp u443 fL fD, c, z)) rfl ?_
  obtain ⟨v445, hf2435, h⟩ := Option.bind_eq_some_iff.mp h
  refine mg_Ev.call (y := 203) (as := [.ref 3, .ref 29]) (rest := []) (v := some (.int v445)) (w1 := (hp u443 fL fD, c, z)) rfl rfl (Nat.le_of_ble_eq_true rfl) ((ev_Tf_leastRate_28 hf2435).deep (by decide)) ?_
  refine mg_Ev.go 3 (pc' := 29) (loc' := [some (.ref 2), some (.int a0), some (.int v444), some (.int v445), none, none]) (st' := [.int a0, .ref 2]) (w' := (hp u443 fL fD, c, z)) rfl ?_
  obtain ⟨v450, hf2436, h⟩ := Option.bind_eq_some_iff.mp h
  refine mg_Ev.call (y := 171) (as := [.ref 2, .int a0]) (rest := []) (v := some (.int v450)) (w1 := (hp u443 fL fD, c, z)) rfl rfl (Nat.le_of_ble_eq_true rfl) ((ev_O_valueInQuota hf2436).deep (by decide)) ?_
  refine mg_Ev.go 4 (pc' := 38) (loc' := [some (.ref 2), some (.int a0), some (.int v444), some (.int v445), none, none]) (st' := [.int 3, .int v444, .ref 23, .int v450]) (w' := (hp u443 fL fD, c, z)) rfl ?_
  obtain ⟨v451, hf2437, h⟩ := Option.bind_eq_some_iff.mp h
  refine mg_Ev.call (y := 184) (as := [.ref 23, .int v444, .int 3]) (rest := [.int v450]) (v := some (.int v451)) (w1 := (hp u443 fL fD, c, z)) rfl rfl (Nat.le_of_ble_eq_true rfl) ((ev_T_get_22 hf2437).deep (by decide)) ?_
  refine mg_Ev.go 2 (pc' := 45) (loc' := [some (.ref 2), some (.int a0), some (.int v444), some (.int v445), none, none]) (st' := [.int 1000, .int (v450 * v451)]) (w' := (hp u443 fL fD, c, z)) rfl ?_
  refine mg_Ev.idiv rfl (by decide) ?_
  refine mg_Ev.go 4 (pc' := 51) (loc' := [some (.ref 2), some (.int a0), some (.int v444), some (.int v445), some (.int ((v450 * v451) / 1000)), none]) (st' := [.int v445, .int a0, .ref 2]) (w' := (hp u443 fL fD, c, z)) rfl ?_
  obtain ⟨v454, hf2438, h⟩ := Option.bind_eq_some_iff.mp h
  refine mg_Ev.call (y := 172) (as := [.ref 2, .int a0, .int v445]) (rest := []) (v := some (.int v454)) (w1 := (hp u443 fL fD, c, z)) rfl rfl (Nat.le_of_ble_eq_true rfl) ((ev_O_secondPart hf2438).deep (by decide)) ?_
  refine mg_Ev.go 6 (pc' := 65) (loc' := [some (.ref 2), some (.int a0), some (.int v444), some (.int v445), some (.int ((v450 * v451) / 1000)), some (.int v454)]) (st' := [.int ((v450 * v451) / 1000), .int 9, .int a0, .ref 26]) (w' := (hp u443 fL fD, c, z)) rfl ?_
  obtain ⟨u455, hf2439, h⟩ := Option.bind_eq_some_iff.mp h
  refine mg_Ev.call (y := 185) (as := [.ref 26, .int a0, .int 9, .int ((v450 * v451) / 1000)]) (rest := []) (v := none) (w1 := (hp u455 fL fD, c, z)) rfl rfl (Nat.le_of_ble_eq_true rfl) ((ev_T_put_25 hf2439).deep (by decide)) ?_
  refine mg_Ev.go 5 (pc' := 77) (loc' := [some (.ref 2), some (.int a0), some (.int v444), some (.int v445), some (.int ((v450 * v451) / 1000)), some (.int v454)]) (st' := [.int v454, .int 10, .int a0, .ref 26]) (w' := (hp u455 fL fD, c, z)) rfl ?_
  obtain ⟨u456, hf2440, h⟩ := Option.bind_eq_some_iff.mp h
  refine mg_Ev.call (y := 185) (as := [.ref 26, .int a0, .int 10, .int v454]) (rest := []) (v := none) (w1 := (hp u456 fL fD, c, z)) rfl rfl (Nat.le_of_ble_eq_true rfl) ((ev_T_put_25 hf2440).deep (by decide)) ?_
  refine mg_Ev.go 5 (pc' := 88) (loc' := [some (.ref 2), some (.int a0), some (.int v444), some (.int v445), some (.int ((v450 * v451) / 1000)), some (.int v454)]) (st' := [.int v445, .int 12, .int a0, .ref 26]) (w' := (hp u456 fL fD, c, z)) rfl ?_
  obtain ⟨u457, hf2441, h⟩ := Option.bind_eq_some_iff.mp h
  refine mg_Ev.call (y := 185) (as := [.ref 26, .int a0, .int 12, .int v445]) (rest := []) (v := none) (w1 := (hp u457 fL fD, c, z)) rfl rfl (Nat.le_of_ble_eq_true rfl) ((ev_T_put_25 hf2441).deep (by decide)) ?_
  refine mg_Ev.go 9 (pc' := 107) (loc' := [some (.ref 2), some (.int a0), some (.int v444), some (.int v445), some (.int ((v450 * v451) / 1000)), some (.int v454)]) (st' := [.ref 29, .int v445, .ref 3, .int 13, .int a0, .ref 26]) (w' := (hp u457 fL fD, c, z)) rfl ?_
  obtain ⟨v458, hf2442, h⟩ := Option.bind_eq_some_iff.mp h
  refine mg_Ev.call (y := 204) (as := [.ref 3, .int v445, .ref 29]) (rest := [.int 13, .int a0, .ref 26]) (v := some (.int v458)) (w1 := (hp u457 fL fD, c, z)) rfl rfl (Nat.le_of_ble_eq_true rfl) ((ev_Tf_sourceOf_28 hf2442).deep (by decide)) ?_
  obtain ⟨u459, hf2443, h⟩ := Option.bind_eq_some_iff.mp h
  refine mg_Ev.call (y := 185) (as := [.ref 26, .int a0, .int 13, .int v458]) (rest := []) (v := none) (w1 := (hp u459 fL fD, c, z)) rfl rfl (Nat.le_of_ble_eq_true rfl) ((ev_T_put_25 hf2443).deep (by decide)) ?_
  refine mg_Ev.go 5 (pc' := 121) (loc' := [some (.ref 2), some (.int a0), some (.int v444), some (.int v445), some (.int ((v450 * v451) / 1000)), some (.int v454)]) (st' := [.int 1, .int 7, .int a0, .ref 26]) (w' := (hp u459 fL fD, c, z)) rfl ?_
  obtain ⟨u460, hf2444, h⟩ := Option.bind_eq_some_iff.mp h
  refine mg_Ev.call (y := 185) (as := [.ref 26, .int a0, .int 7, .int 1]) (rest := []) (v := none) (w1 := (hp u460 fL fD, c, z)) rfl rfl (Nat.le_of_ble_eq_true rfl) ((ev_T_put_25 hf2444).deep (by decide)) ?_
  refine mg_Ev.go 8 (pc' := 140) (loc' := [some (.ref 2), some (.int a0), some (.int v444), some (.int v445), some (.int ((v450 * v451) / 1000)), some (.int v454)]) (st' := [.int (((v450 * v451) / 1000) + v454), .int (u460 28 1), .ref 16]) (w' := (hp u460 fL fD, c, z)) rfl ?_
  obtain ⟨u467, hf2445, h⟩ := Option.bind_eq_some_iff.mp h
  refine mg_Ev.call (y := 147) (as := [.ref 16, .int (u460 28 1), .int (((v450 * v451) / 1000) + v454)]) (rest := []) (v := none) (w1 := (hp u467 fL fD, c, z)) rfl rfl (Nat.le_of_ble_eq_true rfl) ((ev_Lg_addDuty hf2445).deep (by decide)) ?_
  cases h
  exact mg_Ev.fin rfl rfl rfl

def O_assessLodged_L4 : Nat → Int32 → Int32 → mg_Rg → Option (Int32 × mg_Rg)
  | 0, _, _, _ => none
  | n + 1, x1, x2, u =>
    (T_count_25 u).bind fun v441 =>
    if v441 ≤ x2 then
    some ((x1, u))
    else
    (O_hasStatus x2 0 u).bind fun v442 =>
      if v442 = 0 then
      O_assessLodged_L4 n x1 (x2 + 1) u
      else
      (O_assess x2 u).bind fun u468 =>
        O_assessLodged_L4 n (x1 + 1) (x2 + 1) u468
set_option maxRecDepth 10000 in
set_option maxHeartbeats 4000000 in
theorem ev_O_assessLodged_L4 {sc : mg_Sc} {c z : Nat} {fL : Nat → Int64} {fD : Nat → UInt64} : ∀ (n : Nat) (x1 : Int32) (x2 : Int32) (u : mg_Rg) (res : Int32 × mg_Rg), O_assessLodged_L4 n x1 x2 u = some res → ∀ r, (match res with | (y1, yu) => mg_Ev sc 5 158 38 [none, some (.int y1), none] [] (hp yu fL fD, c, z) r) → mg_Ev sc 5 158 4 [some (.ref 2), some (.int x1), some (.int x2)] [] (hp u fL fD, c, z) r := by
  intro n
  induction n with
  | zero => intro x1 x2 u res h; cases h
  | succ n ih =>
    intro x1 x2 u res h r K
    unfold O_assessLodged_L4 at h
    refine mg_Ev.go 3 (pc' := 9) (loc' := [some (.ref 2), some (.int x1), some (.int x2)]) (st' := [.ref 26, .int x2]) (w' := (hp u fL fD, c, z)) rfl ?_
    obtain ⟨v441, hf2446, h⟩ := Option.bind_eq_some_iff.mp h
    refine mg_Ev.call (y := 181) (as := [.ref 26]) (rest := [.int x2]) (v := some (.int v441)) (w1 := (hp u fL fD, c, z)) rfl rfl (Nat.le_of_ble_eq_true rfl) ((ev_T_count_25 hf2446).deep (by decide)) ?_
    refine mg_Ev.br (P := v441 ≤ x2) (t := 38) (nx := 15) (st' := []) rfl rfl rfl rfl (fun hc2447 => ?_) (fun hc2447 => ?_)
    · rw [if_pos hc2447] at h
      cases h
      exact mg_Ev.more (loc := [none, some (.int x1), none]) K ⟨rfl, trivial⟩
    · rw [if_neg hc2447] at h
      refine mg_Ev.go 3 (pc' := 18) (loc' := [some (.ref 2), some (.int x1), some (.int x2)]) (st' := [.int 0, .int x2, .ref 2]) (w' := (hp u fL fD, c, z)) rfl ?_
      obtain ⟨v442, hf2448, h⟩ := Option.bind_eq_some_iff.mp h
      refine mg_Ev.call (y := 153) (as := [.ref 2, .int x2, .int 0]) (rest := []) (v := some (.int v442)) (w1 := (hp u fL fD, c, z)) rfl rfl (Nat.le_of_ble_eq_true rfl) ((ev_O_hasStatus hf2448).deep (by decide)) ?_
      refine mg_Ev.br (P := v442 = 0) (t := 32) (nx := 24) (st' := []) rfl rfl rfl rfl (fun hc2449 => ?_) (fun hc2449 => ?_)
      · rw [if_pos hc2449] at h
        refine mg_Ev.go 2 (pc' := 4) (loc' := [some (.ref 2), some (.int x1), some (.int (x2 + 1))]) (st' := []) (w' := (hp u fL fD, c, z)) rfl ?_
        exact mg_Ev.more (loc := [some (.ref 2), some (.int x1), some (.int (x2 + 1))]) (ih _ _ _ _ h _ K) ⟨rfl, ⟨rfl, ⟨rfl, trivial⟩⟩⟩
      · rw [if_neg hc2449] at h
        refine mg_Ev.go 2 (pc' := 26) (loc' := [some (.ref 2), some (.int x1), some (.int x2)]) (st' := [.int x2, .ref 2]) (w' := (hp u fL fD, c, z)) rfl ?_
        obtain ⟨u468, hf2450, h⟩ := Option.bind_eq_some_iff.mp h
        refine mg_Ev.call (y := 170) (as := [.ref 2, .int x2]) (rest := []) (v := none) (w1 := (hp u468 fL fD, c, z)) rfl rfl (Nat.le_of_ble_eq_true rfl) ((ev_O_assess hf2450).deep (by decide)) ?_
        refine mg_Ev.go 3 (pc' := 4) (loc' := [some (.ref 2), some (.int (x1 + 1)), some (.int (x2 + 1))]) (st' := []) (w' := (hp u468 fL fD, c, z)) rfl ?_
        exact mg_Ev.more (loc := [some (.ref 2), some (.int (x1 + 1)), some (.int (x2 + 1))]) (ih _ _ _ _ h _ K) ⟨rfl, ⟨rfl, ⟨rfl, trivial⟩⟩⟩

def O_assessLodged (u : mg_Rg) : Option (Int32 × mg_Rg) :=
  (O_assessLodged_L4 mg_F 0 0 u).bind fun q2451 => match q2451 with
  | (x469, u470) =>
    some (x469, u470)

set_option maxRecDepth 10000 in
set_option maxHeartbeats 4000000 in
theorem ev_O_assessLodged {sc : mg_Sc} {c z : Nat} {fL : Nat → Int64} {fD : Nat → UInt64} {u : mg_Rg} {p : Int32 × mg_Rg} (h : O_assessLodged u = some p) : mg_Ev sc 5 158 0 (mg_entry 158 [.ref 2]) [] (hp u fL fD, c, z) (.inl (some (.int p.1)), (hp p.2 fL fD, c, z)) := by
  unfold O_assessLodged at h
  show mg_Ev _ _ _ 0 [some (.ref 2), none, none] [] _ _
  refine mg_Ev.go 4 (pc' := 4) (loc' := [some (.ref 2), some (.int 0), some (.int 0)]) (st' := []) (w' := (hp u fL fD, c, z)) rfl ?_
  obtain ⟨⟨x469, u470⟩, hl2452, h⟩ := Option.bind_eq_some_iff.mp h
  try dsimp only at h
  refine mg_Ev.more (loc := [some (.ref 2), some (.int 0), some (.int 0)]) (ev_O_assessLodged_L4 _ _ _ _ _ hl2452 _ ?_) ⟨rfl, ⟨rfl, ⟨rfl, trivial⟩⟩⟩
  show mg_Ev _ _ _ 38 [none, some (.int x469), none] [] (hp u470 fL fD, c, z) _
  refine mg_Ev.go 1 (pc' := 39) (loc' := [none, some (.int x469), none]) (st' := [.int x469]) (w' := (hp u470 fL fD, c, z)) rfl ?_
  cases h
  exact mg_Ev.fin rfl rfl rfl

def C_pass_L53 : Nat → Int32 → Int32 → mg_Rg → Option (mg_Rg)
  | 0, _, _, _ => none
  | n + 1, x1, x2, u =>
    (T_count_22 u).bind fun v405 =>
    if v405 ≤ x2 then
    some (u)
    else
    (O_goodQuantity x2 u).bind fun p408 => match p408 with
      | (v406, u407) =>
        (O_serve x2 v406 u407).bind fun u439 =>
        C_pass_L53 n x1 (x2 + 1) u439
set_option maxRecDepth 10000 in
set_option maxHeartbeats 4000000 in
theorem ev_C_pass_L53 {sc : mg_Sc} {c z : Nat} {fL : Nat → Int64} {fD : Nat → UInt64} : ∀ (n : Nat) (x1 : Int32) (x2 : Int32) (u : mg_Rg) (res : mg_Rg), C_pass_L53 n x1 x2 u = some res → ∀ r, (match res with | yu => mg_Ev sc 6 21 89 [some (.ref 1), some (.int x1), none] [] (hp yu fL fD, c, z) r) → mg_Ev sc 6 21 53 [some (.ref 1), some (.int x1), some (.int x2)] [] (hp u fL fD, c, z) r := by
  intro n
  induction n with
  | zero => intro x1 x2 u res h; cases h
  | succ n ih =>
    intro x1 x2 u res h r K
    unfold C_pass_L53 at h
    refine mg_Ev.go 4 (pc' := 61) (loc' := [some (.ref 1), some (.int x1), some (.int x2)]) (st' := [.ref 23, .int x2]) (w' := (hp u fL fD, c, z)) rfl ?_
    obtain ⟨v405, hf2453, h⟩ := Option.bind_eq_some_iff.mp h
    refine mg_Ev.call (y := 181) (as := [.ref 23]) (rest := [.int x2]) (v := some (.int v405)) (w1 := (hp u fL fD, c, z)) rfl rfl (Nat.le_of_ble_eq_true rfl) ((ev_T_count_22 hf2453).deep (by decide)) ?_
    refine mg_Ev.br (P := v405 ≤ x2) (t := 89) (nx := 67) (st' := []) rfl rfl rfl rfl (fun hc2454 => ?_) (fun hc2454 => ?_)
    · rw [if_pos hc2454] at h
      cases h
      exact mg_Ev.more (loc := [some (.ref 1), some (.int x1), none]) K ⟨rfl, ⟨rfl, trivial⟩⟩
    · rw [if_neg hc2454] at h
      refine mg_Ev.go 6 (pc' := 77) (loc' := [some (.ref 1), some (.int x1), some (.int x2)]) (st' := [.int x2, .ref 2, .int x2, .ref 2]) (w' := (hp u fL fD, c, z)) rfl ?_
      obtain ⟨⟨v406, u407⟩, hf2455, h⟩ := Option.bind_eq_some_iff.mp h
      try dsimp only at h
      refine mg_Ev.call (y := 156) (as := [.ref 2, .int x2]) (rest := [.int x2, .ref 2]) (v := some (.int v406)) (w1 := (hp u407 fL fD, c, z)) rfl rfl (Nat.le_of_ble_eq_true rfl) ((ev_O_goodQuantity hf2455).deep (by decide)) ?_
      obtain ⟨u439, hf2456, h⟩ := Option.bind_eq_some_iff.mp h
      refine mg_Ev.call (y := 157) (as := [.ref 2, .int x2, .int v406]) (rest := []) (v := none) (w1 := (hp u439 fL fD, c, z)) rfl rfl (Nat.le_of_ble_eq_true rfl) ((ev_O_serve hf2456).deep (by decide)) ?_
      refine mg_Ev.go 2 (pc' := 53) (loc' := [some (.ref 1), some (.int x1), some (.int (x2 + 1))]) (st' := []) (w' := (hp u439 fL fD, c, z)) rfl ?_
      exact mg_Ev.more (loc := [some (.ref 1), some (.int x1), some (.int (x2 + 1))]) (ih _ _ _ _ h _ K) ⟨rfl, ⟨rfl, ⟨rfl, trivial⟩⟩⟩

def C_pass (a0 : Int32) (u : mg_Rg) : Option ((Int32 ⊕ Nat) × mg_Rg) :=
  (C_isWithin a0 1 99 u).bind fun v402 =>
  if v402 = 0 then
  some (.inr 1, u)
  else
  (Lg_day u).bind fun v403 =>
    if (v403 + a0) ≤ 999 then
    (C_keepForUndo u).bind fun u404 =>
      (C_pass_L53 mg_F a0 0 u404).bind fun q2457 => match q2457 with
      | u440 =>
        (O_assessLodged u440).bind fun p473 => match p473 with
        | (v471, u472) =>
          (Lg_day u472).bind fun v474 =>
          (T_put_16 0 0 (v474 + a0) u472).bind fun u475 =>
          some (.inl v471, u475)
    else
    some (.inr 2, u)

set_option maxRecDepth 10000 in
set_option maxHeartbeats 4000000 in
theorem ev_C_pass {sc : mg_Sc} {c z : Nat} {fL : Nat → Int64} {fD : Nat → UInt64} {a0 : Int32} {u : mg_Rg} {p : (Int32 ⊕ Nat) × mg_Rg} (h : C_pass a0 u = some p) : mg_Ev sc 6 21 0 (mg_entry 21 [.ref 1, .int a0]) [] (hp u fL fD, c, z) (xri p.1, xw p.1 (hp p.2 fL fD) c z) := by
  unfold C_pass at h
  show mg_Ev _ _ _ 0 [some (.ref 1), some (.int a0), none] [] _ _
  refine mg_Ev.go 3 (pc' := 4) (loc' := [some (.ref 1), some (.int a0), none]) (st' := [.int 99, .int 1, .int a0]) (w' := (hp u fL fD, c, z)) rfl ?_
  obtain ⟨v402, hf2458, h⟩ := Option.bind_eq_some_iff.mp h
  refine mg_Ev.call (y := 54) (as := [.int a0, .int 1, .int 99]) (rest := []) (v := some (.int v402)) (w1 := (hp u fL fD, c, z)) rfl rfl (Nat.le_of_ble_eq_true rfl) ((ev_C_isWithin hf2458).deep (by decide)) ?_
  refine mg_Ev.br (P := v402 = 0) (t := 10) (nx := 21) (st' := []) rfl rfl rfl rfl (fun hc2459 => ?_) (fun hc2459 => ?_)
  · rw [if_pos hc2459] at h
    cases h
    exact mg_Ev.fin rfl rfl rfl
  · rw [if_neg hc2459] at h
    refine mg_Ev.go 2 (pc' := 25) (loc' := [some (.ref 1), some (.int a0), none]) (st' := [.ref 16]) (w' := (hp u fL fD, c, z)) rfl ?_
    obtain ⟨v403, hf2460, h⟩ := Option.bind_eq_some_iff.mp h
    refine mg_Ev.call (y := 144) (as := [.ref 16]) (rest := []) (v := some (.int v403)) (w1 := (hp u fL fD, c, z)) rfl rfl (Nat.le_of_ble_eq_true rfl) ((ev_Lg_day hf2460).deep (by decide)) ?_
    refine mg_Ev.go 3 (pc' := 33) (loc' := [some (.ref 1), some (.int a0), none]) (st' := [.int 999, .int (v403 + a0)]) (w' := (hp u fL fD, c, z)) rfl ?_
    refine mg_Ev.br (P := (v403 + a0) ≤ 999) (t := 47) (nx := 36) (st' := []) rfl rfl rfl rfl (fun hc2461 => ?_) (fun hc2461 => ?_)
    · rw [if_pos hc2461] at h
      refine mg_Ev.go 1 (pc' := 48) (loc' := [some (.ref 1), some (.int a0), none]) (st' := [.ref 1]) (w' := (hp u fL fD, c, z)) rfl ?_
      obtain ⟨u404, hf2462, h⟩ := Option.bind_eq_some_iff.mp h
      refine mg_Ev.call (y := 38) (as := [.ref 1]) (rest := []) (v := none) (w1 := (hp u404 fL fD, c, z)) rfl rfl (Nat.le_of_ble_eq_true rfl) ((ev_C_keepForUndo hf2462).deep (by decide)) ?_
      refine mg_Ev.go 2 (pc' := 53) (loc' := [some (.ref 1), some (.int a0), some (.int 0)]) (st' := []) (w' := (hp u404 fL fD, c, z)) rfl ?_
      obtain ⟨u440, hl2463, h⟩ := Option.bind_eq_some_iff.mp h
      try dsimp only at h
      refine mg_Ev.more (loc := [some (.ref 1), some (.int a0), some (.int 0)]) (ev_C_pass_L53 _ _ _ _ _ hl2463 _ ?_) ⟨rfl, ⟨rfl, ⟨rfl, trivial⟩⟩⟩
      show mg_Ev _ _ _ 89 [some (.ref 1), some (.int a0), none] [] (hp u440 fL fD, c, z) _
      refine mg_Ev.go 2 (pc' := 93) (loc' := [some (.ref 1), some (.int a0), none]) (st' := [.ref 2]) (w' := (hp u440 fL fD, c, z)) rfl ?_
      obtain ⟨⟨v471, u472⟩, hf2464, h⟩ := Option.bind_eq_some_iff.mp h
      try dsimp only at h
      refine mg_Ev.call (y := 158) (as := [.ref 2]) (rest := []) (v := some (.int v471)) (w1 := (hp u472 fL fD, c, z)) rfl rfl (Nat.le_of_ble_eq_true rfl) ((ev_O_assessLodged hf2464).deep (by decide)) ?_
      refine mg_Ev.go 8 (pc' := 110) (loc' := [some (.ref 1), some (.int a0), some (.int v471)]) (st' := [.ref 16, .int 0, .int 0, .ref 17]) (w' := (hp u472 fL fD, c, z)) rfl ?_
      obtain ⟨v474, hf2465, h⟩ := Option.bind_eq_some_iff.mp h
      refine mg_Ev.call (y := 144) (as := [.ref 16]) (rest := [.int 0, .int 0, .ref 17]) (v := some (.int v474)) (w1 := (hp u472 fL fD, c, z)) rfl rfl (Nat.le_of_ble_eq_true rfl) ((ev_Lg_day hf2465).deep (by decide)) ?_
      refine mg_Ev.go 2 (pc' := 115) (loc' := [some (.ref 1), some (.int a0), some (.int v471)]) (st' := [.int (v474 + a0), .int 0, .int 0, .ref 17]) (w' := (hp u472 fL fD, c, z)) rfl ?_
      obtain ⟨u475, hf2466, h⟩ := Option.bind_eq_some_iff.mp h
      refine mg_Ev.call (y := 185) (as := [.ref 17, .int 0, .int 0, .int (v474 + a0)]) (rest := []) (v := none) (w1 := (hp u475 fL fD, c, z)) rfl rfl (Nat.le_of_ble_eq_true rfl) ((ev_T_put_16 hf2466).deep (by decide)) ?_
      refine mg_Ev.go 1 (pc' := 119) (loc' := [some (.ref 1), some (.int a0), some (.int v471)]) (st' := [.int v471]) (w' := (hp u475 fL fD, c, z)) rfl ?_
      cases h
      exact mg_Ev.fin rfl rfl rfl
    · rw [if_neg hc2461] at h
      cases h
      exact mg_Ev.fin rfl rfl rfl

def O_refusalReason (a0 : Int32) (u : mg_Rg) : Option (Int32) :=
  (O_hasStatus a0 0 u).bind fun v479 =>
  if v479 = 0 then
  (O_hasStatus a0 2 u).bind fun v480 =>
    if v480 = 0 then
    (Lg_day u).bind fun v481 =>
      (T_get_25 a0 6 u).bind fun v482 =>
      (Tf_setting 1 u).bind fun v483 =>
      if (v481 - v482) ≤ v483 then
      some 0
      else
      some 3
    else
    some 2
  else
  some 1

set_option maxRecDepth 10000 in
set_option maxHeartbeats 4000000 in
theorem ev_O_refusalReason {sc : mg_Sc} {c z : Nat} {fL : Nat → Int64} {fD : Nat → UInt64} {a0 : Int32} {u : mg_Rg} {v : Int32} (h : O_refusalReason a0 u = some v) : mg_Ev sc 2 159 0 (mg_entry 159 [.ref 2, .int a0]) [] (hp u fL fD, c, z) (.inl (some (.int v)), (hp u fL fD, c, z)) := by
  unfold O_refusalReason at h
  show mg_Ev _ _ _ 0 [some (.ref 2), some (.int a0), none] [] _ _
  refine mg_Ev.go 3 (pc' := 3) (loc' := [some (.ref 2), some (.int a0), none]) (st' := [.int 0, .int a0, .ref 2]) (w' := (hp u fL fD, c, z)) rfl ?_
  obtain ⟨v479, hf2467, h⟩ := Option.bind_eq_some_iff.mp h
  refine mg_Ev.call (y := 153) (as := [.ref 2, .int a0, .int 0]) (rest := []) (v := some (.int v479)) (w1 := (hp u fL fD, c, z)) rfl rfl (Nat.le_of_ble_eq_true rfl) ((ev_O_hasStatus hf2467).deep (by decide)) ?_
  refine mg_Ev.br (P := v479 = 0) (t := 11) (nx := 9) (st' := []) rfl rfl rfl rfl (fun hc2468 => ?_) (fun hc2468 => ?_)
  · rw [if_pos hc2468] at h
    refine mg_Ev.go 3 (pc' := 14) (loc' := [some (.ref 2), some (.int a0), none]) (st' := [.int 2, .int a0, .ref 2]) (w' := (hp u fL fD, c, z)) rfl ?_
    obtain ⟨v480, hf2469, h⟩ := Option.bind_eq_some_iff.mp h
    refine mg_Ev.call (y := 153) (as := [.ref 2, .int a0, .int 2]) (rest := []) (v := some (.int v480)) (w1 := (hp u fL fD, c, z)) rfl rfl (Nat.le_of_ble_eq_true rfl) ((ev_O_hasStatus hf2469).deep (by decide)) ?_
    refine mg_Ev.br (P := v480 = 0) (t := 22) (nx := 20) (st' := []) rfl rfl rfl rfl (fun hc2470 => ?_) (fun hc2470 => ?_)
    · rw [if_pos hc2470] at h
      refine mg_Ev.go 2 (pc' := 26) (loc' := [some (.ref 2), some (.int a0), none]) (st' := [.ref 16]) (w' := (hp u fL fD, c, z)) rfl ?_
      obtain ⟨v481, hf2471, h⟩ := Option.bind_eq_some_iff.mp h
      refine mg_Ev.call (y := 144) (as := [.ref 16]) (rest := []) (v := some (.int v481)) (w1 := (hp u fL fD, c, z)) rfl rfl (Nat.le_of_ble_eq_true rfl) ((ev_Lg_day hf2471).deep (by decide)) ?_
      refine mg_Ev.go 4 (pc' := 36) (loc' := [some (.ref 2), some (.int a0), none]) (st' := [.int 6, .int a0, .ref 26, .int v481]) (w' := (hp u fL fD, c, z)) rfl ?_
      obtain ⟨v482, hf2472, h⟩ := Option.bind_eq_some_iff.mp h
      refine mg_Ev.call (y := 184) (as := [.ref 26, .int a0, .int 6]) (rest := [.int v481]) (v := some (.int v482)) (w1 := (hp u fL fD, c, z)) rfl rfl (Nat.le_of_ble_eq_true rfl) ((ev_T_get_25 hf2472).deep (by decide)) ?_
      refine mg_Ev.go 6 (pc' := 47) (loc' := [some (.ref 2), some (.int a0), some (.int (v481 - v482))]) (st' := [.int 1, .ref 3, .int (v481 - v482)]) (w' := (hp u fL fD, c, z)) rfl ?_
      obtain ⟨v483, hf2473, h⟩ := Option.bind_eq_some_iff.mp h
      refine mg_Ev.call (y := 195) (as := [.ref 3, .int 1]) (rest := [.int (v481 - v482)]) (v := some (.int v483)) (w1 := (hp u fL fD, c, z)) rfl rfl (Nat.le_of_ble_eq_true rfl) ((ev_Tf_setting hf2473).deep (by decide)) ?_
      refine mg_Ev.br (P := (v481 - v482) ≤ v483) (t := 57) (nx := 53) (st' := []) rfl rfl rfl rfl (fun hc2474 => ?_) (fun hc2474 => ?_)
      · rw [if_pos hc2474] at h
        refine mg_Ev.go 1 (pc' := 58) (loc' := [some (.ref 2), some (.int a0), some (.int (v481 - v482))]) (st' := [.int 0]) (w' := (hp u fL fD, c, z)) rfl ?_
        cases h
        exact mg_Ev.fin rfl rfl rfl
      · rw [if_neg hc2474] at h
        refine mg_Ev.go 2 (pc' := 58) (loc' := [some (.ref 2), some (.int a0), some (.int (v481 - v482))]) (st' := [.int 3]) (w' := (hp u fL fD, c, z)) rfl ?_
        cases h
        exact mg_Ev.fin rfl rfl rfl
    · rw [if_neg hc2470] at h
      refine mg_Ev.go 1 (pc' := 21) (loc' := [some (.ref 2), some (.int a0), none]) (st' := [.int 2]) (w' := (hp u fL fD, c, z)) rfl ?_
      cases h
      exact mg_Ev.fin rfl rfl rfl
  · rw [if_neg hc2468] at h
    refine mg_Ev.go 1 (pc' := 10) (loc' := [some (.ref 2), some (.int a0), none]) (st' := [.int 1]) (w' := (hp u fL fD, c, z)) rfl ?_
    cases h
    exact mg_Ev.fin rfl rfl rfl

def C_requireNoRefusal (a0 : Int32) (u : mg_Rg) : Option ((Unit ⊕ Nat) × mg_Rg) :=
  (O_refusalReason a0 u).bind fun v484 =>
  if v484 = 0 then
  some (.inl (), u)
  else
  some (.inr 4, (mg_up u 0 9 v484))

set_option maxRecDepth 10000 in
set_option maxHeartbeats 4000000 in
theorem ev_C_requireNoRefusal {sc : mg_Sc} {c z : Nat} {fL : Nat → Int64} {fD : Nat → UInt64} {a0 : Int32} {u : mg_Rg} {p : (Unit ⊕ Nat) × mg_Rg} (h : C_requireNoRefusal a0 u = some p) : mg_Ev sc 3 45 0 (mg_entry 45 [.ref 1, .int a0]) [] (hp u fL fD, c, z) (xru p.1, xw p.1 (hp p.2 fL fD) c z) := by
  unfold C_requireNoRefusal at h
  show mg_Ev _ _ _ 0 [some (.ref 1), some (.int a0), none] [] _ _
  refine mg_Ev.go 3 (pc' := 5) (loc' := [some (.ref 1), some (.int a0), none]) (st' := [.int a0, .ref 2]) (w' := (hp u fL fD, c, z)) rfl ?_
  obtain ⟨v484, hf2475, h⟩ := Option.bind_eq_some_iff.mp h
  refine mg_Ev.call (y := 159) (as := [.ref 2, .int a0]) (rest := []) (v := some (.int v484)) (w1 := (hp u fL fD, c, z)) rfl rfl (Nat.le_of_ble_eq_true rfl) ((ev_O_refusalReason hf2475).deep (by decide)) ?_
  refine mg_Ev.go 2 (pc' := 10) (loc' := [some (.ref 1), some (.int a0), some (.int v484)]) (st' := [.int v484]) (w' := (hp u fL fD, c, z)) rfl ?_
  refine mg_Ev.br (P := v484 = 0) (t := 29) (nx := 13) (st' := []) rfl rfl rfl rfl (fun hc2476 => ?_) (fun hc2476 => ?_)
  · rw [if_pos hc2476] at h
    cases h
    exact mg_Ev.fin rfl rfl rfl
  · rw [if_neg hc2476] at h
    refine mg_Ev.go 2 (pc' := 15) (loc' := [some (.ref 1), some (.int a0), some (.int v484)]) (st' := [.int v484, .ref 1]) (w' := (hp u fL fD, c, z)) rfl ?_
    refine mg_Ev.put rfl (hpg_0 _ _ _) (Nat.le_of_ble_eq_true rfl) rfl (hpf_0_9 _ _ _ _ _ _) ?_
    cases h
    exact mg_Ev.fin rfl rfl rfl

def O_keptOf (a0 : Int32) (u : mg_Rg) : Option (Int32) :=
  (O_hasStatus a0 1 u).bind fun v489 =>
  if v489 = 0 then
  some 0
  else
  (T_get_25 a0 9 u).bind fun v490 =>
    (T_get_25 a0 10 u).bind fun v491 =>
    some (v490 + v491)

set_option maxRecDepth 10000 in
set_option maxHeartbeats 4000000 in
theorem ev_O_keptOf {sc : mg_Sc} {c z : Nat} {fL : Nat → Int64} {fD : Nat → UInt64} {a0 : Int32} {u : mg_Rg} {v : Int32} (h : O_keptOf a0 u = some v) : mg_Ev sc 2 162 0 (mg_entry 162 [.ref 2, .int a0]) [] (hp u fL fD, c, z) (.inl (some (.int v)), (hp u fL fD, c, z)) := by
  unfold O_keptOf at h
  show mg_Ev _ _ _ 0 [some (.ref 2), some (.int a0)] [] _ _
  refine mg_Ev.go 3 (pc' := 3) (loc' := [some (.ref 2), some (.int a0)]) (st' := [.int 1, .int a0, .ref 2]) (w' := (hp u fL fD, c, z)) rfl ?_
  obtain ⟨v489, hf2477, h⟩ := Option.bind_eq_some_iff.mp h
  refine mg_Ev.call (y := 153) (as := [.ref 2, .int a0, .int 1]) (rest := []) (v := some (.int v489)) (w1 := (hp u fL fD, c, z)) rfl rfl (Nat.le_of_ble_eq_true rfl) ((ev_O_hasStatus hf2477).deep (by decide)) ?_
  refine mg_Ev.br (P := v489 = 0) (t := 9) (nx := 11) (st' := []) rfl rfl rfl rfl (fun hc2478 => ?_) (fun hc2478 => ?_)
  · rw [if_pos hc2478] at h
    refine mg_Ev.go 1 (pc' := 10) (loc' := [some (.ref 2), some (.int a0)]) (st' := [.int 0]) (w' := (hp u fL fD, c, z)) rfl ?_
    cases h
    exact mg_Ev.fin rfl rfl rfl
  · rw [if_neg hc2478] at h
    refine mg_Ev.go 4 (pc' := 18) (loc' := [some (.ref 2), some (.int a0)]) (st' := [.int 9, .int a0, .ref 26]) (w' := (hp u fL fD, c, z)) rfl ?_
    obtain ⟨v490, hf2479, h⟩ := Option.bind_eq_some_iff.mp h
    refine mg_Ev.call (y := 184) (as := [.ref 26, .int a0, .int 9]) (rest := []) (v := some (.int v490)) (w1 := (hp u fL fD, c, z)) rfl rfl (Nat.le_of_ble_eq_true rfl) ((ev_T_get_25 hf2479).deep (by decide)) ?_
    refine mg_Ev.go 4 (pc' := 28) (loc' := [some (.ref 2), some (.int a0)]) (st' := [.int 10, .int a0, .ref 26, .int v490]) (w' := (hp u fL fD, c, z)) rfl ?_
    obtain ⟨v491, hf2480, h⟩ := Option.bind_eq_some_iff.mp h
    refine mg_Ev.call (y := 184) (as := [.ref 26, .int a0, .int 10]) (rest := [.int v490]) (v := some (.int v491)) (w1 := (hp u fL fD, c, z)) rfl rfl (Nat.le_of_ble_eq_true rfl) ((ev_T_get_25 hf2480).deep (by decide)) ?_
    refine mg_Ev.go 1 (pc' := 32) (loc' := [some (.ref 2), some (.int a0)]) (st' := [.int (v490 + v491)]) (w' := (hp u fL fD, c, z)) rfl ?_
    cases h
    exact mg_Ev.fin rfl rfl rfl

def Lg_giveBack (a0 : Int32) (a1 : Int32) (u : mg_Rg) : Option (mg_Rg) :=
  (T_increase_16 2 0 a1 u).bind fun u495 =>
  (T_increase_19 a0 0 (0 - a1) u495).bind fun u496 =>
  some u496

set_option maxRecDepth 10000 in
set_option maxHeartbeats 4000000 in
theorem ev_Lg_giveBack {sc : mg_Sc} {c z : Nat} {fL : Nat → Int64} {fD : Nat → UInt64} {a0 : Int32} {a1 : Int32} {u : mg_Rg} {v : mg_Rg} (h : Lg_giveBack a0 a1 u = some v) : mg_Ev sc 2 148 0 (mg_entry 148 [.ref 16, .int a0, .int a1]) [] (hp u fL fD, c, z) (.inl none, (hp v fL fD, c, z)) := by
  unfold Lg_giveBack at h
  show mg_Ev _ _ _ 0 [some (.ref 16), some (.int a0), some (.int a1)] [] _ _
  refine mg_Ev.go 5 (pc' := 7) (loc' := [some (.ref 16), some (.int a0), some (.int a1)]) (st' := [.int a1, .int 0, .int 2, .ref 17]) (w' := (hp u fL fD, c, z)) rfl ?_
  obtain ⟨u495, hf2481, h⟩ := Option.bind_eq_some_iff.mp h
  refine mg_Ev.call (y := 186) (as := [.ref 17, .int 2, .int 0, .int a1]) (rest := []) (v := none) (w1 := (hp u495 fL fD, c, z)) rfl rfl (Nat.le_of_ble_eq_true rfl) ((ev_T_increase_16 hf2481).deep (by decide)) ?_
  refine mg_Ev.go 6 (pc' := 18) (loc' := [some (.ref 16), some (.int a0), some (.int a1)]) (st' := [.int (0 - a1), .int 0, .int a0, .ref 20]) (w' := (hp u495 fL fD, c, z)) rfl ?_
  obtain ⟨u496, hf2482, h⟩ := Option.bind_eq_some_iff.mp h
  refine mg_Ev.call (y := 186) (as := [.ref 20, .int a0, .int 0, .int (0 - a1)]) (rest := []) (v := none) (w1 := (hp u496 fL fD, c, z)) rfl rfl (Nat.le_of_ble_eq_true rfl) ((ev_T_increase_19 hf2482).deep (by decide)) ?_
  cases h
  exact mg_Ev.fin rfl rfl rfl

def O_giveBack (a0 : Int32) (a1 : Int32) (u : mg_Rg) : Option (mg_Rg) :=
  (T_increase_25 a0 11 a1 u).bind fun u493 =>
  (T_get_25 a0 3 u493).bind fun v494 =>
  (Lg_giveBack v494 a1 u493).bind fun u497 =>
  some u497

set_option maxRecDepth 10000 in
set_option maxHeartbeats 4000000 in
theorem ev_O_giveBack {sc : mg_Sc} {c z : Nat} {fL : Nat → Int64} {fD : Nat → UInt64} {a0 : Int32} {a1 : Int32} {u : mg_Rg} {v : mg_Rg} (h : O_giveBack a0 a1 u = some v) : mg_Ev sc 3 173 0 (mg_entry 173 [.ref 2, .int a0, .int a1]) [] (hp u fL fD, c, z) (.inl none, (hp v fL fD, c, z)) := by
  unfold O_giveBack at h
  show mg_Ev _ _ _ 0 [some (.ref 2), some (.int a0), some (.int a1)] [] _ _
  refine mg_Ev.go 5 (pc' := 8) (loc' := [some (.ref 2), some (.int a0), some (.int a1)]) (st' := [.int a1, .int 11, .int a0, .ref 26]) (w' := (hp u fL fD, c, z)) rfl ?_
  obtain ⟨u493, hf2483, h⟩ := Option.bind_eq_some_iff.mp h
  refine mg_Ev.call (y := 186) (as := [.ref 26, .int a0, .int 11, .int a1]) (rest := []) (v := none) (w1 := (hp u493 fL fD, c, z)) rfl rfl (Nat.le_of_ble_eq_true rfl) ((ev_T_increase_25 hf2483).deep (by decide)) ?_
  refine mg_Ev.go 6 (pc' := 21) (loc' := [some (.ref 2), some (.int a0), some (.int a1)]) (st' := [.int 3, .int a0, .ref 26, .ref 16]) (w' := (hp u493 fL fD, c, z)) rfl ?_
  obtain ⟨v494, hf2484, h⟩ := Option.bind_eq_some_iff.mp h
  refine mg_Ev.call (y := 184) (as := [.ref 26, .int a0, .int 3]) (rest := [.ref 16]) (v := some (.int v494)) (w1 := (hp u493 fL fD, c, z)) rfl rfl (Nat.le_of_ble_eq_true rfl) ((ev_T_get_25 hf2484).deep (by decide)) ?_
  refine mg_Ev.go 1 (pc' := 25) (loc' := [some (.ref 2), some (.int a0), some (.int a1)]) (st' := [.int a1, .int v494, .ref 16]) (w' := (hp u493 fL fD, c, z)) rfl ?_
  obtain ⟨u497, hf2485, h⟩ := Option.bind_eq_some_iff.mp h
  refine mg_Ev.call (y := 148) (as := [.ref 16, .int v494, .int a1]) (rest := []) (v := none) (w1 := (hp u497 fL fD, c, z)) rfl rfl (Nat.le_of_ble_eq_true rfl) ((ev_Lg_giveBack hf2485).deep (by decide)) ?_
  cases h
  exact mg_Ev.fin rfl rfl rfl

def O_returnUnits (a0 : Int32) (u : mg_Rg) : Option (mg_Rg) :=
  (T_get_25 a0 5 u).bind fun v499 =>
  (T_get_25 a0 8 u).bind fun v500 =>
  (Lg_day u).bind fun v501 =>
  (T_get_22 v499 5 u).bind fun v502 =>
  if v501 ≤ v502 then
  (T_increase_22 v499 7 (0 - v500) u).bind fun u503 =>
    (T_increase_22 v499 6 v500 u503).bind fun u504 =>
    (T_put_25 a0 8 0 u504).bind fun u505 =>
    some u505
  else
  (T_increase_22 v499 7 (0 - v500) u).bind fun u506 =>
    (T_increase_22 v499 8 v500 u506).bind fun u507 =>
    (T_put_25 a0 8 0 u507).bind fun u508 =>
    some u508

set_option maxRecDepth 10000 in
set_option maxHeartbeats 4000000 in
theorem ev_O_returnUnits {sc : mg_Sc} {c z : Nat} {fL : Nat → Int64} {fD : Nat → UInt64} {a0 : Int32} {u : mg_Rg} {v : mg_Rg} (h : O_returnUnits a0 u = some v) : mg_Ev sc 2 174 0 (mg_entry 174 [.ref 2, .int a0]) [] (hp u fL fD, c, z) (.inl none, (hp v fL fD, c, z)) := by
  unfold O_returnUnits at h
  show mg_Ev _ _ _ 0 [some (.ref 2), some (.int a0), none, none, none] [] _ _
  refine mg_Ev.go 4 (pc' := 6) (loc' := [some (.ref 2), some (.int a0), none, none, none]) (st' := [.int 5, .int a0, .ref 26]) (w' := (hp u fL fD, c, z)) rfl ?_
  obtain ⟨v499, hf2486, h⟩ := Option.bind_eq_some_iff.mp h
  refine mg_Ev.call (y := 184) (as := [.ref 26, .int a0, .int 5]) (rest := []) (v := some (.int v499)) (w1 := (hp u fL fD, c, z)) rfl rfl (Nat.le_of_ble_eq_true rfl) ((ev_T_get_25 hf2486).deep (by decide)) ?_
  refine mg_Ev.go 5 (pc' := 17) (loc' := [some (.ref 2), some (.int a0), some (.int v499), none, none]) (st' := [.int 8, .int a0, .ref 26]) (w' := (hp u fL fD, c, z)) rfl ?_
  obtain ⟨v500, hf2487, h⟩ := Option.bind_eq_some_iff.mp h
  refine mg_Ev.call (y := 184) (as := [.ref 26, .int a0, .int 8]) (rest := []) (v := some (.int v500)) (w1 := (hp u fL fD, c, z)) rfl rfl (Nat.le_of_ble_eq_true rfl) ((ev_T_get_25 hf2487).deep (by decide)) ?_
  refine mg_Ev.go 3 (pc' := 25) (loc' := [some (.ref 2), some (.int a0), some (.int v499), some (.int v500), none]) (st' := [.ref 16]) (w' := (hp u fL fD, c, z)) rfl ?_
  obtain ⟨v501, hf2488, h⟩ := Option.bind_eq_some_iff.mp h
  refine mg_Ev.call (y := 144) (as := [.ref 16]) (rest := []) (v := some (.int v501)) (w1 := (hp u fL fD, c, z)) rfl rfl (Nat.le_of_ble_eq_true rfl) ((ev_Lg_day hf2488).deep (by decide)) ?_
  refine mg_Ev.go 4 (pc' := 34) (loc' := [some (.ref 2), some (.int a0), some (.int v499), some (.int v500), none]) (st' := [.int 5, .int v499, .ref 23, .int v501]) (w' := (hp u fL fD, c, z)) rfl ?_
  obtain ⟨v502, hf2489, h⟩ := Option.bind_eq_some_iff.mp h
  refine mg_Ev.call (y := 184) (as := [.ref 23, .int v499, .int 5]) (rest := [.int v501]) (v := some (.int v502)) (w1 := (hp u fL fD, c, z)) rfl rfl (Nat.le_of_ble_eq_true rfl) ((ev_T_get_22 hf2489).deep (by decide)) ?_
  refine mg_Ev.br (P := v501 ≤ v502) (t := 44) (nx := 40) (st' := []) rfl rfl rfl rfl (fun hc2490 => ?_) (fun hc2490 => ?_)
  · rw [if_pos hc2490] at h
    refine mg_Ev.go 8 (pc' := 56) (loc' := [some (.ref 2), some (.int a0), some (.int v499), some (.int v500), some (.int 0)]) (st' := [.int (0 - v500), .int 7, .int v499, .ref 23]) (w' := (hp u fL fD, c, z)) rfl ?_
    obtain ⟨u503, hf2491, h⟩ := Option.bind_eq_some_iff.mp h
    refine mg_Ev.call (y := 186) (as := [.ref 23, .int v499, .int 7, .int (0 - v500)]) (rest := []) (v := none) (w1 := (hp u503 fL fD, c, z)) rfl rfl (Nat.le_of_ble_eq_true rfl) ((ev_T_increase_22 hf2491).deep (by decide)) ?_
    refine mg_Ev.go 4 (pc' := 66) (loc' := [some (.ref 2), some (.int a0), some (.int v499), some (.int v500), some (.int 0)]) (st' := [.int 0, .int v499, .ref 23]) (w' := (hp u503 fL fD, c, z)) rfl ?_
    refine mg_Ev.br (P := (0 : Int32) = 0) (t := 74) (nx := 69) (st' := [.int v499, .ref 23]) rfl rfl rfl rfl (fun _ => ?_) (fun q => absurd (by decide) q)
    refine mg_Ev.go 2 (pc' := 77) (loc' := [some (.ref 2), some (.int a0), some (.int v499), some (.int v500), some (.int 0)]) (st' := [.int v500, .int 6, .int v499, .ref 23]) (w' := (hp u503 fL fD, c, z)) rfl ?_
    obtain ⟨u504, hf2493, h⟩ := Option.bind_eq_some_iff.mp h
    refine mg_Ev.call (y := 186) (as := [.ref 23, .int v499, .int 6, .int v500]) (rest := []) (v := none) (w1 := (hp u504 fL fD, c, z)) rfl rfl (Nat.le_of_ble_eq_true rfl) ((ev_T_increase_22 hf2493).deep (by decide)) ?_
    refine mg_Ev.go 5 (pc' := 88) (loc' := [some (.ref 2), some (.int a0), some (.int v499), some (.int v500), some (.int 0)]) (st' := [.int 0, .int 8, .int a0, .ref 26]) (w' := (hp u504 fL fD, c, z)) rfl ?_
    obtain ⟨u505, hf2494, h⟩ := Option.bind_eq_some_iff.mp h
    refine mg_Ev.call (y := 185) (as := [.ref 26, .int a0, .int 8, .int 0]) (rest := []) (v := none) (w1 := (hp u505 fL fD, c, z)) rfl rfl (Nat.le_of_ble_eq_true rfl) ((ev_T_put_25 hf2494).deep (by decide)) ?_
    cases h
    exact mg_Ev.fin rfl rfl rfl
  · rw [if_neg hc2490] at h
    refine mg_Ev.go 9 (pc' := 56) (loc' := [some (.ref 2), some (.int a0), some (.int v499), some (.int v500), some (.int 1)]) (st' := [.int (0 - v500), .int 7, .int v499, .ref 23]) (w' := (hp u fL fD, c, z)) rfl ?_
    obtain ⟨u506, hf2495, h⟩ := Option.bind_eq_some_iff.mp h
    refine mg_Ev.call (y := 186) (as := [.ref 23, .int v499, .int 7, .int (0 - v500)]) (rest := []) (v := none) (w1 := (hp u506 fL fD, c, z)) rfl rfl (Nat.le_of_ble_eq_true rfl) ((ev_T_increase_22 hf2495).deep (by decide)) ?_
    refine mg_Ev.go 4 (pc' := 66) (loc' := [some (.ref 2), some (.int a0), some (.int v499), some (.int v500), some (.int 1)]) (st' := [.int 1, .int v499, .ref 23]) (w' := (hp u506 fL fD, c, z)) rfl ?_
    refine mg_Ev.br (P := (1 : Int32) = 0) (t := 74) (nx := 69) (st' := [.int v499, .ref 23]) rfl rfl rfl rfl (fun q => absurd q (by decide)) (fun _ => ?_)
    refine mg_Ev.go 3 (pc' := 77) (loc' := [some (.ref 2), some (.int a0), some (.int v499), some (.int v500), some (.int 1)]) (st' := [.int v500, .int 8, .int v499, .ref 23]) (w' := (hp u506 fL fD, c, z)) rfl ?_
    obtain ⟨u507, hf2497, h⟩ := Option.bind_eq_some_iff.mp h
    refine mg_Ev.call (y := 186) (as := [.ref 23, .int v499, .int 8, .int v500]) (rest := []) (v := none) (w1 := (hp u507 fL fD, c, z)) rfl rfl (Nat.le_of_ble_eq_true rfl) ((ev_T_increase_22 hf2497).deep (by decide)) ?_
    refine mg_Ev.go 5 (pc' := 88) (loc' := [some (.ref 2), some (.int a0), some (.int v499), some (.int v500), some (.int 1)]) (st' := [.int 0, .int 8, .int a0, .ref 26]) (w' := (hp u507 fL fD, c, z)) rfl ?_
    obtain ⟨u508, hf2498, h⟩ := Option.bind_eq_some_iff.mp h
    refine mg_Ev.call (y := 185) (as := [.ref 26, .int a0, .int 8, .int 0]) (rest := []) (v := none) (w1 := (hp u508 fL fD, c, z)) rfl rfl (Nat.le_of_ble_eq_true rfl) ((ev_T_put_25 hf2498).deep (by decide)) ?_
    cases h
    exact mg_Ev.fin rfl rfl rfl

def O_giveAllBack (a0 : Int32) (u : mg_Rg) : Option (Int32 × mg_Rg) :=
  (O_keptOf a0 u).bind fun v492 =>
  (O_giveBack a0 v492 u).bind fun u498 =>
  (O_returnUnits a0 u498).bind fun u509 =>
  (T_put_25 a0 7 2 u509).bind fun u510 =>
  some (v492, u510)

set_option maxRecDepth 10000 in
set_option maxHeartbeats 4000000 in
theorem ev_O_giveAllBack {sc : mg_Sc} {c z : Nat} {fL : Nat → Int64} {fD : Nat → UInt64} {a0 : Int32} {u : mg_Rg} {p : Int32 × mg_Rg} (h : O_giveAllBack a0 u = some p) : mg_Ev sc 4 160 0 (mg_entry 160 [.ref 2, .int a0]) [] (hp u fL fD, c, z) (.inl (some (.int p.1)), (hp p.2 fL fD, c, z)) := by
  unfold O_giveAllBack at h
  show mg_Ev _ _ _ 0 [some (.ref 2), some (.int a0), none] [] _ _
  refine mg_Ev.go 2 (pc' := 2) (loc' := [some (.ref 2), some (.int a0), none]) (st' := [.int a0, .ref 2]) (w' := (hp u fL fD, c, z)) rfl ?_
  obtain ⟨v492, hf2499, h⟩ := Option.bind_eq_some_iff.mp h
  refine mg_Ev.call (y := 162) (as := [.ref 2, .int a0]) (rest := []) (v := some (.int v492)) (w1 := (hp u fL fD, c, z)) rfl rfl (Nat.le_of_ble_eq_true rfl) ((ev_O_keptOf hf2499).deep (by decide)) ?_
  refine mg_Ev.go 4 (pc' := 9) (loc' := [some (.ref 2), some (.int a0), some (.int v492)]) (st' := [.int v492, .int a0, .ref 2]) (w' := (hp u fL fD, c, z)) rfl ?_
  obtain ⟨u498, hf2500, h⟩ := Option.bind_eq_some_iff.mp h
  refine mg_Ev.call (y := 173) (as := [.ref 2, .int a0, .int v492]) (rest := []) (v := none) (w1 := (hp u498 fL fD, c, z)) rfl rfl (Nat.le_of_ble_eq_true rfl) ((ev_O_giveBack hf2500).deep (by decide)) ?_
  refine mg_Ev.go 2 (pc' := 14) (loc' := [some (.ref 2), some (.int a0), some (.int v492)]) (st' := [.int a0, .ref 2]) (w' := (hp u498 fL fD, c, z)) rfl ?_
  obtain ⟨u509, hf2501, h⟩ := Option.bind_eq_some_iff.mp h
  refine mg_Ev.call (y := 174) (as := [.ref 2, .int a0]) (rest := []) (v := none) (w1 := (hp u509 fL fD, c, z)) rfl rfl (Nat.le_of_ble_eq_true rfl) ((ev_O_returnUnits hf2501).deep (by decide)) ?_
  refine mg_Ev.go 5 (pc' := 25) (loc' := [some (.ref 2), some (.int a0), some (.int v492)]) (st' := [.int 2, .int 7, .int a0, .ref 26]) (w' := (hp u509 fL fD, c, z)) rfl ?_
  obtain ⟨u510, hf2502, h⟩ := Option.bind_eq_some_iff.mp h
  refine mg_Ev.call (y := 185) (as := [.ref 26, .int a0, .int 7, .int 2]) (rest := []) (v := none) (w1 := (hp u510 fL fD, c, z)) rfl rfl (Nat.le_of_ble_eq_true rfl) ((ev_T_put_25 hf2502).deep (by decide)) ?_
  refine mg_Ev.go 1 (pc' := 29) (loc' := [some (.ref 2), some (.int a0), some (.int v492)]) (st' := [.int v492]) (w' := (hp u510 fL fD, c, z)) rfl ?_
  cases h
  exact mg_Ev.fin rfl rfl rfl

def C_refund (a0 : Int32) (u : mg_Rg) : Option ((Int32 ⊕ Nat) × mg_Rg) :=
  (C_requireDeclaration a0 u).bind fun p476 => match p476 with
  | (.inr ee, u478) => some (.inr ee, u478)
  | (.inl _, u478) =>
    (C_requireNoRefusal a0 u478).bind fun p485 => match p485 with
    | (.inr ee, u487) => some (.inr ee, u487)
    | (.inl _, u487) =>
      (C_keepForUndo u487).bind fun u488 =>
      (O_giveAllBack a0 u488).bind fun p513 => match p513 with
      | (v511, u512) =>
        some (.inl v511, u512)

set_option maxRecDepth 10000 in
set_option maxHeartbeats 4000000 in
theorem ev_C_refund {sc : mg_Sc} {c z : Nat} {fL : Nat → Int64} {fD : Nat → UInt64} {a0 : Int32} {u : mg_Rg} {p : (Int32 ⊕ Nat) × mg_Rg} (h : C_refund a0 u = some p) : mg_Ev sc 6 22 0 (mg_entry 22 [.ref 1, .int a0]) [] (hp u fL fD, c, z) (xri p.1, xw p.1 (hp p.2 fL fD) c z) := by
  unfold C_refund at h
  show mg_Ev _ _ _ 0 [some (.ref 1), some (.int a0)] [] _ _
  refine mg_Ev.go 2 (pc' := 2) (loc' := [some (.ref 1), some (.int a0)]) (st' := [.int a0, .ref 1]) (w' := (hp u fL fD, c, z)) rfl ?_
  obtain ⟨⟨⟨⟩ | ee, u478⟩, hf2503, h⟩ := Option.bind_eq_some_iff.mp h
  · try dsimp only at h
    refine mg_Ev.call (y := 44) (as := [.ref 1, .int a0]) (rest := []) (v := none) (w1 := (hp u478 fL fD, c, z)) rfl rfl (Nat.le_of_ble_eq_true rfl) ((ev_C_requireDeclaration hf2503).deep (by decide)) ?_
    refine mg_Ev.go 2 (pc' := 7) (loc' := [some (.ref 1), some (.int a0)]) (st' := [.int a0, .ref 1]) (w' := (hp u478 fL fD, c, z)) rfl ?_
    obtain ⟨⟨⟨⟩ | ee, u487⟩, hf2504, h⟩ := Option.bind_eq_some_iff.mp h
    · try dsimp only at h
      refine mg_Ev.call (y := 45) (as := [.ref 1, .int a0]) (rest := []) (v := none) (w1 := (hp u487 fL fD, c, z)) rfl rfl (Nat.le_of_ble_eq_true rfl) ((ev_C_requireNoRefusal hf2504).deep (by decide)) ?_
      refine mg_Ev.go 1 (pc' := 11) (loc' := [some (.ref 1), some (.int a0)]) (st' := [.ref 1]) (w' := (hp u487 fL fD, c, z)) rfl ?_
      obtain ⟨u488, hf2505, h⟩ := Option.bind_eq_some_iff.mp h
      refine mg_Ev.call (y := 38) (as := [.ref 1]) (rest := []) (v := none) (w1 := (hp u488 fL fD, c, z)) rfl rfl (Nat.le_of_ble_eq_true rfl) ((ev_C_keepForUndo hf2505).deep (by decide)) ?_
      refine mg_Ev.go 3 (pc' := 19) (loc' := [some (.ref 1), some (.int a0)]) (st' := [.int a0, .ref 2]) (w' := (hp u488 fL fD, c, z)) rfl ?_
      obtain ⟨⟨v511, u512⟩, hf2506, h⟩ := Option.bind_eq_some_iff.mp h
      try dsimp only at h
      refine mg_Ev.call (y := 160) (as := [.ref 2, .int a0]) (rest := []) (v := some (.int v511)) (w1 := (hp u512 fL fD, c, z)) rfl rfl (Nat.le_of_ble_eq_true rfl) ((ev_O_giveAllBack hf2506).deep (by decide)) ?_
      cases h
      exact mg_Ev.fin rfl rfl rfl
    · cases h
      exact mg_Ev.callX (y := 45) (as := [.ref 1, .int a0]) (rest := []) rfl rfl (Nat.le_of_ble_eq_true rfl) ((ev_C_requireNoRefusal hf2504).deep (by decide)) rfl
  · cases h
    exact mg_Ev.callX (y := 44) (as := [.ref 1, .int a0]) (rest := []) rfl rfl (Nat.le_of_ble_eq_true rfl) ((ev_C_requireDeclaration hf2503).deep (by decide)) rfl

def O_takeProof (a0 : Int32) (a1 : Int32) (u : mg_Rg) : Option (Int32 × mg_Rg) :=
  (T_put_25 a0 4 a1 u).bind fun u522 =>
  (O_loadGoods a0 u522).bind fun u523 =>
  (Tf_leastRate_28 u523).bind fun v524 =>
  (O_secondPart a0 v524 u523).bind fun v525 =>
  (T_get_25 a0 10 u523).bind fun v526 =>
  if 0 < (v526 - v525) then
  (T_put_25 a0 10 v525 u523).bind fun u527 =>
    (T_put_25 a0 12 v524 u527).bind fun u528 =>
    (Tf_sourceOf_28 v524 u528).bind fun v529 =>
    (T_put_25 a0 13 v529 u528).bind fun u530 =>
    (O_giveBack a0 (v526 - v525) u530).bind fun u531 =>
    some ((v526 - v525), u531)
  else
  some (0, u523)

set_option maxRecDepth 10000 in
set_option maxHeartbeats 4000000 in
theorem ev_O_takeProof {sc : mg_Sc} {c z : Nat} {fL : Nat → Int64} {fD : Nat → UInt64} {a0 : Int32} {a1 : Int32} {u : mg_Rg} {p : Int32 × mg_Rg} (h : O_takeProof a0 a1 u = some p) : mg_Ev sc 4 161 0 (mg_entry 161 [.ref 2, .int a0, .int a1]) [] (hp u fL fD, c, z) (.inl (some (.int p.1)), (hp p.2 fL fD, c, z)) := by
  unfold O_takeProof at h
  show mg_Ev _ _ _ 0 [some (.ref 2), some (.int a0), some (.int a1), none, none, none] [] _ _
  refine mg_Ev.go 5 (pc' := 7) (loc' := [some (.ref 2), some (.int a0), some (.int a1), none, none, none]) (st' := [.int a1, .int 4, .int a0, .ref 26]) (w' := (hp u fL fD, c, z)) rfl ?_
  obtain ⟨u522, hf2507, h⟩ := Option.bind_eq_some_iff.mp h
  refine mg_Ev.call (y := 185) (as := [.ref 26, .int a0, .int 4, .int a1]) (rest := []) (v := none) (w1 := (hp u522 fL fD, c, z)) rfl rfl (Nat.le_of_ble_eq_true rfl) ((ev_T_put_25 hf2507).deep (by decide)) ?_
  refine mg_Ev.go 2 (pc' := 12) (loc' := [some (.ref 2), some (.int a0), some (.int a1), none, none, none]) (st' := [.int a0, .ref 2]) (w' := (hp u522 fL fD, c, z)) rfl ?_
  obtain ⟨u523, hf2508, h⟩ := Option.bind_eq_some_iff.mp h
  refine mg_Ev.call (y := 166) (as := [.ref 2, .int a0]) (rest := []) (v := none) (w1 := (hp u523 fL fD, c, z)) rfl rfl (Nat.le_of_ble_eq_true rfl) ((ev_O_loadGoods hf2508).deep (by decide)) ?_
  refine mg_Ev.go 4 (pc' := 23) (loc' := [some (.ref 2), some (.int a0), some (.int a1), none, none, none]) (st' := [.ref 29, .ref 3]) (w' := (hp u523 fL fD, c, z)) rfl ?_
  obtain ⟨v524, hf2509, h⟩ := Option.bind_eq_some_iff.mp h
  refine mg_Ev.call (y := 203) (as := [.ref 3, .ref 29]) (rest := []) (v := some (.int v524)) (w1 := (hp u523 fL fD, c, z)) rfl rfl (Nat.le_of_ble_eq_true rfl) ((ev_Tf_leastRate_28 hf2509).deep (by decide)) ?_
  refine mg_Ev.go 4 (pc' := 30) (loc' := [some (.ref 2), some (.int a0), some (.int a1), some (.int v524), none, none]) (st' := [.int v524, .int a0, .ref 2]) (w' := (hp u523 fL fD, c, z)) rfl ?_
  obtain ⟨v525, hf2510, h⟩ := Option.bind_eq_some_iff.mp h
  refine mg_Ev.call (y := 172) (as := [.ref 2, .int a0, .int v524]) (rest := []) (v := some (.int v525)) (w1 := (hp u523 fL fD, c, z)) rfl rfl (Nat.le_of_ble_eq_true rfl) ((ev_O_secondPart hf2510).deep (by decide)) ?_
  refine mg_Ev.go 5 (pc' := 42) (loc' := [some (.ref 2), some (.int a0), some (.int a1), some (.int v524), some (.int v525), none]) (st' := [.int 10, .int a0, .ref 26]) (w' := (hp u523 fL fD, c, z)) rfl ?_
  obtain ⟨v526, hf2511, h⟩ := Option.bind_eq_some_iff.mp h
  refine mg_Ev.call (y := 184) (as := [.ref 26, .int a0, .int 10]) (rest := []) (v := some (.int v526)) (w1 := (hp u523 fL fD, c, z)) rfl rfl (Nat.le_of_ble_eq_true rfl) ((ev_T_get_25 hf2511).deep (by decide)) ?_
  refine mg_Ev.go 4 (pc' := 52) (loc' := [some (.ref 2), some (.int a0), some (.int a1), some (.int v524), some (.int v525), some (.int (v526 - v525))]) (st' := [.int (v526 - v525)]) (w' := (hp u523 fL fD, c, z)) rfl ?_
  refine mg_Ev.br (P := 0 < (v526 - v525)) (t := 57) (nx := 55) (st' := []) rfl rfl rfl rfl (fun hc2512 => ?_) (fun hc2512 => ?_)
  · rw [if_pos hc2512] at h
    refine mg_Ev.go 5 (pc' := 66) (loc' := [some (.ref 2), some (.int a0), some (.int a1), some (.int v524), some (.int v525), some (.int (v526 - v525))]) (st' := [.int v525, .int 10, .int a0, .ref 26]) (w' := (hp u523 fL fD, c, z)) rfl ?_
    obtain ⟨u527, hf2513, h⟩ := Option.bind_eq_some_iff.mp h
    refine mg_Ev.call (y := 185) (as := [.ref 26, .int a0, .int 10, .int v525]) (rest := []) (v := none) (w1 := (hp u527 fL fD, c, z)) rfl rfl (Nat.le_of_ble_eq_true rfl) ((ev_T_put_25 hf2513).deep (by decide)) ?_
    refine mg_Ev.go 5 (pc' := 77) (loc' := [some (.ref 2), some (.int a0), some (.int a1), some (.int v524), some (.int v525), some (.int (v526 - v525))]) (st' := [.int v524, .int 12, .int a0, .ref 26]) (w' := (hp u527 fL fD, c, z)) rfl ?_
    obtain ⟨u528, hf2514, h⟩ := Option.bind_eq_some_iff.mp h
    refine mg_Ev.call (y := 185) (as := [.ref 26, .int a0, .int 12, .int v524]) (rest := []) (v := none) (w1 := (hp u528 fL fD, c, z)) rfl rfl (Nat.le_of_ble_eq_true rfl) ((ev_T_put_25 hf2514).deep (by decide)) ?_
    refine mg_Ev.go 9 (pc' := 96) (loc' := [some (.ref 2), some (.int a0), some (.int a1), some (.int v524), some (.int v525), some (.int (v526 - v525))]) (st' := [.ref 29, .int v524, .ref 3, .int 13, .int a0, .ref 26]) (w' := (hp u528 fL fD, c, z)) rfl ?_
    obtain ⟨v529, hf2515, h⟩ := Option.bind_eq_some_iff.mp h
    refine mg_Ev.call (y := 204) (as := [.ref 3, .int v524, .ref 29]) (rest := [.int 13, .int a0, .ref 26]) (v := some (.int v529)) (w1 := (hp u528 fL fD, c, z)) rfl rfl (Nat.le_of_ble_eq_true rfl) ((ev_Tf_sourceOf_28 hf2515).deep (by decide)) ?_
    obtain ⟨u530, hf2516, h⟩ := Option.bind_eq_some_iff.mp h
    refine mg_Ev.call (y := 185) (as := [.ref 26, .int a0, .int 13, .int v529]) (rest := []) (v := none) (w1 := (hp u530 fL fD, c, z)) rfl rfl (Nat.le_of_ble_eq_true rfl) ((ev_T_put_25 hf2516).deep (by decide)) ?_
    refine mg_Ev.go 3 (pc' := 106) (loc' := [some (.ref 2), some (.int a0), some (.int a1), some (.int v524), some (.int v525), some (.int (v526 - v525))]) (st' := [.int (v526 - v525), .int a0, .ref 2]) (w' := (hp u530 fL fD, c, z)) rfl ?_
    obtain ⟨u531, hf2517, h⟩ := Option.bind_eq_some_iff.mp h
    refine mg_Ev.call (y := 173) (as := [.ref 2, .int a0, .int (v526 - v525)]) (rest := []) (v := none) (w1 := (hp u531 fL fD, c, z)) rfl rfl (Nat.le_of_ble_eq_true rfl) ((ev_O_giveBack hf2517).deep (by decide)) ?_
    refine mg_Ev.go 1 (pc' := 111) (loc' := [some (.ref 2), some (.int a0), some (.int a1), some (.int v524), some (.int v525), some (.int (v526 - v525))]) (st' := [.int (v526 - v525)]) (w' := (hp u531 fL fD, c, z)) rfl ?_
    cases h
    exact mg_Ev.fin rfl rfl rfl
  · rw [if_neg hc2512] at h
    refine mg_Ev.go 1 (pc' := 56) (loc' := [some (.ref 2), some (.int a0), some (.int a1), some (.int v524), some (.int v525), some (.int (v526 - v525))]) (st' := [.int 0]) (w' := (hp u523 fL fD, c, z)) rfl ?_
    cases h
    exact mg_Ev.fin rfl rfl rfl

def C_prove (a0 : Int32) (a1 : Int32) (u : mg_Rg) : Option ((Int32 ⊕ Nat) × mg_Rg) :=
  (C_requireDeclaration a0 u).bind fun p514 => match p514 with
  | (.inr ee, u516) => some (.inr ee, u516)
  | (.inl _, u516) =>
    (C_isWithin a1 1 2 u516).bind fun v517 =>
    if v517 = 0 then
    some (.inr 1, u516)
    else
    (C_requireNoRefusal a0 u516).bind fun p518 => match p518 with
      | (.inr ee, u520) => some (.inr ee, u520)
      | (.inl _, u520) =>
        (C_keepForUndo u520).bind fun u521 =>
        (O_takeProof a0 a1 u521).bind fun p534 => match p534 with
        | (v532, u533) =>
          some (.inl v532, u533)

set_option maxRecDepth 10000 in
set_option maxHeartbeats 4000000 in
theorem ev_C_prove {sc : mg_Sc} {c z : Nat} {fL : Nat → Int64} {fD : Nat → UInt64} {a0 : Int32} {a1 : Int32} {u : mg_Rg} {p : (Int32 ⊕ Nat) × mg_Rg} (h : C_prove a0 a1 u = some p) : mg_Ev sc 6 23 0 (mg_entry 23 [.ref 1, .int a0, .int a1]) [] (hp u fL fD, c, z) (xri p.1, xw p.1 (hp p.2 fL fD) c z) := by
  unfold C_prove at h
  show mg_Ev _ _ _ 0 [some (.ref 1), some (.int a0), some (.int a1)] [] _ _
  refine mg_Ev.go 2 (pc' := 2) (loc' := [some (.ref 1), some (.int a0), some (.int a1)]) (st' := [.int a0, .ref 1]) (w' := (hp u fL fD, c, z)) rfl ?_
  obtain ⟨⟨⟨⟩ | ee, u516⟩, hf2518, h⟩ := Option.bind_eq_some_iff.mp h
  · try dsimp only at h
    refine mg_Ev.call (y := 44) (as := [.ref 1, .int a0]) (rest := []) (v := none) (w1 := (hp u516 fL fD, c, z)) rfl rfl (Nat.le_of_ble_eq_true rfl) ((ev_C_requireDeclaration hf2518).deep (by decide)) ?_
    refine mg_Ev.go 3 (pc' := 8) (loc' := [some (.ref 1), some (.int a0), some (.int a1)]) (st' := [.int 2, .int 1, .int a1]) (w' := (hp u516 fL fD, c, z)) rfl ?_
    obtain ⟨v517, hf2519, h⟩ := Option.bind_eq_some_iff.mp h
    refine mg_Ev.call (y := 54) (as := [.int a1, .int 1, .int 2]) (rest := []) (v := some (.int v517)) (w1 := (hp u516 fL fD, c, z)) rfl rfl (Nat.le_of_ble_eq_true rfl) ((ev_C_isWithin hf2519).deep (by decide)) ?_
    refine mg_Ev.br (P := v517 = 0) (t := 14) (nx := 25) (st' := []) rfl rfl rfl rfl (fun hc2520 => ?_) (fun hc2520 => ?_)
    · rw [if_pos hc2520] at h
      cases h
      exact mg_Ev.fin rfl rfl rfl
    · rw [if_neg hc2520] at h
      refine mg_Ev.go 2 (pc' := 27) (loc' := [some (.ref 1), some (.int a0), some (.int a1)]) (st' := [.int a0, .ref 1]) (w' := (hp u516 fL fD, c, z)) rfl ?_
      obtain ⟨⟨⟨⟩ | ee, u520⟩, hf2521, h⟩ := Option.bind_eq_some_iff.mp h
      · try dsimp only at h
        refine mg_Ev.call (y := 45) (as := [.ref 1, .int a0]) (rest := []) (v := none) (w1 := (hp u520 fL fD, c, z)) rfl rfl (Nat.le_of_ble_eq_true rfl) ((ev_C_requireNoRefusal hf2521).deep (by decide)) ?_
        refine mg_Ev.go 1 (pc' := 31) (loc' := [some (.ref 1), some (.int a0), some (.int a1)]) (st' := [.ref 1]) (w' := (hp u520 fL fD, c, z)) rfl ?_
        obtain ⟨u521, hf2522, h⟩ := Option.bind_eq_some_iff.mp h
        refine mg_Ev.call (y := 38) (as := [.ref 1]) (rest := []) (v := none) (w1 := (hp u521 fL fD, c, z)) rfl rfl (Nat.le_of_ble_eq_true rfl) ((ev_C_keepForUndo hf2522).deep (by decide)) ?_
        refine mg_Ev.go 4 (pc' := 40) (loc' := [some (.ref 1), some (.int a0), some (.int a1)]) (st' := [.int a1, .int a0, .ref 2]) (w' := (hp u521 fL fD, c, z)) rfl ?_
        obtain ⟨⟨v532, u533⟩, hf2523, h⟩ := Option.bind_eq_some_iff.mp h
        try dsimp only at h
        refine mg_Ev.call (y := 161) (as := [.ref 2, .int a0, .int a1]) (rest := []) (v := some (.int v532)) (w1 := (hp u533 fL fD, c, z)) rfl rfl (Nat.le_of_ble_eq_true rfl) ((ev_O_takeProof hf2523).deep (by decide)) ?_
        cases h
        exact mg_Ev.fin rfl rfl rfl
      · cases h
        exact mg_Ev.callX (y := 45) (as := [.ref 1, .int a0]) (rest := []) rfl rfl (Nat.le_of_ble_eq_true rfl) ((ev_C_requireNoRefusal hf2521).deep (by decide)) rfl
  · cases h
    exact mg_Ev.callX (y := 44) (as := [.ref 1, .int a0]) (rest := []) rfl rfl (Nat.le_of_ble_eq_true rfl) ((ev_C_requireDeclaration hf2518).deep (by decide)) rfl

def C_refusal (u : mg_Rg) : Option ((Int32 ⊕ Nat) × mg_Rg) :=
  if (u 0 9) = 0 then
  some (.inr 3, u)
  else
  some (.inl (u 0 9), u)

set_option maxRecDepth 10000 in
set_option maxHeartbeats 4000000 in
theorem ev_C_refusal {sc : mg_Sc} {c z : Nat} {fL : Nat → Int64} {fD : Nat → UInt64} {u : mg_Rg} {p : (Int32 ⊕ Nat) × mg_Rg} (h : C_refusal u = some p) : mg_Ev sc 0 24 0 (mg_entry 24 [.ref 1]) [] (hp u fL fD, c, z) (xri p.1, xw p.1 (hp p.2 fL fD) c z) := by
  unfold C_refusal at h
  show mg_Ev _ _ _ 0 [some (.ref 1)] [] _ _
  refine mg_Ev.go 2 (pc' := 4) (loc' := [some (.ref 1)]) (st' := [.int (u 0 9)]) (w' := (hp u fL fD, c, z)) rfl ?_
  refine mg_Ev.br (P := (u 0 9) = 0) (t := 7) (nx := 18) (st' := []) rfl rfl rfl rfl (fun hc2524 => ?_) (fun hc2524 => ?_)
  · rw [if_pos hc2524] at h
    cases h
    exact mg_Ev.fin rfl rfl rfl
  · rw [if_neg hc2524] at h
    refine mg_Ev.go 2 (pc' := 22) (loc' := [some (.ref 1)]) (st' := [.int (u 0 9)]) (w' := (hp u fL fD, c, z)) rfl ?_
    cases h
    exact mg_Ev.fin rfl rfl rfl

def O_countWith_L4 : Nat → Int32 → Int32 → Int32 → mg_Rg → Option (Int32)
  | 0, _, _, _, _ => none
  | n + 1, x1, x2, x3, u =>
    (T_count_25 u).bind fun v540 =>
    if v540 ≤ x3 then
    some (x2)
    else
    (O_hasStatus x3 x1 u).bind fun v541 =>
      if v541 = 0 then
      O_countWith_L4 n x1 x2 (x3 + 1) u
      else
      O_countWith_L4 n x1 (x2 + 1) (x3 + 1) u
set_option maxRecDepth 10000 in
set_option maxHeartbeats 4000000 in
theorem ev_O_countWith_L4 {sc : mg_Sc} {c z : Nat} {fL : Nat → Int64} {fD : Nat → UInt64} : ∀ (n : Nat) (x1 : Int32) (x2 : Int32) (x3 : Int32) (u : mg_Rg) (res : Int32), O_countWith_L4 n x1 x2 x3 u = some res → ∀ r, (match res with | y2 => mg_Ev sc 2 154 33 [none, none, some (.int y2), none] [] (hp u fL fD, c, z) r) → mg_Ev sc 2 154 4 [some (.ref 2), some (.int x1), some (.int x2), some (.int x3)] [] (hp u fL fD, c, z) r := by
  intro n
  induction n with
  | zero => intro x1 x2 x3 u res h; cases h
  | succ n ih =>
    intro x1 x2 x3 u res h r K
    unfold O_countWith_L4 at h
    refine mg_Ev.go 3 (pc' := 9) (loc' := [some (.ref 2), some (.int x1), some (.int x2), some (.int x3)]) (st' := [.ref 26, .int x3]) (w' := (hp u fL fD, c, z)) rfl ?_
    obtain ⟨v540, hf2525, h⟩ := Option.bind_eq_some_iff.mp h
    refine mg_Ev.call (y := 181) (as := [.ref 26]) (rest := [.int x3]) (v := some (.int v540)) (w1 := (hp u fL fD, c, z)) rfl rfl (Nat.le_of_ble_eq_true rfl) ((ev_T_count_25 hf2525).deep (by decide)) ?_
    refine mg_Ev.br (P := v540 ≤ x3) (t := 33) (nx := 15) (st' := []) rfl rfl rfl rfl (fun hc2526 => ?_) (fun hc2526 => ?_)
    · rw [if_pos hc2526] at h
      cases h
      exact mg_Ev.more (loc := [none, none, some (.int x2), none]) K ⟨rfl, trivial⟩
    · rw [if_neg hc2526] at h
      refine mg_Ev.go 3 (pc' := 18) (loc' := [some (.ref 2), some (.int x1), some (.int x2), some (.int x3)]) (st' := [.int x1, .int x3, .ref 2]) (w' := (hp u fL fD, c, z)) rfl ?_
      obtain ⟨v541, hf2527, h⟩ := Option.bind_eq_some_iff.mp h
      refine mg_Ev.call (y := 153) (as := [.ref 2, .int x3, .int x1]) (rest := []) (v := some (.int v541)) (w1 := (hp u fL fD, c, z)) rfl rfl (Nat.le_of_ble_eq_true rfl) ((ev_O_hasStatus hf2527).deep (by decide)) ?_
      refine mg_Ev.br (P := v541 = 0) (t := 27) (nx := 24) (st' := []) rfl rfl rfl rfl (fun hc2528 => ?_) (fun hc2528 => ?_)
      · rw [if_pos hc2528] at h
        refine mg_Ev.go 2 (pc' := 4) (loc' := [some (.ref 2), some (.int x1), some (.int x2), some (.int (x3 + 1))]) (st' := []) (w' := (hp u fL fD, c, z)) rfl ?_
        exact mg_Ev.more (loc := [some (.ref 2), some (.int x1), some (.int x2), some (.int (x3 + 1))]) (ih _ _ _ _ _ h _ K) ⟨rfl, ⟨rfl, ⟨rfl, ⟨rfl, trivial⟩⟩⟩⟩
      · rw [if_neg hc2528] at h
        refine mg_Ev.go 3 (pc' := 4) (loc' := [some (.ref 2), some (.int x1), some (.int (x2 + 1)), some (.int (x3 + 1))]) (st' := []) (w' := (hp u fL fD, c, z)) rfl ?_
        exact mg_Ev.more (loc := [some (.ref 2), some (.int x1), some (.int (x2 + 1)), some (.int (x3 + 1))]) (ih _ _ _ _ _ h _ K) ⟨rfl, ⟨rfl, ⟨rfl, ⟨rfl, trivial⟩⟩⟩⟩

def O_countWith (a0 : Int32) (u : mg_Rg) : Option (Int32) :=
  (O_countWith_L4 mg_F a0 0 0 u).bind fun q2529 => match q2529 with
  | x542 =>
    some x542

set_option maxRecDepth 10000 in
set_option maxHeartbeats 4000000 in
theorem ev_O_countWith {sc : mg_Sc} {c z : Nat} {fL : Nat → Int64} {fD : Nat → UInt64} {a0 : Int32} {u : mg_Rg} {v : Int32} (h : O_countWith a0 u = some v) : mg_Ev sc 2 154 0 (mg_entry 154 [.ref 2, .int a0]) [] (hp u fL fD, c, z) (.inl (some (.int v)), (hp u fL fD, c, z)) := by
  unfold O_countWith at h
  show mg_Ev _ _ _ 0 [some (.ref 2), some (.int a0), none, none] [] _ _
  refine mg_Ev.go 4 (pc' := 4) (loc' := [some (.ref 2), some (.int a0), some (.int 0), some (.int 0)]) (st' := []) (w' := (hp u fL fD, c, z)) rfl ?_
  obtain ⟨x542, hl2530, h⟩ := Option.bind_eq_some_iff.mp h
  try dsimp only at h
  refine mg_Ev.more (loc := [some (.ref 2), some (.int a0), some (.int 0), some (.int 0)]) (ev_O_countWith_L4 _ _ _ _ _ _ hl2530 _ ?_) ⟨rfl, ⟨rfl, ⟨rfl, ⟨rfl, trivial⟩⟩⟩⟩
  show mg_Ev _ _ _ 33 [none, none, some (.int x542), none] [] (hp u fL fD, c, z) _
  refine mg_Ev.go 1 (pc' := 34) (loc' := [none, none, some (.int x542), none]) (st' := [.int x542]) (w' := (hp u fL fD, c, z)) rfl ?_
  cases h
  exact mg_Ev.fin rfl rfl rfl

def Lg_found (u : mg_Rg) : Option (Int32) :=
  (T_get_16 1 0 u).bind fun v546 =>
  some v546

set_option maxRecDepth 10000 in
set_option maxHeartbeats 4000000 in
theorem ev_Lg_found {sc : mg_Sc} {c z : Nat} {fL : Nat → Int64} {fD : Nat → UInt64} {u : mg_Rg} {v : Int32} (h : Lg_found u = some v) : mg_Ev sc 1 145 0 (mg_entry 145 [.ref 16]) [] (hp u fL fD, c, z) (.inl (some (.int v)), (hp u fL fD, c, z)) := by
  unfold Lg_found at h
  show mg_Ev _ _ _ 0 [some (.ref 16)] [] _ _
  refine mg_Ev.go 4 (pc' := 6) (loc' := [some (.ref 16)]) (st' := [.int 0, .int 1, .ref 17]) (w' := (hp u fL fD, c, z)) rfl ?_
  obtain ⟨v546, hf2531, h⟩ := Option.bind_eq_some_iff.mp h
  refine mg_Ev.call (y := 184) (as := [.ref 17, .int 1, .int 0]) (rest := []) (v := some (.int v546)) (w1 := (hp u fL fD, c, z)) rfl rfl (Nat.le_of_ble_eq_true rfl) ((ev_T_get_16 hf2531).deep (by decide)) ?_
  cases h
  exact mg_Ev.fin rfl rfl rfl

def Lg_allGivenBack (u : mg_Rg) : Option (Int32) :=
  (T_get_16 2 0 u).bind fun v548 =>
  some v548

set_option maxRecDepth 10000 in
set_option maxHeartbeats 4000000 in
theorem ev_Lg_allGivenBack {sc : mg_Sc} {c z : Nat} {fL : Nat → Int64} {fD : Nat → UInt64} {u : mg_Rg} {v : Int32} (h : Lg_allGivenBack u = some v) : mg_Ev sc 1 146 0 (mg_entry 146 [.ref 16]) [] (hp u fL fD, c, z) (.inl (some (.int v)), (hp u fL fD, c, z)) := by
  unfold Lg_allGivenBack at h
  show mg_Ev _ _ _ 0 [some (.ref 16)] [] _ _
  refine mg_Ev.go 4 (pc' := 6) (loc' := [some (.ref 16)]) (st' := [.int 0, .int 2, .ref 17]) (w' := (hp u fL fD, c, z)) rfl ?_
  obtain ⟨v548, hf2532, h⟩ := Option.bind_eq_some_iff.mp h
  refine mg_Ev.call (y := 184) (as := [.ref 17, .int 2, .int 0]) (rest := []) (v := some (.int v548)) (w1 := (hp u fL fD, c, z)) rfl rfl (Nat.le_of_ble_eq_true rfl) ((ev_T_get_16 hf2532).deep (by decide)) ?_
  cases h
  exact mg_Ev.fin rfl rfl rfl

def C_account (a0 : Int32) (u : mg_Rg) : Option ((Int32 ⊕ Nat) × mg_Rg) :=
  if (a0).toInt < 0 ∨ 11 < (a0).toInt then
  some (.inr 1, u)
  else if a0 = 0 then
  (T_count_3 u).bind fun v535 =>
    some (.inl v535, u)
  else if a0 = 1 then
  (T_count_6 u).bind fun v536 =>
    some (.inl v536, u)
  else if a0 = 2 then
  (T_count_9 u).bind fun v537 =>
    some (.inl v537, u)
  else if a0 = 3 then
  (T_count_22 u).bind fun v538 =>
    some (.inl v538, u)
  else if a0 = 4 then
  (T_count_25 u).bind fun v539 =>
    some (.inl v539, u)
  else if a0 = 5 then
  (O_countWith 0 u).bind fun v543 =>
    some (.inl v543, u)
  else if a0 = 6 then
  (O_countWith 1 u).bind fun v544 =>
    some (.inl v544, u)
  else if a0 = 7 then
  (O_countWith 2 u).bind fun v545 =>
    some (.inl v545, u)
  else if a0 = 8 then
  (Lg_found u).bind fun v547 =>
    some (.inl v547, u)
  else if a0 = 9 then
  (Lg_allGivenBack u).bind fun v549 =>
    some (.inl v549, u)
  else if a0 = 10 then
  (Lg_day u).bind fun v550 =>
    some (.inl v550, u)
  else if a0 = 11 then
  (T_count_30 u).bind fun v551 =>
    some (.inl v551, u)
  else none

set_option maxRecDepth 10000 in
set_option maxHeartbeats 4000000 in
theorem ev_C_account {sc : mg_Sc} {c z : Nat} {fL : Nat → Int64} {fD : Nat → UInt64} {a0 : Int32} {u : mg_Rg} {p : (Int32 ⊕ Nat) × mg_Rg} (h : C_account a0 u = some p) : mg_Ev sc 3 25 0 (mg_entry 25 [.ref 1, .int a0]) [] (hp u fL fD, c, z) (xri p.1, xw p.1 (hp p.2 fL fD) c z) := by
  unfold C_account at h
  show mg_Ev _ _ _ 0 [some (.ref 1), some (.int a0)] [] _ _
  refine mg_Ev.go 1 (pc' := 1) (loc' := [some (.ref 1), some (.int a0)]) (st' := [.int a0]) (w' := (hp u fL fD, c, z)) rfl ?_
  by_cases hs2533 : (a0).toInt < 0 ∨ 11 < (a0).toInt
  · rw [if_pos hs2533] at h
    refine mg_Ev.swD rfl hs2533 ?_
    cases h
    exact mg_Ev.fin rfl rfl rfl
  · rw [if_neg hs2533] at h
    by_cases hk2534 : a0 = 0
    · rw [if_pos hk2534] at h
      refine mg_Ev.swK (k := 0) (t := 64) rfl hk2534 (by decide) (by decide) rfl ?_
      refine mg_Ev.go 3 (pc' := 71) (loc' := [some (.ref 1), some (.int a0)]) (st' := [.ref 4]) (w' := (hp u fL fD, c, z)) rfl ?_
      obtain ⟨v535, hf2535, h⟩ := Option.bind_eq_some_iff.mp h
      refine mg_Ev.call (y := 181) (as := [.ref 4]) (rest := []) (v := some (.int v535)) (w1 := (hp u fL fD, c, z)) rfl rfl (Nat.le_of_ble_eq_true rfl) ((ev_T_count_3 hf2535).deep (by decide)) ?_
      cases h
      exact mg_Ev.fin rfl rfl rfl
    · rw [if_neg hk2534] at h
      by_cases hk2536 : a0 = 1
      · rw [if_pos hk2536] at h
        refine mg_Ev.swK (k := 1) (t := 75) rfl hk2536 (by decide) (by decide) rfl ?_
        refine mg_Ev.go 3 (pc' := 82) (loc' := [some (.ref 1), some (.int a0)]) (st' := [.ref 7]) (w' := (hp u fL fD, c, z)) rfl ?_
        obtain ⟨v536, hf2537, h⟩ := Option.bind_eq_some_iff.mp h
        refine mg_Ev.call (y := 181) (as := [.ref 7]) (rest := []) (v := some (.int v536)) (w1 := (hp u fL fD, c, z)) rfl rfl (Nat.le_of_ble_eq_true rfl) ((ev_T_count_6 hf2537).deep (by decide)) ?_
        cases h
        exact mg_Ev.fin rfl rfl rfl
      · rw [if_neg hk2536] at h
        by_cases hk2538 : a0 = 2
        · rw [if_pos hk2538] at h
          refine mg_Ev.swK (k := 2) (t := 86) rfl hk2538 (by decide) (by decide) rfl ?_
          refine mg_Ev.go 3 (pc' := 93) (loc' := [some (.ref 1), some (.int a0)]) (st' := [.ref 10]) (w' := (hp u fL fD, c, z)) rfl ?_
          obtain ⟨v537, hf2539, h⟩ := Option.bind_eq_some_iff.mp h
          refine mg_Ev.call (y := 181) (as := [.ref 10]) (rest := []) (v := some (.int v537)) (w1 := (hp u fL fD, c, z)) rfl rfl (Nat.le_of_ble_eq_true rfl) ((ev_T_count_9 hf2539).deep (by decide)) ?_
          cases h
          exact mg_Ev.fin rfl rfl rfl
        · rw [if_neg hk2538] at h
          by_cases hk2540 : a0 = 3
          · rw [if_pos hk2540] at h
            refine mg_Ev.swK (k := 3) (t := 97) rfl hk2540 (by decide) (by decide) rfl ?_
            refine mg_Ev.go 3 (pc' := 104) (loc' := [some (.ref 1), some (.int a0)]) (st' := [.ref 23]) (w' := (hp u fL fD, c, z)) rfl ?_
            obtain ⟨v538, hf2541, h⟩ := Option.bind_eq_some_iff.mp h
            refine mg_Ev.call (y := 181) (as := [.ref 23]) (rest := []) (v := some (.int v538)) (w1 := (hp u fL fD, c, z)) rfl rfl (Nat.le_of_ble_eq_true rfl) ((ev_T_count_22 hf2541).deep (by decide)) ?_
            cases h
            exact mg_Ev.fin rfl rfl rfl
          · rw [if_neg hk2540] at h
            by_cases hk2542 : a0 = 4
            · rw [if_pos hk2542] at h
              refine mg_Ev.swK (k := 4) (t := 108) rfl hk2542 (by decide) (by decide) rfl ?_
              refine mg_Ev.go 3 (pc' := 115) (loc' := [some (.ref 1), some (.int a0)]) (st' := [.ref 26]) (w' := (hp u fL fD, c, z)) rfl ?_
              obtain ⟨v539, hf2543, h⟩ := Option.bind_eq_some_iff.mp h
              refine mg_Ev.call (y := 181) (as := [.ref 26]) (rest := []) (v := some (.int v539)) (w1 := (hp u fL fD, c, z)) rfl rfl (Nat.le_of_ble_eq_true rfl) ((ev_T_count_25 hf2543).deep (by decide)) ?_
              cases h
              exact mg_Ev.fin rfl rfl rfl
            · rw [if_neg hk2542] at h
              by_cases hk2544 : a0 = 5
              · rw [if_pos hk2544] at h
                refine mg_Ev.swK (k := 5) (t := 119) rfl hk2544 (by decide) (by decide) rfl ?_
                refine mg_Ev.go 3 (pc' := 124) (loc' := [some (.ref 1), some (.int a0)]) (st' := [.int 0, .ref 2]) (w' := (hp u fL fD, c, z)) rfl ?_
                obtain ⟨v543, hf2545, h⟩ := Option.bind_eq_some_iff.mp h
                refine mg_Ev.call (y := 154) (as := [.ref 2, .int 0]) (rest := []) (v := some (.int v543)) (w1 := (hp u fL fD, c, z)) rfl rfl (Nat.le_of_ble_eq_true rfl) ((ev_O_countWith hf2545).deep (by decide)) ?_
                cases h
                exact mg_Ev.fin rfl rfl rfl
              · rw [if_neg hk2544] at h
                by_cases hk2546 : a0 = 6
                · rw [if_pos hk2546] at h
                  refine mg_Ev.swK (k := 6) (t := 128) rfl hk2546 (by decide) (by decide) rfl ?_
                  refine mg_Ev.go 3 (pc' := 133) (loc' := [some (.ref 1), some (.int a0)]) (st' := [.int 1, .ref 2]) (w' := (hp u fL fD, c, z)) rfl ?_
                  obtain ⟨v544, hf2547, h⟩ := Option.bind_eq_some_iff.mp h
                  refine mg_Ev.call (y := 154) (as := [.ref 2, .int 1]) (rest := []) (v := some (.int v544)) (w1 := (hp u fL fD, c, z)) rfl rfl (Nat.le_of_ble_eq_true rfl) ((ev_O_countWith hf2547).deep (by decide)) ?_
                  cases h
                  exact mg_Ev.fin rfl rfl rfl
                · rw [if_neg hk2546] at h
                  by_cases hk2548 : a0 = 7
                  · rw [if_pos hk2548] at h
                    refine mg_Ev.swK (k := 7) (t := 137) rfl hk2548 (by decide) (by decide) rfl ?_
                    refine mg_Ev.go 3 (pc' := 142) (loc' := [some (.ref 1), some (.int a0)]) (st' := [.int 2, .ref 2]) (w' := (hp u fL fD, c, z)) rfl ?_
                    obtain ⟨v545, hf2549, h⟩ := Option.bind_eq_some_iff.mp h
                    refine mg_Ev.call (y := 154) (as := [.ref 2, .int 2]) (rest := []) (v := some (.int v545)) (w1 := (hp u fL fD, c, z)) rfl rfl (Nat.le_of_ble_eq_true rfl) ((ev_O_countWith hf2549).deep (by decide)) ?_
                    cases h
                    exact mg_Ev.fin rfl rfl rfl
                  · rw [if_neg hk2548] at h
                    by_cases hk2550 : a0 = 8
                    · rw [if_pos hk2550] at h
                      refine mg_Ev.swK (k := 8) (t := 146) rfl hk2550 (by decide) (by decide) rfl ?_
                      refine mg_Ev.go 2 (pc' := 150) (loc' := [some (.ref 1), some (.int a0)]) (st' := [.ref 16]) (w' := (hp u fL fD, c, z)) rfl ?_
                      obtain ⟨v547, hf2551, h⟩ := Option.bind_eq_some_iff.mp h
                      refine mg_Ev.call (y := 145) (as := [.ref 16]) (rest := []) (v := some (.int v547)) (w1 := (hp u fL fD, c, z)) rfl rfl (Nat.le_of_ble_eq_true rfl) ((ev_Lg_found hf2551).deep (by decide)) ?_
                      cases h
                      exact mg_Ev.fin rfl rfl rfl
                    · rw [if_neg hk2550] at h
                      by_cases hk2552 : a0 = 9
                      · rw [if_pos hk2552] at h
                        refine mg_Ev.swK (k := 9) (t := 154) rfl hk2552 (by decide) (by decide) rfl ?_
                        refine mg_Ev.go 2 (pc' := 158) (loc' := [some (.ref 1), some (.int a0)]) (st' := [.ref 16]) (w' := (hp u fL fD, c, z)) rfl ?_
                        obtain ⟨v549, hf2553, h⟩ := Option.bind_eq_some_iff.mp h
                        refine mg_Ev.call (y := 146) (as := [.ref 16]) (rest := []) (v := some (.int v549)) (w1 := (hp u fL fD, c, z)) rfl rfl (Nat.le_of_ble_eq_true rfl) ((ev_Lg_allGivenBack hf2553).deep (by decide)) ?_
                        cases h
                        exact mg_Ev.fin rfl rfl rfl
                      · rw [if_neg hk2552] at h
                        by_cases hk2554 : a0 = 10
                        · rw [if_pos hk2554] at h
                          refine mg_Ev.swK (k := 10) (t := 162) rfl hk2554 (by decide) (by decide) rfl ?_
                          refine mg_Ev.go 2 (pc' := 166) (loc' := [some (.ref 1), some (.int a0)]) (st' := [.ref 16]) (w' := (hp u fL fD, c, z)) rfl ?_
                          obtain ⟨v550, hf2555, h⟩ := Option.bind_eq_some_iff.mp h
                          refine mg_Ev.call (y := 144) (as := [.ref 16]) (rest := []) (v := some (.int v550)) (w1 := (hp u fL fD, c, z)) rfl rfl (Nat.le_of_ble_eq_true rfl) ((ev_Lg_day hf2555).deep (by decide)) ?_
                          cases h
                          exact mg_Ev.fin rfl rfl rfl
                        · rw [if_neg hk2554] at h
                          by_cases hk2556 : a0 = 11
                          · rw [if_pos hk2556] at h
                            refine mg_Ev.swK (k := 11) (t := 170) rfl hk2556 (by decide) (by decide) rfl ?_
                            refine mg_Ev.go 3 (pc' := 177) (loc' := [some (.ref 1), some (.int a0)]) (st' := [.ref 31]) (w' := (hp u fL fD, c, z)) rfl ?_
                            obtain ⟨v551, hf2557, h⟩ := Option.bind_eq_some_iff.mp h
                            refine mg_Ev.call (y := 181) (as := [.ref 31]) (rest := []) (v := some (.int v551)) (w1 := (hp u fL fD, c, z)) rfl rfl (Nat.le_of_ble_eq_true rfl) ((ev_T_count_30 hf2557).deep (by decide)) ?_
                            cases h
                            exact mg_Ev.fin rfl rfl rfl
                          · rw [if_neg hk2556] at h
                            cases h

def C_kept (a0 : Int32) (u : mg_Rg) : Option ((Int32 ⊕ Nat) × mg_Rg) :=
  (C_requireCountry a0 u).bind fun p552 => match p552 with
  | (.inr ee, u554) => some (.inr ee, u554)
  | (.inl _, u554) =>
    (T_get_19 a0 0 u554).bind fun v555 =>
    some (.inl v555, u554)

set_option maxRecDepth 10000 in
set_option maxHeartbeats 4000000 in
theorem ev_C_kept {sc : mg_Sc} {c z : Nat} {fL : Nat → Int64} {fD : Nat → UInt64} {a0 : Int32} {u : mg_Rg} {p : (Int32 ⊕ Nat) × mg_Rg} (h : C_kept a0 u = some p) : mg_Ev sc 3 26 0 (mg_entry 26 [.ref 1, .int a0]) [] (hp u fL fD, c, z) (xri p.1, xw p.1 (hp p.2 fL fD) c z) := by
  unfold C_kept at h
  show mg_Ev _ _ _ 0 [some (.ref 1), some (.int a0)] [] _ _
  refine mg_Ev.go 2 (pc' := 2) (loc' := [some (.ref 1), some (.int a0)]) (st' := [.int a0, .ref 1]) (w' := (hp u fL fD, c, z)) rfl ?_
  obtain ⟨⟨⟨⟩ | ee, u554⟩, hf2558, h⟩ := Option.bind_eq_some_iff.mp h
  · try dsimp only at h
    refine mg_Ev.call (y := 42) (as := [.ref 1, .int a0]) (rest := []) (v := none) (w1 := (hp u554 fL fD, c, z)) rfl rfl (Nat.le_of_ble_eq_true rfl) ((ev_C_requireCountry hf2558).deep (by decide)) ?_
    refine mg_Ev.go 5 (pc' := 14) (loc' := [some (.ref 1), some (.int a0)]) (st' := [.int 0, .int a0, .ref 20]) (w' := (hp u554 fL fD, c, z)) rfl ?_
    obtain ⟨v555, hf2559, h⟩ := Option.bind_eq_some_iff.mp h
    refine mg_Ev.call (y := 184) (as := [.ref 20, .int a0, .int 0]) (rest := []) (v := some (.int v555)) (w1 := (hp u554 fL fD, c, z)) rfl rfl (Nat.le_of_ble_eq_true rfl) ((ev_T_get_19 hf2559).deep (by decide)) ?_
    cases h
    exact mg_Ev.fin rfl rfl rfl
  · cases h
    exact mg_Ev.callX (y := 42) (as := [.ref 1, .int a0]) (rest := []) rfl rfl (Nat.le_of_ble_eq_true rfl) ((ev_C_requireCountry hf2558).deep (by decide)) rfl

def C_keptAgain_L9 : Nat → Int32 → Int32 → Int32 → mg_Rg → Option (Int32)
  | 0, _, _, _, _ => none
  | n + 1, x1, x2, x3, u =>
    (T_count_25 u).bind fun v559 =>
    if v559 ≤ x3 then
    some (x2)
    else
    (T_get_25 x3 3 u).bind fun v560 =>
      if v560 = x1 then
      (O_keptOf x3 u).bind fun v561 =>
        C_keptAgain_L9 n x1 (x2 + v561) (x3 + 1) u
      else
      C_keptAgain_L9 n x1 x2 (x3 + 1) u
set_option maxRecDepth 10000 in
set_option maxHeartbeats 4000000 in
theorem ev_C_keptAgain_L9 {sc : mg_Sc} {c z : Nat} {fL : Nat → Int64} {fD : Nat → UInt64} : ∀ (n : Nat) (x1 : Int32) (x2 : Int32) (x3 : Int32) (u : mg_Rg) (res : Int32), C_keptAgain_L9 n x1 x2 x3 u = some res → ∀ r, (match res with | y2 => mg_Ev sc 3 27 56 [none, none, some (.int y2), none] [] (hp u fL fD, c, z) r) → mg_Ev sc 3 27 9 [some (.ref 1), some (.int x1), some (.int x2), some (.int x3)] [] (hp u fL fD, c, z) r := by
  intro n
  induction n with
  | zero => intro x1 x2 x3 u res h; cases h
  | succ n ih =>
    intro x1 x2 x3 u res h r K
    unfold C_keptAgain_L9 at h
    refine mg_Ev.go 4 (pc' := 17) (loc' := [some (.ref 1), some (.int x1), some (.int x2), some (.int x3)]) (st' := [.ref 26, .int x3]) (w' := (hp u fL fD, c, z)) rfl ?_
    obtain ⟨v559, hf2560, h⟩ := Option.bind_eq_some_iff.mp h
    refine mg_Ev.call (y := 181) (as := [.ref 26]) (rest := [.int x3]) (v := some (.int v559)) (w1 := (hp u fL fD, c, z)) rfl rfl (Nat.le_of_ble_eq_true rfl) ((ev_T_count_25 hf2560).deep (by decide)) ?_
    refine mg_Ev.br (P := v559 ≤ x3) (t := 56) (nx := 23) (st' := []) rfl rfl rfl rfl (fun hc2561 => ?_) (fun hc2561 => ?_)
    · rw [if_pos hc2561] at h
      cases h
      exact mg_Ev.more (loc := [none, none, some (.int x2), none]) K ⟨rfl, trivial⟩
    · rw [if_neg hc2561] at h
      refine mg_Ev.go 5 (pc' := 32) (loc' := [some (.ref 1), some (.int x1), some (.int x2), some (.int x3)]) (st' := [.int 3, .int x3, .ref 26]) (w' := (hp u fL fD, c, z)) rfl ?_
      obtain ⟨v560, hf2562, h⟩ := Option.bind_eq_some_iff.mp h
      refine mg_Ev.call (y := 184) (as := [.ref 26, .int x3, .int 3]) (rest := []) (v := some (.int v560)) (w1 := (hp u fL fD, c, z)) rfl rfl (Nat.le_of_ble_eq_true rfl) ((ev_T_get_25 hf2562).deep (by decide)) ?_
      refine mg_Ev.go 1 (pc' := 36) (loc' := [some (.ref 1), some (.int x1), some (.int x2), some (.int x3)]) (st' := [.int x1, .int v560]) (w' := (hp u fL fD, c, z)) rfl ?_
      refine mg_Ev.br (P := v560 = x1) (t := 39) (nx := 50) (st' := []) rfl rfl rfl rfl (fun hc2563 => ?_) (fun hc2563 => ?_)
      · rw [if_pos hc2563] at h
        refine mg_Ev.go 4 (pc' := 45) (loc' := [some (.ref 1), some (.int x1), some (.int x2), some (.int x3)]) (st' := [.int x3, .ref 2, .int x2]) (w' := (hp u fL fD, c, z)) rfl ?_
        obtain ⟨v561, hf2564, h⟩ := Option.bind_eq_some_iff.mp h
        refine mg_Ev.call (y := 162) (as := [.ref 2, .int x3]) (rest := [.int x2]) (v := some (.int v561)) (w1 := (hp u fL fD, c, z)) rfl rfl (Nat.le_of_ble_eq_true rfl) ((ev_O_keptOf hf2564).deep (by decide)) ?_
        refine mg_Ev.go 4 (pc' := 9) (loc' := [some (.ref 1), some (.int x1), some (.int (x2 + v561)), some (.int (x3 + 1))]) (st' := []) (w' := (hp u fL fD, c, z)) rfl ?_
        exact mg_Ev.more (loc := [some (.ref 1), some (.int x1), some (.int (x2 + v561)), some (.int (x3 + 1))]) (ih _ _ _ _ _ h _ K) ⟨rfl, ⟨rfl, ⟨rfl, ⟨rfl, trivial⟩⟩⟩⟩
      · rw [if_neg hc2563] at h
        refine mg_Ev.go 2 (pc' := 9) (loc' := [some (.ref 1), some (.int x1), some (.int x2), some (.int (x3 + 1))]) (st' := []) (w' := (hp u fL fD, c, z)) rfl ?_
        exact mg_Ev.more (loc := [some (.ref 1), some (.int x1), some (.int x2), some (.int (x3 + 1))]) (ih _ _ _ _ _ h _ K) ⟨rfl, ⟨rfl, ⟨rfl, ⟨rfl, trivial⟩⟩⟩⟩

def C_keptAgain (a0 : Int32) (u : mg_Rg) : Option ((Int32 ⊕ Nat) × mg_Rg) :=
  (C_requireCountry a0 u).bind fun p556 => match p556 with
  | (.inr ee, u558) => some (.inr ee, u558)
  | (.inl _, u558) =>
    (C_keptAgain_L9 mg_F a0 0 0 u558).bind fun q2565 => match q2565 with
    | x562 =>
      some (.inl x562, u558)

set_option maxRecDepth 10000 in
set_option maxHeartbeats 4000000 in
theorem ev_C_keptAgain {sc : mg_Sc} {c z : Nat} {fL : Nat → Int64} {fD : Nat → UInt64} {a0 : Int32} {u : mg_Rg} {p : (Int32 ⊕ Nat) × mg_Rg} (h : C_keptAgain a0 u = some p) : mg_Ev sc 3 27 0 (mg_entry 27 [.ref 1, .int a0]) [] (hp u fL fD, c, z) (xri p.1, xw p.1 (hp p.2 fL fD) c z) := by
  unfold C_keptAgain at h
  show mg_Ev _ _ _ 0 [some (.ref 1), some (.int a0), none, none] [] _ _
  refine mg_Ev.go 2 (pc' := 2) (loc' := [some (.ref 1), some (.int a0), none, none]) (st' := [.int a0, .ref 1]) (w' := (hp u fL fD, c, z)) rfl ?_
  obtain ⟨⟨⟨⟩ | ee, u558⟩, hf2566, h⟩ := Option.bind_eq_some_iff.mp h
  · try dsimp only at h
    refine mg_Ev.call (y := 42) (as := [.ref 1, .int a0]) (rest := []) (v := none) (w1 := (hp u558 fL fD, c, z)) rfl rfl (Nat.le_of_ble_eq_true rfl) ((ev_C_requireCountry hf2566).deep (by decide)) ?_
    refine mg_Ev.go 4 (pc' := 9) (loc' := [some (.ref 1), some (.int a0), some (.int 0), some (.int 0)]) (st' := []) (w' := (hp u558 fL fD, c, z)) rfl ?_
    obtain ⟨x562, hl2567, h⟩ := Option.bind_eq_some_iff.mp h
    try dsimp only at h
    refine mg_Ev.more (loc := [some (.ref 1), some (.int a0), some (.int 0), some (.int 0)]) (ev_C_keptAgain_L9 _ _ _ _ _ _ hl2567 _ ?_) ⟨rfl, ⟨rfl, ⟨rfl, ⟨rfl, trivial⟩⟩⟩⟩
    show mg_Ev _ _ _ 56 [none, none, some (.int x562), none] [] (hp u558 fL fD, c, z) _
    refine mg_Ev.go 1 (pc' := 57) (loc' := [none, none, some (.int x562), none]) (st' := [.int x562]) (w' := (hp u558 fL fD, c, z)) rfl ?_
    cases h
    exact mg_Ev.fin rfl rfl rfl
  · cases h
    exact mg_Ev.callX (y := 42) (as := [.ref 1, .int a0]) (rest := []) rfl rfl (Nat.le_of_ble_eq_true rfl) ((ev_C_requireCountry hf2566).deep (by decide)) rfl

def C_keptUnder_L9 : Nat → Int32 → Int32 → Int32 → mg_Rg → Option (Int32)
  | 0, _, _, _, _ => none
  | n + 1, x1, x2, x3, u =>
    (T_count_25 u).bind fun v566 =>
    if v566 ≤ x3 then
    some (x2)
    else
    (T_get_25 x3 0 u).bind fun v567 =>
      (Tf_isUnder v567 x1 u).bind fun v568 =>
      if v568 = 0 then
      C_keptUnder_L9 n x1 x2 (x3 + 1) u
      else
      (O_keptOf x3 u).bind fun v569 =>
        C_keptUnder_L9 n x1 (x2 + v569) (x3 + 1) u
set_option maxRecDepth 10000 in
set_option maxHeartbeats 4000000 in
theorem ev_C_keptUnder_L9 {sc : mg_Sc} {c z : Nat} {fL : Nat → Int64} {fD : Nat → UInt64} : ∀ (n : Nat) (x1 : Int32) (x2 : Int32) (x3 : Int32) (u : mg_Rg) (res : Int32), C_keptUnder_L9 n x1 x2 x3 u = some res → ∀ r, (match res with | y2 => mg_Ev sc 3 28 63 [none, none, some (.int y2), none] [] (hp u fL fD, c, z) r) → mg_Ev sc 3 28 9 [some (.ref 1), some (.int x1), some (.int x2), some (.int x3)] [] (hp u fL fD, c, z) r := by
  intro n
  induction n with
  | zero => intro x1 x2 x3 u res h; cases h
  | succ n ih =>
    intro x1 x2 x3 u res h r K
    unfold C_keptUnder_L9 at h
    refine mg_Ev.go 4 (pc' := 17) (loc' := [some (.ref 1), some (.int x1), some (.int x2), some (.int x3)]) (st' := [.ref 26, .int x3]) (w' := (hp u fL fD, c, z)) rfl ?_
    obtain ⟨v566, hf2568, h⟩ := Option.bind_eq_some_iff.mp h
    refine mg_Ev.call (y := 181) (as := [.ref 26]) (rest := [.int x3]) (v := some (.int v566)) (w1 := (hp u fL fD, c, z)) rfl rfl (Nat.le_of_ble_eq_true rfl) ((ev_T_count_25 hf2568).deep (by decide)) ?_
    refine mg_Ev.br (P := v566 ≤ x3) (t := 63) (nx := 23) (st' := []) rfl rfl rfl rfl (fun hc2569 => ?_) (fun hc2569 => ?_)
    · rw [if_pos hc2569] at h
      cases h
      exact mg_Ev.more (loc := [none, none, some (.int x2), none]) K ⟨rfl, trivial⟩
    · rw [if_neg hc2569] at h
      refine mg_Ev.go 7 (pc' := 36) (loc' := [some (.ref 1), some (.int x1), some (.int x2), some (.int x3)]) (st' := [.int 0, .int x3, .ref 26, .ref 3]) (w' := (hp u fL fD, c, z)) rfl ?_
      obtain ⟨v567, hf2570, h⟩ := Option.bind_eq_some_iff.mp h
      refine mg_Ev.call (y := 184) (as := [.ref 26, .int x3, .int 0]) (rest := [.ref 3]) (v := some (.int v567)) (w1 := (hp u fL fD, c, z)) rfl rfl (Nat.le_of_ble_eq_true rfl) ((ev_T_get_25 hf2570).deep (by decide)) ?_
      refine mg_Ev.go 1 (pc' := 40) (loc' := [some (.ref 1), some (.int x1), some (.int x2), some (.int x3)]) (st' := [.int x1, .int v567, .ref 3]) (w' := (hp u fL fD, c, z)) rfl ?_
      obtain ⟨v568, hf2571, h⟩ := Option.bind_eq_some_iff.mp h
      refine mg_Ev.call (y := 201) (as := [.ref 3, .int v567, .int x1]) (rest := []) (v := some (.int v568)) (w1 := (hp u fL fD, c, z)) rfl rfl (Nat.le_of_ble_eq_true rfl) ((ev_Tf_isUnder hf2571).deep (by decide)) ?_
      refine mg_Ev.br (P := v568 = 0) (t := 57) (nx := 46) (st' := []) rfl rfl rfl rfl (fun hc2572 => ?_) (fun hc2572 => ?_)
      · rw [if_pos hc2572] at h
        refine mg_Ev.go 2 (pc' := 9) (loc' := [some (.ref 1), some (.int x1), some (.int x2), some (.int (x3 + 1))]) (st' := []) (w' := (hp u fL fD, c, z)) rfl ?_
        exact mg_Ev.more (loc := [some (.ref 1), some (.int x1), some (.int x2), some (.int (x3 + 1))]) (ih _ _ _ _ _ h _ K) ⟨rfl, ⟨rfl, ⟨rfl, ⟨rfl, trivial⟩⟩⟩⟩
      · rw [if_neg hc2572] at h
        refine mg_Ev.go 4 (pc' := 52) (loc' := [some (.ref 1), some (.int x1), some (.int x2), some (.int x3)]) (st' := [.int x3, .ref 2, .int x2]) (w' := (hp u fL fD, c, z)) rfl ?_
        obtain ⟨v569, hf2573, h⟩ := Option.bind_eq_some_iff.mp h
        refine mg_Ev.call (y := 162) (as := [.ref 2, .int x3]) (rest := [.int x2]) (v := some (.int v569)) (w1 := (hp u fL fD, c, z)) rfl rfl (Nat.le_of_ble_eq_true rfl) ((ev_O_keptOf hf2573).deep (by decide)) ?_
        refine mg_Ev.go 4 (pc' := 9) (loc' := [some (.ref 1), some (.int x1), some (.int (x2 + v569)), some (.int (x3 + 1))]) (st' := []) (w' := (hp u fL fD, c, z)) rfl ?_
        exact mg_Ev.more (loc := [some (.ref 1), some (.int x1), some (.int (x2 + v569)), some (.int (x3 + 1))]) (ih _ _ _ _ _ h _ K) ⟨rfl, ⟨rfl, ⟨rfl, ⟨rfl, trivial⟩⟩⟩⟩

def C_keptUnder (a0 : Int32) (u : mg_Rg) : Option ((Int32 ⊕ Nat) × mg_Rg) :=
  (C_requireHeading a0 u).bind fun p563 => match p563 with
  | (.inr ee, u565) => some (.inr ee, u565)
  | (.inl _, u565) =>
    (C_keptUnder_L9 mg_F a0 0 0 u565).bind fun q2574 => match q2574 with
    | x570 =>
      some (.inl x570, u565)

set_option maxRecDepth 10000 in
set_option maxHeartbeats 4000000 in
theorem ev_C_keptUnder {sc : mg_Sc} {c z : Nat} {fL : Nat → Int64} {fD : Nat → UInt64} {a0 : Int32} {u : mg_Rg} {p : (Int32 ⊕ Nat) × mg_Rg} (h : C_keptUnder a0 u = some p) : mg_Ev sc 3 28 0 (mg_entry 28 [.ref 1, .int a0]) [] (hp u fL fD, c, z) (xri p.1, xw p.1 (hp p.2 fL fD) c z) := by
  unfold C_keptUnder at h
  show mg_Ev _ _ _ 0 [some (.ref 1), some (.int a0), none, none] [] _ _
  refine mg_Ev.go 2 (pc' := 2) (loc' := [some (.ref 1), some (.int a0), none, none]) (st' := [.int a0, .ref 1]) (w' := (hp u fL fD, c, z)) rfl ?_
  obtain ⟨⟨⟨⟩ | ee, u565⟩, hf2575, h⟩ := Option.bind_eq_some_iff.mp h
  · try dsimp only at h
    refine mg_Ev.call (y := 41) (as := [.ref 1, .int a0]) (rest := []) (v := none) (w1 := (hp u565 fL fD, c, z)) rfl rfl (Nat.le_of_ble_eq_true rfl) ((ev_C_requireHeading hf2575).deep (by decide)) ?_
    refine mg_Ev.go 4 (pc' := 9) (loc' := [some (.ref 1), some (.int a0), some (.int 0), some (.int 0)]) (st' := []) (w' := (hp u565 fL fD, c, z)) rfl ?_
    obtain ⟨x570, hl2576, h⟩ := Option.bind_eq_some_iff.mp h
    try dsimp only at h
    refine mg_Ev.more (loc := [some (.ref 1), some (.int a0), some (.int 0), some (.int 0)]) (ev_C_keptUnder_L9 _ _ _ _ _ _ hl2576 _ ?_) ⟨rfl, ⟨rfl, ⟨rfl, ⟨rfl, trivial⟩⟩⟩⟩
    show mg_Ev _ _ _ 63 [none, none, some (.int x570), none] [] (hp u565 fL fD, c, z) _
    refine mg_Ev.go 1 (pc' := 64) (loc' := [none, none, some (.int x570), none]) (st' := [.int x570]) (w' := (hp u565 fL fD, c, z)) rfl ?_
    cases h
    exact mg_Ev.fin rfl rfl rfl
  · cases h
    exact mg_Ev.callX (y := 41) (as := [.ref 1, .int a0]) (rest := []) rfl rfl (Nat.le_of_ble_eq_true rfl) ((ev_C_requireHeading hf2575).deep (by decide)) rfl

