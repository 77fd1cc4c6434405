def C_declare (a0 : Int32) (a1 : Int32) (a2 : Int32) (a3 : Int32) (u : mg_Rg) : Option ((Int32 ⊕ Nat) × mg_Rg) :=
  (C_requireHeading a0 u).bind fun p297 => match p297 with
  | (.inr ee, u299) => some (.inr ee, u299)
  | (.inl _, u299) =>
    if a3 = (-1) then
    (C_isWithin a1 1 999 u299).bind fun v300 =>
      if v300 = 0 then
      some (.inr 1, u299)
      else
      (C_isWithin a2 0 2 u299).bind fun v301 =>
        if v301 = 0 then
        some (.inr 1, u299)
        else
        (Tf_childrenOf a0 u299).bind fun v302 =>
          if 0 < v302 then
          some (.inr 2, u299)
          else
          (T_count_30 u299).bind fun v303 =>
            if v303 = 0 then
            some (.inr 2, u299)
            else
            (T_isFull_25 u299).bind fun v305 =>
              if v305 = 0 then
              (C_keepForUndo u299).bind fun u306 =>
                (O_enter_29 a0 a1 a2 a3 u306).bind fun p331 => match p331 with
                | (v329, u330) =>
                  (T_clear_30 u330).bind fun u332 =>
                  some (.inl v329, u332)
              else
              some (.inr 2, u299)
    else
    (C_requireQuota a3 u299).bind fun p333 => match p333 with
      | (.inr ee, u335) => some (.inr ee, u335)
      | (.inl _, u335) =>
        (C_isWithin a1 1 999 u335).bind fun v336 =>
        if v336 = 0 then
        some (.inr 1, u335)
        else
        (C_isWithin a2 0 2 u335).bind fun v337 =>
          if v337 = 0 then
          some (.inr 1, u335)
          else
          (Tf_childrenOf a0 u335).bind fun v338 =>
            if 0 < v338 then
            some (.inr 2, u335)
            else
            (T_count_30 u335).bind fun v339 =>
              if v339 = 0 then
              some (.inr 2, u335)
              else
              (T_isFull_25 u335).bind fun v340 =>
                if v340 = 0 then
                (C_keepForUndo u335).bind fun u341 =>
                  (O_enter_29 a0 a1 a2 a3 u341).bind fun p344 => match p344 with
                  | (v342, u343) =>
                    (T_clear_30 u343).bind fun u345 =>
                    some (.inl v342, u345)
                else
                some (.inr 2, u335)

set_option maxRecDepth 10000 in
set_option maxHeartbeats 4000000 in
theorem ev_C_declare {sc : mg_Sc} {c z : Nat} {fL : Nat → Int64} {fD : Nat → UInt64} {a0 : Int32} {a1 : Int32} {a2 : Int32} {a3 : Int32} {u : mg_Rg} {p : (Int32 ⊕ Nat) × mg_Rg} (h : C_declare a0 a1 a2 a3 u = some p) : mg_Ev sc 6 17 0 (mg_entry 17 [.ref 1, .int a0, .int a1, .int a2, .int a3]) [] (hp u fL fD, c, z) (xri p.1, xw p.1 (hp p.2 fL fD) c z) := by
  unfold C_declare at h
  show mg_Ev _ _ _ 0 [some (.ref 1), some (.int a0), some (.int a1), some (.int a2), some (.int a3), none] [] _ _
  refine mg_Ev.go 2 (pc' := 2) (loc' := [some (.ref 1), some (.int a0), some (.int a1), some (.int a2), some (.int a3), none]) (st' := [.int a0, .ref 1]) (w' := (hp u fL fD, c, z)) rfl ?_
  obtain ⟨⟨⟨⟩ | ee, u299⟩, hf2259, h⟩ := Option.bind_eq_some_iff.mp h
  · try dsimp only at h
    refine mg_Ev.call (y := 41) (as := [.ref 1, .int a0]) (rest := []) (v := none) (w1 := (hp u299 fL fD, c, z)) rfl rfl (Nat.le_of_ble_eq_true rfl) ((ev_C_requireHeading hf2259).deep (by decide)) ?_
    refine mg_Ev.go 2 (pc' := 8) (loc' := [some (.ref 1), some (.int a0), some (.int a1), some (.int a2), some (.int a3), none]) (st' := [.int (-1), .int a3]) (w' := (hp u299 fL fD, c, z)) rfl ?_
    refine mg_Ev.br (P := a3 = (-1)) (t := 17) (nx := 11) (st' := []) rfl rfl rfl rfl (fun hc2260 => ?_) (fun hc2260 => ?_)
    · rw [if_pos hc2260] at h
      refine mg_Ev.go 3 (pc' := 22) (loc' := [some (.ref 1), some (.int a0), some (.int a1), some (.int a2), some (.int a3), none]) (st' := [.int 999, .int 1, .int a1]) (w' := (hp u299 fL fD, c, z)) rfl ?_
      obtain ⟨v300, hf2261, h⟩ := Option.bind_eq_some_iff.mp h
      refine mg_Ev.call (y := 54) (as := [.int a1, .int 1, .int 999]) (rest := []) (v := some (.int v300)) (w1 := (hp u299 fL fD, c, z)) rfl rfl (Nat.le_of_ble_eq_true rfl) ((ev_C_isWithin hf2261).deep (by decide)) ?_
      refine mg_Ev.br (P := v300 = 0) (t := 37) (nx := 28) (st' := []) rfl rfl rfl rfl (fun hc2262 => ?_) (fun hc2262 => ?_)
      · rw [if_pos hc2262] at h
        cases h
        exact mg_Ev.fin rfl rfl rfl
      · rw [if_neg hc2262] at h
        refine mg_Ev.go 3 (pc' := 31) (loc' := [some (.ref 1), some (.int a0), some (.int a1), some (.int a2), some (.int a3), none]) (st' := [.int 2, .int 0, .int a2]) (w' := (hp u299 fL fD, c, z)) rfl ?_
        obtain ⟨v301, hf2263, h⟩ := Option.bind_eq_some_iff.mp h
        refine mg_Ev.call (y := 54) (as := [.int a2, .int 0, .int 2]) (rest := []) (v := some (.int v301)) (w1 := (hp u299 fL fD, c, z)) rfl rfl (Nat.le_of_ble_eq_true rfl) ((ev_C_isWithin hf2263).deep (by decide)) ?_
        refine mg_Ev.br (P := v301 = 0) (t := 37) (nx := 47) (st' := []) rfl rfl rfl rfl (fun hc2264 => ?_) (fun hc2264 => ?_)
        · rw [if_pos hc2264] at h
          cases h
          exact mg_Ev.fin rfl rfl rfl
        · rw [if_neg hc2264] at h
          refine mg_Ev.go 3 (pc' := 52) (loc' := [some (.ref 1), some (.int a0), some (.int a1), some (.int a2), some (.int a3), none]) (st' := [.int a0, .ref 3]) (w' := (hp u299 fL fD, c, z)) rfl ?_
          obtain ⟨v302, hf2265, h⟩ := Option.bind_eq_some_iff.mp h
          refine mg_Ev.call (y := 200) (as := [.ref 3, .int a0]) (rest := []) (v := some (.int v302)) (w1 := (hp u299 fL fD, c, z)) rfl rfl (Nat.le_of_ble_eq_true rfl) ((ev_Tf_childrenOf hf2265).deep (by decide)) ?_
          refine mg_Ev.br (P := 0 < v302) (t := 84) (nx := 58) (st' := []) rfl rfl rfl rfl (fun hc2266 => ?_) (fun hc2266 => ?_)
          · rw [if_pos hc2266] at h
            cases h
            exact mg_Ev.fin rfl rfl rfl
          · rw [if_neg hc2266] at h
            refine mg_Ev.go 3 (pc' := 65) (loc' := [some (.ref 1), some (.int a0), some (.int a1), some (.int a2), some (.int a3), none]) (st' := [.ref 31]) (w' := (hp u299 fL fD, c, z)) rfl ?_
            obtain ⟨v303, hf2267, h⟩ := Option.bind_eq_some_iff.mp h
            refine mg_Ev.call (y := 181) (as := [.ref 31]) (rest := []) (v := some (.int v303)) (w1 := (hp u299 fL fD, c, z)) rfl rfl (Nat.le_of_ble_eq_true rfl) ((ev_T_count_30 hf2267).deep (by decide)) ?_
            refine mg_Ev.br (P := v303 = 0) (t := 84) (nx := 71) (st' := []) rfl rfl rfl rfl (fun hc2268 => ?_) (fun hc2268 => ?_)
            · rw [if_pos hc2268] at h
              cases h
              exact mg_Ev.fin rfl rfl rfl
            · rw [if_neg hc2268] at h
              refine mg_Ev.go 3 (pc' := 78) (loc' := [some (.ref 1), some (.int a0), some (.int a1), some (.int a2), some (.int a3), none]) (st' := [.ref 26]) (w' := (hp u299 fL fD, c, z)) rfl ?_
              obtain ⟨v305, hf2269, h⟩ := Option.bind_eq_some_iff.mp h
              refine mg_Ev.call (y := 183) (as := [.ref 26]) (rest := []) (v := some (.int v305)) (w1 := (hp u299 fL fD, c, z)) rfl rfl (Nat.le_of_ble_eq_true rfl) ((ev_T_isFull_25 hf2269).deep (by decide)) ?_
              refine mg_Ev.br (P := v305 = 0) (t := 94) (nx := 84) (st' := []) rfl rfl rfl rfl (fun hc2270 => ?_) (fun hc2270 => ?_)
              · rw [if_pos hc2270] at h
                refine mg_Ev.go 1 (pc' := 95) (loc' := [some (.ref 1), some (.int a0), some (.int a1), some (.int a2), some (.int a3), none]) (st' := [.ref 1]) (w' := (hp u299 fL fD, c, z)) rfl ?_
                obtain ⟨u306, hf2271, h⟩ := Option.bind_eq_some_iff.mp h
                refine mg_Ev.call (y := 38) (as := [.ref 1]) (rest := []) (v := none) (w1 := (hp u306 fL fD, c, z)) rfl rfl (Nat.le_of_ble_eq_true rfl) ((ev_C_keepForUndo hf2271).deep (by decide)) ?_
                refine mg_Ev.go 8 (pc' := 111) (loc' := [some (.ref 1), some (.int a0), some (.int a1), some (.int a2), some (.int a3), none]) (st' := [.ref 30, .int a3, .int a2, .int a1, .int a0, .ref 2]) (w' := (hp u306 fL fD, c, z)) rfl ?_
                obtain ⟨⟨v329, u330⟩, hf2272, h⟩ := Option.bind_eq_some_iff.mp h
                try dsimp only at h
                refine mg_Ev.call (y := 152) (as := [.ref 2, .int a0, .int a1, .int a2, .int a3, .ref 30]) (rest := []) (v := some (.int v329)) (w1 := (hp u330 fL fD, c, z)) rfl rfl (Nat.le_of_ble_eq_true rfl) ((ev_O_enter_29 hf2272).deep (by decide)) ?_
                refine mg_Ev.go 4 (pc' := 123) (loc' := [some (.ref 1), some (.int a0), some (.int a1), some (.int a2), some (.int a3), some (.int v329)]) (st' := [.ref 31]) (w' := (hp u330 fL fD, c, z)) rfl ?_
                obtain ⟨u332, hf2273, h⟩ := Option.bind_eq_some_iff.mp h
                refine mg_Ev.call (y := 189) (as := [.ref 31]) (rest := []) (v := none) (w1 := (hp u332 fL fD, c, z)) rfl rfl (Nat.le_of_ble_eq_true rfl) ((ev_T_clear_30 hf2273).deep (by decide)) ?_
                refine mg_Ev.go 1 (pc' := 128) (loc' := [some (.ref 1), some (.int a0), some (.int a1), some (.int a2), some (.int a3), some (.int v329)]) (st' := [.int v329]) (w' := (hp u332 fL fD, c, z)) rfl ?_
                cases h
                exact mg_Ev.fin rfl rfl rfl
              · rw [if_neg hc2270] at h
                cases h
                exact mg_Ev.fin rfl rfl rfl
    · rw [if_neg hc2260] at h
      refine mg_Ev.go 2 (pc' := 14) (loc' := [some (.ref 1), some (.int a0), some (.int a1), some (.int a2), some (.int a3), none]) (st' := [.int a3, .ref 1]) (w' := (hp u299 fL fD, c, z)) rfl ?_
      obtain ⟨⟨⟨⟩ | ee, u335⟩, hf2274, h⟩ := Option.bind_eq_some_iff.mp h
      · try dsimp only at h
        refine mg_Ev.call (y := 43) (as := [.ref 1, .int a3]) (rest := []) (v := none) (w1 := (hp u335 fL fD, c, z)) rfl rfl (Nat.le_of_ble_eq_true rfl) ((ev_C_requireQuota hf2274).deep (by decide)) ?_
        refine mg_Ev.go 3 (pc' := 22) (loc' := [some (.ref 1), some (.int a0), some (.int a1), some (.int a2), some (.int a3), none]) (st' := [.int 999, .int 1, .int a1]) (w' := (hp u335 fL fD, c, z)) rfl ?_
        obtain ⟨v336, hf2275, h⟩ := Option.bind_eq_some_iff.mp h
        refine mg_Ev.call (y := 54) (as := [.int a1, .int 1, .int 999]) (rest := []) (v := some (.int v336)) (w1 := (hp u335 fL fD, c, z)) rfl rfl (Nat.le_of_ble_eq_true rfl) ((ev_C_isWithin hf2275).deep (by decide)) ?_
        refine mg_Ev.br (P := v336 = 0) (t := 37) (nx := 28) (st' := []) rfl rfl rfl rfl (fun hc2276 => ?_) (fun hc2276 => ?_)
        · rw [if_pos hc2276] at h
          cases h
          exact mg_Ev.fin rfl rfl rfl
        · rw [if_neg hc2276] at h
          refine mg_Ev.go 3 (pc' := 31) (loc' := [some (.ref 1), some (.int a0), some (.int a1), some (.int a2), some (.int a3), none]) (st' := [.int 2, .int 0, .int a2]) (w' := (hp u335 fL fD, c, z)) rfl ?_
          obtain ⟨v337, hf2277, h⟩ := Option.bind_eq_some_iff.mp h
          refine mg_Ev.call (y := 54) (as := [.int a2, .int 0, .int 2]) (rest := []) (v := some (.int v337)) (w1 := (hp u335 fL fD, c, z)) rfl rfl (Nat.le_of_ble_eq_true rfl) ((ev_C_isWithin hf2277).deep (by decide)) ?_
          refine mg_Ev.br (P := v337 = 0) (t := 37) (nx := 47) (st' := []) rfl rfl rfl rfl (fun hc2278 => ?_) (fun hc2278 => ?_)
          · rw [if_pos hc2278] at h
            cases h
            exact mg_Ev.fin rfl rfl rfl
          · rw [if_neg hc2278] at h
            refine mg_Ev.go 3 (pc' := 52) (loc' := [some (.ref 1), some (.int a0), some (.int a1), some (.int a2), some (.int a3), none]) (st' := [.int a0, .ref 3]) (w' := (hp u335 fL fD, c, z)) rfl ?_
            obtain ⟨v338, hf2279, h⟩ := Option.bind_eq_some_iff.mp h
            refine mg_Ev.call (y := 200) (as := [.ref 3, .int a0]) (rest := []) (v := some (.int v338)) (w1 := (hp u335 fL fD, c, z)) rfl rfl (Nat.le_of_ble_eq_true rfl) ((ev_Tf_childrenOf hf2279).deep (by decide)) ?_
            refine mg_Ev.br (P := 0 < v338) (t := 84) (nx := 58) (st' := []) rfl rfl rfl rfl (fun hc2280 => ?_) (fun hc2280 => ?_)
            · rw [if_pos hc2280] at h
              cases h
              exact mg_Ev.fin rfl rfl rfl
            · rw [if_neg hc2280] at h
              refine mg_Ev.go 3 (pc' := 65) (loc' := [some (.ref 1), some (.int a0), some (.int a1), some (.int a2), some (.int a3), none]) (st' := [.ref 31]) (w' := (hp u335 fL fD, c, z)) rfl ?_
              obtain ⟨v339, hf2281, h⟩ := Option.bind_eq_some_iff.mp h
              refine mg_Ev.call (y := 181) (as := [.ref 31]) (rest := []) (v := some (.int v339)) (w1 := (hp u335 fL fD, c, z)) rfl rfl (Nat.le_of_ble_eq_true rfl) ((ev_T_count_30 hf2281).deep (by decide)) ?_
              refine mg_Ev.br (P := v339 = 0) (t := 84) (nx := 71) (st' := []) rfl rfl rfl rfl (fun hc2282 => ?_) (fun hc2282 => ?_)
              · rw [if_pos hc2282] at h
                cases h
                exact mg_Ev.fin rfl rfl rfl
              · rw [if_neg hc2282] at h
                refine mg_Ev.go 3 (pc' := 78) (loc' := [some (.ref 1), some (.int a0), some (.int a1), some (.int a2), some (.int a3), none]) (st' := [.ref 26]) (w' := (hp u335 fL fD, c, z)) rfl ?_
                obtain ⟨v340, hf2283, h⟩ := Option.bind_eq_some_iff.mp h
                refine mg_Ev.call (y := 183) (as := [.ref 26]) (rest := []) (v := some (.int v340)) (w1 := (hp u335 fL fD, c, z)) rfl rfl (Nat.le_of_ble_eq_true rfl) ((ev_T_isFull_25 hf2283).deep (by decide)) ?_
                refine mg_Ev.br (P := v340 = 0) (t := 94) (nx := 84) (st' := []) rfl rfl rfl rfl (fun hc2284 => ?_) (fun hc2284 => ?_)
                · rw [if_pos hc2284] at h
                  refine mg_Ev.go 1 (pc' := 95) (loc' := [some (.ref 1), some (.int a0), some (.int a1), some (.int a2), some (.int a3), none]) (st' := [.ref 1]) (w' := (hp u335 fL fD, c, z)) rfl ?_
                  obtain ⟨u341, hf2285, h⟩ := Option.bind_eq_some_iff.mp h
                  refine mg_Ev.call (y := 38) (as := [.ref 1]) (rest := []) (v := none) (w1 := (hp u341 fL fD, c, z)) rfl rfl (Nat.le_of_ble_eq_true rfl) ((ev_C_keepForUndo hf2285).deep (by decide)) ?_
                  refine mg_Ev.go 8 (pc' := 111) (loc' := [some (.ref 1), some (.int a0), some (.int a1), some (.int a2), some (.int a3), none]) (st' := [.ref 30, .int a3, .int a2, .int a1, .int a0, .ref 2]) (w' := (hp u341 fL fD, c, z)) rfl ?_
                  obtain ⟨⟨v342, u343⟩, hf2286, h⟩ := Option.bind_eq_some_iff.mp h
                  try dsimp only at h
                  refine mg_Ev.call (y := 152) (as := [.ref 2, .int a0, .int a1, .int a2, .int a3, .ref 30]) (rest := []) (v := some (.int v342)) (w1 := (hp u343 fL fD, c, z)) rfl rfl (Nat.le_of_ble_eq_true rfl) ((ev_O_enter_29 hf2286).deep (by decide)) ?_
                  refine mg_Ev.go 4 (pc' := 123) (loc' := [some (.ref 1), some (.int a0), some (.int a1), some (.int a2), some (.int a3), some (.int v342)]) (st' := [.ref 31]) (w' := (hp u343 fL fD, c, z)) rfl ?_
                  obtain ⟨u345, hf2287, h⟩ := Option.bind_eq_some_iff.mp h
                  refine mg_Ev.call (y := 189) (as := [.ref 31]) (rest := []) (v := none) (w1 := (hp u345 fL fD, c, z)) rfl rfl (Nat.le_of_ble_eq_true rfl) ((ev_T_clear_30 hf2287).deep (by decide)) ?_
                  refine mg_Ev.go 1 (pc' := 128) (loc' := [some (.ref 1), some (.int a0), some (.int a1), some (.int a2), some (.int a3), some (.int v342)]) (st' := [.int v342]) (w' := (hp u345 fL fD, c, z)) rfl ?_
                  cases h
                  exact mg_Ev.fin rfl rfl rfl
                · rw [if_neg hc2284] at h
                  cases h
                  exact mg_Ev.fin rfl rfl rfl
      · cases h
        exact mg_Ev.callX (y := 43) (as := [.ref 1, .int a3]) (rest := []) rfl rfl (Nat.le_of_ble_eq_true rfl) ((ev_C_requireQuota hf2274).deep (by decide)) rfl
  · cases h
    exact mg_Ev.callX (y := 41) (as := [.ref 1, .int a0]) (rest := []) rfl rfl (Nat.le_of_ble_eq_true rfl) ((ev_C_requireHeading hf2259).deep (by decide)) rfl

def T_has_25 (a0 : Int32) (u : mg_Rg) : Option (Int32) :=
  if a0 < 0 then
  some 0
  else
  (T_count_25 u).bind fun v346 =>
    if v346 ≤ a0 then
    some 0
    else
    some 1

set_option maxRecDepth 10000 in
set_option maxHeartbeats 4000000 in
theorem ev_T_has_25 {sc : mg_Sc} {c z : Nat} {fL : Nat → Int64} {fD : Nat → UInt64} {a0 : Int32} {u : mg_Rg} {v : Int32} (h : T_has_25 a0 u = some v) : mg_Ev sc 1 182 0 (mg_entry 182 [.ref 26, .int a0]) [] (hp u fL fD, c, z) (.inl (some (.int v)), (hp u fL fD, c, z)) := by
  unfold T_has_25 at h
  show mg_Ev _ _ _ 0 [some (.ref 26), some (.int a0)] [] _ _
  refine mg_Ev.go 1 (pc' := 1) (loc' := [some (.ref 26), some (.int a0)]) (st' := [.int a0]) (w' := (hp u fL fD, c, z)) rfl ?_
  refine mg_Ev.br (P := a0 < 0) (t := 16) (nx := 4) (st' := []) rfl rfl rfl rfl (fun hc2288 => ?_) (fun hc2288 => ?_)
  · rw [if_pos hc2288] at h
    refine mg_Ev.go 1 (pc' := 17) (loc' := [some (.ref 26), some (.int a0)]) (st' := [.int 0]) (w' := (hp u fL fD, c, z)) rfl ?_
    cases h
    exact mg_Ev.fin rfl rfl rfl
  · rw [if_neg hc2288] at h
    refine mg_Ev.go 2 (pc' := 6) (loc' := [some (.ref 26), some (.int a0)]) (st' := [.ref 26, .int a0]) (w' := (hp u fL fD, c, z)) rfl ?_
    obtain ⟨v346, hf2289, h⟩ := Option.bind_eq_some_iff.mp h
    refine mg_Ev.call (y := 181) (as := [.ref 26]) (rest := [.int a0]) (v := some (.int v346)) (w1 := (hp u fL fD, c, z)) rfl rfl (Nat.le_of_ble_eq_true rfl) ((ev_T_count_25 hf2289).deep (by decide)) ?_
    refine mg_Ev.br (P := v346 ≤ a0) (t := 16) (nx := 12) (st' := []) rfl rfl rfl rfl (fun hc2290 => ?_) (fun hc2290 => ?_)
    · rw [if_pos hc2290] at h
      refine mg_Ev.go 1 (pc' := 17) (loc' := [some (.ref 26), some (.int a0)]) (st' := [.int 0]) (w' := (hp u fL fD, c, z)) rfl ?_
      cases h
      exact mg_Ev.fin rfl rfl rfl
    · rw [if_neg hc2290] at h
      refine mg_Ev.go 2 (pc' := 17) (loc' := [some (.ref 26), some (.int a0)]) (st' := [.int 1]) (w' := (hp u fL fD, c, z)) rfl ?_
      cases h
      exact mg_Ev.fin rfl rfl rfl

def C_requireDeclaration (a0 : Int32) (u : mg_Rg) : Option ((Unit ⊕ Nat) × mg_Rg) :=
  (T_has_25 a0 u).bind fun v347 =>
  if v347 = 0 then
  some (.inr 0, u)
  else
  some (.inl (), u)

set_option maxRecDepth 10000 in
set_option maxHeartbeats 4000000 in
theorem ev_C_requireDeclaration {sc : mg_Sc} {c z : Nat} {fL : Nat → Int64} {fD : Nat → UInt64} {a0 : Int32} {u : mg_Rg} {p : (Unit ⊕ Nat) × mg_Rg} (h : C_requireDeclaration a0 u = some p) : mg_Ev sc 2 44 0 (mg_entry 44 [.ref 1, .int a0]) [] (hp u fL fD, c, z) (xru p.1, xw p.1 (hp p.2 fL fD) c z) := by
  unfold C_requireDeclaration at h
  show mg_Ev _ _ _ 0 [some (.ref 1), some (.int a0)] [] _ _
  refine mg_Ev.go 4 (pc' := 8) (loc' := [some (.ref 1), some (.int a0)]) (st' := [.int a0, .ref 26]) (w' := (hp u fL fD, c, z)) rfl ?_
  obtain ⟨v347, hf2291, h⟩ := Option.bind_eq_some_iff.mp h
  refine mg_Ev.call (y := 182) (as := [.ref 26, .int a0]) (rest := []) (v := some (.int v347)) (w1 := (hp u fL fD, c, z)) rfl rfl (Nat.le_of_ble_eq_true rfl) ((ev_T_has_25 hf2291).deep (by decide)) ?_
  refine mg_Ev.br (P := v347 = 0) (t := 14) (nx := 25) (st' := []) rfl rfl rfl rfl (fun hc2292 => ?_) (fun hc2292 => ?_)
  · rw [if_pos hc2292] at h
    cases h
    exact mg_Ev.fin rfl rfl rfl
  · rw [if_neg hc2292] at h
    cases h
    exact mg_Ev.fin rfl rfl rfl

def T_get_25 (a0 : Int32) (a1 : Int32) (u : mg_Rg) : Option (Int32) :=
  if a0 < 0 then
  some 0
  else
  if 30 ≤ a0 then
    some 0
    else
    if a1 < 0 then
      some 0
      else
      if a1 < 15 then
        if ((1 + (a0 * 15)) + a1) < 0 then
          some 0
          else
          if 451 ≤ ((1 + (a0 * 15)) + a1) then
            some 0
            else
            if ((1 + (a0 * 15)) + a1) < 0 ∨ 451 ≤ ((1 + (a0 * 15)) + a1).toNatClampNeg then none else
              some (u 26 (((1 + (a0 * 15)) + a1).toNatClampNeg))
        else
        some 0

set_option maxRecDepth 10000 in
set_option maxHeartbeats 4000000 in
theorem ev_T_get_25 {sc : mg_Sc} {c z : Nat} {fL : Nat → Int64} {fD : Nat → UInt64} {a0 : Int32} {a1 : Int32} {u : mg_Rg} {v : Int32} (h : T_get_25 a0 a1 u = some v) : mg_Ev sc 0 184 0 (mg_entry 184 [.ref 26, .int a0, .int a1]) [] (hp u fL fD, c, z) (.inl (some (.int v)), (hp u fL fD, c, z)) := by
  unfold T_get_25 at h
  show mg_Ev _ _ _ 0 [some (.ref 26), some (.int a0), some (.int a1), none] [] _ _
  refine mg_Ev.go 1 (pc' := 1) (loc' := [some (.ref 26), some (.int a0), some (.int a1), none]) (st' := [.int a0]) (w' := (hp u fL fD, c, z)) rfl ?_
  refine mg_Ev.br (P := a0 < 0) (t := 24) (nx := 4) (st' := []) rfl rfl rfl rfl (fun hc2293 => ?_) (fun hc2293 => ?_)
  · rw [if_pos hc2293] at h
    refine mg_Ev.go 1 (pc' := 25) (loc' := [some (.ref 26), some (.int a0), some (.int a1), none]) (st' := [.int 0]) (w' := (hp u fL fD, c, z)) rfl ?_
    cases h
    exact mg_Ev.fin rfl rfl rfl
  · rw [if_neg hc2293] at h
    refine mg_Ev.go 3 (pc' := 9) (loc' := [some (.ref 26), some (.int a0), some (.int a1), none]) (st' := [.int 30, .int a0]) (w' := (hp u fL fD, c, z)) rfl ?_
    refine mg_Ev.br (P := 30 ≤ a0) (t := 24) (nx := 12) (st' := []) rfl rfl rfl rfl (fun hc2294 => ?_) (fun hc2294 => ?_)
    · rw [if_pos hc2294] at h
      refine mg_Ev.go 1 (pc' := 25) (loc' := [some (.ref 26), some (.int a0), some (.int a1), none]) (st' := [.int 0]) (w' := (hp u fL fD, c, z)) rfl ?_
      cases h
      exact mg_Ev.fin rfl rfl rfl
    · rw [if_neg hc2294] at h
      refine mg_Ev.go 1 (pc' := 13) (loc' := [some (.ref 26), some (.int a0), some (.int a1), none]) (st' := [.int a1]) (w' := (hp u fL fD, c, z)) rfl ?_
      refine mg_Ev.br (P := a1 < 0) (t := 24) (nx := 16) (st' := []) rfl rfl rfl rfl (fun hc2295 => ?_) (fun hc2295 => ?_)
      · rw [if_pos hc2295] at h
        refine mg_Ev.go 1 (pc' := 25) (loc' := [some (.ref 26), some (.int a0), some (.int a1), none]) (st' := [.int 0]) (w' := (hp u fL fD, c, z)) rfl ?_
        cases h
        exact mg_Ev.fin rfl rfl rfl
      · rw [if_neg hc2295] at h
        refine mg_Ev.go 3 (pc' := 21) (loc' := [some (.ref 26), some (.int a0), some (.int a1), none]) (st' := [.int 15, .int a1]) (w' := (hp u fL fD, c, z)) rfl ?_
        refine mg_Ev.br (P := a1 < 15) (t := 26) (nx := 24) (st' := []) rfl rfl rfl rfl (fun hc2296 => ?_) (fun hc2296 => ?_)
        · rw [if_pos hc2296] at h
          refine mg_Ev.go 10 (pc' := 38) (loc' := [some (.ref 26), some (.int a0), some (.int a1), some (.int ((1 + (a0 * 15)) + a1))]) (st' := [.int ((1 + (a0 * 15)) + a1)]) (w' := (hp u fL fD, c, z)) rfl ?_
          refine mg_Ev.br (P := ((1 + (a0 * 15)) + a1) < 0) (t := 59) (nx := 41) (st' := []) rfl rfl rfl rfl (fun hc2297 => ?_) (fun hc2297 => ?_)
          · rw [if_pos hc2297] at h
            refine mg_Ev.go 1 (pc' := 60) (loc' := [some (.ref 26), some (.int a0), some (.int a1), some (.int ((1 + (a0 * 15)) + a1))]) (st' := [.int 0]) (w' := (hp u fL fD, c, z)) rfl ?_
            cases h
            exact mg_Ev.fin rfl rfl rfl
          · rw [if_neg hc2297] at h
            refine mg_Ev.go 4 (pc' := 47) (loc' := [some (.ref 26), some (.int a0), some (.int a1), some (.int ((1 + (a0 * 15)) + a1))]) (st' := [.int 451, .int ((1 + (a0 * 15)) + a1)]) (w' := (hp u fL fD, c, z)) rfl ?_
            refine mg_Ev.br (P := 451 ≤ ((1 + (a0 * 15)) + a1)) (t := 59) (nx := 50) (st' := []) rfl rfl rfl rfl (fun hc2298 => ?_) (fun hc2298 => ?_)
            · rw [if_pos hc2298] at h
              refine mg_Ev.go 1 (pc' := 60) (loc' := [some (.ref 26), some (.int a0), some (.int a1), some (.int ((1 + (a0 * 15)) + a1))]) (st' := [.int 0]) (w' := (hp u fL fD, c, z)) rfl ?_
              cases h
              exact mg_Ev.fin rfl rfl rfl
            · rw [if_neg hc2298] at h
              refine mg_Ev.go 3 (pc' := 55) (loc' := [some (.ref 26), some (.int a0), some (.int a1), some (.int ((1 + (a0 * 15)) + a1))]) (st' := [.int ((1 + (a0 * 15)) + a1), .ref 27]) (w' := (hp u fL fD, c, z)) rfl ?_
              by_cases hb2299 : ((1 + (a0 * 15)) + a1) < 0 ∨ 451 ≤ ((1 + (a0 * 15)) + a1).toNatClampNeg
              · rw [if_pos hb2299] at h
                cases h
              · rw [if_neg hb2299] at h
                refine mg_Ev.iald (a := 26) (n := 451) (f := u 26) rfl (hpg_26 _ _ _) rfl hb2299 ?_
                refine mg_Ev.go 1 (pc' := 60) (loc' := [some (.ref 26), some (.int a0), some (.int a1), some (.int ((1 + (a0 * 15)) + a1))]) (st' := [.int (u 26 (((1 + (a0 * 15)) + a1).toNatClampNeg))]) (w' := (hp u fL fD, c, z)) rfl ?_
                cases h
                exact mg_Ev.fin rfl rfl rfl
        · rw [if_neg hc2296] at h
          refine mg_Ev.go 1 (pc' := 25) (loc' := [some (.ref 26), some (.int a0), some (.int a1), none]) (st' := [.int 0]) (w' := (hp u fL fD, c, z)) rfl ?_
          cases h
          exact mg_Ev.fin rfl rfl rfl

def C_declaration (a0 : Int32) (a1 : Int32) (u : mg_Rg) : Option ((Int32 ⊕ Nat) × mg_Rg) :=
  (C_requireDeclaration a0 u).bind fun p348 => match p348 with
  | (.inr ee, u350) => some (.inr ee, u350)
  | (.inl _, u350) =>
    (C_isWithin a1 0 14 u350).bind fun v351 =>
    if v351 = 0 then
    some (.inr 1, u350)
    else
    (T_get_25 a0 a1 u350).bind fun v352 =>
      some (.inl v352, u350)

set_option maxRecDepth 10000 in
set_option maxHeartbeats 4000000 in
theorem ev_C_declaration {sc : mg_Sc} {c z : Nat} {fL : Nat → Int64} {fD : Nat → UInt64} {a0 : Int32} {a1 : Int32} {u : mg_Rg} {p : (Int32 ⊕ Nat) × mg_Rg} (h : C_declaration a0 a1 u = some p) : mg_Ev sc 3 18 0 (mg_entry 18 [.ref 1, .int a0, .int a1]) [] (hp u fL fD, c, z) (xri p.1, xw p.1 (hp p.2 fL fD) c z) := by
  unfold C_declaration at h
  show mg_Ev _ _ _ 0 [some (.ref 1), some (.int a0), some (.int a1)] [] _ _
  refine mg_Ev.go 2 (pc' := 2) (loc' := [some (.ref 1), some (.int a0), some (.int a1)]) (st' := [.int a0, .ref 1]) (w' := (hp u fL fD, c, z)) rfl ?_
  obtain ⟨⟨⟨⟩ | ee, u350⟩, hf2300, h⟩ := Option.bind_eq_some_iff.mp h
  · try dsimp only at h
    refine mg_Ev.call (y := 44) (as := [.ref 1, .int a0]) (rest := []) (v := none) (w1 := (hp u350 fL fD, c, z)) rfl rfl (Nat.le_of_ble_eq_true rfl) ((ev_C_requireDeclaration hf2300).deep (by decide)) ?_
    refine mg_Ev.go 3 (pc' := 9) (loc' := [some (.ref 1), some (.int a0), some (.int a1)]) (st' := [.int 14, .int 0, .int a1]) (w' := (hp u350 fL fD, c, z)) rfl ?_
    obtain ⟨v351, hf2301, h⟩ := Option.bind_eq_some_iff.mp h
    refine mg_Ev.call (y := 54) (as := [.int a1, .int 0, .int 14]) (rest := []) (v := some (.int v351)) (w1 := (hp u350 fL fD, c, z)) rfl rfl (Nat.le_of_ble_eq_true rfl) ((ev_C_isWithin hf2301).deep (by decide)) ?_
    refine mg_Ev.br (P := v351 = 0) (t := 15) (nx := 25) (st' := []) rfl rfl rfl rfl (fun hc2302 => ?_) (fun hc2302 => ?_)
    · rw [if_pos hc2302] at h
      cases h
      exact mg_Ev.fin rfl rfl rfl
    · rw [if_neg hc2302] at h
      refine mg_Ev.go 5 (pc' := 34) (loc' := [some (.ref 1), some (.int a0), some (.int a1)]) (st' := [.int a1, .int a0, .ref 26]) (w' := (hp u350 fL fD, c, z)) rfl ?_
      obtain ⟨v352, hf2303, h⟩ := Option.bind_eq_some_iff.mp h
      refine mg_Ev.call (y := 184) (as := [.ref 26, .int a0, .int a1]) (rest := []) (v := some (.int v352)) (w1 := (hp u350 fL fD, c, z)) rfl rfl (Nat.le_of_ble_eq_true rfl) ((ev_T_get_25 hf2303).deep (by decide)) ?_
      cases h
      exact mg_Ev.fin rfl rfl rfl
  · cases h
    exact mg_Ev.callX (y := 44) (as := [.ref 1, .int a0]) (rest := []) rfl rfl (Nat.le_of_ble_eq_true rfl) ((ev_C_requireDeclaration hf2300).deep (by decide)) rfl

def O_hasStatus (a0 : Int32) (a1 : Int32) (u : mg_Rg) : Option (Int32) :=
  (T_get_25 a0 7 u).bind fun v356 =>
  if v356 = a1 then
  some 1
  else
  some 0

set_option maxRecDepth 10000 in
set_option maxHeartbeats 4000000 in
theorem ev_O_hasStatus {sc : mg_Sc} {c z : Nat} {fL : Nat → Int64} {fD : Nat → UInt64} {a0 : Int32} {a1 : Int32} {u : mg_Rg} {v : Int32} (h : O_hasStatus a0 a1 u = some v) : mg_Ev sc 1 153 0 (mg_entry 153 [.ref 2, .int a0, .int a1]) [] (hp u fL fD, c, z) (.inl (some (.int v)), (hp u fL fD, c, z)) := by
  unfold O_hasStatus at h
  show mg_Ev _ _ _ 0 [some (.ref 2), some (.int a0), some (.int a1)] [] _ _
  refine mg_Ev.go 4 (pc' := 7) (loc' := [some (.ref 2), some (.int a0), some (.int a1)]) (st' := [.int 7, .int a0, .ref 26]) (w' := (hp u fL fD, c, z)) rfl ?_
  obtain ⟨v356, hf2304, h⟩ := Option.bind_eq_some_iff.mp h
  refine mg_Ev.call (y := 184) (as := [.ref 26, .int a0, .int 7]) (rest := []) (v := some (.int v356)) (w1 := (hp u fL fD, c, z)) rfl rfl (Nat.le_of_ble_eq_true rfl) ((ev_T_get_25 hf2304).deep (by decide)) ?_
  refine mg_Ev.go 1 (pc' := 11) (loc' := [some (.ref 2), some (.int a0), some (.int a1)]) (st' := [.int a1, .int v356]) (w' := (hp u fL fD, c, z)) rfl ?_
  refine mg_Ev.br (P := v356 = a1) (t := 14) (nx := 18) (st' := []) rfl rfl rfl rfl (fun hc2305 => ?_) (fun hc2305 => ?_)
  · rw [if_pos hc2305] at h
    refine mg_Ev.go 2 (pc' := 19) (loc' := [some (.ref 2), some (.int a0), some (.int a1)]) (st' := [.int 1]) (w' := (hp u fL fD, c, z)) rfl ?_
    cases h
    exact mg_Ev.fin rfl rfl rfl
  · rw [if_neg hc2305] at h
    refine mg_Ev.go 1 (pc' := 19) (loc' := [some (.ref 2), some (.int a0), some (.int a1)]) (st' := [.int 0]) (w' := (hp u fL fD, c, z)) rfl ?_
    cases h
    exact mg_Ev.fin rfl rfl rfl

def O_loadGoods (a0 : Int32) (u : mg_Rg) : Option (mg_Rg) :=
  (T_get_25 a0 0 u).bind fun v361 =>
  (T_get_25 a0 3 u).bind fun v362 =>
  (T_get_25 a0 2 u).bind fun v363 =>
  (T_get_25 a0 4 u).bind fun v364 =>
  (T_get_25 a0 6 u).bind fun v365 =>
  (G_fill v361 v362 v363 v364 v365 u).bind fun u366 =>
  some u366

set_option maxRecDepth 10000 in
set_option maxHeartbeats 4000000 in
theorem ev_O_loadGoods {sc : mg_Sc} {c z : Nat} {fL : Nat → Int64} {fD : Nat → UInt64} {a0 : Int32} {u : mg_Rg} {v : mg_Rg} (h : O_loadGoods a0 u = some v) : mg_Ev sc 1 166 0 (mg_entry 166 [.ref 2, .int a0]) [] (hp u fL fD, c, z) (.inl none, (hp v fL fD, c, z)) := by
  unfold O_loadGoods at h
  show mg_Ev _ _ _ 0 [some (.ref 2), some (.int a0)] [] _ _
  refine mg_Ev.go 6 (pc' := 10) (loc' := [some (.ref 2), some (.int a0)]) (st' := [.int 0, .int a0, .ref 26, .ref 29]) (w' := (hp u fL fD, c, z)) rfl ?_
  obtain ⟨v361, hf2306, h⟩ := Option.bind_eq_some_iff.mp h
  refine mg_Ev.call (y := 184) (as := [.ref 26, .int a0, .int 0]) (rest := [.ref 29]) (v := some (.int v361)) (w1 := (hp u fL fD, c, z)) rfl rfl (Nat.le_of_ble_eq_true rfl) ((ev_T_get_25 hf2306).deep (by decide)) ?_
  refine mg_Ev.go 4 (pc' := 19) (loc' := [some (.ref 2), some (.int a0)]) (st' := [.int 3, .int a0, .ref 26, .int v361, .ref 29]) (w' := (hp u fL fD, c, z)) rfl ?_
  obtain ⟨v362, hf2307, h⟩ := Option.bind_eq_some_iff.mp h
  refine mg_Ev.call (y := 184) (as := [.ref 26, .int a0, .int 3]) (rest := [.int v361, .ref 29]) (v := some (.int v362)) (w1 := (hp u fL fD, c, z)) rfl rfl (Nat.le_of_ble_eq_true rfl) ((ev_T_get_25 hf2307).deep (by decide)) ?_
  refine mg_Ev.go 4 (pc' := 28) (loc' := [some (.ref 2), some (.int a0)]) (st' := [.int 2, .int a0, .ref 26, .int v362, .int v361, .ref 29]) (w' := (hp u fL fD, c, z)) rfl ?_
  obtain ⟨v363, hf2308, h⟩ := Option.bind_eq_some_iff.mp h
  refine mg_Ev.call (y := 184) (as := [.ref 26, .int a0, .int 2]) (rest := [.int v362, .int v361, .ref 29]) (v := some (.int v363)) (w1 := (hp u fL fD, c, z)) rfl rfl (Nat.le_of_ble_eq_true rfl) ((ev_T_get_25 hf2308).deep (by decide)) ?_
  refine mg_Ev.go 4 (pc' := 37) (loc' := [some (.ref 2), some (.int a0)]) (st' := [.int 4, .int a0, .ref 26, .int v363, .int v362, .int v361, .ref 29]) (w' := (hp u fL fD, c, z)) rfl ?_
  obtain ⟨v364, hf2309, h⟩ := Option.bind_eq_some_iff.mp h
  refine mg_Ev.call (y := 184) (as := [.ref 26, .int a0, .int 4]) (rest := [.int v363, .int v362, .int v361, .ref 29]) (v := some (.int v364)) (w1 := (hp u fL fD, c, z)) rfl rfl (Nat.le_of_ble_eq_true rfl) ((ev_T_get_25 hf2309).deep (by decide)) ?_
  refine mg_Ev.go 4 (pc' := 47) (loc' := [some (.ref 2), some (.int a0)]) (st' := [.int 6, .int a0, .ref 26, .int v364, .int v363, .int v362, .int v361, .ref 29]) (w' := (hp u fL fD, c, z)) rfl ?_
  obtain ⟨v365, hf2310, h⟩ := Option.bind_eq_some_iff.mp h
  refine mg_Ev.call (y := 184) (as := [.ref 26, .int a0, .int 6]) (rest := [.int v364, .int v363, .int v362, .int v361, .ref 29]) (v := some (.int v365)) (w1 := (hp u fL fD, c, z)) rfl rfl (Nat.le_of_ble_eq_true rfl) ((ev_T_get_25 hf2310).deep (by decide)) ?_
  obtain ⟨u366, hf2311, h⟩ := Option.bind_eq_some_iff.mp h
  refine mg_Ev.call (y := 142) (as := [.ref 29, .int v361, .int v362, .int v363, .int v364, .int v365]) (rest := []) (v := none) (w1 := (hp u366 fL fD, c, z)) rfl rfl (Nat.le_of_ble_eq_true rfl) ((ev_G_fill hf2311).deep (by decide)) ?_
  cases h
  exact mg_Ev.fin rfl rfl rfl

def O_claimReason (a0 : Int32) (u : mg_Rg) : Option (Int32 × mg_Rg) :=
  (T_get_25 a0 5 u).bind fun v359 =>
  (T_get_22 v359 1 u).bind fun v360 =>
  (O_loadGoods a0 u).bind fun u367 =>
  (T_get_22 v359 0 u367).bind fun v368 =>
  (Tf_isUnder (u367 28 0) v368 u367).bind fun v369 =>
  if v369 = 0 then
  some (1, u367)
  else
  if v360 = (-1) then
    (T_get_22 v359 4 u367).bind fun v370 =>
      (T_get_22 v359 5 u367).bind fun v371 =>
      (C_isWithin (u367 28 4) v370 v371 u367).bind fun v372 =>
      if v372 = 0 then
      some (3, u367)
      else
      (T_get_22 v359 3 u367).bind fun v373 =>
        (Tf_leastRate_28 u367).bind fun v374 =>
        if v373 < v374 then
        (T_get_22 v359 6 u367).bind fun v375 =>
          if v375 = 0 then
          some (5, u367)
          else
          some (0, u367)
        else
        some (4, u367)
    else
    if v360 = (u367 28 1) then
      (T_get_22 v359 4 u367).bind fun v376 =>
        (T_get_22 v359 5 u367).bind fun v377 =>
        (C_isWithin (u367 28 4) v376 v377 u367).bind fun v378 =>
        if v378 = 0 then
        some (3, u367)
        else
        (T_get_22 v359 3 u367).bind fun v379 =>
          (Tf_leastRate_28 u367).bind fun v380 =>
          if v379 < v380 then
          (T_get_22 v359 6 u367).bind fun v381 =>
            if v381 = 0 then
            some (5, u367)
            else
            some (0, u367)
          else
          some (4, u367)
      else
      some (2, u367)

set_option maxRecDepth 10000 in
set_option maxHeartbeats 4000000 in
theorem ev_O_claimReason {sc : mg_Sc} {c z : Nat} {fL : Nat → Int64} {fD : Nat → UInt64} {a0 : Int32} {u : mg_Rg} {p : Int32 × mg_Rg} (h : O_claimReason a0 u = some p) : mg_Ev sc 4 155 0 (mg_entry 155 [.ref 2, .int a0]) [] (hp u fL fD, c, z) (.inl (some (.int p.1)), (hp p.2 fL fD, c, z)) := by
  unfold O_claimReason at h
  show mg_Ev _ _ _ 0 [some (.ref 2), some (.int a0), none, none] [] _ _
  refine mg_Ev.go 4 (pc' := 6) (loc' := [some (.ref 2), some (.int a0), none, none]) (st' := [.int 5, .int a0, .ref 26]) (w' := (hp u fL fD, c, z)) rfl ?_
  obtain ⟨v359, hf2312, h⟩ := Option.bind_eq_some_iff.mp h
  refine mg_Ev.call (y := 184) (as := [.ref 26, .int a0, .int 5]) (rest := []) (v := some (.int v359)) (w1 := (hp u fL fD, c, z)) rfl rfl (Nat.le_of_ble_eq_true rfl) ((ev_T_get_25 hf2312).deep (by decide)) ?_
  refine mg_Ev.go 5 (pc' := 16) (loc' := [some (.ref 2), some (.int a0), some (.int v359), none]) (st' := [.int 1, .int v359, .ref 23]) (w' := (hp u fL fD, c, z)) rfl ?_
  obtain ⟨v360, hf2313, h⟩ := Option.bind_eq_some_iff.mp h
  refine mg_Ev.call (y := 184) (as := [.ref 23, .int v359, .int 1]) (rest := []) (v := some (.int v360)) (w1 := (hp u fL fD, c, z)) rfl rfl (Nat.le_of_ble_eq_true rfl) ((ev_T_get_22 hf2313).deep (by decide)) ?_
  refine mg_Ev.go 3 (pc' := 22) (loc' := [some (.ref 2), some (.int a0), some (.int v359), some (.int v360)]) (st' := [.int a0, .ref 2]) (w' := (hp u fL fD, c, z)) rfl ?_
  obtain ⟨u367, hf2314, h⟩ := Option.bind_eq_some_iff.mp h
  refine mg_Ev.call (y := 166) (as := [.ref 2, .int a0]) (rest := []) (v := none) (w1 := (hp u367 fL fD, c, z)) rfl rfl (Nat.le_of_ble_eq_true rfl) ((ev_O_loadGoods hf2314).deep (by decide)) ?_
  refine mg_Ev.go 9 (pc' := 42) (loc' := [some (.ref 2), some (.int a0), some (.int v359), some (.int v360)]) (st' := [.int 0, .int v359, .ref 23, .int (u367 28 0), .ref 3]) (w' := (hp u367 fL fD, c, z)) rfl ?_
  obtain ⟨v368, hf2315, h⟩ := Option.bind_eq_some_iff.mp h
  refine mg_Ev.call (y := 184) (as := [.ref 23, .int v359, .int 0]) (rest := [.int (u367 28 0), .ref 3]) (v := some (.int v368)) (w1 := (hp u367 fL fD, c, z)) rfl rfl (Nat.le_of_ble_eq_true rfl) ((ev_T_get_22 hf2315).deep (by decide)) ?_
  obtain ⟨v369, hf2316, h⟩ := Option.bind_eq_some_iff.mp h
  refine mg_Ev.call (y := 201) (as := [.ref 3, .int (u367 28 0), .int v368]) (rest := []) (v := some (.int v369)) (w1 := (hp u367 fL fD, c, z)) rfl rfl (Nat.le_of_ble_eq_true rfl) ((ev_Tf_isUnder hf2316).deep (by decide)) ?_
  refine mg_Ev.br (P := v369 = 0) (t := 51) (nx := 53) (st' := []) rfl rfl rfl rfl (fun hc2317 => ?_) (fun hc2317 => ?_)
  · rw [if_pos hc2317] at h
    refine mg_Ev.go 1 (pc' := 52) (loc' := [some (.ref 2), some (.int a0), some (.int v359), some (.int v360)]) (st' := [.int 1]) (w' := (hp u367 fL fD, c, z)) rfl ?_
    cases h
    exact mg_Ev.fin rfl rfl rfl
  · rw [if_neg hc2317] at h
    refine mg_Ev.go 2 (pc' := 55) (loc' := [some (.ref 2), some (.int a0), some (.int v359), some (.int v360)]) (st' := [.int (-1), .int v360]) (w' := (hp u367 fL fD, c, z)) rfl ?_
    refine mg_Ev.br (P := v360 = (-1)) (t := 71) (nx := 58) (st' := []) rfl rfl rfl rfl (fun hc2318 => ?_) (fun hc2318 => ?_)
    · rw [if_pos hc2318] at h
      refine mg_Ev.go 7 (pc' := 84) (loc' := [some (.ref 2), some (.int a0), some (.int v359), some (.int v360)]) (st' := [.int 4, .int v359, .ref 23, .int (u367 28 4)]) (w' := (hp u367 fL fD, c, z)) rfl ?_
      obtain ⟨v370, hf2319, h⟩ := Option.bind_eq_some_iff.mp h
      refine mg_Ev.call (y := 184) (as := [.ref 23, .int v359, .int 4]) (rest := [.int (u367 28 4)]) (v := some (.int v370)) (w1 := (hp u367 fL fD, c, z)) rfl rfl (Nat.le_of_ble_eq_true rfl) ((ev_T_get_22 hf2319).deep (by decide)) ?_
      refine mg_Ev.go 4 (pc' := 93) (loc' := [some (.ref 2), some (.int a0), some (.int v359), some (.int v360)]) (st' := [.int 5, .int v359, .ref 23, .int v370, .int (u367 28 4)]) (w' := (hp u367 fL fD, c, z)) rfl ?_
      obtain ⟨v371, hf2320, h⟩ := Option.bind_eq_some_iff.mp h
      refine mg_Ev.call (y := 184) (as := [.ref 23, .int v359, .int 5]) (rest := [.int v370, .int (u367 28 4)]) (v := some (.int v371)) (w1 := (hp u367 fL fD, c, z)) rfl rfl (Nat.le_of_ble_eq_true rfl) ((ev_T_get_22 hf2320).deep (by decide)) ?_
      obtain ⟨v372, hf2321, h⟩ := Option.bind_eq_some_iff.mp h
      refine mg_Ev.call (y := 54) (as := [.int (u367 28 4), .int v370, .int v371]) (rest := []) (v := some (.int v372)) (w1 := (hp u367 fL fD, c, z)) rfl rfl (Nat.le_of_ble_eq_true rfl) ((ev_C_isWithin hf2321).deep (by decide)) ?_
      refine mg_Ev.br (P := v372 = 0) (t := 102) (nx := 104) (st' := []) rfl rfl rfl rfl (fun hc2322 => ?_) (fun hc2322 => ?_)
      · rw [if_pos hc2322] at h
        refine mg_Ev.go 1 (pc' := 103) (loc' := [some (.ref 2), some (.int a0), some (.int v359), some (.int v360)]) (st' := [.int 3]) (w' := (hp u367 fL fD, c, z)) rfl ?_
        cases h
        exact mg_Ev.fin rfl rfl rfl
      · rw [if_neg hc2322] at h
        refine mg_Ev.go 4 (pc' := 110) (loc' := [some (.ref 2), some (.int a0), some (.int v359), some (.int v360)]) (st' := [.int 3, .int v359, .ref 23]) (w' := (hp u367 fL fD, c, z)) rfl ?_
        obtain ⟨v373, hf2323, h⟩ := Option.bind_eq_some_iff.mp h
        refine mg_Ev.call (y := 184) (as := [.ref 23, .int v359, .int 3]) (rest := []) (v := some (.int v373)) (w1 := (hp u367 fL fD, c, z)) rfl rfl (Nat.le_of_ble_eq_true rfl) ((ev_T_get_22 hf2323).deep (by decide)) ?_
        refine mg_Ev.go 4 (pc' := 121) (loc' := [some (.ref 2), some (.int a0), some (.int v359), some (.int v360)]) (st' := [.ref 29, .ref 3, .int v373]) (w' := (hp u367 fL fD, c, z)) rfl ?_
        obtain ⟨v374, hf2324, h⟩ := Option.bind_eq_some_iff.mp h
        refine mg_Ev.call (y := 203) (as := [.ref 3, .ref 29]) (rest := [.int v373]) (v := some (.int v374)) (w1 := (hp u367 fL fD, c, z)) rfl rfl (Nat.le_of_ble_eq_true rfl) ((ev_Tf_leastRate_28 hf2324).deep (by decide)) ?_
        refine mg_Ev.br (P := v373 < v374) (t := 129) (nx := 127) (st' := []) rfl rfl rfl rfl (fun hc2325 => ?_) (fun hc2325 => ?_)
        · rw [if_pos hc2325] at h
          refine mg_Ev.go 4 (pc' := 136) (loc' := [some (.ref 2), some (.int a0), some (.int v359), some (.int v360)]) (st' := [.int 6, .int v359, .ref 23]) (w' := (hp u367 fL fD, c, z)) rfl ?_
          obtain ⟨v375, hf2326, h⟩ := Option.bind_eq_some_iff.mp h
          refine mg_Ev.call (y := 184) (as := [.ref 23, .int v359, .int 6]) (rest := []) (v := some (.int v375)) (w1 := (hp u367 fL fD, c, z)) rfl rfl (Nat.le_of_ble_eq_true rfl) ((ev_T_get_22 hf2326).deep (by decide)) ?_
          refine mg_Ev.br (P := v375 = 0) (t := 142) (nx := 146) (st' := []) rfl rfl rfl rfl (fun hc2327 => ?_) (fun hc2327 => ?_)
          · rw [if_pos hc2327] at h
            refine mg_Ev.go 2 (pc' := 147) (loc' := [some (.ref 2), some (.int a0), some (.int v359), some (.int v360)]) (st' := [.int 5]) (w' := (hp u367 fL fD, c, z)) rfl ?_
            cases h
            exact mg_Ev.fin rfl rfl rfl
          · rw [if_neg hc2327] at h
            refine mg_Ev.go 1 (pc' := 147) (loc' := [some (.ref 2), some (.int a0), some (.int v359), some (.int v360)]) (st' := [.int 0]) (w' := (hp u367 fL fD, c, z)) rfl ?_
            cases h
            exact mg_Ev.fin rfl rfl rfl
        · rw [if_neg hc2325] at h
          refine mg_Ev.go 1 (pc' := 128) (loc' := [some (.ref 2), some (.int a0), some (.int v359), some (.int v360)]) (st' := [.int 4]) (w' := (hp u367 fL fD, c, z)) rfl ?_
          cases h
          exact mg_Ev.fin rfl rfl rfl
    · rw [if_neg hc2318] at h
      refine mg_Ev.go 4 (pc' := 66) (loc' := [some (.ref 2), some (.int a0), some (.int v359), some (.int v360)]) (st' := [.int (u367 28 1), .int v360]) (w' := (hp u367 fL fD, c, z)) rfl ?_
      refine mg_Ev.br (P := v360 = (u367 28 1)) (t := 71) (nx := 69) (st' := []) rfl rfl rfl rfl (fun hc2328 => ?_) (fun hc2328 => ?_)
      · rw [if_pos hc2328] at h
        refine mg_Ev.go 7 (pc' := 84) (loc' := [some (.ref 2), some (.int a0), some (.int v359), some (.int v360)]) (st' := [.int 4, .int v359, .ref 23, .int (u367 28 4)]) (w' := (hp u367 fL fD, c, z)) rfl ?_
        obtain ⟨v376, hf2329, h⟩ := Option.bind_eq_some_iff.mp h
        refine mg_Ev.call (y := 184) (as := [.ref 23, .int v359, .int 4]) (rest := [.int (u367 28 4)]) (v := some (.int v376)) (w1 := (hp u367 fL fD, c, z)) rfl rfl (Nat.le_of_ble_eq_true rfl) ((ev_T_get_22 hf2329).deep (by decide)) ?_
        refine mg_Ev.go 4 (pc' := 93) (loc' := [some (.ref 2), some (.int a0), some (.int v359), some (.int v360)]) (st' := [.int 5, .int v359, .ref 23, .int v376, .int (u367 28 4)]) (w' := (hp u367 fL fD, c, z)) rfl ?_
        obtain ⟨v377, hf2330, h⟩ := Option.bind_eq_some_iff.mp h
        refine mg_Ev.call (y := 184) (as := [.ref 23, .int v359, .int 5]) (rest := [.int v376, .int (u367 28 4)]) (v := some (.int v377)) (w1 := (hp u367 fL fD, c, z)) rfl rfl (Nat.le_of_ble_eq_true rfl) ((ev_T_get_22 hf2330).deep (by decide)) ?_
        obtain ⟨v378, hf2331, h⟩ := Option.bind_eq_some_iff.mp h
        refine mg_Ev.call (y := 54) (as := [.int (u367 28 4), .int v376, .int v377]) (rest := []) (v := some (.int v378)) (w1 := (hp u367 fL fD, c, z)) rfl rfl (Nat.le_of_ble_eq_true rfl) ((ev_C_isWithin hf2331).deep (by decide)) ?_
        refine mg_Ev.br (P := v378 = 0) (t := 102) (nx := 104) (st' := []) rfl rfl rfl rfl (fun hc2332 => ?_) (fun hc2332 => ?_)
        · rw [if_pos hc2332] at h
          refine mg_Ev.go 1 (pc' := 103) (loc' := [some (.ref 2), some (.int a0), some (.int v359), some (.int v360)]) (st' := [.int 3]) (w' := (hp u367 fL fD, c, z)) rfl ?_
          cases h
          exact mg_Ev.fin rfl rfl rfl
        · rw [if_neg hc2332] at h
          refine mg_Ev.go 4 (pc' := 110) (loc' := [some (.ref 2), some (.int a0), some (.int v359), some (.int v360)]) (st' := [.int 3, .int v359, .ref 23]) (w' := (hp u367 fL fD, c, z)) rfl ?_
          obtain ⟨v379, hf2333, h⟩ := Option.bind_eq_some_iff.mp h
          refine mg_Ev.call (y := 184) (as := [.ref 23, .int v359, .int 3]) (rest := []) (v := some (.int v379)) (w1 := (hp u367 fL fD, c, z)) rfl rfl (Nat.le_of_ble_eq_true rfl) ((ev_T_get_22 hf2333).deep (by decide)) ?_
          refine mg_Ev.go 4 (pc' := 121) (loc' := [some (.ref 2), some (.int a0), some (.int v359), some (.int v360)]) (st' := [.ref 29, .ref 3, .int v379]) (w' := (hp u367 fL fD, c, z)) rfl ?_
          obtain ⟨v380, hf2334, h⟩ := Option.bind_eq_some_iff.mp h
          refine mg_Ev.call (y := 203) (as := [.ref 3, .ref 29]) (rest := [.int v379]) (v := some (.int v380)) (w1 := (hp u367 fL fD, c, z)) rfl rfl (Nat.le_of_ble_eq_true rfl) ((ev_Tf_leastRate_28 hf2334).deep (by decide)) ?_
          refine mg_Ev.br (P := v379 < v380) (t := 129) (nx := 127) (st' := []) rfl rfl rfl rfl (fun hc2335 => ?_) (fun hc2335 => ?_)
          · rw [if_pos hc2335] at h
            refine mg_Ev.go 4 (pc' := 136) (loc' := [some (.ref 2), some (.int a0), some (.int v359), some (.int v360)]) (st' := [.int 6, .int v359, .ref 23]) (w' := (hp u367 fL fD, c, z)) rfl ?_
            obtain ⟨v381, hf2336, h⟩ := Option.bind_eq_some_iff.mp h
            refine mg_Ev.call (y := 184) (as := [.ref 23, .int v359, .int 6]) (rest := []) (v := some (.int v381)) (w1 := (hp u367 fL fD, c, z)) rfl rfl (Nat.le_of_ble_eq_true rfl) ((ev_T_get_22 hf2336).deep (by decide)) ?_
            refine mg_Ev.br (P := v381 = 0) (t := 142) (nx := 146) (st' := []) rfl rfl rfl rfl (fun hc2337 => ?_) (fun hc2337 => ?_)
            · rw [if_pos hc2337] at h
              refine mg_Ev.go 2 (pc' := 147) (loc' := [some (.ref 2), some (.int a0), some (.int v359), some (.int v360)]) (st' := [.int 5]) (w' := (hp u367 fL fD, c, z)) rfl ?_
              cases h
              exact mg_Ev.fin rfl rfl rfl
            · rw [if_neg hc2337] at h
              refine mg_Ev.go 1 (pc' := 147) (loc' := [some (.ref 2), some (.int a0), some (.int v359), some (.int v360)]) (st' := [.int 0]) (w' := (hp u367 fL fD, c, z)) rfl ?_
              cases h
              exact mg_Ev.fin rfl rfl rfl
          · rw [if_neg hc2335] at h
            refine mg_Ev.go 1 (pc' := 128) (loc' := [some (.ref 2), some (.int a0), some (.int v359), some (.int v360)]) (st' := [.int 4]) (w' := (hp u367 fL fD, c, z)) rfl ?_
            cases h
            exact mg_Ev.fin rfl rfl rfl
      · rw [if_neg hc2328] at h
        refine mg_Ev.go 1 (pc' := 70) (loc' := [some (.ref 2), some (.int a0), some (.int v359), some (.int v360)]) (st' := [.int 2]) (w' := (hp u367 fL fD, c, z)) rfl ?_
        cases h
        exact mg_Ev.fin rfl rfl rfl

def C_claim (a0 : Int32) (u : mg_Rg) : Option ((Int32 ⊕ Nat) × mg_Rg) :=
  (C_requireDeclaration a0 u).bind fun p353 => match p353 with
  | (.inr ee, u355) => some (.inr ee, u355)
  | (.inl _, u355) =>
    (O_hasStatus a0 0 u355).bind fun v357 =>
    if v357 = 0 then
    some (.inr 2, u355)
    else
    (T_get_25 a0 5 u355).bind fun v358 =>
      if v358 = (-1) then
      some (.inr 2, u355)
      else
      (O_claimReason a0 u355).bind fun p384 => match p384 with
        | (v382, u383) =>
          some (.inl v382, u383)

set_option maxRecDepth 10000 in
set_option maxHeartbeats 4000000 in
theorem ev_C_claim {sc : mg_Sc} {c z : Nat} {fL : Nat → Int64} {fD : Nat → UInt64} {a0 : Int32} {u : mg_Rg} {p : (Int32 ⊕ Nat) × mg_Rg} (h : C_claim a0 u = some p) : mg_Ev sc 5 19 0 (mg_entry 19 [.ref 1, .int a0]) [] (hp u fL fD, c, z) (xri p.1, xw p.1 (hp p.2 fL fD) c z) := by
  unfold C_claim at h
  show mg_Ev _ _ _ 0 [some (.ref 1), some (.int a0)] [] _ _
  refine mg_Ev.go 2 (pc' := 2) (loc' := [some (.ref 1), some (.int a0)]) (st' := [.int a0, .ref 1]) (w' := (hp u fL fD, c, z)) rfl ?_
  obtain ⟨⟨⟨⟩ | ee, u355⟩, hf2338, h⟩ := Option.bind_eq_some_iff.mp h
  · try dsimp only at h
    refine mg_Ev.call (y := 44) (as := [.ref 1, .int a0]) (rest := []) (v := none) (w1 := (hp u355 fL fD, c, z)) rfl rfl (Nat.le_of_ble_eq_true rfl) ((ev_C_requireDeclaration hf2338).deep (by decide)) ?_
    refine mg_Ev.go 4 (pc' := 11) (loc' := [some (.ref 1), some (.int a0)]) (st' := [.int 0, .int a0, .ref 2]) (w' := (hp u355 fL fD, c, z)) rfl ?_
    obtain ⟨v357, hf2339, h⟩ := Option.bind_eq_some_iff.mp h
    refine mg_Ev.call (y := 153) (as := [.ref 2, .int a0, .int 0]) (rest := []) (v := some (.int v357)) (w1 := (hp u355 fL fD, c, z)) rfl rfl (Nat.le_of_ble_eq_true rfl) ((ev_O_hasStatus hf2339).deep (by decide)) ?_
    refine mg_Ev.br (P := v357 = 0) (t := 33) (nx := 17) (st' := []) rfl rfl rfl rfl (fun hc2340 => ?_) (fun hc2340 => ?_)
    · rw [if_pos hc2340] at h
      cases h
      exact mg_Ev.fin rfl rfl rfl
    · rw [if_neg hc2340] at h
      refine mg_Ev.go 5 (pc' := 26) (loc' := [some (.ref 1), some (.int a0)]) (st' := [.int 5, .int a0, .ref 26]) (w' := (hp u355 fL fD, c, z)) rfl ?_
      obtain ⟨v358, hf2341, h⟩ := Option.bind_eq_some_iff.mp h
      refine mg_Ev.call (y := 184) (as := [.ref 26, .int a0, .int 5]) (rest := []) (v := some (.int v358)) (w1 := (hp u355 fL fD, c, z)) rfl rfl (Nat.le_of_ble_eq_true rfl) ((ev_T_get_25 hf2341).deep (by decide)) ?_
      refine mg_Ev.go 1 (pc' := 30) (loc' := [some (.ref 1), some (.int a0)]) (st' := [.int (-1), .int v358]) (w' := (hp u355 fL fD, c, z)) rfl ?_
      refine mg_Ev.br (P := v358 = (-1)) (t := 33) (nx := 43) (st' := []) rfl rfl rfl rfl (fun hc2342 => ?_) (fun hc2342 => ?_)
      · rw [if_pos hc2342] at h
        cases h
        exact mg_Ev.fin rfl rfl rfl
      · rw [if_neg hc2342] at h
        refine mg_Ev.go 3 (pc' := 48) (loc' := [some (.ref 1), some (.int a0)]) (st' := [.int a0, .ref 2]) (w' := (hp u355 fL fD, c, z)) rfl ?_
        obtain ⟨⟨v382, u383⟩, hf2343, h⟩ := Option.bind_eq_some_iff.mp h
        try dsimp only at h
        refine mg_Ev.call (y := 155) (as := [.ref 2, .int a0]) (rest := []) (v := some (.int v382)) (w1 := (hp u383 fL fD, c, z)) rfl rfl (Nat.le_of_ble_eq_true rfl) ((ev_O_claimReason hf2343).deep (by decide)) ?_
        cases h
        exact mg_Ev.fin rfl rfl rfl
  · cases h
    exact mg_Ev.callX (y := 44) (as := [.ref 1, .int a0]) (rest := []) rfl rfl (Nat.le_of_ble_eq_true rfl) ((ev_C_requireDeclaration hf2338).deep (by decide)) rfl

def O_isClaimOn (a0 : Int32) (a1 : Int32) (u : mg_Rg) : Option (Int32) :=
  (O_hasStatus a0 0 u).bind fun v390 =>
  if v390 = 0 then
  some 0
  else
  (T_get_25 a0 5 u).bind fun v391 =>
    if v391 = a1 then
    some 1
    else
    some 0

set_option maxRecDepth 10000 in
set_option maxHeartbeats 4000000 in
theorem ev_O_isClaimOn {sc : mg_Sc} {c z : Nat} {fL : Nat → Int64} {fD : Nat → UInt64} {a0 : Int32} {a1 : Int32} {u : mg_Rg} {v : Int32} (h : O_isClaimOn a0 a1 u = some v) : mg_Ev sc 2 167 0 (mg_entry 167 [.ref 2, .int a0, .int a1]) [] (hp u fL fD, c, z) (.inl (some (.int v)), (hp u fL fD, c, z)) := by
  unfold O_isClaimOn at h
  show mg_Ev _ _ _ 0 [some (.ref 2), some (.int a0), some (.int a1)] [] _ _
  refine mg_Ev.go 3 (pc' := 3) (loc' := [some (.ref 2), some (.int a0), some (.int a1)]) (st' := [.int 0, .int a0, .ref 2]) (w' := (hp u fL fD, c, z)) rfl ?_
  obtain ⟨v390, hf2344, h⟩ := Option.bind_eq_some_iff.mp h
  refine mg_Ev.call (y := 153) (as := [.ref 2, .int a0, .int 0]) (rest := []) (v := some (.int v390)) (w1 := (hp u fL fD, c, z)) rfl rfl (Nat.le_of_ble_eq_true rfl) ((ev_O_hasStatus hf2344).deep (by decide)) ?_
  refine mg_Ev.br (P := v390 = 0) (t := 26) (nx := 9) (st' := []) rfl rfl rfl rfl (fun hc2345 => ?_) (fun hc2345 => ?_)
  · rw [if_pos hc2345] at h
    refine mg_Ev.go 1 (pc' := 27) (loc' := [some (.ref 2), some (.int a0), some (.int a1)]) (st' := [.int 0]) (w' := (hp u fL fD, c, z)) rfl ?_
    cases h
    exact mg_Ev.fin rfl rfl rfl
  · rw [if_neg hc2345] at h
    refine mg_Ev.go 4 (pc' := 15) (loc' := [some (.ref 2), some (.int a0), some (.int a1)]) (st' := [.int 5, .int a0, .ref 26]) (w' := (hp u fL fD, c, z)) rfl ?_
    obtain ⟨v391, hf2346, h⟩ := Option.bind_eq_some_iff.mp h
    refine mg_Ev.call (y := 184) (as := [.ref 26, .int a0, .int 5]) (rest := []) (v := some (.int v391)) (w1 := (hp u fL fD, c, z)) rfl rfl (Nat.le_of_ble_eq_true rfl) ((ev_T_get_25 hf2346).deep (by decide)) ?_
    refine mg_Ev.go 1 (pc' := 19) (loc' := [some (.ref 2), some (.int a0), some (.int a1)]) (st' := [.int a1, .int v391]) (w' := (hp u fL fD, c, z)) rfl ?_
    refine mg_Ev.br (P := v391 = a1) (t := 22) (nx := 26) (st' := []) rfl rfl rfl rfl (fun hc2347 => ?_) (fun hc2347 => ?_)
    · rw [if_pos hc2347] at h
      refine mg_Ev.go 2 (pc' := 27) (loc' := [some (.ref 2), some (.int a0), some (.int a1)]) (st' := [.int 1]) (w' := (hp u fL fD, c, z)) rfl ?_
      cases h
      exact mg_Ev.fin rfl rfl rfl
    · rw [if_neg hc2347] at h
      refine mg_Ev.go 1 (pc' := 27) (loc' := [some (.ref 2), some (.int a0), some (.int a1)]) (st' := [.int 0]) (w' := (hp u fL fD, c, z)) rfl ?_
      cases h
      exact mg_Ev.fin rfl rfl rfl

def O_goodQuantity_L4 : Nat → Int32 → Int32 → Int32 → mg_Rg → Option (Int32 × mg_Rg)
  | 0, _, _, _, _ => none
  | n + 1, x1, x2, x3, u =>
    (T_count_25 u).bind fun v389 =>
    if v389 ≤ x3 then
    some ((x2, u))
    else
    (O_isClaimOn x3 x1 u).bind fun v392 =>
      if v392 = 0 then
      O_goodQuantity_L4 n x1 x2 (x3 + 1) u
      else
      (O_claimReason x3 u).bind fun p395 => match p395 with
        | (v393, u394) =>
          if v393 = 0 then
          (T_get_25 x3 1 u394).bind fun v396 =>
            O_goodQuantity_L4 n x1 (x2 + v396) (x3 + 1) u394
          else
          O_goodQuantity_L4 n x1 x2 (x3 + 1) u394
set_option maxRecDepth 10000 in
set_option maxHeartbeats 4000000 in
theorem ev_O_goodQuantity_L4 {sc : mg_Sc} {c z : Nat} {fL : Nat → Int64} {fD : Nat → UInt64} : ∀ (n : Nat) (x1 : Int32) (x2 : Int32) (x3 : Int32) (u : mg_Rg) (res : Int32 × mg_Rg), O_goodQuantity_L4 n x1 x2 x3 u = some res → ∀ r, (match res with | (y2, yu) => mg_Ev sc 5 156 50 [none, none, some (.int y2), none] [] (hp yu fL fD, c, z) r) → mg_Ev sc 5 156 4 [some (.ref 2), some (.int x1), some (.int x2), some (.int x3)] [] (hp u fL fD, c, z) r := by
  intro n
  induction n with
  | zero => intro x1 x2 x3 u res h; cases h
  | succ n ih =>
    intro x1 x2 x3 u res h r K
    unfold O_goodQuantity_L4 at h
    refine mg_Ev.go 3 (pc' := 9) (loc' := [some (.ref 2), some (.int x1), some (.int x2), some (.int x3)]) (st' := [.ref 26, .int x3]) (w' := (hp u fL fD, c, z)) rfl ?_
    obtain ⟨v389, hf2348, h⟩ := Option.bind_eq_some_iff.mp h
    refine mg_Ev.call (y := 181) (as := [.ref 26]) (rest := [.int x3]) (v := some (.int v389)) (w1 := (hp u fL fD, c, z)) rfl rfl (Nat.le_of_ble_eq_true rfl) ((ev_T_count_25 hf2348).deep (by decide)) ?_
    refine mg_Ev.br (P := v389 ≤ x3) (t := 50) (nx := 15) (st' := []) rfl rfl rfl rfl (fun hc2349 => ?_) (fun hc2349 => ?_)
    · rw [if_pos hc2349] at h
      cases h
      exact mg_Ev.more (loc := [none, none, some (.int x2), none]) K ⟨rfl, trivial⟩
    · rw [if_neg hc2349] at h
      refine mg_Ev.go 3 (pc' := 18) (loc' := [some (.ref 2), some (.int x1), some (.int x2), some (.int x3)]) (st' := [.int x1, .int x3, .ref 2]) (w' := (hp u fL fD, c, z)) rfl ?_
      obtain ⟨v392, hf2350, h⟩ := Option.bind_eq_some_iff.mp h
      refine mg_Ev.call (y := 167) (as := [.ref 2, .int x3, .int x1]) (rest := []) (v := some (.int v392)) (w1 := (hp u fL fD, c, z)) rfl rfl (Nat.le_of_ble_eq_true rfl) ((ev_O_isClaimOn hf2350).deep (by decide)) ?_
      refine mg_Ev.br (P := v392 = 0) (t := 44) (nx := 24) (st' := []) rfl rfl rfl rfl (fun hc2351 => ?_) (fun hc2351 => ?_)
      · rw [if_pos hc2351] at h
        refine mg_Ev.go 2 (pc' := 4) (loc' := [some (.ref 2), some (.int x1), some (.int x2), some (.int (x3 + 1))]) (st' := []) (w' := (hp u fL fD, c, z)) rfl ?_
        exact mg_Ev.more (loc := [some (.ref 2), some (.int x1), some (.int x2), some (.int (x3 + 1))]) (ih _ _ _ _ _ h _ K) ⟨rfl, ⟨rfl, ⟨rfl, ⟨rfl, trivial⟩⟩⟩⟩
      · rw [if_neg hc2351] at h
        refine mg_Ev.go 2 (pc' := 26) (loc' := [some (.ref 2), some (.int x1), some (.int x2), some (.int x3)]) (st' := [.int x3, .ref 2]) (w' := (hp u fL fD, c, z)) rfl ?_
        obtain ⟨⟨v393, u394⟩, hf2352, h⟩ := Option.bind_eq_some_iff.mp h
        try dsimp only at h
        refine mg_Ev.call (y := 155) (as := [.ref 2, .int x3]) (rest := []) (v := some (.int v393)) (w1 := (hp u394 fL fD, c, z)) rfl rfl (Nat.le_of_ble_eq_true rfl) ((ev_O_claimReason hf2352).deep (by decide)) ?_
        refine mg_Ev.br (P := v393 = 0) (t := 32) (nx := 44) (st' := []) rfl rfl rfl rfl (fun hc2353 => ?_) (fun hc2353 => ?_)
        · rw [if_pos hc2353] at h
          refine mg_Ev.go 5 (pc' := 39) (loc' := [some (.ref 2), some (.int x1), some (.int x2), some (.int x3)]) (st' := [.int 1, .int x3, .ref 26, .int x2]) (w' := (hp u394 fL fD, c, z)) rfl ?_
          obtain ⟨v396, hf2354, h⟩ := Option.bind_eq_some_iff.mp h
          refine mg_Ev.call (y := 184) (as := [.ref 26, .int x3, .int 1]) (rest := [.int x2]) (v := some (.int v396)) (w1 := (hp u394 fL fD, c, z)) rfl rfl (Nat.le_of_ble_eq_true rfl) ((ev_T_get_25 hf2354).deep (by decide)) ?_
          refine mg_Ev.go 4 (pc' := 4) (loc' := [some (.ref 2), some (.int x1), some (.int (x2 + v396)), some (.int (x3 + 1))]) (st' := []) (w' := (hp u394 fL fD, c, z)) rfl ?_
          exact mg_Ev.more (loc := [some (.ref 2), some (.int x1), some (.int (x2 + v396)), some (.int (x3 + 1))]) (ih _ _ _ _ _ h _ K) ⟨rfl, ⟨rfl, ⟨rfl, ⟨rfl, trivial⟩⟩⟩⟩
        · rw [if_neg hc2353] at h
          refine mg_Ev.go 2 (pc' := 4) (loc' := [some (.ref 2), some (.int x1), some (.int x2), some (.int (x3 + 1))]) (st' := []) (w' := (hp u394 fL fD, c, z)) rfl ?_
          exact mg_Ev.more (loc := [some (.ref 2), some (.int x1), some (.int x2), some (.int (x3 + 1))]) (ih _ _ _ _ _ h _ K) ⟨rfl, ⟨rfl, ⟨rfl, ⟨rfl, trivial⟩⟩⟩⟩

def O_goodQuantity (a0 : Int32) (u : mg_Rg) : Option (Int32 × mg_Rg) :=
  (O_goodQuantity_L4 mg_F a0 0 0 u).bind fun q2355 => match q2355 with
  | (x397, u398) =>
    some (x397, u398)

set_option maxRecDepth 10000 in
set_option maxHeartbeats 4000000 in
theorem ev_O_goodQuantity {sc : mg_Sc} {c z : Nat} {fL : Nat → Int64} {fD : Nat → UInt64} {a0 : Int32} {u : mg_Rg} {p : Int32 × mg_Rg} (h : O_goodQuantity a0 u = some p) : mg_Ev sc 5 156 0 (mg_entry 156 [.ref 2, .int a0]) [] (hp u fL fD, c, z) (.inl (some (.int p.1)), (hp p.2 fL fD, c, z)) := by
  unfold O_goodQuantity at h
  show mg_Ev _ _ _ 0 [some (.ref 2), some (.int a0), none, none] [] _ _
  refine mg_Ev.go 4 (pc' := 4) (loc' := [some (.ref 2), some (.int a0), some (.int 0), some (.int 0)]) (st' := []) (w' := (hp u fL fD, c, z)) rfl ?_
  obtain ⟨⟨x397, u398⟩, hl2356, h⟩ := Option.bind_eq_some_iff.mp h
  try dsimp only at h
  refine mg_Ev.more (loc := [some (.ref 2), some (.int a0), some (.int 0), some (.int 0)]) (ev_O_goodQuantity_L4 _ _ _ _ _ _ hl2356 _ ?_) ⟨rfl, ⟨rfl, ⟨rfl, ⟨rfl, trivial⟩⟩⟩⟩
  show mg_Ev _ _ _ 50 [none, none, some (.int x397), none] [] (hp u398 fL fD, c, z) _
  refine mg_Ev.go 1 (pc' := 51) (loc' := [none, none, some (.int x397), none]) (st' := [.int x397]) (w' := (hp u398 fL fD, c, z)) rfl ?_
  cases h
  exact mg_Ev.fin rfl rfl rfl

def C_leftThen (a0 : Int32) (u : mg_Rg) : Option ((Int32 ⊕ Nat) × mg_Rg) :=
  (C_requireQuota a0 u).bind fun p385 => match p385 with
  | (.inr ee, u387) => some (.inr ee, u387)
  | (.inl _, u387) =>
    (T_get_22 a0 6 u387).bind fun v388 =>
    (O_goodQuantity a0 u387).bind fun p401 => match p401 with
    | (v399, u400) =>
      some (.inl (v388 - (if v399 < v388 then v399 else v388)), u400)

set_option maxRecDepth 10000 in
set_option maxHeartbeats 4000000 in
theorem ev_C_leftThen {sc : mg_Sc} {c z : Nat} {fL : Nat → Int64} {fD : Nat → UInt64} {a0 : Int32} {u : mg_Rg} {p : (Int32 ⊕ Nat) × mg_Rg} (h : C_leftThen a0 u = some p) : mg_Ev sc 6 20 0 (mg_entry 20 [.ref 1, .int a0]) [] (hp u fL fD, c, z) (xri p.1, xw p.1 (hp p.2 fL fD) c z) := by
  unfold C_leftThen at h
  show mg_Ev _ _ _ 0 [some (.ref 1), some (.int a0), none] [] _ _
  refine mg_Ev.go 2 (pc' := 2) (loc' := [some (.ref 1), some (.int a0), none]) (st' := [.int a0, .ref 1]) (w' := (hp u fL fD, c, z)) rfl ?_
  obtain ⟨⟨⟨⟩ | ee, u387⟩, hf2357, h⟩ := Option.bind_eq_some_iff.mp h
  · try dsimp only at h
    refine mg_Ev.call (y := 43) (as := [.ref 1, .int a0]) (rest := []) (v := none) (w1 := (hp u387 fL fD, c, z)) rfl rfl (Nat.le_of_ble_eq_true rfl) ((ev_C_requireQuota hf2357).deep (by decide)) ?_
    refine mg_Ev.go 5 (pc' := 15) (loc' := [some (.ref 1), some (.int a0), none]) (st' := [.int 6, .int a0, .ref 23]) (w' := (hp u387 fL fD, c, z)) rfl ?_
    obtain ⟨v388, hf2358, h⟩ := Option.bind_eq_some_iff.mp h
    refine mg_Ev.call (y := 184) (as := [.ref 23, .int a0, .int 6]) (rest := []) (v := some (.int v388)) (w1 := (hp u387 fL fD, c, z)) rfl rfl (Nat.le_of_ble_eq_true rfl) ((ev_T_get_22 hf2358).deep (by decide)) ?_
    refine mg_Ev.go 6 (pc' := 26) (loc' := [some (.ref 1), some (.int a0), some (.int v388)]) (st' := [.int a0, .ref 2, .int v388, .int v388]) (w' := (hp u387 fL fD, c, z)) rfl ?_
    obtain ⟨⟨v399, u400⟩, hf2359, h⟩ := Option.bind_eq_some_iff.mp h
    try dsimp only at h
    refine mg_Ev.call (y := 156) (as := [.ref 2, .int a0]) (rest := [.int v388, .int v388]) (v := some (.int v399)) (w1 := (hp u400 fL fD, c, z)) rfl rfl (Nat.le_of_ble_eq_true rfl) ((ev_O_goodQuantity hf2359).deep (by decide)) ?_
    refine mg_Ev.go 2 (pc' := 33) (loc' := [some (.ref 1), some (.int a0), some (.int v388)]) (st' := [.int (v388 - (if v399 < v388 then v399 else v388))]) (w' := (hp u400 fL fD, c, z)) rfl ?_
    cases h
    exact mg_Ev.fin rfl rfl rfl
  · cases h
    exact mg_Ev.callX (y := 43) (as := [.ref 1, .int a0]) (rest := []) rfl rfl (Nat.le_of_ble_eq_true rfl) ((ev_C_requireQuota hf2357).deep (by decide)) rfl

def O_isGoodClaimOn (a0 : Int32) (a1 : Int32) (u : mg_Rg) : Option (Int32) :=
  (O_isClaimOn a0 a1 u).bind fun v412 =>
  if v412 = 0 then
  some 0
  else
  (T_get_25 a0 14 u).bind fun v413 =>
    if v413 = 0 then
    some 1
    else
    some 0

set_option maxRecDepth 10000 in
set_option maxHeartbeats 4000000 in
theorem ev_O_isGoodClaimOn {sc : mg_Sc} {c z : Nat} {fL : Nat → Int64} {fD : Nat → UInt64} {a0 : Int32} {a1 : Int32} {u : mg_Rg} {v : Int32} (h : O_isGoodClaimOn a0 a1 u = some v) : mg_Ev sc 3 168 0 (mg_entry 168 [.ref 2, .int a0, .int a1]) [] (hp u fL fD, c, z) (.inl (some (.int v)), (hp u fL fD, c, z)) := by
  unfold O_isGoodClaimOn at h
  show mg_Ev _ _ _ 0 [some (.ref 2), some (.int a0), some (.int a1)] [] _ _
  refine mg_Ev.go 3 (pc' := 3) (loc' := [some (.ref 2), some (.int a0), some (.int a1)]) (st' := [.int a1, .int a0, .ref 2]) (w' := (hp u fL fD, c, z)) rfl ?_
  obtain ⟨v412, hf2360, h⟩ := Option.bind_eq_some_iff.mp h
  refine mg_Ev.call (y := 167) (as := [.ref 2, .int a0, .int a1]) (rest := []) (v := some (.int v412)) (w1 := (hp u fL fD, c, z)) rfl rfl (Nat.le_of_ble_eq_true rfl) ((ev_O_isClaimOn hf2360).deep (by decide)) ?_
  refine mg_Ev.br (P := v412 = 0) (t := 26) (nx := 9) (st' := []) rfl rfl rfl rfl (fun hc2361 => ?_) (fun hc2361 => ?_)
  · rw [if_pos hc2361] at h
    refine mg_Ev.go 1 (pc' := 27) (loc' := [some (.ref 2), some (.int a0), some (.int a1)]) (st' := [.int 0]) (w' := (hp u fL fD, c, z)) rfl ?_
    cases h
    exact mg_Ev.fin rfl rfl rfl
  · rw [if_neg hc2361] at h
    refine mg_Ev.go 4 (pc' := 16) (loc' := [some (.ref 2), some (.int a0), some (.int a1)]) (st' := [.int 14, .int a0, .ref 26]) (w' := (hp u fL fD, c, z)) rfl ?_
    obtain ⟨v413, hf2362, h⟩ := Option.bind_eq_some_iff.mp h
    refine mg_Ev.call (y := 184) (as := [.ref 26, .int a0, .int 14]) (rest := []) (v := some (.int v413)) (w1 := (hp u fL fD, c, z)) rfl rfl (Nat.le_of_ble_eq_true rfl) ((ev_T_get_25 hf2362).deep (by decide)) ?_
    refine mg_Ev.br (P := v413 = 0) (t := 22) (nx := 26) (st' := []) rfl rfl rfl rfl (fun hc2363 => ?_) (fun hc2363 => ?_)
    · rw [if_pos hc2363] at h
      refine mg_Ev.go 2 (pc' := 27) (loc' := [some (.ref 2), some (.int a0), some (.int a1)]) (st' := [.int 1]) (w' := (hp u fL fD, c, z)) rfl ?_
      cases h
      exact mg_Ev.fin rfl rfl rfl
    · rw [if_neg hc2363] at h
      refine mg_Ev.go 1 (pc' := 27) (loc' := [some (.ref 2), some (.int a0), some (.int a1)]) (st' := [.int 0]) (w' := (hp u fL fD, c, z)) rfl ?_
      cases h
      exact mg_Ev.fin rfl rfl rfl

def C_scaled (a0 : Int32) (a1 : Int32) (a2 : Int32) (u : mg_Rg) : Option (Int32) :=
  if a2 ≤ 0 then
  some 0
  else
  if a2 = 0 then none else
    some ((a0 * a1) / a2)

set_option maxRecDepth 10000 in
set_option maxHeartbeats 4000000 in
theorem ev_C_scaled {sc : mg_Sc} {c z : Nat} {fL : Nat → Int64} {fD : Nat → UInt64} {a0 : Int32} {a1 : Int32} {a2 : Int32} {u : mg_Rg} {v : Int32} (h : C_scaled a0 a1 a2 u = some v) : mg_Ev sc 0 55 0 (mg_entry 55 [.int a0, .int a1, .int a2]) [] (hp u fL fD, c, z) (.inl (some (.int v)), (hp u fL fD, c, z)) := by
  unfold C_scaled at h
  show mg_Ev _ _ _ 0 [some (.int a0), some (.int a1), some (.int a2)] [] _ _
  refine mg_Ev.go 1 (pc' := 1) (loc' := [some (.int a0), some (.int a1), some (.int a2)]) (st' := [.int a2]) (w' := (hp u fL fD, c, z)) rfl ?_
  refine mg_Ev.br (P := a2 ≤ 0) (t := 12) (nx := 4) (st' := []) rfl rfl rfl rfl (fun hc2364 => ?_) (fun hc2364 => ?_)
  · rw [if_pos hc2364] at h
    refine mg_Ev.go 1 (pc' := 13) (loc' := [some (.int a0), some (.int a1), some (.int a2)]) (st' := [.int 0]) (w' := (hp u fL fD, c, z)) rfl ?_
    cases h
    exact mg_Ev.fin rfl rfl rfl
  · rw [if_neg hc2364] at h
    refine mg_Ev.go 4 (pc' := 8) (loc' := [some (.int a0), some (.int a1), some (.int a2)]) (st' := [.int a2, .int (a0 * a1)]) (w' := (hp u fL fD, c, z)) rfl ?_
    by_cases hd2365 : a2 = 0
    · rw [if_pos hd2365] at h
      cases h
    · rw [if_neg hd2365] at h
      refine mg_Ev.idiv rfl hd2365 ?_
      refine mg_Ev.go 1 (pc' := 13) (loc' := [some (.int a0), some (.int a1), some (.int a2)]) (st' := [.int ((a0 * a1) / a2)]) (w' := (hp u fL fD, c, z)) rfl ?_
      cases h
      exact mg_Ev.fin rfl rfl rfl

def T_increase_25 (a0 : Int32) (a1 : Int32) (a2 : Int32) (u : mg_Rg) : Option (mg_Rg) :=
  (T_get_25 a0 a1 u).bind fun v430 =>
  (T_put_25 a0 a1 (v430 + a2) u).bind fun u431 =>
  some u431

set_option maxRecDepth 10000 in
set_option maxHeartbeats 4000000 in
theorem ev_T_increase_25 {sc : mg_Sc} {c z : Nat} {fL : Nat → Int64} {fD : Nat → UInt64} {a0 : Int32} {a1 : Int32} {a2 : Int32} {u : mg_Rg} {v : mg_Rg} (h : T_increase_25 a0 a1 a2 u = some v) : mg_Ev sc 1 186 0 (mg_entry 186 [.ref 26, .int a0, .int a1, .int a2]) [] (hp u fL fD, c, z) (.inl none, (hp v fL fD, c, z)) := by
  unfold T_increase_25 at h
  show mg_Ev _ _ _ 0 [some (.ref 26), some (.int a0), some (.int a1), some (.int a2)] [] _ _
  refine mg_Ev.go 6 (pc' := 6) (loc' := [some (.ref 26), some (.int a0), some (.int a1), some (.int a2)]) (st' := [.int a1, .int a0, .ref 26, .int a1, .int a0, .ref 26]) (w' := (hp u fL fD, c, z)) rfl ?_
  obtain ⟨v430, hf2366, h⟩ := Option.bind_eq_some_iff.mp h
  refine mg_Ev.call (y := 184) (as := [.ref 26, .int a0, .int a1]) (rest := [.int a1, .int a0, .ref 26]) (v := some (.int v430)) (w1 := (hp u fL fD, c, z)) rfl rfl (Nat.le_of_ble_eq_true rfl) ((ev_T_get_25 hf2366).deep (by decide)) ?_
  refine mg_Ev.go 2 (pc' := 11) (loc' := [some (.ref 26), some (.int a0), some (.int a1), some (.int a2)]) (st' := [.int (v430 + a2), .int a1, .int a0, .ref 26]) (w' := (hp u fL fD, c, z)) rfl ?_
  obtain ⟨u431, hf2367, h⟩ := Option.bind_eq_some_iff.mp h
  refine mg_Ev.call (y := 185) (as := [.ref 26, .int a0, .int a1, .int (v430 + a2)]) (rest := []) (v := none) (w1 := (hp u431 fL fD, c, z)) rfl rfl (Nat.le_of_ble_eq_true rfl) ((ev_T_put_25 hf2367).deep (by decide)) ?_
  cases h
  exact mg_Ev.fin rfl rfl rfl

def O_giveSpareUnits_L5 : Nat → Int32 → Int32 → Int32 → mg_Rg → Option (mg_Rg)
  | 0, _, _, _, _ => none
  | n + 1, x1, x3, x4, u =>
    (T_count_25 u).bind fun v428 =>
    if v428 ≤ x4 then
    some (u)
    else
    if x3 ≤ 0 then
      some (u)
      else
      (O_isGoodClaimOn x4 x1 u).bind fun v429 =>
        if v429 = 0 then
        O_giveSpareUnits_L5 n x1 x3 (x4 + 1) u
        else
        (T_increase_25 x4 8 1 u).bind fun u432 =>
          O_giveSpareUnits_L5 n x1 (x3 + (-1)) (x4 + 1) u432
set_option maxRecDepth 10000 in
set_option maxHeartbeats 4000000 in
theorem ev_O_giveSpareUnits_L5 {sc : mg_Sc} {c z : Nat} {fL : Nat → Int64} {fD : Nat → UInt64} : ∀ (n : Nat) (x1 : Int32) (x3 : Int32) (x4 : Int32) (u : mg_Rg) (res : mg_Rg), O_giveSpareUnits_L5 n x1 x3 x4 u = some res → ∀ r, (match res with | yu => mg_Ev sc 4 169 52 [none, none, none, none, none] [] (hp yu fL fD, c, z) r) → mg_Ev sc 4 169 5 [some (.ref 2), some (.int x1), none, some (.int x3), some (.int x4)] [] (hp u fL fD, c, z) r := by
  intro n
  induction n with
  | zero => intro x1 x3 x4 u res h; cases h
  | succ n ih =>
    intro x1 x3 x4 u res h r K
    unfold O_giveSpareUnits_L5 at h
    refine mg_Ev.go 3 (pc' := 11) (loc' := [some (.ref 2), some (.int x1), none, some (.int x3), some (.int x4)]) (st' := [.ref 26, .int x4]) (w' := (hp u fL fD, c, z)) rfl ?_
    obtain ⟨v428, hf2368, h⟩ := Option.bind_eq_some_iff.mp h
    refine mg_Ev.call (y := 181) (as := [.ref 26]) (rest := [.int x4]) (v := some (.int v428)) (w1 := (hp u fL fD, c, z)) rfl rfl (Nat.le_of_ble_eq_true rfl) ((ev_T_count_25 hf2368).deep (by decide)) ?_
    refine mg_Ev.br (P := v428 ≤ x4) (t := 52) (nx := 17) (st' := []) rfl rfl rfl rfl (fun hc2369 => ?_) (fun hc2369 => ?_)
    · rw [if_pos hc2369] at h
      cases h
      exact mg_Ev.more (loc := [none, none, none, none, none]) K trivial
    · rw [if_neg hc2369] at h
      refine mg_Ev.go 1 (pc' := 18) (loc' := [some (.ref 2), some (.int x1), none, some (.int x3), some (.int x4)]) (st' := [.int x3]) (w' := (hp u fL fD, c, z)) rfl ?_
      refine mg_Ev.br (P := x3 ≤ 0) (t := 52) (nx := 21) (st' := []) rfl rfl rfl rfl (fun hc2370 => ?_) (fun hc2370 => ?_)
      · rw [if_pos hc2370] at h
        cases h
        exact mg_Ev.more (loc := [none, none, none, none, none]) K trivial
      · rw [if_neg hc2370] at h
        refine mg_Ev.go 3 (pc' := 25) (loc' := [some (.ref 2), some (.int x1), none, some (.int x3), some (.int x4)]) (st' := [.int x1, .int x4, .ref 2]) (w' := (hp u fL fD, c, z)) rfl ?_
        obtain ⟨v429, hf2371, h⟩ := Option.bind_eq_some_iff.mp h
        refine mg_Ev.call (y := 168) (as := [.ref 2, .int x4, .int x1]) (rest := []) (v := some (.int v429)) (w1 := (hp u fL fD, c, z)) rfl rfl (Nat.le_of_ble_eq_true rfl) ((ev_O_isGoodClaimOn hf2371).deep (by decide)) ?_
        refine mg_Ev.br (P := v429 = 0) (t := 46) (nx := 31) (st' := []) rfl rfl rfl rfl (fun hc2372 => ?_) (fun hc2372 => ?_)
        · rw [if_pos hc2372] at h
          refine mg_Ev.go 2 (pc' := 5) (loc' := [some (.ref 2), some (.int x1), none, some (.int x3), some (.int (x4 + 1))]) (st' := []) (w' := (hp u fL fD, c, z)) rfl ?_
          exact mg_Ev.more (loc := [some (.ref 2), some (.int x1), none, some (.int x3), some (.int (x4 + 1))]) (ih _ _ _ _ _ h _ K) ⟨rfl, ⟨rfl, ⟨rfl, ⟨rfl, trivial⟩⟩⟩⟩
        · rw [if_neg hc2372] at h
          refine mg_Ev.go 5 (pc' := 40) (loc' := [some (.ref 2), some (.int x1), none, some (.int x3), some (.int x4)]) (st' := [.int 1, .int 8, .int x4, .ref 26]) (w' := (hp u fL fD, c, z)) rfl ?_
          obtain ⟨u432, hf2373, h⟩ := Option.bind_eq_some_iff.mp h
          refine mg_Ev.call (y := 186) (as := [.ref 26, .int x4, .int 8, .int 1]) (rest := []) (v := none) (w1 := (hp u432 fL fD, c, z)) rfl rfl (Nat.le_of_ble_eq_true rfl) ((ev_T_increase_25 hf2373).deep (by decide)) ?_
          refine mg_Ev.go 3 (pc' := 5) (loc' := [some (.ref 2), some (.int x1), none, some (.int (x3 + (-1))), some (.int (x4 + 1))]) (st' := []) (w' := (hp u432 fL fD, c, z)) rfl ?_
          exact mg_Ev.more (loc := [some (.ref 2), some (.int x1), none, some (.int (x3 + (-1))), some (.int (x4 + 1))]) (ih _ _ _ _ _ h _ K) ⟨rfl, ⟨rfl, ⟨rfl, ⟨rfl, trivial⟩⟩⟩⟩

def O_giveSpareUnits (a0 : Int32) (a1 : Int32) (u : mg_Rg) : Option (mg_Rg) :=
  (O_giveSpareUnits_L5 mg_F a0 a1 0 u).bind fun q2374 => match q2374 with
  | u433 =>
    some u433

set_option maxRecDepth 10000 in
set_option maxHeartbeats 4000000 in
theorem ev_O_giveSpareUnits {sc : mg_Sc} {c z : Nat} {fL : Nat → Int64} {fD : Nat → UInt64} {a0 : Int32} {a1 : Int32} {u : mg_Rg} {v : mg_Rg} (h : O_giveSpareUnits a0 a1 u = some v) : mg_Ev sc 4 169 0 (mg_entry 169 [.ref 2, .int a0, .int a1]) [] (hp u fL fD, c, z) (.inl none, (hp v fL fD, c, z)) := by
  unfold O_giveSpareUnits at h
  show mg_Ev _ _ _ 0 [some (.ref 2), some (.int a0), some (.int a1), none, none] [] _ _
  refine mg_Ev.go 4 (pc' := 5) (loc' := [some (.ref 2), some (.int a0), some (.int a1), some (.int a1), some (.int 0)]) (st' := []) (w' := (hp u fL fD, c, z)) rfl ?_
  obtain ⟨u433, hl2375, h⟩ := Option.bind_eq_some_iff.mp h
  try dsimp only at h
  refine mg_Ev.more (loc := [some (.ref 2), some (.int a0), none, some (.int a1), some (.int 0)]) (ev_O_giveSpareUnits_L5 _ _ _ _ _ _ hl2375 _ ?_) ⟨rfl, ⟨rfl, ⟨rfl, ⟨rfl, trivial⟩⟩⟩⟩
  show mg_Ev _ _ _ 52 [none, none, none, none, none] [] (hp u433 fL fD, c, z) _
  cases h
  exact mg_Ev.fin rfl rfl rfl

def T_increase_22 (a0 : Int32) (a1 : Int32) (a2 : Int32) (u : mg_Rg) : Option (mg_Rg) :=
  (T_get_22 a0 a1 u).bind fun v435 =>
  (T_put_22 a0 a1 (v435 + a2) u).bind fun u436 =>
  some u436

set_option maxRecDepth 10000 in
set_option maxHeartbeats 4000000 in
theorem ev_T_increase_22 {sc : mg_Sc} {c z : Nat} {fL : Nat → Int64} {fD : Nat → UInt64} {a0 : Int32} {a1 : Int32} {a2 : Int32} {u : mg_Rg} {v : mg_Rg} (h : T_increase_22 a0 a1 a2 u = some v) : mg_Ev sc 1 186 0 (mg_entry 186 [.ref 23, .int a0, .int a1, .int a2]) [] (hp u fL fD, c, z) (.inl none, (hp v fL fD, c, z)) := by
  unfold T_increase_22 at h
  show mg_Ev _ _ _ 0 [some (.ref 23), some (.int a0), some (.int a1), some (.int a2)] [] _ _
  refine mg_Ev.go 6 (pc' := 6) (loc' := [some (.ref 23), some (.int a0), some (.int a1), some (.int a2)]) (st' := [.int a1, .int a0, .ref 23, .int a1, .int a0, .ref 23]) (w' := (hp u fL fD, c, z)) rfl ?_
  obtain ⟨v435, hf2376, h⟩ := Option.bind_eq_some_iff.mp h
  refine mg_Ev.call (y := 184) (as := [.ref 23, .int a0, .int a1]) (rest := [.int a1, .int a0, .ref 23]) (v := some (.int v435)) (w1 := (hp u fL fD, c, z)) rfl rfl (Nat.le_of_ble_eq_true rfl) ((ev_T_get_22 hf2376).deep (by decide)) ?_
  refine mg_Ev.go 2 (pc' := 11) (loc' := [some (.ref 23), some (.int a0), some (.int a1), some (.int a2)]) (st' := [.int (v435 + a2), .int a1, .int a0, .ref 23]) (w' := (hp u fL fD, c, z)) rfl ?_
  obtain ⟨u436, hf2377, h⟩ := Option.bind_eq_some_iff.mp h
  refine mg_Ev.call (y := 185) (as := [.ref 23, .int a0, .int a1, .int (v435 + a2)]) (rest := []) (v := none) (w1 := (hp u436 fL fD, c, z)) rfl rfl (Nat.le_of_ble_eq_true rfl) ((ev_T_put_22 hf2377).deep (by decide)) ?_
  cases h
  exact mg_Ev.fin rfl rfl rfl

def O_serve_L21 : Nat → Int32 → Int32 → Int32 → Int32 → Int32 → mg_Rg → Option (Int32 × mg_Rg)
  | 0, _, _, _, _, _, _ => none
  | n + 1, x1, x2, x3, x4, x5, u =>
    (T_count_25 u).bind fun v410 =>
    if v410 ≤ x5 then
    some ((x4, u))
    else
    (O_isClaimOn x5 x1 u).bind fun v411 =>
      if v411 = 0 then
      (O_isGoodClaimOn x5 x1 u).bind fun v414 =>
        if v414 = 0 then
        O_serve_L21 n x1 x2 x3 x4 (x5 + 1) u
        else
        (T_get_25 x5 1 u).bind fun v415 =>
          (C_scaled v415 x3 x2 u).bind fun v416 =>
          (T_put_25 x5 8 v416 u).bind fun u417 =>
          O_serve_L21 n x1 x2 x3 (x4 - v416) (x5 + 1) u417
      else
      (O_claimReason x5 u).bind fun p420 => match p420 with
        | (v418, u419) =>
          (T_put_25 x5 14 v418 u419).bind fun u421 =>
          (O_isGoodClaimOn x5 x1 u421).bind fun v422 =>
          if v422 = 0 then
          O_serve_L21 n x1 x2 x3 x4 (x5 + 1) u421
          else
          (T_get_25 x5 1 u421).bind fun v423 =>
            (C_scaled v423 x3 x2 u421).bind fun v424 =>
            (T_put_25 x5 8 v424 u421).bind fun u425 =>
            O_serve_L21 n x1 x2 x3 (x4 - v424) (x5 + 1) u425
set_option maxRecDepth 10000 in
set_option maxHeartbeats 4000000 in
theorem ev_O_serve_L21 {sc : mg_Sc} {c z : Nat} {fL : Nat → Int64} {fD : Nat → UInt64} : ∀ (n : Nat) (x1 : Int32) (x2 : Int32) (x3 : Int32) (x4 : Int32) (x5 : Int32) (u : mg_Rg) (res : Int32 × mg_Rg), O_serve_L21 n x1 x2 x3 x4 x5 u = some res → ∀ r, (match res with | (y4, yu) => mg_Ev sc 5 157 113 [some (.ref 2), some (.int x1), none, some (.int x3), some (.int y4), none, none] [] (hp yu fL fD, c, z) r) → mg_Ev sc 5 157 21 [some (.ref 2), some (.int x1), some (.int x2), some (.int x3), some (.int x4), some (.int x5), none] [] (hp u fL fD, c, z) r := by
  intro n
  induction n with
  | zero => intro x1 x2 x3 x4 x5 u res h; cases h
  | succ n ih =>
    intro x1 x2 x3 x4 x5 u res h r K
    unfold O_serve_L21 at h
    refine mg_Ev.go 3 (pc' := 27) (loc' := [some (.ref 2), some (.int x1), some (.int x2), some (.int x3), some (.int x4), some (.int x5), none]) (st' := [.ref 26, .int x5]) (w' := (hp u fL fD, c, z)) rfl ?_
    obtain ⟨v410, hf2378, h⟩ := Option.bind_eq_some_iff.mp h
    refine mg_Ev.call (y := 181) (as := [.ref 26]) (rest := [.int x5]) (v := some (.int v410)) (w1 := (hp u fL fD, c, z)) rfl rfl (Nat.le_of_ble_eq_true rfl) ((ev_T_count_25 hf2378).deep (by decide)) ?_
    refine mg_Ev.br (P := v410 ≤ x5) (t := 113) (nx := 33) (st' := []) rfl rfl rfl rfl (fun hc2379 => ?_) (fun hc2379 => ?_)
    · rw [if_pos hc2379] at h
      cases h
      exact mg_Ev.more (loc := [some (.ref 2), some (.int x1), none, some (.int x3), some (.int x4), none, none]) K ⟨rfl, ⟨rfl, ⟨rfl, ⟨rfl, trivial⟩⟩⟩⟩
    · rw [if_neg hc2379] at h
      refine mg_Ev.go 3 (pc' := 37) (loc' := [some (.ref 2), some (.int x1), some (.int x2), some (.int x3), some (.int x4), some (.int x5), none]) (st' := [.int x1, .int x5, .ref 2]) (w' := (hp u fL fD, c, z)) rfl ?_
      obtain ⟨v411, hf2380, h⟩ := Option.bind_eq_some_iff.mp h
      refine mg_Ev.call (y := 167) (as := [.ref 2, .int x5, .int x1]) (rest := []) (v := some (.int v411)) (w1 := (hp u fL fD, c, z)) rfl rfl (Nat.le_of_ble_eq_true rfl) ((ev_O_isClaimOn hf2380).deep (by decide)) ?_
      refine mg_Ev.br (P := v411 = 0) (t := 60) (nx := 43) (st' := []) rfl rfl rfl rfl (fun hc2381 => ?_) (fun hc2381 => ?_)
      · rw [if_pos hc2381] at h
        refine mg_Ev.go 3 (pc' := 64) (loc' := [some (.ref 2), some (.int x1), some (.int x2), some (.int x3), some (.int x4), some (.int x5), none]) (st' := [.int x1, .int x5, .ref 2]) (w' := (hp u fL fD, c, z)) rfl ?_
        obtain ⟨v414, hf2382, h⟩ := Option.bind_eq_some_iff.mp h
        refine mg_Ev.call (y := 168) (as := [.ref 2, .int x5, .int x1]) (rest := []) (v := some (.int v414)) (w1 := (hp u fL fD, c, z)) rfl rfl (Nat.le_of_ble_eq_true rfl) ((ev_O_isGoodClaimOn hf2382).deep (by decide)) ?_
        refine mg_Ev.br (P := v414 = 0) (t := 107) (nx := 70) (st' := []) rfl rfl rfl rfl (fun hc2383 => ?_) (fun hc2383 => ?_)
        · rw [if_pos hc2383] at h
          refine mg_Ev.go 2 (pc' := 21) (loc' := [some (.ref 2), some (.int x1), some (.int x2), some (.int x3), some (.int x4), some (.int (x5 + 1)), none]) (st' := []) (w' := (hp u fL fD, c, z)) rfl ?_
          exact mg_Ev.more (loc := [some (.ref 2), some (.int x1), some (.int x2), some (.int x3), some (.int x4), some (.int (x5 + 1)), none]) (ih _ _ _ _ _ _ _ h _ K) ⟨rfl, ⟨rfl, ⟨rfl, ⟨rfl, ⟨rfl, ⟨rfl, trivial⟩⟩⟩⟩⟩⟩
        · rw [if_neg hc2383] at h
          refine mg_Ev.go 4 (pc' := 77) (loc' := [some (.ref 2), some (.int x1), some (.int x2), some (.int x3), some (.int x4), some (.int x5), none]) (st' := [.int 1, .int x5, .ref 26]) (w' := (hp u fL fD, c, z)) rfl ?_
          obtain ⟨v415, hf2384, h⟩ := Option.bind_eq_some_iff.mp h
          refine mg_Ev.call (y := 184) (as := [.ref 26, .int x5, .int 1]) (rest := []) (v := some (.int v415)) (w1 := (hp u fL fD, c, z)) rfl rfl (Nat.le_of_ble_eq_true rfl) ((ev_T_get_25 hf2384).deep (by decide)) ?_
          refine mg_Ev.go 2 (pc' := 82) (loc' := [some (.ref 2), some (.int x1), some (.int x2), some (.int x3), some (.int x4), some (.int x5), none]) (st' := [.int x2, .int x3, .int v415]) (w' := (hp u fL fD, c, z)) rfl ?_
          obtain ⟨v416, hf2385, h⟩ := Option.bind_eq_some_iff.mp h
          refine mg_Ev.call (y := 55) (as := [.int v415, .int x3, .int x2]) (rest := []) (v := some (.int v416)) (w1 := (hp u fL fD, c, z)) rfl rfl (Nat.le_of_ble_eq_true rfl) ((ev_C_scaled hf2385).deep (by decide)) ?_
          refine mg_Ev.go 6 (pc' := 97) (loc' := [some (.ref 2), some (.int x1), some (.int x2), some (.int x3), some (.int x4), some (.int x5), some (.int v416)]) (st' := [.int v416, .int 8, .int x5, .ref 26]) (w' := (hp u fL fD, c, z)) rfl ?_
          obtain ⟨u417, hf2386, h⟩ := Option.bind_eq_some_iff.mp h
          refine mg_Ev.call (y := 185) (as := [.ref 26, .int x5, .int 8, .int v416]) (rest := []) (v := none) (w1 := (hp u417 fL fD, c, z)) rfl rfl (Nat.le_of_ble_eq_true rfl) ((ev_T_put_25 hf2386).deep (by decide)) ?_
          refine mg_Ev.go 6 (pc' := 21) (loc' := [some (.ref 2), some (.int x1), some (.int x2), some (.int x3), some (.int (x4 - v416)), some (.int (x5 + 1)), some (.int v416)]) (st' := []) (w' := (hp u417 fL fD, c, z)) rfl ?_
          exact mg_Ev.more (loc := [some (.ref 2), some (.int x1), some (.int x2), some (.int x3), some (.int (x4 - v416)), some (.int (x5 + 1)), none]) (ih _ _ _ _ _ _ _ h _ K) ⟨rfl, ⟨rfl, ⟨rfl, ⟨rfl, ⟨rfl, ⟨rfl, trivial⟩⟩⟩⟩⟩⟩
      · rw [if_neg hc2381] at h
        refine mg_Ev.go 6 (pc' := 54) (loc' := [some (.ref 2), some (.int x1), some (.int x2), some (.int x3), some (.int x4), some (.int x5), none]) (st' := [.int x5, .ref 2, .int 14, .int x5, .ref 26]) (w' := (hp u fL fD, c, z)) rfl ?_
        obtain ⟨⟨v418, u419⟩, hf2387, h⟩ := Option.bind_eq_some_iff.mp h
        try dsimp only at h
        refine mg_Ev.call (y := 155) (as := [.ref 2, .int x5]) (rest := [.int 14, .int x5, .ref 26]) (v := some (.int v418)) (w1 := (hp u419 fL fD, c, z)) rfl rfl (Nat.le_of_ble_eq_true rfl) ((ev_O_claimReason hf2387).deep (by decide)) ?_
        obtain ⟨u421, hf2388, h⟩ := Option.bind_eq_some_iff.mp h
        refine mg_Ev.call (y := 185) (as := [.ref 26, .int x5, .int 14, .int v418]) (rest := []) (v := none) (w1 := (hp u421 fL fD, c, z)) rfl rfl (Nat.le_of_ble_eq_true rfl) ((ev_T_put_25 hf2388).deep (by decide)) ?_
        refine mg_Ev.go 3 (pc' := 64) (loc' := [some (.ref 2), some (.int x1), some (.int x2), some (.int x3), some (.int x4), some (.int x5), none]) (st' := [.int x1, .int x5, .ref 2]) (w' := (hp u421 fL fD, c, z)) rfl ?_
        obtain ⟨v422, hf2389, h⟩ := Option.bind_eq_some_iff.mp h
        refine mg_Ev.call (y := 168) (as := [.ref 2, .int x5, .int x1]) (rest := []) (v := some (.int v422)) (w1 := (hp u421 fL fD, c, z)) rfl rfl (Nat.le_of_ble_eq_true rfl) ((ev_O_isGoodClaimOn hf2389).deep (by decide)) ?_
        refine mg_Ev.br (P := v422 = 0) (t := 107) (nx := 70) (st' := []) rfl rfl rfl rfl (fun hc2390 => ?_) (fun hc2390 => ?_)
        · rw [if_pos hc2390] at h
          refine mg_Ev.go 2 (pc' := 21) (loc' := [some (.ref 2), some (.int x1), some (.int x2), some (.int x3), some (.int x4), some (.int (x5 + 1)), none]) (st' := []) (w' := (hp u421 fL fD, c, z)) rfl ?_
          exact mg_Ev.more (loc := [some (.ref 2), some (.int x1), some (.int x2), some (.int x3), some (.int x4), some (.int (x5 + 1)), none]) (ih _ _ _ _ _ _ _ h _ K) ⟨rfl, ⟨rfl, ⟨rfl, ⟨rfl, ⟨rfl, ⟨rfl, trivial⟩⟩⟩⟩⟩⟩
        · rw [if_neg hc2390] at h
          refine mg_Ev.go 4 (pc' := 77) (loc' := [some (.ref 2), some (.int x1), some (.int x2), some (.int x3), some (.int x4), some (.int x5), none]) (st' := [.int 1, .int x5, .ref 26]) (w' := (hp u421 fL fD, c, z)) rfl ?_
          obtain ⟨v423, hf2391, h⟩ := Option.bind_eq_some_iff.mp h
          refine mg_Ev.call (y := 184) (as := [.ref 26, .int x5, .int 1]) (rest := []) (v := some (.int v423)) (w1 := (hp u421 fL fD, c, z)) rfl rfl (Nat.le_of_ble_eq_true rfl) ((ev_T_get_25 hf2391).deep (by decide)) ?_
          refine mg_Ev.go 2 (pc' := 82) (loc' := [some (.ref 2), some (.int x1), some (.int x2), some (.int x3), some (.int x4), some (.int x5), none]) (st' := [.int x2, .int x3, .int v423]) (w' := (hp u421 fL fD, c, z)) rfl ?_
          obtain ⟨v424, hf2392, h⟩ := Option.bind_eq_some_iff.mp h
          refine mg_Ev.call (y := 55) (as := [.int v423, .int x3, .int x2]) (rest := []) (v := some (.int v424)) (w1 := (hp u421 fL fD, c, z)) rfl rfl (Nat.le_of_ble_eq_true rfl) ((ev_C_scaled hf2392).deep (by decide)) ?_
          refine mg_Ev.go 6 (pc' := 97) (loc' := [some (.ref 2), some (.int x1), some (.int x2), some (.int x3), some (.int x4), some (.int x5), some (.int v424)]) (st' := [.int v424, .int 8, .int x5, .ref 26]) (w' := (hp u421 fL fD, c, z)) rfl ?_
          obtain ⟨u425, hf2393, h⟩ := Option.bind_eq_some_iff.mp h
          refine mg_Ev.call (y := 185) (as := [.ref 26, .int x5, .int 8, .int v424]) (rest := []) (v := none) (w1 := (hp u425 fL fD, c, z)) rfl rfl (Nat.le_of_ble_eq_true rfl) ((ev_T_put_25 hf2393).deep (by decide)) ?_
          refine mg_Ev.go 6 (pc' := 21) (loc' := [some (.ref 2), some (.int x1), some (.int x2), some (.int x3), some (.int (x4 - v424)), some (.int (x5 + 1)), some (.int v424)]) (st' := []) (w' := (hp u425 fL fD, c, z)) rfl ?_
          exact mg_Ev.more (loc := [some (.ref 2), some (.int x1), some (.int x2), some (.int x3), some (.int (x4 - v424)), some (.int (x5 + 1)), none]) (ih _ _ _ _ _ _ _ h _ K) ⟨rfl, ⟨rfl, ⟨rfl, ⟨rfl, ⟨rfl, ⟨rfl, trivial⟩⟩⟩⟩⟩⟩

def O_serve (a0 : Int32) (a1 : Int32) (u : mg_Rg) : Option (mg_Rg) :=
  (T_get_22 a0 6 u).bind fun v409 =>
  (O_serve_L21 mg_F a0 a1 (if a1 < v409 then a1 else v409) (if a1 < v409 then a1 else v409) 0 u).bind fun q2394 => match q2394 with
  | (x426, u427) =>
    (O_giveSpareUnits a0 x426 u427).bind fun u434 =>
    (T_increase_22 a0 6 (0 - (if a1 < v409 then a1 else v409)) u434).bind fun u437 =>
    (T_increase_22 a0 7 (if a1 < v409 then a1 else v409) u437).bind fun u438 =>
    some u438

set_option maxRecDepth 10000 in
set_option maxHeartbeats 4000000 in
theorem ev_O_serve {sc : mg_Sc} {c z : Nat} {fL : Nat → Int64} {fD : Nat → UInt64} {a0 : Int32} {a1 : Int32} {u : mg_Rg} {v : mg_Rg} (h : O_serve a0 a1 u = some v) : mg_Ev sc 5 157 0 (mg_entry 157 [.ref 2, .int a0, .int a1]) [] (hp u fL fD, c, z) (.inl none, (hp v fL fD, c, z)) := by
  unfold O_serve at h
  show mg_Ev _ _ _ 0 [some (.ref 2), some (.int a0), some (.int a1), none, none, none, none] [] _ _
  refine mg_Ev.go 4 (pc' := 7) (loc' := [some (.ref 2), some (.int a0), some (.int a1), none, none, none, none]) (st' := [.int 6, .int a0, .ref 23]) (w' := (hp u fL fD, c, z)) rfl ?_
  obtain ⟨v409, hf2395, h⟩ := Option.bind_eq_some_iff.mp h
  refine mg_Ev.call (y := 184) (as := [.ref 23, .int a0, .int 6]) (rest := []) (v := some (.int v409)) (w1 := (hp u fL fD, c, z)) rfl rfl (Nat.le_of_ble_eq_true rfl) ((ev_T_get_22 hf2395).deep (by decide)) ?_
  refine mg_Ev.go 7 (pc' := 21) (loc' := [some (.ref 2), some (.int a0), some (.int a1), some (.int (if a1 < v409 then a1 else v409)), some (.int (if a1 < v409 then a1 else v409)), some (.int 0), none]) (st' := []) (w' := (hp u fL fD, c, z)) rfl ?_
  obtain ⟨⟨x426, u427⟩, hl2396, h⟩ := Option.bind_eq_some_iff.mp h
  try dsimp only at h
  refine mg_Ev.more (loc := [some (.ref 2), some (.int a0), some (.int a1), some (.int (if a1 < v409 then a1 else v409)), some (.int (if a1 < v409 then a1 else v409)), some (.int 0), none]) (ev_O_serve_L21 _ _ _ _ _ _ _ _ hl2396 _ ?_) ⟨rfl, ⟨rfl, ⟨rfl, ⟨rfl, ⟨rfl, ⟨rfl, trivial⟩⟩⟩⟩⟩⟩
  show mg_Ev _ _ _ 113 [some (.ref 2), some (.int a0), none, some (.int (if a1 < v409 then a1 else v409)), some (.int x426), none, none] [] (hp u427 fL fD, c, z) _
  refine mg_Ev.go 3 (pc' := 117) (loc' := [some (.ref 2), some (.int a0), none, some (.int (if a1 < v409 then a1 else v409)), some (.int x426), none, none]) (st' := [.int x426, .int a0, .ref 2]) (w' := (hp u427 fL fD, c, z)) rfl ?_
  obtain ⟨u434, hf2397, h⟩ := Option.bind_eq_some_iff.mp h
  refine mg_Ev.call (y := 169) (as := [.ref 2, .int a0, .int x426]) (rest := []) (v := none) (w1 := (hp u434 fL fD, c, z)) rfl rfl (Nat.le_of_ble_eq_true rfl) ((ev_O_giveSpareUnits hf2397).deep (by decide)) ?_
  refine mg_Ev.go 6 (pc' := 129) (loc' := [some (.ref 2), some (.int a0), none, some (.int (if a1 < v409 then a1 else v409)), some (.int x426), none, none]) (st' := [.int (0 - (if a1 < v409 then a1 else v409)), .int 6, .int a0, .ref 23]) (w' := (hp u434 fL fD, c, z)) rfl ?_
  obtain ⟨u437, hf2398, h⟩ := Option.bind_eq_some_iff.mp h
  refine mg_Ev.call (y := 186) (as := [.ref 23, .int a0, .int 6, .int (0 - (if a1 < v409 then a1 else v409))]) (rest := []) (v := none) (w1 := (hp u437 fL fD, c, z)) rfl rfl (Nat.le_of_ble_eq_true rfl) ((ev_T_increase_22 hf2398).deep (by decide)) ?_
  refine mg_Ev.go 5 (pc' := 140) (loc' := [some (.ref 2), some (.int a0), none, some (.int (if a1 < v409 then a1 else v409)), some (.int x426), none, none]) (st' := [.int (if a1 < v409 then a1 else v409), .int 7, .int a0, .ref 23]) (w' := (hp u437 fL fD, c, z)) rfl ?_
  obtain ⟨u438, hf2399, h⟩ := Option.bind_eq_some_iff.mp h
  refine mg_Ev.call (y := 186) (as := [.ref 23, .int a0, .int 7, .int (if a1 < v409 then a1 else v409)]) (rest := []) (v := none) (w1 := (hp u438 fL fD, c, z)) rfl rfl (Nat.le_of_ble_eq_true rfl) ((ev_T_increase_22 hf2399).deep (by decide)) ?_
  cases h
  exact mg_Ev.fin rfl rfl rfl

def O_valueInQuota (a0 : Int32) (u : mg_Rg) : Option (Int32) :=
  (T_get_25 a0 2 u).bind fun v446 =>
  (T_get_25 a0 8 u).bind fun v447 =>
  (T_get_25 a0 1 u).bind fun v448 =>
  (C_scaled v446 v447 v448 u).bind fun v449 =>
  some v449

set_option maxRecDepth 10000 in
set_option maxHeartbeats 4000000 in
theorem ev_O_valueInQuota {sc : mg_Sc} {c z : Nat} {fL : Nat → Int64} {fD : Nat → UInt64} {a0 : Int32} {u : mg_Rg} {v : Int32} (h : O_valueInQuota a0 u = some v) : mg_Ev sc 1 171 0 (mg_entry 171 [.ref 2, .int a0]) [] (hp u fL fD, c, z) (.inl (some (.int v)), (hp u fL fD, c, z)) := by
  unfold O_valueInQuota at h
  show mg_Ev _ _ _ 0 [some (.ref 2), some (.int a0)] [] _ _
  refine mg_Ev.go 4 (pc' := 6) (loc' := [some (.ref 2), some (.int a0)]) (st' := [.int 2, .int a0, .ref 26]) (w' := (hp u fL fD, c, z)) rfl ?_
  obtain ⟨v446, hf2400, h⟩ := Option.bind_eq_some_iff.mp h
  refine mg_Ev.call (y := 184) (as := [.ref 26, .int a0, .int 2]) (rest := []) (v := some (.int v446)) (w1 := (hp u fL fD, c, z)) rfl rfl (Nat.le_of_ble_eq_true rfl) ((ev_T_get_25 hf2400).deep (by decide)) ?_
  refine mg_Ev.go 4 (pc' := 16) (loc' := [some (.ref 2), some (.int a0)]) (st' := [.int 8, .int a0, .ref 26, .int v446]) (w' := (hp u fL fD, c, z)) rfl ?_
  obtain ⟨v447, hf2401, h⟩ := Option.bind_eq_some_iff.mp h
  refine mg_Ev.call (y := 184) (as := [.ref 26, .int a0, .int 8]) (rest := [.int v446]) (v := some (.int v447)) (w1 := (hp u fL fD, c, z)) rfl rfl (Nat.le_of_ble_eq_true rfl) ((ev_T_get_25 hf2401).deep (by decide)) ?_
  refine mg_Ev.go 4 (pc' := 25) (loc' := [some (.ref 2), some (.int a0)]) (st' := [.int 1, .int a0, .ref 26, .int v447, .int v446]) (w' := (hp u fL fD, c, z)) rfl ?_
  obtain ⟨v448, hf2402, h⟩ := Option.bind_eq_some_iff.mp h
  refine mg_Ev.call (y := 184) (as := [.ref 26, .int a0, .int 1]) (rest := [.int v447, .int v446]) (v := some (.int v448)) (w1 := (hp u fL fD, c, z)) rfl rfl (Nat.le_of_ble_eq_true rfl) ((ev_T_get_25 hf2402).deep (by decide)) ?_
  obtain ⟨v449, hf2403, h⟩ := Option.bind_eq_some_iff.mp h
  refine mg_Ev.call (y := 55) (as := [.int v446, .int v447, .int v448]) (rest := []) (v := some (.int v449)) (w1 := (hp u fL fD, c, z)) rfl rfl (Nat.le_of_ble_eq_true rfl) ((ev_C_scaled hf2403).deep (by decide)) ?_
  cases h
  exact mg_Ev.fin rfl rfl rfl

def O_secondPart (a0 : Int32) (a1 : Int32) (u : mg_Rg) : Option (Int32) :=
  (T_get_25 a0 2 u).bind fun v452 =>
  (O_valueInQuota a0 u).bind fun v453 =>
  some (((v452 - v453) * a1) / 1000)

set_option maxRecDepth 10000 in
set_option maxHeartbeats 4000000 in
theorem ev_O_secondPart {sc : mg_Sc} {c z : Nat} {fL : Nat → Int64} {fD : Nat → UInt64} {a0 : Int32} {a1 : Int32} {u : mg_Rg} {v : Int32} (h : O_secondPart a0 a1 u = some v) : mg_Ev sc 2 172 0 (mg_entry 172 [.ref 2, .int a0, .int a1]) [] (hp u fL fD, c, z) (.inl (some (.int v)), (hp u fL fD, c, z)) := by
  unfold O_secondPart at h
  show mg_Ev _ _ _ 0 [some (.ref 2), some (.int a0), some (.int a1)] [] _ _
  refine mg_Ev.go 4 (pc' := 6) (loc' := [some (.ref 2), some (.int a0), some (.int a1)]) (st' := [.int 2, .int a0, .ref 26]) (w' := (hp u fL fD, c, z)) rfl ?_
  obtain ⟨v452, hf2404, h⟩ := Option.bind_eq_some_iff.mp h
  refine mg_Ev.call (y := 184) (as := [.ref 26, .int a0, .int 2]) (rest := []) (v := some (.int v452)) (w1 := (hp u fL fD, c, z)) rfl rfl (Nat.le_of_ble_eq_true rfl) ((ev_T_get_25 hf2404).deep (by decide)) ?_
  refine mg_Ev.go 2 (pc' := 11) (loc' := [some (.ref 2), some (.int a0), some (.int a1)]) (st' := [.int a0, .ref 2, .int v452]) (w' := (hp u fL fD, c, z)) rfl ?_
  obtain ⟨v453, hf2405, h⟩ := Option.bind_eq_some_iff.mp h
  refine mg_Ev.call (y := 171) (as := [.ref 2, .int a0]) (rest := [.int v452]) (v := some (.int v453)) (w1 := (hp u fL fD, c, z)) rfl rfl (Nat.le_of_ble_eq_true rfl) ((ev_O_valueInQuota hf2405).deep (by decide)) ?_
  refine mg_Ev.go 4 (pc' := 20) (loc' := [some (.ref 2), some (.int a0), some (.int a1)]) (st' := [.int 1000, .int ((v452 - v453) * a1)]) (w' := (hp u fL fD, c, z)) rfl ?_
  refine mg_Ev.idiv rfl (by decide) ?_
  cases h
  exact mg_Ev.fin rfl rfl rfl

def T_put_16 (a0 : Int32) (a1 : Int32) (a2 : Int32) (u : mg_Rg) : Option (mg_Rg) :=
  if a0 < 0 then
  some u
  else
  if 3 ≤ a0 then
    some u
    else
    if a1 < 0 then
      some u
      else
      if a1 < 1 then
        if ((1 + (a0 * 1)) + a1) < 0 then
          some u
          else
          if 4 ≤ ((1 + (a0 * 1)) + a1) then
            some u
            else
            if ((1 + (a0 * 1)) + a1) < 0 ∨ 4 ≤ ((1 + (a0 * 1)) + a1).toNatClampNeg then none else
              some (mg_up u 17 (((1 + (a0 * 1)) + a1).toNatClampNeg) a2)
        else
        some u

set_option maxRecDepth 10000 in
set_option maxHeartbeats 4000000 in
theorem ev_T_put_16 {sc : mg_Sc} {c z : Nat} {fL : Nat → Int64} {fD : Nat → UInt64} {a0 : Int32} {a1 : Int32} {a2 : Int32} {u : mg_Rg} {v : mg_Rg} (h : T_put_16 a0 a1 a2 u = some v) : mg_Ev sc 0 185 0 (mg_entry 185 [.ref 17, .int a0, .int a1, .int a2]) [] (hp u fL fD, c, z) (.inl none, (hp v fL fD, c, z)) := by
  unfold T_put_16 at h
  show mg_Ev _ _ _ 0 [some (.ref 17), some (.int a0), some (.int a1), some (.int a2), none] [] _ _
  refine mg_Ev.go 1 (pc' := 1) (loc' := [some (.ref 17), some (.int a0), some (.int a1), some (.int a2), none]) (st' := [.int a0]) (w' := (hp u fL fD, c, z)) rfl ?_
  refine mg_Ev.br (P := a0 < 0) (t := 24) (nx := 4) (st' := []) rfl rfl rfl rfl (fun hc2406 => ?_) (fun hc2406 => ?_)
  · rw [if_pos hc2406] at h
    cases h
    exact mg_Ev.fin rfl rfl rfl
  · rw [if_neg hc2406] at h
    refine mg_Ev.go 3 (pc' := 9) (loc' := [some (.ref 17), some (.int a0), some (.int a1), some (.int a2), none]) (st' := [.int 3, .int a0]) (w' := (hp u fL fD, c, z)) rfl ?_
    refine mg_Ev.br (P := 3 ≤ a0) (t := 24) (nx := 12) (st' := []) rfl rfl rfl rfl (fun hc2407 => ?_) (fun hc2407 => ?_)
    · rw [if_pos hc2407] at h
      cases h
      exact mg_Ev.fin rfl rfl rfl
    · rw [if_neg hc2407] at h
      refine mg_Ev.go 1 (pc' := 13) (loc' := [some (.ref 17), some (.int a0), some (.int a1), some (.int a2), none]) (st' := [.int a1]) (w' := (hp u fL fD, c, z)) rfl ?_
      refine mg_Ev.br (P := a1 < 0) (t := 24) (nx := 16) (st' := []) rfl rfl rfl rfl (fun hc2408 => ?_) (fun hc2408 => ?_)
      · rw [if_pos hc2408] at h
        cases h
        exact mg_Ev.fin rfl rfl rfl
      · rw [if_neg hc2408] at h
        refine mg_Ev.go 3 (pc' := 21) (loc' := [some (.ref 17), some (.int a0), some (.int a1), some (.int a2), none]) (st' := [.int 1, .int a1]) (w' := (hp u fL fD, c, z)) rfl ?_
        refine mg_Ev.br (P := a1 < 1) (t := 25) (nx := 24) (st' := []) rfl rfl rfl rfl (fun hc2409 => ?_) (fun hc2409 => ?_)
        · rw [if_pos hc2409] at h
          refine mg_Ev.go 10 (pc' := 39) (loc' := [some (.ref 17), some (.int a0), some (.int a1), some (.int a2), some (.int ((1 + (a0 * 1)) + a1))]) (st' := [.int ((1 + (a0 * 1)) + a1)]) (w' := (hp u fL fD, c, z)) rfl ?_
          refine mg_Ev.br (P := ((1 + (a0 * 1)) + a1) < 0) (t := 60) (nx := 42) (st' := []) rfl rfl rfl rfl (fun hc2410 => ?_) (fun hc2410 => ?_)
          · rw [if_pos hc2410] at h
            cases h
            exact mg_Ev.fin rfl rfl rfl
          · rw [if_neg hc2410] at h
            refine mg_Ev.go 4 (pc' := 49) (loc' := [some (.ref 17), some (.int a0), some (.int a1), some (.int a2), some (.int ((1 + (a0 * 1)) + a1))]) (st' := [.int 4, .int ((1 + (a0 * 1)) + a1)]) (w' := (hp u fL fD, c, z)) rfl ?_
            refine mg_Ev.br (P := 4 ≤ ((1 + (a0 * 1)) + a1)) (t := 60) (nx := 52) (st' := []) rfl rfl rfl rfl (fun hc2411 => ?_) (fun hc2411 => ?_)
            · rw [if_pos hc2411] at h
              cases h
              exact mg_Ev.fin rfl rfl rfl
            · rw [if_neg hc2411] at h
              refine mg_Ev.go 4 (pc' := 59) (loc' := [some (.ref 17), some (.int a0), some (.int a1), some (.int a2), some (.int ((1 + (a0 * 1)) + a1))]) (st' := [.int a2, .int ((1 + (a0 * 1)) + a1), .ref 18]) (w' := (hp u fL fD, c, z)) rfl ?_
              by_cases hb2412 : ((1 + (a0 * 1)) + a1) < 0 ∨ 4 ≤ ((1 + (a0 * 1)) + a1).toNatClampNeg
              · rw [if_pos hb2412] at h
                cases h
              · rw [if_neg hb2412] at h
                refine mg_Ev.iast (a := 17) (n := 4) rfl (hpg_17 _ _ _) rfl hb2412 (hpa_17 _ _ _ _ _ _ _) ?_
                cases h
                exact mg_Ev.fin rfl rfl rfl
        · rw [if_neg hc2409] at h
          cases h
          exact mg_Ev.fin rfl rfl rfl

def T_increase_16 (a0 : Int32) (a1 : Int32) (a2 : Int32) (u : mg_Rg) : Option (mg_Rg) :=
  (T_get_16 a0 a1 u).bind fun v461 =>
  (T_put_16 a0 a1 (v461 + a2) u).bind fun u462 =>
  some u462

set_option maxRecDepth 10000 in
set_option maxHeartbeats 4000000 in
theorem ev_T_increase_16 {sc : mg_Sc} {c z : Nat} {fL : Nat → Int64} {fD : Nat → UInt64} {a0 : Int32} {a1 : Int32} {a2 : Int32} {u : mg_Rg} {v : mg_Rg} (h : T_increase_16 a0 a1 a2 u = some v) : mg_Ev sc 1 186 0 (mg_entry 186 [.ref 17, .int a0, .int a1, .int a2]) [] (hp u fL fD, c, z) (.inl none, (hp v fL fD, c, z)) := by
  unfold T_increase_16 at h
  show mg_Ev _ _ _ 0 [some (.ref 17), some (.int a0), some (.int a1), some (.int a2)] [] _ _
  refine mg_Ev.go 6 (pc' := 6) (loc' := [some (.ref 17), some (.int a0), some (.int a1), some (.int a2)]) (st' := [.int a1, .int a0, .ref 17, .int a1, .int a0, .ref 17]) (w' := (hp u fL fD, c, z)) rfl ?_
  obtain ⟨v461, hf2413, h⟩ := Option.bind_eq_some_iff.mp h
  refine mg_Ev.call (y := 184) (as := [.ref 17, .int a0, .int a1]) (rest := [.int a1, .int a0, .ref 17]) (v := some (.int v461)) (w1 := (hp u fL fD, c, z)) rfl rfl (Nat.le_of_ble_eq_true rfl) ((ev_T_get_16 hf2413).deep (by decide)) ?_
  refine mg_Ev.go 2 (pc' := 11) (loc' := [some (.ref 17), some (.int a0), some (.int a1), some (.int a2)]) (st' := [.int (v461 + a2), .int a1, .int a0, .ref 17]) (w' := (hp u fL fD, c, z)) rfl ?_
  obtain ⟨u462, hf2414, h⟩ := Option.bind_eq_some_iff.mp h
  refine mg_Ev.call (y := 185) (as := [.ref 17, .int a0, .int a1, .int (v461 + a2)]) (rest := []) (v := none) (w1 := (hp u462 fL fD, c, z)) rfl rfl (Nat.le_of_ble_eq_true rfl) ((ev_T_put_16 hf2414).deep (by decide)) ?_
  cases h
  exact mg_Ev.fin rfl rfl rfl

