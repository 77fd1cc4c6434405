def M_quota (a0 : Int32) (a1 : Int32) (a2 : Int32) (a3 : Int32) (a4 : Int32) (u : mg_Rg) : Option (Int32 × mg_Rg) :=
  (M_isHead a0 u).bind fun v954 =>
  if v954 = 0 then
  (M_fails 1 u).bind fun p957 => match p957 with
    | (v955, u956) =>
      some (v955, u956)
  else
  if a1 = (-1) then
    (M_in a2 1 9999 u).bind fun v958 =>
      if v958 = 0 then
      (M_fails 2 u).bind fun p961 => match p961 with
        | (v959, u960) =>
          some (v959, u960)
      else
      (M_in a3 0 1000 u).bind fun v962 =>
        if v962 = 0 then
        (M_fails 2 u).bind fun p965 => match p965 with
          | (v963, u964) =>
            some (v963, u964)
        else
        (M_in a4 (u 43 0) 999 u).bind fun v966 =>
          if v966 = 0 then
          (M_fails 2 u).bind fun p969 => match p969 with
            | (v967, u968) =>
              some (v967, u968)
          else
          if (u 43 4) = 6 then
            (M_fails 3 u).bind fun p972 => match p972 with
              | (v970, u971) =>
                some (v970, u971)
            else
            (M_remembers u).bind fun u973 =>
              if ((138 + (9 * (u973 43 4))) + 0) < 0 ∨ 690 ≤ ((138 + (9 * (u973 43 4))) + 0).toNatClampNeg then none else
              if ((138 + (9 * (u973 43 4))) + 1) < 0 ∨ 690 ≤ ((138 + (9 * (u973 43 4))) + 1).toNatClampNeg then none else
              if ((138 + (9 * (u973 43 4))) + 2) < 0 ∨ 690 ≤ ((138 + (9 * (u973 43 4))) + 2).toNatClampNeg then none else
              if ((138 + (9 * (u973 43 4))) + 3) < 0 ∨ 690 ≤ ((138 + (9 * (u973 43 4))) + 3).toNatClampNeg then none else
              if ((138 + (9 * (u973 43 4))) + 4) < 0 ∨ 690 ≤ ((138 + (9 * (u973 43 4))) + 4).toNatClampNeg then none else
              if ((138 + (9 * (u973 43 4))) + 5) < 0 ∨ 690 ≤ ((138 + (9 * (u973 43 4))) + 5).toNatClampNeg then none else
              if ((138 + (9 * (u973 43 4))) + 6) < 0 ∨ 690 ≤ ((138 + (9 * (u973 43 4))) + 6).toNatClampNeg then none else
              if ((138 + (9 * (u973 43 4))) + 7) < 0 ∨ 690 ≤ ((138 + (9 * (u973 43 4))) + 7).toNatClampNeg then none else
              (M_done (((mg_up (mg_up (mg_up (mg_up (mg_up (mg_up (mg_up (mg_up (mg_up u973 43 (((138 + (9 * (u973 43 4))) + 0).toNatClampNeg) a0) 43 (((138 + (9 * (u973 43 4))) + 1).toNatClampNeg) a1) 43 (((138 + (9 * (u973 43 4))) + 2).toNatClampNeg) a2) 43 (((138 + (9 * (u973 43 4))) + 3).toNatClampNeg) a3) 43 (((138 + (9 * (u973 43 4))) + 4).toNatClampNeg) ((mg_up (mg_up (mg_up (mg_up u973 43 (((138 + (9 * (u973 43 4))) + 0).toNatClampNeg) a0) 43 (((138 + (9 * (u973 43 4))) + 1).toNatClampNeg) a1) 43 (((138 + (9 * (u973 43 4))) + 2).toNatClampNeg) a2) 43 (((138 + (9 * (u973 43 4))) + 3).toNatClampNeg) a3) 43 0)) 43 (((138 + (9 * (u973 43 4))) + 5).toNatClampNeg) a4) 43 (((138 + (9 * (u973 43 4))) + 6).toNatClampNeg) a2) 43 (((138 + (9 * (u973 43 4))) + 7).toNatClampNeg) 0) 43 4 (((mg_up (mg_up (mg_up (mg_up (mg_up (mg_up (mg_up (mg_up u973 43 (((138 + (9 * (u973 43 4))) + 0).toNatClampNeg) a0) 43 (((138 + (9 * (u973 43 4))) + 1).toNatClampNeg) a1) 43 (((138 + (9 * (u973 43 4))) + 2).toNatClampNeg) a2) 43 (((138 + (9 * (u973 43 4))) + 3).toNatClampNeg) a3) 43 (((138 + (9 * (u973 43 4))) + 4).toNatClampNeg) ((mg_up (mg_up (mg_up (mg_up u973 43 (((138 + (9 * (u973 43 4))) + 0).toNatClampNeg) a0) 43 (((138 + (9 * (u973 43 4))) + 1).toNatClampNeg) a1) 43 (((138 + (9 * (u973 43 4))) + 2).toNatClampNeg) a2) 43 (((138 + (9 * (u973 43 4))) + 3).toNatClampNeg) a3) 43 0)) 43 (((138 + (9 * (u973 43 4))) + 5).toNatClampNeg) a4) 43 (((138 + (9 * (u973 43 4))) + 6).toNatClampNeg) a2) 43 (((138 + (9 * (u973 43 4))) + 7).toNatClampNeg) 0) 43 4) + 1)) 43 4) - 1) (mg_up (mg_up (mg_up (mg_up (mg_up (mg_up (mg_up (mg_up (mg_up u973 43 (((138 + (9 * (u973 43 4))) + 0).toNatClampNeg) a0) 43 (((138 + (9 * (u973 43 4))) + 1).toNatClampNeg) a1) 43 (((138 + (9 * (u973 43 4))) + 2).toNatClampNeg) a2) 43 (((138 + (9 * (u973 43 4))) + 3).toNatClampNeg) a3) 43 (((138 + (9 * (u973 43 4))) + 4).toNatClampNeg) ((mg_up (mg_up (mg_up (mg_up u973 43 (((138 + (9 * (u973 43 4))) + 0).toNatClampNeg) a0) 43 (((138 + (9 * (u973 43 4))) + 1).toNatClampNeg) a1) 43 (((138 + (9 * (u973 43 4))) + 2).toNatClampNeg) a2) 43 (((138 + (9 * (u973 43 4))) + 3).toNatClampNeg) a3) 43 0)) 43 (((138 + (9 * (u973 43 4))) + 5).toNatClampNeg) a4) 43 (((138 + (9 * (u973 43 4))) + 6).toNatClampNeg) a2) 43 (((138 + (9 * (u973 43 4))) + 7).toNatClampNeg) 0) 43 4 (((mg_up (mg_up (mg_up (mg_up (mg_up (mg_up (mg_up (mg_up u973 43 (((138 + (9 * (u973 43 4))) + 0).toNatClampNeg) a0) 43 (((138 + (9 * (u973 43 4))) + 1).toNatClampNeg) a1) 43 (((138 + (9 * (u973 43 4))) + 2).toNatClampNeg) a2) 43 (((138 + (9 * (u973 43 4))) + 3).toNatClampNeg) a3) 43 (((138 + (9 * (u973 43 4))) + 4).toNatClampNeg) ((mg_up (mg_up (mg_up (mg_up u973 43 (((138 + (9 * (u973 43 4))) + 0).toNatClampNeg) a0) 43 (((138 + (9 * (u973 43 4))) + 1).toNatClampNeg) a1) 43 (((138 + (9 * (u973 43 4))) + 2).toNatClampNeg) a2) 43 (((138 + (9 * (u973 43 4))) + 3).toNatClampNeg) a3) 43 0)) 43 (((138 + (9 * (u973 43 4))) + 5).toNatClampNeg) a4) 43 (((138 + (9 * (u973 43 4))) + 6).toNatClampNeg) a2) 43 (((138 + (9 * (u973 43 4))) + 7).toNatClampNeg) 0) 43 4) + 1))).bind fun p976 => match p976 with
              | (v974, u975) =>
                some (v974, u975)
    else
    (M_isCountry a1 u).bind fun v977 =>
      if v977 = 0 then
      (M_fails 1 u).bind fun p980 => match p980 with
        | (v978, u979) =>
          some (v978, u979)
      else
      (M_in a2 1 9999 u).bind fun v981 =>
        if v981 = 0 then
        (M_fails 2 u).bind fun p984 => match p984 with
          | (v982, u983) =>
            some (v982, u983)
        else
        (M_in a3 0 1000 u).bind fun v985 =>
          if v985 = 0 then
          (M_fails 2 u).bind fun p988 => match p988 with
            | (v986, u987) =>
              some (v986, u987)
          else
          (M_in a4 (u 43 0) 999 u).bind fun v989 =>
            if v989 = 0 then
            (M_fails 2 u).bind fun p992 => match p992 with
              | (v990, u991) =>
                some (v990, u991)
            else
            if (u 43 4) = 6 then
              (M_fails 3 u).bind fun p995 => match p995 with
                | (v993, u994) =>
                  some (v993, u994)
              else
              (M_remembers u).bind fun u996 =>
                if ((138 + (9 * (u996 43 4))) + 0) < 0 ∨ 690 ≤ ((138 + (9 * (u996 43 4))) + 0).toNatClampNeg then none else
                if ((138 + (9 * (u996 43 4))) + 1) < 0 ∨ 690 ≤ ((138 + (9 * (u996 43 4))) + 1).toNatClampNeg then none else
                if ((138 + (9 * (u996 43 4))) + 2) < 0 ∨ 690 ≤ ((138 + (9 * (u996 43 4))) + 2).toNatClampNeg then none else
                if ((138 + (9 * (u996 43 4))) + 3) < 0 ∨ 690 ≤ ((138 + (9 * (u996 43 4))) + 3).toNatClampNeg then none else
                if ((138 + (9 * (u996 43 4))) + 4) < 0 ∨ 690 ≤ ((138 + (9 * (u996 43 4))) + 4).toNatClampNeg then none else
                if ((138 + (9 * (u996 43 4))) + 5) < 0 ∨ 690 ≤ ((138 + (9 * (u996 43 4))) + 5).toNatClampNeg then none else
                if ((138 + (9 * (u996 43 4))) + 6) < 0 ∨ 690 ≤ ((138 + (9 * (u996 43 4))) + 6).toNatClampNeg then none else
                if ((138 + (9 * (u996 43 4))) + 7) < 0 ∨ 690 ≤ ((138 + (9 * (u996 43 4))) + 7).toNatClampNeg then none else
                (M_done (((mg_up (mg_up (mg_up (mg_up (mg_up (mg_up (mg_up (mg_up (mg_up u996 43 (((138 + (9 * (u996 43 4))) + 0).toNatClampNeg) a0) 43 (((138 + (9 * (u996 43 4))) + 1).toNatClampNeg) a1) 43 (((138 + (9 * (u996 43 4))) + 2).toNatClampNeg) a2) 43 (((138 + (9 * (u996 43 4))) + 3).toNatClampNeg) a3) 43 (((138 + (9 * (u996 43 4))) + 4).toNatClampNeg) ((mg_up (mg_up (mg_up (mg_up u996 43 (((138 + (9 * (u996 43 4))) + 0).toNatClampNeg) a0) 43 (((138 + (9 * (u996 43 4))) + 1).toNatClampNeg) a1) 43 (((138 + (9 * (u996 43 4))) + 2).toNatClampNeg) a2) 43 (((138 + (9 * (u996 43 4))) + 3).toNatClampNeg) a3) 43 0)) 43 (((138 + (9 * (u996 43 4))) + 5).toNatClampNeg) a4) 43 (((138 + (9 * (u996 43 4))) + 6).toNatClampNeg) a2) 43 (((138 + (9 * (u996 43 4))) + 7).toNatClampNeg) 0) 43 4 (((mg_up (mg_up (mg_up (mg_up (mg_up (mg_up (mg_up (mg_up u996 43 (((138 + (9 * (u996 43 4))) + 0).toNatClampNeg) a0) 43 (((138 + (9 * (u996 43 4))) + 1).toNatClampNeg) a1) 43 (((138 + (9 * (u996 43 4))) + 2).toNatClampNeg) a2) 43 (((138 + (9 * (u996 43 4))) + 3).toNatClampNeg) a3) 43 (((138 + (9 * (u996 43 4))) + 4).toNatClampNeg) ((mg_up (mg_up (mg_up (mg_up u996 43 (((138 + (9 * (u996 43 4))) + 0).toNatClampNeg) a0) 43 (((138 + (9 * (u996 43 4))) + 1).toNatClampNeg) a1) 43 (((138 + (9 * (u996 43 4))) + 2).toNatClampNeg) a2) 43 (((138 + (9 * (u996 43 4))) + 3).toNatClampNeg) a3) 43 0)) 43 (((138 + (9 * (u996 43 4))) + 5).toNatClampNeg) a4) 43 (((138 + (9 * (u996 43 4))) + 6).toNatClampNeg) a2) 43 (((138 + (9 * (u996 43 4))) + 7).toNatClampNeg) 0) 43 4) + 1)) 43 4) - 1) (mg_up (mg_up (mg_up (mg_up (mg_up (mg_up (mg_up (mg_up (mg_up u996 43 (((138 + (9 * (u996 43 4))) + 0).toNatClampNeg) a0) 43 (((138 + (9 * (u996 43 4))) + 1).toNatClampNeg) a1) 43 (((138 + (9 * (u996 43 4))) + 2).toNatClampNeg) a2) 43 (((138 + (9 * (u996 43 4))) + 3).toNatClampNeg) a3) 43 (((138 + (9 * (u996 43 4))) + 4).toNatClampNeg) ((mg_up (mg_up (mg_up (mg_up u996 43 (((138 + (9 * (u996 43 4))) + 0).toNatClampNeg) a0) 43 (((138 + (9 * (u996 43 4))) + 1).toNatClampNeg) a1) 43 (((138 + (9 * (u996 43 4))) + 2).toNatClampNeg) a2) 43 (((138 + (9 * (u996 43 4))) + 3).toNatClampNeg) a3) 43 0)) 43 (((138 + (9 * (u996 43 4))) + 5).toNatClampNeg) a4) 43 (((138 + (9 * (u996 43 4))) + 6).toNatClampNeg) a2) 43 (((138 + (9 * (u996 43 4))) + 7).toNatClampNeg) 0) 43 4 (((mg_up (mg_up (mg_up (mg_up (mg_up (mg_up (mg_up (mg_up u996 43 (((138 + (9 * (u996 43 4))) + 0).toNatClampNeg) a0) 43 (((138 + (9 * (u996 43 4))) + 1).toNatClampNeg) a1) 43 (((138 + (9 * (u996 43 4))) + 2).toNatClampNeg) a2) 43 (((138 + (9 * (u996 43 4))) + 3).toNatClampNeg) a3) 43 (((138 + (9 * (u996 43 4))) + 4).toNatClampNeg) ((mg_up (mg_up (mg_up (mg_up u996 43 (((138 + (9 * (u996 43 4))) + 0).toNatClampNeg) a0) 43 (((138 + (9 * (u996 43 4))) + 1).toNatClampNeg) a1) 43 (((138 + (9 * (u996 43 4))) + 2).toNatClampNeg) a2) 43 (((138 + (9 * (u996 43 4))) + 3).toNatClampNeg) a3) 43 0)) 43 (((138 + (9 * (u996 43 4))) + 5).toNatClampNeg) a4) 43 (((138 + (9 * (u996 43 4))) + 6).toNatClampNeg) a2) 43 (((138 + (9 * (u996 43 4))) + 7).toNatClampNeg) 0) 43 4) + 1))).bind fun p999 => match p999 with
                | (v997, u998) =>
                  some (v997, u998)

set_option maxRecDepth 10000 in
set_option maxHeartbeats 4000000 in
theorem ev_M_quota {sc : mg_Sc} {c z : Nat} {fL : Nat → Int64} {fD : Nat → UInt64} {a0 : Int32} {a1 : Int32} {a2 : Int32} {a3 : Int32} {a4 : Int32} {u : mg_Rg} {p : Int32 × mg_Rg} (h : M_quota a0 a1 a2 a3 a4 u = some p) : mg_Ev sc 3 82 0 (mg_entry 82 [.ref 43, .int a0, .int a1, .int a2, .int a3, .int a4]) [] (hp u fL fD, c, z) (.inl (some (.int p.1)), (hp p.2 fL fD, c, z)) := by
  unfold M_quota at h
  show mg_Ev _ _ _ 0 [some (.ref 43), some (.int a0), some (.int a1), some (.int a2), some (.int a3), some (.int a4), none] [] _ _
  refine mg_Ev.go 2 (pc' := 2) (loc' := [some (.ref 43), some (.int a0), some (.int a1), some (.int a2), some (.int a3), some (.int a4), none]) (st' := [.int a0, .ref 43]) (w' := (hp u fL fD, c, z)) rfl ?_
  obtain ⟨v954, hf3069, h⟩ := Option.bind_eq_some_iff.mp h
  refine mg_Ev.call (y := 64) (as := [.ref 43, .int a0]) (rest := []) (v := some (.int v954)) (w1 := (hp u fL fD, c, z)) rfl rfl (Nat.le_of_ble_eq_true rfl) ((ev_M_isHead hf3069).deep (by decide)) ?_
  refine mg_Ev.br (P := v954 = 0) (t := 20) (nx := 8) (st' := []) rfl rfl rfl rfl (fun hc3070 => ?_) (fun hc3070 => ?_)
  · rw [if_pos hc3070] at h
    refine mg_Ev.go 2 (pc' := 22) (loc' := [some (.ref 43), some (.int a0), some (.int a1), some (.int a2), some (.int a3), some (.int a4), none]) (st' := [.int 1, .ref 43]) (w' := (hp u fL fD, c, z)) rfl ?_
    obtain ⟨⟨v955, u956⟩, hf3071, h⟩ := Option.bind_eq_some_iff.mp h
    try dsimp only at h
    refine mg_Ev.call (y := 59) (as := [.ref 43, .int 1]) (rest := []) (v := some (.int v955)) (w1 := (hp u956 fL fD, c, z)) rfl rfl (Nat.le_of_ble_eq_true rfl) ((ev_M_fails hf3071).deep (by decide)) ?_
    cases h
    exact mg_Ev.fin rfl rfl rfl
  · rw [if_neg hc3070] at h
    refine mg_Ev.go 2 (pc' := 10) (loc' := [some (.ref 43), some (.int a0), some (.int a1), some (.int a2), some (.int a3), some (.int a4), none]) (st' := [.int (-1), .int a1]) (w' := (hp u fL fD, c, z)) rfl ?_
    refine mg_Ev.br (P := a1 = (-1)) (t := 26) (nx := 13) (st' := []) rfl rfl rfl rfl (fun hc3072 => ?_) (fun hc3072 => ?_)
    · rw [if_pos hc3072] at h
      refine mg_Ev.go 3 (pc' := 31) (loc' := [some (.ref 43), some (.int a0), some (.int a1), some (.int a2), some (.int a3), some (.int a4), none]) (st' := [.int 9999, .int 1, .int a2]) (w' := (hp u fL fD, c, z)) rfl ?_
      obtain ⟨v958, hf3073, h⟩ := Option.bind_eq_some_iff.mp h
      refine mg_Ev.call (y := 58) (as := [.int a2, .int 1, .int 9999]) (rest := []) (v := some (.int v958)) (w1 := (hp u fL fD, c, z)) rfl rfl (Nat.le_of_ble_eq_true rfl) ((ev_M_in hf3073).deep (by decide)) ?_
      refine mg_Ev.br (P := v958 = 0) (t := 66) (nx := 37) (st' := []) rfl rfl rfl rfl (fun hc3074 => ?_) (fun hc3074 => ?_)
      · rw [if_pos hc3074] at h
        refine mg_Ev.go 2 (pc' := 68) (loc' := [some (.ref 43), some (.int a0), some (.int a1), some (.int a2), some (.int a3), some (.int a4), none]) (st' := [.int 2, .ref 43]) (w' := (hp u fL fD, c, z)) rfl ?_
        obtain ⟨⟨v959, u960⟩, hf3075, h⟩ := Option.bind_eq_some_iff.mp h
        try dsimp only at h
        refine mg_Ev.call (y := 59) (as := [.ref 43, .int 2]) (rest := []) (v := some (.int v959)) (w1 := (hp u960 fL fD, c, z)) rfl rfl (Nat.le_of_ble_eq_true rfl) ((ev_M_fails hf3075).deep (by decide)) ?_
        cases h
        exact mg_Ev.fin rfl rfl rfl
      · rw [if_neg hc3074] at h
        refine mg_Ev.go 3 (pc' := 43) (loc' := [some (.ref 43), some (.int a0), some (.int a1), some (.int a2), some (.int a3), some (.int a4), none]) (st' := [.int 1000, .int 0, .int a3]) (w' := (hp u fL fD, c, z)) rfl ?_
        obtain ⟨v962, hf3076, h⟩ := Option.bind_eq_some_iff.mp h
        refine mg_Ev.call (y := 58) (as := [.int a3, .int 0, .int 1000]) (rest := []) (v := some (.int v962)) (w1 := (hp u fL fD, c, z)) rfl rfl (Nat.le_of_ble_eq_true rfl) ((ev_M_in hf3076).deep (by decide)) ?_
        refine mg_Ev.br (P := v962 = 0) (t := 66) (nx := 49) (st' := []) rfl rfl rfl rfl (fun hc3077 => ?_) (fun hc3077 => ?_)
        · rw [if_pos hc3077] at h
          refine mg_Ev.go 2 (pc' := 68) (loc' := [some (.ref 43), some (.int a0), some (.int a1), some (.int a2), some (.int a3), some (.int a4), none]) (st' := [.int 2, .ref 43]) (w' := (hp u fL fD, c, z)) rfl ?_
          obtain ⟨⟨v963, u964⟩, hf3078, h⟩ := Option.bind_eq_some_iff.mp h
          try dsimp only at h
          refine mg_Ev.call (y := 59) (as := [.ref 43, .int 2]) (rest := []) (v := some (.int v963)) (w1 := (hp u964 fL fD, c, z)) rfl rfl (Nat.le_of_ble_eq_true rfl) ((ev_M_fails hf3078).deep (by decide)) ?_
          cases h
          exact mg_Ev.fin rfl rfl rfl
        · rw [if_neg hc3077] at h
          refine mg_Ev.go 4 (pc' := 56) (loc' := [some (.ref 43), some (.int a0), some (.int a1), some (.int a2), some (.int a3), some (.int a4), none]) (st' := [.int 0, .ref 44, .int a4]) (w' := (hp u fL fD, c, z)) rfl ?_
          refine mg_Ev.iald (a := 43) (n := 690) (f := u 43) (j := 0) rfl (hpg_43 _ _ _) (by decide) (by decide) ?_
          refine mg_Ev.go 1 (pc' := 60) (loc' := [some (.ref 43), some (.int a0), some (.int a1), some (.int a2), some (.int a3), some (.int a4), none]) (st' := [.int 999, .int (u 43 0), .int a4]) (w' := (hp u fL fD, c, z)) rfl ?_
          obtain ⟨v966, hf3079, h⟩ := Option.bind_eq_some_iff.mp h
          refine mg_Ev.call (y := 58) (as := [.int a4, .int (u 43 0), .int 999]) (rest := []) (v := some (.int v966)) (w1 := (hp u fL fD, c, z)) rfl rfl (Nat.le_of_ble_eq_true rfl) ((ev_M_in hf3079).deep (by decide)) ?_
          refine mg_Ev.br (P := v966 = 0) (t := 66) (nx := 72) (st' := []) rfl rfl rfl rfl (fun hc3080 => ?_) (fun hc3080 => ?_)
          · rw [if_pos hc3080] at h
            refine mg_Ev.go 2 (pc' := 68) (loc' := [some (.ref 43), some (.int a0), some (.int a1), some (.int a2), some (.int a3), some (.int a4), none]) (st' := [.int 2, .ref 43]) (w' := (hp u fL fD, c, z)) rfl ?_
            obtain ⟨⟨v967, u968⟩, hf3081, h⟩ := Option.bind_eq_some_iff.mp h
            try dsimp only at h
            refine mg_Ev.call (y := 59) (as := [.ref 43, .int 2]) (rest := []) (v := some (.int v967)) (w1 := (hp u968 fL fD, c, z)) rfl rfl (Nat.le_of_ble_eq_true rfl) ((ev_M_fails hf3081).deep (by decide)) ?_
            cases h
            exact mg_Ev.fin rfl rfl rfl
          · rw [if_neg hc3080] at h
            refine mg_Ev.go 3 (pc' := 77) (loc' := [some (.ref 43), some (.int a0), some (.int a1), some (.int a2), some (.int a3), some (.int a4), none]) (st' := [.int 4, .ref 44]) (w' := (hp u fL fD, c, z)) rfl ?_
            refine mg_Ev.iald (a := 43) (n := 690) (f := u 43) (j := 4) rfl (hpg_43 _ _ _) (by decide) (by decide) ?_
            refine mg_Ev.go 1 (pc' := 80) (loc' := [some (.ref 43), some (.int a0), some (.int a1), some (.int a2), some (.int a3), some (.int a4), none]) (st' := [.int 6, .int (u 43 4)]) (w' := (hp u fL fD, c, z)) rfl ?_
            refine mg_Ev.br (P := (u 43 4) = 6) (t := 83) (nx := 89) (st' := []) rfl rfl rfl rfl (fun hc3082 => ?_) (fun hc3082 => ?_)
            · rw [if_pos hc3082] at h
              refine mg_Ev.go 2 (pc' := 85) (loc' := [some (.ref 43), some (.int a0), some (.int a1), some (.int a2), some (.int a3), some (.int a4), none]) (st' := [.int 3, .ref 43]) (w' := (hp u fL fD, c, z)) rfl ?_
              obtain ⟨⟨v970, u971⟩, hf3083, h⟩ := Option.bind_eq_some_iff.mp h
              try dsimp only at h
              refine mg_Ev.call (y := 59) (as := [.ref 43, .int 3]) (rest := []) (v := some (.int v970)) (w1 := (hp u971 fL fD, c, z)) rfl rfl (Nat.le_of_ble_eq_true rfl) ((ev_M_fails hf3083).deep (by decide)) ?_
              cases h
              exact mg_Ev.fin rfl rfl rfl
            · rw [if_neg hc3082] at h
              refine mg_Ev.go 1 (pc' := 90) (loc' := [some (.ref 43), some (.int a0), some (.int a1), some (.int a2), some (.int a3), some (.int a4), none]) (st' := [.ref 43]) (w' := (hp u fL fD, c, z)) rfl ?_
              obtain ⟨u973, hf3084, h⟩ := Option.bind_eq_some_iff.mp h
              refine mg_Ev.call (y := 63) (as := [.ref 43]) (rest := []) (v := none) (w1 := (hp u973 fL fD, c, z)) rfl rfl (Nat.le_of_ble_eq_true rfl) ((ev_M_remembers hf3084).deep (by decide)) ?_
              refine mg_Ev.go 5 (pc' := 103) (loc' := [some (.ref 43), some (.int a0), some (.int a1), some (.int a2), some (.int a3), some (.int a4), none]) (st' := [.int 4, .ref 44, .int 9, .int 138]) (w' := (hp u973 fL fD, c, z)) rfl ?_
              refine mg_Ev.iald (a := 43) (n := 690) (f := u973 43) (j := 4) rfl (hpg_43 _ _ _) (by decide) (by decide) ?_
              refine mg_Ev.go 9 (pc' := 117) (loc' := [some (.ref 43), some (.int a0), some (.int a1), some (.int a2), some (.int a3), some (.int a4), some (.int (138 + (9 * (u973 43 4))))]) (st' := [.int a0, .int ((138 + (9 * (u973 43 4))) + 0), .ref 44]) (w' := (hp u973 fL fD, c, z)) rfl ?_
              by_cases hb3085 : ((138 + (9 * (u973 43 4))) + 0) < 0 ∨ 690 ≤ ((138 + (9 * (u973 43 4))) + 0).toNatClampNeg
              · rw [if_pos hb3085] at h
                cases h
              · rw [if_neg hb3085] at h
                refine mg_Ev.iast (a := 43) (n := 690) rfl (hpg_43 _ _ _) rfl hb3085 (hpa_43 _ _ _ _ _ _ _) ?_
                refine mg_Ev.go 6 (pc' := 127) (loc' := [some (.ref 43), some (.int a0), some (.int a1), some (.int a2), some (.int a3), some (.int a4), some (.int (138 + (9 * (u973 43 4))))]) (st' := [.int a1, .int ((138 + (9 * (u973 43 4))) + 1), .ref 44]) (w' := (hp (mg_up u973 43 (((138 + (9 * (u973 43 4))) + 0).toNatClampNeg) a0) fL fD, c, z)) rfl ?_
                by_cases hb3086 : ((138 + (9 * (u973 43 4))) + 1) < 0 ∨ 690 ≤ ((138 + (9 * (u973 43 4))) + 1).toNatClampNeg
                · rw [if_pos hb3086] at h
                  cases h
                · rw [if_neg hb3086] at h
                  refine mg_Ev.iast (a := 43) (n := 690) rfl (hpg_43 _ _ _) rfl hb3086 (hpa_43 _ _ _ _ _ _ _) ?_
                  refine mg_Ev.go 6 (pc' := 137) (loc' := [some (.ref 43), some (.int a0), some (.int a1), some (.int a2), some (.int a3), some (.int a4), some (.int (138 + (9 * (u973 43 4))))]) (st' := [.int a2, .int ((138 + (9 * (u973 43 4))) + 2), .ref 44]) (w' := (hp (mg_up (mg_up u973 43 (((138 + (9 * (u973 43 4))) + 0).toNatClampNeg) a0) 43 (((138 + (9 * (u973 43 4))) + 1).toNatClampNeg) a1) fL fD, c, z)) rfl ?_
                  by_cases hb3087 : ((138 + (9 * (u973 43 4))) + 2) < 0 ∨ 690 ≤ ((138 + (9 * (u973 43 4))) + 2).toNatClampNeg
                  · rw [if_pos hb3087] at h
                    cases h
                  · rw [if_neg hb3087] at h
                    refine mg_Ev.iast (a := 43) (n := 690) rfl (hpg_43 _ _ _) rfl hb3087 (hpa_43 _ _ _ _ _ _ _) ?_
                    refine mg_Ev.go 6 (pc' := 148) (loc' := [some (.ref 43), some (.int a0), some (.int a1), some (.int a2), some (.int a3), some (.int a4), some (.int (138 + (9 * (u973 43 4))))]) (st' := [.int a3, .int ((138 + (9 * (u973 43 4))) + 3), .ref 44]) (w' := (hp (mg_up (mg_up (mg_up u973 43 (((138 + (9 * (u973 43 4))) + 0).toNatClampNeg) a0) 43 (((138 + (9 * (u973 43 4))) + 1).toNatClampNeg) a1) 43 (((138 + (9 * (u973 43 4))) + 2).toNatClampNeg) a2) fL fD, c, z)) rfl ?_
                    by_cases hb3088 : ((138 + (9 * (u973 43 4))) + 3) < 0 ∨ 690 ≤ ((138 + (9 * (u973 43 4))) + 3).toNatClampNeg
                    · rw [if_pos hb3088] at h
                      cases h
                    · rw [if_neg hb3088] at h
                      refine mg_Ev.iast (a := 43) (n := 690) rfl (hpg_43 _ _ _) rfl hb3088 (hpa_43 _ _ _ _ _ _ _) ?_
                      refine mg_Ev.go 8 (pc' := 162) (loc' := [some (.ref 43), some (.int a0), some (.int a1), some (.int a2), some (.int a3), some (.int a4), some (.int (138 + (9 * (u973 43 4))))]) (st' := [.int 0, .ref 44, .int ((138 + (9 * (u973 43 4))) + 4), .ref 44]) (w' := (hp (mg_up (mg_up (mg_up (mg_up u973 43 (((138 + (9 * (u973 43 4))) + 0).toNatClampNeg) a0) 43 (((138 + (9 * (u973 43 4))) + 1).toNatClampNeg) a1) 43 (((138 + (9 * (u973 43 4))) + 2).toNatClampNeg) a2) 43 (((138 + (9 * (u973 43 4))) + 3).toNatClampNeg) a3) fL fD, c, z)) rfl ?_
                      refine mg_Ev.iald (a := 43) (n := 690) (f := (mg_up (mg_up (mg_up (mg_up u973 43 (((138 + (9 * (u973 43 4))) + 0).toNatClampNeg) a0) 43 (((138 + (9 * (u973 43 4))) + 1).toNatClampNeg) a1) 43 (((138 + (9 * (u973 43 4))) + 2).toNatClampNeg) a2) 43 (((138 + (9 * (u973 43 4))) + 3).toNatClampNeg) a3) 43) (j := 0) rfl (hpg_43 _ _ _) (by decide) (by decide) ?_
                      by_cases hb3089 : ((138 + (9 * (u973 43 4))) + 4) < 0 ∨ 690 ≤ ((138 + (9 * (u973 43 4))) + 4).toNatClampNeg
                      · rw [if_pos hb3089] at h
                        cases h
                      · rw [if_neg hb3089] at h
                        refine mg_Ev.iast (a := 43) (n := 690) rfl (hpg_43 _ _ _) rfl hb3089 (hpa_43 _ _ _ _ _ _ _) ?_
                        refine mg_Ev.go 6 (pc' := 174) (loc' := [some (.ref 43), some (.int a0), some (.int a1), some (.int a2), some (.int a3), some (.int a4), some (.int (138 + (9 * (u973 43 4))))]) (st' := [.int a4, .int ((138 + (9 * (u973 43 4))) + 5), .ref 44]) (w' := (hp (mg_up (mg_up (mg_up (mg_up (mg_up u973 43 (((138 + (9 * (u973 43 4))) + 0).toNatClampNeg) a0) 43 (((138 + (9 * (u973 43 4))) + 1).toNatClampNeg) a1) 43 (((138 + (9 * (u973 43 4))) + 2).toNatClampNeg) a2) 43 (((138 + (9 * (u973 43 4))) + 3).toNatClampNeg) a3) 43 (((138 + (9 * (u973 43 4))) + 4).toNatClampNeg) ((mg_up (mg_up (mg_up (mg_up u973 43 (((138 + (9 * (u973 43 4))) + 0).toNatClampNeg) a0) 43 (((138 + (9 * (u973 43 4))) + 1).toNatClampNeg) a1) 43 (((138 + (9 * (u973 43 4))) + 2).toNatClampNeg) a2) 43 (((138 + (9 * (u973 43 4))) + 3).toNatClampNeg) a3) 43 0)) fL fD, c, z)) rfl ?_
                        by_cases hb3090 : ((138 + (9 * (u973 43 4))) + 5) < 0 ∨ 690 ≤ ((138 + (9 * (u973 43 4))) + 5).toNatClampNeg
                        · rw [if_pos hb3090] at h
                          cases h
                        · rw [if_neg hb3090] at h
                          refine mg_Ev.iast (a := 43) (n := 690) rfl (hpg_43 _ _ _) rfl hb3090 (hpa_43 _ _ _ _ _ _ _) ?_
                          refine mg_Ev.go 6 (pc' := 185) (loc' := [some (.ref 43), some (.int a0), some (.int a1), some (.int a2), some (.int a3), some (.int a4), some (.int (138 + (9 * (u973 43 4))))]) (st' := [.int a2, .int ((138 + (9 * (u973 43 4))) + 6), .ref 44]) (w' := (hp (mg_up (mg_up (mg_up (mg_up (mg_up (mg_up u973 43 (((138 + (9 * (u973 43 4))) + 0).toNatClampNeg) a0) 43 (((138 + (9 * (u973 43 4))) + 1).toNatClampNeg) a1) 43 (((138 + (9 * (u973 43 4))) + 2).toNatClampNeg) a2) 43 (((138 + (9 * (u973 43 4))) + 3).toNatClampNeg) a3) 43 (((138 + (9 * (u973 43 4))) + 4).toNatClampNeg) ((mg_up (mg_up (mg_up (mg_up u973 43 (((138 + (9 * (u973 43 4))) + 0).toNatClampNeg) a0) 43 (((138 + (9 * (u973 43 4))) + 1).toNatClampNeg) a1) 43 (((138 + (9 * (u973 43 4))) + 2).toNatClampNeg) a2) 43 (((138 + (9 * (u973 43 4))) + 3).toNatClampNeg) a3) 43 0)) 43 (((138 + (9 * (u973 43 4))) + 5).toNatClampNeg) a4) fL fD, c, z)) rfl ?_
                          by_cases hb3091 : ((138 + (9 * (u973 43 4))) + 6) < 0 ∨ 690 ≤ ((138 + (9 * (u973 43 4))) + 6).toNatClampNeg
                          · rw [if_pos hb3091] at h
                            cases h
                          · rw [if_neg hb3091] at h
                            refine mg_Ev.iast (a := 43) (n := 690) rfl (hpg_43 _ _ _) rfl hb3091 (hpa_43 _ _ _ _ _ _ _) ?_
                            refine mg_Ev.go 6 (pc' := 196) (loc' := [some (.ref 43), some (.int a0), some (.int a1), some (.int a2), some (.int a3), some (.int a4), some (.int (138 + (9 * (u973 43 4))))]) (st' := [.int 0, .int ((138 + (9 * (u973 43 4))) + 7), .ref 44]) (w' := (hp (mg_up (mg_up (mg_up (mg_up (mg_up (mg_up (mg_up u973 43 (((138 + (9 * (u973 43 4))) + 0).toNatClampNeg) a0) 43 (((138 + (9 * (u973 43 4))) + 1).toNatClampNeg) a1) 43 (((138 + (9 * (u973 43 4))) + 2).toNatClampNeg) a2) 43 (((138 + (9 * (u973 43 4))) + 3).toNatClampNeg) a3) 43 (((138 + (9 * (u973 43 4))) + 4).toNatClampNeg) ((mg_up (mg_up (mg_up (mg_up u973 43 (((138 + (9 * (u973 43 4))) + 0).toNatClampNeg) a0) 43 (((138 + (9 * (u973 43 4))) + 1).toNatClampNeg) a1) 43 (((138 + (9 * (u973 43 4))) + 2).toNatClampNeg) a2) 43 (((138 + (9 * (u973 43 4))) + 3).toNatClampNeg) a3) 43 0)) 43 (((138 + (9 * (u973 43 4))) + 5).toNatClampNeg) a4) 43 (((138 + (9 * (u973 43 4))) + 6).toNatClampNeg) a2) fL fD, c, z)) rfl ?_
                            by_cases hb3092 : ((138 + (9 * (u973 43 4))) + 7) < 0 ∨ 690 ≤ ((138 + (9 * (u973 43 4))) + 7).toNatClampNeg
                            · rw [if_pos hb3092] at h
                              cases h
                            · rw [if_neg hb3092] at h
                              refine mg_Ev.iast (a := 43) (n := 690) rfl (hpg_43 _ _ _) rfl hb3092 (hpa_43 _ _ _ _ _ _ _) ?_
                              refine mg_Ev.go 4 (pc' := 203) (loc' := [some (.ref 43), some (.int a0), some (.int a1), some (.int a2), some (.int a3), some (.int a4), some (.int (138 + (9 * (u973 43 4))))]) (st' := [.int 4, .ref 44, .int 4, .ref 44]) (w' := (hp (mg_up (mg_up (mg_up (mg_up (mg_up (mg_up (mg_up (mg_up u973 43 (((138 + (9 * (u973 43 4))) + 0).toNatClampNeg) a0) 43 (((138 + (9 * (u973 43 4))) + 1).toNatClampNeg) a1) 43 (((138 + (9 * (u973 43 4))) + 2).toNatClampNeg) a2) 43 (((138 + (9 * (u973 43 4))) + 3).toNatClampNeg) a3) 43 (((138 + (9 * (u973 43 4))) + 4).toNatClampNeg) ((mg_up (mg_up (mg_up (mg_up u973 43 (((138 + (9 * (u973 43 4))) + 0).toNatClampNeg) a0) 43 (((138 + (9 * (u973 43 4))) + 1).toNatClampNeg) a1) 43 (((138 + (9 * (u973 43 4))) + 2).toNatClampNeg) a2) 43 (((138 + (9 * (u973 43 4))) + 3).toNatClampNeg) a3) 43 0)) 43 (((138 + (9 * (u973 43 4))) + 5).toNatClampNeg) a4) 43 (((138 + (9 * (u973 43 4))) + 6).toNatClampNeg) a2) 43 (((138 + (9 * (u973 43 4))) + 7).toNatClampNeg) 0) fL fD, c, z)) rfl ?_
                              refine mg_Ev.iald (a := 43) (n := 690) (f := (mg_up (mg_up (mg_up (mg_up (mg_up (mg_up (mg_up (mg_up u973 43 (((138 + (9 * (u973 43 4))) + 0).toNatClampNeg) a0) 43 (((138 + (9 * (u973 43 4))) + 1).toNatClampNeg) a1) 43 (((138 + (9 * (u973 43 4))) + 2).toNatClampNeg) a2) 43 (((138 + (9 * (u973 43 4))) + 3).toNatClampNeg) a3) 43 (((138 + (9 * (u973 43 4))) + 4).toNatClampNeg) ((mg_up (mg_up (mg_up (mg_up u973 43 (((138 + (9 * (u973 43 4))) + 0).toNatClampNeg) a0) 43 (((138 + (9 * (u973 43 4))) + 1).toNatClampNeg) a1) 43 (((138 + (9 * (u973 43 4))) + 2).toNatClampNeg) a2) 43 (((138 + (9 * (u973 43 4))) + 3).toNatClampNeg) a3) 43 0)) 43 (((138 + (9 * (u973 43 4))) + 5).toNatClampNeg) a4) 43 (((138 + (9 * (u973 43 4))) + 6).toNatClampNeg) a2) 43 (((138 + (9 * (u973 43 4))) + 7).toNatClampNeg) 0) 43) (j := 4) rfl (hpg_43 _ _ _) (by decide) (by decide) ?_
                              refine mg_Ev.go 2 (pc' := 206) (loc' := [some (.ref 43), some (.int a0), some (.int a1), some (.int a2), some (.int a3), some (.int a4), some (.int (138 + (9 * (u973 43 4))))]) (st' := [.int (((mg_up (mg_up (mg_up (mg_up (mg_up (mg_up (mg_up (mg_up u973 43 (((138 + (9 * (u973 43 4))) + 0).toNatClampNeg) a0) 43 (((138 + (9 * (u973 43 4))) + 1).toNatClampNeg) a1) 43 (((138 + (9 * (u973 43 4))) + 2).toNatClampNeg) a2) 43 (((138 + (9 * (u973 43 4))) + 3).toNatClampNeg) a3) 43 (((138 + (9 * (u973 43 4))) + 4).toNatClampNeg) ((mg_up (mg_up (mg_up (mg_up u973 43 (((138 + (9 * (u973 43 4))) + 0).toNatClampNeg) a0) 43 (((138 + (9 * (u973 43 4))) + 1).toNatClampNeg) a1) 43 (((138 + (9 * (u973 43 4))) + 2).toNatClampNeg) a2) 43 (((138 + (9 * (u973 43 4))) + 3).toNatClampNeg) a3) 43 0)) 43 (((138 + (9 * (u973 43 4))) + 5).toNatClampNeg) a4) 43 (((138 + (9 * (u973 43 4))) + 6).toNatClampNeg) a2) 43 (((138 + (9 * (u973 43 4))) + 7).toNatClampNeg) 0) 43 4) + 1), .int 4, .ref 44]) (w' := (hp (mg_up (mg_up (mg_up (mg_up (mg_up (mg_up (mg_up (mg_up u973 43 (((138 + (9 * (u973 43 4))) + 0).toNatClampNeg) a0) 43 (((138 + (9 * (u973 43 4))) + 1).toNatClampNeg) a1) 43 (((138 + (9 * (u973 43 4))) + 2).toNatClampNeg) a2) 43 (((138 + (9 * (u973 43 4))) + 3).toNatClampNeg) a3) 43 (((138 + (9 * (u973 43 4))) + 4).toNatClampNeg) ((mg_up (mg_up (mg_up (mg_up u973 43 (((138 + (9 * (u973 43 4))) + 0).toNatClampNeg) a0) 43 (((138 + (9 * (u973 43 4))) + 1).toNatClampNeg) a1) 43 (((138 + (9 * (u973 43 4))) + 2).toNatClampNeg) a2) 43 (((138 + (9 * (u973 43 4))) + 3).toNatClampNeg) a3) 43 0)) 43 (((138 + (9 * (u973 43 4))) + 5).toNatClampNeg) a4) 43 (((138 + (9 * (u973 43 4))) + 6).toNatClampNeg) a2) 43 (((138 + (9 * (u973 43 4))) + 7).toNatClampNeg) 0) fL fD, c, z)) rfl ?_
                              refine mg_Ev.iast (a := 43) (n := 690) (j := 4) rfl (hpg_43 _ _ _) (by decide) (by decide) (hpa_43 _ _ _ _ _ _ _) ?_
                              refine mg_Ev.go 4 (pc' := 213) (loc' := [some (.ref 43), some (.int a0), some (.int a1), some (.int a2), some (.int a3), some (.int a4), some (.int (138 + (9 * (u973 43 4))))]) (st' := [.int 4, .ref 44, .ref 43]) (w' := (hp (mg_up (mg_up (mg_up (mg_up (mg_up (mg_up (mg_up (mg_up (mg_up u973 43 (((138 + (9 * (u973 43 4))) + 0).toNatClampNeg) a0) 43 (((138 + (9 * (u973 43 4))) + 1).toNatClampNeg) a1) 43 (((138 + (9 * (u973 43 4))) + 2).toNatClampNeg) a2) 43 (((138 + (9 * (u973 43 4))) + 3).toNatClampNeg) a3) 43 (((138 + (9 * (u973 43 4))) + 4).toNatClampNeg) ((mg_up (mg_up (mg_up (mg_up u973 43 (((138 + (9 * (u973 43 4))) + 0).toNatClampNeg) a0) 43 (((138 + (9 * (u973 43 4))) + 1).toNatClampNeg) a1) 43 (((138 + (9 * (u973 43 4))) + 2).toNatClampNeg) a2) 43 (((138 + (9 * (u973 43 4))) + 3).toNatClampNeg) a3) 43 0)) 43 (((138 + (9 * (u973 43 4))) + 5).toNatClampNeg) a4) 43 (((138 + (9 * (u973 43 4))) + 6).toNatClampNeg) a2) 43 (((138 + (9 * (u973 43 4))) + 7).toNatClampNeg) 0) 43 4 (((mg_up (mg_up (mg_up (mg_up (mg_up (mg_up (mg_up (mg_up u973 43 (((138 + (9 * (u973 43 4))) + 0).toNatClampNeg) a0) 43 (((138 + (9 * (u973 43 4))) + 1).toNatClampNeg) a1) 43 (((138 + (9 * (u973 43 4))) + 2).toNatClampNeg) a2) 43 (((138 + (9 * (u973 43 4))) + 3).toNatClampNeg) a3) 43 (((138 + (9 * (u973 43 4))) + 4).toNatClampNeg) ((mg_up (mg_up (mg_up (mg_up u973 43 (((138 + (9 * (u973 43 4))) + 0).toNatClampNeg) a0) 43 (((138 + (9 * (u973 43 4))) + 1).toNatClampNeg) a1) 43 (((138 + (9 * (u973 43 4))) + 2).toNatClampNeg) a2) 43 (((138 + (9 * (u973 43 4))) + 3).toNatClampNeg) a3) 43 0)) 43 (((138 + (9 * (u973 43 4))) + 5).toNatClampNeg) a4) 43 (((138 + (9 * (u973 43 4))) + 6).toNatClampNeg) a2) 43 (((138 + (9 * (u973 43 4))) + 7).toNatClampNeg) 0) 43 4) + 1)) fL fD, c, z)) rfl ?_
                              refine mg_Ev.iald (a := 43) (n := 690) (f := (mg_up (mg_up (mg_up (mg_up (mg_up (mg_up (mg_up (mg_up (mg_up u973 43 (((138 + (9 * (u973 43 4))) + 0).toNatClampNeg) a0) 43 (((138 + (9 * (u973 43 4))) + 1).toNatClampNeg) a1) 43 (((138 + (9 * (u973 43 4))) + 2).toNatClampNeg) a2) 43 (((138 + (9 * (u973 43 4))) + 3).toNatClampNeg) a3) 43 (((138 + (9 * (u973 43 4))) + 4).toNatClampNeg) ((mg_up (mg_up (mg_up (mg_up u973 43 (((138 + (9 * (u973 43 4))) + 0).toNatClampNeg) a0) 43 (((138 + (9 * (u973 43 4))) + 1).toNatClampNeg) a1) 43 (((138 + (9 * (u973 43 4))) + 2).toNatClampNeg) a2) 43 (((138 + (9 * (u973 43 4))) + 3).toNatClampNeg) a3) 43 0)) 43 (((138 + (9 * (u973 43 4))) + 5).toNatClampNeg) a4) 43 (((138 + (9 * (u973 43 4))) + 6).toNatClampNeg) a2) 43 (((138 + (9 * (u973 43 4))) + 7).toNatClampNeg) 0) 43 4 (((mg_up (mg_up (mg_up (mg_up (mg_up (mg_up (mg_up (mg_up u973 43 (((138 + (9 * (u973 43 4))) + 0).toNatClampNeg) a0) 43 (((138 + (9 * (u973 43 4))) + 1).toNatClampNeg) a1) 43 (((138 + (9 * (u973 43 4))) + 2).toNatClampNeg) a2) 43 (((138 + (9 * (u973 43 4))) + 3).toNatClampNeg) a3) 43 (((138 + (9 * (u973 43 4))) + 4).toNatClampNeg) ((mg_up (mg_up (mg_up (mg_up u973 43 (((138 + (9 * (u973 43 4))) + 0).toNatClampNeg) a0) 43 (((138 + (9 * (u973 43 4))) + 1).toNatClampNeg) a1) 43 (((138 + (9 * (u973 43 4))) + 2).toNatClampNeg) a2) 43 (((138 + (9 * (u973 43 4))) + 3).toNatClampNeg) a3) 43 0)) 43 (((138 + (9 * (u973 43 4))) + 5).toNatClampNeg) a4) 43 (((138 + (9 * (u973 43 4))) + 6).toNatClampNeg) a2) 43 (((138 + (9 * (u973 43 4))) + 7).toNatClampNeg) 0) 43 4) + 1)) 43) (j := 4) rfl (hpg_43 _ _ _) (by decide) (by decide) ?_
                              refine mg_Ev.go 2 (pc' := 216) (loc' := [some (.ref 43), some (.int a0), some (.int a1), some (.int a2), some (.int a3), some (.int a4), some (.int (138 + (9 * (u973 43 4))))]) (st' := [.int (((mg_up (mg_up (mg_up (mg_up (mg_up (mg_up (mg_up (mg_up (mg_up u973 43 (((138 + (9 * (u973 43 4))) + 0).toNatClampNeg) a0) 43 (((138 + (9 * (u973 43 4))) + 1).toNatClampNeg) a1) 43 (((138 + (9 * (u973 43 4))) + 2).toNatClampNeg) a2) 43 (((138 + (9 * (u973 43 4))) + 3).toNatClampNeg) a3) 43 (((138 + (9 * (u973 43 4))) + 4).toNatClampNeg) ((mg_up (mg_up (mg_up (mg_up u973 43 (((138 + (9 * (u973 43 4))) + 0).toNatClampNeg) a0) 43 (((138 + (9 * (u973 43 4))) + 1).toNatClampNeg) a1) 43 (((138 + (9 * (u973 43 4))) + 2).toNatClampNeg) a2) 43 (((138 + (9 * (u973 43 4))) + 3).toNatClampNeg) a3) 43 0)) 43 (((138 + (9 * (u973 43 4))) + 5).toNatClampNeg) a4) 43 (((138 + (9 * (u973 43 4))) + 6).toNatClampNeg) a2) 43 (((138 + (9 * (u973 43 4))) + 7).toNatClampNeg) 0) 43 4 (((mg_up (mg_up (mg_up (mg_up (mg_up (mg_up (mg_up (mg_up u973 43 (((138 + (9 * (u973 43 4))) + 0).toNatClampNeg) a0) 43 (((138 + (9 * (u973 43 4))) + 1).toNatClampNeg) a1) 43 (((138 + (9 * (u973 43 4))) + 2).toNatClampNeg) a2) 43 (((138 + (9 * (u973 43 4))) + 3).toNatClampNeg) a3) 43 (((138 + (9 * (u973 43 4))) + 4).toNatClampNeg) ((mg_up (mg_up (mg_up (mg_up u973 43 (((138 + (9 * (u973 43 4))) + 0).toNatClampNeg) a0) 43 (((138 + (9 * (u973 43 4))) + 1).toNatClampNeg) a1) 43 (((138 + (9 * (u973 43 4))) + 2).toNatClampNeg) a2) 43 (((138 + (9 * (u973 43 4))) + 3).toNatClampNeg) a3) 43 0)) 43 (((138 + (9 * (u973 43 4))) + 5).toNatClampNeg) a4) 43 (((138 + (9 * (u973 43 4))) + 6).toNatClampNeg) a2) 43 (((138 + (9 * (u973 43 4))) + 7).toNatClampNeg) 0) 43 4) + 1)) 43 4) - 1), .ref 43]) (w' := (hp (mg_up (mg_up (mg_up (mg_up (mg_up (mg_up (mg_up (mg_up (mg_up u973 43 (((138 + (9 * (u973 43 4))) + 0).toNatClampNeg) a0) 43 (((138 + (9 * (u973 43 4))) + 1).toNatClampNeg) a1) 43 (((138 + (9 * (u973 43 4))) + 2).toNatClampNeg) a2) 43 (((138 + (9 * (u973 43 4))) + 3).toNatClampNeg) a3) 43 (((138 + (9 * (u973 43 4))) + 4).toNatClampNeg) ((mg_up (mg_up (mg_up (mg_up u973 43 (((138 + (9 * (u973 43 4))) + 0).toNatClampNeg) a0) 43 (((138 + (9 * (u973 43 4))) + 1).toNatClampNeg) a1) 43 (((138 + (9 * (u973 43 4))) + 2).toNatClampNeg) a2) 43 (((138 + (9 * (u973 43 4))) + 3).toNatClampNeg) a3) 43 0)) 43 (((138 + (9 * (u973 43 4))) + 5).toNatClampNeg) a4) 43 (((138 + (9 * (u973 43 4))) + 6).toNatClampNeg) a2) 43 (((138 + (9 * (u973 43 4))) + 7).toNatClampNeg) 0) 43 4 (((mg_up (mg_up (mg_up (mg_up (mg_up (mg_up (mg_up (mg_up u973 43 (((138 + (9 * (u973 43 4))) + 0).toNatClampNeg) a0) 43 (((138 + (9 * (u973 43 4))) + 1).toNatClampNeg) a1) 43 (((138 + (9 * (u973 43 4))) + 2).toNatClampNeg) a2) 43 (((138 + (9 * (u973 43 4))) + 3).toNatClampNeg) a3) 43 (((138 + (9 * (u973 43 4))) + 4).toNatClampNeg) ((mg_up (mg_up (mg_up (mg_up u973 43 (((138 + (9 * (u973 43 4))) + 0).toNatClampNeg) a0) 43 (((138 + (9 * (u973 43 4))) + 1).toNatClampNeg) a1) 43 (((138 + (9 * (u973 43 4))) + 2).toNatClampNeg) a2) 43 (((138 + (9 * (u973 43 4))) + 3).toNatClampNeg) a3) 43 0)) 43 (((138 + (9 * (u973 43 4))) + 5).toNatClampNeg) a4) 43 (((138 + (9 * (u973 43 4))) + 6).toNatClampNeg) a2) 43 (((138 + (9 * (u973 43 4))) + 7).toNatClampNeg) 0) 43 4) + 1)) fL fD, c, z)) rfl ?_
                              obtain ⟨⟨v974, u975⟩, hf3093, h⟩ := Option.bind_eq_some_iff.mp h
                              try dsimp only at h
                              refine mg_Ev.call (y := 60) (as := [.ref 43, .int (((mg_up (mg_up (mg_up (mg_up (mg_up (mg_up (mg_up (mg_up (mg_up u973 43 (((138 + (9 * (u973 43 4))) + 0).toNatClampNeg) a0) 43 (((138 + (9 * (u973 43 4))) + 1).toNatClampNeg) a1) 43 (((138 + (9 * (u973 43 4))) + 2).toNatClampNeg) a2) 43 (((138 + (9 * (u973 43 4))) + 3).toNatClampNeg) a3) 43 (((138 + (9 * (u973 43 4))) + 4).toNatClampNeg) ((mg_up (mg_up (mg_up (mg_up u973 43 (((138 + (9 * (u973 43 4))) + 0).toNatClampNeg) a0) 43 (((138 + (9 * (u973 43 4))) + 1).toNatClampNeg) a1) 43 (((138 + (9 * (u973 43 4))) + 2).toNatClampNeg) a2) 43 (((138 + (9 * (u973 43 4))) + 3).toNatClampNeg) a3) 43 0)) 43 (((138 + (9 * (u973 43 4))) + 5).toNatClampNeg) a4) 43 (((138 + (9 * (u973 43 4))) + 6).toNatClampNeg) a2) 43 (((138 + (9 * (u973 43 4))) + 7).toNatClampNeg) 0) 43 4 (((mg_up (mg_up (mg_up (mg_up (mg_up (mg_up (mg_up (mg_up u973 43 (((138 + (9 * (u973 43 4))) + 0).toNatClampNeg) a0) 43 (((138 + (9 * (u973 43 4))) + 1).toNatClampNeg) a1) 43 (((138 + (9 * (u973 43 4))) + 2).toNatClampNeg) a2) 43 (((138 + (9 * (u973 43 4))) + 3).toNatClampNeg) a3) 43 (((138 + (9 * (u973 43 4))) + 4).toNatClampNeg) ((mg_up (mg_up (mg_up (mg_up u973 43 (((138 + (9 * (u973 43 4))) + 0).toNatClampNeg) a0) 43 (((138 + (9 * (u973 43 4))) + 1).toNatClampNeg) a1) 43 (((138 + (9 * (u973 43 4))) + 2).toNatClampNeg) a2) 43 (((138 + (9 * (u973 43 4))) + 3).toNatClampNeg) a3) 43 0)) 43 (((138 + (9 * (u973 43 4))) + 5).toNatClampNeg) a4) 43 (((138 + (9 * (u973 43 4))) + 6).toNatClampNeg) a2) 43 (((138 + (9 * (u973 43 4))) + 7).toNatClampNeg) 0) 43 4) + 1)) 43 4) - 1)]) (rest := []) (v := some (.int v974)) (w1 := (hp u975 fL fD, c, z)) rfl rfl (Nat.le_of_ble_eq_true rfl) ((ev_M_done hf3093).deep (by decide)) ?_
                              cases h
                              exact mg_Ev.fin rfl rfl rfl
    · rw [if_neg hc3072] at h
      refine mg_Ev.go 1 (pc' := 14) (loc' := [some (.ref 43), some (.int a0), some (.int a1), some (.int a2), some (.int a3), some (.int a4), none]) (st' := [.int a1]) (w' := (hp u fL fD, c, z)) rfl ?_
      obtain ⟨v977, hf3094, h⟩ := Option.bind_eq_some_iff.mp h
      refine mg_Ev.call (y := 65) (as := [.int a1]) (rest := []) (v := some (.int v977)) (w1 := (hp u fL fD, c, z)) rfl rfl (Nat.le_of_ble_eq_true rfl) ((ev_M_isCountry hf3094).deep (by decide)) ?_
      refine mg_Ev.br (P := v977 = 0) (t := 20) (nx := 26) (st' := []) rfl rfl rfl rfl (fun hc3095 => ?_) (fun hc3095 => ?_)
      · rw [if_pos hc3095] at h
        refine mg_Ev.go 2 (pc' := 22) (loc' := [some (.ref 43), some (.int a0), some (.int a1), some (.int a2), some (.int a3), some (.int a4), none]) (st' := [.int 1, .ref 43]) (w' := (hp u fL fD, c, z)) rfl ?_
        obtain ⟨⟨v978, u979⟩, hf3096, h⟩ := Option.bind_eq_some_iff.mp h
        try dsimp only at h
        refine mg_Ev.call (y := 59) (as := [.ref 43, .int 1]) (rest := []) (v := some (.int v978)) (w1 := (hp u979 fL fD, c, z)) rfl rfl (Nat.le_of_ble_eq_true rfl) ((ev_M_fails hf3096).deep (by decide)) ?_
        cases h
        exact mg_Ev.fin rfl rfl rfl
      · rw [if_neg hc3095] at h
        refine mg_Ev.go 3 (pc' := 31) (loc' := [some (.ref 43), some (.int a0), some (.int a1), some (.int a2), some (.int a3), some (.int a4), none]) (st' := [.int 9999, .int 1, .int a2]) (w' := (hp u fL fD, c, z)) rfl ?_
        obtain ⟨v981, hf3097, h⟩ := Option.bind_eq_some_iff.mp h
        refine mg_Ev.call (y := 58) (as := [.int a2, .int 1, .int 9999]) (rest := []) (v := some (.int v981)) (w1 := (hp u fL fD, c, z)) rfl rfl (Nat.le_of_ble_eq_true rfl) ((ev_M_in hf3097).deep (by decide)) ?_
        refine mg_Ev.br (P := v981 = 0) (t := 66) (nx := 37) (st' := []) rfl rfl rfl rfl (fun hc3098 => ?_) (fun hc3098 => ?_)
        · rw [if_pos hc3098] at h
          refine mg_Ev.go 2 (pc' := 68) (loc' := [some (.ref 43), some (.int a0), some (.int a1), some (.int a2), some (.int a3), some (.int a4), none]) (st' := [.int 2, .ref 43]) (w' := (hp u fL fD, c, z)) rfl ?_
          obtain ⟨⟨v982, u983⟩, hf3099, h⟩ := Option.bind_eq_some_iff.mp h
          try dsimp only at h
          refine mg_Ev.call (y := 59) (as := [.ref 43, .int 2]) (rest := []) (v := some (.int v982)) (w1 := (hp u983 fL fD, c, z)) rfl rfl (Nat.le_of_ble_eq_true rfl) ((ev_M_fails hf3099).deep (by decide)) ?_
          cases h
          exact mg_Ev.fin rfl rfl rfl
        · rw [if_neg hc3098] at h
          refine mg_Ev.go 3 (pc' := 43) (loc' := [some (.ref 43), some (.int a0), some (.int a1), some (.int a2), some (.int a3), some (.int a4), none]) (st' := [.int 1000, .int 0, .int a3]) (w' := (hp u fL fD, c, z)) rfl ?_
          obtain ⟨v985, hf3100, h⟩ := Option.bind_eq_some_iff.mp h
          refine mg_Ev.call (y := 58) (as := [.int a3, .int 0, .int 1000]) (rest := []) (v := some (.int v985)) (w1 := (hp u fL fD, c, z)) rfl rfl (Nat.le_of_ble_eq_true rfl) ((ev_M_in hf3100).deep (by decide)) ?_
          refine mg_Ev.br (P := v985 = 0) (t := 66) (nx := 49) (st' := []) rfl rfl rfl rfl (fun hc3101 => ?_) (fun hc3101 => ?_)
          · rw [if_pos hc3101] at h
            refine mg_Ev.go 2 (pc' := 68) (loc' := [some (.ref 43), some (.int a0), some (.int a1), some (.int a2), some (.int a3), some (.int a4), none]) (st' := [.int 2, .ref 43]) (w' := (hp u fL fD, c, z)) rfl ?_
            obtain ⟨⟨v986, u987⟩, hf3102, h⟩ := Option.bind_eq_some_iff.mp h
            try dsimp only at h
            refine mg_Ev.call (y := 59) (as := [.ref 43, .int 2]) (rest := []) (v := some (.int v986)) (w1 := (hp u987 fL fD, c, z)) rfl rfl (Nat.le_of_ble_eq_true rfl) ((ev_M_fails hf3102).deep (by decide)) ?_
            cases h
            exact mg_Ev.fin rfl rfl rfl
          · rw [if_neg hc3101] at h
            refine mg_Ev.go 4 (pc' := 56) (loc' := [some (.ref 43), some (.int a0), some (.int a1), some (.int a2), some (.int a3), some (.int a4), none]) (st' := [.int 0, .ref 44, .int a4]) (w' := (hp u fL fD, c, z)) rfl ?_
            refine mg_Ev.iald (a := 43) (n := 690) (f := u 43) (j := 0) rfl (hpg_43 _ _ _) (by decide) (by decide) ?_
            refine mg_Ev.go 1 (pc' := 60) (loc' := [some (.ref 43), some (.int a0), some (.int a1), some (.int a2), some (.int a3), some (.int a4), none]) (st' := [.int 999, .int (u 43 0), .int a4]) (w' := (hp u fL fD, c, z)) rfl ?_
            obtain ⟨v989, hf3103, h⟩ := Option.bind_eq_some_iff.mp h
            refine mg_Ev.call (y := 58) (as := [.int a4, .int (u 43 0), .int 999]) (rest := []) (v := some (.int v989)) (w1 := (hp u fL fD, c, z)) rfl rfl (Nat.le_of_ble_eq_true rfl) ((ev_M_in hf3103).deep (by decide)) ?_
            refine mg_Ev.br (P := v989 = 0) (t := 66) (nx := 72) (st' := []) rfl rfl rfl rfl (fun hc3104 => ?_) (fun hc3104 => ?_)
            · rw [if_pos hc3104] at h
              refine mg_Ev.go 2 (pc' := 68) (loc' := [some (.ref 43), some (.int a0), some (.int a1), some (.int a2), some (.int a3), some (.int a4), none]) (st' := [.int 2, .ref 43]) (w' := (hp u fL fD, c, z)) rfl ?_
              obtain ⟨⟨v990, u991⟩, hf3105, h⟩ := Option.bind_eq_some_iff.mp h
              try dsimp only at h
              refine mg_Ev.call (y := 59) (as := [.ref 43, .int 2]) (rest := []) (v := some (.int v990)) (w1 := (hp u991 fL fD, c, z)) rfl rfl (Nat.le_of_ble_eq_true rfl) ((ev_M_fails hf3105).deep (by decide)) ?_
              cases h
              exact mg_Ev.fin rfl rfl rfl
            · rw [if_neg hc3104] at h
              refine mg_Ev.go 3 (pc' := 77) (loc' := [some (.ref 43), some (.int a0), some (.int a1), some (.int a2), some (.int a3), some (.int a4), none]) (st' := [.int 4, .ref 44]) (w' := (hp u fL fD, c, z)) rfl ?_
              refine mg_Ev.iald (a := 43) (n := 690) (f := u 43) (j := 4) rfl (hpg_43 _ _ _) (by decide) (by decide) ?_
              refine mg_Ev.go 1 (pc' := 80) (loc' := [some (.ref 43), some (.int a0), some (.int a1), some (.int a2), some (.int a3), some (.int a4), none]) (st' := [.int 6, .int (u 43 4)]) (w' := (hp u fL fD, c, z)) rfl ?_
              refine mg_Ev.br (P := (u 43 4) = 6) (t := 83) (nx := 89) (st' := []) rfl rfl rfl rfl (fun hc3106 => ?_) (fun hc3106 => ?_)
              · rw [if_pos hc3106] at h
                refine mg_Ev.go 2 (pc' := 85) (loc' := [some (.ref 43), some (.int a0), some (.int a1), some (.int a2), some (.int a3), some (.int a4), none]) (st' := [.int 3, .ref 43]) (w' := (hp u fL fD, c, z)) rfl ?_
                obtain ⟨⟨v993, u994⟩, hf3107, h⟩ := Option.bind_eq_some_iff.mp h
                try dsimp only at h
                refine mg_Ev.call (y := 59) (as := [.ref 43, .int 3]) (rest := []) (v := some (.int v993)) (w1 := (hp u994 fL fD, c, z)) rfl rfl (Nat.le_of_ble_eq_true rfl) ((ev_M_fails hf3107).deep (by decide)) ?_
                cases h
                exact mg_Ev.fin rfl rfl rfl
              · rw [if_neg hc3106] at h
                refine mg_Ev.go 1 (pc' := 90) (loc' := [some (.ref 43), some (.int a0), some (.int a1), some (.int a2), some (.int a3), some (.int a4), none]) (st' := [.ref 43]) (w' := (hp u fL fD, c, z)) rfl ?_
                obtain ⟨u996, hf3108, h⟩ := Option.bind_eq_some_iff.mp h
                refine mg_Ev.call (y := 63) (as := [.ref 43]) (rest := []) (v := none) (w1 := (hp u996 fL fD, c, z)) rfl rfl (Nat.le_of_ble_eq_true rfl) ((ev_M_remembers hf3108).deep (by decide)) ?_
                refine mg_Ev.go 5 (pc' := 103) (loc' := [some (.ref 43), some (.int a0), some (.int a1), some (.int a2), some (.int a3), some (.int a4), none]) (st' := [.int 4, .ref 44, .int 9, .int 138]) (w' := (hp u996 fL fD, c, z)) rfl ?_
                refine mg_Ev.iald (a := 43) (n := 690) (f := u996 43) (j := 4) rfl (hpg_43 _ _ _) (by decide) (by decide) ?_
                refine mg_Ev.go 9 (pc' := 117) (loc' := [some (.ref 43), some (.int a0), some (.int a1), some (.int a2), some (.int a3), some (.int a4), some (.int (138 + (9 * (u996 43 4))))]) (st' := [.int a0, .int ((138 + (9 * (u996 43 4))) + 0), .ref 44]) (w' := (hp u996 fL fD, c, z)) rfl ?_
                by_cases hb3109 : ((138 + (9 * (u996 43 4))) + 0) < 0 ∨ 690 ≤ ((138 + (9 * (u996 43 4))) + 0).toNatClampNeg
                · rw [if_pos hb3109] at h
                  cases h
                · rw [if_neg hb3109] at h
                  refine mg_Ev.iast (a := 43) (n := 690) rfl (hpg_43 _ _ _) rfl hb3109 (hpa_43 _ _ _ _ _ _ _) ?_
                  refine mg_Ev.go 6 (pc' := 127) (loc' := [some (.ref 43), some (.int a0), some (.int a1), some (.int a2), some (.int a3), some (.int a4), some (.int (138 + (9 * (u996 43 4))))]) (st' := [.int a1, .int ((138 + (9 * (u996 43 4))) + 1), .ref 44]) (w' := (hp (mg_up u996 43 (((138 + (9 * (u996 43 4))) + 0).toNatClampNeg) a0) fL fD, c, z)) rfl ?_
                  by_cases hb3110 : ((138 + (9 * (u996 43 4))) + 1) < 0 ∨ 690 ≤ ((138 + (9 * (u996 43 4))) + 1).toNatClampNeg
                  · rw [if_pos hb3110] at h
                    cases h
                  · rw [if_neg hb3110] at h
                    refine mg_Ev.iast (a := 43) (n := 690) rfl (hpg_43 _ _ _) rfl hb3110 (hpa_43 _ _ _ _ _ _ _) ?_
                    refine mg_Ev.go 6 (pc' := 137) (loc' := [some (.ref 43), some (.int a0), some (.int a1), some (.int a2), some (.int a3), some (.int a4), some (.int (138 + (9 * (u996 43 4))))]) (st' := [.int a2, .int ((138 + (9 * (u996 43 4))) + 2), .ref 44]) (w' := (hp (mg_up (mg_up u996 43 (((138 + (9 * (u996 43 4))) + 0).toNatClampNeg) a0) 43 (((138 + (9 * (u996 43 4))) + 1).toNatClampNeg) a1) fL fD, c, z)) rfl ?_
                    by_cases hb3111 : ((138 + (9 * (u996 43 4))) + 2) < 0 ∨ 690 ≤ ((138 + (9 * (u996 43 4))) + 2).toNatClampNeg
                    · rw [if_pos hb3111] at h
                      cases h
                    · rw [if_neg hb3111] at h
                      refine mg_Ev.iast (a := 43) (n := 690) rfl (hpg_43 _ _ _) rfl hb3111 (hpa_43 _ _ _ _ _ _ _) ?_
                      refine mg_Ev.go 6 (pc' := 148) (loc' := [some (.ref 43), some (.int a0), some (.int a1), some (.int a2), some (.int a3), some (.int a4), some (.int (138 + (9 * (u996 43 4))))]) (st' := [.int a3, .int ((138 + (9 * (u996 43 4))) + 3), .ref 44]) (w' := (hp (mg_up (mg_up (mg_up u996 43 (((138 + (9 * (u996 43 4))) + 0).toNatClampNeg) a0) 43 (((138 + (9 * (u996 43 4))) + 1).toNatClampNeg) a1) 43 (((138 + (9 * (u996 43 4))) + 2).toNatClampNeg) a2) fL fD, c, z)) rfl ?_
                      by_cases hb3112 : ((138 + (9 * (u996 43 4))) + 3) < 0 ∨ 690 ≤ ((138 + (9 * (u996 43 4))) + 3).toNatClampNeg
                      · rw [if_pos hb3112] at h
                        cases h
                      · rw [if_neg hb3112] at h
                        refine mg_Ev.iast (a := 43) (n := 690) rfl (hpg_43 _ _ _) rfl hb3112 (hpa_43 _ _ _ _ _ _ _) ?_
                        refine mg_Ev.go 8 (pc' := 162) (loc' := [some (.ref 43), some (.int a0), some (.int a1), some (.int a2), some (.int a3), some (.int a4), some (.int (138 + (9 * (u996 43 4))))]) (st' := [.int 0, .ref 44, .int ((138 + (9 * (u996 43 4))) + 4), .ref 44]) (w' := (hp (mg_up (mg_up (mg_up (mg_up u996 43 (((138 + (9 * (u996 43 4))) + 0).toNatClampNeg) a0) 43 (((138 + (9 * (u996 43 4))) + 1).toNatClampNeg) a1) 43 (((138 + (9 * (u996 43 4))) + 2).toNatClampNeg) a2) 43 (((138 + (9 * (u996 43 4))) + 3).toNatClampNeg) a3) fL fD, c, z)) rfl ?_
                        refine mg_Ev.iald (a := 43) (n := 690) (f := (mg_up (mg_up (mg_up (mg_up u996 43 (((138 + (9 * (u996 43 4))) + 0).toNatClampNeg) a0) 43 (((138 + (9 * (u996 43 4))) + 1).toNatClampNeg) a1) 43 (((138 + (9 * (u996 43 4))) + 2).toNatClampNeg) a2) 43 (((138 + (9 * (u996 43 4))) + 3).toNatClampNeg) a3) 43) (j := 0) rfl (hpg_43 _ _ _) (by decide) (by decide) ?_
                        by_cases hb3113 : ((138 + (9 * (u996 43 4))) + 4) < 0 ∨ 690 ≤ ((138 + (9 * (u996 43 4))) + 4).toNatClampNeg
                        · rw [if_pos hb3113] at h
                          cases h
                        · rw [if_neg hb3113] at h
                          refine mg_Ev.iast (a := 43) (n := 690) rfl (hpg_43 _ _ _) rfl hb3113 (hpa_43 _ _ _ _ _ _ _) ?_
                          refine mg_Ev.go 6 (pc' := 174) (loc' := [some (.ref 43), some (.int a0), some (.int a1), some (.int a2), some (.int a3), some (.int a4), some (.int (138 + (9 * (u996 43 4))))]) (st' := [.int a4, .int ((138 + (9 * (u996 43 4))) + 5), .ref 44]) (w' := (hp (mg_up (mg_up (mg_up (mg_up (mg_up u996 43 (((138 + (9 * (u996 43 4))) + 0).toNatClampNeg) a0) 43 (((138 + (9 * (u996 43 4))) + 1).toNatClampNeg) a1) 43 (((138 + (9 * (u996 43 4))) + 2).toNatClampNeg) a2) 43 (((138 + (9 * (u996 43 4))) + 3).toNatClampNeg) a3) 43 (((138 + (9 * (u996 43 4))) + 4).toNatClampNeg) ((mg_up (mg_up (mg_up (mg_up u996 43 (((138 + (9 * (u996 43 4))) + 0).toNatClampNeg) a0) 43 (((138 + (9 * (u996 43 4))) + 1).toNatClampNeg) a1) 43 (((138 + (9 * (u996 43 4))) + 2).toNatClampNeg) a2) 43 (((138 + (9 * (u996 43 4))) + 3).toNatClampNeg) a3) 43 0)) fL fD, c, z)) rfl ?_
                          by_cases hb3114 : ((138 + (9 * (u996 43 4))) + 5) < 0 ∨ 690 ≤ ((138 + (9 * (u996 43 4))) + 5).toNatClampNeg
                          · rw [if_pos hb3114] at h
                            cases h
                          · rw [if_neg hb3114] at h
                            refine mg_Ev.iast (a := 43) (n := 690) rfl (hpg_43 _ _ _) rfl hb3114 (hpa_43 _ _ _ _ _ _ _) ?_
                            refine mg_Ev.go 6 (pc' := 185) (loc' := [some (.ref 43), some (.int a0), some (.int a1), some (.int a2), some (.int a3), some (.int a4), some (.int (138 + (9 * (u996 43 4))))]) (st' := [.int a2, .int ((138 + (9 * (u996 43 4))) + 6), .ref 44]) (w' := (hp (mg_up (mg_up (mg_up (mg_up (mg_up (mg_up u996 43 (((138 + (9 * (u996 43 4))) + 0).toNatClampNeg) a0) 43 (((138 + (9 * (u996 43 4))) + 1).toNatClampNeg) a1) 43 (((138 + (9 * (u996 43 4))) + 2).toNatClampNeg) a2) 43 (((138 + (9 * (u996 43 4))) + 3).toNatClampNeg) a3) 43 (((138 + (9 * (u996 43 4))) + 4).toNatClampNeg) ((mg_up (mg_up (mg_up (mg_up u996 43 (((138 + (9 * (u996 43 4))) + 0).toNatClampNeg) a0) 43 (((138 + (9 * (u996 43 4))) + 1).toNatClampNeg) a1) 43 (((138 + (9 * (u996 43 4))) + 2).toNatClampNeg) a2) 43 (((138 + (9 * (u996 43 4))) + 3).toNatClampNeg) a3) 43 0)) 43 (((138 + (9 * (u996 43 4))) + 5).toNatClampNeg) a4) fL fD, c, z)) rfl ?_
                            by_cases hb3115 : ((138 + (9 * (u996 43 4))) + 6) < 0 ∨ 690 ≤ ((138 + (9 * (u996 43 4))) + 6).toNatClampNeg
                            · rw [if_pos hb3115] at h
                              cases h
                            · rw [if_neg hb3115] at h
                              refine mg_Ev.iast (a := 43) (n := 690) rfl (hpg_43 _ _ _) rfl hb3115 (hpa_43 _ _ _ _ _ _ _) ?_
                              refine mg_Ev.go 6 (pc' := 196) (loc' := [some (.ref 43), some (.int a0), some (.int a1), some (.int a2), some (.int a3), some (.int a4), some (.int (138 + (9 * (u996 43 4))))]) (st' := [.int 0, .int ((138 + (9 * (u996 43 4))) + 7), .ref 44]) (w' := (hp (mg_up (mg_up (mg_up (mg_up (mg_up (mg_up (mg_up u996 43 (((138 + (9 * (u996 43 4))) + 0).toNatClampNeg) a0) 43 (((138 + (9 * (u996 43 4))) + 1).toNatClampNeg) a1) 43 (((138 + (9 * (u996 43 4))) + 2).toNatClampNeg) a2) 43 (((138 + (9 * (u996 43 4))) + 3).toNatClampNeg) a3) 43 (((138 + (9 * (u996 43 4))) + 4).toNatClampNeg) ((mg_up (mg_up (mg_up (mg_up u996 43 (((138 + (9 * (u996 43 4))) + 0).toNatClampNeg) a0) 43 (((138 + (9 * (u996 43 4))) + 1).toNatClampNeg) a1) 43 (((138 + (9 * (u996 43 4))) + 2).toNatClampNeg) a2) 43 (((138 + (9 * (u996 43 4))) + 3).toNatClampNeg) a3) 43 0)) 43 (((138 + (9 * (u996 43 4))) + 5).toNatClampNeg) a4) 43 (((138 + (9 * (u996 43 4))) + 6).toNatClampNeg) a2) fL fD, c, z)) rfl ?_
                              by_cases hb3116 : ((138 + (9 * (u996 43 4))) + 7) < 0 ∨ 690 ≤ ((138 + (9 * (u996 43 4))) + 7).toNatClampNeg
                              · rw [if_pos hb3116] at h
                                cases h
                              · rw [if_neg hb3116] at h
                                refine mg_Ev.iast (a := 43) (n := 690) rfl (hpg_43 _ _ _) rfl hb3116 (hpa_43 _ _ _ _ _ _ _) ?_
                                refine mg_Ev.go 4 (pc' := 203) (loc' := [some (.ref 43), some (.int a0), some (.int a1), some (.int a2), some (.int a3), some (.int a4), some (.int (138 + (9 * (u996 43 4))))]) (st' := [.int 4, .ref 44, .int 4, .ref 44]) (w' := (hp (mg_up (mg_up (mg_up (mg_up (mg_up (mg_up (mg_up (mg_up u996 43 (((138 + (9 * (u996 43 4))) + 0).toNatClampNeg) a0) 43 (((138 + (9 * (u996 43 4))) + 1).toNatClampNeg) a1) 43 (((138 + (9 * (u996 43 4))) + 2).toNatClampNeg) a2) 43 (((138 + (9 * (u996 43 4))) + 3).toNatClampNeg) a3) 43 (((138 + (9 * (u996 43 4))) + 4).toNatClampNeg) ((mg_up (mg_up (mg_up (mg_up u996 43 (((138 + (9 * (u996 43 4))) + 0).toNatClampNeg) a0) 43 (((138 + (9 * (u996 43 4))) + 1).toNatClampNeg) a1) 43 (((138 + (9 * (u996 43 4))) + 2).toNatClampNeg) a2) 43 (((138 + (9 * (u996 43 4))) + 3).toNatClampNeg) a3) 43 0)) 43 (((138 + (9 * (u996 43 4))) + 5).toNatClampNeg) a4) 43 (((138 + (9 * (u996 43 4))) + 6).toNatClampNeg) a2) 43 (((138 + (9 * (u996 43 4))) + 7).toNatClampNeg) 0) fL fD, c, z)) rfl ?_
                                refine mg_Ev.iald (a := 43) (n := 690) (f := (mg_up (mg_up (mg_up (mg_up (mg_up (mg_up (mg_up (mg_up u996 43 (((138 + (9 * (u996 43 4))) + 0).toNatClampNeg) a0) 43 (((138 + (9 * (u996 43 4))) + 1).toNatClampNeg) a1) 43 (((138 + (9 * (u996 43 4))) + 2).toNatClampNeg) a2) 43 (((138 + (9 * (u996 43 4))) + 3).toNatClampNeg) a3) 43 (((138 + (9 * (u996 43 4))) + 4).toNatClampNeg) ((mg_up (mg_up (mg_up (mg_up u996 43 (((138 + (9 * (u996 43 4))) + 0).toNatClampNeg) a0) 43 (((138 + (9 * (u996 43 4))) + 1).toNatClampNeg) a1) 43 (((138 + (9 * (u996 43 4))) + 2).toNatClampNeg) a2) 43 (((138 + (9 * (u996 43 4))) + 3).toNatClampNeg) a3) 43 0)) 43 (((138 + (9 * (u996 43 4))) + 5).toNatClampNeg) a4) 43 (((138 + (9 * (u996 43 4))) + 6).toNatClampNeg) a2) 43 (((138 + (9 * (u996 43 4))) + 7).toNatClampNeg) 0) 43) (j := 4) rfl (hpg_43 _ _ _) (by decide) (by decide) ?_
                                refine mg_Ev.go 2 (pc' := 206) (loc' := [some (.ref 43), some (.int a0), some (.int a1), some (.int a2), some (.int a3), some (.int a4), some (.int (138 + (9 * (u996 43 4))))]) (st' := [.int (((mg_up (mg_up (mg_up (mg_up (mg_up (mg_up (mg_up (mg_up u996 43 (((138 + (9 * (u996 43 4))) + 0).toNatClampNeg) a0) 43 (((138 + (9 * (u996 43 4))) + 1).toNatClampNeg) a1) 43 (((138 + (9 * (u996 43 4))) + 2).toNatClampNeg) a2) 43 (((138 + (9 * (u996 43 4))) + 3).toNatClampNeg) a3) 43 (((138 + (9 * (u996 43 4))) + 4).toNatClampNeg) ((mg_up (mg_up (mg_up (mg_up u996 43 (((138 + (9 * (u996 43 4))) + 0).toNatClampNeg) a0) 43 (((138 + (9 * (u996 43 4))) + 1).toNatClampNeg) a1) 43 (((138 + (9 * (u996 43 4))) + 2).toNatClampNeg) a2) 43 (((138 + (9 * (u996 43 4))) + 3).toNatClampNeg) a3) 43 0)) 43 (((138 + (9 * (u996 43 4))) + 5).toNatClampNeg) a4) 43 (((138 + (9 * (u996 43 4))) + 6).toNatClampNeg) a2) 43 (((138 + (9 * (u996 43 4))) + 7).toNatClampNeg) 0) 43 4) + 1), .int 4, .ref 44]) (w' := (hp (mg_up (mg_up (mg_up (mg_up (mg_up (mg_up (mg_up (mg_up u996 43 (((138 + (9 * (u996 43 4))) + 0).toNatClampNeg) a0) 43 (((138 + (9 * (u996 43 4))) + 1).toNatClampNeg) a1) 43 (((138 + (9 * (u996 43 4))) + 2).toNatClampNeg) a2) 43 (((138 + (9 * (u996 43 4))) + 3).toNatClampNeg) a3) 43 (((138 + (9 * (u996 43 4))) + 4).toNatClampNeg) ((mg_up (mg_up (mg_up (mg_up u996 43 (((138 + (9 * (u996 43 4))) + 0).toNatClampNeg) a0) 43 (((138 + (9 * (u996 43 4))) + 1).toNatClampNeg) a1) 43 (((138 + (9 * (u996 43 4))) + 2).toNatClampNeg) a2) 43 (((138 + (9 * (u996 43 4))) + 3).toNatClampNeg) a3) 43 0)) 43 (((138 + (9 * (u996 43 4))) + 5).toNatClampNeg) a4) 43 (((138 + (9 * (u996 43 4))) + 6).toNatClampNeg) a2) 43 (((138 + (9 * (u996 43 4))) + 7).toNatClampNeg) 0) fL fD, c, z)) rfl ?_
                                refine mg_Ev.iast (a := 43) (n := 690) (j := 4) rfl (hpg_43 _ _ _) (by decide) (by decide) (hpa_43 _ _ _ _ _ _ _) ?_
                                refine mg_Ev.go 4 (pc' := 213) (loc' := [some (.ref 43), some (.int a0), some (.int a1), some (.int a2), some (.int a3), some (.int a4), some (.int (138 + (9 * (u996 43 4))))]) (st' := [.int 4, .ref 44, .ref 43]) (w' := (hp (mg_up (mg_up (mg_up (mg_up (mg_up (mg_up (mg_up (mg_up (mg_up u996 43 (((138 + (9 * (u996 43 4))) + 0).toNatClampNeg) a0) 43 (((138 + (9 * (u996 43 4))) + 1).toNatClampNeg) a1) 43 (((138 + (9 * (u996 43 4))) + 2).toNatClampNeg) a2) 43 (((138 + (9 * (u996 43 4))) + 3).toNatClampNeg) a3) 43 (((138 + (9 * (u996 43 4))) + 4).toNatClampNeg) ((mg_up (mg_up (mg_up (mg_up u996 43 (((138 + (9 * (u996 43 4))) + 0).toNatClampNeg) a0) 43 (((138 + (9 * (u996 43 4))) + 1).toNatClampNeg) a1) 43 (((138 + (9 * (u996 43 4))) + 2).toNatClampNeg) a2) 43 (((138 + (9 * (u996 43 4))) + 3).toNatClampNeg) a3) 43 0)) 43 (((138 + (9 * (u996 43 4))) + 5).toNatClampNeg) a4) 43 (((138 + (9 * (u996 43 4))) + 6).toNatClampNeg) a2) 43 (((138 + (9 * (u996 43 4))) + 7).toNatClampNeg) 0) 43 4 (((mg_up (mg_up (mg_up (mg_up (mg_up (mg_up (mg_up (mg_up u996 43 (((138 + (9 * (u996 43 4))) + 0).toNatClampNeg) a0) 43 (((138 + (9 * (u996 43 4))) + 1).toNatClampNeg) a1) 43 (((138 + (9 * (u996 43 4))) + 2).toNatClampNeg) a2) 43 (((138 + (9 * (u996 43 4))) + 3).toNatClampNeg) a3) 43 (((138 + (9 * (u996 43 4))) + 4).toNatClampNeg) ((mg_up (mg_up (mg_up (mg_up u996 43 (((138 + (9 * (u996 43 4))) + 0).toNatClampNeg) a0) 43 (((138 + (9 * (u996 43 4))) + 1).toNatClampNeg) a1) 43 (((138 + (9 * (u996 43 4))) + 2).toNatClampNeg) a2) 43 (((138 + (9 * (u996 43 4))) + 3).toNatClampNeg) a3) 43 0)) 43 (((138 + (9 * (u996 43 4))) + 5).toNatClampNeg) a4) 43 (((138 + (9 * (u996 43 4))) + 6).toNatClampNeg) a2) 43 (((138 + (9 * (u996 43 4))) + 7).toNatClampNeg) 0) 43 4) + 1)) fL fD, c, z)) rfl ?_
                                refine mg_Ev.iald (a := 43) (n := 690) (f := (mg_up (mg_up (mg_up (mg_up (mg_up (mg_up (mg_up (mg_up (mg_up u996 43 (((138 + (9 * (u996 43 4))) + 0).toNatClampNeg) a0) 43 (((138 + (9 * (u996 43 4))) + 1).toNatClampNeg) a1) 43 (((138 + (9 * (u996 43 4))) + 2).toNatClampNeg) a2) 43 (((138 + (9 * (u996 43 4))) + 3).toNatClampNeg) a3) 43 (((138 + (9 * (u996 43 4))) + 4).toNatClampNeg) ((mg_up (mg_up (mg_up (mg_up u996 43 (((138 + (9 * (u996 43 4))) + 0).toNatClampNeg) a0) 43 (((138 + (9 * (u996 43 4))) + 1).toNatClampNeg) a1) 43 (((138 + (9 * (u996 43 4))) + 2).toNatClampNeg) a2) 43 (((138 + (9 * (u996 43 4))) + 3).toNatClampNeg) a3) 43 0)) 43 (((138 + (9 * (u996 43 4))) + 5).toNatClampNeg) a4) 43 (((138 + (9 * (u996 43 4))) + 6).toNatClampNeg) a2) 43 (((138 + (9 * (u996 43 4))) + 7).toNatClampNeg) 0) 43 4 (((mg_up (mg_up (mg_up (mg_up (mg_up (mg_up (mg_up (mg_up u996 43 (((138 + (9 * (u996 43 4))) + 0).toNatClampNeg) a0) 43 (((138 + (9 * (u996 43 4))) + 1).toNatClampNeg) a1) 43 (((138 + (9 * (u996 43 4))) + 2).toNatClampNeg) a2) 43 (((138 + (9 * (u996 43 4))) + 3).toNatClampNeg) a3) 43 (((138 + (9 * (u996 43 4))) + 4).toNatClampNeg) ((mg_up (mg_up (mg_up (mg_up u996 43 (((138 + (9 * (u996 43 4))) + 0).toNatClampNeg) a0) 43 (((138 + (9 * (u996 43 4))) + 1).toNatClampNeg) a1) 43 (((138 + (9 * (u996 43 4))) + 2).toNatClampNeg) a2) 43 (((138 + (9 * (u996 43 4))) + 3).toNatClampNeg) a3) 43 0)) 43 (((138 + (9 * (u996 43 4))) + 5).toNatClampNeg) a4) 43 (((138 + (9 * (u996 43 4))) + 6).toNatClampNeg) a2) 43 (((138 + (9 * (u996 43 4))) + 7).toNatClampNeg) 0) 43 4) + 1)) 43) (j := 4) rfl (hpg_43 _ _ _) (by decide) (by decide) ?_
                                refine mg_Ev.go 2 (pc' := 216) (loc' := [some (.ref 43), some (.int a0), some (.int a1), some (.int a2), some (.int a3), some (.int a4), some (.int (138 + (9 * (u996 43 4))))]) (st' := [.int (((mg_up (mg_up (mg_up (mg_up (mg_up (mg_up (mg_up (mg_up (mg_up u996 43 (((138 + (9 * (u996 43 4))) + 0).toNatClampNeg) a0) 43 (((138 + (9 * (u996 43 4))) + 1).toNatClampNeg) a1) 43 (((138 + (9 * (u996 43 4))) + 2).toNatClampNeg) a2) 43 (((138 + (9 * (u996 43 4))) + 3).toNatClampNeg) a3) 43 (((138 + (9 * (u996 43 4))) + 4).toNatClampNeg) ((mg_up (mg_up (mg_up (mg_up u996 43 (((138 + (9 * (u996 43 4))) + 0).toNatClampNeg) a0) 43 (((138 + (9 * (u996 43 4))) + 1).toNatClampNeg) a1) 43 (((138 + (9 * (u996 43 4))) + 2).toNatClampNeg) a2) 43 (((138 + (9 * (u996 43 4))) + 3).toNatClampNeg) a3) 43 0)) 43 (((138 + (9 * (u996 43 4))) + 5).toNatClampNeg) a4) 43 (((138 + (9 * (u996 43 4))) + 6).toNatClampNeg) a2) 43 (((138 + (9 * (u996 43 4))) + 7).toNatClampNeg) 0) 43 4 (((mg_up (mg_up (mg_up (mg_up (mg_up (mg_up (mg_up (mg_up u996 43 (((138 + (9 * (u996 43 4))) + 0).toNatClampNeg) a0) 43 (((138 + (9 * (u996 43 4))) + 1).toNatClampNeg) a1) 43 (((138 + (9 * (u996 43 4))) + 2).toNatClampNeg) a2) 43 (((138 + (9 * (u996 43 4))) + 3).toNatClampNeg) a3) 43 (((138 + (9 * (u996 43 4))) + 4).toNatClampNeg) ((mg_up (mg_up (mg_up (mg_up u996 43 (((138 + (9 * (u996 43 4))) + 0).toNatClampNeg) a0) 43 (((138 + (9 * (u996 43 4))) + 1).toNatClampNeg) a1) 43 (((138 + (9 * (u996 43 4))) + 2).toNatClampNeg) a2) 43 (((138 + (9 * (u996 43 4))) + 3).toNatClampNeg) a3) 43 0)) 43 (((138 + (9 * (u996 43 4))) + 5).toNatClampNeg) a4) 43 (((138 + (9 * (u996 43 4))) + 6).toNatClampNeg) a2) 43 (((138 + (9 * (u996 43 4))) + 7).toNatClampNeg) 0) 43 4) + 1)) 43 4) - 1), .ref 43]) (w' := (hp (mg_up (mg_up (mg_up (mg_up (mg_up (mg_up (mg_up (mg_up (mg_up u996 43 (((138 + (9 * (u996 43 4))) + 0).toNatClampNeg) a0) 43 (((138 + (9 * (u996 43 4))) + 1).toNatClampNeg) a1) 43 (((138 + (9 * (u996 43 4))) + 2).toNatClampNeg) a2) 43 (((138 + (9 * (u996 43 4))) + 3).toNatClampNeg) a3) 43 (((138 + (9 * (u996 43 4))) + 4).toNatClampNeg) ((mg_up (mg_up (mg_up (mg_up u996 43 (((138 + (9 * (u996 43 4))) + 0).toNatClampNeg) a0) 43 (((138 + (9 * (u996 43 4))) + 1).toNatClampNeg) a1) 43 (((138 + (9 * (u996 43 4))) + 2).toNatClampNeg) a2) 43 (((138 + (9 * (u996 43 4))) + 3).toNatClampNeg) a3) 43 0)) 43 (((138 + (9 * (u996 43 4))) + 5).toNatClampNeg) a4) 43 (((138 + (9 * (u996 43 4))) + 6).toNatClampNeg) a2) 43 (((138 + (9 * (u996 43 4))) + 7).toNatClampNeg) 0) 43 4 (((mg_up (mg_up (mg_up (mg_up (mg_up (mg_up (mg_up (mg_up u996 43 (((138 + (9 * (u996 43 4))) + 0).toNatClampNeg) a0) 43 (((138 + (9 * (u996 43 4))) + 1).toNatClampNeg) a1) 43 (((138 + (9 * (u996 43 4))) + 2).toNatClampNeg) a2) 43 (((138 + (9 * (u996 43 4))) + 3).toNatClampNeg) a3) 43 (((138 + (9 * (u996 43 4))) + 4).toNatClampNeg) ((mg_up (mg_up (mg_up (mg_up u996 43 (((138 + (9 * (u996 43 4))) + 0).toNatClampNeg) a0) 43 (((138 + (9 * (u996 43 4))) + 1).toNatClampNeg) a1) 43 (((138 + (9 * (u996 43 4))) + 2).toNatClampNeg) a2) 43 (((138 + (9 * (u996 43 4))) + 3).toNatClampNeg) a3) 43 0)) 43 (((138 + (9 * (u996 43 4))) + 5).toNatClampNeg) a4) 43 (((138 + (9 * (u996 43 4))) + 6).toNatClampNeg) a2) 43 (((138 + (9 * (u996 43 4))) + 7).toNatClampNeg) 0) 43 4) + 1)) fL fD, c, z)) rfl ?_
                                obtain ⟨⟨v997, u998⟩, hf3117, h⟩ := Option.bind_eq_some_iff.mp h
                                try dsimp only at h
                                refine mg_Ev.call (y := 60) (as := [.ref 43, .int (((mg_up (mg_up (mg_up (mg_up (mg_up (mg_up (mg_up (mg_up (mg_up u996 43 (((138 + (9 * (u996 43 4))) + 0).toNatClampNeg) a0) 43 (((138 + (9 * (u996 43 4))) + 1).toNatClampNeg) a1) 43 (((138 + (9 * (u996 43 4))) + 2).toNatClampNeg) a2) 43 (((138 + (9 * (u996 43 4))) + 3).toNatClampNeg) a3) 43 (((138 + (9 * (u996 43 4))) + 4).toNatClampNeg) ((mg_up (mg_up (mg_up (mg_up u996 43 (((138 + (9 * (u996 43 4))) + 0).toNatClampNeg) a0) 43 (((138 + (9 * (u996 43 4))) + 1).toNatClampNeg) a1) 43 (((138 + (9 * (u996 43 4))) + 2).toNatClampNeg) a2) 43 (((138 + (9 * (u996 43 4))) + 3).toNatClampNeg) a3) 43 0)) 43 (((138 + (9 * (u996 43 4))) + 5).toNatClampNeg) a4) 43 (((138 + (9 * (u996 43 4))) + 6).toNatClampNeg) a2) 43 (((138 + (9 * (u996 43 4))) + 7).toNatClampNeg) 0) 43 4 (((mg_up (mg_up (mg_up (mg_up (mg_up (mg_up (mg_up (mg_up u996 43 (((138 + (9 * (u996 43 4))) + 0).toNatClampNeg) a0) 43 (((138 + (9 * (u996 43 4))) + 1).toNatClampNeg) a1) 43 (((138 + (9 * (u996 43 4))) + 2).toNatClampNeg) a2) 43 (((138 + (9 * (u996 43 4))) + 3).toNatClampNeg) a3) 43 (((138 + (9 * (u996 43 4))) + 4).toNatClampNeg) ((mg_up (mg_up (mg_up (mg_up u996 43 (((138 + (9 * (u996 43 4))) + 0).toNatClampNeg) a0) 43 (((138 + (9 * (u996 43 4))) + 1).toNatClampNeg) a1) 43 (((138 + (9 * (u996 43 4))) + 2).toNatClampNeg) a2) 43 (((138 + (9 * (u996 43 4))) + 3).toNatClampNeg) a3) 43 0)) 43 (((138 + (9 * (u996 43 4))) + 5).toNatClampNeg) a4) 43 (((138 + (9 * (u996 43 4))) + 6).toNatClampNeg) a2) 43 (((138 + (9 * (u996 43 4))) + 7).toNatClampNeg) 0) 43 4) + 1)) 43 4) - 1)]) (rest := []) (v := some (.int v997)) (w1 := (hp u998 fL fD, c, z)) rfl rfl (Nat.le_of_ble_eq_true rfl) ((ev_M_done hf3117).deep (by decide)) ?_
                                cases h
                                exact mg_Ev.fin rfl rfl rfl

def M_quotaTold (a0 : Int32) (a1 : Int32) (u : mg_Rg) : Option (Int32 × mg_Rg) :=
  (M_in a0 0 ((u 43 4) - 1) u).bind fun v1000 =>
  if v1000 = 0 then
  (M_fails 1 u).bind fun p1003 => match p1003 with
    | (v1001, u1002) =>
      some (v1001, u1002)
  else
  (M_in a1 0 8 u).bind fun v1004 =>
    if v1004 = 0 then
    (M_fails 2 u).bind fun p1007 => match p1007 with
      | (v1005, u1006) =>
        some (v1005, u1006)
    else
    if 7 ≤ a1 then
      if a1 = 8 then
        (M_quotaAt a0 7 u).bind fun v1008 =>
          (M_done v1008 u).bind fun p1011 => match p1011 with
          | (v1009, u1010) =>
            some (v1009, u1010)
        else
        (M_quotaAt a0 2 u).bind fun v1012 =>
          (M_quotaAt a0 6 u).bind fun v1013 =>
          (M_quotaAt a0 7 u).bind fun v1014 =>
          (M_done ((v1012 - v1013) - v1014) u).bind fun p1017 => match p1017 with
          | (v1015, u1016) =>
            some (v1015, u1016)
      else
      (M_quotaAt a0 a1 u).bind fun v1018 =>
        (M_done v1018 u).bind fun p1021 => match p1021 with
        | (v1019, u1020) =>
          some (v1019, u1020)

set_option maxRecDepth 10000 in
set_option maxHeartbeats 4000000 in
theorem ev_M_quotaTold {sc : mg_Sc} {c z : Nat} {fL : Nat → Int64} {fD : Nat → UInt64} {a0 : Int32} {a1 : Int32} {u : mg_Rg} {p : Int32 × mg_Rg} (h : M_quotaTold a0 a1 u = some p) : mg_Ev sc 1 83 0 (mg_entry 83 [.ref 43, .int a0, .int a1]) [] (hp u fL fD, c, z) (.inl (some (.int p.1)), (hp p.2 fL fD, c, z)) := by
  unfold M_quotaTold at h
  show mg_Ev _ _ _ 0 [some (.ref 43), some (.int a0), some (.int a1)] [] _ _
  refine mg_Ev.go 5 (pc' := 7) (loc' := [some (.ref 43), some (.int a0), some (.int a1)]) (st' := [.int 4, .ref 44, .int 0, .int a0]) (w' := (hp u fL fD, c, z)) rfl ?_
  refine mg_Ev.iald (a := 43) (n := 690) (f := u 43) (j := 4) rfl (hpg_43 _ _ _) (by decide) (by decide) ?_
  refine mg_Ev.go 2 (pc' := 10) (loc' := [some (.ref 43), some (.int a0), some (.int a1)]) (st' := [.int ((u 43 4) - 1), .int 0, .int a0]) (w' := (hp u fL fD, c, z)) rfl ?_
  obtain ⟨v1000, hf3118, h⟩ := Option.bind_eq_some_iff.mp h
  refine mg_Ev.call (y := 58) (as := [.int a0, .int 0, .int ((u 43 4) - 1)]) (rest := []) (v := some (.int v1000)) (w1 := (hp u fL fD, c, z)) rfl rfl (Nat.le_of_ble_eq_true rfl) ((ev_M_in hf3118).deep (by decide)) ?_
  refine mg_Ev.br (P := v1000 = 0) (t := 16) (nx := 22) (st' := []) rfl rfl rfl rfl (fun hc3119 => ?_) (fun hc3119 => ?_)
  · rw [if_pos hc3119] at h
    refine mg_Ev.go 2 (pc' := 18) (loc' := [some (.ref 43), some (.int a0), some (.int a1)]) (st' := [.int 1, .ref 43]) (w' := (hp u fL fD, c, z)) rfl ?_
    obtain ⟨⟨v1001, u1002⟩, hf3120, h⟩ := Option.bind_eq_some_iff.mp h
    try dsimp only at h
    refine mg_Ev.call (y := 59) (as := [.ref 43, .int 1]) (rest := []) (v := some (.int v1001)) (w1 := (hp u1002 fL fD, c, z)) rfl rfl (Nat.le_of_ble_eq_true rfl) ((ev_M_fails hf3120).deep (by decide)) ?_
    cases h
    exact mg_Ev.fin rfl rfl rfl
  · rw [if_neg hc3119] at h
    refine mg_Ev.go 3 (pc' := 26) (loc' := [some (.ref 43), some (.int a0), some (.int a1)]) (st' := [.int 8, .int 0, .int a1]) (w' := (hp u fL fD, c, z)) rfl ?_
    obtain ⟨v1004, hf3121, h⟩ := Option.bind_eq_some_iff.mp h
    refine mg_Ev.call (y := 58) (as := [.int a1, .int 0, .int 8]) (rest := []) (v := some (.int v1004)) (w1 := (hp u fL fD, c, z)) rfl rfl (Nat.le_of_ble_eq_true rfl) ((ev_M_in hf3121).deep (by decide)) ?_
    refine mg_Ev.br (P := v1004 = 0) (t := 32) (nx := 38) (st' := []) rfl rfl rfl rfl (fun hc3122 => ?_) (fun hc3122 => ?_)
    · rw [if_pos hc3122] at h
      refine mg_Ev.go 2 (pc' := 34) (loc' := [some (.ref 43), some (.int a0), some (.int a1)]) (st' := [.int 2, .ref 43]) (w' := (hp u fL fD, c, z)) rfl ?_
      obtain ⟨⟨v1005, u1006⟩, hf3123, h⟩ := Option.bind_eq_some_iff.mp h
      try dsimp only at h
      refine mg_Ev.call (y := 59) (as := [.ref 43, .int 2]) (rest := []) (v := some (.int v1005)) (w1 := (hp u1006 fL fD, c, z)) rfl rfl (Nat.le_of_ble_eq_true rfl) ((ev_M_fails hf3123).deep (by decide)) ?_
      cases h
      exact mg_Ev.fin rfl rfl rfl
    · rw [if_neg hc3122] at h
      refine mg_Ev.go 2 (pc' := 41) (loc' := [some (.ref 43), some (.int a0), some (.int a1)]) (st' := [.int 7, .int a1]) (w' := (hp u fL fD, c, z)) rfl ?_
      refine mg_Ev.br (P := 7 ≤ a1) (t := 55) (nx := 44) (st' := []) rfl rfl rfl rfl (fun hc3124 => ?_) (fun hc3124 => ?_)
      · rw [if_pos hc3124] at h
        refine mg_Ev.go 3 (pc' := 59) (loc' := [some (.ref 43), some (.int a0), some (.int a1)]) (st' := [.int 8, .int a1, .ref 43]) (w' := (hp u fL fD, c, z)) rfl ?_
        refine mg_Ev.br (P := a1 = 8) (t := 62) (nx := 72) (st' := [.ref 43]) rfl rfl rfl rfl (fun hc3125 => ?_) (fun hc3125 => ?_)
        · rw [if_pos hc3125] at h
          refine mg_Ev.go 3 (pc' := 66) (loc' := [some (.ref 43), some (.int a0), some (.int a1)]) (st' := [.int 7, .int a0, .ref 43, .ref 43]) (w' := (hp u fL fD, c, z)) rfl ?_
          obtain ⟨v1008, hf3126, h⟩ := Option.bind_eq_some_iff.mp h
          refine mg_Ev.call (y := 67) (as := [.ref 43, .int a0, .int 7]) (rest := [.ref 43]) (v := some (.int v1008)) (w1 := (hp u fL fD, c, z)) rfl rfl (Nat.le_of_ble_eq_true rfl) ((ev_M_quotaAt hf3126).deep (by decide)) ?_
          refine mg_Ev.go 1 (pc' := 94) (loc' := [some (.ref 43), some (.int a0), some (.int a1)]) (st' := [.int v1008, .ref 43]) (w' := (hp u fL fD, c, z)) rfl ?_
          obtain ⟨⟨v1009, u1010⟩, hf3127, h⟩ := Option.bind_eq_some_iff.mp h
          try dsimp only at h
          refine mg_Ev.call (y := 60) (as := [.ref 43, .int v1008]) (rest := []) (v := some (.int v1009)) (w1 := (hp u1010 fL fD, c, z)) rfl rfl (Nat.le_of_ble_eq_true rfl) ((ev_M_done hf3127).deep (by decide)) ?_
          cases h
          exact mg_Ev.fin rfl rfl rfl
        · rw [if_neg hc3125] at h
          refine mg_Ev.go 3 (pc' := 75) (loc' := [some (.ref 43), some (.int a0), some (.int a1)]) (st' := [.int 2, .int a0, .ref 43, .ref 43]) (w' := (hp u fL fD, c, z)) rfl ?_
          obtain ⟨v1012, hf3128, h⟩ := Option.bind_eq_some_iff.mp h
          refine mg_Ev.call (y := 67) (as := [.ref 43, .int a0, .int 2]) (rest := [.ref 43]) (v := some (.int v1012)) (w1 := (hp u fL fD, c, z)) rfl rfl (Nat.le_of_ble_eq_true rfl) ((ev_M_quotaAt hf3128).deep (by decide)) ?_
          refine mg_Ev.go 3 (pc' := 82) (loc' := [some (.ref 43), some (.int a0), some (.int a1)]) (st' := [.int 6, .int a0, .ref 43, .int v1012, .ref 43]) (w' := (hp u fL fD, c, z)) rfl ?_
          obtain ⟨v1013, hf3129, h⟩ := Option.bind_eq_some_iff.mp h
          refine mg_Ev.call (y := 67) (as := [.ref 43, .int a0, .int 6]) (rest := [.int v1012, .ref 43]) (v := some (.int v1013)) (w1 := (hp u fL fD, c, z)) rfl rfl (Nat.le_of_ble_eq_true rfl) ((ev_M_quotaAt hf3129).deep (by decide)) ?_
          refine mg_Ev.go 4 (pc' := 90) (loc' := [some (.ref 43), some (.int a0), some (.int a1)]) (st' := [.int 7, .int a0, .ref 43, .int (v1012 - v1013), .ref 43]) (w' := (hp u fL fD, c, z)) rfl ?_
          obtain ⟨v1014, hf3130, h⟩ := Option.bind_eq_some_iff.mp h
          refine mg_Ev.call (y := 67) (as := [.ref 43, .int a0, .int 7]) (rest := [.int (v1012 - v1013), .ref 43]) (v := some (.int v1014)) (w1 := (hp u fL fD, c, z)) rfl rfl (Nat.le_of_ble_eq_true rfl) ((ev_M_quotaAt hf3130).deep (by decide)) ?_
          refine mg_Ev.go 1 (pc' := 94) (loc' := [some (.ref 43), some (.int a0), some (.int a1)]) (st' := [.int ((v1012 - v1013) - v1014), .ref 43]) (w' := (hp u fL fD, c, z)) rfl ?_
          obtain ⟨⟨v1015, u1016⟩, hf3131, h⟩ := Option.bind_eq_some_iff.mp h
          try dsimp only at h
          refine mg_Ev.call (y := 60) (as := [.ref 43, .int ((v1012 - v1013) - v1014)]) (rest := []) (v := some (.int v1015)) (w1 := (hp u1016 fL fD, c, z)) rfl rfl (Nat.le_of_ble_eq_true rfl) ((ev_M_done hf3131).deep (by decide)) ?_
          cases h
          exact mg_Ev.fin rfl rfl rfl
      · rw [if_neg hc3124] at h
        refine mg_Ev.go 4 (pc' := 48) (loc' := [some (.ref 43), some (.int a0), some (.int a1)]) (st' := [.int a1, .int a0, .ref 43, .ref 43]) (w' := (hp u fL fD, c, z)) rfl ?_
        obtain ⟨v1018, hf3132, h⟩ := Option.bind_eq_some_iff.mp h
        refine mg_Ev.call (y := 67) (as := [.ref 43, .int a0, .int a1]) (rest := [.ref 43]) (v := some (.int v1018)) (w1 := (hp u fL fD, c, z)) rfl rfl (Nat.le_of_ble_eq_true rfl) ((ev_M_quotaAt hf3132).deep (by decide)) ?_
        obtain ⟨⟨v1019, u1020⟩, hf3133, h⟩ := Option.bind_eq_some_iff.mp h
        try dsimp only at h
        refine mg_Ev.call (y := 60) (as := [.ref 43, .int v1018]) (rest := []) (v := some (.int v1019)) (w1 := (hp u1020 fL fD, c, z)) rfl rfl (Nat.le_of_ble_eq_true rfl) ((ev_M_done hf3133).deep (by decide)) ?_
        cases h
        exact mg_Ev.fin rfl rfl rfl

def M_set (a0 : Int32) (a1 : Int32) (u : mg_Rg) : Option (Int32 × mg_Rg) :=
  if a0 = 0 then
  (M_in a1 30 100 u).bind fun v1022 =>
    if v1022 = 0 then
    (M_fails 1 u).bind fun p1025 => match p1025 with
      | (v1023, u1024) =>
        some (v1023, u1024)
    else
    (M_remembers u).bind fun u1026 =>
      if (10 + a0) < 0 ∨ 690 ≤ (10 + a0).toNatClampNeg then none else
      if (10 + a0) < 0 ∨ 690 ≤ (10 + a0).toNatClampNeg then none else
      (M_done (u1026 43 ((10 + a0).toNatClampNeg)) (mg_up u1026 43 ((10 + a0).toNatClampNeg) a1)).bind fun p1029 => match p1029 with
      | (v1027, u1028) =>
        some (v1027, u1028)
  else
  if a0 = 1 then
    (M_in a1 0 99 u).bind fun v1030 =>
      if v1030 = 0 then
      (M_fails 1 u).bind fun p1033 => match p1033 with
        | (v1031, u1032) =>
          some (v1031, u1032)
      else
      (M_remembers u).bind fun u1034 =>
        if (10 + a0) < 0 ∨ 690 ≤ (10 + a0).toNatClampNeg then none else
        if (10 + a0) < 0 ∨ 690 ≤ (10 + a0).toNatClampNeg then none else
        (M_done (u1034 43 ((10 + a0).toNatClampNeg)) (mg_up u1034 43 ((10 + a0).toNatClampNeg) a1)).bind fun p1037 => match p1037 with
        | (v1035, u1036) =>
          some (v1035, u1036)
    else
    if a0 = 2 then
      (M_in a1 0 99999 u).bind fun v1038 =>
        if v1038 = 0 then
        (M_fails 1 u).bind fun p1041 => match p1041 with
          | (v1039, u1040) =>
            some (v1039, u1040)
        else
        (M_remembers u).bind fun u1042 =>
          if (10 + a0) < 0 ∨ 690 ≤ (10 + a0).toNatClampNeg then none else
          if (10 + a0) < 0 ∨ 690 ≤ (10 + a0).toNatClampNeg then none else
          (M_done (u1042 43 ((10 + a0).toNatClampNeg)) (mg_up u1042 43 ((10 + a0).toNatClampNeg) a1)).bind fun p1045 => match p1045 with
          | (v1043, u1044) =>
            some (v1043, u1044)
      else
      (M_fails 1 u).bind fun p1048 => match p1048 with
        | (v1046, u1047) =>
          some (v1046, u1047)

set_option maxRecDepth 10000 in
set_option maxHeartbeats 4000000 in
theorem ev_M_set {sc : mg_Sc} {c z : Nat} {fL : Nat → Int64} {fD : Nat → UInt64} {a0 : Int32} {a1 : Int32} {u : mg_Rg} {p : Int32 × mg_Rg} (h : M_set a0 a1 u = some p) : mg_Ev sc 3 84 0 (mg_entry 84 [.ref 43, .int a0, .int a1]) [] (hp u fL fD, c, z) (.inl (some (.int p.1)), (hp p.2 fL fD, c, z)) := by
  unfold M_set at h
  show mg_Ev _ _ _ 0 [some (.ref 43), some (.int a0), some (.int a1), none, none] [] _ _
  refine mg_Ev.go 1 (pc' := 1) (loc' := [some (.ref 43), some (.int a0), some (.int a1), none, none]) (st' := [.int a0]) (w' := (hp u fL fD, c, z)) rfl ?_
  refine mg_Ev.br (P := a0 = 0) (t := 4) (nx := 15) (st' := []) rfl rfl rfl rfl (fun hc3134 => ?_) (fun hc3134 => ?_)
  · rw [if_pos hc3134] at h
    refine mg_Ev.go 3 (pc' := 9) (loc' := [some (.ref 43), some (.int a0), some (.int a1), none, none]) (st' := [.int 100, .int 30, .int a1]) (w' := (hp u fL fD, c, z)) rfl ?_
    obtain ⟨v1022, hf3135, h⟩ := Option.bind_eq_some_iff.mp h
    refine mg_Ev.call (y := 58) (as := [.int a1, .int 30, .int 100]) (rest := []) (v := some (.int v1022)) (w1 := (hp u fL fD, c, z)) rfl rfl (Nat.le_of_ble_eq_true rfl) ((ev_M_in hf3135).deep (by decide)) ?_
    refine mg_Ev.go 3 (pc' := 52) (loc' := [some (.ref 43), some (.int a0), some (.int a1), some (.int v1022), none]) (st' := [.int v1022]) (w' := (hp u fL fD, c, z)) rfl ?_
    refine mg_Ev.br (P := v1022 = 0) (t := 55) (nx := 61) (st' := []) rfl rfl rfl rfl (fun hc3136 => ?_) (fun hc3136 => ?_)
    · rw [if_pos hc3136] at h
      refine mg_Ev.go 2 (pc' := 57) (loc' := [some (.ref 43), some (.int a0), some (.int a1), some (.int v1022), none]) (st' := [.int 1, .ref 43]) (w' := (hp u fL fD, c, z)) rfl ?_
      obtain ⟨⟨v1023, u1024⟩, hf3137, h⟩ := Option.bind_eq_some_iff.mp h
      try dsimp only at h
      refine mg_Ev.call (y := 59) (as := [.ref 43, .int 1]) (rest := []) (v := some (.int v1023)) (w1 := (hp u1024 fL fD, c, z)) rfl rfl (Nat.le_of_ble_eq_true rfl) ((ev_M_fails hf3137).deep (by decide)) ?_
      cases h
      exact mg_Ev.fin rfl rfl rfl
    · rw [if_neg hc3136] at h
      refine mg_Ev.go 1 (pc' := 62) (loc' := [some (.ref 43), some (.int a0), some (.int a1), some (.int v1022), none]) (st' := [.ref 43]) (w' := (hp u fL fD, c, z)) rfl ?_
      obtain ⟨u1026, hf3138, h⟩ := Option.bind_eq_some_iff.mp h
      refine mg_Ev.call (y := 63) (as := [.ref 43]) (rest := []) (v := none) (w1 := (hp u1026 fL fD, c, z)) rfl rfl (Nat.le_of_ble_eq_true rfl) ((ev_M_remembers hf3138).deep (by decide)) ?_
      refine mg_Ev.go 5 (pc' := 73) (loc' := [some (.ref 43), some (.int a0), some (.int a1), some (.int v1022), none]) (st' := [.int (10 + a0), .ref 44]) (w' := (hp u1026 fL fD, c, z)) rfl ?_
      by_cases hb3139 : (10 + a0) < 0 ∨ 690 ≤ (10 + a0).toNatClampNeg
      · rw [if_pos hb3139] at h
        cases h
      · rw [if_neg hb3139] at h
        refine mg_Ev.iald (a := 43) (n := 690) (f := u1026 43) rfl (hpg_43 _ _ _) rfl hb3139 ?_
        refine mg_Ev.go 7 (pc' := 85) (loc' := [some (.ref 43), some (.int a0), some (.int a1), some (.int v1022), some (.int (u1026 43 ((10 + a0).toNatClampNeg)))]) (st' := [.int a1, .int (10 + a0), .ref 44]) (w' := (hp u1026 fL fD, c, z)) rfl ?_
        by_cases hb3140 : (10 + a0) < 0 ∨ 690 ≤ (10 + a0).toNatClampNeg
        · rw [if_pos hb3140] at h
          cases h
        · rw [if_neg hb3140] at h
          refine mg_Ev.iast (a := 43) (n := 690) rfl (hpg_43 _ _ _) rfl hb3140 (hpa_43 _ _ _ _ _ _ _) ?_
          refine mg_Ev.go 2 (pc' := 89) (loc' := [some (.ref 43), some (.int a0), some (.int a1), some (.int v1022), some (.int (u1026 43 ((10 + a0).toNatClampNeg)))]) (st' := [.int (u1026 43 ((10 + a0).toNatClampNeg)), .ref 43]) (w' := (hp (mg_up u1026 43 ((10 + a0).toNatClampNeg) a1) fL fD, c, z)) rfl ?_
          obtain ⟨⟨v1027, u1028⟩, hf3141, h⟩ := Option.bind_eq_some_iff.mp h
          try dsimp only at h
          refine mg_Ev.call (y := 60) (as := [.ref 43, .int (u1026 43 ((10 + a0).toNatClampNeg))]) (rest := []) (v := some (.int v1027)) (w1 := (hp u1028 fL fD, c, z)) rfl rfl (Nat.le_of_ble_eq_true rfl) ((ev_M_done hf3141).deep (by decide)) ?_
          cases h
          exact mg_Ev.fin rfl rfl rfl
  · rw [if_neg hc3134] at h
    refine mg_Ev.go 2 (pc' := 17) (loc' := [some (.ref 43), some (.int a0), some (.int a1), none, none]) (st' := [.int 1, .int a0]) (w' := (hp u fL fD, c, z)) rfl ?_
    refine mg_Ev.br (P := a0 = 1) (t := 20) (nx := 30) (st' := []) rfl rfl rfl rfl (fun hc3142 => ?_) (fun hc3142 => ?_)
    · rw [if_pos hc3142] at h
      refine mg_Ev.go 3 (pc' := 24) (loc' := [some (.ref 43), some (.int a0), some (.int a1), none, none]) (st' := [.int 99, .int 0, .int a1]) (w' := (hp u fL fD, c, z)) rfl ?_
      obtain ⟨v1030, hf3143, h⟩ := Option.bind_eq_some_iff.mp h
      refine mg_Ev.call (y := 58) (as := [.int a1, .int 0, .int 99]) (rest := []) (v := some (.int v1030)) (w1 := (hp u fL fD, c, z)) rfl rfl (Nat.le_of_ble_eq_true rfl) ((ev_M_in hf3143).deep (by decide)) ?_
      refine mg_Ev.go 3 (pc' := 52) (loc' := [some (.ref 43), some (.int a0), some (.int a1), some (.int v1030), none]) (st' := [.int v1030]) (w' := (hp u fL fD, c, z)) rfl ?_
      refine mg_Ev.br (P := v1030 = 0) (t := 55) (nx := 61) (st' := []) rfl rfl rfl rfl (fun hc3144 => ?_) (fun hc3144 => ?_)
      · rw [if_pos hc3144] at h
        refine mg_Ev.go 2 (pc' := 57) (loc' := [some (.ref 43), some (.int a0), some (.int a1), some (.int v1030), none]) (st' := [.int 1, .ref 43]) (w' := (hp u fL fD, c, z)) rfl ?_
        obtain ⟨⟨v1031, u1032⟩, hf3145, h⟩ := Option.bind_eq_some_iff.mp h
        try dsimp only at h
        refine mg_Ev.call (y := 59) (as := [.ref 43, .int 1]) (rest := []) (v := some (.int v1031)) (w1 := (hp u1032 fL fD, c, z)) rfl rfl (Nat.le_of_ble_eq_true rfl) ((ev_M_fails hf3145).deep (by decide)) ?_
        cases h
        exact mg_Ev.fin rfl rfl rfl
      · rw [if_neg hc3144] at h
        refine mg_Ev.go 1 (pc' := 62) (loc' := [some (.ref 43), some (.int a0), some (.int a1), some (.int v1030), none]) (st' := [.ref 43]) (w' := (hp u fL fD, c, z)) rfl ?_
        obtain ⟨u1034, hf3146, h⟩ := Option.bind_eq_some_iff.mp h
        refine mg_Ev.call (y := 63) (as := [.ref 43]) (rest := []) (v := none) (w1 := (hp u1034 fL fD, c, z)) rfl rfl (Nat.le_of_ble_eq_true rfl) ((ev_M_remembers hf3146).deep (by decide)) ?_
        refine mg_Ev.go 5 (pc' := 73) (loc' := [some (.ref 43), some (.int a0), some (.int a1), some (.int v1030), none]) (st' := [.int (10 + a0), .ref 44]) (w' := (hp u1034 fL fD, c, z)) rfl ?_
        by_cases hb3147 : (10 + a0) < 0 ∨ 690 ≤ (10 + a0).toNatClampNeg
        · rw [if_pos hb3147] at h
          cases h
        · rw [if_neg hb3147] at h
          refine mg_Ev.iald (a := 43) (n := 690) (f := u1034 43) rfl (hpg_43 _ _ _) rfl hb3147 ?_
          refine mg_Ev.go 7 (pc' := 85) (loc' := [some (.ref 43), some (.int a0), some (.int a1), some (.int v1030), some (.int (u1034 43 ((10 + a0).toNatClampNeg)))]) (st' := [.int a1, .int (10 + a0), .ref 44]) (w' := (hp u1034 fL fD, c, z)) rfl ?_
          by_cases hb3148 : (10 + a0) < 0 ∨ 690 ≤ (10 + a0).toNatClampNeg
          · rw [if_pos hb3148] at h
            cases h
          · rw [if_neg hb3148] at h
            refine mg_Ev.iast (a := 43) (n := 690) rfl (hpg_43 _ _ _) rfl hb3148 (hpa_43 _ _ _ _ _ _ _) ?_
            refine mg_Ev.go 2 (pc' := 89) (loc' := [some (.ref 43), some (.int a0), some (.int a1), some (.int v1030), some (.int (u1034 43 ((10 + a0).toNatClampNeg)))]) (st' := [.int (u1034 43 ((10 + a0).toNatClampNeg)), .ref 43]) (w' := (hp (mg_up u1034 43 ((10 + a0).toNatClampNeg) a1) fL fD, c, z)) rfl ?_
            obtain ⟨⟨v1035, u1036⟩, hf3149, h⟩ := Option.bind_eq_some_iff.mp h
            try dsimp only at h
            refine mg_Ev.call (y := 60) (as := [.ref 43, .int (u1034 43 ((10 + a0).toNatClampNeg))]) (rest := []) (v := some (.int v1035)) (w1 := (hp u1036 fL fD, c, z)) rfl rfl (Nat.le_of_ble_eq_true rfl) ((ev_M_done hf3149).deep (by decide)) ?_
            cases h
            exact mg_Ev.fin rfl rfl rfl
    · rw [if_neg hc3142] at h
      refine mg_Ev.go 2 (pc' := 32) (loc' := [some (.ref 43), some (.int a0), some (.int a1), none, none]) (st' := [.int 2, .int a0]) (w' := (hp u fL fD, c, z)) rfl ?_
      refine mg_Ev.br (P := a0 = 2) (t := 35) (nx := 49) (st' := []) rfl rfl rfl rfl (fun hc3150 => ?_) (fun hc3150 => ?_)
      · rw [if_pos hc3150] at h
        refine mg_Ev.go 3 (pc' := 39) (loc' := [some (.ref 43), some (.int a0), some (.int a1), none, none]) (st' := [.int 99999, .int 0, .int a1]) (w' := (hp u fL fD, c, z)) rfl ?_
        obtain ⟨v1038, hf3151, h⟩ := Option.bind_eq_some_iff.mp h
        refine mg_Ev.call (y := 58) (as := [.int a1, .int 0, .int 99999]) (rest := []) (v := some (.int v1038)) (w1 := (hp u fL fD, c, z)) rfl rfl (Nat.le_of_ble_eq_true rfl) ((ev_M_in hf3151).deep (by decide)) ?_
        refine mg_Ev.br (P := v1038 = 0) (t := 49) (nx := 45) (st' := []) rfl rfl rfl rfl (fun hc3152 => ?_) (fun hc3152 => ?_)
        · rw [if_pos hc3152] at h
          refine mg_Ev.go 3 (pc' := 52) (loc' := [some (.ref 43), some (.int a0), some (.int a1), some (.int 0), none]) (st' := [.int 0]) (w' := (hp u fL fD, c, z)) rfl ?_
          refine mg_Ev.br (P := (0 : Int32) = 0) (t := 55) (nx := 61) (st' := []) rfl rfl rfl rfl (fun _ => ?_) (fun q => absurd (by decide) q)
          refine mg_Ev.go 2 (pc' := 57) (loc' := [some (.ref 43), some (.int a0), some (.int a1), some (.int 0), none]) (st' := [.int 1, .ref 43]) (w' := (hp u fL fD, c, z)) rfl ?_
          obtain ⟨⟨v1039, u1040⟩, hf3154, h⟩ := Option.bind_eq_some_iff.mp h
          try dsimp only at h
          refine mg_Ev.call (y := 59) (as := [.ref 43, .int 1]) (rest := []) (v := some (.int v1039)) (w1 := (hp u1040 fL fD, c, z)) rfl rfl (Nat.le_of_ble_eq_true rfl) ((ev_M_fails hf3154).deep (by decide)) ?_
          cases h
          exact mg_Ev.fin rfl rfl rfl
        · rw [if_neg hc3152] at h
          refine mg_Ev.go 4 (pc' := 52) (loc' := [some (.ref 43), some (.int a0), some (.int a1), some (.int 1), none]) (st' := [.int 1]) (w' := (hp u fL fD, c, z)) rfl ?_
          refine mg_Ev.br (P := (1 : Int32) = 0) (t := 55) (nx := 61) (st' := []) rfl rfl rfl rfl (fun q => absurd q (by decide)) (fun _ => ?_)
          refine mg_Ev.go 1 (pc' := 62) (loc' := [some (.ref 43), some (.int a0), some (.int a1), some (.int 1), none]) (st' := [.ref 43]) (w' := (hp u fL fD, c, z)) rfl ?_
          obtain ⟨u1042, hf3156, h⟩ := Option.bind_eq_some_iff.mp h
          refine mg_Ev.call (y := 63) (as := [.ref 43]) (rest := []) (v := none) (w1 := (hp u1042 fL fD, c, z)) rfl rfl (Nat.le_of_ble_eq_true rfl) ((ev_M_remembers hf3156).deep (by decide)) ?_
          refine mg_Ev.go 5 (pc' := 73) (loc' := [some (.ref 43), some (.int a0), some (.int a1), some (.int 1), none]) (st' := [.int (10 + a0), .ref 44]) (w' := (hp u1042 fL fD, c, z)) rfl ?_
          by_cases hb3157 : (10 + a0) < 0 ∨ 690 ≤ (10 + a0).toNatClampNeg
          · rw [if_pos hb3157] at h
            cases h
          · rw [if_neg hb3157] at h
            refine mg_Ev.iald (a := 43) (n := 690) (f := u1042 43) rfl (hpg_43 _ _ _) rfl hb3157 ?_
            refine mg_Ev.go 7 (pc' := 85) (loc' := [some (.ref 43), some (.int a0), some (.int a1), some (.int 1), some (.int (u1042 43 ((10 + a0).toNatClampNeg)))]) (st' := [.int a1, .int (10 + a0), .ref 44]) (w' := (hp u1042 fL fD, c, z)) rfl ?_
            by_cases hb3158 : (10 + a0) < 0 ∨ 690 ≤ (10 + a0).toNatClampNeg
            · rw [if_pos hb3158] at h
              cases h
            · rw [if_neg hb3158] at h
              refine mg_Ev.iast (a := 43) (n := 690) rfl (hpg_43 _ _ _) rfl hb3158 (hpa_43 _ _ _ _ _ _ _) ?_
              refine mg_Ev.go 2 (pc' := 89) (loc' := [some (.ref 43), some (.int a0), some (.int a1), some (.int 1), some (.int (u1042 43 ((10 + a0).toNatClampNeg)))]) (st' := [.int (u1042 43 ((10 + a0).toNatClampNeg)), .ref 43]) (w' := (hp (mg_up u1042 43 ((10 + a0).toNatClampNeg) a1) fL fD, c, z)) rfl ?_
              obtain ⟨⟨v1043, u1044⟩, hf3159, h⟩ := Option.bind_eq_some_iff.mp h
              try dsimp only at h
              refine mg_Ev.call (y := 60) (as := [.ref 43, .int (u1042 43 ((10 + a0).toNatClampNeg))]) (rest := []) (v := some (.int v1043)) (w1 := (hp u1044 fL fD, c, z)) rfl rfl (Nat.le_of_ble_eq_true rfl) ((ev_M_done hf3159).deep (by decide)) ?_
              cases h
              exact mg_Ev.fin rfl rfl rfl
      · rw [if_neg hc3150] at h
        refine mg_Ev.go 3 (pc' := 52) (loc' := [some (.ref 43), some (.int a0), some (.int a1), some (.int 0), none]) (st' := [.int 0]) (w' := (hp u fL fD, c, z)) rfl ?_
        refine mg_Ev.br (P := (0 : Int32) = 0) (t := 55) (nx := 61) (st' := []) rfl rfl rfl rfl (fun _ => ?_) (fun q => absurd (by decide) q)
        refine mg_Ev.go 2 (pc' := 57) (loc' := [some (.ref 43), some (.int a0), some (.int a1), some (.int 0), none]) (st' := [.int 1, .ref 43]) (w' := (hp u fL fD, c, z)) rfl ?_
        obtain ⟨⟨v1046, u1047⟩, hf3161, h⟩ := Option.bind_eq_some_iff.mp h
        try dsimp only at h
        refine mg_Ev.call (y := 59) (as := [.ref 43, .int 1]) (rest := []) (v := some (.int v1046)) (w1 := (hp u1047 fL fD, c, z)) rfl rfl (Nat.le_of_ble_eq_true rfl) ((ev_M_fails hf3161).deep (by decide)) ?_
        cases h
        exact mg_Ev.fin rfl rfl rfl

def M_meets (a0 : Int32) (a1 : Int32) (a2 : Int32) (u : mg_Rg) : Option (Int32) :=
  if a1 = 0 then
  some 1
  else
  if a0 = 1 then
    some 1
    else
    if a0 = 2 then
      if a1 = 2 then
        if (u 43 12) < a2 then
          some 0
          else
          some 1
        else
        some 0
      else
      some 0

set_option maxRecDepth 10000 in
set_option maxHeartbeats 4000000 in
theorem ev_M_meets {sc : mg_Sc} {c z : Nat} {fL : Nat → Int64} {fD : Nat → UInt64} {a0 : Int32} {a1 : Int32} {a2 : Int32} {u : mg_Rg} {v : Int32} (h : M_meets a0 a1 a2 u = some v) : mg_Ev sc 0 85 0 (mg_entry 85 [.ref 43, .int a0, .int a1, .int a2]) [] (hp u fL fD, c, z) (.inl (some (.int v)), (hp u fL fD, c, z)) := by
  unfold M_meets at h
  show mg_Ev _ _ _ 0 [some (.ref 43), some (.int a0), some (.int a1), some (.int a2)] [] _ _
  refine mg_Ev.go 1 (pc' := 1) (loc' := [some (.ref 43), some (.int a0), some (.int a1), some (.int a2)]) (st' := [.int a1]) (w' := (hp u fL fD, c, z)) rfl ?_
  refine mg_Ev.br (P := a1 = 0) (t := 30) (nx := 4) (st' := []) rfl rfl rfl rfl (fun hc3162 => ?_) (fun hc3162 => ?_)
  · rw [if_pos hc3162] at h
    refine mg_Ev.go 2 (pc' := 35) (loc' := [some (.ref 43), some (.int a0), some (.int a1), some (.int a2)]) (st' := [.int 1]) (w' := (hp u fL fD, c, z)) rfl ?_
    cases h
    exact mg_Ev.fin rfl rfl rfl
  · rw [if_neg hc3162] at h
    refine mg_Ev.go 2 (pc' := 6) (loc' := [some (.ref 43), some (.int a0), some (.int a1), some (.int a2)]) (st' := [.int 1, .int a0]) (w' := (hp u fL fD, c, z)) rfl ?_
    refine mg_Ev.br (P := a0 = 1) (t := 30) (nx := 9) (st' := []) rfl rfl rfl rfl (fun hc3163 => ?_) (fun hc3163 => ?_)
    · rw [if_pos hc3163] at h
      refine mg_Ev.go 2 (pc' := 35) (loc' := [some (.ref 43), some (.int a0), some (.int a1), some (.int a2)]) (st' := [.int 1]) (w' := (hp u fL fD, c, z)) rfl ?_
      cases h
      exact mg_Ev.fin rfl rfl rfl
    · rw [if_neg hc3163] at h
      refine mg_Ev.go 2 (pc' := 11) (loc' := [some (.ref 43), some (.int a0), some (.int a1), some (.int a2)]) (st' := [.int 2, .int a0]) (w' := (hp u fL fD, c, z)) rfl ?_
      refine mg_Ev.br (P := a0 = 2) (t := 14) (nx := 34) (st' := []) rfl rfl rfl rfl (fun hc3164 => ?_) (fun hc3164 => ?_)
      · rw [if_pos hc3164] at h
        refine mg_Ev.go 2 (pc' := 16) (loc' := [some (.ref 43), some (.int a0), some (.int a1), some (.int a2)]) (st' := [.int 2, .int a1]) (w' := (hp u fL fD, c, z)) rfl ?_
        refine mg_Ev.br (P := a1 = 2) (t := 19) (nx := 34) (st' := []) rfl rfl rfl rfl (fun hc3165 => ?_) (fun hc3165 => ?_)
        · rw [if_pos hc3165] at h
          refine mg_Ev.go 4 (pc' := 26) (loc' := [some (.ref 43), some (.int a0), some (.int a1), some (.int a2)]) (st' := [.int 12, .ref 44, .int a2]) (w' := (hp u fL fD, c, z)) rfl ?_
          refine mg_Ev.iald (a := 43) (n := 690) (f := u 43) (j := 12) rfl (hpg_43 _ _ _) (by decide) (by decide) ?_
          refine mg_Ev.br (P := (u 43 12) < a2) (t := 34) (nx := 30) (st' := []) rfl rfl rfl rfl (fun hc3166 => ?_) (fun hc3166 => ?_)
          · rw [if_pos hc3166] at h
            refine mg_Ev.go 1 (pc' := 35) (loc' := [some (.ref 43), some (.int a0), some (.int a1), some (.int a2)]) (st' := [.int 0]) (w' := (hp u fL fD, c, z)) rfl ?_
            cases h
            exact mg_Ev.fin rfl rfl rfl
          · rw [if_neg hc3166] at h
            refine mg_Ev.go 2 (pc' := 35) (loc' := [some (.ref 43), some (.int a0), some (.int a1), some (.int a2)]) (st' := [.int 1]) (w' := (hp u fL fD, c, z)) rfl ?_
            cases h
            exact mg_Ev.fin rfl rfl rfl
        · rw [if_neg hc3165] at h
          refine mg_Ev.go 1 (pc' := 35) (loc' := [some (.ref 43), some (.int a0), some (.int a1), some (.int a2)]) (st' := [.int 0]) (w' := (hp u fL fD, c, z)) rfl ?_
          cases h
          exact mg_Ev.fin rfl rfl rfl
      · rw [if_neg hc3164] at h
        refine mg_Ev.go 1 (pc' := 35) (loc' := [some (.ref 43), some (.int a0), some (.int a1), some (.int a2)]) (st' := [.int 0]) (w' := (hp u fL fD, c, z)) rfl ?_
        cases h
        exact mg_Ev.fin rfl rfl rfl

