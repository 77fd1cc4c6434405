def M_rate (a0 : Int32) (a1 : Int32) (u : mg_Rg) : Option (Int32 × mg_Rg) :=
  (M_isHead a0 u).bind fun v854 =>
  if v854 = 0 then
  (M_fails 1 u).bind fun p857 => match p857 with
    | (v855, u856) =>
      some (v855, u856)
  else
  (M_in a1 (-1) 1000 u).bind fun v858 =>
    if v858 = 0 then
    (M_fails 2 u).bind fun p861 => match p861 with
      | (v859, u860) =>
        some (v859, u860)
    else
    (M_remembers u).bind fun u862 =>
      (M_headAt a0 2 u862).bind fun v863 =>
      if ((20 + (3 * a0)) + 2) < 0 ∨ 690 ≤ ((20 + (3 * a0)) + 2).toNatClampNeg then none else
      (M_done v863 (mg_up u862 43 (((20 + (3 * a0)) + 2).toNatClampNeg) a1)).bind fun p866 => match p866 with
      | (v864, u865) =>
        some (v864, u865)

set_option maxRecDepth 10000 in
set_option maxHeartbeats 4000000 in
theorem ev_M_rate {sc : mg_Sc} {c z : Nat} {fL : Nat → Int64} {fD : Nat → UInt64} {a0 : Int32} {a1 : Int32} {u : mg_Rg} {p : Int32 × mg_Rg} (h : M_rate a0 a1 u = some p) : mg_Ev sc 3 76 0 (mg_entry 76 [.ref 43, .int a0, .int a1]) [] (hp u fL fD, c, z) (.inl (some (.int p.1)), (hp p.2 fL fD, c, z)) := by
  unfold M_rate at h
  show mg_Ev _ _ _ 0 [some (.ref 43), some (.int a0), some (.int a1), none] [] _ _
  refine mg_Ev.go 2 (pc' := 2) (loc' := [some (.ref 43), some (.int a0), some (.int a1), none]) (st' := [.int a0, .ref 43]) (w' := (hp u fL fD, c, z)) rfl ?_
  obtain ⟨v854, hf2987, h⟩ := Option.bind_eq_some_iff.mp h
  refine mg_Ev.call (y := 64) (as := [.ref 43, .int a0]) (rest := []) (v := some (.int v854)) (w1 := (hp u fL fD, c, z)) rfl rfl (Nat.le_of_ble_eq_true rfl) ((ev_M_isHead hf2987).deep (by decide)) ?_
  refine mg_Ev.br (P := v854 = 0) (t := 8) (nx := 14) (st' := []) rfl rfl rfl rfl (fun hc2988 => ?_) (fun hc2988 => ?_)
  · rw [if_pos hc2988] at h
    refine mg_Ev.go 2 (pc' := 10) (loc' := [some (.ref 43), some (.int a0), some (.int a1), none]) (st' := [.int 1, .ref 43]) (w' := (hp u fL fD, c, z)) rfl ?_
    obtain ⟨⟨v855, u856⟩, hf2989, h⟩ := Option.bind_eq_some_iff.mp h
    try dsimp only at h
    refine mg_Ev.call (y := 59) (as := [.ref 43, .int 1]) (rest := []) (v := some (.int v855)) (w1 := (hp u856 fL fD, c, z)) rfl rfl (Nat.le_of_ble_eq_true rfl) ((ev_M_fails hf2989).deep (by decide)) ?_
    cases h
    exact mg_Ev.fin rfl rfl rfl
  · rw [if_neg hc2988] at h
    refine mg_Ev.go 3 (pc' := 19) (loc' := [some (.ref 43), some (.int a0), some (.int a1), none]) (st' := [.int 1000, .int (-1), .int a1]) (w' := (hp u fL fD, c, z)) rfl ?_
    obtain ⟨v858, hf2990, h⟩ := Option.bind_eq_some_iff.mp h
    refine mg_Ev.call (y := 58) (as := [.int a1, .int (-1), .int 1000]) (rest := []) (v := some (.int v858)) (w1 := (hp u fL fD, c, z)) rfl rfl (Nat.le_of_ble_eq_true rfl) ((ev_M_in hf2990).deep (by decide)) ?_
    refine mg_Ev.br (P := v858 = 0) (t := 25) (nx := 31) (st' := []) rfl rfl rfl rfl (fun hc2991 => ?_) (fun hc2991 => ?_)
    · rw [if_pos hc2991] at h
      refine mg_Ev.go 2 (pc' := 27) (loc' := [some (.ref 43), some (.int a0), some (.int a1), none]) (st' := [.int 2, .ref 43]) (w' := (hp u fL fD, c, z)) rfl ?_
      obtain ⟨⟨v859, u860⟩, hf2992, h⟩ := Option.bind_eq_some_iff.mp h
      try dsimp only at h
      refine mg_Ev.call (y := 59) (as := [.ref 43, .int 2]) (rest := []) (v := some (.int v859)) (w1 := (hp u860 fL fD, c, z)) rfl rfl (Nat.le_of_ble_eq_true rfl) ((ev_M_fails hf2992).deep (by decide)) ?_
      cases h
      exact mg_Ev.fin rfl rfl rfl
    · rw [if_neg hc2991] at h
      refine mg_Ev.go 1 (pc' := 32) (loc' := [some (.ref 43), some (.int a0), some (.int a1), none]) (st' := [.ref 43]) (w' := (hp u fL fD, c, z)) rfl ?_
      obtain ⟨u862, hf2993, h⟩ := Option.bind_eq_some_iff.mp h
      refine mg_Ev.call (y := 63) (as := [.ref 43]) (rest := []) (v := none) (w1 := (hp u862 fL fD, c, z)) rfl rfl (Nat.le_of_ble_eq_true rfl) ((ev_M_remembers hf2993).deep (by decide)) ?_
      refine mg_Ev.go 3 (pc' := 38) (loc' := [some (.ref 43), some (.int a0), some (.int a1), none]) (st' := [.int 2, .int a0, .ref 43]) (w' := (hp u862 fL fD, c, z)) rfl ?_
      obtain ⟨v863, hf2994, h⟩ := Option.bind_eq_some_iff.mp h
      refine mg_Ev.call (y := 66) (as := [.ref 43, .int a0, .int 2]) (rest := []) (v := some (.int v863)) (w1 := (hp u862 fL fD, c, z)) rfl rfl (Nat.le_of_ble_eq_true rfl) ((ev_M_headAt hf2994).deep (by decide)) ?_
      refine mg_Ev.go 10 (pc' := 54) (loc' := [some (.ref 43), some (.int a0), some (.int a1), some (.int v863)]) (st' := [.int ((20 + (3 * a0)) + 2), .ref 44]) (w' := (hp u862 fL fD, c, z)) rfl ?_
      refine mg_Ev.go 1 (pc' := 55) (loc' := [some (.ref 43), some (.int a0), some (.int a1), some (.int v863)]) (st' := [.int a1, .int ((20 + (3 * a0)) + 2), .ref 44]) (w' := (hp u862 fL fD, c, z)) rfl ?_
      by_cases hb2995 : ((20 + (3 * a0)) + 2) < 0 ∨ 690 ≤ ((20 + (3 * a0)) + 2).toNatClampNeg
      · rw [if_pos hb2995] at h
        cases h
      · rw [if_neg hb2995] at h
        refine mg_Ev.iast (a := 43) (n := 690) rfl (hpg_43 _ _ _) rfl hb2995 (hpa_43 _ _ _ _ _ _ _) ?_
        refine mg_Ev.go 2 (pc' := 58) (loc' := [some (.ref 43), some (.int a0), some (.int a1), some (.int v863)]) (st' := [.int v863, .ref 43]) (w' := (hp (mg_up u862 43 (((20 + (3 * a0)) + 2).toNatClampNeg) a1) fL fD, c, z)) rfl ?_
        obtain ⟨⟨v864, u865⟩, hf2996, h⟩ := Option.bind_eq_some_iff.mp h
        try dsimp only at h
        refine mg_Ev.call (y := 60) (as := [.ref 43, .int v863]) (rest := []) (v := some (.int v864)) (w1 := (hp u865 fL fD, c, z)) rfl rfl (Nat.le_of_ble_eq_true rfl) ((ev_M_done hf2996).deep (by decide)) ?_
        cases h
        exact mg_Ev.fin rfl rfl rfl

def M_told (a0 : Int32) (a1 : Int32) (u : mg_Rg) : Option (Int32 × mg_Rg) :=
  (M_isHead a0 u).bind fun v867 =>
  if v867 = 0 then
  (M_fails 1 u).bind fun p870 => match p870 with
    | (v868, u869) =>
      some (v868, u869)
  else
  (M_in a1 0 6 u).bind fun v871 =>
    if v871 = 0 then
    (M_fails 2 u).bind fun p874 => match p874 with
      | (v872, u873) =>
        some (v872, u873)
    else
    if 3 ≤ a1 then
      if a1 = 3 then
        (M_rateAt a0 u).bind fun v875 =>
          (M_done v875 u).bind fun p878 => match p878 with
          | (v876, u877) =>
            some (v876, u877)
        else
        if a1 = 4 then
          (M_children a0 u).bind fun v879 =>
            (M_done v879 u).bind fun p882 => match p882 with
            | (v880, u881) =>
              some (v880, u881)
          else
          if a1 = 5 then
            (M_lengthOf a0 u).bind fun v883 =>
              (M_done v883 u).bind fun p886 => match p886 with
              | (v884, u885) =>
                some (v884, u885)
            else
            (M_codeOf a0 u).bind fun v887 =>
              (M_done v887 u).bind fun p890 => match p890 with
              | (v888, u889) =>
                some (v888, u889)
      else
      (M_headAt a0 a1 u).bind fun v891 =>
        (M_done v891 u).bind fun p894 => match p894 with
        | (v892, u893) =>
          some (v892, u893)

set_option maxRecDepth 10000 in
set_option maxHeartbeats 4000000 in
theorem ev_M_told {sc : mg_Sc} {c z : Nat} {fL : Nat → Int64} {fD : Nat → UInt64} {a0 : Int32} {a1 : Int32} {u : mg_Rg} {p : Int32 × mg_Rg} (h : M_told a0 a1 u = some p) : mg_Ev sc 2 77 0 (mg_entry 77 [.ref 43, .int a0, .int a1]) [] (hp u fL fD, c, z) (.inl (some (.int p.1)), (hp p.2 fL fD, c, z)) := by
  unfold M_told at h
  show mg_Ev _ _ _ 0 [some (.ref 43), some (.int a0), some (.int a1)] [] _ _
  refine mg_Ev.go 2 (pc' := 2) (loc' := [some (.ref 43), some (.int a0), some (.int a1)]) (st' := [.int a0, .ref 43]) (w' := (hp u fL fD, c, z)) rfl ?_
  obtain ⟨v867, hf2997, h⟩ := Option.bind_eq_some_iff.mp h
  refine mg_Ev.call (y := 64) (as := [.ref 43, .int a0]) (rest := []) (v := some (.int v867)) (w1 := (hp u fL fD, c, z)) rfl rfl (Nat.le_of_ble_eq_true rfl) ((ev_M_isHead hf2997).deep (by decide)) ?_
  refine mg_Ev.br (P := v867 = 0) (t := 8) (nx := 14) (st' := []) rfl rfl rfl rfl (fun hc2998 => ?_) (fun hc2998 => ?_)
  · rw [if_pos hc2998] at h
    refine mg_Ev.go 2 (pc' := 10) (loc' := [some (.ref 43), some (.int a0), some (.int a1)]) (st' := [.int 1, .ref 43]) (w' := (hp u fL fD, c, z)) rfl ?_
    obtain ⟨⟨v868, u869⟩, hf2999, h⟩ := Option.bind_eq_some_iff.mp h
    try dsimp only at h
    refine mg_Ev.call (y := 59) (as := [.ref 43, .int 1]) (rest := []) (v := some (.int v868)) (w1 := (hp u869 fL fD, c, z)) rfl rfl (Nat.le_of_ble_eq_true rfl) ((ev_M_fails hf2999).deep (by decide)) ?_
    cases h
    exact mg_Ev.fin rfl rfl rfl
  · rw [if_neg hc2998] at h
    refine mg_Ev.go 3 (pc' := 18) (loc' := [some (.ref 43), some (.int a0), some (.int a1)]) (st' := [.int 6, .int 0, .int a1]) (w' := (hp u fL fD, c, z)) rfl ?_
    obtain ⟨v871, hf3000, h⟩ := Option.bind_eq_some_iff.mp h
    refine mg_Ev.call (y := 58) (as := [.int a1, .int 0, .int 6]) (rest := []) (v := some (.int v871)) (w1 := (hp u fL fD, c, z)) rfl rfl (Nat.le_of_ble_eq_true rfl) ((ev_M_in hf3000).deep (by decide)) ?_
    refine mg_Ev.br (P := v871 = 0) (t := 24) (nx := 30) (st' := []) rfl rfl rfl rfl (fun hc3001 => ?_) (fun hc3001 => ?_)
    · rw [if_pos hc3001] at h
      refine mg_Ev.go 2 (pc' := 26) (loc' := [some (.ref 43), some (.int a0), some (.int a1)]) (st' := [.int 2, .ref 43]) (w' := (hp u fL fD, c, z)) rfl ?_
      obtain ⟨⟨v872, u873⟩, hf3002, h⟩ := Option.bind_eq_some_iff.mp h
      try dsimp only at h
      refine mg_Ev.call (y := 59) (as := [.ref 43, .int 2]) (rest := []) (v := some (.int v872)) (w1 := (hp u873 fL fD, c, z)) rfl rfl (Nat.le_of_ble_eq_true rfl) ((ev_M_fails hf3002).deep (by decide)) ?_
      cases h
      exact mg_Ev.fin rfl rfl rfl
    · rw [if_neg hc3001] at h
      refine mg_Ev.go 2 (pc' := 32) (loc' := [some (.ref 43), some (.int a0), some (.int a1)]) (st' := [.int 3, .int a1]) (w' := (hp u fL fD, c, z)) rfl ?_
      refine mg_Ev.br (P := 3 ≤ a1) (t := 46) (nx := 35) (st' := []) rfl rfl rfl rfl (fun hc3003 => ?_) (fun hc3003 => ?_)
      · rw [if_pos hc3003] at h
        refine mg_Ev.go 3 (pc' := 49) (loc' := [some (.ref 43), some (.int a0), some (.int a1)]) (st' := [.int 3, .int a1, .ref 43]) (w' := (hp u fL fD, c, z)) rfl ?_
        refine mg_Ev.br (P := a1 = 3) (t := 52) (nx := 60) (st' := [.ref 43]) rfl rfl rfl rfl (fun hc3004 => ?_) (fun hc3004 => ?_)
        · rw [if_pos hc3004] at h
          refine mg_Ev.go 2 (pc' := 54) (loc' := [some (.ref 43), some (.int a0), some (.int a1)]) (st' := [.int a0, .ref 43, .ref 43]) (w' := (hp u fL fD, c, z)) rfl ?_
          obtain ⟨v875, hf3005, h⟩ := Option.bind_eq_some_iff.mp h
          refine mg_Ev.call (y := 71) (as := [.ref 43, .int a0]) (rest := [.ref 43]) (v := some (.int v875)) (w1 := (hp u fL fD, c, z)) rfl rfl (Nat.le_of_ble_eq_true rfl) ((ev_M_rateAt hf3005).deep (by decide)) ?_
          refine mg_Ev.go 1 (pc' := 91) (loc' := [some (.ref 43), some (.int a0), some (.int a1)]) (st' := [.int v875, .ref 43]) (w' := (hp u fL fD, c, z)) rfl ?_
          obtain ⟨⟨v876, u877⟩, hf3006, h⟩ := Option.bind_eq_some_iff.mp h
          try dsimp only at h
          refine mg_Ev.call (y := 60) (as := [.ref 43, .int v875]) (rest := []) (v := some (.int v876)) (w1 := (hp u877 fL fD, c, z)) rfl rfl (Nat.le_of_ble_eq_true rfl) ((ev_M_done hf3006).deep (by decide)) ?_
          cases h
          exact mg_Ev.fin rfl rfl rfl
        · rw [if_neg hc3004] at h
          refine mg_Ev.go 2 (pc' := 62) (loc' := [some (.ref 43), some (.int a0), some (.int a1)]) (st' := [.int 4, .int a1, .ref 43]) (w' := (hp u fL fD, c, z)) rfl ?_
          refine mg_Ev.br (P := a1 = 4) (t := 65) (nx := 73) (st' := [.ref 43]) rfl rfl rfl rfl (fun hc3007 => ?_) (fun hc3007 => ?_)
          · rw [if_pos hc3007] at h
            refine mg_Ev.go 2 (pc' := 67) (loc' := [some (.ref 43), some (.int a0), some (.int a1)]) (st' := [.int a0, .ref 43, .ref 43]) (w' := (hp u fL fD, c, z)) rfl ?_
            obtain ⟨v879, hf3008, h⟩ := Option.bind_eq_some_iff.mp h
            refine mg_Ev.call (y := 72) (as := [.ref 43, .int a0]) (rest := [.ref 43]) (v := some (.int v879)) (w1 := (hp u fL fD, c, z)) rfl rfl (Nat.le_of_ble_eq_true rfl) ((ev_M_children hf3008).deep (by decide)) ?_
            refine mg_Ev.go 1 (pc' := 91) (loc' := [some (.ref 43), some (.int a0), some (.int a1)]) (st' := [.int v879, .ref 43]) (w' := (hp u fL fD, c, z)) rfl ?_
            obtain ⟨⟨v880, u881⟩, hf3009, h⟩ := Option.bind_eq_some_iff.mp h
            try dsimp only at h
            refine mg_Ev.call (y := 60) (as := [.ref 43, .int v879]) (rest := []) (v := some (.int v880)) (w1 := (hp u881 fL fD, c, z)) rfl rfl (Nat.le_of_ble_eq_true rfl) ((ev_M_done hf3009).deep (by decide)) ?_
            cases h
            exact mg_Ev.fin rfl rfl rfl
          · rw [if_neg hc3007] at h
            refine mg_Ev.go 2 (pc' := 75) (loc' := [some (.ref 43), some (.int a0), some (.int a1)]) (st' := [.int 5, .int a1, .ref 43]) (w' := (hp u fL fD, c, z)) rfl ?_
            refine mg_Ev.br (P := a1 = 5) (t := 78) (nx := 86) (st' := [.ref 43]) rfl rfl rfl rfl (fun hc3010 => ?_) (fun hc3010 => ?_)
            · rw [if_pos hc3010] at h
              refine mg_Ev.go 2 (pc' := 80) (loc' := [some (.ref 43), some (.int a0), some (.int a1)]) (st' := [.int a0, .ref 43, .ref 43]) (w' := (hp u fL fD, c, z)) rfl ?_
              obtain ⟨v883, hf3011, h⟩ := Option.bind_eq_some_iff.mp h
              refine mg_Ev.call (y := 69) (as := [.ref 43, .int a0]) (rest := [.ref 43]) (v := some (.int v883)) (w1 := (hp u fL fD, c, z)) rfl rfl (Nat.le_of_ble_eq_true rfl) ((ev_M_lengthOf hf3011).deep (by decide)) ?_
              refine mg_Ev.go 1 (pc' := 91) (loc' := [some (.ref 43), some (.int a0), some (.int a1)]) (st' := [.int v883, .ref 43]) (w' := (hp u fL fD, c, z)) rfl ?_
              obtain ⟨⟨v884, u885⟩, hf3012, h⟩ := Option.bind_eq_some_iff.mp h
              try dsimp only at h
              refine mg_Ev.call (y := 60) (as := [.ref 43, .int v883]) (rest := []) (v := some (.int v884)) (w1 := (hp u885 fL fD, c, z)) rfl rfl (Nat.le_of_ble_eq_true rfl) ((ev_M_done hf3012).deep (by decide)) ?_
              cases h
              exact mg_Ev.fin rfl rfl rfl
            · rw [if_neg hc3010] at h
              refine mg_Ev.go 2 (pc' := 88) (loc' := [some (.ref 43), some (.int a0), some (.int a1)]) (st' := [.int a0, .ref 43, .ref 43]) (w' := (hp u fL fD, c, z)) rfl ?_
              obtain ⟨v887, hf3013, h⟩ := Option.bind_eq_some_iff.mp h
              refine mg_Ev.call (y := 73) (as := [.ref 43, .int a0]) (rest := [.ref 43]) (v := some (.int v887)) (w1 := (hp u fL fD, c, z)) rfl rfl (Nat.le_of_ble_eq_true rfl) ((ev_M_codeOf hf3013).deep (by decide)) ?_
              obtain ⟨⟨v888, u889⟩, hf3014, h⟩ := Option.bind_eq_some_iff.mp h
              try dsimp only at h
              refine mg_Ev.call (y := 60) (as := [.ref 43, .int v887]) (rest := []) (v := some (.int v888)) (w1 := (hp u889 fL fD, c, z)) rfl rfl (Nat.le_of_ble_eq_true rfl) ((ev_M_done hf3014).deep (by decide)) ?_
              cases h
              exact mg_Ev.fin rfl rfl rfl
      · rw [if_neg hc3003] at h
        refine mg_Ev.go 4 (pc' := 39) (loc' := [some (.ref 43), some (.int a0), some (.int a1)]) (st' := [.int a1, .int a0, .ref 43, .ref 43]) (w' := (hp u fL fD, c, z)) rfl ?_
        obtain ⟨v891, hf3015, h⟩ := Option.bind_eq_some_iff.mp h
        refine mg_Ev.call (y := 66) (as := [.ref 43, .int a0, .int a1]) (rest := [.ref 43]) (v := some (.int v891)) (w1 := (hp u fL fD, c, z)) rfl rfl (Nat.le_of_ble_eq_true rfl) ((ev_M_headAt hf3015).deep (by decide)) ?_
        obtain ⟨⟨v892, u893⟩, hf3016, h⟩ := Option.bind_eq_some_iff.mp h
        try dsimp only at h
        refine mg_Ev.call (y := 60) (as := [.ref 43, .int v891]) (rest := []) (v := some (.int v892)) (w1 := (hp u893 fL fD, c, z)) rfl rfl (Nat.le_of_ble_eq_true rfl) ((ev_M_done hf3016).deep (by decide)) ?_
        cases h
        exact mg_Ev.fin rfl rfl rfl

def M_find (a0 : Int32) (u : mg_Rg) : Option (Int32 × mg_Rg) :=
  (M_coded a0 u).bind fun v895 =>
  if v895 = (-1) then
  (M_fails 1 u).bind fun p898 => match p898 with
    | (v896, u897) =>
      some (v896, u897)
  else
  (M_done v895 u).bind fun p901 => match p901 with
    | (v899, u900) =>
      some (v899, u900)

set_option maxRecDepth 10000 in
set_option maxHeartbeats 4000000 in
theorem ev_M_find {sc : mg_Sc} {c z : Nat} {fL : Nat → Int64} {fD : Nat → UInt64} {a0 : Int32} {u : mg_Rg} {p : Int32 × mg_Rg} (h : M_find a0 u = some p) : mg_Ev sc 3 78 0 (mg_entry 78 [.ref 43, .int a0]) [] (hp u fL fD, c, z) (.inl (some (.int p.1)), (hp p.2 fL fD, c, z)) := by
  unfold M_find at h
  show mg_Ev _ _ _ 0 [some (.ref 43), some (.int a0), none] [] _ _
  refine mg_Ev.go 2 (pc' := 2) (loc' := [some (.ref 43), some (.int a0), none]) (st' := [.int a0, .ref 43]) (w' := (hp u fL fD, c, z)) rfl ?_
  obtain ⟨v895, hf3017, h⟩ := Option.bind_eq_some_iff.mp h
  refine mg_Ev.call (y := 74) (as := [.ref 43, .int a0]) (rest := []) (v := some (.int v895)) (w1 := (hp u fL fD, c, z)) rfl rfl (Nat.le_of_ble_eq_true rfl) ((ev_M_coded hf3017).deep (by decide)) ?_
  refine mg_Ev.go 3 (pc' := 8) (loc' := [some (.ref 43), some (.int a0), some (.int v895)]) (st' := [.int (-1), .int v895]) (w' := (hp u fL fD, c, z)) rfl ?_
  refine mg_Ev.br (P := v895 = (-1)) (t := 11) (nx := 19) (st' := []) rfl rfl rfl rfl (fun hc3018 => ?_) (fun hc3018 => ?_)
  · rw [if_pos hc3018] at h
    refine mg_Ev.go 2 (pc' := 13) (loc' := [some (.ref 43), some (.int a0), some (.int v895)]) (st' := [.int 1, .ref 43]) (w' := (hp u fL fD, c, z)) rfl ?_
    obtain ⟨⟨v896, u897⟩, hf3019, h⟩ := Option.bind_eq_some_iff.mp h
    try dsimp only at h
    refine mg_Ev.call (y := 59) (as := [.ref 43, .int 1]) (rest := []) (v := some (.int v896)) (w1 := (hp u897 fL fD, c, z)) rfl rfl (Nat.le_of_ble_eq_true rfl) ((ev_M_fails hf3019).deep (by decide)) ?_
    refine mg_Ev.go 1 (pc' := 24) (loc' := [some (.ref 43), some (.int a0), some (.int v895)]) (st' := [.int v896]) (w' := (hp u897 fL fD, c, z)) rfl ?_
    cases h
    exact mg_Ev.fin rfl rfl rfl
  · rw [if_neg hc3018] at h
    refine mg_Ev.go 2 (pc' := 21) (loc' := [some (.ref 43), some (.int a0), some (.int v895)]) (st' := [.int v895, .ref 43]) (w' := (hp u fL fD, c, z)) rfl ?_
    obtain ⟨⟨v899, u900⟩, hf3020, h⟩ := Option.bind_eq_some_iff.mp h
    try dsimp only at h
    refine mg_Ev.call (y := 60) (as := [.ref 43, .int v895]) (rest := []) (v := some (.int v899)) (w1 := (hp u900 fL fD, c, z)) rfl rfl (Nat.le_of_ble_eq_true rfl) ((ev_M_done hf3020).deep (by decide)) ?_
    cases h
    exact mg_Ev.fin rfl rfl rfl

def M_isCountry (a0 : Int32) (u : mg_Rg) : Option (Int32) :=
  (M_in a0 0 7 u).bind fun v906 =>
  if v906 = 0 ∨ v906 = 1 then some v906 else none

set_option maxRecDepth 10000 in
set_option maxHeartbeats 4000000 in
theorem ev_M_isCountry {sc : mg_Sc} {c z : Nat} {fL : Nat → Int64} {fD : Nat → UInt64} {a0 : Int32} {u : mg_Rg} {v : Int32} (h : M_isCountry a0 u = some v) : mg_Ev sc 1 65 0 (mg_entry 65 [.int a0]) [] (hp u fL fD, c, z) (.inl (some (.int v)), (hp u fL fD, c, z)) := by
  unfold M_isCountry at h
  show mg_Ev _ _ _ 0 [some (.int a0)] [] _ _
  refine mg_Ev.go 3 (pc' := 4) (loc' := [some (.int a0)]) (st' := [.int 7, .int 0, .int a0]) (w' := (hp u fL fD, c, z)) rfl ?_
  obtain ⟨v906, hf3021, h⟩ := Option.bind_eq_some_iff.mp h
  refine mg_Ev.call (y := 58) (as := [.int a0, .int 0, .int 7]) (rest := []) (v := some (.int v906)) (w1 := (hp u fL fD, c, z)) rfl rfl (Nat.le_of_ble_eq_true rfl) ((ev_M_in hf3021).deep (by decide)) ?_
  by_cases hz3022 : v906 = 0 ∨ v906 = 1
  · rw [if_pos hz3022] at h
    cases h
    exact mg_Ev.zret rfl rfl rfl hz3022
  · rw [if_neg hz3022] at h
    cases h

def M_prefer (a0 : Int32) (a1 : Int32) (a2 : Int32) (a3 : Int32) (u : mg_Rg) : Option (Int32 × mg_Rg) :=
  (M_isHead a0 u).bind fun v902 =>
  if v902 = 0 then
  (M_fails 1 u).bind fun p905 => match p905 with
    | (v903, u904) =>
      some (v903, u904)
  else
  (M_isCountry a1 u).bind fun v907 =>
    if v907 = 0 then
    (M_fails 1 u).bind fun p910 => match p910 with
      | (v908, u909) =>
        some (v908, u909)
    else
    (M_in a2 0 1000 u).bind fun v911 =>
      if v911 = 0 then
      (M_fails 2 u).bind fun p914 => match p914 with
        | (v912, u913) =>
          some (v912, u913)
      else
      (M_in a3 0 2 u).bind fun v915 =>
        if v915 = 0 then
        (M_fails 2 u).bind fun p918 => match p918 with
          | (v916, u917) =>
            some (v916, u917)
        else
        if (u 43 2) = 10 then
          (M_fails 3 u).bind fun p921 => match p921 with
            | (v919, u920) =>
              some (v919, u920)
          else
          (M_remembers u).bind fun u922 =>
            if (80 + (4 * (u922 43 2))) < 0 ∨ 690 ≤ (80 + (4 * (u922 43 2))).toNatClampNeg then none else
            if ((80 + (4 * (u922 43 2))) + 1) < 0 ∨ 690 ≤ ((80 + (4 * (u922 43 2))) + 1).toNatClampNeg then none else
            if ((80 + (4 * (u922 43 2))) + 2) < 0 ∨ 690 ≤ ((80 + (4 * (u922 43 2))) + 2).toNatClampNeg then none else
            if ((80 + (4 * (u922 43 2))) + 3) < 0 ∨ 690 ≤ ((80 + (4 * (u922 43 2))) + 3).toNatClampNeg then none else
            (M_done (((mg_up (mg_up (mg_up (mg_up (mg_up u922 43 ((80 + (4 * (u922 43 2))).toNatClampNeg) a0) 43 (((80 + (4 * (u922 43 2))) + 1).toNatClampNeg) a1) 43 (((80 + (4 * (u922 43 2))) + 2).toNatClampNeg) a2) 43 (((80 + (4 * (u922 43 2))) + 3).toNatClampNeg) a3) 43 2 (((mg_up (mg_up (mg_up (mg_up u922 43 ((80 + (4 * (u922 43 2))).toNatClampNeg) a0) 43 (((80 + (4 * (u922 43 2))) + 1).toNatClampNeg) a1) 43 (((80 + (4 * (u922 43 2))) + 2).toNatClampNeg) a2) 43 (((80 + (4 * (u922 43 2))) + 3).toNatClampNeg) a3) 43 2) + 1)) 43 2) - 1) (mg_up (mg_up (mg_up (mg_up (mg_up u922 43 ((80 + (4 * (u922 43 2))).toNatClampNeg) a0) 43 (((80 + (4 * (u922 43 2))) + 1).toNatClampNeg) a1) 43 (((80 + (4 * (u922 43 2))) + 2).toNatClampNeg) a2) 43 (((80 + (4 * (u922 43 2))) + 3).toNatClampNeg) a3) 43 2 (((mg_up (mg_up (mg_up (mg_up u922 43 ((80 + (4 * (u922 43 2))).toNatClampNeg) a0) 43 (((80 + (4 * (u922 43 2))) + 1).toNatClampNeg) a1) 43 (((80 + (4 * (u922 43 2))) + 2).toNatClampNeg) a2) 43 (((80 + (4 * (u922 43 2))) + 3).toNatClampNeg) a3) 43 2) + 1))).bind fun p925 => match p925 with
            | (v923, u924) =>
              some (v923, u924)

set_option maxRecDepth 10000 in
set_option maxHeartbeats 4000000 in
theorem ev_M_prefer {sc : mg_Sc} {c z : Nat} {fL : Nat → Int64} {fD : Nat → UInt64} {a0 : Int32} {a1 : Int32} {a2 : Int32} {a3 : Int32} {u : mg_Rg} {p : Int32 × mg_Rg} (h : M_prefer a0 a1 a2 a3 u = some p) : mg_Ev sc 3 79 0 (mg_entry 79 [.ref 43, .int a0, .int a1, .int a2, .int a3]) [] (hp u fL fD, c, z) (.inl (some (.int p.1)), (hp p.2 fL fD, c, z)) := by
  unfold M_prefer at h
  show mg_Ev _ _ _ 0 [some (.ref 43), some (.int a0), some (.int a1), some (.int a2), some (.int a3), none] [] _ _
  refine mg_Ev.go 2 (pc' := 2) (loc' := [some (.ref 43), some (.int a0), some (.int a1), some (.int a2), some (.int a3), none]) (st' := [.int a0, .ref 43]) (w' := (hp u fL fD, c, z)) rfl ?_
  obtain ⟨v902, hf3023, h⟩ := Option.bind_eq_some_iff.mp h
  refine mg_Ev.call (y := 64) (as := [.ref 43, .int a0]) (rest := []) (v := some (.int v902)) (w1 := (hp u fL fD, c, z)) rfl rfl (Nat.le_of_ble_eq_true rfl) ((ev_M_isHead hf3023).deep (by decide)) ?_
  refine mg_Ev.br (P := v902 = 0) (t := 15) (nx := 8) (st' := []) rfl rfl rfl rfl (fun hc3024 => ?_) (fun hc3024 => ?_)
  · rw [if_pos hc3024] at h
    refine mg_Ev.go 2 (pc' := 17) (loc' := [some (.ref 43), some (.int a0), some (.int a1), some (.int a2), some (.int a3), none]) (st' := [.int 1, .ref 43]) (w' := (hp u fL fD, c, z)) rfl ?_
    obtain ⟨⟨v903, u904⟩, hf3025, h⟩ := Option.bind_eq_some_iff.mp h
    try dsimp only at h
    refine mg_Ev.call (y := 59) (as := [.ref 43, .int 1]) (rest := []) (v := some (.int v903)) (w1 := (hp u904 fL fD, c, z)) rfl rfl (Nat.le_of_ble_eq_true rfl) ((ev_M_fails hf3025).deep (by decide)) ?_
    cases h
    exact mg_Ev.fin rfl rfl rfl
  · rw [if_neg hc3024] at h
    refine mg_Ev.go 1 (pc' := 9) (loc' := [some (.ref 43), some (.int a0), some (.int a1), some (.int a2), some (.int a3), none]) (st' := [.int a1]) (w' := (hp u fL fD, c, z)) rfl ?_
    obtain ⟨v907, hf3026, h⟩ := Option.bind_eq_some_iff.mp h
    refine mg_Ev.call (y := 65) (as := [.int a1]) (rest := []) (v := some (.int v907)) (w1 := (hp u fL fD, c, z)) rfl rfl (Nat.le_of_ble_eq_true rfl) ((ev_M_isCountry hf3026).deep (by decide)) ?_
    refine mg_Ev.br (P := v907 = 0) (t := 15) (nx := 21) (st' := []) rfl rfl rfl rfl (fun hc3027 => ?_) (fun hc3027 => ?_)
    · rw [if_pos hc3027] at h
      refine mg_Ev.go 2 (pc' := 17) (loc' := [some (.ref 43), some (.int a0), some (.int a1), some (.int a2), some (.int a3), none]) (st' := [.int 1, .ref 43]) (w' := (hp u fL fD, c, z)) rfl ?_
      obtain ⟨⟨v908, u909⟩, hf3028, h⟩ := Option.bind_eq_some_iff.mp h
      try dsimp only at h
      refine mg_Ev.call (y := 59) (as := [.ref 43, .int 1]) (rest := []) (v := some (.int v908)) (w1 := (hp u909 fL fD, c, z)) rfl rfl (Nat.le_of_ble_eq_true rfl) ((ev_M_fails hf3028).deep (by decide)) ?_
      cases h
      exact mg_Ev.fin rfl rfl rfl
    · rw [if_neg hc3027] at h
      refine mg_Ev.go 3 (pc' := 26) (loc' := [some (.ref 43), some (.int a0), some (.int a1), some (.int a2), some (.int a3), none]) (st' := [.int 1000, .int 0, .int a2]) (w' := (hp u fL fD, c, z)) rfl ?_
      obtain ⟨v911, hf3029, h⟩ := Option.bind_eq_some_iff.mp h
      refine mg_Ev.call (y := 58) (as := [.int a2, .int 0, .int 1000]) (rest := []) (v := some (.int v911)) (w1 := (hp u fL fD, c, z)) rfl rfl (Nat.le_of_ble_eq_true rfl) ((ev_M_in hf3029).deep (by decide)) ?_
      refine mg_Ev.br (P := v911 = 0) (t := 42) (nx := 32) (st' := []) rfl rfl rfl rfl (fun hc3030 => ?_) (fun hc3030 => ?_)
      · rw [if_pos hc3030] at h
        refine mg_Ev.go 2 (pc' := 44) (loc' := [some (.ref 43), some (.int a0), some (.int a1), some (.int a2), some (.int a3), none]) (st' := [.int 2, .ref 43]) (w' := (hp u fL fD, c, z)) rfl ?_
        obtain ⟨⟨v912, u913⟩, hf3031, h⟩ := Option.bind_eq_some_iff.mp h
        try dsimp only at h
        refine mg_Ev.call (y := 59) (as := [.ref 43, .int 2]) (rest := []) (v := some (.int v912)) (w1 := (hp u913 fL fD, c, z)) rfl rfl (Nat.le_of_ble_eq_true rfl) ((ev_M_fails hf3031).deep (by decide)) ?_
        cases h
        exact mg_Ev.fin rfl rfl rfl
      · rw [if_neg hc3030] at h
        refine mg_Ev.go 3 (pc' := 36) (loc' := [some (.ref 43), some (.int a0), some (.int a1), some (.int a2), some (.int a3), none]) (st' := [.int 2, .int 0, .int a3]) (w' := (hp u fL fD, c, z)) rfl ?_
        obtain ⟨v915, hf3032, h⟩ := Option.bind_eq_some_iff.mp h
        refine mg_Ev.call (y := 58) (as := [.int a3, .int 0, .int 2]) (rest := []) (v := some (.int v915)) (w1 := (hp u fL fD, c, z)) rfl rfl (Nat.le_of_ble_eq_true rfl) ((ev_M_in hf3032).deep (by decide)) ?_
        refine mg_Ev.br (P := v915 = 0) (t := 42) (nx := 48) (st' := []) rfl rfl rfl rfl (fun hc3033 => ?_) (fun hc3033 => ?_)
        · rw [if_pos hc3033] at h
          refine mg_Ev.go 2 (pc' := 44) (loc' := [some (.ref 43), some (.int a0), some (.int a1), some (.int a2), some (.int a3), none]) (st' := [.int 2, .ref 43]) (w' := (hp u fL fD, c, z)) rfl ?_
          obtain ⟨⟨v916, u917⟩, hf3034, h⟩ := Option.bind_eq_some_iff.mp h
          try dsimp only at h
          refine mg_Ev.call (y := 59) (as := [.ref 43, .int 2]) (rest := []) (v := some (.int v916)) (w1 := (hp u917 fL fD, c, z)) rfl rfl (Nat.le_of_ble_eq_true rfl) ((ev_M_fails hf3034).deep (by decide)) ?_
          cases h
          exact mg_Ev.fin rfl rfl rfl
        · rw [if_neg hc3033] at h
          refine mg_Ev.go 3 (pc' := 53) (loc' := [some (.ref 43), some (.int a0), some (.int a1), some (.int a2), some (.int a3), none]) (st' := [.int 2, .ref 44]) (w' := (hp u fL fD, c, z)) rfl ?_
          refine mg_Ev.iald (a := 43) (n := 690) (f := u 43) (j := 2) rfl (hpg_43 _ _ _) (by decide) (by decide) ?_
          refine mg_Ev.go 1 (pc' := 56) (loc' := [some (.ref 43), some (.int a0), some (.int a1), some (.int a2), some (.int a3), none]) (st' := [.int 10, .int (u 43 2)]) (w' := (hp u fL fD, c, z)) rfl ?_
          refine mg_Ev.br (P := (u 43 2) = 10) (t := 59) (nx := 65) (st' := []) rfl rfl rfl rfl (fun hc3035 => ?_) (fun hc3035 => ?_)
          · rw [if_pos hc3035] at h
            refine mg_Ev.go 2 (pc' := 61) (loc' := [some (.ref 43), some (.int a0), some (.int a1), some (.int a2), some (.int a3), none]) (st' := [.int 3, .ref 43]) (w' := (hp u fL fD, c, z)) rfl ?_
            obtain ⟨⟨v919, u920⟩, hf3036, h⟩ := Option.bind_eq_some_iff.mp h
            try dsimp only at h
            refine mg_Ev.call (y := 59) (as := [.ref 43, .int 3]) (rest := []) (v := some (.int v919)) (w1 := (hp u920 fL fD, c, z)) rfl rfl (Nat.le_of_ble_eq_true rfl) ((ev_M_fails hf3036).deep (by decide)) ?_
            cases h
            exact mg_Ev.fin rfl rfl rfl
          · rw [if_neg hc3035] at h
            refine mg_Ev.go 1 (pc' := 66) (loc' := [some (.ref 43), some (.int a0), some (.int a1), some (.int a2), some (.int a3), none]) (st' := [.ref 43]) (w' := (hp u fL fD, c, z)) rfl ?_
            obtain ⟨u922, hf3037, h⟩ := Option.bind_eq_some_iff.mp h
            refine mg_Ev.call (y := 63) (as := [.ref 43]) (rest := []) (v := none) (w1 := (hp u922 fL fD, c, z)) rfl rfl (Nat.le_of_ble_eq_true rfl) ((ev_M_remembers hf3037).deep (by decide)) ?_
            refine mg_Ev.go 5 (pc' := 77) (loc' := [some (.ref 43), some (.int a0), some (.int a1), some (.int a2), some (.int a3), none]) (st' := [.int 2, .ref 44, .int 4, .int 80]) (w' := (hp u922 fL fD, c, z)) rfl ?_
            refine mg_Ev.iald (a := 43) (n := 690) (f := u922 43) (j := 2) rfl (hpg_43 _ _ _) (by decide) (by decide) ?_
            refine mg_Ev.go 7 (pc' := 89) (loc' := [some (.ref 43), some (.int a0), some (.int a1), some (.int a2), some (.int a3), some (.int (80 + (4 * (u922 43 2))))]) (st' := [.int a0, .int (80 + (4 * (u922 43 2))), .ref 44]) (w' := (hp u922 fL fD, c, z)) rfl ?_
            by_cases hb3038 : (80 + (4 * (u922 43 2))) < 0 ∨ 690 ≤ (80 + (4 * (u922 43 2))).toNatClampNeg
            · rw [if_pos hb3038] at h
              cases h
            · rw [if_neg hb3038] at h
              refine mg_Ev.iast (a := 43) (n := 690) rfl (hpg_43 _ _ _) rfl hb3038 (hpa_43 _ _ _ _ _ _ _) ?_
              refine mg_Ev.go 6 (pc' := 99) (loc' := [some (.ref 43), some (.int a0), some (.int a1), some (.int a2), some (.int a3), some (.int (80 + (4 * (u922 43 2))))]) (st' := [.int a1, .int ((80 + (4 * (u922 43 2))) + 1), .ref 44]) (w' := (hp (mg_up u922 43 ((80 + (4 * (u922 43 2))).toNatClampNeg) a0) fL fD, c, z)) rfl ?_
              by_cases hb3039 : ((80 + (4 * (u922 43 2))) + 1) < 0 ∨ 690 ≤ ((80 + (4 * (u922 43 2))) + 1).toNatClampNeg
              · rw [if_pos hb3039] at h
                cases h
              · rw [if_neg hb3039] at h
                refine mg_Ev.iast (a := 43) (n := 690) rfl (hpg_43 _ _ _) rfl hb3039 (hpa_43 _ _ _ _ _ _ _) ?_
                refine mg_Ev.go 6 (pc' := 109) (loc' := [some (.ref 43), some (.int a0), some (.int a1), some (.int a2), some (.int a3), some (.int (80 + (4 * (u922 43 2))))]) (st' := [.int a2, .int ((80 + (4 * (u922 43 2))) + 2), .ref 44]) (w' := (hp (mg_up (mg_up u922 43 ((80 + (4 * (u922 43 2))).toNatClampNeg) a0) 43 (((80 + (4 * (u922 43 2))) + 1).toNatClampNeg) a1) fL fD, c, z)) rfl ?_
                by_cases hb3040 : ((80 + (4 * (u922 43 2))) + 2) < 0 ∨ 690 ≤ ((80 + (4 * (u922 43 2))) + 2).toNatClampNeg
                · rw [if_pos hb3040] at h
                  cases h
                · rw [if_neg hb3040] at h
                  refine mg_Ev.iast (a := 43) (n := 690) rfl (hpg_43 _ _ _) rfl hb3040 (hpa_43 _ _ _ _ _ _ _) ?_
                  refine mg_Ev.go 6 (pc' := 120) (loc' := [some (.ref 43), some (.int a0), some (.int a1), some (.int a2), some (.int a3), some (.int (80 + (4 * (u922 43 2))))]) (st' := [.int a3, .int ((80 + (4 * (u922 43 2))) + 3), .ref 44]) (w' := (hp (mg_up (mg_up (mg_up u922 43 ((80 + (4 * (u922 43 2))).toNatClampNeg) a0) 43 (((80 + (4 * (u922 43 2))) + 1).toNatClampNeg) a1) 43 (((80 + (4 * (u922 43 2))) + 2).toNatClampNeg) a2) fL fD, c, z)) rfl ?_
                  by_cases hb3041 : ((80 + (4 * (u922 43 2))) + 3) < 0 ∨ 690 ≤ ((80 + (4 * (u922 43 2))) + 3).toNatClampNeg
                  · rw [if_pos hb3041] at h
                    cases h
                  · rw [if_neg hb3041] at h
                    refine mg_Ev.iast (a := 43) (n := 690) rfl (hpg_43 _ _ _) rfl hb3041 (hpa_43 _ _ _ _ _ _ _) ?_
                    refine mg_Ev.go 4 (pc' := 127) (loc' := [some (.ref 43), some (.int a0), some (.int a1), some (.int a2), some (.int a3), some (.int (80 + (4 * (u922 43 2))))]) (st' := [.int 2, .ref 44, .int 2, .ref 44]) (w' := (hp (mg_up (mg_up (mg_up (mg_up u922 43 ((80 + (4 * (u922 43 2))).toNatClampNeg) a0) 43 (((80 + (4 * (u922 43 2))) + 1).toNatClampNeg) a1) 43 (((80 + (4 * (u922 43 2))) + 2).toNatClampNeg) a2) 43 (((80 + (4 * (u922 43 2))) + 3).toNatClampNeg) a3) fL fD, c, z)) rfl ?_
                    refine mg_Ev.iald (a := 43) (n := 690) (f := (mg_up (mg_up (mg_up (mg_up u922 43 ((80 + (4 * (u922 43 2))).toNatClampNeg) a0) 43 (((80 + (4 * (u922 43 2))) + 1).toNatClampNeg) a1) 43 (((80 + (4 * (u922 43 2))) + 2).toNatClampNeg) a2) 43 (((80 + (4 * (u922 43 2))) + 3).toNatClampNeg) a3) 43) (j := 2) rfl (hpg_43 _ _ _) (by decide) (by decide) ?_
                    refine mg_Ev.go 2 (pc' := 130) (loc' := [some (.ref 43), some (.int a0), some (.int a1), some (.int a2), some (.int a3), some (.int (80 + (4 * (u922 43 2))))]) (st' := [.int (((mg_up (mg_up (mg_up (mg_up u922 43 ((80 + (4 * (u922 43 2))).toNatClampNeg) a0) 43 (((80 + (4 * (u922 43 2))) + 1).toNatClampNeg) a1) 43 (((80 + (4 * (u922 43 2))) + 2).toNatClampNeg) a2) 43 (((80 + (4 * (u922 43 2))) + 3).toNatClampNeg) a3) 43 2) + 1), .int 2, .ref 44]) (w' := (hp (mg_up (mg_up (mg_up (mg_up u922 43 ((80 + (4 * (u922 43 2))).toNatClampNeg) a0) 43 (((80 + (4 * (u922 43 2))) + 1).toNatClampNeg) a1) 43 (((80 + (4 * (u922 43 2))) + 2).toNatClampNeg) a2) 43 (((80 + (4 * (u922 43 2))) + 3).toNatClampNeg) a3) fL fD, c, z)) rfl ?_
                    refine mg_Ev.iast (a := 43) (n := 690) (j := 2) rfl (hpg_43 _ _ _) (by decide) (by decide) (hpa_43 _ _ _ _ _ _ _) ?_
                    refine mg_Ev.go 4 (pc' := 137) (loc' := [some (.ref 43), some (.int a0), some (.int a1), some (.int a2), some (.int a3), some (.int (80 + (4 * (u922 43 2))))]) (st' := [.int 2, .ref 44, .ref 43]) (w' := (hp (mg_up (mg_up (mg_up (mg_up (mg_up u922 43 ((80 + (4 * (u922 43 2))).toNatClampNeg) a0) 43 (((80 + (4 * (u922 43 2))) + 1).toNatClampNeg) a1) 43 (((80 + (4 * (u922 43 2))) + 2).toNatClampNeg) a2) 43 (((80 + (4 * (u922 43 2))) + 3).toNatClampNeg) a3) 43 2 (((mg_up (mg_up (mg_up (mg_up u922 43 ((80 + (4 * (u922 43 2))).toNatClampNeg) a0) 43 (((80 + (4 * (u922 43 2))) + 1).toNatClampNeg) a1) 43 (((80 + (4 * (u922 43 2))) + 2).toNatClampNeg) a2) 43 (((80 + (4 * (u922 43 2))) + 3).toNatClampNeg) a3) 43 2) + 1)) fL fD, c, z)) rfl ?_
                    refine mg_Ev.iald (a := 43) (n := 690) (f := (mg_up (mg_up (mg_up (mg_up (mg_up u922 43 ((80 + (4 * (u922 43 2))).toNatClampNeg) a0) 43 (((80 + (4 * (u922 43 2))) + 1).toNatClampNeg) a1) 43 (((80 + (4 * (u922 43 2))) + 2).toNatClampNeg) a2) 43 (((80 + (4 * (u922 43 2))) + 3).toNatClampNeg) a3) 43 2 (((mg_up (mg_up (mg_up (mg_up u922 43 ((80 + (4 * (u922 43 2))).toNatClampNeg) a0) 43 (((80 + (4 * (u922 43 2))) + 1).toNatClampNeg) a1) 43 (((80 + (4 * (u922 43 2))) + 2).toNatClampNeg) a2) 43 (((80 + (4 * (u922 43 2))) + 3).toNatClampNeg) a3) 43 2) + 1)) 43) (j := 2) rfl (hpg_43 _ _ _) (by decide) (by decide) ?_
                    refine mg_Ev.go 2 (pc' := 140) (loc' := [some (.ref 43), some (.int a0), some (.int a1), some (.int a2), some (.int a3), some (.int (80 + (4 * (u922 43 2))))]) (st' := [.int (((mg_up (mg_up (mg_up (mg_up (mg_up u922 43 ((80 + (4 * (u922 43 2))).toNatClampNeg) a0) 43 (((80 + (4 * (u922 43 2))) + 1).toNatClampNeg) a1) 43 (((80 + (4 * (u922 43 2))) + 2).toNatClampNeg) a2) 43 (((80 + (4 * (u922 43 2))) + 3).toNatClampNeg) a3) 43 2 (((mg_up (mg_up (mg_up (mg_up u922 43 ((80 + (4 * (u922 43 2))).toNatClampNeg) a0) 43 (((80 + (4 * (u922 43 2))) + 1).toNatClampNeg) a1) 43 (((80 + (4 * (u922 43 2))) + 2).toNatClampNeg) a2) 43 (((80 + (4 * (u922 43 2))) + 3).toNatClampNeg) a3) 43 2) + 1)) 43 2) - 1), .ref 43]) (w' := (hp (mg_up (mg_up (mg_up (mg_up (mg_up u922 43 ((80 + (4 * (u922 43 2))).toNatClampNeg) a0) 43 (((80 + (4 * (u922 43 2))) + 1).toNatClampNeg) a1) 43 (((80 + (4 * (u922 43 2))) + 2).toNatClampNeg) a2) 43 (((80 + (4 * (u922 43 2))) + 3).toNatClampNeg) a3) 43 2 (((mg_up (mg_up (mg_up (mg_up u922 43 ((80 + (4 * (u922 43 2))).toNatClampNeg) a0) 43 (((80 + (4 * (u922 43 2))) + 1).toNatClampNeg) a1) 43 (((80 + (4 * (u922 43 2))) + 2).toNatClampNeg) a2) 43 (((80 + (4 * (u922 43 2))) + 3).toNatClampNeg) a3) 43 2) + 1)) fL fD, c, z)) rfl ?_
                    obtain ⟨⟨v923, u924⟩, hf3042, h⟩ := Option.bind_eq_some_iff.mp h
                    try dsimp only at h
                    refine mg_Ev.call (y := 60) (as := [.ref 43, .int (((mg_up (mg_up (mg_up (mg_up (mg_up u922 43 ((80 + (4 * (u922 43 2))).toNatClampNeg) a0) 43 (((80 + (4 * (u922 43 2))) + 1).toNatClampNeg) a1) 43 (((80 + (4 * (u922 43 2))) + 2).toNatClampNeg) a2) 43 (((80 + (4 * (u922 43 2))) + 3).toNatClampNeg) a3) 43 2 (((mg_up (mg_up (mg_up (mg_up u922 43 ((80 + (4 * (u922 43 2))).toNatClampNeg) a0) 43 (((80 + (4 * (u922 43 2))) + 1).toNatClampNeg) a1) 43 (((80 + (4 * (u922 43 2))) + 2).toNatClampNeg) a2) 43 (((80 + (4 * (u922 43 2))) + 3).toNatClampNeg) a3) 43 2) + 1)) 43 2) - 1)]) (rest := []) (v := some (.int v923)) (w1 := (hp u924 fL fD, c, z)) rfl rfl (Nat.le_of_ble_eq_true rfl) ((ev_M_done hf3042).deep (by decide)) ?_
                    cases h
                    exact mg_Ev.fin rfl rfl rfl

def M_drop_L33 : Nat → Int32 → mg_Rg → Option (mg_Rg)
  | 0, _, _ => none
  | n + 1, x2, u =>
    if (80 + (4 * ((u 43 2) - 1))) ≤ x2 then
    some (u)
    else
    if (x2 + 4) < 0 ∨ 690 ≤ (x2 + 4).toNatClampNeg then none else
      if x2 < 0 ∨ 690 ≤ x2.toNatClampNeg then none else
      M_drop_L33 n (x2 + 1) (mg_up u 43 x2.toNatClampNeg (u 43 ((x2 + 4).toNatClampNeg)))
set_option maxRecDepth 10000 in
set_option maxHeartbeats 4000000 in
theorem ev_M_drop_L33 {sc : mg_Sc} {c z : Nat} {fL : Nat → Int64} {fD : Nat → UInt64} : ∀ (n : Nat) (x2 : Int32) (u : mg_Rg) (res : mg_Rg), M_drop_L33 n x2 u = some res → ∀ r, (match res with | yu => mg_Ev sc 3 80 70 [some (.ref 43), none, none] [] (hp yu fL fD, c, z) r) → mg_Ev sc 3 80 33 [some (.ref 43), none, some (.int x2)] [] (hp u fL fD, c, z) r := by
  intro n
  induction n with
  | zero => intro x2 u res h; cases h
  | succ n ih =>
    intro x2 u res h r K
    unfold M_drop_L33 at h
    refine mg_Ev.go 6 (pc' := 42) (loc' := [some (.ref 43), none, some (.int x2)]) (st' := [.int 2, .ref 44, .int 4, .int 80, .int x2]) (w' := (hp u fL fD, c, z)) rfl ?_
    refine mg_Ev.iald (a := 43) (n := 690) (f := u 43) (j := 2) rfl (hpg_43 _ _ _) (by decide) (by decide) ?_
    refine mg_Ev.go 4 (pc' := 47) (loc' := [some (.ref 43), none, some (.int x2)]) (st' := [.int (80 + (4 * ((u 43 2) - 1))), .int x2]) (w' := (hp u fL fD, c, z)) rfl ?_
    refine mg_Ev.br (P := (80 + (4 * ((u 43 2) - 1))) ≤ x2) (t := 70) (nx := 50) (st' := []) rfl rfl rfl rfl (fun hc3043 => ?_) (fun hc3043 => ?_)
    · rw [if_pos hc3043] at h
      cases h
      exact mg_Ev.more (loc := [some (.ref 43), none, none]) K ⟨rfl, trivial⟩
    · rw [if_neg hc3043] at h
      refine mg_Ev.go 8 (pc' := 62) (loc' := [some (.ref 43), none, some (.int x2)]) (st' := [.int (x2 + 4), .ref 44, .int x2, .ref 44]) (w' := (hp u fL fD, c, z)) rfl ?_
      by_cases hb3044 : (x2 + 4) < 0 ∨ 690 ≤ (x2 + 4).toNatClampNeg
      · rw [if_pos hb3044] at h
        cases h
      · rw [if_neg hb3044] at h
        refine mg_Ev.iald (a := 43) (n := 690) (f := u 43) rfl (hpg_43 _ _ _) rfl hb3044 ?_
        by_cases hb3045 : x2 < 0 ∨ 690 ≤ x2.toNatClampNeg
        · rw [if_pos hb3045] at h
          cases h
        · rw [if_neg hb3045] at h
          refine mg_Ev.iast (a := 43) (n := 690) rfl (hpg_43 _ _ _) rfl hb3045 (hpa_43 _ _ _ _ _ _ _) ?_
          refine mg_Ev.go 2 (pc' := 33) (loc' := [some (.ref 43), none, some (.int (x2 + 1))]) (st' := []) (w' := (hp (mg_up u 43 x2.toNatClampNeg (u 43 ((x2 + 4).toNatClampNeg))) fL fD, c, z)) rfl ?_
          exact mg_Ev.more (loc := [some (.ref 43), none, some (.int (x2 + 1))]) (ih _ _ _ h _ K) ⟨rfl, ⟨rfl, trivial⟩⟩

def M_drop (a0 : Int32) (u : mg_Rg) : Option (Int32 × mg_Rg) :=
  (M_in a0 0 ((u 43 2) - 1) u).bind fun v926 =>
  if v926 = 0 then
  (M_fails 1 u).bind fun p929 => match p929 with
    | (v927, u928) =>
      some (v927, u928)
  else
  (M_remembers u).bind fun u930 =>
    (M_drop_L33 mg_F (80 + (4 * a0)) u930).bind fun q3046 => match q3046 with
    | u931 =>
      (M_done ((mg_up u931 43 2 ((u931 43 2) - 1)) 43 2) (mg_up u931 43 2 ((u931 43 2) - 1))).bind fun p934 => match p934 with
      | (v932, u933) =>
        some (v932, u933)

set_option maxRecDepth 10000 in
set_option maxHeartbeats 4000000 in
theorem ev_M_drop {sc : mg_Sc} {c z : Nat} {fL : Nat → Int64} {fD : Nat → UInt64} {a0 : Int32} {u : mg_Rg} {p : Int32 × mg_Rg} (h : M_drop a0 u = some p) : mg_Ev sc 3 80 0 (mg_entry 80 [.ref 43, .int a0]) [] (hp u fL fD, c, z) (.inl (some (.int p.1)), (hp p.2 fL fD, c, z)) := by
  unfold M_drop at h
  show mg_Ev _ _ _ 0 [some (.ref 43), some (.int a0), none] [] _ _
  refine mg_Ev.go 5 (pc' := 7) (loc' := [some (.ref 43), some (.int a0), none]) (st' := [.int 2, .ref 44, .int 0, .int a0]) (w' := (hp u fL fD, c, z)) rfl ?_
  refine mg_Ev.iald (a := 43) (n := 690) (f := u 43) (j := 2) rfl (hpg_43 _ _ _) (by decide) (by decide) ?_
  refine mg_Ev.go 2 (pc' := 10) (loc' := [some (.ref 43), some (.int a0), none]) (st' := [.int ((u 43 2) - 1), .int 0, .int a0]) (w' := (hp u fL fD, c, z)) rfl ?_
  obtain ⟨v926, hf3047, h⟩ := Option.bind_eq_some_iff.mp h
  refine mg_Ev.call (y := 58) (as := [.int a0, .int 0, .int ((u 43 2) - 1)]) (rest := []) (v := some (.int v926)) (w1 := (hp u fL fD, c, z)) rfl rfl (Nat.le_of_ble_eq_true rfl) ((ev_M_in hf3047).deep (by decide)) ?_
  refine mg_Ev.br (P := v926 = 0) (t := 16) (nx := 22) (st' := []) rfl rfl rfl rfl (fun hc3048 => ?_) (fun hc3048 => ?_)
  · rw [if_pos hc3048] at h
    refine mg_Ev.go 2 (pc' := 18) (loc' := [some (.ref 43), some (.int a0), none]) (st' := [.int 1, .ref 43]) (w' := (hp u fL fD, c, z)) rfl ?_
    obtain ⟨⟨v927, u928⟩, hf3049, h⟩ := Option.bind_eq_some_iff.mp h
    try dsimp only at h
    refine mg_Ev.call (y := 59) (as := [.ref 43, .int 1]) (rest := []) (v := some (.int v927)) (w1 := (hp u928 fL fD, c, z)) rfl rfl (Nat.le_of_ble_eq_true rfl) ((ev_M_fails hf3049).deep (by decide)) ?_
    cases h
    exact mg_Ev.fin rfl rfl rfl
  · rw [if_neg hc3048] at h
    refine mg_Ev.go 1 (pc' := 23) (loc' := [some (.ref 43), some (.int a0), none]) (st' := [.ref 43]) (w' := (hp u fL fD, c, z)) rfl ?_
    obtain ⟨u930, hf3050, h⟩ := Option.bind_eq_some_iff.mp h
    refine mg_Ev.call (y := 63) (as := [.ref 43]) (rest := []) (v := none) (w1 := (hp u930 fL fD, c, z)) rfl rfl (Nat.le_of_ble_eq_true rfl) ((ev_M_remembers hf3050).deep (by decide)) ?_
    refine mg_Ev.go 6 (pc' := 33) (loc' := [some (.ref 43), some (.int a0), some (.int (80 + (4 * a0)))]) (st' := []) (w' := (hp u930 fL fD, c, z)) rfl ?_
    obtain ⟨u931, hl3051, h⟩ := Option.bind_eq_some_iff.mp h
    try dsimp only at h
    refine mg_Ev.more (loc := [some (.ref 43), none, some (.int (80 + (4 * a0)))]) (ev_M_drop_L33 _ _ _ _ hl3051 _ ?_) ⟨rfl, ⟨rfl, trivial⟩⟩
    show mg_Ev _ _ _ 70 [some (.ref 43), none, none] [] (hp u931 fL fD, c, z) _
    refine mg_Ev.go 4 (pc' := 76) (loc' := [some (.ref 43), none, none]) (st' := [.int 2, .ref 44, .int 2, .ref 44]) (w' := (hp u931 fL fD, c, z)) rfl ?_
    refine mg_Ev.iald (a := 43) (n := 690) (f := u931 43) (j := 2) rfl (hpg_43 _ _ _) (by decide) (by decide) ?_
    refine mg_Ev.go 2 (pc' := 79) (loc' := [some (.ref 43), none, none]) (st' := [.int ((u931 43 2) - 1), .int 2, .ref 44]) (w' := (hp u931 fL fD, c, z)) rfl ?_
    refine mg_Ev.iast (a := 43) (n := 690) (j := 2) rfl (hpg_43 _ _ _) (by decide) (by decide) (hpa_43 _ _ _ _ _ _ _) ?_
    refine mg_Ev.go 4 (pc' := 86) (loc' := [some (.ref 43), none, none]) (st' := [.int 2, .ref 44, .ref 43]) (w' := (hp (mg_up u931 43 2 ((u931 43 2) - 1)) fL fD, c, z)) rfl ?_
    refine mg_Ev.iald (a := 43) (n := 690) (f := (mg_up u931 43 2 ((u931 43 2) - 1)) 43) (j := 2) rfl (hpg_43 _ _ _) (by decide) (by decide) ?_
    obtain ⟨⟨v932, u933⟩, hf3052, h⟩ := Option.bind_eq_some_iff.mp h
    try dsimp only at h
    refine mg_Ev.call (y := 60) (as := [.ref 43, .int ((mg_up u931 43 2 ((u931 43 2) - 1)) 43 2)]) (rest := []) (v := some (.int v932)) (w1 := (hp u933 fL fD, c, z)) rfl rfl (Nat.le_of_ble_eq_true rfl) ((ev_M_done hf3052).deep (by decide)) ?_
    cases h
    exact mg_Ev.fin rfl rfl rfl

def M_suspend (a0 : Int32) (a1 : Int32) (a2 : Int32) (u : mg_Rg) : Option (Int32 × mg_Rg) :=
  (M_isHead a0 u).bind fun v935 =>
  if v935 = 0 then
  (M_fails 1 u).bind fun p938 => match p938 with
    | (v936, u937) =>
      some (v936, u937)
  else
  (M_in a1 0 999 u).bind fun v939 =>
    if v939 = 0 then
    (M_fails 2 u).bind fun p942 => match p942 with
      | (v940, u941) =>
        some (v940, u941)
    else
    (M_in a2 a1 999 u).bind fun v943 =>
      if v943 = 0 then
      (M_fails 2 u).bind fun p946 => match p946 with
        | (v944, u945) =>
          some (v944, u945)
      else
      if (u 43 3) = 6 then
        (M_fails 3 u).bind fun p949 => match p949 with
          | (v947, u948) =>
            some (v947, u948)
        else
        (M_remembers u).bind fun u950 =>
          if (120 + (3 * (u950 43 3))) < 0 ∨ 690 ≤ (120 + (3 * (u950 43 3))).toNatClampNeg then none else
          if ((120 + (3 * (u950 43 3))) + 1) < 0 ∨ 690 ≤ ((120 + (3 * (u950 43 3))) + 1).toNatClampNeg then none else
          if ((120 + (3 * (u950 43 3))) + 2) < 0 ∨ 690 ≤ ((120 + (3 * (u950 43 3))) + 2).toNatClampNeg then none else
          (M_done (((mg_up (mg_up (mg_up (mg_up u950 43 ((120 + (3 * (u950 43 3))).toNatClampNeg) a0) 43 (((120 + (3 * (u950 43 3))) + 1).toNatClampNeg) a1) 43 (((120 + (3 * (u950 43 3))) + 2).toNatClampNeg) a2) 43 3 (((mg_up (mg_up (mg_up u950 43 ((120 + (3 * (u950 43 3))).toNatClampNeg) a0) 43 (((120 + (3 * (u950 43 3))) + 1).toNatClampNeg) a1) 43 (((120 + (3 * (u950 43 3))) + 2).toNatClampNeg) a2) 43 3) + 1)) 43 3) - 1) (mg_up (mg_up (mg_up (mg_up u950 43 ((120 + (3 * (u950 43 3))).toNatClampNeg) a0) 43 (((120 + (3 * (u950 43 3))) + 1).toNatClampNeg) a1) 43 (((120 + (3 * (u950 43 3))) + 2).toNatClampNeg) a2) 43 3 (((mg_up (mg_up (mg_up u950 43 ((120 + (3 * (u950 43 3))).toNatClampNeg) a0) 43 (((120 + (3 * (u950 43 3))) + 1).toNatClampNeg) a1) 43 (((120 + (3 * (u950 43 3))) + 2).toNatClampNeg) a2) 43 3) + 1))).bind fun p953 => match p953 with
          | (v951, u952) =>
            some (v951, u952)

set_option maxRecDepth 10000 in
set_option maxHeartbeats 4000000 in
theorem ev_M_suspend {sc : mg_Sc} {c z : Nat} {fL : Nat → Int64} {fD : Nat → UInt64} {a0 : Int32} {a1 : Int32} {a2 : Int32} {u : mg_Rg} {p : Int32 × mg_Rg} (h : M_suspend a0 a1 a2 u = some p) : mg_Ev sc 3 81 0 (mg_entry 81 [.ref 43, .int a0, .int a1, .int a2]) [] (hp u fL fD, c, z) (.inl (some (.int p.1)), (hp p.2 fL fD, c, z)) := by
  unfold M_suspend at h
  show mg_Ev _ _ _ 0 [some (.ref 43), some (.int a0), some (.int a1), some (.int a2), none] [] _ _
  refine mg_Ev.go 2 (pc' := 2) (loc' := [some (.ref 43), some (.int a0), some (.int a1), some (.int a2), none]) (st' := [.int a0, .ref 43]) (w' := (hp u fL fD, c, z)) rfl ?_
  obtain ⟨v935, hf3053, h⟩ := Option.bind_eq_some_iff.mp h
  refine mg_Ev.call (y := 64) (as := [.ref 43, .int a0]) (rest := []) (v := some (.int v935)) (w1 := (hp u fL fD, c, z)) rfl rfl (Nat.le_of_ble_eq_true rfl) ((ev_M_isHead hf3053).deep (by decide)) ?_
  refine mg_Ev.br (P := v935 = 0) (t := 8) (nx := 14) (st' := []) rfl rfl rfl rfl (fun hc3054 => ?_) (fun hc3054 => ?_)
  · rw [if_pos hc3054] at h
    refine mg_Ev.go 2 (pc' := 10) (loc' := [some (.ref 43), some (.int a0), some (.int a1), some (.int a2), none]) (st' := [.int 1, .ref 43]) (w' := (hp u fL fD, c, z)) rfl ?_
    obtain ⟨⟨v936, u937⟩, hf3055, h⟩ := Option.bind_eq_some_iff.mp h
    try dsimp only at h
    refine mg_Ev.call (y := 59) (as := [.ref 43, .int 1]) (rest := []) (v := some (.int v936)) (w1 := (hp u937 fL fD, c, z)) rfl rfl (Nat.le_of_ble_eq_true rfl) ((ev_M_fails hf3055).deep (by decide)) ?_
    cases h
    exact mg_Ev.fin rfl rfl rfl
  · rw [if_neg hc3054] at h
    refine mg_Ev.go 3 (pc' := 19) (loc' := [some (.ref 43), some (.int a0), some (.int a1), some (.int a2), none]) (st' := [.int 999, .int 0, .int a1]) (w' := (hp u fL fD, c, z)) rfl ?_
    obtain ⟨v939, hf3056, h⟩ := Option.bind_eq_some_iff.mp h
    refine mg_Ev.call (y := 58) (as := [.int a1, .int 0, .int 999]) (rest := []) (v := some (.int v939)) (w1 := (hp u fL fD, c, z)) rfl rfl (Nat.le_of_ble_eq_true rfl) ((ev_M_in hf3056).deep (by decide)) ?_
    refine mg_Ev.br (P := v939 = 0) (t := 36) (nx := 25) (st' := []) rfl rfl rfl rfl (fun hc3057 => ?_) (fun hc3057 => ?_)
    · rw [if_pos hc3057] at h
      refine mg_Ev.go 2 (pc' := 38) (loc' := [some (.ref 43), some (.int a0), some (.int a1), some (.int a2), none]) (st' := [.int 2, .ref 43]) (w' := (hp u fL fD, c, z)) rfl ?_
      obtain ⟨⟨v940, u941⟩, hf3058, h⟩ := Option.bind_eq_some_iff.mp h
      try dsimp only at h
      refine mg_Ev.call (y := 59) (as := [.ref 43, .int 2]) (rest := []) (v := some (.int v940)) (w1 := (hp u941 fL fD, c, z)) rfl rfl (Nat.le_of_ble_eq_true rfl) ((ev_M_fails hf3058).deep (by decide)) ?_
      cases h
      exact mg_Ev.fin rfl rfl rfl
    · rw [if_neg hc3057] at h
      refine mg_Ev.go 3 (pc' := 30) (loc' := [some (.ref 43), some (.int a0), some (.int a1), some (.int a2), none]) (st' := [.int 999, .int a1, .int a2]) (w' := (hp u fL fD, c, z)) rfl ?_
      obtain ⟨v943, hf3059, h⟩ := Option.bind_eq_some_iff.mp h
      refine mg_Ev.call (y := 58) (as := [.int a2, .int a1, .int 999]) (rest := []) (v := some (.int v943)) (w1 := (hp u fL fD, c, z)) rfl rfl (Nat.le_of_ble_eq_true rfl) ((ev_M_in hf3059).deep (by decide)) ?_
      refine mg_Ev.br (P := v943 = 0) (t := 36) (nx := 42) (st' := []) rfl rfl rfl rfl (fun hc3060 => ?_) (fun hc3060 => ?_)
      · rw [if_pos hc3060] at h
        refine mg_Ev.go 2 (pc' := 38) (loc' := [some (.ref 43), some (.int a0), some (.int a1), some (.int a2), none]) (st' := [.int 2, .ref 43]) (w' := (hp u fL fD, c, z)) rfl ?_
        obtain ⟨⟨v944, u945⟩, hf3061, h⟩ := Option.bind_eq_some_iff.mp h
        try dsimp only at h
        refine mg_Ev.call (y := 59) (as := [.ref 43, .int 2]) (rest := []) (v := some (.int v944)) (w1 := (hp u945 fL fD, c, z)) rfl rfl (Nat.le_of_ble_eq_true rfl) ((ev_M_fails hf3061).deep (by decide)) ?_
        cases h
        exact mg_Ev.fin rfl rfl rfl
      · rw [if_neg hc3060] at h
        refine mg_Ev.go 3 (pc' := 47) (loc' := [some (.ref 43), some (.int a0), some (.int a1), some (.int a2), none]) (st' := [.int 3, .ref 44]) (w' := (hp u fL fD, c, z)) rfl ?_
        refine mg_Ev.iald (a := 43) (n := 690) (f := u 43) (j := 3) rfl (hpg_43 _ _ _) (by decide) (by decide) ?_
        refine mg_Ev.go 1 (pc' := 50) (loc' := [some (.ref 43), some (.int a0), some (.int a1), some (.int a2), none]) (st' := [.int 6, .int (u 43 3)]) (w' := (hp u fL fD, c, z)) rfl ?_
        refine mg_Ev.br (P := (u 43 3) = 6) (t := 53) (nx := 59) (st' := []) rfl rfl rfl rfl (fun hc3062 => ?_) (fun hc3062 => ?_)
        · rw [if_pos hc3062] at h
          refine mg_Ev.go 2 (pc' := 55) (loc' := [some (.ref 43), some (.int a0), some (.int a1), some (.int a2), none]) (st' := [.int 3, .ref 43]) (w' := (hp u fL fD, c, z)) rfl ?_
          obtain ⟨⟨v947, u948⟩, hf3063, h⟩ := Option.bind_eq_some_iff.mp h
          try dsimp only at h
          refine mg_Ev.call (y := 59) (as := [.ref 43, .int 3]) (rest := []) (v := some (.int v947)) (w1 := (hp u948 fL fD, c, z)) rfl rfl (Nat.le_of_ble_eq_true rfl) ((ev_M_fails hf3063).deep (by decide)) ?_
          cases h
          exact mg_Ev.fin rfl rfl rfl
        · rw [if_neg hc3062] at h
          refine mg_Ev.go 1 (pc' := 60) (loc' := [some (.ref 43), some (.int a0), some (.int a1), some (.int a2), none]) (st' := [.ref 43]) (w' := (hp u fL fD, c, z)) rfl ?_
          obtain ⟨u950, hf3064, h⟩ := Option.bind_eq_some_iff.mp h
          refine mg_Ev.call (y := 63) (as := [.ref 43]) (rest := []) (v := none) (w1 := (hp u950 fL fD, c, z)) rfl rfl (Nat.le_of_ble_eq_true rfl) ((ev_M_remembers hf3064).deep (by decide)) ?_
          refine mg_Ev.go 5 (pc' := 71) (loc' := [some (.ref 43), some (.int a0), some (.int a1), some (.int a2), none]) (st' := [.int 3, .ref 44, .int 3, .int 120]) (w' := (hp u950 fL fD, c, z)) rfl ?_
          refine mg_Ev.iald (a := 43) (n := 690) (f := u950 43) (j := 3) rfl (hpg_43 _ _ _) (by decide) (by decide) ?_
          refine mg_Ev.go 7 (pc' := 83) (loc' := [some (.ref 43), some (.int a0), some (.int a1), some (.int a2), some (.int (120 + (3 * (u950 43 3))))]) (st' := [.int a0, .int (120 + (3 * (u950 43 3))), .ref 44]) (w' := (hp u950 fL fD, c, z)) rfl ?_
          by_cases hb3065 : (120 + (3 * (u950 43 3))) < 0 ∨ 690 ≤ (120 + (3 * (u950 43 3))).toNatClampNeg
          · rw [if_pos hb3065] at h
            cases h
          · rw [if_neg hb3065] at h
            refine mg_Ev.iast (a := 43) (n := 690) rfl (hpg_43 _ _ _) rfl hb3065 (hpa_43 _ _ _ _ _ _ _) ?_
            refine mg_Ev.go 6 (pc' := 93) (loc' := [some (.ref 43), some (.int a0), some (.int a1), some (.int a2), some (.int (120 + (3 * (u950 43 3))))]) (st' := [.int a1, .int ((120 + (3 * (u950 43 3))) + 1), .ref 44]) (w' := (hp (mg_up u950 43 ((120 + (3 * (u950 43 3))).toNatClampNeg) a0) fL fD, c, z)) rfl ?_
            by_cases hb3066 : ((120 + (3 * (u950 43 3))) + 1) < 0 ∨ 690 ≤ ((120 + (3 * (u950 43 3))) + 1).toNatClampNeg
            · rw [if_pos hb3066] at h
              cases h
            · rw [if_neg hb3066] at h
              refine mg_Ev.iast (a := 43) (n := 690) rfl (hpg_43 _ _ _) rfl hb3066 (hpa_43 _ _ _ _ _ _ _) ?_
              refine mg_Ev.go 6 (pc' := 103) (loc' := [some (.ref 43), some (.int a0), some (.int a1), some (.int a2), some (.int (120 + (3 * (u950 43 3))))]) (st' := [.int a2, .int ((120 + (3 * (u950 43 3))) + 2), .ref 44]) (w' := (hp (mg_up (mg_up u950 43 ((120 + (3 * (u950 43 3))).toNatClampNeg) a0) 43 (((120 + (3 * (u950 43 3))) + 1).toNatClampNeg) a1) fL fD, c, z)) rfl ?_
              by_cases hb3067 : ((120 + (3 * (u950 43 3))) + 2) < 0 ∨ 690 ≤ ((120 + (3 * (u950 43 3))) + 2).toNatClampNeg
              · rw [if_pos hb3067] at h
                cases h
              · rw [if_neg hb3067] at h
                refine mg_Ev.iast (a := 43) (n := 690) rfl (hpg_43 _ _ _) rfl hb3067 (hpa_43 _ _ _ _ _ _ _) ?_
                refine mg_Ev.go 4 (pc' := 110) (loc' := [some (.ref 43), some (.int a0), some (.int a1), some (.int a2), some (.int (120 + (3 * (u950 43 3))))]) (st' := [.int 3, .ref 44, .int 3, .ref 44]) (w' := (hp (mg_up (mg_up (mg_up u950 43 ((120 + (3 * (u950 43 3))).toNatClampNeg) a0) 43 (((120 + (3 * (u950 43 3))) + 1).toNatClampNeg) a1) 43 (((120 + (3 * (u950 43 3))) + 2).toNatClampNeg) a2) fL fD, c, z)) rfl ?_
                refine mg_Ev.iald (a := 43) (n := 690) (f := (mg_up (mg_up (mg_up u950 43 ((120 + (3 * (u950 43 3))).toNatClampNeg) a0) 43 (((120 + (3 * (u950 43 3))) + 1).toNatClampNeg) a1) 43 (((120 + (3 * (u950 43 3))) + 2).toNatClampNeg) a2) 43) (j := 3) rfl (hpg_43 _ _ _) (by decide) (by decide) ?_
                refine mg_Ev.go 2 (pc' := 113) (loc' := [some (.ref 43), some (.int a0), some (.int a1), some (.int a2), some (.int (120 + (3 * (u950 43 3))))]) (st' := [.int (((mg_up (mg_up (mg_up u950 43 ((120 + (3 * (u950 43 3))).toNatClampNeg) a0) 43 (((120 + (3 * (u950 43 3))) + 1).toNatClampNeg) a1) 43 (((120 + (3 * (u950 43 3))) + 2).toNatClampNeg) a2) 43 3) + 1), .int 3, .ref 44]) (w' := (hp (mg_up (mg_up (mg_up u950 43 ((120 + (3 * (u950 43 3))).toNatClampNeg) a0) 43 (((120 + (3 * (u950 43 3))) + 1).toNatClampNeg) a1) 43 (((120 + (3 * (u950 43 3))) + 2).toNatClampNeg) a2) fL fD, c, z)) rfl ?_
                refine mg_Ev.iast (a := 43) (n := 690) (j := 3) rfl (hpg_43 _ _ _) (by decide) (by decide) (hpa_43 _ _ _ _ _ _ _) ?_
                refine mg_Ev.go 4 (pc' := 120) (loc' := [some (.ref 43), some (.int a0), some (.int a1), some (.int a2), some (.int (120 + (3 * (u950 43 3))))]) (st' := [.int 3, .ref 44, .ref 43]) (w' := (hp (mg_up (mg_up (mg_up (mg_up u950 43 ((120 + (3 * (u950 43 3))).toNatClampNeg) a0) 43 (((120 + (3 * (u950 43 3))) + 1).toNatClampNeg) a1) 43 (((120 + (3 * (u950 43 3))) + 2).toNatClampNeg) a2) 43 3 (((mg_up (mg_up (mg_up u950 43 ((120 + (3 * (u950 43 3))).toNatClampNeg) a0) 43 (((120 + (3 * (u950 43 3))) + 1).toNatClampNeg) a1) 43 (((120 + (3 * (u950 43 3))) + 2).toNatClampNeg) a2) 43 3) + 1)) fL fD, c, z)) rfl ?_
                refine mg_Ev.iald (a := 43) (n := 690) (f := (mg_up (mg_up (mg_up (mg_up u950 43 ((120 + (3 * (u950 43 3))).toNatClampNeg) a0) 43 (((120 + (3 * (u950 43 3))) + 1).toNatClampNeg) a1) 43 (((120 + (3 * (u950 43 3))) + 2).toNatClampNeg) a2) 43 3 (((mg_up (mg_up (mg_up u950 43 ((120 + (3 * (u950 43 3))).toNatClampNeg) a0) 43 (((120 + (3 * (u950 43 3))) + 1).toNatClampNeg) a1) 43 (((120 + (3 * (u950 43 3))) + 2).toNatClampNeg) a2) 43 3) + 1)) 43) (j := 3) rfl (hpg_43 _ _ _) (by decide) (by decide) ?_
                refine mg_Ev.go 2 (pc' := 123) (loc' := [some (.ref 43), some (.int a0), some (.int a1), some (.int a2), some (.int (120 + (3 * (u950 43 3))))]) (st' := [.int (((mg_up (mg_up (mg_up (mg_up u950 43 ((120 + (3 * (u950 43 3))).toNatClampNeg) a0) 43 (((120 + (3 * (u950 43 3))) + 1).toNatClampNeg) a1) 43 (((120 + (3 * (u950 43 3))) + 2).toNatClampNeg) a2) 43 3 (((mg_up (mg_up (mg_up u950 43 ((120 + (3 * (u950 43 3))).toNatClampNeg) a0) 43 (((120 + (3 * (u950 43 3))) + 1).toNatClampNeg) a1) 43 (((120 + (3 * (u950 43 3))) + 2).toNatClampNeg) a2) 43 3) + 1)) 43 3) - 1), .ref 43]) (w' := (hp (mg_up (mg_up (mg_up (mg_up u950 43 ((120 + (3 * (u950 43 3))).toNatClampNeg) a0) 43 (((120 + (3 * (u950 43 3))) + 1).toNatClampNeg) a1) 43 (((120 + (3 * (u950 43 3))) + 2).toNatClampNeg) a2) 43 3 (((mg_up (mg_up (mg_up u950 43 ((120 + (3 * (u950 43 3))).toNatClampNeg) a0) 43 (((120 + (3 * (u950 43 3))) + 1).toNatClampNeg) a1) 43 (((120 + (3 * (u950 43 3))) + 2).toNatClampNeg) a2) 43 3) + 1)) fL fD, c, z)) rfl ?_
                obtain ⟨⟨v951, u952⟩, hf3068, h⟩ := Option.bind_eq_some_iff.mp h
                try dsimp only at h
                refine mg_Ev.call (y := 60) (as := [.ref 43, .int (((mg_up (mg_up (mg_up (mg_up u950 43 ((120 + (3 * (u950 43 3))).toNatClampNeg) a0) 43 (((120 + (3 * (u950 43 3))) + 1).toNatClampNeg) a1) 43 (((120 + (3 * (u950 43 3))) + 2).toNatClampNeg) a2) 43 3 (((mg_up (mg_up (mg_up u950 43 ((120 + (3 * (u950 43 3))).toNatClampNeg) a0) 43 (((120 + (3 * (u950 43 3))) + 1).toNatClampNeg) a1) 43 (((120 + (3 * (u950 43 3))) + 2).toNatClampNeg) a2) 43 3) + 1)) 43 3) - 1)]) (rest := []) (v := some (.int v951)) (w1 := (hp u952 fL fD, c, z)) rfl rfl (Nat.le_of_ble_eq_true rfl) ((ev_M_done hf3068).deep (by decide)) ?_
                cases h
                exact mg_Ev.fin rfl rfl rfl

