def M_refund (a0 : Int32) (u : mg_Rg) : Option (Int32 × mg_Rg) :=
  (M_isDecl a0 u).bind fun v1326 =>
  if v1326 = 0 then
  (M_fails 1 u).bind fun p1329 => match p1329 with
    | (v1327, u1328) =>
      some (v1327, u1328)
  else
  (M_hinders a0 u).bind fun v1330 =>
    if v1330 = 0 then
    (M_remembers u).bind fun u1331 =>
      (M_declAt a0 8 u1331).bind fun v1332 =>
      (M_declAt a0 5 u1331).bind fun v1333 =>
      if v1332 ≤ 0 then
      if ((208 + (16 * a0)) + 8) < 0 ∨ 690 ≤ ((208 + (16 * a0)) + 8).toNatClampNeg then none else
        if ((208 + (16 * a0)) + 7) < 0 ∨ 690 ≤ ((208 + (16 * a0)) + 7).toNatClampNeg then none else
        (M_declAt a0 9 (mg_up (mg_up u1331 43 (((208 + (16 * a0)) + 8).toNatClampNeg) 0) 43 (((208 + (16 * a0)) + 7).toNatClampNeg) 2)).bind fun v1334 =>
        (M_declAt a0 10 (mg_up (mg_up u1331 43 (((208 + (16 * a0)) + 8).toNatClampNeg) 0) 43 (((208 + (16 * a0)) + 7).toNatClampNeg) 2)).bind fun v1335 =>
        (M_givesBack a0 (v1334 + v1335) (mg_up (mg_up u1331 43 (((208 + (16 * a0)) + 8).toNatClampNeg) 0) 43 (((208 + (16 * a0)) + 7).toNatClampNeg) 2)).bind fun p1338 => match p1338 with
        | (v1336, u1337) =>
          (M_done v1336 u1337).bind fun p1341 => match p1341 with
          | (v1339, u1340) =>
            some (v1339, u1340)
      else
      (M_quotaAt v1333 5 u1331).bind fun v1342 =>
        if v1342 < (u1331 43 0) then
        if ((138 + (9 * v1333)) + 7) < 0 ∨ 690 ≤ ((138 + (9 * v1333)) + 7).toNatClampNeg then none else
          if ((138 + (9 * v1333)) + 7) < 0 ∨ 690 ≤ ((138 + (9 * v1333)) + 7).toNatClampNeg then none else
          if ((208 + (16 * a0)) + 8) < 0 ∨ 690 ≤ ((208 + (16 * a0)) + 8).toNatClampNeg then none else
          if ((208 + (16 * a0)) + 7) < 0 ∨ 690 ≤ ((208 + (16 * a0)) + 7).toNatClampNeg then none else
          (M_declAt a0 9 (mg_up (mg_up (mg_up u1331 43 (((138 + (9 * v1333)) + 7).toNatClampNeg) ((u1331 43 (((138 + (9 * v1333)) + 7).toNatClampNeg)) + v1332)) 43 (((208 + (16 * a0)) + 8).toNatClampNeg) 0) 43 (((208 + (16 * a0)) + 7).toNatClampNeg) 2)).bind fun v1343 =>
          (M_declAt a0 10 (mg_up (mg_up (mg_up u1331 43 (((138 + (9 * v1333)) + 7).toNatClampNeg) ((u1331 43 (((138 + (9 * v1333)) + 7).toNatClampNeg)) + v1332)) 43 (((208 + (16 * a0)) + 8).toNatClampNeg) 0) 43 (((208 + (16 * a0)) + 7).toNatClampNeg) 2)).bind fun v1344 =>
          (M_givesBack a0 (v1343 + v1344) (mg_up (mg_up (mg_up u1331 43 (((138 + (9 * v1333)) + 7).toNatClampNeg) ((u1331 43 (((138 + (9 * v1333)) + 7).toNatClampNeg)) + v1332)) 43 (((208 + (16 * a0)) + 8).toNatClampNeg) 0) 43 (((208 + (16 * a0)) + 7).toNatClampNeg) 2)).bind fun p1347 => match p1347 with
          | (v1345, u1346) =>
            (M_done v1345 u1346).bind fun p1350 => match p1350 with
            | (v1348, u1349) =>
              some (v1348, u1349)
        else
        if ((138 + (9 * v1333)) + 6) < 0 ∨ 690 ≤ ((138 + (9 * v1333)) + 6).toNatClampNeg then none else
          if ((138 + (9 * v1333)) + 6) < 0 ∨ 690 ≤ ((138 + (9 * v1333)) + 6).toNatClampNeg then none else
          if ((208 + (16 * a0)) + 8) < 0 ∨ 690 ≤ ((208 + (16 * a0)) + 8).toNatClampNeg then none else
          if ((208 + (16 * a0)) + 7) < 0 ∨ 690 ≤ ((208 + (16 * a0)) + 7).toNatClampNeg then none else
          (M_declAt a0 9 (mg_up (mg_up (mg_up u1331 43 (((138 + (9 * v1333)) + 6).toNatClampNeg) ((u1331 43 (((138 + (9 * v1333)) + 6).toNatClampNeg)) + v1332)) 43 (((208 + (16 * a0)) + 8).toNatClampNeg) 0) 43 (((208 + (16 * a0)) + 7).toNatClampNeg) 2)).bind fun v1351 =>
          (M_declAt a0 10 (mg_up (mg_up (mg_up u1331 43 (((138 + (9 * v1333)) + 6).toNatClampNeg) ((u1331 43 (((138 + (9 * v1333)) + 6).toNatClampNeg)) + v1332)) 43 (((208 + (16 * a0)) + 8).toNatClampNeg) 0) 43 (((208 + (16 * a0)) + 7).toNatClampNeg) 2)).bind fun v1352 =>
          (M_givesBack a0 (v1351 + v1352) (mg_up (mg_up (mg_up u1331 43 (((138 + (9 * v1333)) + 6).toNatClampNeg) ((u1331 43 (((138 + (9 * v1333)) + 6).toNatClampNeg)) + v1332)) 43 (((208 + (16 * a0)) + 8).toNatClampNeg) 0) 43 (((208 + (16 * a0)) + 7).toNatClampNeg) 2)).bind fun p1355 => match p1355 with
          | (v1353, u1354) =>
            (M_done v1353 u1354).bind fun p1358 => match p1358 with
            | (v1356, u1357) =>
              some (v1356, u1357)
    else
    (M_fails 2 (mg_up u 42 8 v1330)).bind fun p1361 => match p1361 with
      | (v1359, u1360) =>
        some (v1359, u1360)

set_option maxRecDepth 10000 in
set_option maxHeartbeats 4000000 in
theorem ev_M_refund {sc : mg_Sc} {c z : Nat} {fL : Nat → Int64} {fD : Nat → UInt64} {a0 : Int32} {u : mg_Rg} {p : Int32 × mg_Rg} (h : M_refund a0 u = some p) : mg_Ev sc 3 116 0 (mg_entry 116 [.ref 43, .int a0]) [] (hp u fL fD, c, z) (.inl (some (.int p.1)), (hp p.2 fL fD, c, z)) := by
  unfold M_refund at h
  show mg_Ev _ _ _ 0 [some (.ref 43), some (.int a0), none, none, none, none] [] _ _
  refine mg_Ev.go 2 (pc' := 2) (loc' := [some (.ref 43), some (.int a0), none, none, none, none]) (st' := [.int a0, .ref 43]) (w' := (hp u fL fD, c, z)) rfl ?_
  obtain ⟨v1326, hf3535, h⟩ := Option.bind_eq_some_iff.mp h
  refine mg_Ev.call (y := 101) (as := [.ref 43, .int a0]) (rest := []) (v := some (.int v1326)) (w1 := (hp u fL fD, c, z)) rfl rfl (Nat.le_of_ble_eq_true rfl) ((ev_M_isDecl hf3535).deep (by decide)) ?_
  refine mg_Ev.br (P := v1326 = 0) (t := 8) (nx := 14) (st' := []) rfl rfl rfl rfl (fun hc3536 => ?_) (fun hc3536 => ?_)
  · rw [if_pos hc3536] at h
    refine mg_Ev.go 2 (pc' := 10) (loc' := [some (.ref 43), some (.int a0), none, none, none, none]) (st' := [.int 1, .ref 43]) (w' := (hp u fL fD, c, z)) rfl ?_
    obtain ⟨⟨v1327, u1328⟩, hf3537, h⟩ := Option.bind_eq_some_iff.mp h
    try dsimp only at h
    refine mg_Ev.call (y := 59) (as := [.ref 43, .int 1]) (rest := []) (v := some (.int v1327)) (w1 := (hp u1328 fL fD, c, z)) rfl rfl (Nat.le_of_ble_eq_true rfl) ((ev_M_fails hf3537).deep (by decide)) ?_
    cases h
    exact mg_Ev.fin rfl rfl rfl
  · rw [if_neg hc3536] at h
    refine mg_Ev.go 2 (pc' := 16) (loc' := [some (.ref 43), some (.int a0), none, none, none, none]) (st' := [.int a0, .ref 43]) (w' := (hp u fL fD, c, z)) rfl ?_
    obtain ⟨v1330, hf3538, h⟩ := Option.bind_eq_some_iff.mp h
    refine mg_Ev.call (y := 114) (as := [.ref 43, .int a0]) (rest := []) (v := some (.int v1330)) (w1 := (hp u fL fD, c, z)) rfl rfl (Nat.le_of_ble_eq_true rfl) ((ev_M_hinders hf3538).deep (by decide)) ?_
    refine mg_Ev.go 2 (pc' := 21) (loc' := [some (.ref 43), some (.int a0), some (.int v1330), none, none, none]) (st' := [.int v1330]) (w' := (hp u fL fD, c, z)) rfl ?_
    refine mg_Ev.br (P := v1330 = 0) (t := 35) (nx := 24) (st' := []) rfl rfl rfl rfl (fun hc3539 => ?_) (fun hc3539 => ?_)
    · rw [if_pos hc3539] at h
      refine mg_Ev.go 1 (pc' := 36) (loc' := [some (.ref 43), some (.int a0), some (.int v1330), none, none, none]) (st' := [.ref 43]) (w' := (hp u fL fD, c, z)) rfl ?_
      obtain ⟨u1331, hf3540, h⟩ := Option.bind_eq_some_iff.mp h
      refine mg_Ev.call (y := 63) (as := [.ref 43]) (rest := []) (v := none) (w1 := (hp u1331 fL fD, c, z)) rfl rfl (Nat.le_of_ble_eq_true rfl) ((ev_M_remembers hf3540).deep (by decide)) ?_
      refine mg_Ev.go 9 (pc' := 52) (loc' := [some (.ref 43), some (.int a0), some (.int v1330), some (.int (208 + (16 * a0))), none, none]) (st' := [.int 8, .int a0, .ref 43]) (w' := (hp u1331 fL fD, c, z)) rfl ?_
      obtain ⟨v1332, hf3541, h⟩ := Option.bind_eq_some_iff.mp h
      refine mg_Ev.call (y := 68) (as := [.ref 43, .int a0, .int 8]) (rest := []) (v := some (.int v1332)) (w1 := (hp u1331 fL fD, c, z)) rfl rfl (Nat.le_of_ble_eq_true rfl) ((ev_M_declAt hf3541).deep (by decide)) ?_
      refine mg_Ev.go 4 (pc' := 60) (loc' := [some (.ref 43), some (.int a0), some (.int v1330), some (.int (208 + (16 * a0))), some (.int v1332), none]) (st' := [.int 5, .int a0, .ref 43]) (w' := (hp u1331 fL fD, c, z)) rfl ?_
      obtain ⟨v1333, hf3542, h⟩ := Option.bind_eq_some_iff.mp h
      refine mg_Ev.call (y := 68) (as := [.ref 43, .int a0, .int 5]) (rest := []) (v := some (.int v1333)) (w1 := (hp u1331 fL fD, c, z)) rfl rfl (Nat.le_of_ble_eq_true rfl) ((ev_M_declAt hf3542).deep (by decide)) ?_
      refine mg_Ev.go 2 (pc' := 67) (loc' := [some (.ref 43), some (.int a0), some (.int v1330), some (.int (208 + (16 * a0))), some (.int v1332), some (.int v1333)]) (st' := [.int v1332]) (w' := (hp u1331 fL fD, c, z)) rfl ?_
      refine mg_Ev.br (P := v1332 ≤ 0) (t := 113) (nx := 70) (st' := []) rfl rfl rfl rfl (fun hc3543 => ?_) (fun hc3543 => ?_)
      · rw [if_pos hc3543] at h
        refine mg_Ev.go 6 (pc' := 122) (loc' := [some (.ref 43), some (.int a0), some (.int v1330), some (.int (208 + (16 * a0))), some (.int v1332), some (.int v1333)]) (st' := [.int 0, .int ((208 + (16 * a0)) + 8), .ref 44]) (w' := (hp u1331 fL fD, c, z)) rfl ?_
        by_cases hb3544 : ((208 + (16 * a0)) + 8) < 0 ∨ 690 ≤ ((208 + (16 * a0)) + 8).toNatClampNeg
        · rw [if_pos hb3544] at h
          cases h
        · rw [if_neg hb3544] at h
          refine mg_Ev.iast (a := 43) (n := 690) rfl (hpg_43 _ _ _) rfl hb3544 (hpa_43 _ _ _ _ _ _ _) ?_
          refine mg_Ev.go 6 (pc' := 132) (loc' := [some (.ref 43), some (.int a0), some (.int v1330), some (.int (208 + (16 * a0))), some (.int v1332), some (.int v1333)]) (st' := [.int 2, .int ((208 + (16 * a0)) + 7), .ref 44]) (w' := (hp (mg_up u1331 43 (((208 + (16 * a0)) + 8).toNatClampNeg) 0) fL fD, c, z)) rfl ?_
          by_cases hb3545 : ((208 + (16 * a0)) + 7) < 0 ∨ 690 ≤ ((208 + (16 * a0)) + 7).toNatClampNeg
          · rw [if_pos hb3545] at h
            cases h
          · rw [if_neg hb3545] at h
            refine mg_Ev.iast (a := 43) (n := 690) rfl (hpg_43 _ _ _) rfl hb3545 (hpa_43 _ _ _ _ _ _ _) ?_
            refine mg_Ev.go 6 (pc' := 140) (loc' := [some (.ref 43), some (.int a0), some (.int v1330), some (.int (208 + (16 * a0))), some (.int v1332), some (.int v1333)]) (st' := [.int 9, .int a0, .ref 43, .int a0, .ref 43, .ref 43]) (w' := (hp (mg_up (mg_up u1331 43 (((208 + (16 * a0)) + 8).toNatClampNeg) 0) 43 (((208 + (16 * a0)) + 7).toNatClampNeg) 2) fL fD, c, z)) rfl ?_
            obtain ⟨v1334, hf3546, h⟩ := Option.bind_eq_some_iff.mp h
            refine mg_Ev.call (y := 68) (as := [.ref 43, .int a0, .int 9]) (rest := [.int a0, .ref 43, .ref 43]) (v := some (.int v1334)) (w1 := (hp (mg_up (mg_up u1331 43 (((208 + (16 * a0)) + 8).toNatClampNeg) 0) 43 (((208 + (16 * a0)) + 7).toNatClampNeg) 2) fL fD, c, z)) rfl rfl (Nat.le_of_ble_eq_true rfl) ((ev_M_declAt hf3546).deep (by decide)) ?_
            refine mg_Ev.go 3 (pc' := 147) (loc' := [some (.ref 43), some (.int a0), some (.int v1330), some (.int (208 + (16 * a0))), some (.int v1332), some (.int v1333)]) (st' := [.int 10, .int a0, .ref 43, .int v1334, .int a0, .ref 43, .ref 43]) (w' := (hp (mg_up (mg_up u1331 43 (((208 + (16 * a0)) + 8).toNatClampNeg) 0) 43 (((208 + (16 * a0)) + 7).toNatClampNeg) 2) fL fD, c, z)) rfl ?_
            obtain ⟨v1335, hf3547, h⟩ := Option.bind_eq_some_iff.mp h
            refine mg_Ev.call (y := 68) (as := [.ref 43, .int a0, .int 10]) (rest := [.int v1334, .int a0, .ref 43, .ref 43]) (v := some (.int v1335)) (w1 := (hp (mg_up (mg_up u1331 43 (((208 + (16 * a0)) + 8).toNatClampNeg) 0) 43 (((208 + (16 * a0)) + 7).toNatClampNeg) 2) fL fD, c, z)) rfl rfl (Nat.le_of_ble_eq_true rfl) ((ev_M_declAt hf3547).deep (by decide)) ?_
            refine mg_Ev.go 1 (pc' := 151) (loc' := [some (.ref 43), some (.int a0), some (.int v1330), some (.int (208 + (16 * a0))), some (.int v1332), some (.int v1333)]) (st' := [.int (v1334 + v1335), .int a0, .ref 43, .ref 43]) (w' := (hp (mg_up (mg_up u1331 43 (((208 + (16 * a0)) + 8).toNatClampNeg) 0) 43 (((208 + (16 * a0)) + 7).toNatClampNeg) 2) fL fD, c, z)) rfl ?_
            obtain ⟨⟨v1336, u1337⟩, hf3548, h⟩ := Option.bind_eq_some_iff.mp h
            try dsimp only at h
            refine mg_Ev.call (y := 115) (as := [.ref 43, .int a0, .int (v1334 + v1335)]) (rest := [.ref 43]) (v := some (.int v1336)) (w1 := (hp u1337 fL fD, c, z)) rfl rfl (Nat.le_of_ble_eq_true rfl) ((ev_M_givesBack hf3548).deep (by decide)) ?_
            obtain ⟨⟨v1339, u1340⟩, hf3549, h⟩ := Option.bind_eq_some_iff.mp h
            try dsimp only at h
            refine mg_Ev.call (y := 60) (as := [.ref 43, .int v1336]) (rest := []) (v := some (.int v1339)) (w1 := (hp u1340 fL fD, c, z)) rfl rfl (Nat.le_of_ble_eq_true rfl) ((ev_M_done hf3549).deep (by decide)) ?_
            cases h
            exact mg_Ev.fin rfl rfl rfl
      · rw [if_neg hc3543] at h
        refine mg_Ev.go 10 (pc' := 88) (loc' := [some (.ref 43), some (.int a0), some (.int v1330), some (.int (208 + (16 * a0))), some (.int v1332), some (.int v1333)]) (st' := [.int 0, .ref 44, .int (138 + (9 * v1333)), .ref 44]) (w' := (hp u1331 fL fD, c, z)) rfl ?_
        refine mg_Ev.iald (a := 43) (n := 690) (f := u1331 43) (j := 0) rfl (hpg_43 _ _ _) (by decide) (by decide) ?_
        refine mg_Ev.go 3 (pc' := 93) (loc' := [some (.ref 43), some (.int a0), some (.int v1330), some (.int (208 + (16 * a0))), some (.int v1332), some (.int v1333)]) (st' := [.int 5, .int v1333, .ref 43, .int (u1331 43 0), .int (138 + (9 * v1333)), .ref 44]) (w' := (hp u1331 fL fD, c, z)) rfl ?_
        obtain ⟨v1342, hf3550, h⟩ := Option.bind_eq_some_iff.mp h
        refine mg_Ev.call (y := 67) (as := [.ref 43, .int v1333, .int 5]) (rest := [.int (u1331 43 0), .int (138 + (9 * v1333)), .ref 44]) (v := some (.int v1342)) (w1 := (hp u1331 fL fD, c, z)) rfl rfl (Nat.le_of_ble_eq_true rfl) ((ev_M_quotaAt hf3550).deep (by decide)) ?_
        refine mg_Ev.br (P := v1342 < (u1331 43 0)) (t := 104) (nx := 99) (st' := [.int (138 + (9 * v1333)), .ref 44]) rfl rfl rfl rfl (fun hc3551 => ?_) (fun hc3551 => ?_)
        · rw [if_pos hc3551] at h
          refine mg_Ev.go 3 (pc' := 108) (loc' := [some (.ref 43), some (.int a0), some (.int v1330), some (.int (208 + (16 * a0))), some (.int v1332), some (.int v1333)]) (st' := [.int ((138 + (9 * v1333)) + 7), .ref 44, .int ((138 + (9 * v1333)) + 7), .ref 44]) (w' := (hp u1331 fL fD, c, z)) rfl ?_
          by_cases hb3552 : ((138 + (9 * v1333)) + 7) < 0 ∨ 690 ≤ ((138 + (9 * v1333)) + 7).toNatClampNeg
          · rw [if_pos hb3552] at h
            cases h
          · rw [if_neg hb3552] at h
            refine mg_Ev.iald (a := 43) (n := 690) (f := u1331 43) rfl (hpg_43 _ _ _) rfl hb3552 ?_
            refine mg_Ev.go 2 (pc' := 112) (loc' := [some (.ref 43), some (.int a0), some (.int v1330), some (.int (208 + (16 * a0))), some (.int v1332), some (.int v1333)]) (st' := [.int ((u1331 43 (((138 + (9 * v1333)) + 7).toNatClampNeg)) + v1332), .int ((138 + (9 * v1333)) + 7), .ref 44]) (w' := (hp u1331 fL fD, c, z)) rfl ?_
            by_cases hb3553 : ((138 + (9 * v1333)) + 7) < 0 ∨ 690 ≤ ((138 + (9 * v1333)) + 7).toNatClampNeg
            · rw [if_pos hb3553] at h
              cases h
            · rw [if_neg hb3553] at h
              refine mg_Ev.iast (a := 43) (n := 690) rfl (hpg_43 _ _ _) rfl hb3553 (hpa_43 _ _ _ _ _ _ _) ?_
              refine mg_Ev.go 6 (pc' := 122) (loc' := [some (.ref 43), some (.int a0), some (.int v1330), some (.int (208 + (16 * a0))), some (.int v1332), some (.int v1333)]) (st' := [.int 0, .int ((208 + (16 * a0)) + 8), .ref 44]) (w' := (hp (mg_up u1331 43 (((138 + (9 * v1333)) + 7).toNatClampNeg) ((u1331 43 (((138 + (9 * v1333)) + 7).toNatClampNeg)) + v1332)) fL fD, c, z)) rfl ?_
              by_cases hb3554 : ((208 + (16 * a0)) + 8) < 0 ∨ 690 ≤ ((208 + (16 * a0)) + 8).toNatClampNeg
              · rw [if_pos hb3554] at h
                cases h
              · rw [if_neg hb3554] at h
                refine mg_Ev.iast (a := 43) (n := 690) rfl (hpg_43 _ _ _) rfl hb3554 (hpa_43 _ _ _ _ _ _ _) ?_
                refine mg_Ev.go 6 (pc' := 132) (loc' := [some (.ref 43), some (.int a0), some (.int v1330), some (.int (208 + (16 * a0))), some (.int v1332), some (.int v1333)]) (st' := [.int 2, .int ((208 + (16 * a0)) + 7), .ref 44]) (w' := (hp (mg_up (mg_up u1331 43 (((138 + (9 * v1333)) + 7).toNatClampNeg) ((u1331 43 (((138 + (9 * v1333)) + 7).toNatClampNeg)) + v1332)) 43 (((208 + (16 * a0)) + 8).toNatClampNeg) 0) fL fD, c, z)) rfl ?_
                by_cases hb3555 : ((208 + (16 * a0)) + 7) < 0 ∨ 690 ≤ ((208 + (16 * a0)) + 7).toNatClampNeg
                · rw [if_pos hb3555] at h
                  cases h
                · rw [if_neg hb3555] at h
                  refine mg_Ev.iast (a := 43) (n := 690) rfl (hpg_43 _ _ _) rfl hb3555 (hpa_43 _ _ _ _ _ _ _) ?_
                  refine mg_Ev.go 6 (pc' := 140) (loc' := [some (.ref 43), some (.int a0), some (.int v1330), some (.int (208 + (16 * a0))), some (.int v1332), some (.int v1333)]) (st' := [.int 9, .int a0, .ref 43, .int a0, .ref 43, .ref 43]) (w' := (hp (mg_up (mg_up (mg_up u1331 43 (((138 + (9 * v1333)) + 7).toNatClampNeg) ((u1331 43 (((138 + (9 * v1333)) + 7).toNatClampNeg)) + v1332)) 43 (((208 + (16 * a0)) + 8).toNatClampNeg) 0) 43 (((208 + (16 * a0)) + 7).toNatClampNeg) 2) fL fD, c, z)) rfl ?_
                  obtain ⟨v1343, hf3556, h⟩ := Option.bind_eq_some_iff.mp h
                  refine mg_Ev.call (y := 68) (as := [.ref 43, .int a0, .int 9]) (rest := [.int a0, .ref 43, .ref 43]) (v := some (.int v1343)) (w1 := (hp (mg_up (mg_up (mg_up u1331 43 (((138 + (9 * v1333)) + 7).toNatClampNeg) ((u1331 43 (((138 + (9 * v1333)) + 7).toNatClampNeg)) + v1332)) 43 (((208 + (16 * a0)) + 8).toNatClampNeg) 0) 43 (((208 + (16 * a0)) + 7).toNatClampNeg) 2) fL fD, c, z)) rfl rfl (Nat.le_of_ble_eq_true rfl) ((ev_M_declAt hf3556).deep (by decide)) ?_
                  refine mg_Ev.go 3 (pc' := 147) (loc' := [some (.ref 43), some (.int a0), some (.int v1330), some (.int (208 + (16 * a0))), some (.int v1332), some (.int v1333)]) (st' := [.int 10, .int a0, .ref 43, .int v1343, .int a0, .ref 43, .ref 43]) (w' := (hp (mg_up (mg_up (mg_up u1331 43 (((138 + (9 * v1333)) + 7).toNatClampNeg) ((u1331 43 (((138 + (9 * v1333)) + 7).toNatClampNeg)) + v1332)) 43 (((208 + (16 * a0)) + 8).toNatClampNeg) 0) 43 (((208 + (16 * a0)) + 7).toNatClampNeg) 2) fL fD, c, z)) rfl ?_
                  obtain ⟨v1344, hf3557, h⟩ := Option.bind_eq_some_iff.mp h
                  refine mg_Ev.call (y := 68) (as := [.ref 43, .int a0, .int 10]) (rest := [.int v1343, .int a0, .ref 43, .ref 43]) (v := some (.int v1344)) (w1 := (hp (mg_up (mg_up (mg_up u1331 43 (((138 + (9 * v1333)) + 7).toNatClampNeg) ((u1331 43 (((138 + (9 * v1333)) + 7).toNatClampNeg)) + v1332)) 43 (((208 + (16 * a0)) + 8).toNatClampNeg) 0) 43 (((208 + (16 * a0)) + 7).toNatClampNeg) 2) fL fD, c, z)) rfl rfl (Nat.le_of_ble_eq_true rfl) ((ev_M_declAt hf3557).deep (by decide)) ?_
                  refine mg_Ev.go 1 (pc' := 151) (loc' := [some (.ref 43), some (.int a0), some (.int v1330), some (.int (208 + (16 * a0))), some (.int v1332), some (.int v1333)]) (st' := [.int (v1343 + v1344), .int a0, .ref 43, .ref 43]) (w' := (hp (mg_up (mg_up (mg_up u1331 43 (((138 + (9 * v1333)) + 7).toNatClampNeg) ((u1331 43 (((138 + (9 * v1333)) + 7).toNatClampNeg)) + v1332)) 43 (((208 + (16 * a0)) + 8).toNatClampNeg) 0) 43 (((208 + (16 * a0)) + 7).toNatClampNeg) 2) fL fD, c, z)) rfl ?_
                  obtain ⟨⟨v1345, u1346⟩, hf3558, h⟩ := Option.bind_eq_some_iff.mp h
                  try dsimp only at h
                  refine mg_Ev.call (y := 115) (as := [.ref 43, .int a0, .int (v1343 + v1344)]) (rest := [.ref 43]) (v := some (.int v1345)) (w1 := (hp u1346 fL fD, c, z)) rfl rfl (Nat.le_of_ble_eq_true rfl) ((ev_M_givesBack hf3558).deep (by decide)) ?_
                  obtain ⟨⟨v1348, u1349⟩, hf3559, h⟩ := Option.bind_eq_some_iff.mp h
                  try dsimp only at h
                  refine mg_Ev.call (y := 60) (as := [.ref 43, .int v1345]) (rest := []) (v := some (.int v1348)) (w1 := (hp u1349 fL fD, c, z)) rfl rfl (Nat.le_of_ble_eq_true rfl) ((ev_M_done hf3559).deep (by decide)) ?_
                  cases h
                  exact mg_Ev.fin rfl rfl rfl
        · rw [if_neg hc3551] at h
          refine mg_Ev.go 4 (pc' := 108) (loc' := [some (.ref 43), some (.int a0), some (.int v1330), some (.int (208 + (16 * a0))), some (.int v1332), some (.int v1333)]) (st' := [.int ((138 + (9 * v1333)) + 6), .ref 44, .int ((138 + (9 * v1333)) + 6), .ref 44]) (w' := (hp u1331 fL fD, c, z)) rfl ?_
          by_cases hb3560 : ((138 + (9 * v1333)) + 6) < 0 ∨ 690 ≤ ((138 + (9 * v1333)) + 6).toNatClampNeg
          · rw [if_pos hb3560] at h
            cases h
          · rw [if_neg hb3560] at h
            refine mg_Ev.iald (a := 43) (n := 690) (f := u1331 43) rfl (hpg_43 _ _ _) rfl hb3560 ?_
            refine mg_Ev.go 2 (pc' := 112) (loc' := [some (.ref 43), some (.int a0), some (.int v1330), some (.int (208 + (16 * a0))), some (.int v1332), some (.int v1333)]) (st' := [.int ((u1331 43 (((138 + (9 * v1333)) + 6).toNatClampNeg)) + v1332), .int ((138 + (9 * v1333)) + 6), .ref 44]) (w' := (hp u1331 fL fD, c, z)) rfl ?_
            by_cases hb3561 : ((138 + (9 * v1333)) + 6) < 0 ∨ 690 ≤ ((138 + (9 * v1333)) + 6).toNatClampNeg
            · rw [if_pos hb3561] at h
              cases h
            · rw [if_neg hb3561] at h
              refine mg_Ev.iast (a := 43) (n := 690) rfl (hpg_43 _ _ _) rfl hb3561 (hpa_43 _ _ _ _ _ _ _) ?_
              refine mg_Ev.go 6 (pc' := 122) (loc' := [some (.ref 43), some (.int a0), some (.int v1330), some (.int (208 + (16 * a0))), some (.int v1332), some (.int v1333)]) (st' := [.int 0, .int ((208 + (16 * a0)) + 8), .ref 44]) (w' := (hp (mg_up u1331 43 (((138 + (9 * v1333)) + 6).toNatClampNeg) ((u1331 43 (((138 + (9 * v1333)) + 6).toNatClampNeg)) + v1332)) fL fD, c, z)) rfl ?_
              by_cases hb3562 : ((208 + (16 * a0)) + 8) < 0 ∨ 690 ≤ ((208 + (16 * a0)) + 8).toNatClampNeg
              · rw [if_pos hb3562] at h
                cases h
              · rw [if_neg hb3562] at h
                refine mg_Ev.iast (a := 43) (n := 690) rfl (hpg_43 _ _ _) rfl hb3562 (hpa_43 _ _ _ _ _ _ _) ?_
                refine mg_Ev.go 6 (pc' := 132) (loc' := [some (.ref 43), some (.int a0), some (.int v1330), some (.int (208 + (16 * a0))), some (.int v1332), some (.int v1333)]) (st' := [.int 2, .int ((208 + (16 * a0)) + 7), .ref 44]) (w' := (hp (mg_up (mg_up u1331 43 (((138 + (9 * v1333)) + 6).toNatClampNeg) ((u1331 43 (((138 + (9 * v1333)) + 6).toNatClampNeg)) + v1332)) 43 (((208 + (16 * a0)) + 8).toNatClampNeg) 0) fL fD, c, z)) rfl ?_
                by_cases hb3563 : ((208 + (16 * a0)) + 7) < 0 ∨ 690 ≤ ((208 + (16 * a0)) + 7).toNatClampNeg
                · rw [if_pos hb3563] at h
                  cases h
                · rw [if_neg hb3563] at h
                  refine mg_Ev.iast (a := 43) (n := 690) rfl (hpg_43 _ _ _) rfl hb3563 (hpa_43 _ _ _ _ _ _ _) ?_
                  refine mg_Ev.go 6 (pc' := 140) (loc' := [some (.ref 43), some (.int a0), some (.int v1330), some (.int (208 + (16 * a0))), some (.int v1332), some (.int v1333)]) (st' := [.int 9, .int a0, .ref 43, .int a0, .ref 43, .ref 43]) (w' := (hp (mg_up (mg_up (mg_up u1331 43 (((138 + (9 * v1333)) + 6).toNatClampNeg) ((u1331 43 (((138 + (9 * v1333)) + 6).toNatClampNeg)) + v1332)) 43 (((208 + (16 * a0)) + 8).toNatClampNeg) 0) 43 (((208 + (16 * a0)) + 7).toNatClampNeg) 2) fL fD, c, z)) rfl ?_
                  obtain ⟨v1351, hf3564, h⟩ := Option.bind_eq_some_iff.mp h
                  refine mg_Ev.call (y := 68) (as := [.ref 43, .int a0, .int 9]) (rest := [.int a0, .ref 43, .ref 43]) (v := some (.int v1351)) (w1 := (hp (mg_up (mg_up (mg_up u1331 43 (((138 + (9 * v1333)) + 6).toNatClampNeg) ((u1331 43 (((138 + (9 * v1333)) + 6).toNatClampNeg)) + v1332)) 43 (((208 + (16 * a0)) + 8).toNatClampNeg) 0) 43 (((208 + (16 * a0)) + 7).toNatClampNeg) 2) fL fD, c, z)) rfl rfl (Nat.le_of_ble_eq_true rfl) ((ev_M_declAt hf3564).deep (by decide)) ?_
                  refine mg_Ev.go 3 (pc' := 147) (loc' := [some (.ref 43), some (.int a0), some (.int v1330), some (.int (208 + (16 * a0))), some (.int v1332), some (.int v1333)]) (st' := [.int 10, .int a0, .ref 43, .int v1351, .int a0, .ref 43, .ref 43]) (w' := (hp (mg_up (mg_up (mg_up u1331 43 (((138 + (9 * v1333)) + 6).toNatClampNeg) ((u1331 43 (((138 + (9 * v1333)) + 6).toNatClampNeg)) + v1332)) 43 (((208 + (16 * a0)) + 8).toNatClampNeg) 0) 43 (((208 + (16 * a0)) + 7).toNatClampNeg) 2) fL fD, c, z)) rfl ?_
                  obtain ⟨v1352, hf3565, h⟩ := Option.bind_eq_some_iff.mp h
                  refine mg_Ev.call (y := 68) (as := [.ref 43, .int a0, .int 10]) (rest := [.int v1351, .int a0, .ref 43, .ref 43]) (v := some (.int v1352)) (w1 := (hp (mg_up (mg_up (mg_up u1331 43 (((138 + (9 * v1333)) + 6).toNatClampNeg) ((u1331 43 (((138 + (9 * v1333)) + 6).toNatClampNeg)) + v1332)) 43 (((208 + (16 * a0)) + 8).toNatClampNeg) 0) 43 (((208 + (16 * a0)) + 7).toNatClampNeg) 2) fL fD, c, z)) rfl rfl (Nat.le_of_ble_eq_true rfl) ((ev_M_declAt hf3565).deep (by decide)) ?_
                  refine mg_Ev.go 1 (pc' := 151) (loc' := [some (.ref 43), some (.int a0), some (.int v1330), some (.int (208 + (16 * a0))), some (.int v1332), some (.int v1333)]) (st' := [.int (v1351 + v1352), .int a0, .ref 43, .ref 43]) (w' := (hp (mg_up (mg_up (mg_up u1331 43 (((138 + (9 * v1333)) + 6).toNatClampNeg) ((u1331 43 (((138 + (9 * v1333)) + 6).toNatClampNeg)) + v1332)) 43 (((208 + (16 * a0)) + 8).toNatClampNeg) 0) 43 (((208 + (16 * a0)) + 7).toNatClampNeg) 2) fL fD, c, z)) rfl ?_
                  obtain ⟨⟨v1353, u1354⟩, hf3566, h⟩ := Option.bind_eq_some_iff.mp h
                  try dsimp only at h
                  refine mg_Ev.call (y := 115) (as := [.ref 43, .int a0, .int (v1351 + v1352)]) (rest := [.ref 43]) (v := some (.int v1353)) (w1 := (hp u1354 fL fD, c, z)) rfl rfl (Nat.le_of_ble_eq_true rfl) ((ev_M_givesBack hf3566).deep (by decide)) ?_
                  obtain ⟨⟨v1356, u1357⟩, hf3567, h⟩ := Option.bind_eq_some_iff.mp h
                  try dsimp only at h
                  refine mg_Ev.call (y := 60) (as := [.ref 43, .int v1353]) (rest := []) (v := some (.int v1356)) (w1 := (hp u1357 fL fD, c, z)) rfl rfl (Nat.le_of_ble_eq_true rfl) ((ev_M_done hf3567).deep (by decide)) ?_
                  cases h
                  exact mg_Ev.fin rfl rfl rfl
    · rw [if_neg hc3539] at h
      refine mg_Ev.go 2 (pc' := 26) (loc' := [some (.ref 43), some (.int a0), some (.int v1330), none, none, none]) (st' := [.int v1330, .ref 43]) (w' := (hp u fL fD, c, z)) rfl ?_
      refine mg_Ev.put rfl (hpg_42 _ _ _) (Nat.le_of_ble_eq_true rfl) rfl (hpf_42_8 _ _ _ _ _ _) ?_
      refine mg_Ev.go 2 (pc' := 31) (loc' := [some (.ref 43), some (.int a0), some (.int v1330), none, none, none]) (st' := [.int 2, .ref 43]) (w' := (hp (mg_up u 42 8 v1330) fL fD, c, z)) rfl ?_
      obtain ⟨⟨v1359, u1360⟩, hf3568, h⟩ := Option.bind_eq_some_iff.mp h
      try dsimp only at h
      refine mg_Ev.call (y := 59) (as := [.ref 43, .int 2]) (rest := []) (v := some (.int v1359)) (w1 := (hp u1360 fL fD, c, z)) rfl rfl (Nat.le_of_ble_eq_true rfl) ((ev_M_fails hf3568).deep (by decide)) ?_
      cases h
      exact mg_Ev.fin rfl rfl rfl

def M_prove (a0 : Int32) (a1 : Int32) (u : mg_Rg) : Option (Int32 × mg_Rg) :=
  (M_isDecl a0 u).bind fun v1362 =>
  if v1362 = 0 then
  (M_fails 1 u).bind fun p1365 => match p1365 with
    | (v1363, u1364) =>
      some (v1363, u1364)
  else
  (M_in a1 1 2 u).bind fun v1366 =>
    if v1366 = 0 then
    (M_fails 2 u).bind fun p1369 => match p1369 with
      | (v1367, u1368) =>
        some (v1367, u1368)
    else
    (M_hinders a0 u).bind fun v1370 =>
      if v1370 = 0 then
      (M_remembers u).bind fun u1371 =>
        if ((208 + (16 * a0)) + 4) < 0 ∨ 690 ≤ ((208 + (16 * a0)) + 4).toNatClampNeg then none else
        (M_rateNow a0 (mg_up u1371 43 (((208 + (16 * a0)) + 4).toNatClampNeg) a1)).bind fun v1372 =>
        (M_declAt a0 2 (mg_up u1371 43 (((208 + (16 * a0)) + 4).toNatClampNeg) a1)).bind fun v1373 =>
        (M_inQuota a0 (mg_up u1371 43 (((208 + (16 * a0)) + 4).toNatClampNeg) a1)).bind fun v1374 =>
        (M_declAt a0 10 (mg_up u1371 43 (((208 + (16 * a0)) + 4).toNatClampNeg) a1)).bind fun v1375 =>
        if 0 < (v1375 - (((v1373 - v1374) * v1372) / 1000)) then
        (M_fromNow a0 (mg_up u1371 43 (((208 + (16 * a0)) + 4).toNatClampNeg) a1)).bind fun v1376 =>
          if ((208 + (16 * a0)) + 13) < 0 ∨ 690 ≤ ((208 + (16 * a0)) + 13).toNatClampNeg then none else
          if ((208 + (16 * a0)) + 12) < 0 ∨ 690 ≤ ((208 + (16 * a0)) + 12).toNatClampNeg then none else
          if ((208 + (16 * a0)) + 10) < 0 ∨ 690 ≤ ((208 + (16 * a0)) + 10).toNatClampNeg then none else
          (M_givesBack a0 (v1375 - (((v1373 - v1374) * v1372) / 1000)) (mg_up (mg_up (mg_up (mg_up u1371 43 (((208 + (16 * a0)) + 4).toNatClampNeg) a1) 43 (((208 + (16 * a0)) + 13).toNatClampNeg) v1376) 43 (((208 + (16 * a0)) + 12).toNatClampNeg) v1372) 43 (((208 + (16 * a0)) + 10).toNatClampNeg) (((v1373 - v1374) * v1372) / 1000))).bind fun p1379 => match p1379 with
          | (v1377, u1378) =>
            (M_done v1377 u1378).bind fun p1382 => match p1382 with
            | (v1380, u1381) =>
              some (v1380, u1381)
        else
        (M_done 0 (mg_up u1371 43 (((208 + (16 * a0)) + 4).toNatClampNeg) a1)).bind fun p1385 => match p1385 with
          | (v1383, u1384) =>
            some (v1383, u1384)
      else
      (M_fails 3 (mg_up u 42 8 v1370)).bind fun p1388 => match p1388 with
        | (v1386, u1387) =>
          some (v1386, u1387)

set_option maxRecDepth 10000 in
set_option maxHeartbeats 4000000 in
theorem ev_M_prove {sc : mg_Sc} {c z : Nat} {fL : Nat → Int64} {fD : Nat → UInt64} {a0 : Int32} {a1 : Int32} {u : mg_Rg} {p : Int32 × mg_Rg} (h : M_prove a0 a1 u = some p) : mg_Ev sc 7 117 0 (mg_entry 117 [.ref 43, .int a0, .int a1]) [] (hp u fL fD, c, z) (.inl (some (.int p.1)), (hp p.2 fL fD, c, z)) := by
  unfold M_prove at h
  show mg_Ev _ _ _ 0 [some (.ref 43), some (.int a0), some (.int a1), none, none, none, none, none] [] _ _
  refine mg_Ev.go 2 (pc' := 2) (loc' := [some (.ref 43), some (.int a0), some (.int a1), none, none, none, none, none]) (st' := [.int a0, .ref 43]) (w' := (hp u fL fD, c, z)) rfl ?_
  obtain ⟨v1362, hf3569, h⟩ := Option.bind_eq_some_iff.mp h
  refine mg_Ev.call (y := 101) (as := [.ref 43, .int a0]) (rest := []) (v := some (.int v1362)) (w1 := (hp u fL fD, c, z)) rfl rfl (Nat.le_of_ble_eq_true rfl) ((ev_M_isDecl hf3569).deep (by decide)) ?_
  refine mg_Ev.br (P := v1362 = 0) (t := 8) (nx := 14) (st' := []) rfl rfl rfl rfl (fun hc3570 => ?_) (fun hc3570 => ?_)
  · rw [if_pos hc3570] at h
    refine mg_Ev.go 2 (pc' := 10) (loc' := [some (.ref 43), some (.int a0), some (.int a1), none, none, none, none, none]) (st' := [.int 1, .ref 43]) (w' := (hp u fL fD, c, z)) rfl ?_
    obtain ⟨⟨v1363, u1364⟩, hf3571, h⟩ := Option.bind_eq_some_iff.mp h
    try dsimp only at h
    refine mg_Ev.call (y := 59) (as := [.ref 43, .int 1]) (rest := []) (v := some (.int v1363)) (w1 := (hp u1364 fL fD, c, z)) rfl rfl (Nat.le_of_ble_eq_true rfl) ((ev_M_fails hf3571).deep (by decide)) ?_
    cases h
    exact mg_Ev.fin rfl rfl rfl
  · rw [if_neg hc3570] at h
    refine mg_Ev.go 3 (pc' := 17) (loc' := [some (.ref 43), some (.int a0), some (.int a1), none, none, none, none, none]) (st' := [.int 2, .int 1, .int a1]) (w' := (hp u fL fD, c, z)) rfl ?_
    obtain ⟨v1366, hf3572, h⟩ := Option.bind_eq_some_iff.mp h
    refine mg_Ev.call (y := 58) (as := [.int a1, .int 1, .int 2]) (rest := []) (v := some (.int v1366)) (w1 := (hp u fL fD, c, z)) rfl rfl (Nat.le_of_ble_eq_true rfl) ((ev_M_in hf3572).deep (by decide)) ?_
    refine mg_Ev.br (P := v1366 = 0) (t := 23) (nx := 29) (st' := []) rfl rfl rfl rfl (fun hc3573 => ?_) (fun hc3573 => ?_)
    · rw [if_pos hc3573] at h
      refine mg_Ev.go 2 (pc' := 25) (loc' := [some (.ref 43), some (.int a0), some (.int a1), none, none, none, none, none]) (st' := [.int 2, .ref 43]) (w' := (hp u fL fD, c, z)) rfl ?_
      obtain ⟨⟨v1367, u1368⟩, hf3574, h⟩ := Option.bind_eq_some_iff.mp h
      try dsimp only at h
      refine mg_Ev.call (y := 59) (as := [.ref 43, .int 2]) (rest := []) (v := some (.int v1367)) (w1 := (hp u1368 fL fD, c, z)) rfl rfl (Nat.le_of_ble_eq_true rfl) ((ev_M_fails hf3574).deep (by decide)) ?_
      cases h
      exact mg_Ev.fin rfl rfl rfl
    · rw [if_neg hc3573] at h
      refine mg_Ev.go 2 (pc' := 31) (loc' := [some (.ref 43), some (.int a0), some (.int a1), none, none, none, none, none]) (st' := [.int a0, .ref 43]) (w' := (hp u fL fD, c, z)) rfl ?_
      obtain ⟨v1370, hf3575, h⟩ := Option.bind_eq_some_iff.mp h
      refine mg_Ev.call (y := 114) (as := [.ref 43, .int a0]) (rest := []) (v := some (.int v1370)) (w1 := (hp u fL fD, c, z)) rfl rfl (Nat.le_of_ble_eq_true rfl) ((ev_M_hinders hf3575).deep (by decide)) ?_
      refine mg_Ev.go 2 (pc' := 36) (loc' := [some (.ref 43), some (.int a0), some (.int a1), some (.int v1370), none, none, none, none]) (st' := [.int v1370]) (w' := (hp u fL fD, c, z)) rfl ?_
      refine mg_Ev.br (P := v1370 = 0) (t := 50) (nx := 39) (st' := []) rfl rfl rfl rfl (fun hc3576 => ?_) (fun hc3576 => ?_)
      · rw [if_pos hc3576] at h
        refine mg_Ev.go 1 (pc' := 51) (loc' := [some (.ref 43), some (.int a0), some (.int a1), some (.int v1370), none, none, none, none]) (st' := [.ref 43]) (w' := (hp u fL fD, c, z)) rfl ?_
        obtain ⟨u1371, hf3577, h⟩ := Option.bind_eq_some_iff.mp h
        refine mg_Ev.call (y := 63) (as := [.ref 43]) (rest := []) (v := none) (w1 := (hp u1371 fL fD, c, z)) rfl rfl (Nat.le_of_ble_eq_true rfl) ((ev_M_remembers hf3577).deep (by decide)) ?_
        refine mg_Ev.go 10 (pc' := 71) (loc' := [some (.ref 43), some (.int a0), some (.int a1), some (.int v1370), some (.int (208 + (16 * a0))), none, none, none]) (st' := [.int 4, .int (208 + (16 * a0)), .ref 44]) (w' := (hp u1371 fL fD, c, z)) rfl ?_
        refine mg_Ev.go 2 (pc' := 73) (loc' := [some (.ref 43), some (.int a0), some (.int a1), some (.int v1370), some (.int (208 + (16 * a0))), none, none, none]) (st' := [.int a1, .int ((208 + (16 * a0)) + 4), .ref 44]) (w' := (hp u1371 fL fD, c, z)) rfl ?_
        by_cases hb3578 : ((208 + (16 * a0)) + 4) < 0 ∨ 690 ≤ ((208 + (16 * a0)) + 4).toNatClampNeg
        · rw [if_pos hb3578] at h
          cases h
        · rw [if_neg hb3578] at h
          refine mg_Ev.iast (a := 43) (n := 690) rfl (hpg_43 _ _ _) rfl hb3578 (hpa_43 _ _ _ _ _ _ _) ?_
          refine mg_Ev.go 2 (pc' := 76) (loc' := [some (.ref 43), some (.int a0), some (.int a1), some (.int v1370), some (.int (208 + (16 * a0))), none, none, none]) (st' := [.int a0, .ref 43]) (w' := (hp (mg_up u1371 43 (((208 + (16 * a0)) + 4).toNatClampNeg) a1) fL fD, c, z)) rfl ?_
          obtain ⟨v1372, hf3579, h⟩ := Option.bind_eq_some_iff.mp h
          refine mg_Ev.call (y := 103) (as := [.ref 43, .int a0]) (rest := []) (v := some (.int v1372)) (w1 := (hp (mg_up u1371 43 (((208 + (16 * a0)) + 4).toNatClampNeg) a1) fL fD, c, z)) rfl rfl (Nat.le_of_ble_eq_true rfl) ((ev_M_rateNow hf3579).deep (by decide)) ?_
          refine mg_Ev.go 4 (pc' := 84) (loc' := [some (.ref 43), some (.int a0), some (.int a1), some (.int v1370), some (.int (208 + (16 * a0))), some (.int v1372), none, none]) (st' := [.int 2, .int a0, .ref 43]) (w' := (hp (mg_up u1371 43 (((208 + (16 * a0)) + 4).toNatClampNeg) a1) fL fD, c, z)) rfl ?_
          obtain ⟨v1373, hf3580, h⟩ := Option.bind_eq_some_iff.mp h
          refine mg_Ev.call (y := 68) (as := [.ref 43, .int a0, .int 2]) (rest := []) (v := some (.int v1373)) (w1 := (hp (mg_up u1371 43 (((208 + (16 * a0)) + 4).toNatClampNeg) a1) fL fD, c, z)) rfl rfl (Nat.le_of_ble_eq_true rfl) ((ev_M_declAt hf3580).deep (by decide)) ?_
          refine mg_Ev.go 2 (pc' := 89) (loc' := [some (.ref 43), some (.int a0), some (.int a1), some (.int v1370), some (.int (208 + (16 * a0))), some (.int v1372), none, none]) (st' := [.int a0, .ref 43, .int v1373]) (w' := (hp (mg_up u1371 43 (((208 + (16 * a0)) + 4).toNatClampNeg) a1) fL fD, c, z)) rfl ?_
          obtain ⟨v1374, hf3581, h⟩ := Option.bind_eq_some_iff.mp h
          refine mg_Ev.call (y := 110) (as := [.ref 43, .int a0]) (rest := [.int v1373]) (v := some (.int v1374)) (w1 := (hp (mg_up u1371 43 (((208 + (16 * a0)) + 4).toNatClampNeg) a1) fL fD, c, z)) rfl rfl (Nat.le_of_ble_eq_true rfl) ((ev_M_inQuota hf3581).deep (by decide)) ?_
          refine mg_Ev.go 4 (pc' := 99) (loc' := [some (.ref 43), some (.int a0), some (.int a1), some (.int v1370), some (.int (208 + (16 * a0))), some (.int v1372), none, none]) (st' := [.int 1000, .int ((v1373 - v1374) * v1372)]) (w' := (hp (mg_up u1371 43 (((208 + (16 * a0)) + 4).toNatClampNeg) a1) fL fD, c, z)) rfl ?_
          refine mg_Ev.idiv rfl (by decide) ?_
          refine mg_Ev.go 4 (pc' := 106) (loc' := [some (.ref 43), some (.int a0), some (.int a1), some (.int v1370), some (.int (208 + (16 * a0))), some (.int v1372), some (.int (((v1373 - v1374) * v1372) / 1000)), none]) (st' := [.int 10, .int a0, .ref 43]) (w' := (hp (mg_up u1371 43 (((208 + (16 * a0)) + 4).toNatClampNeg) a1) fL fD, c, z)) rfl ?_
          obtain ⟨v1375, hf3582, h⟩ := Option.bind_eq_some_iff.mp h
          refine mg_Ev.call (y := 68) (as := [.ref 43, .int a0, .int 10]) (rest := []) (v := some (.int v1375)) (w1 := (hp (mg_up u1371 43 (((208 + (16 * a0)) + 4).toNatClampNeg) a1) fL fD, c, z)) rfl rfl (Nat.le_of_ble_eq_true rfl) ((ev_M_declAt hf3582).deep (by decide)) ?_
          refine mg_Ev.go 4 (pc' := 116) (loc' := [some (.ref 43), some (.int a0), some (.int a1), some (.int v1370), some (.int (208 + (16 * a0))), some (.int v1372), some (.int (((v1373 - v1374) * v1372) / 1000)), some (.int (v1375 - (((v1373 - v1374) * v1372) / 1000)))]) (st' := [.int (v1375 - (((v1373 - v1374) * v1372) / 1000))]) (w' := (hp (mg_up u1371 43 (((208 + (16 * a0)) + 4).toNatClampNeg) a1) fL fD, c, z)) rfl ?_
          refine mg_Ev.br (P := 0 < (v1375 - (((v1373 - v1374) * v1372) / 1000))) (t := 125) (nx := 119) (st' := []) rfl rfl rfl rfl (fun hc3583 => ?_) (fun hc3583 => ?_)
          · rw [if_pos hc3583] at h
            refine mg_Ev.go 7 (pc' := 136) (loc' := [some (.ref 43), some (.int a0), some (.int a1), some (.int v1370), some (.int (208 + (16 * a0))), some (.int v1372), some (.int (((v1373 - v1374) * v1372) / 1000)), some (.int (v1375 - (((v1373 - v1374) * v1372) / 1000)))]) (st' := [.int a0, .ref 43, .int ((208 + (16 * a0)) + 13), .ref 44]) (w' := (hp (mg_up u1371 43 (((208 + (16 * a0)) + 4).toNatClampNeg) a1) fL fD, c, z)) rfl ?_
            obtain ⟨v1376, hf3584, h⟩ := Option.bind_eq_some_iff.mp h
            refine mg_Ev.call (y := 104) (as := [.ref 43, .int a0]) (rest := [.int ((208 + (16 * a0)) + 13), .ref 44]) (v := some (.int v1376)) (w1 := (hp (mg_up u1371 43 (((208 + (16 * a0)) + 4).toNatClampNeg) a1) fL fD, c, z)) rfl rfl (Nat.le_of_ble_eq_true rfl) ((ev_M_fromNow hf3584).deep (by decide)) ?_
            by_cases hb3585 : ((208 + (16 * a0)) + 13) < 0 ∨ 690 ≤ ((208 + (16 * a0)) + 13).toNatClampNeg
            · rw [if_pos hb3585] at h
              cases h
            · rw [if_neg hb3585] at h
              refine mg_Ev.iast (a := 43) (n := 690) rfl (hpg_43 _ _ _) rfl hb3585 (hpa_43 _ _ _ _ _ _ _) ?_
              refine mg_Ev.go 6 (pc' := 151) (loc' := [some (.ref 43), some (.int a0), some (.int a1), some (.int v1370), some (.int (208 + (16 * a0))), some (.int v1372), some (.int (((v1373 - v1374) * v1372) / 1000)), some (.int (v1375 - (((v1373 - v1374) * v1372) / 1000)))]) (st' := [.int v1372, .int ((208 + (16 * a0)) + 12), .ref 44]) (w' := (hp (mg_up (mg_up u1371 43 (((208 + (16 * a0)) + 4).toNatClampNeg) a1) 43 (((208 + (16 * a0)) + 13).toNatClampNeg) v1376) fL fD, c, z)) rfl ?_
              by_cases hb3586 : ((208 + (16 * a0)) + 12) < 0 ∨ 690 ≤ ((208 + (16 * a0)) + 12).toNatClampNeg
              · rw [if_pos hb3586] at h
                cases h
              · rw [if_neg hb3586] at h
                refine mg_Ev.iast (a := 43) (n := 690) rfl (hpg_43 _ _ _) rfl hb3586 (hpa_43 _ _ _ _ _ _ _) ?_
                refine mg_Ev.go 6 (pc' := 163) (loc' := [some (.ref 43), some (.int a0), some (.int a1), some (.int v1370), some (.int (208 + (16 * a0))), some (.int v1372), some (.int (((v1373 - v1374) * v1372) / 1000)), some (.int (v1375 - (((v1373 - v1374) * v1372) / 1000)))]) (st' := [.int (((v1373 - v1374) * v1372) / 1000), .int ((208 + (16 * a0)) + 10), .ref 44]) (w' := (hp (mg_up (mg_up (mg_up u1371 43 (((208 + (16 * a0)) + 4).toNatClampNeg) a1) 43 (((208 + (16 * a0)) + 13).toNatClampNeg) v1376) 43 (((208 + (16 * a0)) + 12).toNatClampNeg) v1372) fL fD, c, z)) rfl ?_
                by_cases hb3587 : ((208 + (16 * a0)) + 10) < 0 ∨ 690 ≤ ((208 + (16 * a0)) + 10).toNatClampNeg
                · rw [if_pos hb3587] at h
                  cases h
                · rw [if_neg hb3587] at h
                  refine mg_Ev.iast (a := 43) (n := 690) rfl (hpg_43 _ _ _) rfl hb3587 (hpa_43 _ _ _ _ _ _ _) ?_
                  refine mg_Ev.go 4 (pc' := 169) (loc' := [some (.ref 43), some (.int a0), some (.int a1), some (.int v1370), some (.int (208 + (16 * a0))), some (.int v1372), some (.int (((v1373 - v1374) * v1372) / 1000)), some (.int (v1375 - (((v1373 - v1374) * v1372) / 1000)))]) (st' := [.int (v1375 - (((v1373 - v1374) * v1372) / 1000)), .int a0, .ref 43, .ref 43]) (w' := (hp (mg_up (mg_up (mg_up (mg_up u1371 43 (((208 + (16 * a0)) + 4).toNatClampNeg) a1) 43 (((208 + (16 * a0)) + 13).toNatClampNeg) v1376) 43 (((208 + (16 * a0)) + 12).toNatClampNeg) v1372) 43 (((208 + (16 * a0)) + 10).toNatClampNeg) (((v1373 - v1374) * v1372) / 1000)) fL fD, c, z)) rfl ?_
                  obtain ⟨⟨v1377, u1378⟩, hf3588, h⟩ := Option.bind_eq_some_iff.mp h
                  try dsimp only at h
                  refine mg_Ev.call (y := 115) (as := [.ref 43, .int a0, .int (v1375 - (((v1373 - v1374) * v1372) / 1000))]) (rest := [.ref 43]) (v := some (.int v1377)) (w1 := (hp u1378 fL fD, c, z)) rfl rfl (Nat.le_of_ble_eq_true rfl) ((ev_M_givesBack hf3588).deep (by decide)) ?_
                  obtain ⟨⟨v1380, u1381⟩, hf3589, h⟩ := Option.bind_eq_some_iff.mp h
                  try dsimp only at h
                  refine mg_Ev.call (y := 60) (as := [.ref 43, .int v1377]) (rest := []) (v := some (.int v1380)) (w1 := (hp u1381 fL fD, c, z)) rfl rfl (Nat.le_of_ble_eq_true rfl) ((ev_M_done hf3589).deep (by decide)) ?_
                  cases h
                  exact mg_Ev.fin rfl rfl rfl
          · rw [if_neg hc3583] at h
            refine mg_Ev.go 2 (pc' := 121) (loc' := [some (.ref 43), some (.int a0), some (.int a1), some (.int v1370), some (.int (208 + (16 * a0))), some (.int v1372), some (.int (((v1373 - v1374) * v1372) / 1000)), some (.int (v1375 - (((v1373 - v1374) * v1372) / 1000)))]) (st' := [.int 0, .ref 43]) (w' := (hp (mg_up u1371 43 (((208 + (16 * a0)) + 4).toNatClampNeg) a1) fL fD, c, z)) rfl ?_
            obtain ⟨⟨v1383, u1384⟩, hf3590, h⟩ := Option.bind_eq_some_iff.mp h
            try dsimp only at h
            refine mg_Ev.call (y := 60) (as := [.ref 43, .int 0]) (rest := []) (v := some (.int v1383)) (w1 := (hp u1384 fL fD, c, z)) rfl rfl (Nat.le_of_ble_eq_true rfl) ((ev_M_done hf3590).deep (by decide)) ?_
            cases h
            exact mg_Ev.fin rfl rfl rfl
      · rw [if_neg hc3576] at h
        refine mg_Ev.go 2 (pc' := 41) (loc' := [some (.ref 43), some (.int a0), some (.int a1), some (.int v1370), none, none, none, none]) (st' := [.int v1370, .ref 43]) (w' := (hp u fL fD, c, z)) rfl ?_
        refine mg_Ev.put rfl (hpg_42 _ _ _) (Nat.le_of_ble_eq_true rfl) rfl (hpf_42_8 _ _ _ _ _ _) ?_
        refine mg_Ev.go 2 (pc' := 46) (loc' := [some (.ref 43), some (.int a0), some (.int a1), some (.int v1370), none, none, none, none]) (st' := [.int 3, .ref 43]) (w' := (hp (mg_up u 42 8 v1370) fL fD, c, z)) rfl ?_
        obtain ⟨⟨v1386, u1387⟩, hf3591, h⟩ := Option.bind_eq_some_iff.mp h
        try dsimp only at h
        refine mg_Ev.call (y := 59) (as := [.ref 43, .int 3]) (rest := []) (v := some (.int v1386)) (w1 := (hp u1387 fL fD, c, z)) rfl rfl (Nat.le_of_ble_eq_true rfl) ((ev_M_fails hf3591).deep (by decide)) ?_
        cases h
        exact mg_Ev.fin rfl rfl rfl

def M_refusal (u : mg_Rg) : Option (Int32 × mg_Rg) :=
  if (u 42 8) = 0 then
  (M_fails 1 u).bind fun p1391 => match p1391 with
    | (v1389, u1390) =>
      some (v1389, u1390)
  else
  (M_done (u 42 8) u).bind fun p1394 => match p1394 with
    | (v1392, u1393) =>
      some (v1392, u1393)

set_option maxRecDepth 10000 in
set_option maxHeartbeats 4000000 in
theorem ev_M_refusal {sc : mg_Sc} {c z : Nat} {fL : Nat → Int64} {fD : Nat → UInt64} {u : mg_Rg} {p : Int32 × mg_Rg} (h : M_refusal u = some p) : mg_Ev sc 1 118 0 (mg_entry 118 [.ref 43]) [] (hp u fL fD, c, z) (.inl (some (.int p.1)), (hp p.2 fL fD, c, z)) := by
  unfold M_refusal at h
  show mg_Ev _ _ _ 0 [some (.ref 43)] [] _ _
  refine mg_Ev.go 2 (pc' := 4) (loc' := [some (.ref 43)]) (st' := [.int (u 42 8)]) (w' := (hp u fL fD, c, z)) rfl ?_
  refine mg_Ev.br (P := (u 42 8) = 0) (t := 7) (nx := 15) (st' := []) rfl rfl rfl rfl (fun hc3592 => ?_) (fun hc3592 => ?_)
  · rw [if_pos hc3592] at h
    refine mg_Ev.go 2 (pc' := 9) (loc' := [some (.ref 43)]) (st' := [.int 1, .ref 43]) (w' := (hp u fL fD, c, z)) rfl ?_
    obtain ⟨⟨v1389, u1390⟩, hf3593, h⟩ := Option.bind_eq_some_iff.mp h
    try dsimp only at h
    refine mg_Ev.call (y := 59) (as := [.ref 43, .int 1]) (rest := []) (v := some (.int v1389)) (w1 := (hp u1390 fL fD, c, z)) rfl rfl (Nat.le_of_ble_eq_true rfl) ((ev_M_fails hf3593).deep (by decide)) ?_
    refine mg_Ev.go 1 (pc' := 23) (loc' := [some (.ref 43)]) (st' := [.int v1389]) (w' := (hp u1390 fL fD, c, z)) rfl ?_
    cases h
    exact mg_Ev.fin rfl rfl rfl
  · rw [if_neg hc3592] at h
    refine mg_Ev.go 3 (pc' := 20) (loc' := [some (.ref 43)]) (st' := [.int (u 42 8), .ref 43]) (w' := (hp u fL fD, c, z)) rfl ?_
    obtain ⟨⟨v1392, u1393⟩, hf3594, h⟩ := Option.bind_eq_some_iff.mp h
    try dsimp only at h
    refine mg_Ev.call (y := 60) (as := [.ref 43, .int (u 42 8)]) (rest := []) (v := some (.int v1392)) (w1 := (hp u1393 fL fD, c, z)) rfl rfl (Nat.le_of_ble_eq_true rfl) ((ev_M_done hf3594).deep (by decide)) ?_
    cases h
    exact mg_Ev.fin rfl rfl rfl

def M_inState_L4 : Nat → Int32 → Int32 → Int32 → mg_Rg → Option (Int32)
  | 0, _, _, _, _ => none
  | n + 1, x1, x2, x3, u =>
    if (u 43 5) ≤ x3 then
    some (x2)
    else
    (M_declAt x3 7 u).bind fun v1395 =>
      if v1395 = x1 then
      M_inState_L4 n x1 (x2 + 1) (x3 + 1) u
      else
      M_inState_L4 n x1 (x2 + 0) (x3 + 1) u
set_option maxRecDepth 10000 in
set_option maxHeartbeats 4000000 in
theorem ev_M_inState_L4 {sc : mg_Sc} {c z : Nat} {fL : Nat → Int64} {fD : Nat → UInt64} : ∀ (n : Nat) (x1 : Int32) (x2 : Int32) (x3 : Int32) (u : mg_Rg) (res : Int32), M_inState_L4 n x1 x2 x3 u = some res → ∀ r, (match res with | y2 => mg_Ev sc 1 119 39 [none, none, some (.int y2), none] [] (hp u fL fD, c, z) r) → mg_Ev sc 1 119 4 [some (.ref 43), some (.int x1), some (.int x2), some (.int x3)] [] (hp u fL fD, c, z) r := by
  intro n
  induction n with
  | zero => intro x1 x2 x3 u res h; cases h
  | succ n ih =>
    intro x1 x2 x3 u res h r K
    unfold M_inState_L4 at h
    refine mg_Ev.go 4 (pc' := 10) (loc' := [some (.ref 43), some (.int x1), some (.int x2), some (.int x3)]) (st' := [.int 5, .ref 44, .int x3]) (w' := (hp u fL fD, c, z)) rfl ?_
    refine mg_Ev.iald (a := 43) (n := 690) (f := u 43) (j := 5) rfl (hpg_43 _ _ _) (by decide) (by decide) ?_
    refine mg_Ev.br (P := (u 43 5) ≤ x3) (t := 39) (nx := 14) (st' := []) rfl rfl rfl rfl (fun hc3595 => ?_) (fun hc3595 => ?_)
    · rw [if_pos hc3595] at h
      cases h
      exact mg_Ev.more (loc := [none, none, some (.int x2), none]) K ⟨rfl, trivial⟩
    · rw [if_neg hc3595] at h
      refine mg_Ev.go 4 (pc' := 19) (loc' := [some (.ref 43), some (.int x1), some (.int x2), some (.int x3)]) (st' := [.int 7, .int x3, .ref 43, .int x2]) (w' := (hp u fL fD, c, z)) rfl ?_
      obtain ⟨v1395, hf3596, h⟩ := Option.bind_eq_some_iff.mp h
      refine mg_Ev.call (y := 68) (as := [.ref 43, .int x3, .int 7]) (rest := [.int x2]) (v := some (.int v1395)) (w1 := (hp u fL fD, c, z)) rfl rfl (Nat.le_of_ble_eq_true rfl) ((ev_M_declAt hf3596).deep (by decide)) ?_
      refine mg_Ev.go 1 (pc' := 23) (loc' := [some (.ref 43), some (.int x1), some (.int x2), some (.int x3)]) (st' := [.int x1, .int v1395, .int x2]) (w' := (hp u fL fD, c, z)) rfl ?_
      refine mg_Ev.br (P := v1395 = x1) (t := 26) (nx := 30) (st' := [.int x2]) rfl rfl rfl rfl (fun hc3597 => ?_) (fun hc3597 => ?_)
      · rw [if_pos hc3597] at h
        refine mg_Ev.go 6 (pc' := 4) (loc' := [some (.ref 43), some (.int x1), some (.int (x2 + 1)), some (.int (x3 + 1))]) (st' := []) (w' := (hp u fL fD, c, z)) rfl ?_
        exact mg_Ev.more (loc := [some (.ref 43), some (.int x1), some (.int (x2 + 1)), some (.int (x3 + 1))]) (ih _ _ _ _ _ h _ K) ⟨rfl, ⟨rfl, ⟨rfl, ⟨rfl, trivial⟩⟩⟩⟩
      · rw [if_neg hc3597] at h
        refine mg_Ev.go 5 (pc' := 4) (loc' := [some (.ref 43), some (.int x1), some (.int (x2 + 0)), some (.int (x3 + 1))]) (st' := []) (w' := (hp u fL fD, c, z)) rfl ?_
        exact mg_Ev.more (loc := [some (.ref 43), some (.int x1), some (.int (x2 + 0)), some (.int (x3 + 1))]) (ih _ _ _ _ _ h _ K) ⟨rfl, ⟨rfl, ⟨rfl, ⟨rfl, trivial⟩⟩⟩⟩

def M_inState (a0 : Int32) (u : mg_Rg) : Option (Int32) :=
  (M_inState_L4 mg_F a0 0 0 u).bind fun q3598 => match q3598 with
  | x1396 =>
    some x1396

set_option maxRecDepth 10000 in
set_option maxHeartbeats 4000000 in
theorem ev_M_inState {sc : mg_Sc} {c z : Nat} {fL : Nat → Int64} {fD : Nat → UInt64} {a0 : Int32} {u : mg_Rg} {v : Int32} (h : M_inState a0 u = some v) : mg_Ev sc 1 119 0 (mg_entry 119 [.ref 43, .int a0]) [] (hp u fL fD, c, z) (.inl (some (.int v)), (hp u fL fD, c, z)) := by
  unfold M_inState at h
  show mg_Ev _ _ _ 0 [some (.ref 43), some (.int a0), none, none] [] _ _
  refine mg_Ev.go 4 (pc' := 4) (loc' := [some (.ref 43), some (.int a0), some (.int 0), some (.int 0)]) (st' := []) (w' := (hp u fL fD, c, z)) rfl ?_
  obtain ⟨x1396, hl3599, h⟩ := Option.bind_eq_some_iff.mp h
  try dsimp only at h
  refine mg_Ev.more (loc := [some (.ref 43), some (.int a0), some (.int 0), some (.int 0)]) (ev_M_inState_L4 _ _ _ _ _ _ hl3599 _ ?_) ⟨rfl, ⟨rfl, ⟨rfl, ⟨rfl, trivial⟩⟩⟩⟩
  show mg_Ev _ _ _ 39 [none, none, some (.int x1396), none] [] (hp u fL fD, c, z) _
  refine mg_Ev.go 1 (pc' := 40) (loc' := [none, none, some (.int x1396), none]) (st' := [.int x1396]) (w' := (hp u fL fD, c, z)) rfl ?_
  cases h
  exact mg_Ev.fin rfl rfl rfl

def M_account (a0 : Int32) (u : mg_Rg) : Option (Int32 × mg_Rg) :=
  (M_in a0 0 11 u).bind fun v1397 =>
  if v1397 = 0 then
  (M_fails 1 u).bind fun p1400 => match p1400 with
    | (v1398, u1399) =>
      some (v1398, u1399)
  else
  if (a0).toInt < 5 ∨ 11 < (a0).toInt then
    if (1 + a0) < 0 ∨ 690 ≤ (1 + a0).toNatClampNeg then none else
      (M_done (u 43 ((1 + a0).toNatClampNeg)) u).bind fun p1403 => match p1403 with
      | (v1401, u1402) =>
        some (v1401, u1402)
    else if a0 = 5 then
    (M_inState (a0 - 5) u).bind fun v1404 =>
      (M_done v1404 u).bind fun p1407 => match p1407 with
      | (v1405, u1406) =>
        some (v1405, u1406)
    else if a0 = 6 then
    (M_inState (a0 - 5) u).bind fun v1408 =>
      (M_done v1408 u).bind fun p1411 => match p1411 with
      | (v1409, u1410) =>
        some (v1409, u1410)
    else if a0 = 7 then
    (M_inState (a0 - 5) u).bind fun v1412 =>
      (M_done v1412 u).bind fun p1415 => match p1415 with
      | (v1413, u1414) =>
        some (v1413, u1414)
    else if a0 = 8 then
    (M_done (u 43 7) u).bind fun p1418 => match p1418 with
      | (v1416, u1417) =>
        some (v1416, u1417)
    else if a0 = 9 then
    (M_done (u 43 8) u).bind fun p1421 => match p1421 with
      | (v1419, u1420) =>
        some (v1419, u1420)
    else if a0 = 10 then
    (M_done (u 43 0) u).bind fun p1424 => match p1424 with
      | (v1422, u1423) =>
        some (v1422, u1423)
    else if a0 = 11 then
    (M_done (u 43 6) u).bind fun p1427 => match p1427 with
      | (v1425, u1426) =>
        some (v1425, u1426)
    else none

set_option maxRecDepth 10000 in
set_option maxHeartbeats 4000000 in
theorem ev_M_account {sc : mg_Sc} {c z : Nat} {fL : Nat → Int64} {fD : Nat → UInt64} {a0 : Int32} {u : mg_Rg} {p : Int32 × mg_Rg} (h : M_account a0 u = some p) : mg_Ev sc 2 120 0 (mg_entry 120 [.ref 43, .int a0]) [] (hp u fL fD, c, z) (.inl (some (.int p.1)), (hp p.2 fL fD, c, z)) := by
  unfold M_account at h
  show mg_Ev _ _ _ 0 [some (.ref 43), some (.int a0)] [] _ _
  refine mg_Ev.go 3 (pc' := 4) (loc' := [some (.ref 43), some (.int a0)]) (st' := [.int 11, .int 0, .int a0]) (w' := (hp u fL fD, c, z)) rfl ?_
  obtain ⟨v1397, hf3600, h⟩ := Option.bind_eq_some_iff.mp h
  refine mg_Ev.call (y := 58) (as := [.int a0, .int 0, .int 11]) (rest := []) (v := some (.int v1397)) (w1 := (hp u fL fD, c, z)) rfl rfl (Nat.le_of_ble_eq_true rfl) ((ev_M_in hf3600).deep (by decide)) ?_
  refine mg_Ev.br (P := v1397 = 0) (t := 10) (nx := 16) (st' := []) rfl rfl rfl rfl (fun hc3601 => ?_) (fun hc3601 => ?_)
  · rw [if_pos hc3601] at h
    refine mg_Ev.go 2 (pc' := 12) (loc' := [some (.ref 43), some (.int a0)]) (st' := [.int 1, .ref 43]) (w' := (hp u fL fD, c, z)) rfl ?_
    obtain ⟨⟨v1398, u1399⟩, hf3602, h⟩ := Option.bind_eq_some_iff.mp h
    try dsimp only at h
    refine mg_Ev.call (y := 59) (as := [.ref 43, .int 1]) (rest := []) (v := some (.int v1398)) (w1 := (hp u1399 fL fD, c, z)) rfl rfl (Nat.le_of_ble_eq_true rfl) ((ev_M_fails hf3602).deep (by decide)) ?_
    cases h
    exact mg_Ev.fin rfl rfl rfl
  · rw [if_neg hc3601] at h
    refine mg_Ev.go 1 (pc' := 17) (loc' := [some (.ref 43), some (.int a0)]) (st' := [.int a0]) (w' := (hp u fL fD, c, z)) rfl ?_
    by_cases hs3603 : (a0).toInt < 5 ∨ 11 < (a0).toInt
    · rw [if_pos hs3603] at h
      refine mg_Ev.swD rfl hs3603 ?_
      refine mg_Ev.go 6 (pc' := 127) (loc' := [some (.ref 43), some (.int a0)]) (st' := [.int (1 + a0), .ref 44, .ref 43]) (w' := (hp u fL fD, c, z)) rfl ?_
      by_cases hb3604 : (1 + a0) < 0 ∨ 690 ≤ (1 + a0).toNatClampNeg
      · rw [if_pos hb3604] at h
        cases h
      · rw [if_neg hb3604] at h
        refine mg_Ev.iald (a := 43) (n := 690) (f := u 43) rfl (hpg_43 _ _ _) rfl hb3604 ?_
        obtain ⟨⟨v1401, u1402⟩, hf3605, h⟩ := Option.bind_eq_some_iff.mp h
        try dsimp only at h
        refine mg_Ev.call (y := 60) (as := [.ref 43, .int (u 43 ((1 + a0).toNatClampNeg))]) (rest := []) (v := some (.int v1401)) (w1 := (hp u1402 fL fD, c, z)) rfl rfl (Nat.le_of_ble_eq_true rfl) ((ev_M_done hf3605).deep (by decide)) ?_
        cases h
        exact mg_Ev.fin rfl rfl rfl
    · rw [if_neg hs3603] at h
      by_cases hk3606 : a0 = 5
      · rw [if_pos hk3606] at h
        refine mg_Ev.swK (k := 5) (t := 60) rfl hk3606 (by decide) (by decide) rfl ?_
        refine mg_Ev.go 5 (pc' := 65) (loc' := [some (.ref 43), some (.int a0)]) (st' := [.int (a0 - 5), .ref 43, .ref 43]) (w' := (hp u fL fD, c, z)) rfl ?_
        obtain ⟨v1404, hf3607, h⟩ := Option.bind_eq_some_iff.mp h
        refine mg_Ev.call (y := 119) (as := [.ref 43, .int (a0 - 5)]) (rest := [.ref 43]) (v := some (.int v1404)) (w1 := (hp u fL fD, c, z)) rfl rfl (Nat.le_of_ble_eq_true rfl) ((ev_M_inState hf3607).deep (by decide)) ?_
        obtain ⟨⟨v1405, u1406⟩, hf3608, h⟩ := Option.bind_eq_some_iff.mp h
        try dsimp only at h
        refine mg_Ev.call (y := 60) (as := [.ref 43, .int v1404]) (rest := []) (v := some (.int v1405)) (w1 := (hp u1406 fL fD, c, z)) rfl rfl (Nat.le_of_ble_eq_true rfl) ((ev_M_done hf3608).deep (by decide)) ?_
        cases h
        exact mg_Ev.fin rfl rfl rfl
      · rw [if_neg hk3606] at h
        by_cases hk3609 : a0 = 6
        · rw [if_pos hk3609] at h
          refine mg_Ev.swK (k := 6) (t := 60) rfl hk3609 (by decide) (by decide) rfl ?_
          refine mg_Ev.go 5 (pc' := 65) (loc' := [some (.ref 43), some (.int a0)]) (st' := [.int (a0 - 5), .ref 43, .ref 43]) (w' := (hp u fL fD, c, z)) rfl ?_
          obtain ⟨v1408, hf3610, h⟩ := Option.bind_eq_some_iff.mp h
          refine mg_Ev.call (y := 119) (as := [.ref 43, .int (a0 - 5)]) (rest := [.ref 43]) (v := some (.int v1408)) (w1 := (hp u fL fD, c, z)) rfl rfl (Nat.le_of_ble_eq_true rfl) ((ev_M_inState hf3610).deep (by decide)) ?_
          obtain ⟨⟨v1409, u1410⟩, hf3611, h⟩ := Option.bind_eq_some_iff.mp h
          try dsimp only at h
          refine mg_Ev.call (y := 60) (as := [.ref 43, .int v1408]) (rest := []) (v := some (.int v1409)) (w1 := (hp u1410 fL fD, c, z)) rfl rfl (Nat.le_of_ble_eq_true rfl) ((ev_M_done hf3611).deep (by decide)) ?_
          cases h
          exact mg_Ev.fin rfl rfl rfl
        · rw [if_neg hk3609] at h
          by_cases hk3612 : a0 = 7
          · rw [if_pos hk3612] at h
            refine mg_Ev.swK (k := 7) (t := 60) rfl hk3612 (by decide) (by decide) rfl ?_
            refine mg_Ev.go 5 (pc' := 65) (loc' := [some (.ref 43), some (.int a0)]) (st' := [.int (a0 - 5), .ref 43, .ref 43]) (w' := (hp u fL fD, c, z)) rfl ?_
            obtain ⟨v1412, hf3613, h⟩ := Option.bind_eq_some_iff.mp h
            refine mg_Ev.call (y := 119) (as := [.ref 43, .int (a0 - 5)]) (rest := [.ref 43]) (v := some (.int v1412)) (w1 := (hp u fL fD, c, z)) rfl rfl (Nat.le_of_ble_eq_true rfl) ((ev_M_inState hf3613).deep (by decide)) ?_
            obtain ⟨⟨v1413, u1414⟩, hf3614, h⟩ := Option.bind_eq_some_iff.mp h
            try dsimp only at h
            refine mg_Ev.call (y := 60) (as := [.ref 43, .int v1412]) (rest := []) (v := some (.int v1413)) (w1 := (hp u1414 fL fD, c, z)) rfl rfl (Nat.le_of_ble_eq_true rfl) ((ev_M_done hf3614).deep (by decide)) ?_
            cases h
            exact mg_Ev.fin rfl rfl rfl
          · rw [if_neg hk3612] at h
            by_cases hk3615 : a0 = 8
            · rw [if_pos hk3615] at h
              refine mg_Ev.swK (k := 8) (t := 72) rfl hk3615 (by decide) (by decide) rfl ?_
              refine mg_Ev.go 4 (pc' := 79) (loc' := [some (.ref 43), some (.int a0)]) (st' := [.int 7, .ref 44, .ref 43]) (w' := (hp u fL fD, c, z)) rfl ?_
              refine mg_Ev.iald (a := 43) (n := 690) (f := u 43) (j := 7) rfl (hpg_43 _ _ _) (by decide) (by decide) ?_
              obtain ⟨⟨v1416, u1417⟩, hf3616, h⟩ := Option.bind_eq_some_iff.mp h
              try dsimp only at h
              refine mg_Ev.call (y := 60) (as := [.ref 43, .int (u 43 7)]) (rest := []) (v := some (.int v1416)) (w1 := (hp u1417 fL fD, c, z)) rfl rfl (Nat.le_of_ble_eq_true rfl) ((ev_M_done hf3616).deep (by decide)) ?_
              cases h
              exact mg_Ev.fin rfl rfl rfl
            · rw [if_neg hk3615] at h
              by_cases hk3617 : a0 = 9
              · rw [if_pos hk3617] at h
                refine mg_Ev.swK (k := 9) (t := 84) rfl hk3617 (by decide) (by decide) rfl ?_
                refine mg_Ev.go 4 (pc' := 91) (loc' := [some (.ref 43), some (.int a0)]) (st' := [.int 8, .ref 44, .ref 43]) (w' := (hp u fL fD, c, z)) rfl ?_
                refine mg_Ev.iald (a := 43) (n := 690) (f := u 43) (j := 8) rfl (hpg_43 _ _ _) (by decide) (by decide) ?_
                obtain ⟨⟨v1419, u1420⟩, hf3618, h⟩ := Option.bind_eq_some_iff.mp h
                try dsimp only at h
                refine mg_Ev.call (y := 60) (as := [.ref 43, .int (u 43 8)]) (rest := []) (v := some (.int v1419)) (w1 := (hp u1420 fL fD, c, z)) rfl rfl (Nat.le_of_ble_eq_true rfl) ((ev_M_done hf3618).deep (by decide)) ?_
                cases h
                exact mg_Ev.fin rfl rfl rfl
              · rw [if_neg hk3617] at h
                by_cases hk3619 : a0 = 10
                · rw [if_pos hk3619] at h
                  refine mg_Ev.swK (k := 10) (t := 96) rfl hk3619 (by decide) (by decide) rfl ?_
                  refine mg_Ev.go 4 (pc' := 102) (loc' := [some (.ref 43), some (.int a0)]) (st' := [.int 0, .ref 44, .ref 43]) (w' := (hp u fL fD, c, z)) rfl ?_
                  refine mg_Ev.iald (a := 43) (n := 690) (f := u 43) (j := 0) rfl (hpg_43 _ _ _) (by decide) (by decide) ?_
                  obtain ⟨⟨v1422, u1423⟩, hf3620, h⟩ := Option.bind_eq_some_iff.mp h
                  try dsimp only at h
                  refine mg_Ev.call (y := 60) (as := [.ref 43, .int (u 43 0)]) (rest := []) (v := some (.int v1422)) (w1 := (hp u1423 fL fD, c, z)) rfl rfl (Nat.le_of_ble_eq_true rfl) ((ev_M_done hf3620).deep (by decide)) ?_
                  cases h
                  exact mg_Ev.fin rfl rfl rfl
                · rw [if_neg hk3619] at h
                  by_cases hk3621 : a0 = 11
                  · rw [if_pos hk3621] at h
                    refine mg_Ev.swK (k := 11) (t := 107) rfl hk3621 (by decide) (by decide) rfl ?_
                    refine mg_Ev.go 4 (pc' := 114) (loc' := [some (.ref 43), some (.int a0)]) (st' := [.int 6, .ref 44, .ref 43]) (w' := (hp u fL fD, c, z)) rfl ?_
                    refine mg_Ev.iald (a := 43) (n := 690) (f := u 43) (j := 6) rfl (hpg_43 _ _ _) (by decide) (by decide) ?_
                    obtain ⟨⟨v1425, u1426⟩, hf3622, h⟩ := Option.bind_eq_some_iff.mp h
                    try dsimp only at h
                    refine mg_Ev.call (y := 60) (as := [.ref 43, .int (u 43 6)]) (rest := []) (v := some (.int v1425)) (w1 := (hp u1426 fL fD, c, z)) rfl rfl (Nat.le_of_ble_eq_true rfl) ((ev_M_done hf3622).deep (by decide)) ?_
                    cases h
                    exact mg_Ev.fin rfl rfl rfl
                  · rw [if_neg hk3621] at h
                    cases h

def M_keptOf (a0 : Int32) (u : mg_Rg) : Option (Int32) :=
  (M_declAt a0 7 u).bind fun v1428 =>
  if v1428 = 1 then
  (M_declAt a0 9 u).bind fun v1429 =>
    (M_declAt a0 10 u).bind fun v1430 =>
    some (v1429 + v1430)
  else
  some 0

set_option maxRecDepth 10000 in
set_option maxHeartbeats 4000000 in
theorem ev_M_keptOf {sc : mg_Sc} {c z : Nat} {fL : Nat → Int64} {fD : Nat → UInt64} {a0 : Int32} {u : mg_Rg} {v : Int32} (h : M_keptOf a0 u = some v) : mg_Ev sc 1 121 0 (mg_entry 121 [.ref 43, .int a0]) [] (hp u fL fD, c, z) (.inl (some (.int v)), (hp u fL fD, c, z)) := by
  unfold M_keptOf at h
  show mg_Ev _ _ _ 0 [some (.ref 43), some (.int a0)] [] _ _
  refine mg_Ev.go 3 (pc' := 4) (loc' := [some (.ref 43), some (.int a0)]) (st' := [.int 7, .int a0, .ref 43]) (w' := (hp u fL fD, c, z)) rfl ?_
  obtain ⟨v1428, hf3623, h⟩ := Option.bind_eq_some_iff.mp h
  refine mg_Ev.call (y := 68) (as := [.ref 43, .int a0, .int 7]) (rest := []) (v := some (.int v1428)) (w1 := (hp u fL fD, c, z)) rfl rfl (Nat.le_of_ble_eq_true rfl) ((ev_M_declAt hf3623).deep (by decide)) ?_
  refine mg_Ev.go 1 (pc' := 8) (loc' := [some (.ref 43), some (.int a0)]) (st' := [.int 1, .int v1428]) (w' := (hp u fL fD, c, z)) rfl ?_
  refine mg_Ev.br (P := v1428 = 1) (t := 11) (nx := 29) (st' := []) rfl rfl rfl rfl (fun hc3624 => ?_) (fun hc3624 => ?_)
  · rw [if_pos hc3624] at h
    refine mg_Ev.go 3 (pc' := 15) (loc' := [some (.ref 43), some (.int a0)]) (st' := [.int 9, .int a0, .ref 43]) (w' := (hp u fL fD, c, z)) rfl ?_
    obtain ⟨v1429, hf3625, h⟩ := Option.bind_eq_some_iff.mp h
    refine mg_Ev.call (y := 68) (as := [.ref 43, .int a0, .int 9]) (rest := []) (v := some (.int v1429)) (w1 := (hp u fL fD, c, z)) rfl rfl (Nat.le_of_ble_eq_true rfl) ((ev_M_declAt hf3625).deep (by decide)) ?_
    refine mg_Ev.go 3 (pc' := 22) (loc' := [some (.ref 43), some (.int a0)]) (st' := [.int 10, .int a0, .ref 43, .int v1429]) (w' := (hp u fL fD, c, z)) rfl ?_
    obtain ⟨v1430, hf3626, h⟩ := Option.bind_eq_some_iff.mp h
    refine mg_Ev.call (y := 68) (as := [.ref 43, .int a0, .int 10]) (rest := [.int v1429]) (v := some (.int v1430)) (w1 := (hp u fL fD, c, z)) rfl rfl (Nat.le_of_ble_eq_true rfl) ((ev_M_declAt hf3626).deep (by decide)) ?_
    refine mg_Ev.go 2 (pc' := 30) (loc' := [some (.ref 43), some (.int a0)]) (st' := [.int (v1429 + v1430)]) (w' := (hp u fL fD, c, z)) rfl ?_
    cases h
    exact mg_Ev.fin rfl rfl rfl
  · rw [if_neg hc3624] at h
    refine mg_Ev.go 1 (pc' := 30) (loc' := [some (.ref 43), some (.int a0)]) (st' := [.int 0]) (w' := (hp u fL fD, c, z)) rfl ?_
    cases h
    exact mg_Ev.fin rfl rfl rfl

def M_kept (a0 : Int32) (u : mg_Rg) : Option (Int32 × mg_Rg) :=
  (M_isCountry a0 u).bind fun v1431 =>
  if v1431 = 0 then
  (M_fails 1 u).bind fun p1434 => match p1434 with
    | (v1432, u1433) =>
      some (v1432, u1433)
  else
  if (200 + a0) < 0 ∨ 690 ≤ (200 + a0).toNatClampNeg then none else
    (M_done (u 43 ((200 + a0).toNatClampNeg)) u).bind fun p1437 => match p1437 with
    | (v1435, u1436) =>
      some (v1435, u1436)

set_option maxRecDepth 10000 in
set_option maxHeartbeats 4000000 in
theorem ev_M_kept {sc : mg_Sc} {c z : Nat} {fL : Nat → Int64} {fD : Nat → UInt64} {a0 : Int32} {u : mg_Rg} {p : Int32 × mg_Rg} (h : M_kept a0 u = some p) : mg_Ev sc 2 122 0 (mg_entry 122 [.ref 43, .int a0]) [] (hp u fL fD, c, z) (.inl (some (.int p.1)), (hp p.2 fL fD, c, z)) := by
  unfold M_kept at h
  show mg_Ev _ _ _ 0 [some (.ref 43), some (.int a0)] [] _ _
  refine mg_Ev.go 1 (pc' := 1) (loc' := [some (.ref 43), some (.int a0)]) (st' := [.int a0]) (w' := (hp u fL fD, c, z)) rfl ?_
  obtain ⟨v1431, hf3627, h⟩ := Option.bind_eq_some_iff.mp h
  refine mg_Ev.call (y := 65) (as := [.int a0]) (rest := []) (v := some (.int v1431)) (w1 := (hp u fL fD, c, z)) rfl rfl (Nat.le_of_ble_eq_true rfl) ((ev_M_isCountry hf3627).deep (by decide)) ?_
  refine mg_Ev.br (P := v1431 = 0) (t := 24) (nx := 7) (st' := []) rfl rfl rfl rfl (fun hc3628 => ?_) (fun hc3628 => ?_)
  · rw [if_pos hc3628] at h
    refine mg_Ev.go 2 (pc' := 26) (loc' := [some (.ref 43), some (.int a0)]) (st' := [.int 1, .ref 43]) (w' := (hp u fL fD, c, z)) rfl ?_
    obtain ⟨⟨v1432, u1433⟩, hf3629, h⟩ := Option.bind_eq_some_iff.mp h
    try dsimp only at h
    refine mg_Ev.call (y := 59) (as := [.ref 43, .int 1]) (rest := []) (v := some (.int v1432)) (w1 := (hp u1433 fL fD, c, z)) rfl rfl (Nat.le_of_ble_eq_true rfl) ((ev_M_fails hf3629).deep (by decide)) ?_
    cases h
    exact mg_Ev.fin rfl rfl rfl
  · rw [if_neg hc3628] at h
    refine mg_Ev.go 6 (pc' := 17) (loc' := [some (.ref 43), some (.int a0)]) (st' := [.int (200 + a0), .ref 44, .ref 43]) (w' := (hp u fL fD, c, z)) rfl ?_
    by_cases hb3630 : (200 + a0) < 0 ∨ 690 ≤ (200 + a0).toNatClampNeg
    · rw [if_pos hb3630] at h
      cases h
    · rw [if_neg hb3630] at h
      refine mg_Ev.iald (a := 43) (n := 690) (f := u 43) rfl (hpg_43 _ _ _) rfl hb3630 ?_
      obtain ⟨⟨v1435, u1436⟩, hf3631, h⟩ := Option.bind_eq_some_iff.mp h
      try dsimp only at h
      refine mg_Ev.call (y := 60) (as := [.ref 43, .int (u 43 ((200 + a0).toNatClampNeg))]) (rest := []) (v := some (.int v1435)) (w1 := (hp u1436 fL fD, c, z)) rfl rfl (Nat.le_of_ble_eq_true rfl) ((ev_M_done hf3631).deep (by decide)) ?_
      refine mg_Ev.go 1 (pc' := 29) (loc' := [some (.ref 43), some (.int a0)]) (st' := [.int v1435]) (w' := (hp u1436 fL fD, c, z)) rfl ?_
      cases h
      exact mg_Ev.fin rfl rfl rfl

def M_keptAgain_L17 : Nat → Int32 → Int32 → Int32 → mg_Rg → Option (Int32 × mg_Rg)
  | 0, _, _, _, _ => none
  | n + 1, x1, x2, x3, u =>
    if (u 43 5) ≤ x3 then
    some ((x2, u))
    else
    (M_declAt x3 3 u).bind fun v1442 =>
      if v1442 = x1 then
      (M_keptOf x3 u).bind fun v1443 =>
        M_keptAgain_L17 n x1 (x2 + v1443) (x3 + 1) u
      else
      M_keptAgain_L17 n x1 (x2 + 0) (x3 + 1) u
set_option maxRecDepth 10000 in
set_option maxHeartbeats 4000000 in
theorem ev_M_keptAgain_L17 {sc : mg_Sc} {c z : Nat} {fL : Nat → Int64} {fD : Nat → UInt64} : ∀ (n : Nat) (x1 : Int32) (x2 : Int32) (x3 : Int32) (u : mg_Rg) (res : Int32 × mg_Rg), M_keptAgain_L17 n x1 x2 x3 u = some res → ∀ r, (match res with | (y2, yu) => mg_Ev sc 2 123 55 [some (.ref 43), none, some (.int y2), none] [] (hp yu fL fD, c, z) r) → mg_Ev sc 2 123 17 [some (.ref 43), some (.int x1), some (.int x2), some (.int x3)] [] (hp u fL fD, c, z) r := by
  intro n
  induction n with
  | zero => intro x1 x2 x3 u res h; cases h
  | succ n ih =>
    intro x1 x2 x3 u res h r K
    unfold M_keptAgain_L17 at h
    refine mg_Ev.go 4 (pc' := 23) (loc' := [some (.ref 43), some (.int x1), some (.int x2), some (.int x3)]) (st' := [.int 5, .ref 44, .int x3]) (w' := (hp u fL fD, c, z)) rfl ?_
    refine mg_Ev.iald (a := 43) (n := 690) (f := u 43) (j := 5) rfl (hpg_43 _ _ _) (by decide) (by decide) ?_
    refine mg_Ev.br (P := (u 43 5) ≤ x3) (t := 55) (nx := 27) (st' := []) rfl rfl rfl rfl (fun hc3632 => ?_) (fun hc3632 => ?_)
    · rw [if_pos hc3632] at h
      cases h
      exact mg_Ev.more (loc := [some (.ref 43), none, some (.int x2), none]) K ⟨rfl, ⟨rfl, trivial⟩⟩
    · rw [if_neg hc3632] at h
      refine mg_Ev.go 4 (pc' := 31) (loc' := [some (.ref 43), some (.int x1), some (.int x2), some (.int x3)]) (st' := [.int 3, .int x3, .ref 43, .int x2]) (w' := (hp u fL fD, c, z)) rfl ?_
      obtain ⟨v1442, hf3633, h⟩ := Option.bind_eq_some_iff.mp h
      refine mg_Ev.call (y := 68) (as := [.ref 43, .int x3, .int 3]) (rest := [.int x2]) (v := some (.int v1442)) (w1 := (hp u fL fD, c, z)) rfl rfl (Nat.le_of_ble_eq_true rfl) ((ev_M_declAt hf3633).deep (by decide)) ?_
      refine mg_Ev.go 1 (pc' := 35) (loc' := [some (.ref 43), some (.int x1), some (.int x2), some (.int x3)]) (st' := [.int x1, .int v1442, .int x2]) (w' := (hp u fL fD, c, z)) rfl ?_
      refine mg_Ev.br (P := v1442 = x1) (t := 38) (nx := 46) (st' := [.int x2]) rfl rfl rfl rfl (fun hc3634 => ?_) (fun hc3634 => ?_)
      · rw [if_pos hc3634] at h
        refine mg_Ev.go 2 (pc' := 40) (loc' := [some (.ref 43), some (.int x1), some (.int x2), some (.int x3)]) (st' := [.int x3, .ref 43, .int x2]) (w' := (hp u fL fD, c, z)) rfl ?_
        obtain ⟨v1443, hf3635, h⟩ := Option.bind_eq_some_iff.mp h
        refine mg_Ev.call (y := 121) (as := [.ref 43, .int x3]) (rest := [.int x2]) (v := some (.int v1443)) (w1 := (hp u fL fD, c, z)) rfl rfl (Nat.le_of_ble_eq_true rfl) ((ev_M_keptOf hf3635).deep (by decide)) ?_
        refine mg_Ev.go 5 (pc' := 17) (loc' := [some (.ref 43), some (.int x1), some (.int (x2 + v1443)), some (.int (x3 + 1))]) (st' := []) (w' := (hp u fL fD, c, z)) rfl ?_
        exact mg_Ev.more (loc := [some (.ref 43), some (.int x1), some (.int (x2 + v1443)), some (.int (x3 + 1))]) (ih _ _ _ _ _ h _ K) ⟨rfl, ⟨rfl, ⟨rfl, ⟨rfl, trivial⟩⟩⟩⟩
      · rw [if_neg hc3634] at h
        refine mg_Ev.go 5 (pc' := 17) (loc' := [some (.ref 43), some (.int x1), some (.int (x2 + 0)), some (.int (x3 + 1))]) (st' := []) (w' := (hp u fL fD, c, z)) rfl ?_
        exact mg_Ev.more (loc := [some (.ref 43), some (.int x1), some (.int (x2 + 0)), some (.int (x3 + 1))]) (ih _ _ _ _ _ h _ K) ⟨rfl, ⟨rfl, ⟨rfl, ⟨rfl, trivial⟩⟩⟩⟩

def M_keptAgain (a0 : Int32) (u : mg_Rg) : Option (Int32 × mg_Rg) :=
  (M_isCountry a0 u).bind fun v1438 =>
  if v1438 = 0 then
  (M_fails 1 u).bind fun p1441 => match p1441 with
    | (v1439, u1440) =>
      some (v1439, u1440)
  else
  (M_keptAgain_L17 mg_F a0 0 0 u).bind fun q3636 => match q3636 with
    | (x1444, u1445) =>
      (M_done x1444 u1445).bind fun p1448 => match p1448 with
      | (v1446, u1447) =>
        some (v1446, u1447)

set_option maxRecDepth 10000 in
set_option maxHeartbeats 4000000 in
theorem ev_M_keptAgain {sc : mg_Sc} {c z : Nat} {fL : Nat → Int64} {fD : Nat → UInt64} {a0 : Int32} {u : mg_Rg} {p : Int32 × mg_Rg} (h : M_keptAgain a0 u = some p) : mg_Ev sc 2 123 0 (mg_entry 123 [.ref 43, .int a0]) [] (hp u fL fD, c, z) (.inl (some (.int p.1)), (hp p.2 fL fD, c, z)) := by
  unfold M_keptAgain at h
  show mg_Ev _ _ _ 0 [some (.ref 43), some (.int a0), none, none] [] _ _
  refine mg_Ev.go 1 (pc' := 1) (loc' := [some (.ref 43), some (.int a0), none, none]) (st' := [.int a0]) (w' := (hp u fL fD, c, z)) rfl ?_
  obtain ⟨v1438, hf3637, h⟩ := Option.bind_eq_some_iff.mp h
  refine mg_Ev.call (y := 65) (as := [.int a0]) (rest := []) (v := some (.int v1438)) (w1 := (hp u fL fD, c, z)) rfl rfl (Nat.le_of_ble_eq_true rfl) ((ev_M_isCountry hf3637).deep (by decide)) ?_
  refine mg_Ev.br (P := v1438 = 0) (t := 7) (nx := 13) (st' := []) rfl rfl rfl rfl (fun hc3638 => ?_) (fun hc3638 => ?_)
  · rw [if_pos hc3638] at h
    refine mg_Ev.go 2 (pc' := 9) (loc' := [some (.ref 43), some (.int a0), none, none]) (st' := [.int 1, .ref 43]) (w' := (hp u fL fD, c, z)) rfl ?_
    obtain ⟨⟨v1439, u1440⟩, hf3639, h⟩ := Option.bind_eq_some_iff.mp h
    try dsimp only at h
    refine mg_Ev.call (y := 59) (as := [.ref 43, .int 1]) (rest := []) (v := some (.int v1439)) (w1 := (hp u1440 fL fD, c, z)) rfl rfl (Nat.le_of_ble_eq_true rfl) ((ev_M_fails hf3639).deep (by decide)) ?_
    cases h
    exact mg_Ev.fin rfl rfl rfl
  · rw [if_neg hc3638] at h
    refine mg_Ev.go 4 (pc' := 17) (loc' := [some (.ref 43), some (.int a0), some (.int 0), some (.int 0)]) (st' := []) (w' := (hp u fL fD, c, z)) rfl ?_
    obtain ⟨⟨x1444, u1445⟩, hl3640, h⟩ := Option.bind_eq_some_iff.mp h
    try dsimp only at h
    refine mg_Ev.more (loc := [some (.ref 43), some (.int a0), some (.int 0), some (.int 0)]) (ev_M_keptAgain_L17 _ _ _ _ _ _ hl3640 _ ?_) ⟨rfl, ⟨rfl, ⟨rfl, ⟨rfl, trivial⟩⟩⟩⟩
    show mg_Ev _ _ _ 55 [some (.ref 43), none, some (.int x1444), none] [] (hp u1445 fL fD, c, z) _
    refine mg_Ev.go 2 (pc' := 57) (loc' := [some (.ref 43), none, some (.int x1444), none]) (st' := [.int x1444, .ref 43]) (w' := (hp u1445 fL fD, c, z)) rfl ?_
    obtain ⟨⟨v1446, u1447⟩, hf3641, h⟩ := Option.bind_eq_some_iff.mp h
    try dsimp only at h
    refine mg_Ev.call (y := 60) (as := [.ref 43, .int x1444]) (rest := []) (v := some (.int v1446)) (w1 := (hp u1447 fL fD, c, z)) rfl rfl (Nat.le_of_ble_eq_true rfl) ((ev_M_done hf3641).deep (by decide)) ?_
    cases h
    exact mg_Ev.fin rfl rfl rfl

def M_keptUnder_L18 : Nat → Int32 → Int32 → Int32 → mg_Rg → Option (Int32 × mg_Rg)
  | 0, _, _, _, _ => none
  | n + 1, x1, x2, x3, u =>
    if (u 43 5) ≤ x3 then
    some ((x2, u))
    else
    (M_declAt x3 0 u).bind fun v1453 =>
      (M_isUnder v1453 x1 u).bind fun v1454 =>
      if v1454 = 0 then
      M_keptUnder_L18 n x1 (x2 + 0) (x3 + 1) u
      else
      (M_keptOf x3 u).bind fun v1455 =>
        M_keptUnder_L18 n x1 (x2 + v1455) (x3 + 1) u
set_option maxRecDepth 10000 in
set_option maxHeartbeats 4000000 in
theorem ev_M_keptUnder_L18 {sc : mg_Sc} {c z : Nat} {fL : Nat → Int64} {fD : Nat → UInt64} : ∀ (n : Nat) (x1 : Int32) (x2 : Int32) (x3 : Int32) (u : mg_Rg) (res : Int32 × mg_Rg), M_keptUnder_L18 n x1 x2 x3 u = some res → ∀ r, (match res with | (y2, yu) => mg_Ev sc 2 124 60 [some (.ref 43), none, some (.int y2), none] [] (hp yu fL fD, c, z) r) → mg_Ev sc 2 124 18 [some (.ref 43), some (.int x1), some (.int x2), some (.int x3)] [] (hp u fL fD, c, z) r := by
  intro n
  induction n with
  | zero => intro x1 x2 x3 u res h; cases h
  | succ n ih =>
    intro x1 x2 x3 u res h r K
    unfold M_keptUnder_L18 at h
    refine mg_Ev.go 4 (pc' := 24) (loc' := [some (.ref 43), some (.int x1), some (.int x2), some (.int x3)]) (st' := [.int 5, .ref 44, .int x3]) (w' := (hp u fL fD, c, z)) rfl ?_
    refine mg_Ev.iald (a := 43) (n := 690) (f := u 43) (j := 5) rfl (hpg_43 _ _ _) (by decide) (by decide) ?_
    refine mg_Ev.br (P := (u 43 5) ≤ x3) (t := 60) (nx := 28) (st' := []) rfl rfl rfl rfl (fun hc3642 => ?_) (fun hc3642 => ?_)
    · rw [if_pos hc3642] at h
      cases h
      exact mg_Ev.more (loc := [some (.ref 43), none, some (.int x2), none]) K ⟨rfl, ⟨rfl, trivial⟩⟩
    · rw [if_neg hc3642] at h
      refine mg_Ev.go 5 (pc' := 33) (loc' := [some (.ref 43), some (.int x1), some (.int x2), some (.int x3)]) (st' := [.int 0, .int x3, .ref 43, .ref 43, .int x2]) (w' := (hp u fL fD, c, z)) rfl ?_
      obtain ⟨v1453, hf3643, h⟩ := Option.bind_eq_some_iff.mp h
      refine mg_Ev.call (y := 68) (as := [.ref 43, .int x3, .int 0]) (rest := [.ref 43, .int x2]) (v := some (.int v1453)) (w1 := (hp u fL fD, c, z)) rfl rfl (Nat.le_of_ble_eq_true rfl) ((ev_M_declAt hf3643).deep (by decide)) ?_
      refine mg_Ev.go 1 (pc' := 37) (loc' := [some (.ref 43), some (.int x1), some (.int x2), some (.int x3)]) (st' := [.int x1, .int v1453, .ref 43, .int x2]) (w' := (hp u fL fD, c, z)) rfl ?_
      obtain ⟨v1454, hf3644, h⟩ := Option.bind_eq_some_iff.mp h
      refine mg_Ev.call (y := 70) (as := [.ref 43, .int v1453, .int x1]) (rest := [.int x2]) (v := some (.int v1454)) (w1 := (hp u fL fD, c, z)) rfl rfl (Nat.le_of_ble_eq_true rfl) ((ev_M_isUnder hf3644).deep (by decide)) ?_
      refine mg_Ev.br (P := v1454 = 0) (t := 51) (nx := 43) (st' := [.int x2]) rfl rfl rfl rfl (fun hc3645 => ?_) (fun hc3645 => ?_)
      · rw [if_pos hc3645] at h
        refine mg_Ev.go 5 (pc' := 18) (loc' := [some (.ref 43), some (.int x1), some (.int (x2 + 0)), some (.int (x3 + 1))]) (st' := []) (w' := (hp u fL fD, c, z)) rfl ?_
        exact mg_Ev.more (loc := [some (.ref 43), some (.int x1), some (.int (x2 + 0)), some (.int (x3 + 1))]) (ih _ _ _ _ _ h _ K) ⟨rfl, ⟨rfl, ⟨rfl, ⟨rfl, trivial⟩⟩⟩⟩
      · rw [if_neg hc3645] at h
        refine mg_Ev.go 2 (pc' := 45) (loc' := [some (.ref 43), some (.int x1), some (.int x2), some (.int x3)]) (st' := [.int x3, .ref 43, .int x2]) (w' := (hp u fL fD, c, z)) rfl ?_
        obtain ⟨v1455, hf3646, h⟩ := Option.bind_eq_some_iff.mp h
        refine mg_Ev.call (y := 121) (as := [.ref 43, .int x3]) (rest := [.int x2]) (v := some (.int v1455)) (w1 := (hp u fL fD, c, z)) rfl rfl (Nat.le_of_ble_eq_true rfl) ((ev_M_keptOf hf3646).deep (by decide)) ?_
        refine mg_Ev.go 5 (pc' := 18) (loc' := [some (.ref 43), some (.int x1), some (.int (x2 + v1455)), some (.int (x3 + 1))]) (st' := []) (w' := (hp u fL fD, c, z)) rfl ?_
        exact mg_Ev.more (loc := [some (.ref 43), some (.int x1), some (.int (x2 + v1455)), some (.int (x3 + 1))]) (ih _ _ _ _ _ h _ K) ⟨rfl, ⟨rfl, ⟨rfl, ⟨rfl, trivial⟩⟩⟩⟩

def M_keptUnder (a0 : Int32) (u : mg_Rg) : Option (Int32 × mg_Rg) :=
  (M_isHead a0 u).bind fun v1449 =>
  if v1449 = 0 then
  (M_fails 1 u).bind fun p1452 => match p1452 with
    | (v1450, u1451) =>
      some (v1450, u1451)
  else
  (M_keptUnder_L18 mg_F a0 0 0 u).bind fun q3647 => match q3647 with
    | (x1456, u1457) =>
      (M_done x1456 u1457).bind fun p1460 => match p1460 with
      | (v1458, u1459) =>
        some (v1458, u1459)

set_option maxRecDepth 10000 in
set_option maxHeartbeats 4000000 in
theorem ev_M_keptUnder {sc : mg_Sc} {c z : Nat} {fL : Nat → Int64} {fD : Nat → UInt64} {a0 : Int32} {u : mg_Rg} {p : Int32 × mg_Rg} (h : M_keptUnder a0 u = some p) : mg_Ev sc 2 124 0 (mg_entry 124 [.ref 43, .int a0]) [] (hp u fL fD, c, z) (.inl (some (.int p.1)), (hp p.2 fL fD, c, z)) := by
  unfold M_keptUnder at h
  show mg_Ev _ _ _ 0 [some (.ref 43), some (.int a0), none, none] [] _ _
  refine mg_Ev.go 2 (pc' := 2) (loc' := [some (.ref 43), some (.int a0), none, none]) (st' := [.int a0, .ref 43]) (w' := (hp u fL fD, c, z)) rfl ?_
  obtain ⟨v1449, hf3648, h⟩ := Option.bind_eq_some_iff.mp h
  refine mg_Ev.call (y := 64) (as := [.ref 43, .int a0]) (rest := []) (v := some (.int v1449)) (w1 := (hp u fL fD, c, z)) rfl rfl (Nat.le_of_ble_eq_true rfl) ((ev_M_isHead hf3648).deep (by decide)) ?_
  refine mg_Ev.br (P := v1449 = 0) (t := 8) (nx := 14) (st' := []) rfl rfl rfl rfl (fun hc3649 => ?_) (fun hc3649 => ?_)
  · rw [if_pos hc3649] at h
    refine mg_Ev.go 2 (pc' := 10) (loc' := [some (.ref 43), some (.int a0), none, none]) (st' := [.int 1, .ref 43]) (w' := (hp u fL fD, c, z)) rfl ?_
    obtain ⟨⟨v1450, u1451⟩, hf3650, h⟩ := Option.bind_eq_some_iff.mp h
    try dsimp only at h
    refine mg_Ev.call (y := 59) (as := [.ref 43, .int 1]) (rest := []) (v := some (.int v1450)) (w1 := (hp u1451 fL fD, c, z)) rfl rfl (Nat.le_of_ble_eq_true rfl) ((ev_M_fails hf3650).deep (by decide)) ?_
    cases h
    exact mg_Ev.fin rfl rfl rfl
  · rw [if_neg hc3649] at h
    refine mg_Ev.go 4 (pc' := 18) (loc' := [some (.ref 43), some (.int a0), some (.int 0), some (.int 0)]) (st' := []) (w' := (hp u fL fD, c, z)) rfl ?_
    obtain ⟨⟨x1456, u1457⟩, hl3651, h⟩ := Option.bind_eq_some_iff.mp h
    try dsimp only at h
    refine mg_Ev.more (loc := [some (.ref 43), some (.int a0), some (.int 0), some (.int 0)]) (ev_M_keptUnder_L18 _ _ _ _ _ _ hl3651 _ ?_) ⟨rfl, ⟨rfl, ⟨rfl, ⟨rfl, trivial⟩⟩⟩⟩
    show mg_Ev _ _ _ 60 [some (.ref 43), none, some (.int x1456), none] [] (hp u1457 fL fD, c, z) _
    refine mg_Ev.go 2 (pc' := 62) (loc' := [some (.ref 43), none, some (.int x1456), none]) (st' := [.int x1456, .ref 43]) (w' := (hp u1457 fL fD, c, z)) rfl ?_
    obtain ⟨⟨v1458, u1459⟩, hf3652, h⟩ := Option.bind_eq_some_iff.mp h
    try dsimp only at h
    refine mg_Ev.call (y := 60) (as := [.ref 43, .int x1456]) (rest := []) (v := some (.int v1458)) (w1 := (hp u1459 fL fD, c, z)) rfl rfl (Nat.le_of_ble_eq_true rfl) ((ev_M_done hf3652).deep (by decide)) ?_
    cases h
    exact mg_Ev.fin rfl rfl rfl

def M_givenBack (u : mg_Rg) : Option (UInt64 × mg_Rg) :=
  if (u 43 7) = 0 then
  some (FP.dconst0, (mg_up u 42 0 1))
  else
  if (FP.ddiv (FP.i2d ((mg_up u 42 0 0) 43 8)) (FP.i2d ((mg_up u 42 0 0) 43 7))) &&& 0x7fffffffffffffff ≤ 0x7ff0000000000000 then
    some ((FP.ddiv (FP.i2d ((mg_up u 42 0 0) 43 8)) (FP.i2d ((mg_up u 42 0 0) 43 7))), (mg_up u 42 0 0))
    else none

set_option maxRecDepth 10000 in
set_option maxHeartbeats 4000000 in
theorem ev_M_givenBack {sc : mg_Sc} {c z : Nat} {fL : Nat → Int64} {fD : Nat → UInt64} {u : mg_Rg} {p : UInt64 × mg_Rg} (h : M_givenBack u = some p) : mg_Ev sc 0 125 0 (mg_entry 125 [.ref 43]) [] (hp u fL fD, c, z) (.inl (some (.double p.1)), (hp p.2 fL fD, c, z)) := by
  unfold M_givenBack at h
  show mg_Ev _ _ _ 0 [some (.ref 43)] [] _ _
  refine mg_Ev.go 3 (pc' := 6) (loc' := [some (.ref 43)]) (st' := [.int 7, .ref 44]) (w' := (hp u fL fD, c, z)) rfl ?_
  refine mg_Ev.iald (a := 43) (n := 690) (f := u 43) (j := 7) rfl (hpg_43 _ _ _) (by decide) (by decide) ?_
  refine mg_Ev.br (P := (u 43 7) = 0) (t := 10) (nx := 17) (st' := []) rfl rfl rfl rfl (fun hc3653 => ?_) (fun hc3653 => ?_)
  · rw [if_pos hc3653] at h
    refine mg_Ev.go 2 (pc' := 12) (loc' := [some (.ref 43)]) (st' := [.int 1, .ref 43]) (w' := (hp u fL fD, c, z)) rfl ?_
    refine mg_Ev.put rfl (hpg_42 _ _ _) (Nat.le_of_ble_eq_true rfl) rfl (hpf_42_0 _ _ _ _ _ _) ?_
    refine mg_Ev.go 1 (pc' := 16) (loc' := [some (.ref 43)]) (st' := [.double FP.dconst0]) (w' := (hp (mg_up u 42 0 1) fL fD, c, z)) rfl ?_
    cases h
    exact mg_Ev.fin rfl rfl rfl
  · rw [if_neg hc3653] at h
    refine mg_Ev.go 2 (pc' := 19) (loc' := [some (.ref 43)]) (st' := [.int 0, .ref 43]) (w' := (hp u fL fD, c, z)) rfl ?_
    refine mg_Ev.put rfl (hpg_42 _ _ _) (Nat.le_of_ble_eq_true rfl) rfl (hpf_42_0 _ _ _ _ _ _) ?_
    refine mg_Ev.go 3 (pc' := 28) (loc' := [some (.ref 43)]) (st' := [.int 8, .ref 44]) (w' := (hp (mg_up u 42 0 0) fL fD, c, z)) rfl ?_
    refine mg_Ev.iald (a := 43) (n := 690) (f := (mg_up u 42 0 0) 43) (j := 8) rfl (hpg_43 _ _ _) (by decide) (by decide) ?_
    refine mg_Ev.go 4 (pc' := 36) (loc' := [some (.ref 43)]) (st' := [.int 7, .ref 44, .double (FP.i2d ((mg_up u 42 0 0) 43 8))]) (w' := (hp (mg_up u 42 0 0) fL fD, c, z)) rfl ?_
    refine mg_Ev.iald (a := 43) (n := 690) (f := (mg_up u 42 0 0) 43) (j := 7) rfl (hpg_43 _ _ _) (by decide) (by decide) ?_
    refine mg_Ev.go 1 (pc' := 38) (loc' := [some (.ref 43)]) (st' := [.double (FP.i2d ((mg_up u 42 0 0) 43 7)), .double (FP.i2d ((mg_up u 42 0 0) 43 8))]) (w' := (hp (mg_up u 42 0 0) fL fD, c, z)) rfl ?_
    by_cases hn3654 : (FP.ddiv (FP.i2d ((mg_up u 42 0 0) 43 8)) (FP.i2d ((mg_up u 42 0 0) 43 7))) &&& 0x7fffffffffffffff ≤ 0x7ff0000000000000
    · rw [if_pos hn3654] at h
      refine mg_Ev.need (pc' := 39) (loc' := [some (.ref 43)]) (st' := [.double (FP.ddiv (FP.i2d ((mg_up u 42 0 0) 43 8)) (FP.i2d ((mg_up u 42 0 0) 43 7)))]) (w' := (hp (mg_up u 42 0 0) fL fD, c, z)) hn3654 rfl rfl rfl rfl ?_
      cases h
      exact mg_Ev.fin rfl rfl rfl
    · rw [if_neg hn3654] at h
      cases h

def M_meanRate_L4 : Nat → Int32 → Int32 → mg_Rg → Option (Int32 × mg_Rg)
  | 0, _, _, _ => none
  | n + 1, x1, x2, u =>
    if (u 43 5) ≤ x2 then
    some ((x1, u))
    else
    (M_declAt x2 7 u).bind fun v1461 =>
      if v1461 = 0 then
      M_meanRate_L4 n (x1 + 0) (x2 + 1) u
      else
      (M_declAt x2 2 u).bind fun v1462 =>
        M_meanRate_L4 n (x1 + v1462) (x2 + 1) u
set_option maxRecDepth 10000 in
set_option maxHeartbeats 4000000 in
theorem ev_M_meanRate_L4 {sc : mg_Sc} {c z : Nat} {fL : Nat → Int64} {fD : Nat → UInt64} : ∀ (n : Nat) (x1 : Int32) (x2 : Int32) (u : mg_Rg) (res : Int32 × mg_Rg), M_meanRate_L4 n x1 x2 u = some res → ∀ r, (match res with | (y1, yu) => mg_Ev sc 1 126 43 [some (.ref 43), some (.int y1), none] [] (hp yu fL fD, c, z) r) → mg_Ev sc 1 126 4 [some (.ref 43), some (.int x1), some (.int x2)] [] (hp u fL fD, c, z) r := by
  intro n
  induction n with
  | zero => intro x1 x2 u res h; cases h
  | succ n ih =>
    intro x1 x2 u res h r K
    unfold M_meanRate_L4 at h
    refine mg_Ev.go 4 (pc' := 10) (loc' := [some (.ref 43), some (.int x1), some (.int x2)]) (st' := [.int 5, .ref 44, .int x2]) (w' := (hp u fL fD, c, z)) rfl ?_
    refine mg_Ev.iald (a := 43) (n := 690) (f := u 43) (j := 5) rfl (hpg_43 _ _ _) (by decide) (by decide) ?_
    refine mg_Ev.br (P := (u 43 5) ≤ x2) (t := 43) (nx := 14) (st' := []) rfl rfl rfl rfl (fun hc3655 => ?_) (fun hc3655 => ?_)
    · rw [if_pos hc3655] at h
      cases h
      exact mg_Ev.more (loc := [some (.ref 43), some (.int x1), none]) K ⟨rfl, ⟨rfl, trivial⟩⟩
    · rw [if_neg hc3655] at h
      refine mg_Ev.go 4 (pc' := 19) (loc' := [some (.ref 43), some (.int x1), some (.int x2)]) (st' := [.int 7, .int x2, .ref 43, .int x1]) (w' := (hp u fL fD, c, z)) rfl ?_
      obtain ⟨v1461, hf3656, h⟩ := Option.bind_eq_some_iff.mp h
      refine mg_Ev.call (y := 68) (as := [.ref 43, .int x2, .int 7]) (rest := [.int x1]) (v := some (.int v1461)) (w1 := (hp u fL fD, c, z)) rfl rfl (Nat.le_of_ble_eq_true rfl) ((ev_M_declAt hf3656).deep (by decide)) ?_
      refine mg_Ev.br (P := v1461 = 0) (t := 25) (nx := 29) (st' := [.int x1]) rfl rfl rfl rfl (fun hc3657 => ?_) (fun hc3657 => ?_)
      · rw [if_pos hc3657] at h
        refine mg_Ev.go 6 (pc' := 4) (loc' := [some (.ref 43), some (.int (x1 + 0)), some (.int (x2 + 1))]) (st' := []) (w' := (hp u fL fD, c, z)) rfl ?_
        exact mg_Ev.more (loc := [some (.ref 43), some (.int (x1 + 0)), some (.int (x2 + 1))]) (ih _ _ _ _ h _ K) ⟨rfl, ⟨rfl, ⟨rfl, trivial⟩⟩⟩
      · rw [if_neg hc3657] at h
        refine mg_Ev.go 3 (pc' := 32) (loc' := [some (.ref 43), some (.int x1), some (.int x2)]) (st' := [.int 2, .int x2, .ref 43, .int x1]) (w' := (hp u fL fD, c, z)) rfl ?_
        obtain ⟨v1462, hf3658, h⟩ := Option.bind_eq_some_iff.mp h
        refine mg_Ev.call (y := 68) (as := [.ref 43, .int x2, .int 2]) (rest := [.int x1]) (v := some (.int v1462)) (w1 := (hp u fL fD, c, z)) rfl rfl (Nat.le_of_ble_eq_true rfl) ((ev_M_declAt hf3658).deep (by decide)) ?_
        refine mg_Ev.go 4 (pc' := 4) (loc' := [some (.ref 43), some (.int (x1 + v1462)), some (.int (x2 + 1))]) (st' := []) (w' := (hp u fL fD, c, z)) rfl ?_
        exact mg_Ev.more (loc := [some (.ref 43), some (.int (x1 + v1462)), some (.int (x2 + 1))]) (ih _ _ _ _ h _ K) ⟨rfl, ⟨rfl, ⟨rfl, trivial⟩⟩⟩

def M_meanRate (u : mg_Rg) : Option (UInt32 × mg_Rg) :=
  (M_meanRate_L4 mg_F 0 0 u).bind fun q3659 => match q3659 with
  | (x1463, u1464) =>
    if x1463 = 0 then
    some (FP.fconst0, (mg_up u1464 42 0 1))
    else
    if (FP.fdiv (FP.i2f (((mg_up u1464 42 0 0) 43 7) - ((mg_up u1464 42 0 0) 43 8))) (FP.i2f x1463)) &&& 0x7fffffff ≤ 0x7f800000 then
      some ((FP.fdiv (FP.i2f (((mg_up u1464 42 0 0) 43 7) - ((mg_up u1464 42 0 0) 43 8))) (FP.i2f x1463)), (mg_up u1464 42 0 0))
      else none

set_option maxRecDepth 10000 in
set_option maxHeartbeats 4000000 in
theorem ev_M_meanRate {sc : mg_Sc} {c z : Nat} {fL : Nat → Int64} {fD : Nat → UInt64} {u : mg_Rg} {p : UInt32 × mg_Rg} (h : M_meanRate u = some p) : mg_Ev sc 1 126 0 (mg_entry 126 [.ref 43]) [] (hp u fL fD, c, z) (.inl (some (.float p.1)), (hp p.2 fL fD, c, z)) := by
  unfold M_meanRate at h
  show mg_Ev _ _ _ 0 [some (.ref 43), none, none] [] _ _
  refine mg_Ev.go 4 (pc' := 4) (loc' := [some (.ref 43), some (.int 0), some (.int 0)]) (st' := []) (w' := (hp u fL fD, c, z)) rfl ?_
  obtain ⟨⟨x1463, u1464⟩, hl3660, h⟩ := Option.bind_eq_some_iff.mp h
  try dsimp only at h
  refine mg_Ev.more (loc := [some (.ref 43), some (.int 0), some (.int 0)]) (ev_M_meanRate_L4 _ _ _ _ _ hl3660 _ ?_) ⟨rfl, ⟨rfl, ⟨rfl, trivial⟩⟩⟩
  show mg_Ev _ _ _ 43 [some (.ref 43), some (.int x1463), none] [] (hp u1464 fL fD, c, z) _
  refine mg_Ev.go 1 (pc' := 44) (loc' := [some (.ref 43), some (.int x1463), none]) (st' := [.int x1463]) (w' := (hp u1464 fL fD, c, z)) rfl ?_
  refine mg_Ev.br (P := x1463 = 0) (t := 47) (nx := 54) (st' := []) rfl rfl rfl rfl (fun hc3661 => ?_) (fun hc3661 => ?_)
  · rw [if_pos hc3661] at h
    refine mg_Ev.go 2 (pc' := 49) (loc' := [some (.ref 43), some (.int x1463), none]) (st' := [.int 1, .ref 43]) (w' := (hp u1464 fL fD, c, z)) rfl ?_
    refine mg_Ev.put rfl (hpg_42 _ _ _) (Nat.le_of_ble_eq_true rfl) rfl (hpf_42_0 _ _ _ _ _ _) ?_
    refine mg_Ev.go 1 (pc' := 53) (loc' := [some (.ref 43), some (.int x1463), none]) (st' := [.float FP.fconst0]) (w' := (hp (mg_up u1464 42 0 1) fL fD, c, z)) rfl ?_
    cases h
    exact mg_Ev.fin rfl rfl rfl
  · rw [if_neg hc3661] at h
    refine mg_Ev.go 2 (pc' := 56) (loc' := [some (.ref 43), some (.int x1463), none]) (st' := [.int 0, .ref 43]) (w' := (hp u1464 fL fD, c, z)) rfl ?_
    refine mg_Ev.put rfl (hpg_42 _ _ _) (Nat.le_of_ble_eq_true rfl) rfl (hpf_42_0 _ _ _ _ _ _) ?_
    refine mg_Ev.go 3 (pc' := 65) (loc' := [some (.ref 43), some (.int x1463), none]) (st' := [.int 7, .ref 44]) (w' := (hp (mg_up u1464 42 0 0) fL fD, c, z)) rfl ?_
    refine mg_Ev.iald (a := 43) (n := 690) (f := (mg_up u1464 42 0 0) 43) (j := 7) rfl (hpg_43 _ _ _) (by decide) (by decide) ?_
    refine mg_Ev.go 3 (pc' := 72) (loc' := [some (.ref 43), some (.int x1463), none]) (st' := [.int 8, .ref 44, .int ((mg_up u1464 42 0 0) 43 7)]) (w' := (hp (mg_up u1464 42 0 0) fL fD, c, z)) rfl ?_
    refine mg_Ev.iald (a := 43) (n := 690) (f := (mg_up u1464 42 0 0) 43) (j := 8) rfl (hpg_43 _ _ _) (by decide) (by decide) ?_
    refine mg_Ev.go 4 (pc' := 77) (loc' := [some (.ref 43), some (.int x1463), none]) (st' := [.float (FP.i2f x1463), .float (FP.i2f (((mg_up u1464 42 0 0) 43 7) - ((mg_up u1464 42 0 0) 43 8)))]) (w' := (hp (mg_up u1464 42 0 0) fL fD, c, z)) rfl ?_
    by_cases hn3662 : (FP.fdiv (FP.i2f (((mg_up u1464 42 0 0) 43 7) - ((mg_up u1464 42 0 0) 43 8))) (FP.i2f x1463)) &&& 0x7fffffff ≤ 0x7f800000
    · rw [if_pos hn3662] at h
      refine mg_Ev.need (pc' := 78) (loc' := [some (.ref 43), some (.int x1463), none]) (st' := [.float (FP.fdiv (FP.i2f (((mg_up u1464 42 0 0) 43 7) - ((mg_up u1464 42 0 0) 43 8))) (FP.i2f x1463))]) (w' := (hp (mg_up u1464 42 0 0) fL fD, c, z)) hn3662 rfl rfl rfl rfl ?_
      cases h
      exact mg_Ev.fin rfl rfl rfl
    · rw [if_neg hn3662] at h
      cases h

def M_append (a0 : Int32) (u : mg_Rg) : Option (Int32 × mg_Rg) :=
  (M_in a0 33 126 u).bind fun v1465 =>
  if v1465 = 0 then
  (M_fails 1 u).bind fun p1468 => match p1468 with
    | (v1466, u1467) =>
      some (v1466, u1467)
  else
  if (u 42 10) = 60 then
    (M_fails 2 u).bind fun p1471 => match p1471 with
      | (v1469, u1470) =>
        some (v1469, u1470)
    else
    if (u 42 10) < 0 ∨ 60 ≤ (u 42 10).toNatClampNeg then none else
      (M_done ((mg_up (mg_up u 47 ((u 42 10).toNatClampNeg) (vp_nar .char a0)) 42 10 (((mg_up u 47 ((u 42 10).toNatClampNeg) (vp_nar .char a0)) 42 10) + 1)) 42 10) (mg_up (mg_up u 47 ((u 42 10).toNatClampNeg) (vp_nar .char a0)) 42 10 (((mg_up u 47 ((u 42 10).toNatClampNeg) (vp_nar .char a0)) 42 10) + 1))).bind fun p1474 => match p1474 with
      | (v1472, u1473) =>
        some (v1472, u1473)

set_option maxRecDepth 10000 in
set_option maxHeartbeats 4000000 in
theorem ev_M_append {sc : mg_Sc} {c z : Nat} {fL : Nat → Int64} {fD : Nat → UInt64} {a0 : Int32} {u : mg_Rg} {p : Int32 × mg_Rg} (h : M_append a0 u = some p) : mg_Ev sc 1 127 0 (mg_entry 127 [.ref 43, .int a0]) [] (hp u fL fD, c, z) (.inl (some (.int p.1)), (hp p.2 fL fD, c, z)) := by
  unfold M_append at h
  show mg_Ev _ _ _ 0 [some (.ref 43), some (.int a0)] [] _ _
  refine mg_Ev.go 3 (pc' := 5) (loc' := [some (.ref 43), some (.int a0)]) (st' := [.int 126, .int 33, .int a0]) (w' := (hp u fL fD, c, z)) rfl ?_
  obtain ⟨v1465, hf3663, h⟩ := Option.bind_eq_some_iff.mp h
  refine mg_Ev.call (y := 58) (as := [.int a0, .int 33, .int 126]) (rest := []) (v := some (.int v1465)) (w1 := (hp u fL fD, c, z)) rfl rfl (Nat.le_of_ble_eq_true rfl) ((ev_M_in hf3663).deep (by decide)) ?_
  refine mg_Ev.br (P := v1465 = 0) (t := 11) (nx := 17) (st' := []) rfl rfl rfl rfl (fun hc3664 => ?_) (fun hc3664 => ?_)
  · rw [if_pos hc3664] at h
    refine mg_Ev.go 2 (pc' := 13) (loc' := [some (.ref 43), some (.int a0)]) (st' := [.int 1, .ref 43]) (w' := (hp u fL fD, c, z)) rfl ?_
    obtain ⟨⟨v1466, u1467⟩, hf3665, h⟩ := Option.bind_eq_some_iff.mp h
    try dsimp only at h
    refine mg_Ev.call (y := 59) (as := [.ref 43, .int 1]) (rest := []) (v := some (.int v1466)) (w1 := (hp u1467 fL fD, c, z)) rfl rfl (Nat.le_of_ble_eq_true rfl) ((ev_M_fails hf3665).deep (by decide)) ?_
    cases h
    exact mg_Ev.fin rfl rfl rfl
  · rw [if_neg hc3664] at h
    refine mg_Ev.go 3 (pc' := 23) (loc' := [some (.ref 43), some (.int a0)]) (st' := [.int 60, .int (u 42 10)]) (w' := (hp u fL fD, c, z)) rfl ?_
    refine mg_Ev.br (P := (u 42 10) = 60) (t := 26) (nx := 32) (st' := []) rfl rfl rfl rfl (fun hc3666 => ?_) (fun hc3666 => ?_)
    · rw [if_pos hc3666] at h
      refine mg_Ev.go 2 (pc' := 28) (loc' := [some (.ref 43), some (.int a0)]) (st' := [.int 2, .ref 43]) (w' := (hp u fL fD, c, z)) rfl ?_
      obtain ⟨⟨v1469, u1470⟩, hf3667, h⟩ := Option.bind_eq_some_iff.mp h
      try dsimp only at h
      refine mg_Ev.call (y := 59) (as := [.ref 43, .int 2]) (rest := []) (v := some (.int v1469)) (w1 := (hp u1470 fL fD, c, z)) rfl rfl (Nat.le_of_ble_eq_true rfl) ((ev_M_fails hf3667).deep (by decide)) ?_
      cases h
      exact mg_Ev.fin rfl rfl rfl
    · rw [if_neg hc3666] at h
      refine mg_Ev.go 5 (pc' := 41) (loc' := [some (.ref 43), some (.int a0)]) (st' := [.int a0, .int (u 42 10), .ref 48]) (w' := (hp u fL fD, c, z)) rfl ?_
      by_cases hb3668 : (u 42 10) < 0 ∨ 60 ≤ (u 42 10).toNatClampNeg
      · rw [if_pos hb3668] at h
        cases h
      · rw [if_neg hb3668] at h
        refine mg_Ev.cast (a := 47) (n := 60) rfl (hpg_47 _ _ _) rfl hb3668 (hpa_47 _ _ _ _ _ _ _) ?_
        refine mg_Ev.go 5 (pc' := 49) (loc' := [some (.ref 43), some (.int a0)]) (st' := [.int (((mg_up u 47 ((u 42 10).toNatClampNeg) (vp_nar .char a0)) 42 10) + 1), .ref 43]) (w' := (hp (mg_up u 47 ((u 42 10).toNatClampNeg) (vp_nar .char a0)) fL fD, c, z)) rfl ?_
        refine mg_Ev.put rfl (hpg_42 _ _ _) (Nat.le_of_ble_eq_true rfl) rfl (hpf_42_10 _ _ _ _ _ _) ?_
        refine mg_Ev.go 3 (pc' := 57) (loc' := [some (.ref 43), some (.int a0)]) (st' := [.int ((mg_up (mg_up u 47 ((u 42 10).toNatClampNeg) (vp_nar .char a0)) 42 10 (((mg_up u 47 ((u 42 10).toNatClampNeg) (vp_nar .char a0)) 42 10) + 1)) 42 10), .ref 43]) (w' := (hp (mg_up (mg_up u 47 ((u 42 10).toNatClampNeg) (vp_nar .char a0)) 42 10 (((mg_up u 47 ((u 42 10).toNatClampNeg) (vp_nar .char a0)) 42 10) + 1)) fL fD, c, z)) rfl ?_
        obtain ⟨⟨v1472, u1473⟩, hf3669, h⟩ := Option.bind_eq_some_iff.mp h
        try dsimp only at h
        refine mg_Ev.call (y := 60) (as := [.ref 43, .int ((mg_up (mg_up u 47 ((u 42 10).toNatClampNeg) (vp_nar .char a0)) 42 10 (((mg_up u 47 ((u 42 10).toNatClampNeg) (vp_nar .char a0)) 42 10) + 1)) 42 10)]) (rest := []) (v := some (.int v1472)) (w1 := (hp u1473 fL fD, c, z)) rfl rfl (Nat.le_of_ble_eq_true rfl) ((ev_M_done hf3669).deep (by decide)) ?_
        cases h
        exact mg_Ev.fin rfl rfl rfl

def M_here (u : mg_Rg) : Option (Int32) :=
  if (u 42 10) ≤ (u 42 13) then
  some (-1)
  else
  if (u 42 13) < 0 ∨ 60 ≤ (u 42 13).toNatClampNeg then none else
    some (u 47 ((u 42 13).toNatClampNeg))

set_option maxRecDepth 10000 in
set_option maxHeartbeats 4000000 in
theorem ev_M_here {sc : mg_Sc} {c z : Nat} {fL : Nat → Int64} {fD : Nat → UInt64} {u : mg_Rg} {v : Int32} (h : M_here u = some v) : mg_Ev sc 0 128 0 (mg_entry 128 [.ref 43]) [] (hp u fL fD, c, z) (.inl (some (.int v)), (hp u fL fD, c, z)) := by
  unfold M_here at h
  show mg_Ev _ _ _ 0 [some (.ref 43)] [] _ _
  refine mg_Ev.go 4 (pc' := 8) (loc' := [some (.ref 43)]) (st' := [.int (u 42 10), .int (u 42 13)]) (w' := (hp u fL fD, c, z)) rfl ?_
  refine mg_Ev.br (P := (u 42 10) ≤ (u 42 13)) (t := 23) (nx := 11) (st' := []) rfl rfl rfl rfl (fun hc3670 => ?_) (fun hc3670 => ?_)
  · rw [if_pos hc3670] at h
    refine mg_Ev.go 1 (pc' := 24) (loc' := [some (.ref 43)]) (st' := [.int (-1)]) (w' := (hp u fL fD, c, z)) rfl ?_
    cases h
    exact mg_Ev.fin rfl rfl rfl
  · rw [if_neg hc3670] at h
    refine mg_Ev.go 4 (pc' := 19) (loc' := [some (.ref 43)]) (st' := [.int (u 42 13), .ref 48]) (w' := (hp u fL fD, c, z)) rfl ?_
    by_cases hb3671 : (u 42 13) < 0 ∨ 60 ≤ (u 42 13).toNatClampNeg
    · rw [if_pos hb3671] at h
      cases h
    · rw [if_neg hb3671] at h
      refine mg_Ev.cald (a := 47) (n := 60) (f := u 47) rfl (hpg_47 _ _ _) rfl hb3671 ?_
      refine mg_Ev.go 1 (pc' := 24) (loc' := [some (.ref 43)]) (st' := [.int (u 47 ((u 42 13).toNatClampNeg))]) (w' := (hp u fL fD, c, z)) rfl ?_
      cases h
      exact mg_Ev.fin rfl rfl rfl

