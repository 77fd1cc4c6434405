def M_settles (a0 : Int32) (u : mg_Rg) : Option (mg_Rg) :=
  (M_inQuota a0 u).bind fun v1276 =>
  (M_declAt a0 5 u).bind fun v1277 =>
  if v1277 = (-1) then
  if ((208 + (16 * a0)) + 9) < 0 ∨ 690 ≤ ((208 + (16 * a0)) + 9).toNatClampNeg then none else
    (M_rateNow a0 (mg_up u 43 (((208 + (16 * a0)) + 9).toNatClampNeg) 0)).bind fun v1278 =>
    if ((208 + (16 * a0)) + 12) < 0 ∨ 690 ≤ ((208 + (16 * a0)) + 12).toNatClampNeg then none else
    (M_fromNow a0 (mg_up (mg_up u 43 (((208 + (16 * a0)) + 9).toNatClampNeg) 0) 43 (((208 + (16 * a0)) + 12).toNatClampNeg) v1278)).bind fun v1279 =>
    if ((208 + (16 * a0)) + 13) < 0 ∨ 690 ≤ ((208 + (16 * a0)) + 13).toNatClampNeg then none else
    (M_declAt a0 2 (mg_up (mg_up (mg_up u 43 (((208 + (16 * a0)) + 9).toNatClampNeg) 0) 43 (((208 + (16 * a0)) + 12).toNatClampNeg) v1278) 43 (((208 + (16 * a0)) + 13).toNatClampNeg) v1279)).bind fun v1280 =>
    (M_declAt a0 12 (mg_up (mg_up (mg_up u 43 (((208 + (16 * a0)) + 9).toNatClampNeg) 0) 43 (((208 + (16 * a0)) + 12).toNatClampNeg) v1278) 43 (((208 + (16 * a0)) + 13).toNatClampNeg) v1279)).bind fun v1281 =>
    if ((208 + (16 * a0)) + 10) < 0 ∨ 690 ≤ ((208 + (16 * a0)) + 10).toNatClampNeg then none else
    if ((208 + (16 * a0)) + 7) < 0 ∨ 690 ≤ ((208 + (16 * a0)) + 7).toNatClampNeg then none else
    (M_declAt a0 9 (mg_up (mg_up (mg_up (mg_up (mg_up u 43 (((208 + (16 * a0)) + 9).toNatClampNeg) 0) 43 (((208 + (16 * a0)) + 12).toNatClampNeg) v1278) 43 (((208 + (16 * a0)) + 13).toNatClampNeg) v1279) 43 (((208 + (16 * a0)) + 10).toNatClampNeg) (((v1280 - v1276) * v1281) / 1000)) 43 (((208 + (16 * a0)) + 7).toNatClampNeg) 1)).bind fun v1282 =>
    (M_declAt a0 10 (mg_up (mg_up (mg_up (mg_up (mg_up u 43 (((208 + (16 * a0)) + 9).toNatClampNeg) 0) 43 (((208 + (16 * a0)) + 12).toNatClampNeg) v1278) 43 (((208 + (16 * a0)) + 13).toNatClampNeg) v1279) 43 (((208 + (16 * a0)) + 10).toNatClampNeg) (((v1280 - v1276) * v1281) / 1000)) 43 (((208 + (16 * a0)) + 7).toNatClampNeg) 1)).bind fun v1283 =>
    (M_declAt a0 3 (mg_up (mg_up (mg_up (mg_up (mg_up (mg_up u 43 (((208 + (16 * a0)) + 9).toNatClampNeg) 0) 43 (((208 + (16 * a0)) + 12).toNatClampNeg) v1278) 43 (((208 + (16 * a0)) + 13).toNatClampNeg) v1279) 43 (((208 + (16 * a0)) + 10).toNatClampNeg) (((v1280 - v1276) * v1281) / 1000)) 43 (((208 + (16 * a0)) + 7).toNatClampNeg) 1) 43 7 (((mg_up (mg_up (mg_up (mg_up (mg_up u 43 (((208 + (16 * a0)) + 9).toNatClampNeg) 0) 43 (((208 + (16 * a0)) + 12).toNatClampNeg) v1278) 43 (((208 + (16 * a0)) + 13).toNatClampNeg) v1279) 43 (((208 + (16 * a0)) + 10).toNatClampNeg) (((v1280 - v1276) * v1281) / 1000)) 43 (((208 + (16 * a0)) + 7).toNatClampNeg) 1) 43 7) + (v1282 + v1283)))).bind fun v1284 =>
    if (200 + v1284) < 0 ∨ 690 ≤ (200 + v1284).toNatClampNeg then none else
    if (200 + v1284) < 0 ∨ 690 ≤ (200 + v1284).toNatClampNeg then none else
    some (mg_up (mg_up (mg_up (mg_up (mg_up (mg_up (mg_up u 43 (((208 + (16 * a0)) + 9).toNatClampNeg) 0) 43 (((208 + (16 * a0)) + 12).toNatClampNeg) v1278) 43 (((208 + (16 * a0)) + 13).toNatClampNeg) v1279) 43 (((208 + (16 * a0)) + 10).toNatClampNeg) (((v1280 - v1276) * v1281) / 1000)) 43 (((208 + (16 * a0)) + 7).toNatClampNeg) 1) 43 7 (((mg_up (mg_up (mg_up (mg_up (mg_up u 43 (((208 + (16 * a0)) + 9).toNatClampNeg) 0) 43 (((208 + (16 * a0)) + 12).toNatClampNeg) v1278) 43 (((208 + (16 * a0)) + 13).toNatClampNeg) v1279) 43 (((208 + (16 * a0)) + 10).toNatClampNeg) (((v1280 - v1276) * v1281) / 1000)) 43 (((208 + (16 * a0)) + 7).toNatClampNeg) 1) 43 7) + (v1282 + v1283))) 43 ((200 + v1284).toNatClampNeg) (((mg_up (mg_up (mg_up (mg_up (mg_up (mg_up u 43 (((208 + (16 * a0)) + 9).toNatClampNeg) 0) 43 (((208 + (16 * a0)) + 12).toNatClampNeg) v1278) 43 (((208 + (16 * a0)) + 13).toNatClampNeg) v1279) 43 (((208 + (16 * a0)) + 10).toNatClampNeg) (((v1280 - v1276) * v1281) / 1000)) 43 (((208 + (16 * a0)) + 7).toNatClampNeg) 1) 43 7 (((mg_up (mg_up (mg_up (mg_up (mg_up u 43 (((208 + (16 * a0)) + 9).toNatClampNeg) 0) 43 (((208 + (16 * a0)) + 12).toNatClampNeg) v1278) 43 (((208 + (16 * a0)) + 13).toNatClampNeg) v1279) 43 (((208 + (16 * a0)) + 10).toNatClampNeg) (((v1280 - v1276) * v1281) / 1000)) 43 (((208 + (16 * a0)) + 7).toNatClampNeg) 1) 43 7) + (v1282 + v1283))) 43 ((200 + v1284).toNatClampNeg)) + (v1282 + v1283)))
  else
  (M_declAt a0 5 u).bind fun v1285 =>
    (M_quotaAt v1285 3 u).bind fun v1286 =>
    if ((208 + (16 * a0)) + 9) < 0 ∨ 690 ≤ ((208 + (16 * a0)) + 9).toNatClampNeg then none else
    (M_rateNow a0 (mg_up u 43 (((208 + (16 * a0)) + 9).toNatClampNeg) ((v1276 * v1286) / 1000))).bind fun v1287 =>
    if ((208 + (16 * a0)) + 12) < 0 ∨ 690 ≤ ((208 + (16 * a0)) + 12).toNatClampNeg then none else
    (M_fromNow a0 (mg_up (mg_up u 43 (((208 + (16 * a0)) + 9).toNatClampNeg) ((v1276 * v1286) / 1000)) 43 (((208 + (16 * a0)) + 12).toNatClampNeg) v1287)).bind fun v1288 =>
    if ((208 + (16 * a0)) + 13) < 0 ∨ 690 ≤ ((208 + (16 * a0)) + 13).toNatClampNeg then none else
    (M_declAt a0 2 (mg_up (mg_up (mg_up u 43 (((208 + (16 * a0)) + 9).toNatClampNeg) ((v1276 * v1286) / 1000)) 43 (((208 + (16 * a0)) + 12).toNatClampNeg) v1287) 43 (((208 + (16 * a0)) + 13).toNatClampNeg) v1288)).bind fun v1289 =>
    (M_declAt a0 12 (mg_up (mg_up (mg_up u 43 (((208 + (16 * a0)) + 9).toNatClampNeg) ((v1276 * v1286) / 1000)) 43 (((208 + (16 * a0)) + 12).toNatClampNeg) v1287) 43 (((208 + (16 * a0)) + 13).toNatClampNeg) v1288)).bind fun v1290 =>
    if ((208 + (16 * a0)) + 10) < 0 ∨ 690 ≤ ((208 + (16 * a0)) + 10).toNatClampNeg then none else
    if ((208 + (16 * a0)) + 7) < 0 ∨ 690 ≤ ((208 + (16 * a0)) + 7).toNatClampNeg then none else
    (M_declAt a0 9 (mg_up (mg_up (mg_up (mg_up (mg_up u 43 (((208 + (16 * a0)) + 9).toNatClampNeg) ((v1276 * v1286) / 1000)) 43 (((208 + (16 * a0)) + 12).toNatClampNeg) v1287) 43 (((208 + (16 * a0)) + 13).toNatClampNeg) v1288) 43 (((208 + (16 * a0)) + 10).toNatClampNeg) (((v1289 - v1276) * v1290) / 1000)) 43 (((208 + (16 * a0)) + 7).toNatClampNeg) 1)).bind fun v1291 =>
    (M_declAt a0 10 (mg_up (mg_up (mg_up (mg_up (mg_up u 43 (((208 + (16 * a0)) + 9).toNatClampNeg) ((v1276 * v1286) / 1000)) 43 (((208 + (16 * a0)) + 12).toNatClampNeg) v1287) 43 (((208 + (16 * a0)) + 13).toNatClampNeg) v1288) 43 (((208 + (16 * a0)) + 10).toNatClampNeg) (((v1289 - v1276) * v1290) / 1000)) 43 (((208 + (16 * a0)) + 7).toNatClampNeg) 1)).bind fun v1292 =>
    (M_declAt a0 3 (mg_up (mg_up (mg_up (mg_up (mg_up (mg_up u 43 (((208 + (16 * a0)) + 9).toNatClampNeg) ((v1276 * v1286) / 1000)) 43 (((208 + (16 * a0)) + 12).toNatClampNeg) v1287) 43 (((208 + (16 * a0)) + 13).toNatClampNeg) v1288) 43 (((208 + (16 * a0)) + 10).toNatClampNeg) (((v1289 - v1276) * v1290) / 1000)) 43 (((208 + (16 * a0)) + 7).toNatClampNeg) 1) 43 7 (((mg_up (mg_up (mg_up (mg_up (mg_up u 43 (((208 + (16 * a0)) + 9).toNatClampNeg) ((v1276 * v1286) / 1000)) 43 (((208 + (16 * a0)) + 12).toNatClampNeg) v1287) 43 (((208 + (16 * a0)) + 13).toNatClampNeg) v1288) 43 (((208 + (16 * a0)) + 10).toNatClampNeg) (((v1289 - v1276) * v1290) / 1000)) 43 (((208 + (16 * a0)) + 7).toNatClampNeg) 1) 43 7) + (v1291 + v1292)))).bind fun v1293 =>
    if (200 + v1293) < 0 ∨ 690 ≤ (200 + v1293).toNatClampNeg then none else
    if (200 + v1293) < 0 ∨ 690 ≤ (200 + v1293).toNatClampNeg then none else
    some (mg_up (mg_up (mg_up (mg_up (mg_up (mg_up (mg_up u 43 (((208 + (16 * a0)) + 9).toNatClampNeg) ((v1276 * v1286) / 1000)) 43 (((208 + (16 * a0)) + 12).toNatClampNeg) v1287) 43 (((208 + (16 * a0)) + 13).toNatClampNeg) v1288) 43 (((208 + (16 * a0)) + 10).toNatClampNeg) (((v1289 - v1276) * v1290) / 1000)) 43 (((208 + (16 * a0)) + 7).toNatClampNeg) 1) 43 7 (((mg_up (mg_up (mg_up (mg_up (mg_up u 43 (((208 + (16 * a0)) + 9).toNatClampNeg) ((v1276 * v1286) / 1000)) 43 (((208 + (16 * a0)) + 12).toNatClampNeg) v1287) 43 (((208 + (16 * a0)) + 13).toNatClampNeg) v1288) 43 (((208 + (16 * a0)) + 10).toNatClampNeg) (((v1289 - v1276) * v1290) / 1000)) 43 (((208 + (16 * a0)) + 7).toNatClampNeg) 1) 43 7) + (v1291 + v1292))) 43 ((200 + v1293).toNatClampNeg) (((mg_up (mg_up (mg_up (mg_up (mg_up (mg_up u 43 (((208 + (16 * a0)) + 9).toNatClampNeg) ((v1276 * v1286) / 1000)) 43 (((208 + (16 * a0)) + 12).toNatClampNeg) v1287) 43 (((208 + (16 * a0)) + 13).toNatClampNeg) v1288) 43 (((208 + (16 * a0)) + 10).toNatClampNeg) (((v1289 - v1276) * v1290) / 1000)) 43 (((208 + (16 * a0)) + 7).toNatClampNeg) 1) 43 7 (((mg_up (mg_up (mg_up (mg_up (mg_up u 43 (((208 + (16 * a0)) + 9).toNatClampNeg) ((v1276 * v1286) / 1000)) 43 (((208 + (16 * a0)) + 12).toNatClampNeg) v1287) 43 (((208 + (16 * a0)) + 13).toNatClampNeg) v1288) 43 (((208 + (16 * a0)) + 10).toNatClampNeg) (((v1289 - v1276) * v1290) / 1000)) 43 (((208 + (16 * a0)) + 7).toNatClampNeg) 1) 43 7) + (v1291 + v1292))) 43 ((200 + v1293).toNatClampNeg)) + (v1291 + v1292)))

set_option maxRecDepth 10000 in
set_option maxHeartbeats 4000000 in
theorem ev_M_settles {sc : mg_Sc} {c z : Nat} {fL : Nat → Int64} {fD : Nat → UInt64} {a0 : Int32} {u : mg_Rg} {v : mg_Rg} (h : M_settles a0 u = some v) : mg_Ev sc 7 111 0 (mg_entry 111 [.ref 43, .int a0]) [] (hp u fL fD, c, z) (.inl none, (hp v fL fD, c, z)) := by
  unfold M_settles at h
  show mg_Ev _ _ _ 0 [some (.ref 43), some (.int a0), none, none, none] [] _ _
  refine mg_Ev.go 8 (pc' := 11) (loc' := [some (.ref 43), some (.int a0), some (.int (208 + (16 * a0))), none, none]) (st' := [.int a0, .ref 43]) (w' := (hp u fL fD, c, z)) rfl ?_
  obtain ⟨v1276, hf3456, h⟩ := Option.bind_eq_some_iff.mp h
  refine mg_Ev.call (y := 110) (as := [.ref 43, .int a0]) (rest := []) (v := some (.int v1276)) (w1 := (hp u fL fD, c, z)) rfl rfl (Nat.le_of_ble_eq_true rfl) ((ev_M_inQuota hf3456).deep (by decide)) ?_
  refine mg_Ev.go 9 (pc' := 26) (loc' := [some (.ref 43), some (.int a0), some (.int (208 + (16 * a0))), some (.int v1276), none]) (st' := [.int 5, .int a0, .ref 43, .int ((208 + (16 * a0)) + 9), .ref 44]) (w' := (hp u fL fD, c, z)) rfl ?_
  obtain ⟨v1277, hf3457, h⟩ := Option.bind_eq_some_iff.mp h
  refine mg_Ev.call (y := 68) (as := [.ref 43, .int a0, .int 5]) (rest := [.int ((208 + (16 * a0)) + 9), .ref 44]) (v := some (.int v1277)) (w1 := (hp u fL fD, c, z)) rfl rfl (Nat.le_of_ble_eq_true rfl) ((ev_M_declAt hf3457).deep (by decide)) ?_
  refine mg_Ev.go 1 (pc' := 30) (loc' := [some (.ref 43), some (.int a0), some (.int (208 + (16 * a0))), some (.int v1276), none]) (st' := [.int (-1), .int v1277, .int ((208 + (16 * a0)) + 9), .ref 44]) (w' := (hp u fL fD, c, z)) rfl ?_
  refine mg_Ev.br (P := v1277 = (-1)) (t := 33) (nx := 37) (st' := [.int ((208 + (16 * a0)) + 9), .ref 44]) rfl rfl rfl rfl (fun hc3458 => ?_) (fun hc3458 => ?_)
  · rw [if_pos hc3458] at h
    refine mg_Ev.go 2 (pc' := 54) (loc' := [some (.ref 43), some (.int a0), some (.int (208 + (16 * a0))), some (.int v1276), none]) (st' := [.int 0, .int ((208 + (16 * a0)) + 9), .ref 44]) (w' := (hp u fL fD, c, z)) rfl ?_
    by_cases hb3459 : ((208 + (16 * a0)) + 9) < 0 ∨ 690 ≤ ((208 + (16 * a0)) + 9).toNatClampNeg
    · rw [if_pos hb3459] at h
      cases h
    · rw [if_neg hb3459] at h
      refine mg_Ev.iast (a := 43) (n := 690) rfl (hpg_43 _ _ _) rfl hb3459 (hpa_43 _ _ _ _ _ _ _) ?_
      refine mg_Ev.go 7 (pc' := 65) (loc' := [some (.ref 43), some (.int a0), some (.int (208 + (16 * a0))), some (.int v1276), none]) (st' := [.int a0, .ref 43, .int ((208 + (16 * a0)) + 12), .ref 44]) (w' := (hp (mg_up u 43 (((208 + (16 * a0)) + 9).toNatClampNeg) 0) fL fD, c, z)) rfl ?_
      obtain ⟨v1278, hf3460, h⟩ := Option.bind_eq_some_iff.mp h
      refine mg_Ev.call (y := 103) (as := [.ref 43, .int a0]) (rest := [.int ((208 + (16 * a0)) + 12), .ref 44]) (v := some (.int v1278)) (w1 := (hp (mg_up u 43 (((208 + (16 * a0)) + 9).toNatClampNeg) 0) fL fD, c, z)) rfl rfl (Nat.le_of_ble_eq_true rfl) ((ev_M_rateNow hf3460).deep (by decide)) ?_
      by_cases hb3461 : ((208 + (16 * a0)) + 12) < 0 ∨ 690 ≤ ((208 + (16 * a0)) + 12).toNatClampNeg
      · rw [if_pos hb3461] at h
        cases h
      · rw [if_neg hb3461] at h
        refine mg_Ev.iast (a := 43) (n := 690) rfl (hpg_43 _ _ _) rfl hb3461 (hpa_43 _ _ _ _ _ _ _) ?_
        refine mg_Ev.go 7 (pc' := 79) (loc' := [some (.ref 43), some (.int a0), some (.int (208 + (16 * a0))), some (.int v1276), none]) (st' := [.int a0, .ref 43, .int ((208 + (16 * a0)) + 13), .ref 44]) (w' := (hp (mg_up (mg_up u 43 (((208 + (16 * a0)) + 9).toNatClampNeg) 0) 43 (((208 + (16 * a0)) + 12).toNatClampNeg) v1278) fL fD, c, z)) rfl ?_
        obtain ⟨v1279, hf3462, h⟩ := Option.bind_eq_some_iff.mp h
        refine mg_Ev.call (y := 104) (as := [.ref 43, .int a0]) (rest := [.int ((208 + (16 * a0)) + 13), .ref 44]) (v := some (.int v1279)) (w1 := (hp (mg_up (mg_up u 43 (((208 + (16 * a0)) + 9).toNatClampNeg) 0) 43 (((208 + (16 * a0)) + 12).toNatClampNeg) v1278) fL fD, c, z)) rfl rfl (Nat.le_of_ble_eq_true rfl) ((ev_M_fromNow hf3462).deep (by decide)) ?_
        by_cases hb3463 : ((208 + (16 * a0)) + 13) < 0 ∨ 690 ≤ ((208 + (16 * a0)) + 13).toNatClampNeg
        · rw [if_pos hb3463] at h
          cases h
        · rw [if_neg hb3463] at h
          refine mg_Ev.iast (a := 43) (n := 690) rfl (hpg_43 _ _ _) rfl hb3463 (hpa_43 _ _ _ _ _ _ _) ?_
          refine mg_Ev.go 8 (pc' := 94) (loc' := [some (.ref 43), some (.int a0), some (.int (208 + (16 * a0))), some (.int v1276), none]) (st' := [.int 2, .int a0, .ref 43, .int ((208 + (16 * a0)) + 10), .ref 44]) (w' := (hp (mg_up (mg_up (mg_up u 43 (((208 + (16 * a0)) + 9).toNatClampNeg) 0) 43 (((208 + (16 * a0)) + 12).toNatClampNeg) v1278) 43 (((208 + (16 * a0)) + 13).toNatClampNeg) v1279) fL fD, c, z)) rfl ?_
          obtain ⟨v1280, hf3464, h⟩ := Option.bind_eq_some_iff.mp h
          refine mg_Ev.call (y := 68) (as := [.ref 43, .int a0, .int 2]) (rest := [.int ((208 + (16 * a0)) + 10), .ref 44]) (v := some (.int v1280)) (w1 := (hp (mg_up (mg_up (mg_up u 43 (((208 + (16 * a0)) + 9).toNatClampNeg) 0) 43 (((208 + (16 * a0)) + 12).toNatClampNeg) v1278) 43 (((208 + (16 * a0)) + 13).toNatClampNeg) v1279) fL fD, c, z)) rfl rfl (Nat.le_of_ble_eq_true rfl) ((ev_M_declAt hf3464).deep (by decide)) ?_
          refine mg_Ev.go 5 (pc' := 103) (loc' := [some (.ref 43), some (.int a0), some (.int (208 + (16 * a0))), some (.int v1276), none]) (st' := [.int 12, .int a0, .ref 43, .int (v1280 - v1276), .int ((208 + (16 * a0)) + 10), .ref 44]) (w' := (hp (mg_up (mg_up (mg_up u 43 (((208 + (16 * a0)) + 9).toNatClampNeg) 0) 43 (((208 + (16 * a0)) + 12).toNatClampNeg) v1278) 43 (((208 + (16 * a0)) + 13).toNatClampNeg) v1279) fL fD, c, z)) rfl ?_
          obtain ⟨v1281, hf3465, h⟩ := Option.bind_eq_some_iff.mp h
          refine mg_Ev.call (y := 68) (as := [.ref 43, .int a0, .int 12]) (rest := [.int (v1280 - v1276), .int ((208 + (16 * a0)) + 10), .ref 44]) (v := some (.int v1281)) (w1 := (hp (mg_up (mg_up (mg_up u 43 (((208 + (16 * a0)) + 9).toNatClampNeg) 0) 43 (((208 + (16 * a0)) + 12).toNatClampNeg) v1278) 43 (((208 + (16 * a0)) + 13).toNatClampNeg) v1279) fL fD, c, z)) rfl rfl (Nat.le_of_ble_eq_true rfl) ((ev_M_declAt hf3465).deep (by decide)) ?_
          refine mg_Ev.go 2 (pc' := 110) (loc' := [some (.ref 43), some (.int a0), some (.int (208 + (16 * a0))), some (.int v1276), none]) (st' := [.int 1000, .int ((v1280 - v1276) * v1281), .int ((208 + (16 * a0)) + 10), .ref 44]) (w' := (hp (mg_up (mg_up (mg_up u 43 (((208 + (16 * a0)) + 9).toNatClampNeg) 0) 43 (((208 + (16 * a0)) + 12).toNatClampNeg) v1278) 43 (((208 + (16 * a0)) + 13).toNatClampNeg) v1279) fL fD, c, z)) rfl ?_
          refine mg_Ev.idiv rfl (by decide) ?_
          by_cases hb3466 : ((208 + (16 * a0)) + 10) < 0 ∨ 690 ≤ ((208 + (16 * a0)) + 10).toNatClampNeg
          · rw [if_pos hb3466] at h
            cases h
          · rw [if_neg hb3466] at h
            refine mg_Ev.iast (a := 43) (n := 690) rfl (hpg_43 _ _ _) rfl hb3466 (hpa_43 _ _ _ _ _ _ _) ?_
            refine mg_Ev.go 6 (pc' := 121) (loc' := [some (.ref 43), some (.int a0), some (.int (208 + (16 * a0))), some (.int v1276), none]) (st' := [.int 1, .int ((208 + (16 * a0)) + 7), .ref 44]) (w' := (hp (mg_up (mg_up (mg_up (mg_up u 43 (((208 + (16 * a0)) + 9).toNatClampNeg) 0) 43 (((208 + (16 * a0)) + 12).toNatClampNeg) v1278) 43 (((208 + (16 * a0)) + 13).toNatClampNeg) v1279) 43 (((208 + (16 * a0)) + 10).toNatClampNeg) (((v1280 - v1276) * v1281) / 1000)) fL fD, c, z)) rfl ?_
            by_cases hb3467 : ((208 + (16 * a0)) + 7) < 0 ∨ 690 ≤ ((208 + (16 * a0)) + 7).toNatClampNeg
            · rw [if_pos hb3467] at h
              cases h
            · rw [if_neg hb3467] at h
              refine mg_Ev.iast (a := 43) (n := 690) rfl (hpg_43 _ _ _) rfl hb3467 (hpa_43 _ _ _ _ _ _ _) ?_
              refine mg_Ev.go 3 (pc' := 126) (loc' := [some (.ref 43), some (.int a0), some (.int (208 + (16 * a0))), some (.int v1276), none]) (st' := [.int 9, .int a0, .ref 43]) (w' := (hp (mg_up (mg_up (mg_up (mg_up (mg_up u 43 (((208 + (16 * a0)) + 9).toNatClampNeg) 0) 43 (((208 + (16 * a0)) + 12).toNatClampNeg) v1278) 43 (((208 + (16 * a0)) + 13).toNatClampNeg) v1279) 43 (((208 + (16 * a0)) + 10).toNatClampNeg) (((v1280 - v1276) * v1281) / 1000)) 43 (((208 + (16 * a0)) + 7).toNatClampNeg) 1) fL fD, c, z)) rfl ?_
              obtain ⟨v1282, hf3468, h⟩ := Option.bind_eq_some_iff.mp h
              refine mg_Ev.call (y := 68) (as := [.ref 43, .int a0, .int 9]) (rest := []) (v := some (.int v1282)) (w1 := (hp (mg_up (mg_up (mg_up (mg_up (mg_up u 43 (((208 + (16 * a0)) + 9).toNatClampNeg) 0) 43 (((208 + (16 * a0)) + 12).toNatClampNeg) v1278) 43 (((208 + (16 * a0)) + 13).toNatClampNeg) v1279) 43 (((208 + (16 * a0)) + 10).toNatClampNeg) (((v1280 - v1276) * v1281) / 1000)) 43 (((208 + (16 * a0)) + 7).toNatClampNeg) 1) fL fD, c, z)) rfl rfl (Nat.le_of_ble_eq_true rfl) ((ev_M_declAt hf3468).deep (by decide)) ?_
              refine mg_Ev.go 3 (pc' := 133) (loc' := [some (.ref 43), some (.int a0), some (.int (208 + (16 * a0))), some (.int v1276), none]) (st' := [.int 10, .int a0, .ref 43, .int v1282]) (w' := (hp (mg_up (mg_up (mg_up (mg_up (mg_up u 43 (((208 + (16 * a0)) + 9).toNatClampNeg) 0) 43 (((208 + (16 * a0)) + 12).toNatClampNeg) v1278) 43 (((208 + (16 * a0)) + 13).toNatClampNeg) v1279) 43 (((208 + (16 * a0)) + 10).toNatClampNeg) (((v1280 - v1276) * v1281) / 1000)) 43 (((208 + (16 * a0)) + 7).toNatClampNeg) 1) fL fD, c, z)) rfl ?_
              obtain ⟨v1283, hf3469, h⟩ := Option.bind_eq_some_iff.mp h
              refine mg_Ev.call (y := 68) (as := [.ref 43, .int a0, .int 10]) (rest := [.int v1282]) (v := some (.int v1283)) (w1 := (hp (mg_up (mg_up (mg_up (mg_up (mg_up u 43 (((208 + (16 * a0)) + 9).toNatClampNeg) 0) 43 (((208 + (16 * a0)) + 12).toNatClampNeg) v1278) 43 (((208 + (16 * a0)) + 13).toNatClampNeg) v1279) 43 (((208 + (16 * a0)) + 10).toNatClampNeg) (((v1280 - v1276) * v1281) / 1000)) 43 (((208 + (16 * a0)) + 7).toNatClampNeg) 1) fL fD, c, z)) rfl rfl (Nat.le_of_ble_eq_true rfl) ((ev_M_declAt hf3469).deep (by decide)) ?_
              refine mg_Ev.go 6 (pc' := 146) (loc' := [some (.ref 43), some (.int a0), some (.int (208 + (16 * a0))), some (.int v1276), some (.int (v1282 + v1283))]) (st' := [.int 7, .ref 44, .int 7, .ref 44]) (w' := (hp (mg_up (mg_up (mg_up (mg_up (mg_up u 43 (((208 + (16 * a0)) + 9).toNatClampNeg) 0) 43 (((208 + (16 * a0)) + 12).toNatClampNeg) v1278) 43 (((208 + (16 * a0)) + 13).toNatClampNeg) v1279) 43 (((208 + (16 * a0)) + 10).toNatClampNeg) (((v1280 - v1276) * v1281) / 1000)) 43 (((208 + (16 * a0)) + 7).toNatClampNeg) 1) fL fD, c, z)) rfl ?_
              refine mg_Ev.iald (a := 43) (n := 690) (f := (mg_up (mg_up (mg_up (mg_up (mg_up u 43 (((208 + (16 * a0)) + 9).toNatClampNeg) 0) 43 (((208 + (16 * a0)) + 12).toNatClampNeg) v1278) 43 (((208 + (16 * a0)) + 13).toNatClampNeg) v1279) 43 (((208 + (16 * a0)) + 10).toNatClampNeg) (((v1280 - v1276) * v1281) / 1000)) 43 (((208 + (16 * a0)) + 7).toNatClampNeg) 1) 43) (j := 7) rfl (hpg_43 _ _ _) (by decide) (by decide) ?_
              refine mg_Ev.go 2 (pc' := 150) (loc' := [some (.ref 43), some (.int a0), some (.int (208 + (16 * a0))), some (.int v1276), some (.int (v1282 + v1283))]) (st' := [.int (((mg_up (mg_up (mg_up (mg_up (mg_up u 43 (((208 + (16 * a0)) + 9).toNatClampNeg) 0) 43 (((208 + (16 * a0)) + 12).toNatClampNeg) v1278) 43 (((208 + (16 * a0)) + 13).toNatClampNeg) v1279) 43 (((208 + (16 * a0)) + 10).toNatClampNeg) (((v1280 - v1276) * v1281) / 1000)) 43 (((208 + (16 * a0)) + 7).toNatClampNeg) 1) 43 7) + (v1282 + v1283)), .int 7, .ref 44]) (w' := (hp (mg_up (mg_up (mg_up (mg_up (mg_up u 43 (((208 + (16 * a0)) + 9).toNatClampNeg) 0) 43 (((208 + (16 * a0)) + 12).toNatClampNeg) v1278) 43 (((208 + (16 * a0)) + 13).toNatClampNeg) v1279) 43 (((208 + (16 * a0)) + 10).toNatClampNeg) (((v1280 - v1276) * v1281) / 1000)) 43 (((208 + (16 * a0)) + 7).toNatClampNeg) 1) fL fD, c, z)) rfl ?_
              refine mg_Ev.iast (a := 43) (n := 690) (j := 7) rfl (hpg_43 _ _ _) (by decide) (by decide) (hpa_43 _ _ _ _ _ _ _) ?_
              refine mg_Ev.go 6 (pc' := 161) (loc' := [some (.ref 43), some (.int a0), some (.int (208 + (16 * a0))), some (.int v1276), some (.int (v1282 + v1283))]) (st' := [.int 3, .int a0, .ref 43, .int 200, .ref 44]) (w' := (hp (mg_up (mg_up (mg_up (mg_up (mg_up (mg_up u 43 (((208 + (16 * a0)) + 9).toNatClampNeg) 0) 43 (((208 + (16 * a0)) + 12).toNatClampNeg) v1278) 43 (((208 + (16 * a0)) + 13).toNatClampNeg) v1279) 43 (((208 + (16 * a0)) + 10).toNatClampNeg) (((v1280 - v1276) * v1281) / 1000)) 43 (((208 + (16 * a0)) + 7).toNatClampNeg) 1) 43 7 (((mg_up (mg_up (mg_up (mg_up (mg_up u 43 (((208 + (16 * a0)) + 9).toNatClampNeg) 0) 43 (((208 + (16 * a0)) + 12).toNatClampNeg) v1278) 43 (((208 + (16 * a0)) + 13).toNatClampNeg) v1279) 43 (((208 + (16 * a0)) + 10).toNatClampNeg) (((v1280 - v1276) * v1281) / 1000)) 43 (((208 + (16 * a0)) + 7).toNatClampNeg) 1) 43 7) + (v1282 + v1283))) fL fD, c, z)) rfl ?_
              obtain ⟨v1284, hf3470, h⟩ := Option.bind_eq_some_iff.mp h
              refine mg_Ev.call (y := 68) (as := [.ref 43, .int a0, .int 3]) (rest := [.int 200, .ref 44]) (v := some (.int v1284)) (w1 := (hp (mg_up (mg_up (mg_up (mg_up (mg_up (mg_up u 43 (((208 + (16 * a0)) + 9).toNatClampNeg) 0) 43 (((208 + (16 * a0)) + 12).toNatClampNeg) v1278) 43 (((208 + (16 * a0)) + 13).toNatClampNeg) v1279) 43 (((208 + (16 * a0)) + 10).toNatClampNeg) (((v1280 - v1276) * v1281) / 1000)) 43 (((208 + (16 * a0)) + 7).toNatClampNeg) 1) 43 7 (((mg_up (mg_up (mg_up (mg_up (mg_up u 43 (((208 + (16 * a0)) + 9).toNatClampNeg) 0) 43 (((208 + (16 * a0)) + 12).toNatClampNeg) v1278) 43 (((208 + (16 * a0)) + 13).toNatClampNeg) v1279) 43 (((208 + (16 * a0)) + 10).toNatClampNeg) (((v1280 - v1276) * v1281) / 1000)) 43 (((208 + (16 * a0)) + 7).toNatClampNeg) 1) 43 7) + (v1282 + v1283))) fL fD, c, z)) rfl rfl (Nat.le_of_ble_eq_true rfl) ((ev_M_declAt hf3470).deep (by decide)) ?_
              refine mg_Ev.go 2 (pc' := 166) (loc' := [some (.ref 43), some (.int a0), some (.int (208 + (16 * a0))), some (.int v1276), some (.int (v1282 + v1283))]) (st' := [.int (200 + v1284), .ref 44, .int (200 + v1284), .ref 44]) (w' := (hp (mg_up (mg_up (mg_up (mg_up (mg_up (mg_up u 43 (((208 + (16 * a0)) + 9).toNatClampNeg) 0) 43 (((208 + (16 * a0)) + 12).toNatClampNeg) v1278) 43 (((208 + (16 * a0)) + 13).toNatClampNeg) v1279) 43 (((208 + (16 * a0)) + 10).toNatClampNeg) (((v1280 - v1276) * v1281) / 1000)) 43 (((208 + (16 * a0)) + 7).toNatClampNeg) 1) 43 7 (((mg_up (mg_up (mg_up (mg_up (mg_up u 43 (((208 + (16 * a0)) + 9).toNatClampNeg) 0) 43 (((208 + (16 * a0)) + 12).toNatClampNeg) v1278) 43 (((208 + (16 * a0)) + 13).toNatClampNeg) v1279) 43 (((208 + (16 * a0)) + 10).toNatClampNeg) (((v1280 - v1276) * v1281) / 1000)) 43 (((208 + (16 * a0)) + 7).toNatClampNeg) 1) 43 7) + (v1282 + v1283))) fL fD, c, z)) rfl ?_
              by_cases hb3471 : (200 + v1284) < 0 ∨ 690 ≤ (200 + v1284).toNatClampNeg
              · rw [if_pos hb3471] at h
                cases h
              · rw [if_neg hb3471] at h
                refine mg_Ev.iald (a := 43) (n := 690) (f := (mg_up (mg_up (mg_up (mg_up (mg_up (mg_up u 43 (((208 + (16 * a0)) + 9).toNatClampNeg) 0) 43 (((208 + (16 * a0)) + 12).toNatClampNeg) v1278) 43 (((208 + (16 * a0)) + 13).toNatClampNeg) v1279) 43 (((208 + (16 * a0)) + 10).toNatClampNeg) (((v1280 - v1276) * v1281) / 1000)) 43 (((208 + (16 * a0)) + 7).toNatClampNeg) 1) 43 7 (((mg_up (mg_up (mg_up (mg_up (mg_up u 43 (((208 + (16 * a0)) + 9).toNatClampNeg) 0) 43 (((208 + (16 * a0)) + 12).toNatClampNeg) v1278) 43 (((208 + (16 * a0)) + 13).toNatClampNeg) v1279) 43 (((208 + (16 * a0)) + 10).toNatClampNeg) (((v1280 - v1276) * v1281) / 1000)) 43 (((208 + (16 * a0)) + 7).toNatClampNeg) 1) 43 7) + (v1282 + v1283))) 43) rfl (hpg_43 _ _ _) rfl hb3471 ?_
                refine mg_Ev.go 2 (pc' := 170) (loc' := [some (.ref 43), some (.int a0), some (.int (208 + (16 * a0))), some (.int v1276), some (.int (v1282 + v1283))]) (st' := [.int (((mg_up (mg_up (mg_up (mg_up (mg_up (mg_up u 43 (((208 + (16 * a0)) + 9).toNatClampNeg) 0) 43 (((208 + (16 * a0)) + 12).toNatClampNeg) v1278) 43 (((208 + (16 * a0)) + 13).toNatClampNeg) v1279) 43 (((208 + (16 * a0)) + 10).toNatClampNeg) (((v1280 - v1276) * v1281) / 1000)) 43 (((208 + (16 * a0)) + 7).toNatClampNeg) 1) 43 7 (((mg_up (mg_up (mg_up (mg_up (mg_up u 43 (((208 + (16 * a0)) + 9).toNatClampNeg) 0) 43 (((208 + (16 * a0)) + 12).toNatClampNeg) v1278) 43 (((208 + (16 * a0)) + 13).toNatClampNeg) v1279) 43 (((208 + (16 * a0)) + 10).toNatClampNeg) (((v1280 - v1276) * v1281) / 1000)) 43 (((208 + (16 * a0)) + 7).toNatClampNeg) 1) 43 7) + (v1282 + v1283))) 43 ((200 + v1284).toNatClampNeg)) + (v1282 + v1283)), .int (200 + v1284), .ref 44]) (w' := (hp (mg_up (mg_up (mg_up (mg_up (mg_up (mg_up u 43 (((208 + (16 * a0)) + 9).toNatClampNeg) 0) 43 (((208 + (16 * a0)) + 12).toNatClampNeg) v1278) 43 (((208 + (16 * a0)) + 13).toNatClampNeg) v1279) 43 (((208 + (16 * a0)) + 10).toNatClampNeg) (((v1280 - v1276) * v1281) / 1000)) 43 (((208 + (16 * a0)) + 7).toNatClampNeg) 1) 43 7 (((mg_up (mg_up (mg_up (mg_up (mg_up u 43 (((208 + (16 * a0)) + 9).toNatClampNeg) 0) 43 (((208 + (16 * a0)) + 12).toNatClampNeg) v1278) 43 (((208 + (16 * a0)) + 13).toNatClampNeg) v1279) 43 (((208 + (16 * a0)) + 10).toNatClampNeg) (((v1280 - v1276) * v1281) / 1000)) 43 (((208 + (16 * a0)) + 7).toNatClampNeg) 1) 43 7) + (v1282 + v1283))) fL fD, c, z)) rfl ?_
                by_cases hb3472 : (200 + v1284) < 0 ∨ 690 ≤ (200 + v1284).toNatClampNeg
                · rw [if_pos hb3472] at h
                  cases h
                · rw [if_neg hb3472] at h
                  refine mg_Ev.iast (a := 43) (n := 690) rfl (hpg_43 _ _ _) rfl hb3472 (hpa_43 _ _ _ _ _ _ _) ?_
                  cases h
                  exact mg_Ev.fin rfl rfl rfl
  · rw [if_neg hc3458] at h
    refine mg_Ev.go 5 (pc' := 42) (loc' := [some (.ref 43), some (.int a0), some (.int (208 + (16 * a0))), some (.int v1276), none]) (st' := [.int 5, .int a0, .ref 43, .ref 43, .int v1276, .int ((208 + (16 * a0)) + 9), .ref 44]) (w' := (hp u fL fD, c, z)) rfl ?_
    obtain ⟨v1285, hf3473, h⟩ := Option.bind_eq_some_iff.mp h
    refine mg_Ev.call (y := 68) (as := [.ref 43, .int a0, .int 5]) (rest := [.ref 43, .int v1276, .int ((208 + (16 * a0)) + 9), .ref 44]) (v := some (.int v1285)) (w1 := (hp u fL fD, c, z)) rfl rfl (Nat.le_of_ble_eq_true rfl) ((ev_M_declAt hf3473).deep (by decide)) ?_
    refine mg_Ev.go 1 (pc' := 46) (loc' := [some (.ref 43), some (.int a0), some (.int (208 + (16 * a0))), some (.int v1276), none]) (st' := [.int 3, .int v1285, .ref 43, .int v1276, .int ((208 + (16 * a0)) + 9), .ref 44]) (w' := (hp u fL fD, c, z)) rfl ?_
    obtain ⟨v1286, hf3474, h⟩ := Option.bind_eq_some_iff.mp h
    refine mg_Ev.call (y := 67) (as := [.ref 43, .int v1285, .int 3]) (rest := [.int v1276, .int ((208 + (16 * a0)) + 9), .ref 44]) (v := some (.int v1286)) (w1 := (hp u fL fD, c, z)) rfl rfl (Nat.le_of_ble_eq_true rfl) ((ev_M_quotaAt hf3474).deep (by decide)) ?_
    refine mg_Ev.go 2 (pc' := 53) (loc' := [some (.ref 43), some (.int a0), some (.int (208 + (16 * a0))), some (.int v1276), none]) (st' := [.int 1000, .int (v1276 * v1286), .int ((208 + (16 * a0)) + 9), .ref 44]) (w' := (hp u fL fD, c, z)) rfl ?_
    refine mg_Ev.idiv rfl (by decide) ?_
    by_cases hb3475 : ((208 + (16 * a0)) + 9) < 0 ∨ 690 ≤ ((208 + (16 * a0)) + 9).toNatClampNeg
    · rw [if_pos hb3475] at h
      cases h
    · rw [if_neg hb3475] at h
      refine mg_Ev.iast (a := 43) (n := 690) rfl (hpg_43 _ _ _) rfl hb3475 (hpa_43 _ _ _ _ _ _ _) ?_
      refine mg_Ev.go 7 (pc' := 65) (loc' := [some (.ref 43), some (.int a0), some (.int (208 + (16 * a0))), some (.int v1276), none]) (st' := [.int a0, .ref 43, .int ((208 + (16 * a0)) + 12), .ref 44]) (w' := (hp (mg_up u 43 (((208 + (16 * a0)) + 9).toNatClampNeg) ((v1276 * v1286) / 1000)) fL fD, c, z)) rfl ?_
      obtain ⟨v1287, hf3476, h⟩ := Option.bind_eq_some_iff.mp h
      refine mg_Ev.call (y := 103) (as := [.ref 43, .int a0]) (rest := [.int ((208 + (16 * a0)) + 12), .ref 44]) (v := some (.int v1287)) (w1 := (hp (mg_up u 43 (((208 + (16 * a0)) + 9).toNatClampNeg) ((v1276 * v1286) / 1000)) fL fD, c, z)) rfl rfl (Nat.le_of_ble_eq_true rfl) ((ev_M_rateNow hf3476).deep (by decide)) ?_
      by_cases hb3477 : ((208 + (16 * a0)) + 12) < 0 ∨ 690 ≤ ((208 + (16 * a0)) + 12).toNatClampNeg
      · rw [if_pos hb3477] at h
        cases h
      · rw [if_neg hb3477] at h
        refine mg_Ev.iast (a := 43) (n := 690) rfl (hpg_43 _ _ _) rfl hb3477 (hpa_43 _ _ _ _ _ _ _) ?_
        refine mg_Ev.go 7 (pc' := 79) (loc' := [some (.ref 43), some (.int a0), some (.int (208 + (16 * a0))), some (.int v1276), none]) (st' := [.int a0, .ref 43, .int ((208 + (16 * a0)) + 13), .ref 44]) (w' := (hp (mg_up (mg_up u 43 (((208 + (16 * a0)) + 9).toNatClampNeg) ((v1276 * v1286) / 1000)) 43 (((208 + (16 * a0)) + 12).toNatClampNeg) v1287) fL fD, c, z)) rfl ?_
        obtain ⟨v1288, hf3478, h⟩ := Option.bind_eq_some_iff.mp h
        refine mg_Ev.call (y := 104) (as := [.ref 43, .int a0]) (rest := [.int ((208 + (16 * a0)) + 13), .ref 44]) (v := some (.int v1288)) (w1 := (hp (mg_up (mg_up u 43 (((208 + (16 * a0)) + 9).toNatClampNeg) ((v1276 * v1286) / 1000)) 43 (((208 + (16 * a0)) + 12).toNatClampNeg) v1287) fL fD, c, z)) rfl rfl (Nat.le_of_ble_eq_true rfl) ((ev_M_fromNow hf3478).deep (by decide)) ?_
        by_cases hb3479 : ((208 + (16 * a0)) + 13) < 0 ∨ 690 ≤ ((208 + (16 * a0)) + 13).toNatClampNeg
        · rw [if_pos hb3479] at h
          cases h
        · rw [if_neg hb3479] at h
          refine mg_Ev.iast (a := 43) (n := 690) rfl (hpg_43 _ _ _) rfl hb3479 (hpa_43 _ _ _ _ _ _ _) ?_
          refine mg_Ev.go 8 (pc' := 94) (loc' := [some (.ref 43), some (.int a0), some (.int (208 + (16 * a0))), some (.int v1276), none]) (st' := [.int 2, .int a0, .ref 43, .int ((208 + (16 * a0)) + 10), .ref 44]) (w' := (hp (mg_up (mg_up (mg_up u 43 (((208 + (16 * a0)) + 9).toNatClampNeg) ((v1276 * v1286) / 1000)) 43 (((208 + (16 * a0)) + 12).toNatClampNeg) v1287) 43 (((208 + (16 * a0)) + 13).toNatClampNeg) v1288) fL fD, c, z)) rfl ?_
          obtain ⟨v1289, hf3480, h⟩ := Option.bind_eq_some_iff.mp h
          refine mg_Ev.call (y := 68) (as := [.ref 43, .int a0, .int 2]) (rest := [.int ((208 + (16 * a0)) + 10), .ref 44]) (v := some (.int v1289)) (w1 := (hp (mg_up (mg_up (mg_up u 43 (((208 + (16 * a0)) + 9).toNatClampNeg) ((v1276 * v1286) / 1000)) 43 (((208 + (16 * a0)) + 12).toNatClampNeg) v1287) 43 (((208 + (16 * a0)) + 13).toNatClampNeg) v1288) fL fD, c, z)) rfl rfl (Nat.le_of_ble_eq_true rfl) ((ev_M_declAt hf3480).deep (by decide)) ?_
          refine mg_Ev.go 5 (pc' := 103) (loc' := [some (.ref 43), some (.int a0), some (.int (208 + (16 * a0))), some (.int v1276), none]) (st' := [.int 12, .int a0, .ref 43, .int (v1289 - v1276), .int ((208 + (16 * a0)) + 10), .ref 44]) (w' := (hp (mg_up (mg_up (mg_up u 43 (((208 + (16 * a0)) + 9).toNatClampNeg) ((v1276 * v1286) / 1000)) 43 (((208 + (16 * a0)) + 12).toNatClampNeg) v1287) 43 (((208 + (16 * a0)) + 13).toNatClampNeg) v1288) fL fD, c, z)) rfl ?_
          obtain ⟨v1290, hf3481, h⟩ := Option.bind_eq_some_iff.mp h
          refine mg_Ev.call (y := 68) (as := [.ref 43, .int a0, .int 12]) (rest := [.int (v1289 - v1276), .int ((208 + (16 * a0)) + 10), .ref 44]) (v := some (.int v1290)) (w1 := (hp (mg_up (mg_up (mg_up u 43 (((208 + (16 * a0)) + 9).toNatClampNeg) ((v1276 * v1286) / 1000)) 43 (((208 + (16 * a0)) + 12).toNatClampNeg) v1287) 43 (((208 + (16 * a0)) + 13).toNatClampNeg) v1288) fL fD, c, z)) rfl rfl (Nat.le_of_ble_eq_true rfl) ((ev_M_declAt hf3481).deep (by decide)) ?_
          refine mg_Ev.go 2 (pc' := 110) (loc' := [some (.ref 43), some (.int a0), some (.int (208 + (16 * a0))), some (.int v1276), none]) (st' := [.int 1000, .int ((v1289 - v1276) * v1290), .int ((208 + (16 * a0)) + 10), .ref 44]) (w' := (hp (mg_up (mg_up (mg_up u 43 (((208 + (16 * a0)) + 9).toNatClampNeg) ((v1276 * v1286) / 1000)) 43 (((208 + (16 * a0)) + 12).toNatClampNeg) v1287) 43 (((208 + (16 * a0)) + 13).toNatClampNeg) v1288) fL fD, c, z)) rfl ?_
          refine mg_Ev.idiv rfl (by decide) ?_
          by_cases hb3482 : ((208 + (16 * a0)) + 10) < 0 ∨ 690 ≤ ((208 + (16 * a0)) + 10).toNatClampNeg
          · rw [if_pos hb3482] at h
            cases h
          · rw [if_neg hb3482] at h
            refine mg_Ev.iast (a := 43) (n := 690) rfl (hpg_43 _ _ _) rfl hb3482 (hpa_43 _ _ _ _ _ _ _) ?_
            refine mg_Ev.go 6 (pc' := 121) (loc' := [some (.ref 43), some (.int a0), some (.int (208 + (16 * a0))), some (.int v1276), none]) (st' := [.int 1, .int ((208 + (16 * a0)) + 7), .ref 44]) (w' := (hp (mg_up (mg_up (mg_up (mg_up u 43 (((208 + (16 * a0)) + 9).toNatClampNeg) ((v1276 * v1286) / 1000)) 43 (((208 + (16 * a0)) + 12).toNatClampNeg) v1287) 43 (((208 + (16 * a0)) + 13).toNatClampNeg) v1288) 43 (((208 + (16 * a0)) + 10).toNatClampNeg) (((v1289 - v1276) * v1290) / 1000)) fL fD, c, z)) rfl ?_
            by_cases hb3483 : ((208 + (16 * a0)) + 7) < 0 ∨ 690 ≤ ((208 + (16 * a0)) + 7).toNatClampNeg
            · rw [if_pos hb3483] at h
              cases h
            · rw [if_neg hb3483] at h
              refine mg_Ev.iast (a := 43) (n := 690) rfl (hpg_43 _ _ _) rfl hb3483 (hpa_43 _ _ _ _ _ _ _) ?_
              refine mg_Ev.go 3 (pc' := 126) (loc' := [some (.ref 43), some (.int a0), some (.int (208 + (16 * a0))), some (.int v1276), none]) (st' := [.int 9, .int a0, .ref 43]) (w' := (hp (mg_up (mg_up (mg_up (mg_up (mg_up u 43 (((208 + (16 * a0)) + 9).toNatClampNeg) ((v1276 * v1286) / 1000)) 43 (((208 + (16 * a0)) + 12).toNatClampNeg) v1287) 43 (((208 + (16 * a0)) + 13).toNatClampNeg) v1288) 43 (((208 + (16 * a0)) + 10).toNatClampNeg) (((v1289 - v1276) * v1290) / 1000)) 43 (((208 + (16 * a0)) + 7).toNatClampNeg) 1) fL fD, c, z)) rfl ?_
              obtain ⟨v1291, hf3484, h⟩ := Option.bind_eq_some_iff.mp h
              refine mg_Ev.call (y := 68) (as := [.ref 43, .int a0, .int 9]) (rest := []) (v := some (.int v1291)) (w1 := (hp (mg_up (mg_up (mg_up (mg_up (mg_up u 43 (((208 + (16 * a0)) + 9).toNatClampNeg) ((v1276 * v1286) / 1000)) 43 (((208 + (16 * a0)) + 12).toNatClampNeg) v1287) 43 (((208 + (16 * a0)) + 13).toNatClampNeg) v1288) 43 (((208 + (16 * a0)) + 10).toNatClampNeg) (((v1289 - v1276) * v1290) / 1000)) 43 (((208 + (16 * a0)) + 7).toNatClampNeg) 1) fL fD, c, z)) rfl rfl (Nat.le_of_ble_eq_true rfl) ((ev_M_declAt hf3484).deep (by decide)) ?_
              refine mg_Ev.go 3 (pc' := 133) (loc' := [some (.ref 43), some (.int a0), some (.int (208 + (16 * a0))), some (.int v1276), none]) (st' := [.int 10, .int a0, .ref 43, .int v1291]) (w' := (hp (mg_up (mg_up (mg_up (mg_up (mg_up u 43 (((208 + (16 * a0)) + 9).toNatClampNeg) ((v1276 * v1286) / 1000)) 43 (((208 + (16 * a0)) + 12).toNatClampNeg) v1287) 43 (((208 + (16 * a0)) + 13).toNatClampNeg) v1288) 43 (((208 + (16 * a0)) + 10).toNatClampNeg) (((v1289 - v1276) * v1290) / 1000)) 43 (((208 + (16 * a0)) + 7).toNatClampNeg) 1) fL fD, c, z)) rfl ?_
              obtain ⟨v1292, hf3485, h⟩ := Option.bind_eq_some_iff.mp h
              refine mg_Ev.call (y := 68) (as := [.ref 43, .int a0, .int 10]) (rest := [.int v1291]) (v := some (.int v1292)) (w1 := (hp (mg_up (mg_up (mg_up (mg_up (mg_up u 43 (((208 + (16 * a0)) + 9).toNatClampNeg) ((v1276 * v1286) / 1000)) 43 (((208 + (16 * a0)) + 12).toNatClampNeg) v1287) 43 (((208 + (16 * a0)) + 13).toNatClampNeg) v1288) 43 (((208 + (16 * a0)) + 10).toNatClampNeg) (((v1289 - v1276) * v1290) / 1000)) 43 (((208 + (16 * a0)) + 7).toNatClampNeg) 1) fL fD, c, z)) rfl rfl (Nat.le_of_ble_eq_true rfl) ((ev_M_declAt hf3485).deep (by decide)) ?_
              refine mg_Ev.go 6 (pc' := 146) (loc' := [some (.ref 43), some (.int a0), some (.int (208 + (16 * a0))), some (.int v1276), some (.int (v1291 + v1292))]) (st' := [.int 7, .ref 44, .int 7, .ref 44]) (w' := (hp (mg_up (mg_up (mg_up (mg_up (mg_up u 43 (((208 + (16 * a0)) + 9).toNatClampNeg) ((v1276 * v1286) / 1000)) 43 (((208 + (16 * a0)) + 12).toNatClampNeg) v1287) 43 (((208 + (16 * a0)) + 13).toNatClampNeg) v1288) 43 (((208 + (16 * a0)) + 10).toNatClampNeg) (((v1289 - v1276) * v1290) / 1000)) 43 (((208 + (16 * a0)) + 7).toNatClampNeg) 1) fL fD, c, z)) rfl ?_
              refine mg_Ev.iald (a := 43) (n := 690) (f := (mg_up (mg_up (mg_up (mg_up (mg_up u 43 (((208 + (16 * a0)) + 9).toNatClampNeg) ((v1276 * v1286) / 1000)) 43 (((208 + (16 * a0)) + 12).toNatClampNeg) v1287) 43 (((208 + (16 * a0)) + 13).toNatClampNeg) v1288) 43 (((208 + (16 * a0)) + 10).toNatClampNeg) (((v1289 - v1276) * v1290) / 1000)) 43 (((208 + (16 * a0)) + 7).toNatClampNeg) 1) 43) (j := 7) rfl (hpg_43 _ _ _) (by decide) (by decide) ?_
              refine mg_Ev.go 2 (pc' := 150) (loc' := [some (.ref 43), some (.int a0), some (.int (208 + (16 * a0))), some (.int v1276), some (.int (v1291 + v1292))]) (st' := [.int (((mg_up (mg_up (mg_up (mg_up (mg_up u 43 (((208 + (16 * a0)) + 9).toNatClampNeg) ((v1276 * v1286) / 1000)) 43 (((208 + (16 * a0)) + 12).toNatClampNeg) v1287) 43 (((208 + (16 * a0)) + 13).toNatClampNeg) v1288) 43 (((208 + (16 * a0)) + 10).toNatClampNeg) (((v1289 - v1276) * v1290) / 1000)) 43 (((208 + (16 * a0)) + 7).toNatClampNeg) 1) 43 7) + (v1291 + v1292)), .int 7, .ref 44]) (w' := (hp (mg_up (mg_up (mg_up (mg_up (mg_up u 43 (((208 + (16 * a0)) + 9).toNatClampNeg) ((v1276 * v1286) / 1000)) 43 (((208 + (16 * a0)) + 12).toNatClampNeg) v1287) 43 (((208 + (16 * a0)) + 13).toNatClampNeg) v1288) 43 (((208 + (16 * a0)) + 10).toNatClampNeg) (((v1289 - v1276) * v1290) / 1000)) 43 (((208 + (16 * a0)) + 7).toNatClampNeg) 1) fL fD, c, z)) rfl ?_
              refine mg_Ev.iast (a := 43) (n := 690) (j := 7) rfl (hpg_43 _ _ _) (by decide) (by decide) (hpa_43 _ _ _ _ _ _ _) ?_
              refine mg_Ev.go 6 (pc' := 161) (loc' := [some (.ref 43), some (.int a0), some (.int (208 + (16 * a0))), some (.int v1276), some (.int (v1291 + v1292))]) (st' := [.int 3, .int a0, .ref 43, .int 200, .ref 44]) (w' := (hp (mg_up (mg_up (mg_up (mg_up (mg_up (mg_up u 43 (((208 + (16 * a0)) + 9).toNatClampNeg) ((v1276 * v1286) / 1000)) 43 (((208 + (16 * a0)) + 12).toNatClampNeg) v1287) 43 (((208 + (16 * a0)) + 13).toNatClampNeg) v1288) 43 (((208 + (16 * a0)) + 10).toNatClampNeg) (((v1289 - v1276) * v1290) / 1000)) 43 (((208 + (16 * a0)) + 7).toNatClampNeg) 1) 43 7 (((mg_up (mg_up (mg_up (mg_up (mg_up u 43 (((208 + (16 * a0)) + 9).toNatClampNeg) ((v1276 * v1286) / 1000)) 43 (((208 + (16 * a0)) + 12).toNatClampNeg) v1287) 43 (((208 + (16 * a0)) + 13).toNatClampNeg) v1288) 43 (((208 + (16 * a0)) + 10).toNatClampNeg) (((v1289 - v1276) * v1290) / 1000)) 43 (((208 + (16 * a0)) + 7).toNatClampNeg) 1) 43 7) + (v1291 + v1292))) fL fD, c, z)) rfl ?_
              obtain ⟨v1293, hf3486, h⟩ := Option.bind_eq_some_iff.mp h
              refine mg_Ev.call (y := 68) (as := [.ref 43, .int a0, .int 3]) (rest := [.int 200, .ref 44]) (v := some (.int v1293)) (w1 := (hp (mg_up (mg_up (mg_up (mg_up (mg_up (mg_up u 43 (((208 + (16 * a0)) + 9).toNatClampNeg) ((v1276 * v1286) / 1000)) 43 (((208 + (16 * a0)) + 12).toNatClampNeg) v1287) 43 (((208 + (16 * a0)) + 13).toNatClampNeg) v1288) 43 (((208 + (16 * a0)) + 10).toNatClampNeg) (((v1289 - v1276) * v1290) / 1000)) 43 (((208 + (16 * a0)) + 7).toNatClampNeg) 1) 43 7 (((mg_up (mg_up (mg_up (mg_up (mg_up u 43 (((208 + (16 * a0)) + 9).toNatClampNeg) ((v1276 * v1286) / 1000)) 43 (((208 + (16 * a0)) + 12).toNatClampNeg) v1287) 43 (((208 + (16 * a0)) + 13).toNatClampNeg) v1288) 43 (((208 + (16 * a0)) + 10).toNatClampNeg) (((v1289 - v1276) * v1290) / 1000)) 43 (((208 + (16 * a0)) + 7).toNatClampNeg) 1) 43 7) + (v1291 + v1292))) fL fD, c, z)) rfl rfl (Nat.le_of_ble_eq_true rfl) ((ev_M_declAt hf3486).deep (by decide)) ?_
              refine mg_Ev.go 2 (pc' := 166) (loc' := [some (.ref 43), some (.int a0), some (.int (208 + (16 * a0))), some (.int v1276), some (.int (v1291 + v1292))]) (st' := [.int (200 + v1293), .ref 44, .int (200 + v1293), .ref 44]) (w' := (hp (mg_up (mg_up (mg_up (mg_up (mg_up (mg_up u 43 (((208 + (16 * a0)) + 9).toNatClampNeg) ((v1276 * v1286) / 1000)) 43 (((208 + (16 * a0)) + 12).toNatClampNeg) v1287) 43 (((208 + (16 * a0)) + 13).toNatClampNeg) v1288) 43 (((208 + (16 * a0)) + 10).toNatClampNeg) (((v1289 - v1276) * v1290) / 1000)) 43 (((208 + (16 * a0)) + 7).toNatClampNeg) 1) 43 7 (((mg_up (mg_up (mg_up (mg_up (mg_up u 43 (((208 + (16 * a0)) + 9).toNatClampNeg) ((v1276 * v1286) / 1000)) 43 (((208 + (16 * a0)) + 12).toNatClampNeg) v1287) 43 (((208 + (16 * a0)) + 13).toNatClampNeg) v1288) 43 (((208 + (16 * a0)) + 10).toNatClampNeg) (((v1289 - v1276) * v1290) / 1000)) 43 (((208 + (16 * a0)) + 7).toNatClampNeg) 1) 43 7) + (v1291 + v1292))) fL fD, c, z)) rfl ?_
              by_cases hb3487 : (200 + v1293) < 0 ∨ 690 ≤ (200 + v1293).toNatClampNeg
              · rw [if_pos hb3487] at h
                cases h
              · rw [if_neg hb3487] at h
                refine mg_Ev.iald (a := 43) (n := 690) (f := (mg_up (mg_up (mg_up (mg_up (mg_up (mg_up u 43 (((208 + (16 * a0)) + 9).toNatClampNeg) ((v1276 * v1286) / 1000)) 43 (((208 + (16 * a0)) + 12).toNatClampNeg) v1287) 43 (((208 + (16 * a0)) + 13).toNatClampNeg) v1288) 43 (((208 + (16 * a0)) + 10).toNatClampNeg) (((v1289 - v1276) * v1290) / 1000)) 43 (((208 + (16 * a0)) + 7).toNatClampNeg) 1) 43 7 (((mg_up (mg_up (mg_up (mg_up (mg_up u 43 (((208 + (16 * a0)) + 9).toNatClampNeg) ((v1276 * v1286) / 1000)) 43 (((208 + (16 * a0)) + 12).toNatClampNeg) v1287) 43 (((208 + (16 * a0)) + 13).toNatClampNeg) v1288) 43 (((208 + (16 * a0)) + 10).toNatClampNeg) (((v1289 - v1276) * v1290) / 1000)) 43 (((208 + (16 * a0)) + 7).toNatClampNeg) 1) 43 7) + (v1291 + v1292))) 43) rfl (hpg_43 _ _ _) rfl hb3487 ?_
                refine mg_Ev.go 2 (pc' := 170) (loc' := [some (.ref 43), some (.int a0), some (.int (208 + (16 * a0))), some (.int v1276), some (.int (v1291 + v1292))]) (st' := [.int (((mg_up (mg_up (mg_up (mg_up (mg_up (mg_up u 43 (((208 + (16 * a0)) + 9).toNatClampNeg) ((v1276 * v1286) / 1000)) 43 (((208 + (16 * a0)) + 12).toNatClampNeg) v1287) 43 (((208 + (16 * a0)) + 13).toNatClampNeg) v1288) 43 (((208 + (16 * a0)) + 10).toNatClampNeg) (((v1289 - v1276) * v1290) / 1000)) 43 (((208 + (16 * a0)) + 7).toNatClampNeg) 1) 43 7 (((mg_up (mg_up (mg_up (mg_up (mg_up u 43 (((208 + (16 * a0)) + 9).toNatClampNeg) ((v1276 * v1286) / 1000)) 43 (((208 + (16 * a0)) + 12).toNatClampNeg) v1287) 43 (((208 + (16 * a0)) + 13).toNatClampNeg) v1288) 43 (((208 + (16 * a0)) + 10).toNatClampNeg) (((v1289 - v1276) * v1290) / 1000)) 43 (((208 + (16 * a0)) + 7).toNatClampNeg) 1) 43 7) + (v1291 + v1292))) 43 ((200 + v1293).toNatClampNeg)) + (v1291 + v1292)), .int (200 + v1293), .ref 44]) (w' := (hp (mg_up (mg_up (mg_up (mg_up (mg_up (mg_up u 43 (((208 + (16 * a0)) + 9).toNatClampNeg) ((v1276 * v1286) / 1000)) 43 (((208 + (16 * a0)) + 12).toNatClampNeg) v1287) 43 (((208 + (16 * a0)) + 13).toNatClampNeg) v1288) 43 (((208 + (16 * a0)) + 10).toNatClampNeg) (((v1289 - v1276) * v1290) / 1000)) 43 (((208 + (16 * a0)) + 7).toNatClampNeg) 1) 43 7 (((mg_up (mg_up (mg_up (mg_up (mg_up u 43 (((208 + (16 * a0)) + 9).toNatClampNeg) ((v1276 * v1286) / 1000)) 43 (((208 + (16 * a0)) + 12).toNatClampNeg) v1287) 43 (((208 + (16 * a0)) + 13).toNatClampNeg) v1288) 43 (((208 + (16 * a0)) + 10).toNatClampNeg) (((v1289 - v1276) * v1290) / 1000)) 43 (((208 + (16 * a0)) + 7).toNatClampNeg) 1) 43 7) + (v1291 + v1292))) fL fD, c, z)) rfl ?_
                by_cases hb3488 : (200 + v1293) < 0 ∨ 690 ≤ (200 + v1293).toNatClampNeg
                · rw [if_pos hb3488] at h
                  cases h
                · rw [if_neg hb3488] at h
                  refine mg_Ev.iast (a := 43) (n := 690) rfl (hpg_43 _ _ _) rfl hb3488 (hpa_43 _ _ _ _ _ _ _) ?_
                  cases h
                  exact mg_Ev.fin rfl rfl rfl

def M_ends_L4 : Nat → Int32 → Int32 → mg_Rg → Option (mg_Rg)
  | 0, _, _, _ => none
  | n + 1, x1, x2, u =>
    if (u 43 5) ≤ x2 then
    some (u)
    else
    if x2 < 0 ∨ 30 ≤ x2.toNatClampNeg then none else
      M_ends_L4 n x1 (x2 + 1) (mg_up u 48 x2.toNatClampNeg 0)
set_option maxRecDepth 10000 in
set_option maxHeartbeats 4000000 in
theorem ev_M_ends_L4 {sc : mg_Sc} {c z : Nat} {fL : Nat → Int64} {fD : Nat → UInt64} : ∀ (n : Nat) (x1 : Int32) (x2 : Int32) (u : mg_Rg) (res : mg_Rg), M_ends_L4 n x1 x2 u = some res → ∀ r, (match res with | yu => mg_Ev sc 9 112 27 [some (.ref 43), some (.int x1), none, none, none] [] (hp yu fL fD, c, z) r) → mg_Ev sc 9 112 4 [some (.ref 43), some (.int x1), some (.int x2), none, none] [] (hp u fL fD, c, z) r := by
  intro n
  induction n with
  | zero => intro x1 x2 u res h; cases h
  | succ n ih =>
    intro x1 x2 u res h r K
    unfold M_ends_L4 at h
    refine mg_Ev.go 4 (pc' := 10) (loc' := [some (.ref 43), some (.int x1), some (.int x2), none, none]) (st' := [.int 5, .ref 44, .int x2]) (w' := (hp u fL fD, c, z)) rfl ?_
    refine mg_Ev.iald (a := 43) (n := 690) (f := u 43) (j := 5) rfl (hpg_43 _ _ _) (by decide) (by decide) ?_
    refine mg_Ev.br (P := (u 43 5) ≤ x2) (t := 27) (nx := 14) (st' := []) rfl rfl rfl rfl (fun hc3489 => ?_) (fun hc3489 => ?_)
    · rw [if_pos hc3489] at h
      cases h
      exact mg_Ev.more (loc := [some (.ref 43), some (.int x1), none, none, none]) K ⟨rfl, ⟨rfl, trivial⟩⟩
    · rw [if_neg hc3489] at h
      refine mg_Ev.go 4 (pc' := 20) (loc' := [some (.ref 43), some (.int x1), some (.int x2), none, none]) (st' := [.int 0, .int x2, .ref 49]) (w' := (hp u fL fD, c, z)) rfl ?_
      by_cases hb3490 : x2 < 0 ∨ 30 ≤ x2.toNatClampNeg
      · rw [if_pos hb3490] at h
        cases h
      · rw [if_neg hb3490] at h
        refine mg_Ev.iast (a := 48) (n := 30) rfl (hpg_48 _ _ _) rfl hb3490 (hpa_48 _ _ _ _ _ _ _) ?_
        refine mg_Ev.go 2 (pc' := 4) (loc' := [some (.ref 43), some (.int x1), some (.int (x2 + 1)), none, none]) (st' := []) (w' := (hp (mg_up u 48 x2.toNatClampNeg 0) fL fD, c, z)) rfl ?_
        exact mg_Ev.more (loc := [some (.ref 43), some (.int x1), some (.int (x2 + 1)), none, none]) (ih _ _ _ _ h _ K) ⟨rfl, ⟨rfl, ⟨rfl, trivial⟩⟩⟩

def M_ends_L48 : Nat → Int32 → Int32 → Int32 → Int32 → mg_Rg → Option (mg_Rg)
  | 0, _, _, _, _, _ => none
  | n + 1, x1, x2, x3, x4, u =>
    if (u 43 5) ≤ x4 then
    some (u)
    else
    (M_declAt x4 7 u).bind fun v1298 =>
      if v1298 = 0 then
      (M_declAt x4 5 u).bind fun v1299 =>
        if v1299 = x2 then
        (M_quotaAt x2 6 u).bind fun v1300 =>
          (M_claims x4 v1300 u).bind fun v1301 =>
          if ((208 + (16 * x4)) + 14) < 0 ∨ 690 ≤ ((208 + (16 * x4)) + 14).toNatClampNeg then none else
          M_ends_L48 n x1 x2 x3 (x4 + 1) (mg_up u 43 (((208 + (16 * x4)) + 14).toNatClampNeg) v1301)
        else
        M_ends_L48 n x1 x2 x3 (x4 + 1) u
      else
      M_ends_L48 n x1 x2 x3 (x4 + 1) u
set_option maxRecDepth 10000 in
set_option maxHeartbeats 4000000 in
theorem ev_M_ends_L48 {sc : mg_Sc} {c z : Nat} {fL : Nat → Int64} {fD : Nat → UInt64} : ∀ (n : Nat) (x1 : Int32) (x2 : Int32) (x3 : Int32) (x4 : Int32) (u : mg_Rg) (res : mg_Rg), M_ends_L48 n x1 x2 x3 x4 u = some res → ∀ r, (match res with | yu => mg_Ev sc 9 112 117 [some (.ref 43), some (.int x1), some (.int x2), some (.int x3), none] [] (hp yu fL fD, c, z) r) → mg_Ev sc 9 112 48 [some (.ref 43), some (.int x1), some (.int x2), some (.int x3), some (.int x4)] [] (hp u fL fD, c, z) r := by
  intro n
  induction n with
  | zero => intro x1 x2 x3 x4 u res h; cases h
  | succ n ih =>
    intro x1 x2 x3 x4 u res h r K
    unfold M_ends_L48 at h
    refine mg_Ev.go 4 (pc' := 55) (loc' := [some (.ref 43), some (.int x1), some (.int x2), some (.int x3), some (.int x4)]) (st' := [.int 5, .ref 44, .int x4]) (w' := (hp u fL fD, c, z)) rfl ?_
    refine mg_Ev.iald (a := 43) (n := 690) (f := u 43) (j := 5) rfl (hpg_43 _ _ _) (by decide) (by decide) ?_
    refine mg_Ev.br (P := (u 43 5) ≤ x4) (t := 117) (nx := 59) (st' := []) rfl rfl rfl rfl (fun hc3491 => ?_) (fun hc3491 => ?_)
    · rw [if_pos hc3491] at h
      cases h
      exact mg_Ev.more (loc := [some (.ref 43), some (.int x1), some (.int x2), some (.int x3), none]) K ⟨rfl, ⟨rfl, ⟨rfl, ⟨rfl, trivial⟩⟩⟩⟩
    · rw [if_neg hc3491] at h
      refine mg_Ev.go 3 (pc' := 64) (loc' := [some (.ref 43), some (.int x1), some (.int x2), some (.int x3), some (.int x4)]) (st' := [.int 7, .int x4, .ref 43]) (w' := (hp u fL fD, c, z)) rfl ?_
      obtain ⟨v1298, hf3492, h⟩ := Option.bind_eq_some_iff.mp h
      refine mg_Ev.call (y := 68) (as := [.ref 43, .int x4, .int 7]) (rest := []) (v := some (.int v1298)) (w1 := (hp u fL fD, c, z)) rfl rfl (Nat.le_of_ble_eq_true rfl) ((ev_M_declAt hf3492).deep (by decide)) ?_
      refine mg_Ev.br (P := v1298 = 0) (t := 70) (nx := 111) (st' := []) rfl rfl rfl rfl (fun hc3493 => ?_) (fun hc3493 => ?_)
      · rw [if_pos hc3493] at h
        refine mg_Ev.go 3 (pc' := 74) (loc' := [some (.ref 43), some (.int x1), some (.int x2), some (.int x3), some (.int x4)]) (st' := [.int 5, .int x4, .ref 43]) (w' := (hp u fL fD, c, z)) rfl ?_
        obtain ⟨v1299, hf3494, h⟩ := Option.bind_eq_some_iff.mp h
        refine mg_Ev.call (y := 68) (as := [.ref 43, .int x4, .int 5]) (rest := []) (v := some (.int v1299)) (w1 := (hp u fL fD, c, z)) rfl rfl (Nat.le_of_ble_eq_true rfl) ((ev_M_declAt hf3494).deep (by decide)) ?_
        refine mg_Ev.go 1 (pc' := 78) (loc' := [some (.ref 43), some (.int x1), some (.int x2), some (.int x3), some (.int x4)]) (st' := [.int x2, .int v1299]) (w' := (hp u fL fD, c, z)) rfl ?_
        refine mg_Ev.br (P := v1299 = x2) (t := 81) (nx := 111) (st' := []) rfl rfl rfl rfl (fun hc3495 => ?_) (fun hc3495 => ?_)
        · rw [if_pos hc3495] at h
          refine mg_Ev.go 10 (pc' := 98) (loc' := [some (.ref 43), some (.int x1), some (.int x2), some (.int x3), some (.int x4)]) (st' := [.ref 43, .int ((208 + (16 * x4)) + 14), .ref 44]) (w' := (hp u fL fD, c, z)) rfl ?_
          refine mg_Ev.go 4 (pc' := 104) (loc' := [some (.ref 43), some (.int x1), some (.int x2), some (.int x3), some (.int x4)]) (st' := [.int 6, .int x2, .ref 43, .int x4, .ref 43, .int ((208 + (16 * x4)) + 14), .ref 44]) (w' := (hp u fL fD, c, z)) rfl ?_
          obtain ⟨v1300, hf3496, h⟩ := Option.bind_eq_some_iff.mp h
          refine mg_Ev.call (y := 67) (as := [.ref 43, .int x2, .int 6]) (rest := [.int x4, .ref 43, .int ((208 + (16 * x4)) + 14), .ref 44]) (v := some (.int v1300)) (w1 := (hp u fL fD, c, z)) rfl rfl (Nat.le_of_ble_eq_true rfl) ((ev_M_quotaAt hf3496).deep (by decide)) ?_
          obtain ⟨v1301, hf3497, h⟩ := Option.bind_eq_some_iff.mp h
          refine mg_Ev.call (y := 105) (as := [.ref 43, .int x4, .int v1300]) (rest := [.int ((208 + (16 * x4)) + 14), .ref 44]) (v := some (.int v1301)) (w1 := (hp u fL fD, c, z)) rfl rfl (Nat.le_of_ble_eq_true rfl) ((ev_M_claims hf3497).deep (by decide)) ?_
          by_cases hb3498 : ((208 + (16 * x4)) + 14) < 0 ∨ 690 ≤ ((208 + (16 * x4)) + 14).toNatClampNeg
          · rw [if_pos hb3498] at h
            cases h
          · rw [if_neg hb3498] at h
            refine mg_Ev.iast (a := 43) (n := 690) rfl (hpg_43 _ _ _) rfl hb3498 (hpa_43 _ _ _ _ _ _ _) ?_
            refine mg_Ev.go 2 (pc' := 48) (loc' := [some (.ref 43), some (.int x1), some (.int x2), some (.int x3), some (.int (x4 + 1))]) (st' := []) (w' := (hp (mg_up u 43 (((208 + (16 * x4)) + 14).toNatClampNeg) v1301) fL fD, c, z)) rfl ?_
            exact mg_Ev.more (loc := [some (.ref 43), some (.int x1), some (.int x2), some (.int x3), some (.int (x4 + 1))]) (ih _ _ _ _ _ _ h _ K) ⟨rfl, ⟨rfl, ⟨rfl, ⟨rfl, ⟨rfl, trivial⟩⟩⟩⟩⟩
        · rw [if_neg hc3495] at h
          refine mg_Ev.go 2 (pc' := 48) (loc' := [some (.ref 43), some (.int x1), some (.int x2), some (.int x3), some (.int (x4 + 1))]) (st' := []) (w' := (hp u fL fD, c, z)) rfl ?_
          exact mg_Ev.more (loc := [some (.ref 43), some (.int x1), some (.int x2), some (.int x3), some (.int (x4 + 1))]) (ih _ _ _ _ _ _ h _ K) ⟨rfl, ⟨rfl, ⟨rfl, ⟨rfl, ⟨rfl, trivial⟩⟩⟩⟩⟩
      · rw [if_neg hc3493] at h
        refine mg_Ev.go 2 (pc' := 48) (loc' := [some (.ref 43), some (.int x1), some (.int x2), some (.int x3), some (.int (x4 + 1))]) (st' := []) (w' := (hp u fL fD, c, z)) rfl ?_
        exact mg_Ev.more (loc := [some (.ref 43), some (.int x1), some (.int x2), some (.int x3), some (.int (x4 + 1))]) (ih _ _ _ _ _ _ h _ K) ⟨rfl, ⟨rfl, ⟨rfl, ⟨rfl, ⟨rfl, trivial⟩⟩⟩⟩⟩

def M_ends_L29 : Nat → Int32 → Int32 → mg_Rg → Option (mg_Rg)
  | 0, _, _, _ => none
  | n + 1, x1, x2, u =>
    if (u 43 4) ≤ x2 then
    some (u)
    else
    (M_serves x2 u).bind fun p1297 => match p1297 with
      | (v1295, u1296) =>
        (M_ends_L48 mg_F x1 x2 v1295 0 u1296).bind fun q3499 => match q3499 with
        | u1302 =>
          if ((138 + (9 * x2)) + 6) < 0 ∨ 690 ≤ ((138 + (9 * x2)) + 6).toNatClampNeg then none else
          M_ends_L29 n x1 (x2 + 1) (mg_up u1302 43 (((138 + (9 * x2)) + 6).toNatClampNeg) v1295)
set_option maxRecDepth 10000 in
set_option maxHeartbeats 4000000 in
theorem ev_M_ends_L29 {sc : mg_Sc} {c z : Nat} {fL : Nat → Int64} {fD : Nat → UInt64} : ∀ (n : Nat) (x1 : Int32) (x2 : Int32) (u : mg_Rg) (res : mg_Rg), M_ends_L29 n x1 x2 u = some res → ∀ r, (match res with | yu => mg_Ev sc 9 112 140 [some (.ref 43), some (.int x1), none, none, none] [] (hp yu fL fD, c, z) r) → mg_Ev sc 9 112 29 [some (.ref 43), some (.int x1), some (.int x2), none, none] [] (hp u fL fD, c, z) r := by
  intro n
  induction n with
  | zero => intro x1 x2 u res h; cases h
  | succ n ih =>
    intro x1 x2 u res h r K
    unfold M_ends_L29 at h
    refine mg_Ev.go 4 (pc' := 35) (loc' := [some (.ref 43), some (.int x1), some (.int x2), none, none]) (st' := [.int 4, .ref 44, .int x2]) (w' := (hp u fL fD, c, z)) rfl ?_
    refine mg_Ev.iald (a := 43) (n := 690) (f := u 43) (j := 4) rfl (hpg_43 _ _ _) (by decide) (by decide) ?_
    refine mg_Ev.br (P := (u 43 4) ≤ x2) (t := 140) (nx := 39) (st' := []) rfl rfl rfl rfl (fun hc3500 => ?_) (fun hc3500 => ?_)
    · rw [if_pos hc3500] at h
      cases h
      exact mg_Ev.more (loc := [some (.ref 43), some (.int x1), none, none, none]) K ⟨rfl, ⟨rfl, trivial⟩⟩
    · rw [if_neg hc3500] at h
      refine mg_Ev.go 2 (pc' := 41) (loc' := [some (.ref 43), some (.int x1), some (.int x2), none, none]) (st' := [.int x2, .ref 43]) (w' := (hp u fL fD, c, z)) rfl ?_
      obtain ⟨⟨v1295, u1296⟩, hf3501, h⟩ := Option.bind_eq_some_iff.mp h
      try dsimp only at h
      refine mg_Ev.call (y := 108) (as := [.ref 43, .int x2]) (rest := []) (v := some (.int v1295)) (w1 := (hp u1296 fL fD, c, z)) rfl rfl (Nat.le_of_ble_eq_true rfl) ((ev_M_serves hf3501).deep (by decide)) ?_
      refine mg_Ev.go 3 (pc' := 48) (loc' := [some (.ref 43), some (.int x1), some (.int x2), some (.int v1295), some (.int 0)]) (st' := []) (w' := (hp u1296 fL fD, c, z)) rfl ?_
      obtain ⟨u1302, hl3502, h⟩ := Option.bind_eq_some_iff.mp h
      try dsimp only at h
      refine mg_Ev.more (loc := [some (.ref 43), some (.int x1), some (.int x2), some (.int v1295), some (.int 0)]) (ev_M_ends_L48 _ _ _ _ _ _ _ hl3502 _ ?_) ⟨rfl, ⟨rfl, ⟨rfl, ⟨rfl, ⟨rfl, trivial⟩⟩⟩⟩⟩
      show mg_Ev _ _ _ 117 [some (.ref 43), some (.int x1), some (.int x2), some (.int v1295), none] [] (hp u1302 fL fD, c, z) _
      refine mg_Ev.go 10 (pc' := 133) (loc' := [some (.ref 43), some (.int x1), some (.int x2), some (.int v1295), none]) (st' := [.int v1295, .int ((138 + (9 * x2)) + 6), .ref 44]) (w' := (hp u1302 fL fD, c, z)) rfl ?_
      by_cases hb3503 : ((138 + (9 * x2)) + 6) < 0 ∨ 690 ≤ ((138 + (9 * x2)) + 6).toNatClampNeg
      · rw [if_pos hb3503] at h
        cases h
      · rw [if_neg hb3503] at h
        refine mg_Ev.iast (a := 43) (n := 690) rfl (hpg_43 _ _ _) rfl hb3503 (hpa_43 _ _ _ _ _ _ _) ?_
        refine mg_Ev.go 2 (pc' := 29) (loc' := [some (.ref 43), some (.int x1), some (.int (x2 + 1)), some (.int v1295), none]) (st' := []) (w' := (hp (mg_up u1302 43 (((138 + (9 * x2)) + 6).toNatClampNeg) v1295) fL fD, c, z)) rfl ?_
        exact mg_Ev.more (loc := [some (.ref 43), some (.int x1), some (.int (x2 + 1)), none, none]) (ih _ _ _ _ h _ K) ⟨rfl, ⟨rfl, ⟨rfl, trivial⟩⟩⟩

def M_ends_L142 : Nat → Int32 → Int32 → mg_Rg → Option (Int32 × mg_Rg)
  | 0, _, _, _ => none
  | n + 1, x1, x2, u =>
    if (u 43 5) ≤ x2 then
    some ((x1, u))
    else
    (M_declAt x2 7 u).bind fun v1304 =>
      if v1304 = 0 then
      if x2 < 0 ∨ 30 ≤ x2.toNatClampNeg then none else
        if ((208 + (16 * x2)) + 8) < 0 ∨ 690 ≤ ((208 + (16 * x2)) + 8).toNatClampNeg then none else
        (M_settles x2 (mg_up u 43 (((208 + (16 * x2)) + 8).toNatClampNeg) (u 48 x2.toNatClampNeg))).bind fun u1305 =>
        M_ends_L142 n (x1 + 1) (x2 + 1) u1305
      else
      M_ends_L142 n x1 (x2 + 1) u
set_option maxRecDepth 10000 in
set_option maxHeartbeats 4000000 in
theorem ev_M_ends_L142 {sc : mg_Sc} {c z : Nat} {fL : Nat → Int64} {fD : Nat → UInt64} : ∀ (n : Nat) (x1 : Int32) (x2 : Int32) (u : mg_Rg) (res : Int32 × mg_Rg), M_ends_L142 n x1 x2 u = some res → ∀ r, (match res with | (y1, yu) => mg_Ev sc 9 112 198 [none, some (.int y1), none, none, none] [] (hp yu fL fD, c, z) r) → mg_Ev sc 9 112 142 [some (.ref 43), some (.int x1), some (.int x2), none, none] [] (hp u fL fD, c, z) r := by
  intro n
  induction n with
  | zero => intro x1 x2 u res h; cases h
  | succ n ih =>
    intro x1 x2 u res h r K
    unfold M_ends_L142 at h
    refine mg_Ev.go 4 (pc' := 148) (loc' := [some (.ref 43), some (.int x1), some (.int x2), none, none]) (st' := [.int 5, .ref 44, .int x2]) (w' := (hp u fL fD, c, z)) rfl ?_
    refine mg_Ev.iald (a := 43) (n := 690) (f := u 43) (j := 5) rfl (hpg_43 _ _ _) (by decide) (by decide) ?_
    refine mg_Ev.br (P := (u 43 5) ≤ x2) (t := 198) (nx := 152) (st' := []) rfl rfl rfl rfl (fun hc3504 => ?_) (fun hc3504 => ?_)
    · rw [if_pos hc3504] at h
      cases h
      exact mg_Ev.more (loc := [none, some (.int x1), none, none, none]) K ⟨rfl, trivial⟩
    · rw [if_neg hc3504] at h
      refine mg_Ev.go 3 (pc' := 156) (loc' := [some (.ref 43), some (.int x1), some (.int x2), none, none]) (st' := [.int 7, .int x2, .ref 43]) (w' := (hp u fL fD, c, z)) rfl ?_
      obtain ⟨v1304, hf3505, h⟩ := Option.bind_eq_some_iff.mp h
      refine mg_Ev.call (y := 68) (as := [.ref 43, .int x2, .int 7]) (rest := []) (v := some (.int v1304)) (w1 := (hp u fL fD, c, z)) rfl rfl (Nat.le_of_ble_eq_true rfl) ((ev_M_declAt hf3505).deep (by decide)) ?_
      refine mg_Ev.br (P := v1304 = 0) (t := 162) (nx := 192) (st' := []) rfl rfl rfl rfl (fun hc3506 => ?_) (fun hc3506 => ?_)
      · rw [if_pos hc3506] at h
        refine mg_Ev.go 10 (pc' := 178) (loc' := [some (.ref 43), some (.int x1), some (.int x2), none, none]) (st' := [.ref 43, .int ((208 + (16 * x2)) + 8), .ref 44]) (w' := (hp u fL fD, c, z)) rfl ?_
        refine mg_Ev.go 2 (pc' := 182) (loc' := [some (.ref 43), some (.int x1), some (.int x2), none, none]) (st' := [.int x2, .ref 49, .int ((208 + (16 * x2)) + 8), .ref 44]) (w' := (hp u fL fD, c, z)) rfl ?_
        by_cases hb3507 : x2 < 0 ∨ 30 ≤ x2.toNatClampNeg
        · rw [if_pos hb3507] at h
          cases h
        · rw [if_neg hb3507] at h
          refine mg_Ev.iald (a := 48) (n := 30) (f := u 48) rfl (hpg_48 _ _ _) rfl hb3507 ?_
          by_cases hb3508 : ((208 + (16 * x2)) + 8) < 0 ∨ 690 ≤ ((208 + (16 * x2)) + 8).toNatClampNeg
          · rw [if_pos hb3508] at h
            cases h
          · rw [if_neg hb3508] at h
            refine mg_Ev.iast (a := 43) (n := 690) rfl (hpg_43 _ _ _) rfl hb3508 (hpa_43 _ _ _ _ _ _ _) ?_
            refine mg_Ev.go 2 (pc' := 186) (loc' := [some (.ref 43), some (.int x1), some (.int x2), none, none]) (st' := [.int x2, .ref 43]) (w' := (hp (mg_up u 43 (((208 + (16 * x2)) + 8).toNatClampNeg) (u 48 x2.toNatClampNeg)) fL fD, c, z)) rfl ?_
            obtain ⟨u1305, hf3509, h⟩ := Option.bind_eq_some_iff.mp h
            refine mg_Ev.call (y := 111) (as := [.ref 43, .int x2]) (rest := []) (v := none) (w1 := (hp u1305 fL fD, c, z)) rfl rfl (Nat.le_of_ble_eq_true rfl) ((ev_M_settles hf3509).deep (by decide)) ?_
            refine mg_Ev.go 3 (pc' := 142) (loc' := [some (.ref 43), some (.int (x1 + 1)), some (.int (x2 + 1)), none, none]) (st' := []) (w' := (hp u1305 fL fD, c, z)) rfl ?_
            exact mg_Ev.more (loc := [some (.ref 43), some (.int (x1 + 1)), some (.int (x2 + 1)), none, none]) (ih _ _ _ _ h _ K) ⟨rfl, ⟨rfl, ⟨rfl, trivial⟩⟩⟩
      · rw [if_neg hc3506] at h
        refine mg_Ev.go 2 (pc' := 142) (loc' := [some (.ref 43), some (.int x1), some (.int (x2 + 1)), none, none]) (st' := []) (w' := (hp u fL fD, c, z)) rfl ?_
        exact mg_Ev.more (loc := [some (.ref 43), some (.int x1), some (.int (x2 + 1)), none, none]) (ih _ _ _ _ h _ K) ⟨rfl, ⟨rfl, ⟨rfl, trivial⟩⟩⟩

def M_ends (u : mg_Rg) : Option (Int32 × mg_Rg) :=
  (M_ends_L4 mg_F 0 0 u).bind fun q3510 => match q3510 with
  | u1294 =>
    (M_ends_L29 mg_F 0 0 u1294).bind fun q3511 => match q3511 with
    | u1303 =>
      (M_ends_L142 mg_F 0 0 u1303).bind fun q3512 => match q3512 with
      | (x1306, u1307) =>
        some (x1306, u1307)

set_option maxRecDepth 10000 in
set_option maxHeartbeats 4000000 in
theorem ev_M_ends {sc : mg_Sc} {c z : Nat} {fL : Nat → Int64} {fD : Nat → UInt64} {u : mg_Rg} {p : Int32 × mg_Rg} (h : M_ends u = some p) : mg_Ev sc 9 112 0 (mg_entry 112 [.ref 43]) [] (hp u fL fD, c, z) (.inl (some (.int p.1)), (hp p.2 fL fD, c, z)) := by
  unfold M_ends at h
  show mg_Ev _ _ _ 0 [some (.ref 43), none, none, none, none] [] _ _
  refine mg_Ev.go 4 (pc' := 4) (loc' := [some (.ref 43), some (.int 0), some (.int 0), none, none]) (st' := []) (w' := (hp u fL fD, c, z)) rfl ?_
  obtain ⟨u1294, hl3513, h⟩ := Option.bind_eq_some_iff.mp h
  try dsimp only at h
  refine mg_Ev.more (loc := [some (.ref 43), some (.int 0), some (.int 0), none, none]) (ev_M_ends_L4 _ _ _ _ _ hl3513 _ ?_) ⟨rfl, ⟨rfl, ⟨rfl, trivial⟩⟩⟩
  show mg_Ev _ _ _ 27 [some (.ref 43), some (.int 0), none, none, none] [] (hp u1294 fL fD, c, z) _
  refine mg_Ev.go 2 (pc' := 29) (loc' := [some (.ref 43), some (.int 0), some (.int 0), none, none]) (st' := []) (w' := (hp u1294 fL fD, c, z)) rfl ?_
  obtain ⟨u1303, hl3514, h⟩ := Option.bind_eq_some_iff.mp h
  try dsimp only at h
  refine mg_Ev.more (loc := [some (.ref 43), some (.int 0), some (.int 0), none, none]) (ev_M_ends_L29 _ _ _ _ _ hl3514 _ ?_) ⟨rfl, ⟨rfl, ⟨rfl, trivial⟩⟩⟩
  show mg_Ev _ _ _ 140 [some (.ref 43), some (.int 0), none, none, none] [] (hp u1303 fL fD, c, z) _
  refine mg_Ev.go 2 (pc' := 142) (loc' := [some (.ref 43), some (.int 0), some (.int 0), none, none]) (st' := []) (w' := (hp u1303 fL fD, c, z)) rfl ?_
  obtain ⟨⟨x1306, u1307⟩, hl3515, h⟩ := Option.bind_eq_some_iff.mp h
  try dsimp only at h
  refine mg_Ev.more (loc := [some (.ref 43), some (.int 0), some (.int 0), none, none]) (ev_M_ends_L142 _ _ _ _ _ hl3515 _ ?_) ⟨rfl, ⟨rfl, ⟨rfl, trivial⟩⟩⟩
  show mg_Ev _ _ _ 198 [none, some (.int x1306), none, none, none] [] (hp u1307 fL fD, c, z) _
  refine mg_Ev.go 1 (pc' := 199) (loc' := [none, some (.int x1306), none, none, none]) (st' := [.int x1306]) (w' := (hp u1307 fL fD, c, z)) rfl ?_
  cases h
  exact mg_Ev.fin rfl rfl rfl

def M_pass (a0 : Int32) (u : mg_Rg) : Option (Int32 × mg_Rg) :=
  (M_in a0 1 99 u).bind fun v1308 =>
  if v1308 = 0 then
  (M_fails 1 u).bind fun p1311 => match p1311 with
    | (v1309, u1310) =>
      some (v1309, u1310)
  else
  if ((u 43 0) + a0) ≤ 999 then
    (M_remembers u).bind fun u1312 =>
      (M_ends u1312).bind fun p1315 => match p1315 with
      | (v1313, u1314) =>
        (M_done v1313 (mg_up u1314 43 0 ((u1314 43 0) + a0))).bind fun p1318 => match p1318 with
        | (v1316, u1317) =>
          some (v1316, u1317)
    else
    (M_fails 2 u).bind fun p1321 => match p1321 with
      | (v1319, u1320) =>
        some (v1319, u1320)

set_option maxRecDepth 10000 in
set_option maxHeartbeats 4000000 in
theorem ev_M_pass {sc : mg_Sc} {c z : Nat} {fL : Nat → Int64} {fD : Nat → UInt64} {a0 : Int32} {u : mg_Rg} {p : Int32 × mg_Rg} (h : M_pass a0 u = some p) : mg_Ev sc 10 113 0 (mg_entry 113 [.ref 43, .int a0]) [] (hp u fL fD, c, z) (.inl (some (.int p.1)), (hp p.2 fL fD, c, z)) := by
  unfold M_pass at h
  show mg_Ev _ _ _ 0 [some (.ref 43), some (.int a0), none] [] _ _
  refine mg_Ev.go 3 (pc' := 4) (loc' := [some (.ref 43), some (.int a0), none]) (st' := [.int 99, .int 1, .int a0]) (w' := (hp u fL fD, c, z)) rfl ?_
  obtain ⟨v1308, hf3516, h⟩ := Option.bind_eq_some_iff.mp h
  refine mg_Ev.call (y := 58) (as := [.int a0, .int 1, .int 99]) (rest := []) (v := some (.int v1308)) (w1 := (hp u fL fD, c, z)) rfl rfl (Nat.le_of_ble_eq_true rfl) ((ev_M_in hf3516).deep (by decide)) ?_
  refine mg_Ev.br (P := v1308 = 0) (t := 10) (nx := 16) (st' := []) rfl rfl rfl rfl (fun hc3517 => ?_) (fun hc3517 => ?_)
  · rw [if_pos hc3517] at h
    refine mg_Ev.go 2 (pc' := 12) (loc' := [some (.ref 43), some (.int a0), none]) (st' := [.int 1, .ref 43]) (w' := (hp u fL fD, c, z)) rfl ?_
    obtain ⟨⟨v1309, u1310⟩, hf3518, h⟩ := Option.bind_eq_some_iff.mp h
    try dsimp only at h
    refine mg_Ev.call (y := 59) (as := [.ref 43, .int 1]) (rest := []) (v := some (.int v1309)) (w1 := (hp u1310 fL fD, c, z)) rfl rfl (Nat.le_of_ble_eq_true rfl) ((ev_M_fails hf3518).deep (by decide)) ?_
    cases h
    exact mg_Ev.fin rfl rfl rfl
  · rw [if_neg hc3517] at h
    refine mg_Ev.go 3 (pc' := 21) (loc' := [some (.ref 43), some (.int a0), none]) (st' := [.int 0, .ref 44]) (w' := (hp u fL fD, c, z)) rfl ?_
    refine mg_Ev.iald (a := 43) (n := 690) (f := u 43) (j := 0) rfl (hpg_43 _ _ _) (by decide) (by decide) ?_
    refine mg_Ev.go 3 (pc' := 27) (loc' := [some (.ref 43), some (.int a0), none]) (st' := [.int 999, .int ((u 43 0) + a0)]) (w' := (hp u fL fD, c, z)) rfl ?_
    refine mg_Ev.br (P := ((u 43 0) + a0) ≤ 999) (t := 36) (nx := 30) (st' := []) rfl rfl rfl rfl (fun hc3519 => ?_) (fun hc3519 => ?_)
    · rw [if_pos hc3519] at h
      refine mg_Ev.go 1 (pc' := 37) (loc' := [some (.ref 43), some (.int a0), none]) (st' := [.ref 43]) (w' := (hp u fL fD, c, z)) rfl ?_
      obtain ⟨u1312, hf3520, h⟩ := Option.bind_eq_some_iff.mp h
      refine mg_Ev.call (y := 63) (as := [.ref 43]) (rest := []) (v := none) (w1 := (hp u1312 fL fD, c, z)) rfl rfl (Nat.le_of_ble_eq_true rfl) ((ev_M_remembers hf3520).deep (by decide)) ?_
      refine mg_Ev.go 1 (pc' := 41) (loc' := [some (.ref 43), some (.int a0), none]) (st' := [.ref 43]) (w' := (hp u1312 fL fD, c, z)) rfl ?_
      obtain ⟨⟨v1313, u1314⟩, hf3521, h⟩ := Option.bind_eq_some_iff.mp h
      try dsimp only at h
      refine mg_Ev.call (y := 112) (as := [.ref 43]) (rest := []) (v := some (.int v1313)) (w1 := (hp u1314 fL fD, c, z)) rfl rfl (Nat.le_of_ble_eq_true rfl) ((ev_M_ends hf3521).deep (by decide)) ?_
      refine mg_Ev.go 5 (pc' := 51) (loc' := [some (.ref 43), some (.int a0), some (.int v1313)]) (st' := [.int 0, .ref 44, .int 0, .ref 44]) (w' := (hp u1314 fL fD, c, z)) rfl ?_
      refine mg_Ev.iald (a := 43) (n := 690) (f := u1314 43) (j := 0) rfl (hpg_43 _ _ _) (by decide) (by decide) ?_
      refine mg_Ev.go 2 (pc' := 54) (loc' := [some (.ref 43), some (.int a0), some (.int v1313)]) (st' := [.int ((u1314 43 0) + a0), .int 0, .ref 44]) (w' := (hp u1314 fL fD, c, z)) rfl ?_
      refine mg_Ev.iast (a := 43) (n := 690) (j := 0) rfl (hpg_43 _ _ _) (by decide) (by decide) (hpa_43 _ _ _ _ _ _ _) ?_
      refine mg_Ev.go 2 (pc' := 57) (loc' := [some (.ref 43), some (.int a0), some (.int v1313)]) (st' := [.int v1313, .ref 43]) (w' := (hp (mg_up u1314 43 0 ((u1314 43 0) + a0)) fL fD, c, z)) rfl ?_
      obtain ⟨⟨v1316, u1317⟩, hf3522, h⟩ := Option.bind_eq_some_iff.mp h
      try dsimp only at h
      refine mg_Ev.call (y := 60) (as := [.ref 43, .int v1313]) (rest := []) (v := some (.int v1316)) (w1 := (hp u1317 fL fD, c, z)) rfl rfl (Nat.le_of_ble_eq_true rfl) ((ev_M_done hf3522).deep (by decide)) ?_
      cases h
      exact mg_Ev.fin rfl rfl rfl
    · rw [if_neg hc3519] at h
      refine mg_Ev.go 2 (pc' := 32) (loc' := [some (.ref 43), some (.int a0), none]) (st' := [.int 2, .ref 43]) (w' := (hp u fL fD, c, z)) rfl ?_
      obtain ⟨⟨v1319, u1320⟩, hf3523, h⟩ := Option.bind_eq_some_iff.mp h
      try dsimp only at h
      refine mg_Ev.call (y := 59) (as := [.ref 43, .int 2]) (rest := []) (v := some (.int v1319)) (w1 := (hp u1320 fL fD, c, z)) rfl rfl (Nat.le_of_ble_eq_true rfl) ((ev_M_fails hf3523).deep (by decide)) ?_
      cases h
      exact mg_Ev.fin rfl rfl rfl

def M_hinders (a0 : Int32) (u : mg_Rg) : Option (Int32) :=
  (M_declAt a0 7 u).bind fun v1322 =>
  if v1322 = 1 then
  (M_declAt a0 6 u).bind fun v1323 =>
    if ((u 43 0) - v1323) ≤ (u 43 11) then
    some 0
    else
    some 3
  else
  (M_declAt a0 7 u).bind fun v1324 =>
    if v1324 = 0 then
    some 1
    else
    some 2

set_option maxRecDepth 10000 in
set_option maxHeartbeats 4000000 in
theorem ev_M_hinders {sc : mg_Sc} {c z : Nat} {fL : Nat → Int64} {fD : Nat → UInt64} {a0 : Int32} {u : mg_Rg} {v : Int32} (h : M_hinders a0 u = some v) : mg_Ev sc 1 114 0 (mg_entry 114 [.ref 43, .int a0]) [] (hp u fL fD, c, z) (.inl (some (.int v)), (hp u fL fD, c, z)) := by
  unfold M_hinders at h
  show mg_Ev _ _ _ 0 [some (.ref 43), some (.int a0)] [] _ _
  refine mg_Ev.go 3 (pc' := 4) (loc' := [some (.ref 43), some (.int a0)]) (st' := [.int 7, .int a0, .ref 43]) (w' := (hp u fL fD, c, z)) rfl ?_
  obtain ⟨v1322, hf3524, h⟩ := Option.bind_eq_some_iff.mp h
  refine mg_Ev.call (y := 68) (as := [.ref 43, .int a0, .int 7]) (rest := []) (v := some (.int v1322)) (w1 := (hp u fL fD, c, z)) rfl rfl (Nat.le_of_ble_eq_true rfl) ((ev_M_declAt hf3524).deep (by decide)) ?_
  refine mg_Ev.go 1 (pc' := 8) (loc' := [some (.ref 43), some (.int a0)]) (st' := [.int 1, .int v1322]) (w' := (hp u fL fD, c, z)) rfl ?_
  refine mg_Ev.br (P := v1322 = 1) (t := 27) (nx := 11) (st' := []) rfl rfl rfl rfl (fun hc3525 => ?_) (fun hc3525 => ?_)
  · rw [if_pos hc3525] at h
    refine mg_Ev.go 3 (pc' := 32) (loc' := [some (.ref 43), some (.int a0)]) (st' := [.int 0, .ref 44]) (w' := (hp u fL fD, c, z)) rfl ?_
    refine mg_Ev.iald (a := 43) (n := 690) (f := u 43) (j := 0) rfl (hpg_43 _ _ _) (by decide) (by decide) ?_
    refine mg_Ev.go 3 (pc' := 37) (loc' := [some (.ref 43), some (.int a0)]) (st' := [.int 6, .int a0, .ref 43, .int (u 43 0)]) (w' := (hp u fL fD, c, z)) rfl ?_
    obtain ⟨v1323, hf3526, h⟩ := Option.bind_eq_some_iff.mp h
    refine mg_Ev.call (y := 68) (as := [.ref 43, .int a0, .int 6]) (rest := [.int (u 43 0)]) (v := some (.int v1323)) (w1 := (hp u fL fD, c, z)) rfl rfl (Nat.le_of_ble_eq_true rfl) ((ev_M_declAt hf3526).deep (by decide)) ?_
    refine mg_Ev.go 4 (pc' := 47) (loc' := [some (.ref 43), some (.int a0)]) (st' := [.int 11, .ref 44, .int ((u 43 0) - v1323)]) (w' := (hp u fL fD, c, z)) rfl ?_
    refine mg_Ev.iald (a := 43) (n := 690) (f := u 43) (j := 11) rfl (hpg_43 _ _ _) (by decide) (by decide) ?_
    refine mg_Ev.br (P := ((u 43 0) - v1323) ≤ (u 43 11)) (t := 55) (nx := 51) (st' := []) rfl rfl rfl rfl (fun hc3527 => ?_) (fun hc3527 => ?_)
    · rw [if_pos hc3527] at h
      refine mg_Ev.go 1 (pc' := 56) (loc' := [some (.ref 43), some (.int a0)]) (st' := [.int 0]) (w' := (hp u fL fD, c, z)) rfl ?_
      cases h
      exact mg_Ev.fin rfl rfl rfl
    · rw [if_neg hc3527] at h
      refine mg_Ev.go 2 (pc' := 56) (loc' := [some (.ref 43), some (.int a0)]) (st' := [.int 3]) (w' := (hp u fL fD, c, z)) rfl ?_
      cases h
      exact mg_Ev.fin rfl rfl rfl
  · rw [if_neg hc3525] at h
    refine mg_Ev.go 3 (pc' := 15) (loc' := [some (.ref 43), some (.int a0)]) (st' := [.int 7, .int a0, .ref 43]) (w' := (hp u fL fD, c, z)) rfl ?_
    obtain ⟨v1324, hf3528, h⟩ := Option.bind_eq_some_iff.mp h
    refine mg_Ev.call (y := 68) (as := [.ref 43, .int a0, .int 7]) (rest := []) (v := some (.int v1324)) (w1 := (hp u fL fD, c, z)) rfl rfl (Nat.le_of_ble_eq_true rfl) ((ev_M_declAt hf3528).deep (by decide)) ?_
    refine mg_Ev.br (P := v1324 = 0) (t := 21) (nx := 25) (st' := []) rfl rfl rfl rfl (fun hc3529 => ?_) (fun hc3529 => ?_)
    · rw [if_pos hc3529] at h
      refine mg_Ev.go 2 (pc' := 26) (loc' := [some (.ref 43), some (.int a0)]) (st' := [.int 1]) (w' := (hp u fL fD, c, z)) rfl ?_
      cases h
      exact mg_Ev.fin rfl rfl rfl
    · rw [if_neg hc3529] at h
      refine mg_Ev.go 1 (pc' := 26) (loc' := [some (.ref 43), some (.int a0)]) (st' := [.int 2]) (w' := (hp u fL fD, c, z)) rfl ?_
      cases h
      exact mg_Ev.fin rfl rfl rfl

def M_givesBack (a0 : Int32) (a1 : Int32) (u : mg_Rg) : Option (Int32 × mg_Rg) :=
  if ((208 + (16 * a0)) + 11) < 0 ∨ 690 ≤ ((208 + (16 * a0)) + 11).toNatClampNeg then none else
  if ((208 + (16 * a0)) + 11) < 0 ∨ 690 ≤ ((208 + (16 * a0)) + 11).toNatClampNeg then none else
  (M_declAt a0 3 (mg_up (mg_up u 43 (((208 + (16 * a0)) + 11).toNatClampNeg) ((u 43 (((208 + (16 * a0)) + 11).toNatClampNeg)) + a1)) 43 8 (((mg_up u 43 (((208 + (16 * a0)) + 11).toNatClampNeg) ((u 43 (((208 + (16 * a0)) + 11).toNatClampNeg)) + a1)) 43 8) + a1))).bind fun v1325 =>
  if (200 + v1325) < 0 ∨ 690 ≤ (200 + v1325).toNatClampNeg then none else
  if (200 + v1325) < 0 ∨ 690 ≤ (200 + v1325).toNatClampNeg then none else
  some (a1, (mg_up (mg_up (mg_up u 43 (((208 + (16 * a0)) + 11).toNatClampNeg) ((u 43 (((208 + (16 * a0)) + 11).toNatClampNeg)) + a1)) 43 8 (((mg_up u 43 (((208 + (16 * a0)) + 11).toNatClampNeg) ((u 43 (((208 + (16 * a0)) + 11).toNatClampNeg)) + a1)) 43 8) + a1)) 43 ((200 + v1325).toNatClampNeg) (((mg_up (mg_up u 43 (((208 + (16 * a0)) + 11).toNatClampNeg) ((u 43 (((208 + (16 * a0)) + 11).toNatClampNeg)) + a1)) 43 8 (((mg_up u 43 (((208 + (16 * a0)) + 11).toNatClampNeg) ((u 43 (((208 + (16 * a0)) + 11).toNatClampNeg)) + a1)) 43 8) + a1)) 43 ((200 + v1325).toNatClampNeg)) - a1)))

set_option maxRecDepth 10000 in
set_option maxHeartbeats 4000000 in
theorem ev_M_givesBack {sc : mg_Sc} {c z : Nat} {fL : Nat → Int64} {fD : Nat → UInt64} {a0 : Int32} {a1 : Int32} {u : mg_Rg} {p : Int32 × mg_Rg} (h : M_givesBack a0 a1 u = some p) : mg_Ev sc 1 115 0 (mg_entry 115 [.ref 43, .int a0, .int a1]) [] (hp u fL fD, c, z) (.inl (some (.int p.1)), (hp p.2 fL fD, c, z)) := by
  unfold M_givesBack at h
  show mg_Ev _ _ _ 0 [some (.ref 43), some (.int a0), some (.int a1)] [] _ _
  refine mg_Ev.go 10 (pc' := 16) (loc' := [some (.ref 43), some (.int a0), some (.int a1)]) (st' := [.int ((208 + (16 * a0)) + 11), .ref 44, .int ((208 + (16 * a0)) + 11), .ref 44]) (w' := (hp u fL fD, c, z)) rfl ?_
  by_cases hb3530 : ((208 + (16 * a0)) + 11) < 0 ∨ 690 ≤ ((208 + (16 * a0)) + 11).toNatClampNeg
  · rw [if_pos hb3530] at h
    cases h
  · rw [if_neg hb3530] at h
    refine mg_Ev.iald (a := 43) (n := 690) (f := u 43) rfl (hpg_43 _ _ _) rfl hb3530 ?_
    refine mg_Ev.go 2 (pc' := 19) (loc' := [some (.ref 43), some (.int a0), some (.int a1)]) (st' := [.int ((u 43 (((208 + (16 * a0)) + 11).toNatClampNeg)) + a1), .int ((208 + (16 * a0)) + 11), .ref 44]) (w' := (hp u fL fD, c, z)) rfl ?_
    by_cases hb3531 : ((208 + (16 * a0)) + 11) < 0 ∨ 690 ≤ ((208 + (16 * a0)) + 11).toNatClampNeg
    · rw [if_pos hb3531] at h
      cases h
    · rw [if_neg hb3531] at h
      refine mg_Ev.iast (a := 43) (n := 690) rfl (hpg_43 _ _ _) rfl hb3531 (hpa_43 _ _ _ _ _ _ _) ?_
      refine mg_Ev.go 4 (pc' := 27) (loc' := [some (.ref 43), some (.int a0), some (.int a1)]) (st' := [.int 8, .ref 44, .int 8, .ref 44]) (w' := (hp (mg_up u 43 (((208 + (16 * a0)) + 11).toNatClampNeg) ((u 43 (((208 + (16 * a0)) + 11).toNatClampNeg)) + a1)) fL fD, c, z)) rfl ?_
      refine mg_Ev.iald (a := 43) (n := 690) (f := (mg_up u 43 (((208 + (16 * a0)) + 11).toNatClampNeg) ((u 43 (((208 + (16 * a0)) + 11).toNatClampNeg)) + a1)) 43) (j := 8) rfl (hpg_43 _ _ _) (by decide) (by decide) ?_
      refine mg_Ev.go 2 (pc' := 30) (loc' := [some (.ref 43), some (.int a0), some (.int a1)]) (st' := [.int (((mg_up u 43 (((208 + (16 * a0)) + 11).toNatClampNeg) ((u 43 (((208 + (16 * a0)) + 11).toNatClampNeg)) + a1)) 43 8) + a1), .int 8, .ref 44]) (w' := (hp (mg_up u 43 (((208 + (16 * a0)) + 11).toNatClampNeg) ((u 43 (((208 + (16 * a0)) + 11).toNatClampNeg)) + a1)) fL fD, c, z)) rfl ?_
      refine mg_Ev.iast (a := 43) (n := 690) (j := 8) rfl (hpg_43 _ _ _) (by decide) (by decide) (hpa_43 _ _ _ _ _ _ _) ?_
      refine mg_Ev.go 6 (pc' := 41) (loc' := [some (.ref 43), some (.int a0), some (.int a1)]) (st' := [.int 3, .int a0, .ref 43, .int 200, .ref 44]) (w' := (hp (mg_up (mg_up u 43 (((208 + (16 * a0)) + 11).toNatClampNeg) ((u 43 (((208 + (16 * a0)) + 11).toNatClampNeg)) + a1)) 43 8 (((mg_up u 43 (((208 + (16 * a0)) + 11).toNatClampNeg) ((u 43 (((208 + (16 * a0)) + 11).toNatClampNeg)) + a1)) 43 8) + a1)) fL fD, c, z)) rfl ?_
      obtain ⟨v1325, hf3532, h⟩ := Option.bind_eq_some_iff.mp h
      refine mg_Ev.call (y := 68) (as := [.ref 43, .int a0, .int 3]) (rest := [.int 200, .ref 44]) (v := some (.int v1325)) (w1 := (hp (mg_up (mg_up u 43 (((208 + (16 * a0)) + 11).toNatClampNeg) ((u 43 (((208 + (16 * a0)) + 11).toNatClampNeg)) + a1)) 43 8 (((mg_up u 43 (((208 + (16 * a0)) + 11).toNatClampNeg) ((u 43 (((208 + (16 * a0)) + 11).toNatClampNeg)) + a1)) 43 8) + a1)) fL fD, c, z)) rfl rfl (Nat.le_of_ble_eq_true rfl) ((ev_M_declAt hf3532).deep (by decide)) ?_
      refine mg_Ev.go 2 (pc' := 46) (loc' := [some (.ref 43), some (.int a0), some (.int a1)]) (st' := [.int (200 + v1325), .ref 44, .int (200 + v1325), .ref 44]) (w' := (hp (mg_up (mg_up u 43 (((208 + (16 * a0)) + 11).toNatClampNeg) ((u 43 (((208 + (16 * a0)) + 11).toNatClampNeg)) + a1)) 43 8 (((mg_up u 43 (((208 + (16 * a0)) + 11).toNatClampNeg) ((u 43 (((208 + (16 * a0)) + 11).toNatClampNeg)) + a1)) 43 8) + a1)) fL fD, c, z)) rfl ?_
      by_cases hb3533 : (200 + v1325) < 0 ∨ 690 ≤ (200 + v1325).toNatClampNeg
      · rw [if_pos hb3533] at h
        cases h
      · rw [if_neg hb3533] at h
        refine mg_Ev.iald (a := 43) (n := 690) (f := (mg_up (mg_up u 43 (((208 + (16 * a0)) + 11).toNatClampNeg) ((u 43 (((208 + (16 * a0)) + 11).toNatClampNeg)) + a1)) 43 8 (((mg_up u 43 (((208 + (16 * a0)) + 11).toNatClampNeg) ((u 43 (((208 + (16 * a0)) + 11).toNatClampNeg)) + a1)) 43 8) + a1)) 43) rfl (hpg_43 _ _ _) rfl hb3533 ?_
        refine mg_Ev.go 2 (pc' := 49) (loc' := [some (.ref 43), some (.int a0), some (.int a1)]) (st' := [.int (((mg_up (mg_up u 43 (((208 + (16 * a0)) + 11).toNatClampNeg) ((u 43 (((208 + (16 * a0)) + 11).toNatClampNeg)) + a1)) 43 8 (((mg_up u 43 (((208 + (16 * a0)) + 11).toNatClampNeg) ((u 43 (((208 + (16 * a0)) + 11).toNatClampNeg)) + a1)) 43 8) + a1)) 43 ((200 + v1325).toNatClampNeg)) - a1), .int (200 + v1325), .ref 44]) (w' := (hp (mg_up (mg_up u 43 (((208 + (16 * a0)) + 11).toNatClampNeg) ((u 43 (((208 + (16 * a0)) + 11).toNatClampNeg)) + a1)) 43 8 (((mg_up u 43 (((208 + (16 * a0)) + 11).toNatClampNeg) ((u 43 (((208 + (16 * a0)) + 11).toNatClampNeg)) + a1)) 43 8) + a1)) fL fD, c, z)) rfl ?_
        by_cases hb3534 : (200 + v1325) < 0 ∨ 690 ≤ (200 + v1325).toNatClampNeg
        · rw [if_pos hb3534] at h
          cases h
        · rw [if_neg hb3534] at h
          refine mg_Ev.iast (a := 43) (n := 690) rfl (hpg_43 _ _ _) rfl hb3534 (hpa_43 _ _ _ _ _ _ _) ?_
          refine mg_Ev.go 1 (pc' := 51) (loc' := [some (.ref 43), some (.int a0), some (.int a1)]) (st' := [.int a1]) (w' := (hp (mg_up (mg_up (mg_up u 43 (((208 + (16 * a0)) + 11).toNatClampNeg) ((u 43 (((208 + (16 * a0)) + 11).toNatClampNeg)) + a1)) 43 8 (((mg_up u 43 (((208 + (16 * a0)) + 11).toNatClampNeg) ((u 43 (((208 + (16 * a0)) + 11).toNatClampNeg)) + a1)) 43 8) + a1)) 43 ((200 + v1325).toNatClampNeg) (((mg_up (mg_up u 43 (((208 + (16 * a0)) + 11).toNatClampNeg) ((u 43 (((208 + (16 * a0)) + 11).toNatClampNeg)) + a1)) 43 8 (((mg_up u 43 (((208 + (16 * a0)) + 11).toNatClampNeg) ((u 43 (((208 + (16 * a0)) + 11).toNatClampNeg)) + a1)) 43 8) + a1)) 43 ((200 + v1325).toNatClampNeg)) - a1)) fL fD, c, z)) rfl ?_
          cases h
          exact mg_Ev.fin rfl rfl rfl

