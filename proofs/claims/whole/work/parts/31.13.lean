def M_isDecl (a0 : Int32) (u : mg_Rg) : Option (Int32) :=
  (M_in a0 0 ((u 43 5) - 1) u).bind fun v1185 =>
  if v1185 = 0 ∨ v1185 = 1 then some v1185 else none

set_option maxRecDepth 10000 in
set_option maxHeartbeats 4000000 in
theorem ev_M_isDecl {sc : mg_Sc} {c z : Nat} {fL : Nat → Int64} {fD : Nat → UInt64} {a0 : Int32} {u : mg_Rg} {v : Int32} (h : M_isDecl a0 u = some v) : mg_Ev sc 1 101 0 (mg_entry 101 [.ref 43, .int a0]) [] (hp u fL fD, c, z) (.inl (some (.int v)), (hp u fL fD, c, z)) := by
  unfold M_isDecl at h
  show mg_Ev _ _ _ 0 [some (.ref 43), some (.int a0)] [] _ _
  refine mg_Ev.go 5 (pc' := 7) (loc' := [some (.ref 43), some (.int a0)]) (st' := [.int 5, .ref 44, .int 0, .int a0]) (w' := (hp u fL fD, c, z)) rfl ?_
  refine mg_Ev.iald (a := 43) (n := 690) (f := u 43) (j := 5) rfl (hpg_43 _ _ _) (by decide) (by decide) ?_
  refine mg_Ev.go 2 (pc' := 10) (loc' := [some (.ref 43), some (.int a0)]) (st' := [.int ((u 43 5) - 1), .int 0, .int a0]) (w' := (hp u fL fD, c, z)) rfl ?_
  obtain ⟨v1185, hf3349, h⟩ := Option.bind_eq_some_iff.mp h
  refine mg_Ev.call (y := 58) (as := [.int a0, .int 0, .int ((u 43 5) - 1)]) (rest := []) (v := some (.int v1185)) (w1 := (hp u fL fD, c, z)) rfl rfl (Nat.le_of_ble_eq_true rfl) ((ev_M_in hf3349).deep (by decide)) ?_
  by_cases hz3350 : v1185 = 0 ∨ v1185 = 1
  · rw [if_pos hz3350] at h
    cases h
    exact mg_Ev.zret rfl rfl rfl hz3350
  · rw [if_neg hz3350] at h
    cases h

def M_declaration (a0 : Int32) (a1 : Int32) (u : mg_Rg) : Option (Int32 × mg_Rg) :=
  (M_isDecl a0 u).bind fun v1186 =>
  if v1186 = 0 then
  (M_fails 1 u).bind fun p1189 => match p1189 with
    | (v1187, u1188) =>
      some (v1187, u1188)
  else
  (M_in a1 0 14 u).bind fun v1190 =>
    if v1190 = 0 then
    (M_fails 2 u).bind fun p1193 => match p1193 with
      | (v1191, u1192) =>
        some (v1191, u1192)
    else
    (M_declAt a0 a1 u).bind fun v1194 =>
      (M_done v1194 u).bind fun p1197 => match p1197 with
      | (v1195, u1196) =>
        some (v1195, u1196)

set_option maxRecDepth 10000 in
set_option maxHeartbeats 4000000 in
theorem ev_M_declaration {sc : mg_Sc} {c z : Nat} {fL : Nat → Int64} {fD : Nat → UInt64} {a0 : Int32} {a1 : Int32} {u : mg_Rg} {p : Int32 × mg_Rg} (h : M_declaration a0 a1 u = some p) : mg_Ev sc 2 102 0 (mg_entry 102 [.ref 43, .int a0, .int a1]) [] (hp u fL fD, c, z) (.inl (some (.int p.1)), (hp p.2 fL fD, c, z)) := by
  unfold M_declaration at h
  show mg_Ev _ _ _ 0 [some (.ref 43), some (.int a0), some (.int a1)] [] _ _
  refine mg_Ev.go 2 (pc' := 2) (loc' := [some (.ref 43), some (.int a0), some (.int a1)]) (st' := [.int a0, .ref 43]) (w' := (hp u fL fD, c, z)) rfl ?_
  obtain ⟨v1186, hf3351, h⟩ := Option.bind_eq_some_iff.mp h
  refine mg_Ev.call (y := 101) (as := [.ref 43, .int a0]) (rest := []) (v := some (.int v1186)) (w1 := (hp u fL fD, c, z)) rfl rfl (Nat.le_of_ble_eq_true rfl) ((ev_M_isDecl hf3351).deep (by decide)) ?_
  refine mg_Ev.br (P := v1186 = 0) (t := 8) (nx := 14) (st' := []) rfl rfl rfl rfl (fun hc3352 => ?_) (fun hc3352 => ?_)
  · rw [if_pos hc3352] at h
    refine mg_Ev.go 2 (pc' := 10) (loc' := [some (.ref 43), some (.int a0), some (.int a1)]) (st' := [.int 1, .ref 43]) (w' := (hp u fL fD, c, z)) rfl ?_
    obtain ⟨⟨v1187, u1188⟩, hf3353, h⟩ := Option.bind_eq_some_iff.mp h
    try dsimp only at h
    refine mg_Ev.call (y := 59) (as := [.ref 43, .int 1]) (rest := []) (v := some (.int v1187)) (w1 := (hp u1188 fL fD, c, z)) rfl rfl (Nat.le_of_ble_eq_true rfl) ((ev_M_fails hf3353).deep (by decide)) ?_
    cases h
    exact mg_Ev.fin rfl rfl rfl
  · rw [if_neg hc3352] at h
    refine mg_Ev.go 3 (pc' := 18) (loc' := [some (.ref 43), some (.int a0), some (.int a1)]) (st' := [.int 14, .int 0, .int a1]) (w' := (hp u fL fD, c, z)) rfl ?_
    obtain ⟨v1190, hf3354, h⟩ := Option.bind_eq_some_iff.mp h
    refine mg_Ev.call (y := 58) (as := [.int a1, .int 0, .int 14]) (rest := []) (v := some (.int v1190)) (w1 := (hp u fL fD, c, z)) rfl rfl (Nat.le_of_ble_eq_true rfl) ((ev_M_in hf3354).deep (by decide)) ?_
    refine mg_Ev.br (P := v1190 = 0) (t := 37) (nx := 24) (st' := []) rfl rfl rfl rfl (fun hc3355 => ?_) (fun hc3355 => ?_)
    · rw [if_pos hc3355] at h
      refine mg_Ev.go 2 (pc' := 39) (loc' := [some (.ref 43), some (.int a0), some (.int a1)]) (st' := [.int 2, .ref 43]) (w' := (hp u fL fD, c, z)) rfl ?_
      obtain ⟨⟨v1191, u1192⟩, hf3356, h⟩ := Option.bind_eq_some_iff.mp h
      try dsimp only at h
      refine mg_Ev.call (y := 59) (as := [.ref 43, .int 2]) (rest := []) (v := some (.int v1191)) (w1 := (hp u1192 fL fD, c, z)) rfl rfl (Nat.le_of_ble_eq_true rfl) ((ev_M_fails hf3356).deep (by decide)) ?_
      cases h
      exact mg_Ev.fin rfl rfl rfl
    · rw [if_neg hc3355] at h
      refine mg_Ev.go 4 (pc' := 28) (loc' := [some (.ref 43), some (.int a0), some (.int a1)]) (st' := [.int a1, .int a0, .ref 43, .ref 43]) (w' := (hp u fL fD, c, z)) rfl ?_
      obtain ⟨v1194, hf3357, h⟩ := Option.bind_eq_some_iff.mp h
      refine mg_Ev.call (y := 68) (as := [.ref 43, .int a0, .int a1]) (rest := [.ref 43]) (v := some (.int v1194)) (w1 := (hp u fL fD, c, z)) rfl rfl (Nat.le_of_ble_eq_true rfl) ((ev_M_declAt hf3357).deep (by decide)) ?_
      obtain ⟨⟨v1195, u1196⟩, hf3358, h⟩ := Option.bind_eq_some_iff.mp h
      try dsimp only at h
      refine mg_Ev.call (y := 60) (as := [.ref 43, .int v1194]) (rest := []) (v := some (.int v1195)) (w1 := (hp u1196 fL fD, c, z)) rfl rfl (Nat.le_of_ble_eq_true rfl) ((ev_M_done hf3358).deep (by decide)) ?_
      refine mg_Ev.go 1 (pc' := 42) (loc' := [some (.ref 43), some (.int a0), some (.int a1)]) (st' := [.int v1195]) (w' := (hp u1196 fL fD, c, z)) rfl ?_
      cases h
      exact mg_Ev.fin rfl rfl rfl

def M_rateNow (a0 : Int32) (u : mg_Rg) : Option (Int32) :=
  (M_declAt a0 0 u).bind fun v1198 =>
  (M_declAt a0 3 u).bind fun v1199 =>
  (M_declAt a0 2 u).bind fun v1200 =>
  (M_declAt a0 4 u).bind fun v1201 =>
  (M_declAt a0 6 u).bind fun v1202 =>
  (M_goodsRate v1198 v1199 v1200 v1201 v1202 u).bind fun v1203 =>
  some v1203

set_option maxRecDepth 10000 in
set_option maxHeartbeats 4000000 in
theorem ev_M_rateNow {sc : mg_Sc} {c z : Nat} {fL : Nat → Int64} {fD : Nat → UInt64} {a0 : Int32} {u : mg_Rg} {v : Int32} (h : M_rateNow a0 u = some v) : mg_Ev sc 5 103 0 (mg_entry 103 [.ref 43, .int a0]) [] (hp u fL fD, c, z) (.inl (some (.int v)), (hp u fL fD, c, z)) := by
  unfold M_rateNow at h
  show mg_Ev _ _ _ 0 [some (.ref 43), some (.int a0)] [] _ _
  refine mg_Ev.go 4 (pc' := 4) (loc' := [some (.ref 43), some (.int a0)]) (st' := [.int 0, .int a0, .ref 43, .ref 43]) (w' := (hp u fL fD, c, z)) rfl ?_
  obtain ⟨v1198, hf3359, h⟩ := Option.bind_eq_some_iff.mp h
  refine mg_Ev.call (y := 68) (as := [.ref 43, .int a0, .int 0]) (rest := [.ref 43]) (v := some (.int v1198)) (w1 := (hp u fL fD, c, z)) rfl rfl (Nat.le_of_ble_eq_true rfl) ((ev_M_declAt hf3359).deep (by decide)) ?_
  refine mg_Ev.go 3 (pc' := 10) (loc' := [some (.ref 43), some (.int a0)]) (st' := [.int 3, .int a0, .ref 43, .int v1198, .ref 43]) (w' := (hp u fL fD, c, z)) rfl ?_
  obtain ⟨v1199, hf3360, h⟩ := Option.bind_eq_some_iff.mp h
  refine mg_Ev.call (y := 68) (as := [.ref 43, .int a0, .int 3]) (rest := [.int v1198, .ref 43]) (v := some (.int v1199)) (w1 := (hp u fL fD, c, z)) rfl rfl (Nat.le_of_ble_eq_true rfl) ((ev_M_declAt hf3360).deep (by decide)) ?_
  refine mg_Ev.go 3 (pc' := 16) (loc' := [some (.ref 43), some (.int a0)]) (st' := [.int 2, .int a0, .ref 43, .int v1199, .int v1198, .ref 43]) (w' := (hp u fL fD, c, z)) rfl ?_
  obtain ⟨v1200, hf3361, h⟩ := Option.bind_eq_some_iff.mp h
  refine mg_Ev.call (y := 68) (as := [.ref 43, .int a0, .int 2]) (rest := [.int v1199, .int v1198, .ref 43]) (v := some (.int v1200)) (w1 := (hp u fL fD, c, z)) rfl rfl (Nat.le_of_ble_eq_true rfl) ((ev_M_declAt hf3361).deep (by decide)) ?_
  refine mg_Ev.go 3 (pc' := 22) (loc' := [some (.ref 43), some (.int a0)]) (st' := [.int 4, .int a0, .ref 43, .int v1200, .int v1199, .int v1198, .ref 43]) (w' := (hp u fL fD, c, z)) rfl ?_
  obtain ⟨v1201, hf3362, h⟩ := Option.bind_eq_some_iff.mp h
  refine mg_Ev.call (y := 68) (as := [.ref 43, .int a0, .int 4]) (rest := [.int v1200, .int v1199, .int v1198, .ref 43]) (v := some (.int v1201)) (w1 := (hp u fL fD, c, z)) rfl rfl (Nat.le_of_ble_eq_true rfl) ((ev_M_declAt hf3362).deep (by decide)) ?_
  refine mg_Ev.go 3 (pc' := 29) (loc' := [some (.ref 43), some (.int a0)]) (st' := [.int 6, .int a0, .ref 43, .int v1201, .int v1200, .int v1199, .int v1198, .ref 43]) (w' := (hp u fL fD, c, z)) rfl ?_
  obtain ⟨v1202, hf3363, h⟩ := Option.bind_eq_some_iff.mp h
  refine mg_Ev.call (y := 68) (as := [.ref 43, .int a0, .int 6]) (rest := [.int v1201, .int v1200, .int v1199, .int v1198, .ref 43]) (v := some (.int v1202)) (w1 := (hp u fL fD, c, z)) rfl rfl (Nat.le_of_ble_eq_true rfl) ((ev_M_declAt hf3363).deep (by decide)) ?_
  obtain ⟨v1203, hf3364, h⟩ := Option.bind_eq_some_iff.mp h
  refine mg_Ev.call (y := 89) (as := [.ref 43, .int v1198, .int v1199, .int v1200, .int v1201, .int v1202]) (rest := []) (v := some (.int v1203)) (w1 := (hp u fL fD, c, z)) rfl rfl (Nat.le_of_ble_eq_true rfl) ((ev_M_goodsRate hf3364).deep (by decide)) ?_
  cases h
  exact mg_Ev.fin rfl rfl rfl

def M_fromNow (a0 : Int32) (u : mg_Rg) : Option (Int32) :=
  (M_declAt a0 0 u).bind fun v1204 =>
  (M_declAt a0 3 u).bind fun v1205 =>
  (M_declAt a0 2 u).bind fun v1206 =>
  (M_declAt a0 4 u).bind fun v1207 =>
  (M_declAt a0 6 u).bind fun v1208 =>
  (M_goodsFrom v1204 v1205 v1206 v1207 v1208 u).bind fun v1209 =>
  some v1209

set_option maxRecDepth 10000 in
set_option maxHeartbeats 4000000 in
theorem ev_M_fromNow {sc : mg_Sc} {c z : Nat} {fL : Nat → Int64} {fD : Nat → UInt64} {a0 : Int32} {u : mg_Rg} {v : Int32} (h : M_fromNow a0 u = some v) : mg_Ev sc 6 104 0 (mg_entry 104 [.ref 43, .int a0]) [] (hp u fL fD, c, z) (.inl (some (.int v)), (hp u fL fD, c, z)) := by
  unfold M_fromNow at h
  show mg_Ev _ _ _ 0 [some (.ref 43), some (.int a0)] [] _ _
  refine mg_Ev.go 4 (pc' := 4) (loc' := [some (.ref 43), some (.int a0)]) (st' := [.int 0, .int a0, .ref 43, .ref 43]) (w' := (hp u fL fD, c, z)) rfl ?_
  obtain ⟨v1204, hf3365, h⟩ := Option.bind_eq_some_iff.mp h
  refine mg_Ev.call (y := 68) (as := [.ref 43, .int a0, .int 0]) (rest := [.ref 43]) (v := some (.int v1204)) (w1 := (hp u fL fD, c, z)) rfl rfl (Nat.le_of_ble_eq_true rfl) ((ev_M_declAt hf3365).deep (by decide)) ?_
  refine mg_Ev.go 3 (pc' := 10) (loc' := [some (.ref 43), some (.int a0)]) (st' := [.int 3, .int a0, .ref 43, .int v1204, .ref 43]) (w' := (hp u fL fD, c, z)) rfl ?_
  obtain ⟨v1205, hf3366, h⟩ := Option.bind_eq_some_iff.mp h
  refine mg_Ev.call (y := 68) (as := [.ref 43, .int a0, .int 3]) (rest := [.int v1204, .ref 43]) (v := some (.int v1205)) (w1 := (hp u fL fD, c, z)) rfl rfl (Nat.le_of_ble_eq_true rfl) ((ev_M_declAt hf3366).deep (by decide)) ?_
  refine mg_Ev.go 3 (pc' := 16) (loc' := [some (.ref 43), some (.int a0)]) (st' := [.int 2, .int a0, .ref 43, .int v1205, .int v1204, .ref 43]) (w' := (hp u fL fD, c, z)) rfl ?_
  obtain ⟨v1206, hf3367, h⟩ := Option.bind_eq_some_iff.mp h
  refine mg_Ev.call (y := 68) (as := [.ref 43, .int a0, .int 2]) (rest := [.int v1205, .int v1204, .ref 43]) (v := some (.int v1206)) (w1 := (hp u fL fD, c, z)) rfl rfl (Nat.le_of_ble_eq_true rfl) ((ev_M_declAt hf3367).deep (by decide)) ?_
  refine mg_Ev.go 3 (pc' := 22) (loc' := [some (.ref 43), some (.int a0)]) (st' := [.int 4, .int a0, .ref 43, .int v1206, .int v1205, .int v1204, .ref 43]) (w' := (hp u fL fD, c, z)) rfl ?_
  obtain ⟨v1207, hf3368, h⟩ := Option.bind_eq_some_iff.mp h
  refine mg_Ev.call (y := 68) (as := [.ref 43, .int a0, .int 4]) (rest := [.int v1206, .int v1205, .int v1204, .ref 43]) (v := some (.int v1207)) (w1 := (hp u fL fD, c, z)) rfl rfl (Nat.le_of_ble_eq_true rfl) ((ev_M_declAt hf3368).deep (by decide)) ?_
  refine mg_Ev.go 3 (pc' := 29) (loc' := [some (.ref 43), some (.int a0)]) (st' := [.int 6, .int a0, .ref 43, .int v1207, .int v1206, .int v1205, .int v1204, .ref 43]) (w' := (hp u fL fD, c, z)) rfl ?_
  obtain ⟨v1208, hf3369, h⟩ := Option.bind_eq_some_iff.mp h
  refine mg_Ev.call (y := 68) (as := [.ref 43, .int a0, .int 6]) (rest := [.int v1207, .int v1206, .int v1205, .int v1204, .ref 43]) (v := some (.int v1208)) (w1 := (hp u fL fD, c, z)) rfl rfl (Nat.le_of_ble_eq_true rfl) ((ev_M_declAt hf3369).deep (by decide)) ?_
  obtain ⟨v1209, hf3370, h⟩ := Option.bind_eq_some_iff.mp h
  refine mg_Ev.call (y := 90) (as := [.ref 43, .int v1204, .int v1205, .int v1206, .int v1207, .int v1208]) (rest := []) (v := some (.int v1209)) (w1 := (hp u fL fD, c, z)) rfl rfl (Nat.le_of_ble_eq_true rfl) ((ev_M_goodsFrom hf3370).deep (by decide)) ?_
  cases h
  exact mg_Ev.fin rfl rfl rfl

def M_claims (a0 : Int32) (a1 : Int32) (u : mg_Rg) : Option (Int32) :=
  (M_declAt a0 5 u).bind fun v1210 =>
  (M_declAt a0 0 u).bind fun v1211 =>
  (M_quotaAt v1210 0 u).bind fun v1212 =>
  (M_isUnder v1211 v1212 u).bind fun v1213 =>
  if v1213 = 0 then
  some 1
  else
  (M_quotaAt v1210 1 u).bind fun v1214 =>
    if v1214 = (-1) then
    (M_declAt a0 6 u).bind fun v1215 =>
      (M_quotaAt v1210 4 u).bind fun v1216 =>
      (M_quotaAt v1210 5 u).bind fun v1217 =>
      (M_in v1215 v1216 v1217 u).bind fun v1218 =>
      if v1218 = 0 then
      some 3
      else
      (M_quotaAt v1210 3 u).bind fun v1219 =>
        (M_rateNow a0 u).bind fun v1220 =>
        if v1219 < v1220 then
        if a1 = 0 then
          some 5
          else
          some 0
        else
        some 4
    else
    (M_quotaAt v1210 1 u).bind fun v1221 =>
      (M_declAt a0 3 u).bind fun v1222 =>
      if v1221 = v1222 then
      (M_declAt a0 6 u).bind fun v1223 =>
        (M_quotaAt v1210 4 u).bind fun v1224 =>
        (M_quotaAt v1210 5 u).bind fun v1225 =>
        (M_in v1223 v1224 v1225 u).bind fun v1226 =>
        if v1226 = 0 then
        some 3
        else
        (M_quotaAt v1210 3 u).bind fun v1227 =>
          (M_rateNow a0 u).bind fun v1228 =>
          if v1227 < v1228 then
          if a1 = 0 then
            some 5
            else
            some 0
          else
          some 4
      else
      some 2

set_option maxRecDepth 10000 in
set_option maxHeartbeats 4000000 in
theorem ev_M_claims {sc : mg_Sc} {c z : Nat} {fL : Nat → Int64} {fD : Nat → UInt64} {a0 : Int32} {a1 : Int32} {u : mg_Rg} {v : Int32} (h : M_claims a0 a1 u = some v) : mg_Ev sc 6 105 0 (mg_entry 105 [.ref 43, .int a0, .int a1]) [] (hp u fL fD, c, z) (.inl (some (.int v)), (hp u fL fD, c, z)) := by
  unfold M_claims at h
  show mg_Ev _ _ _ 0 [some (.ref 43), some (.int a0), some (.int a1), none] [] _ _
  refine mg_Ev.go 3 (pc' := 3) (loc' := [some (.ref 43), some (.int a0), some (.int a1), none]) (st' := [.int 5, .int a0, .ref 43]) (w' := (hp u fL fD, c, z)) rfl ?_
  obtain ⟨v1210, hf3371, h⟩ := Option.bind_eq_some_iff.mp h
  refine mg_Ev.call (y := 68) (as := [.ref 43, .int a0, .int 5]) (rest := []) (v := some (.int v1210)) (w1 := (hp u fL fD, c, z)) rfl rfl (Nat.le_of_ble_eq_true rfl) ((ev_M_declAt hf3371).deep (by decide)) ?_
  refine mg_Ev.go 5 (pc' := 11) (loc' := [some (.ref 43), some (.int a0), some (.int a1), some (.int v1210)]) (st' := [.int 0, .int a0, .ref 43, .ref 43]) (w' := (hp u fL fD, c, z)) rfl ?_
  obtain ⟨v1211, hf3372, h⟩ := Option.bind_eq_some_iff.mp h
  refine mg_Ev.call (y := 68) (as := [.ref 43, .int a0, .int 0]) (rest := [.ref 43]) (v := some (.int v1211)) (w1 := (hp u fL fD, c, z)) rfl rfl (Nat.le_of_ble_eq_true rfl) ((ev_M_declAt hf3372).deep (by decide)) ?_
  refine mg_Ev.go 3 (pc' := 17) (loc' := [some (.ref 43), some (.int a0), some (.int a1), some (.int v1210)]) (st' := [.int 0, .int v1210, .ref 43, .int v1211, .ref 43]) (w' := (hp u fL fD, c, z)) rfl ?_
  obtain ⟨v1212, hf3373, h⟩ := Option.bind_eq_some_iff.mp h
  refine mg_Ev.call (y := 67) (as := [.ref 43, .int v1210, .int 0]) (rest := [.int v1211, .ref 43]) (v := some (.int v1212)) (w1 := (hp u fL fD, c, z)) rfl rfl (Nat.le_of_ble_eq_true rfl) ((ev_M_quotaAt hf3373).deep (by decide)) ?_
  obtain ⟨v1213, hf3374, h⟩ := Option.bind_eq_some_iff.mp h
  refine mg_Ev.call (y := 70) (as := [.ref 43, .int v1211, .int v1212]) (rest := []) (v := some (.int v1213)) (w1 := (hp u fL fD, c, z)) rfl rfl (Nat.le_of_ble_eq_true rfl) ((ev_M_isUnder hf3374).deep (by decide)) ?_
  refine mg_Ev.br (P := v1213 = 0) (t := 26) (nx := 28) (st' := []) rfl rfl rfl rfl (fun hc3375 => ?_) (fun hc3375 => ?_)
  · rw [if_pos hc3375] at h
    refine mg_Ev.go 1 (pc' := 27) (loc' := [some (.ref 43), some (.int a0), some (.int a1), some (.int v1210)]) (st' := [.int 1]) (w' := (hp u fL fD, c, z)) rfl ?_
    cases h
    exact mg_Ev.fin rfl rfl rfl
  · rw [if_neg hc3375] at h
    refine mg_Ev.go 3 (pc' := 31) (loc' := [some (.ref 43), some (.int a0), some (.int a1), some (.int v1210)]) (st' := [.int 1, .int v1210, .ref 43]) (w' := (hp u fL fD, c, z)) rfl ?_
    obtain ⟨v1214, hf3376, h⟩ := Option.bind_eq_some_iff.mp h
    refine mg_Ev.call (y := 67) (as := [.ref 43, .int v1210, .int 1]) (rest := []) (v := some (.int v1214)) (w1 := (hp u fL fD, c, z)) rfl rfl (Nat.le_of_ble_eq_true rfl) ((ev_M_quotaAt hf3376).deep (by decide)) ?_
    refine mg_Ev.go 1 (pc' := 35) (loc' := [some (.ref 43), some (.int a0), some (.int a1), some (.int v1210)]) (st' := [.int (-1), .int v1214]) (w' := (hp u fL fD, c, z)) rfl ?_
    refine mg_Ev.br (P := v1214 = (-1)) (t := 55) (nx := 38) (st' := []) rfl rfl rfl rfl (fun hc3377 => ?_) (fun hc3377 => ?_)
    · rw [if_pos hc3377] at h
      refine mg_Ev.go 3 (pc' := 59) (loc' := [some (.ref 43), some (.int a0), some (.int a1), some (.int v1210)]) (st' := [.int 6, .int a0, .ref 43]) (w' := (hp u fL fD, c, z)) rfl ?_
      obtain ⟨v1215, hf3378, h⟩ := Option.bind_eq_some_iff.mp h
      refine mg_Ev.call (y := 68) (as := [.ref 43, .int a0, .int 6]) (rest := []) (v := some (.int v1215)) (w1 := (hp u fL fD, c, z)) rfl rfl (Nat.le_of_ble_eq_true rfl) ((ev_M_declAt hf3378).deep (by decide)) ?_
      refine mg_Ev.go 3 (pc' := 65) (loc' := [some (.ref 43), some (.int a0), some (.int a1), some (.int v1210)]) (st' := [.int 4, .int v1210, .ref 43, .int v1215]) (w' := (hp u fL fD, c, z)) rfl ?_
      obtain ⟨v1216, hf3379, h⟩ := Option.bind_eq_some_iff.mp h
      refine mg_Ev.call (y := 67) (as := [.ref 43, .int v1210, .int 4]) (rest := [.int v1215]) (v := some (.int v1216)) (w1 := (hp u fL fD, c, z)) rfl rfl (Nat.le_of_ble_eq_true rfl) ((ev_M_quotaAt hf3379).deep (by decide)) ?_
      refine mg_Ev.go 3 (pc' := 71) (loc' := [some (.ref 43), some (.int a0), some (.int a1), some (.int v1210)]) (st' := [.int 5, .int v1210, .ref 43, .int v1216, .int v1215]) (w' := (hp u fL fD, c, z)) rfl ?_
      obtain ⟨v1217, hf3380, h⟩ := Option.bind_eq_some_iff.mp h
      refine mg_Ev.call (y := 67) (as := [.ref 43, .int v1210, .int 5]) (rest := [.int v1216, .int v1215]) (v := some (.int v1217)) (w1 := (hp u fL fD, c, z)) rfl rfl (Nat.le_of_ble_eq_true rfl) ((ev_M_quotaAt hf3380).deep (by decide)) ?_
      obtain ⟨v1218, hf3381, h⟩ := Option.bind_eq_some_iff.mp h
      refine mg_Ev.call (y := 58) (as := [.int v1215, .int v1216, .int v1217]) (rest := []) (v := some (.int v1218)) (w1 := (hp u fL fD, c, z)) rfl rfl (Nat.le_of_ble_eq_true rfl) ((ev_M_in hf3381).deep (by decide)) ?_
      refine mg_Ev.br (P := v1218 = 0) (t := 80) (nx := 82) (st' := []) rfl rfl rfl rfl (fun hc3382 => ?_) (fun hc3382 => ?_)
      · rw [if_pos hc3382] at h
        refine mg_Ev.go 1 (pc' := 81) (loc' := [some (.ref 43), some (.int a0), some (.int a1), some (.int v1210)]) (st' := [.int 3]) (w' := (hp u fL fD, c, z)) rfl ?_
        cases h
        exact mg_Ev.fin rfl rfl rfl
      · rw [if_neg hc3382] at h
        refine mg_Ev.go 3 (pc' := 85) (loc' := [some (.ref 43), some (.int a0), some (.int a1), some (.int v1210)]) (st' := [.int 3, .int v1210, .ref 43]) (w' := (hp u fL fD, c, z)) rfl ?_
        obtain ⟨v1219, hf3383, h⟩ := Option.bind_eq_some_iff.mp h
        refine mg_Ev.call (y := 67) (as := [.ref 43, .int v1210, .int 3]) (rest := []) (v := some (.int v1219)) (w1 := (hp u fL fD, c, z)) rfl rfl (Nat.le_of_ble_eq_true rfl) ((ev_M_quotaAt hf3383).deep (by decide)) ?_
        refine mg_Ev.go 2 (pc' := 90) (loc' := [some (.ref 43), some (.int a0), some (.int a1), some (.int v1210)]) (st' := [.int a0, .ref 43, .int v1219]) (w' := (hp u fL fD, c, z)) rfl ?_
        obtain ⟨v1220, hf3384, h⟩ := Option.bind_eq_some_iff.mp h
        refine mg_Ev.call (y := 103) (as := [.ref 43, .int a0]) (rest := [.int v1219]) (v := some (.int v1220)) (w1 := (hp u fL fD, c, z)) rfl rfl (Nat.le_of_ble_eq_true rfl) ((ev_M_rateNow hf3384).deep (by decide)) ?_
        refine mg_Ev.br (P := v1219 < v1220) (t := 100) (nx := 96) (st' := []) rfl rfl rfl rfl (fun hc3385 => ?_) (fun hc3385 => ?_)
        · rw [if_pos hc3385] at h
          refine mg_Ev.go 1 (pc' := 101) (loc' := [some (.ref 43), some (.int a0), some (.int a1), some (.int v1210)]) (st' := [.int a1]) (w' := (hp u fL fD, c, z)) rfl ?_
          refine mg_Ev.br (P := a1 = 0) (t := 104) (nx := 108) (st' := []) rfl rfl rfl rfl (fun hc3386 => ?_) (fun hc3386 => ?_)
          · rw [if_pos hc3386] at h
            refine mg_Ev.go 2 (pc' := 109) (loc' := [some (.ref 43), some (.int a0), some (.int a1), some (.int v1210)]) (st' := [.int 5]) (w' := (hp u fL fD, c, z)) rfl ?_
            cases h
            exact mg_Ev.fin rfl rfl rfl
          · rw [if_neg hc3386] at h
            refine mg_Ev.go 1 (pc' := 109) (loc' := [some (.ref 43), some (.int a0), some (.int a1), some (.int v1210)]) (st' := [.int 0]) (w' := (hp u fL fD, c, z)) rfl ?_
            cases h
            exact mg_Ev.fin rfl rfl rfl
        · rw [if_neg hc3385] at h
          refine mg_Ev.go 2 (pc' := 109) (loc' := [some (.ref 43), some (.int a0), some (.int a1), some (.int v1210)]) (st' := [.int 4]) (w' := (hp u fL fD, c, z)) rfl ?_
          cases h
          exact mg_Ev.fin rfl rfl rfl
    · rw [if_neg hc3377] at h
      refine mg_Ev.go 3 (pc' := 41) (loc' := [some (.ref 43), some (.int a0), some (.int a1), some (.int v1210)]) (st' := [.int 1, .int v1210, .ref 43]) (w' := (hp u fL fD, c, z)) rfl ?_
      obtain ⟨v1221, hf3387, h⟩ := Option.bind_eq_some_iff.mp h
      refine mg_Ev.call (y := 67) (as := [.ref 43, .int v1210, .int 1]) (rest := []) (v := some (.int v1221)) (w1 := (hp u fL fD, c, z)) rfl rfl (Nat.le_of_ble_eq_true rfl) ((ev_M_quotaAt hf3387).deep (by decide)) ?_
      refine mg_Ev.go 3 (pc' := 47) (loc' := [some (.ref 43), some (.int a0), some (.int a1), some (.int v1210)]) (st' := [.int 3, .int a0, .ref 43, .int v1221]) (w' := (hp u fL fD, c, z)) rfl ?_
      obtain ⟨v1222, hf3388, h⟩ := Option.bind_eq_some_iff.mp h
      refine mg_Ev.call (y := 68) (as := [.ref 43, .int a0, .int 3]) (rest := [.int v1221]) (v := some (.int v1222)) (w1 := (hp u fL fD, c, z)) rfl rfl (Nat.le_of_ble_eq_true rfl) ((ev_M_declAt hf3388).deep (by decide)) ?_
      refine mg_Ev.br (P := v1221 = v1222) (t := 55) (nx := 53) (st' := []) rfl rfl rfl rfl (fun hc3389 => ?_) (fun hc3389 => ?_)
      · rw [if_pos hc3389] at h
        refine mg_Ev.go 3 (pc' := 59) (loc' := [some (.ref 43), some (.int a0), some (.int a1), some (.int v1210)]) (st' := [.int 6, .int a0, .ref 43]) (w' := (hp u fL fD, c, z)) rfl ?_
        obtain ⟨v1223, hf3390, h⟩ := Option.bind_eq_some_iff.mp h
        refine mg_Ev.call (y := 68) (as := [.ref 43, .int a0, .int 6]) (rest := []) (v := some (.int v1223)) (w1 := (hp u fL fD, c, z)) rfl rfl (Nat.le_of_ble_eq_true rfl) ((ev_M_declAt hf3390).deep (by decide)) ?_
        refine mg_Ev.go 3 (pc' := 65) (loc' := [some (.ref 43), some (.int a0), some (.int a1), some (.int v1210)]) (st' := [.int 4, .int v1210, .ref 43, .int v1223]) (w' := (hp u fL fD, c, z)) rfl ?_
        obtain ⟨v1224, hf3391, h⟩ := Option.bind_eq_some_iff.mp h
        refine mg_Ev.call (y := 67) (as := [.ref 43, .int v1210, .int 4]) (rest := [.int v1223]) (v := some (.int v1224)) (w1 := (hp u fL fD, c, z)) rfl rfl (Nat.le_of_ble_eq_true rfl) ((ev_M_quotaAt hf3391).deep (by decide)) ?_
        refine mg_Ev.go 3 (pc' := 71) (loc' := [some (.ref 43), some (.int a0), some (.int a1), some (.int v1210)]) (st' := [.int 5, .int v1210, .ref 43, .int v1224, .int v1223]) (w' := (hp u fL fD, c, z)) rfl ?_
        obtain ⟨v1225, hf3392, h⟩ := Option.bind_eq_some_iff.mp h
        refine mg_Ev.call (y := 67) (as := [.ref 43, .int v1210, .int 5]) (rest := [.int v1224, .int v1223]) (v := some (.int v1225)) (w1 := (hp u fL fD, c, z)) rfl rfl (Nat.le_of_ble_eq_true rfl) ((ev_M_quotaAt hf3392).deep (by decide)) ?_
        obtain ⟨v1226, hf3393, h⟩ := Option.bind_eq_some_iff.mp h
        refine mg_Ev.call (y := 58) (as := [.int v1223, .int v1224, .int v1225]) (rest := []) (v := some (.int v1226)) (w1 := (hp u fL fD, c, z)) rfl rfl (Nat.le_of_ble_eq_true rfl) ((ev_M_in hf3393).deep (by decide)) ?_
        refine mg_Ev.br (P := v1226 = 0) (t := 80) (nx := 82) (st' := []) rfl rfl rfl rfl (fun hc3394 => ?_) (fun hc3394 => ?_)
        · rw [if_pos hc3394] at h
          refine mg_Ev.go 1 (pc' := 81) (loc' := [some (.ref 43), some (.int a0), some (.int a1), some (.int v1210)]) (st' := [.int 3]) (w' := (hp u fL fD, c, z)) rfl ?_
          cases h
          exact mg_Ev.fin rfl rfl rfl
        · rw [if_neg hc3394] at h
          refine mg_Ev.go 3 (pc' := 85) (loc' := [some (.ref 43), some (.int a0), some (.int a1), some (.int v1210)]) (st' := [.int 3, .int v1210, .ref 43]) (w' := (hp u fL fD, c, z)) rfl ?_
          obtain ⟨v1227, hf3395, h⟩ := Option.bind_eq_some_iff.mp h
          refine mg_Ev.call (y := 67) (as := [.ref 43, .int v1210, .int 3]) (rest := []) (v := some (.int v1227)) (w1 := (hp u fL fD, c, z)) rfl rfl (Nat.le_of_ble_eq_true rfl) ((ev_M_quotaAt hf3395).deep (by decide)) ?_
          refine mg_Ev.go 2 (pc' := 90) (loc' := [some (.ref 43), some (.int a0), some (.int a1), some (.int v1210)]) (st' := [.int a0, .ref 43, .int v1227]) (w' := (hp u fL fD, c, z)) rfl ?_
          obtain ⟨v1228, hf3396, h⟩ := Option.bind_eq_some_iff.mp h
          refine mg_Ev.call (y := 103) (as := [.ref 43, .int a0]) (rest := [.int v1227]) (v := some (.int v1228)) (w1 := (hp u fL fD, c, z)) rfl rfl (Nat.le_of_ble_eq_true rfl) ((ev_M_rateNow hf3396).deep (by decide)) ?_
          refine mg_Ev.br (P := v1227 < v1228) (t := 100) (nx := 96) (st' := []) rfl rfl rfl rfl (fun hc3397 => ?_) (fun hc3397 => ?_)
          · rw [if_pos hc3397] at h
            refine mg_Ev.go 1 (pc' := 101) (loc' := [some (.ref 43), some (.int a0), some (.int a1), some (.int v1210)]) (st' := [.int a1]) (w' := (hp u fL fD, c, z)) rfl ?_
            refine mg_Ev.br (P := a1 = 0) (t := 104) (nx := 108) (st' := []) rfl rfl rfl rfl (fun hc3398 => ?_) (fun hc3398 => ?_)
            · rw [if_pos hc3398] at h
              refine mg_Ev.go 2 (pc' := 109) (loc' := [some (.ref 43), some (.int a0), some (.int a1), some (.int v1210)]) (st' := [.int 5]) (w' := (hp u fL fD, c, z)) rfl ?_
              cases h
              exact mg_Ev.fin rfl rfl rfl
            · rw [if_neg hc3398] at h
              refine mg_Ev.go 1 (pc' := 109) (loc' := [some (.ref 43), some (.int a0), some (.int a1), some (.int v1210)]) (st' := [.int 0]) (w' := (hp u fL fD, c, z)) rfl ?_
              cases h
              exact mg_Ev.fin rfl rfl rfl
          · rw [if_neg hc3397] at h
            refine mg_Ev.go 2 (pc' := 109) (loc' := [some (.ref 43), some (.int a0), some (.int a1), some (.int v1210)]) (st' := [.int 4]) (w' := (hp u fL fD, c, z)) rfl ?_
            cases h
            exact mg_Ev.fin rfl rfl rfl
      · rw [if_neg hc3389] at h
        refine mg_Ev.go 1 (pc' := 54) (loc' := [some (.ref 43), some (.int a0), some (.int a1), some (.int v1210)]) (st' := [.int 2]) (w' := (hp u fL fD, c, z)) rfl ?_
        cases h
        exact mg_Ev.fin rfl rfl rfl

def M_claim (a0 : Int32) (u : mg_Rg) : Option (Int32 × mg_Rg) :=
  (M_isDecl a0 u).bind fun v1229 =>
  if v1229 = 0 then
  (M_fails 1 u).bind fun p1232 => match p1232 with
    | (v1230, u1231) =>
      some (v1230, u1231)
  else
  (M_declAt a0 5 u).bind fun v1233 =>
    (M_declAt a0 7 u).bind fun v1234 =>
    if v1234 = 0 then
    if v1233 = (-1) then
      (M_fails 2 u).bind fun p1237 => match p1237 with
        | (v1235, u1236) =>
          some (v1235, u1236)
      else
      (M_quotaAt v1233 6 u).bind fun v1238 =>
        (M_claims a0 v1238 u).bind fun v1239 =>
        (M_done v1239 u).bind fun p1242 => match p1242 with
        | (v1240, u1241) =>
          some (v1240, u1241)
    else
    (M_fails 2 u).bind fun p1245 => match p1245 with
      | (v1243, u1244) =>
        some (v1243, u1244)

set_option maxRecDepth 10000 in
set_option maxHeartbeats 4000000 in
theorem ev_M_claim {sc : mg_Sc} {c z : Nat} {fL : Nat → Int64} {fD : Nat → UInt64} {a0 : Int32} {u : mg_Rg} {p : Int32 × mg_Rg} (h : M_claim a0 u = some p) : mg_Ev sc 7 106 0 (mg_entry 106 [.ref 43, .int a0]) [] (hp u fL fD, c, z) (.inl (some (.int p.1)), (hp p.2 fL fD, c, z)) := by
  unfold M_claim at h
  show mg_Ev _ _ _ 0 [some (.ref 43), some (.int a0), none] [] _ _
  refine mg_Ev.go 2 (pc' := 2) (loc' := [some (.ref 43), some (.int a0), none]) (st' := [.int a0, .ref 43]) (w' := (hp u fL fD, c, z)) rfl ?_
  obtain ⟨v1229, hf3399, h⟩ := Option.bind_eq_some_iff.mp h
  refine mg_Ev.call (y := 101) (as := [.ref 43, .int a0]) (rest := []) (v := some (.int v1229)) (w1 := (hp u fL fD, c, z)) rfl rfl (Nat.le_of_ble_eq_true rfl) ((ev_M_isDecl hf3399).deep (by decide)) ?_
  refine mg_Ev.br (P := v1229 = 0) (t := 8) (nx := 14) (st' := []) rfl rfl rfl rfl (fun hc3400 => ?_) (fun hc3400 => ?_)
  · rw [if_pos hc3400] at h
    refine mg_Ev.go 2 (pc' := 10) (loc' := [some (.ref 43), some (.int a0), none]) (st' := [.int 1, .ref 43]) (w' := (hp u fL fD, c, z)) rfl ?_
    obtain ⟨⟨v1230, u1231⟩, hf3401, h⟩ := Option.bind_eq_some_iff.mp h
    try dsimp only at h
    refine mg_Ev.call (y := 59) (as := [.ref 43, .int 1]) (rest := []) (v := some (.int v1230)) (w1 := (hp u1231 fL fD, c, z)) rfl rfl (Nat.le_of_ble_eq_true rfl) ((ev_M_fails hf3401).deep (by decide)) ?_
    cases h
    exact mg_Ev.fin rfl rfl rfl
  · rw [if_neg hc3400] at h
    refine mg_Ev.go 3 (pc' := 17) (loc' := [some (.ref 43), some (.int a0), none]) (st' := [.int 5, .int a0, .ref 43]) (w' := (hp u fL fD, c, z)) rfl ?_
    obtain ⟨v1233, hf3402, h⟩ := Option.bind_eq_some_iff.mp h
    refine mg_Ev.call (y := 68) (as := [.ref 43, .int a0, .int 5]) (rest := []) (v := some (.int v1233)) (w1 := (hp u fL fD, c, z)) rfl rfl (Nat.le_of_ble_eq_true rfl) ((ev_M_declAt hf3402).deep (by decide)) ?_
    refine mg_Ev.go 4 (pc' := 25) (loc' := [some (.ref 43), some (.int a0), some (.int v1233)]) (st' := [.int 7, .int a0, .ref 43]) (w' := (hp u fL fD, c, z)) rfl ?_
    obtain ⟨v1234, hf3403, h⟩ := Option.bind_eq_some_iff.mp h
    refine mg_Ev.call (y := 68) (as := [.ref 43, .int a0, .int 7]) (rest := []) (v := some (.int v1234)) (w1 := (hp u fL fD, c, z)) rfl rfl (Nat.le_of_ble_eq_true rfl) ((ev_M_declAt hf3403).deep (by decide)) ?_
    refine mg_Ev.br (P := v1234 = 0) (t := 31) (nx := 36) (st' := []) rfl rfl rfl rfl (fun hc3404 => ?_) (fun hc3404 => ?_)
    · rw [if_pos hc3404] at h
      refine mg_Ev.go 2 (pc' := 33) (loc' := [some (.ref 43), some (.int a0), some (.int v1233)]) (st' := [.int (-1), .int v1233]) (w' := (hp u fL fD, c, z)) rfl ?_
      refine mg_Ev.br (P := v1233 = (-1)) (t := 36) (nx := 44) (st' := []) rfl rfl rfl rfl (fun hc3405 => ?_) (fun hc3405 => ?_)
      · rw [if_pos hc3405] at h
        refine mg_Ev.go 2 (pc' := 38) (loc' := [some (.ref 43), some (.int a0), some (.int v1233)]) (st' := [.int 2, .ref 43]) (w' := (hp u fL fD, c, z)) rfl ?_
        obtain ⟨⟨v1235, u1236⟩, hf3406, h⟩ := Option.bind_eq_some_iff.mp h
        try dsimp only at h
        refine mg_Ev.call (y := 59) (as := [.ref 43, .int 2]) (rest := []) (v := some (.int v1235)) (w1 := (hp u1236 fL fD, c, z)) rfl rfl (Nat.le_of_ble_eq_true rfl) ((ev_M_fails hf3406).deep (by decide)) ?_
        refine mg_Ev.go 1 (pc' := 60) (loc' := [some (.ref 43), some (.int a0), some (.int v1233)]) (st' := [.int v1235]) (w' := (hp u1236 fL fD, c, z)) rfl ?_
        cases h
        exact mg_Ev.fin rfl rfl rfl
      · rw [if_neg hc3405] at h
        refine mg_Ev.go 6 (pc' := 51) (loc' := [some (.ref 43), some (.int a0), some (.int v1233)]) (st' := [.int 6, .int v1233, .ref 43, .int a0, .ref 43, .ref 43]) (w' := (hp u fL fD, c, z)) rfl ?_
        obtain ⟨v1238, hf3407, h⟩ := Option.bind_eq_some_iff.mp h
        refine mg_Ev.call (y := 67) (as := [.ref 43, .int v1233, .int 6]) (rest := [.int a0, .ref 43, .ref 43]) (v := some (.int v1238)) (w1 := (hp u fL fD, c, z)) rfl rfl (Nat.le_of_ble_eq_true rfl) ((ev_M_quotaAt hf3407).deep (by decide)) ?_
        obtain ⟨v1239, hf3408, h⟩ := Option.bind_eq_some_iff.mp h
        refine mg_Ev.call (y := 105) (as := [.ref 43, .int a0, .int v1238]) (rest := [.ref 43]) (v := some (.int v1239)) (w1 := (hp u fL fD, c, z)) rfl rfl (Nat.le_of_ble_eq_true rfl) ((ev_M_claims hf3408).deep (by decide)) ?_
        obtain ⟨⟨v1240, u1241⟩, hf3409, h⟩ := Option.bind_eq_some_iff.mp h
        try dsimp only at h
        refine mg_Ev.call (y := 60) (as := [.ref 43, .int v1239]) (rest := []) (v := some (.int v1240)) (w1 := (hp u1241 fL fD, c, z)) rfl rfl (Nat.le_of_ble_eq_true rfl) ((ev_M_done hf3409).deep (by decide)) ?_
        cases h
        exact mg_Ev.fin rfl rfl rfl
    · rw [if_neg hc3404] at h
      refine mg_Ev.go 2 (pc' := 38) (loc' := [some (.ref 43), some (.int a0), some (.int v1233)]) (st' := [.int 2, .ref 43]) (w' := (hp u fL fD, c, z)) rfl ?_
      obtain ⟨⟨v1243, u1244⟩, hf3410, h⟩ := Option.bind_eq_some_iff.mp h
      try dsimp only at h
      refine mg_Ev.call (y := 59) (as := [.ref 43, .int 2]) (rest := []) (v := some (.int v1243)) (w1 := (hp u1244 fL fD, c, z)) rfl rfl (Nat.le_of_ble_eq_true rfl) ((ev_M_fails hf3410).deep (by decide)) ?_
      refine mg_Ev.go 1 (pc' := 60) (loc' := [some (.ref 43), some (.int a0), some (.int v1233)]) (st' := [.int v1243]) (w' := (hp u1244 fL fD, c, z)) rfl ?_
      cases h
      exact mg_Ev.fin rfl rfl rfl

def M_isGood (a0 : Int32) (a1 : Int32) (u : mg_Rg) : Option (Int32) :=
  (M_declAt a0 7 u).bind fun v1246 =>
  if v1246 = 0 then
  (M_declAt a0 5 u).bind fun v1247 =>
    if v1247 = a1 then
    (M_quotaAt a1 6 u).bind fun v1248 =>
      (M_claims a0 v1248 u).bind fun v1249 =>
      if v1249 = 0 then
      some 1
      else
      some 0
    else
    some 0
  else
  some 0

set_option maxRecDepth 10000 in
set_option maxHeartbeats 4000000 in
theorem ev_M_isGood {sc : mg_Sc} {c z : Nat} {fL : Nat → Int64} {fD : Nat → UInt64} {a0 : Int32} {a1 : Int32} {u : mg_Rg} {v : Int32} (h : M_isGood a0 a1 u = some v) : mg_Ev sc 7 107 0 (mg_entry 107 [.ref 43, .int a0, .int a1]) [] (hp u fL fD, c, z) (.inl (some (.int v)), (hp u fL fD, c, z)) := by
  unfold M_isGood at h
  show mg_Ev _ _ _ 0 [some (.ref 43), some (.int a0), some (.int a1)] [] _ _
  refine mg_Ev.go 3 (pc' := 4) (loc' := [some (.ref 43), some (.int a0), some (.int a1)]) (st' := [.int 7, .int a0, .ref 43]) (w' := (hp u fL fD, c, z)) rfl ?_
  obtain ⟨v1246, hf3411, h⟩ := Option.bind_eq_some_iff.mp h
  refine mg_Ev.call (y := 68) (as := [.ref 43, .int a0, .int 7]) (rest := []) (v := some (.int v1246)) (w1 := (hp u fL fD, c, z)) rfl rfl (Nat.le_of_ble_eq_true rfl) ((ev_M_declAt hf3411).deep (by decide)) ?_
  refine mg_Ev.br (P := v1246 = 0) (t := 10) (nx := 39) (st' := []) rfl rfl rfl rfl (fun hc3412 => ?_) (fun hc3412 => ?_)
  · rw [if_pos hc3412] at h
    refine mg_Ev.go 3 (pc' := 13) (loc' := [some (.ref 43), some (.int a0), some (.int a1)]) (st' := [.int 5, .int a0, .ref 43]) (w' := (hp u fL fD, c, z)) rfl ?_
    obtain ⟨v1247, hf3413, h⟩ := Option.bind_eq_some_iff.mp h
    refine mg_Ev.call (y := 68) (as := [.ref 43, .int a0, .int 5]) (rest := []) (v := some (.int v1247)) (w1 := (hp u fL fD, c, z)) rfl rfl (Nat.le_of_ble_eq_true rfl) ((ev_M_declAt hf3413).deep (by decide)) ?_
    refine mg_Ev.go 1 (pc' := 17) (loc' := [some (.ref 43), some (.int a0), some (.int a1)]) (st' := [.int a1, .int v1247]) (w' := (hp u fL fD, c, z)) rfl ?_
    refine mg_Ev.br (P := v1247 = a1) (t := 20) (nx := 39) (st' := []) rfl rfl rfl rfl (fun hc3414 => ?_) (fun hc3414 => ?_)
    · rw [if_pos hc3414] at h
      refine mg_Ev.go 5 (pc' := 26) (loc' := [some (.ref 43), some (.int a0), some (.int a1)]) (st' := [.int 6, .int a1, .ref 43, .int a0, .ref 43]) (w' := (hp u fL fD, c, z)) rfl ?_
      obtain ⟨v1248, hf3415, h⟩ := Option.bind_eq_some_iff.mp h
      refine mg_Ev.call (y := 67) (as := [.ref 43, .int a1, .int 6]) (rest := [.int a0, .ref 43]) (v := some (.int v1248)) (w1 := (hp u fL fD, c, z)) rfl rfl (Nat.le_of_ble_eq_true rfl) ((ev_M_quotaAt hf3415).deep (by decide)) ?_
      obtain ⟨v1249, hf3416, h⟩ := Option.bind_eq_some_iff.mp h
      refine mg_Ev.call (y := 105) (as := [.ref 43, .int a0, .int v1248]) (rest := []) (v := some (.int v1249)) (w1 := (hp u fL fD, c, z)) rfl rfl (Nat.le_of_ble_eq_true rfl) ((ev_M_claims hf3416).deep (by decide)) ?_
      refine mg_Ev.br (P := v1249 = 0) (t := 35) (nx := 39) (st' := []) rfl rfl rfl rfl (fun hc3417 => ?_) (fun hc3417 => ?_)
      · rw [if_pos hc3417] at h
        refine mg_Ev.go 2 (pc' := 40) (loc' := [some (.ref 43), some (.int a0), some (.int a1)]) (st' := [.int 1]) (w' := (hp u fL fD, c, z)) rfl ?_
        cases h
        exact mg_Ev.fin rfl rfl rfl
      · rw [if_neg hc3417] at h
        refine mg_Ev.go 1 (pc' := 40) (loc' := [some (.ref 43), some (.int a0), some (.int a1)]) (st' := [.int 0]) (w' := (hp u fL fD, c, z)) rfl ?_
        cases h
        exact mg_Ev.fin rfl rfl rfl
    · rw [if_neg hc3414] at h
      refine mg_Ev.go 1 (pc' := 40) (loc' := [some (.ref 43), some (.int a0), some (.int a1)]) (st' := [.int 0]) (w' := (hp u fL fD, c, z)) rfl ?_
      cases h
      exact mg_Ev.fin rfl rfl rfl
  · rw [if_neg hc3412] at h
    refine mg_Ev.go 1 (pc' := 40) (loc' := [some (.ref 43), some (.int a0), some (.int a1)]) (st' := [.int 0]) (w' := (hp u fL fD, c, z)) rfl ?_
    cases h
    exact mg_Ev.fin rfl rfl rfl

def M_serves_L13 : Nat → Int32 → Int32 → Int32 → Int32 → mg_Rg → Option (Int32 × mg_Rg)
  | 0, _, _, _, _, _ => none
  | n + 1, x1, x2, x3, x4, u =>
    if (u 43 5) ≤ x4 then
    some ((x3, u))
    else
    (M_isGood x4 x1 u).bind fun v1251 =>
      if v1251 = 0 then
      M_serves_L13 n x1 x2 (x3 + 0) (x4 + 1) u
      else
      (M_declAt x4 1 u).bind fun v1252 =>
        M_serves_L13 n x1 x2 (x3 + v1252) (x4 + 1) u
set_option maxRecDepth 10000 in
set_option maxHeartbeats 4000000 in
theorem ev_M_serves_L13 {sc : mg_Sc} {c z : Nat} {fL : Nat → Int64} {fD : Nat → UInt64} : ∀ (n : Nat) (x1 : Int32) (x2 : Int32) (x3 : Int32) (x4 : Int32) (u : mg_Rg) (res : Int32 × mg_Rg), M_serves_L13 n x1 x2 x3 x4 u = some res → ∀ r, (match res with | (y3, yu) => mg_Ev sc 8 108 54 [some (.ref 43), some (.int x1), some (.int x2), some (.int y3), none, none] [] (hp yu fL fD, c, z) r) → mg_Ev sc 8 108 13 [some (.ref 43), some (.int x1), some (.int x2), some (.int x3), some (.int x4), none] [] (hp u fL fD, c, z) r := by
  intro n
  induction n with
  | zero => intro x1 x2 x3 x4 u res h; cases h
  | succ n ih =>
    intro x1 x2 x3 x4 u res h r K
    unfold M_serves_L13 at h
    refine mg_Ev.go 4 (pc' := 20) (loc' := [some (.ref 43), some (.int x1), some (.int x2), some (.int x3), some (.int x4), none]) (st' := [.int 5, .ref 44, .int x4]) (w' := (hp u fL fD, c, z)) rfl ?_
    refine mg_Ev.iald (a := 43) (n := 690) (f := u 43) (j := 5) rfl (hpg_43 _ _ _) (by decide) (by decide) ?_
    refine mg_Ev.br (P := (u 43 5) ≤ x4) (t := 54) (nx := 24) (st' := []) rfl rfl rfl rfl (fun hc3418 => ?_) (fun hc3418 => ?_)
    · rw [if_pos hc3418] at h
      cases h
      exact mg_Ev.more (loc := [some (.ref 43), some (.int x1), some (.int x2), some (.int x3), none, none]) K ⟨rfl, ⟨rfl, ⟨rfl, ⟨rfl, trivial⟩⟩⟩⟩
    · rw [if_neg hc3418] at h
      refine mg_Ev.go 4 (pc' := 29) (loc' := [some (.ref 43), some (.int x1), some (.int x2), some (.int x3), some (.int x4), none]) (st' := [.int x1, .int x4, .ref 43, .int x3]) (w' := (hp u fL fD, c, z)) rfl ?_
      obtain ⟨v1251, hf3419, h⟩ := Option.bind_eq_some_iff.mp h
      refine mg_Ev.call (y := 107) (as := [.ref 43, .int x4, .int x1]) (rest := [.int x3]) (v := some (.int v1251)) (w1 := (hp u fL fD, c, z)) rfl rfl (Nat.le_of_ble_eq_true rfl) ((ev_M_isGood hf3419).deep (by decide)) ?_
      refine mg_Ev.br (P := v1251 = 0) (t := 45) (nx := 35) (st' := [.int x3]) rfl rfl rfl rfl (fun hc3420 => ?_) (fun hc3420 => ?_)
      · rw [if_pos hc3420] at h
        refine mg_Ev.go 5 (pc' := 13) (loc' := [some (.ref 43), some (.int x1), some (.int x2), some (.int (x3 + 0)), some (.int (x4 + 1)), none]) (st' := []) (w' := (hp u fL fD, c, z)) rfl ?_
        exact mg_Ev.more (loc := [some (.ref 43), some (.int x1), some (.int x2), some (.int (x3 + 0)), some (.int (x4 + 1)), none]) (ih _ _ _ _ _ _ h _ K) ⟨rfl, ⟨rfl, ⟨rfl, ⟨rfl, ⟨rfl, trivial⟩⟩⟩⟩⟩
      · rw [if_neg hc3420] at h
        refine mg_Ev.go 3 (pc' := 39) (loc' := [some (.ref 43), some (.int x1), some (.int x2), some (.int x3), some (.int x4), none]) (st' := [.int 1, .int x4, .ref 43, .int x3]) (w' := (hp u fL fD, c, z)) rfl ?_
        obtain ⟨v1252, hf3421, h⟩ := Option.bind_eq_some_iff.mp h
        refine mg_Ev.call (y := 68) (as := [.ref 43, .int x4, .int 1]) (rest := [.int x3]) (v := some (.int v1252)) (w1 := (hp u fL fD, c, z)) rfl rfl (Nat.le_of_ble_eq_true rfl) ((ev_M_declAt hf3421).deep (by decide)) ?_
        refine mg_Ev.go 5 (pc' := 13) (loc' := [some (.ref 43), some (.int x1), some (.int x2), some (.int (x3 + v1252)), some (.int (x4 + 1)), none]) (st' := []) (w' := (hp u fL fD, c, z)) rfl ?_
        exact mg_Ev.more (loc := [some (.ref 43), some (.int x1), some (.int x2), some (.int (x3 + v1252)), some (.int (x4 + 1)), none]) (ih _ _ _ _ _ _ h _ K) ⟨rfl, ⟨rfl, ⟨rfl, ⟨rfl, ⟨rfl, trivial⟩⟩⟩⟩⟩

def M_serves_L60 : Nat → Int32 → Int32 → Int32 → Int32 → Int32 → mg_Rg → Option (Int32 × mg_Rg)
  | 0, _, _, _, _, _, _ => none
  | n + 1, x1, x2, x3, x4, x5, u =>
    if (u 43 5) ≤ x5 then
    some ((x4, u))
    else
    (M_isGood x5 x1 u).bind fun v1255 =>
      if v1255 = 0 then
      M_serves_L60 n x1 x2 x3 x4 (x5 + 1) u
      else
      if x2 < x3 then
        (M_declAt x5 1 u).bind fun v1256 =>
          if x3 = 0 then none else
          if x5 < 0 ∨ 30 ≤ x5.toNatClampNeg then none else
          if x5 < 0 ∨ 30 ≤ x5.toNatClampNeg then none else
          M_serves_L60 n x1 x2 x3 (x4 - ((mg_up u 48 x5.toNatClampNeg ((v1256 * x2) / x3)) 48 x5.toNatClampNeg)) (x5 + 1) (mg_up u 48 x5.toNatClampNeg ((v1256 * x2) / x3))
        else
        (M_declAt x5 1 u).bind fun v1257 =>
          if x5 < 0 ∨ 30 ≤ x5.toNatClampNeg then none else
          if x5 < 0 ∨ 30 ≤ x5.toNatClampNeg then none else
          M_serves_L60 n x1 x2 x3 (x4 - ((mg_up u 48 x5.toNatClampNeg v1257) 48 x5.toNatClampNeg)) (x5 + 1) (mg_up u 48 x5.toNatClampNeg v1257)
set_option maxRecDepth 10000 in
set_option maxHeartbeats 4000000 in
theorem ev_M_serves_L60 {sc : mg_Sc} {c z : Nat} {fL : Nat → Int64} {fD : Nat → UInt64} : ∀ (n : Nat) (x1 : Int32) (x2 : Int32) (x3 : Int32) (x4 : Int32) (x5 : Int32) (u : mg_Rg) (res : Int32 × mg_Rg), M_serves_L60 n x1 x2 x3 x4 x5 u = some res → ∀ r, (match res with | (y4, yu) => mg_Ev sc 8 108 132 [some (.ref 43), some (.int x1), some (.int x2), some (.int x3), some (.int y4), none] [] (hp yu fL fD, c, z) r) → mg_Ev sc 8 108 60 [some (.ref 43), some (.int x1), some (.int x2), some (.int x3), some (.int x4), some (.int x5)] [] (hp u fL fD, c, z) r := by
  intro n
  induction n with
  | zero => intro x1 x2 x3 x4 x5 u res h; cases h
  | succ n ih =>
    intro x1 x2 x3 x4 x5 u res h r K
    unfold M_serves_L60 at h
    refine mg_Ev.go 4 (pc' := 67) (loc' := [some (.ref 43), some (.int x1), some (.int x2), some (.int x3), some (.int x4), some (.int x5)]) (st' := [.int 5, .ref 44, .int x5]) (w' := (hp u fL fD, c, z)) rfl ?_
    refine mg_Ev.iald (a := 43) (n := 690) (f := u 43) (j := 5) rfl (hpg_43 _ _ _) (by decide) (by decide) ?_
    refine mg_Ev.br (P := (u 43 5) ≤ x5) (t := 132) (nx := 71) (st' := []) rfl rfl rfl rfl (fun hc3422 => ?_) (fun hc3422 => ?_)
    · rw [if_pos hc3422] at h
      cases h
      exact mg_Ev.more (loc := [some (.ref 43), some (.int x1), some (.int x2), some (.int x3), some (.int x4), none]) K ⟨rfl, ⟨rfl, ⟨rfl, ⟨rfl, ⟨rfl, trivial⟩⟩⟩⟩⟩
    · rw [if_neg hc3422] at h
      refine mg_Ev.go 3 (pc' := 75) (loc' := [some (.ref 43), some (.int x1), some (.int x2), some (.int x3), some (.int x4), some (.int x5)]) (st' := [.int x1, .int x5, .ref 43]) (w' := (hp u fL fD, c, z)) rfl ?_
      obtain ⟨v1255, hf3423, h⟩ := Option.bind_eq_some_iff.mp h
      refine mg_Ev.call (y := 107) (as := [.ref 43, .int x5, .int x1]) (rest := []) (v := some (.int v1255)) (w1 := (hp u fL fD, c, z)) rfl rfl (Nat.le_of_ble_eq_true rfl) ((ev_M_isGood hf3423).deep (by decide)) ?_
      refine mg_Ev.br (P := v1255 = 0) (t := 126) (nx := 81) (st' := []) rfl rfl rfl rfl (fun hc3424 => ?_) (fun hc3424 => ?_)
      · rw [if_pos hc3424] at h
        refine mg_Ev.go 2 (pc' := 60) (loc' := [some (.ref 43), some (.int x1), some (.int x2), some (.int x3), some (.int x4), some (.int (x5 + 1))]) (st' := []) (w' := (hp u fL fD, c, z)) rfl ?_
        exact mg_Ev.more (loc := [some (.ref 43), some (.int x1), some (.int x2), some (.int x3), some (.int x4), some (.int (x5 + 1))]) (ih _ _ _ _ _ _ _ h _ K) ⟨rfl, ⟨rfl, ⟨rfl, ⟨rfl, ⟨rfl, ⟨rfl, trivial⟩⟩⟩⟩⟩⟩
      · rw [if_neg hc3424] at h
        refine mg_Ev.go 5 (pc' := 89) (loc' := [some (.ref 43), some (.int x1), some (.int x2), some (.int x3), some (.int x4), some (.int x5)]) (st' := [.int x2, .int x3, .int x5, .ref 49]) (w' := (hp u fL fD, c, z)) rfl ?_
        refine mg_Ev.br (P := x2 < x3) (t := 102) (nx := 92) (st' := [.int x5, .ref 49]) rfl rfl rfl rfl (fun hc3425 => ?_) (fun hc3425 => ?_)
        · rw [if_pos hc3425] at h
          refine mg_Ev.go 3 (pc' := 106) (loc' := [some (.ref 43), some (.int x1), some (.int x2), some (.int x3), some (.int x4), some (.int x5)]) (st' := [.int 1, .int x5, .ref 43, .int x5, .ref 49]) (w' := (hp u fL fD, c, z)) rfl ?_
          obtain ⟨v1256, hf3426, h⟩ := Option.bind_eq_some_iff.mp h
          refine mg_Ev.call (y := 68) (as := [.ref 43, .int x5, .int 1]) (rest := [.int x5, .ref 49]) (v := some (.int v1256)) (w1 := (hp u fL fD, c, z)) rfl rfl (Nat.le_of_ble_eq_true rfl) ((ev_M_declAt hf3426).deep (by decide)) ?_
          refine mg_Ev.go 3 (pc' := 112) (loc' := [some (.ref 43), some (.int x1), some (.int x2), some (.int x3), some (.int x4), some (.int x5)]) (st' := [.int x3, .int (v1256 * x2), .int x5, .ref 49]) (w' := (hp u fL fD, c, z)) rfl ?_
          by_cases hd3427 : x3 = 0
          · rw [if_pos hd3427] at h
            cases h
          · rw [if_neg hd3427] at h
            refine mg_Ev.idiv rfl hd3427 ?_
            by_cases hb3428 : x5 < 0 ∨ 30 ≤ x5.toNatClampNeg
            · rw [if_pos hb3428] at h
              cases h
            · rw [if_neg hb3428] at h
              refine mg_Ev.iast (a := 48) (n := 30) rfl (hpg_48 _ _ _) rfl hb3428 (hpa_48 _ _ _ _ _ _ _) ?_
              refine mg_Ev.go 4 (pc' := 122) (loc' := [some (.ref 43), some (.int x1), some (.int x2), some (.int x3), some (.int x4), some (.int x5)]) (st' := [.int x5, .ref 49, .int x4]) (w' := (hp (mg_up u 48 x5.toNatClampNeg ((v1256 * x2) / x3)) fL fD, c, z)) rfl ?_
              by_cases hb3429 : x5 < 0 ∨ 30 ≤ x5.toNatClampNeg
              · rw [if_pos hb3429] at h
                cases h
              · rw [if_neg hb3429] at h
                refine mg_Ev.iald (a := 48) (n := 30) (f := (mg_up u 48 x5.toNatClampNeg ((v1256 * x2) / x3)) 48) rfl (hpg_48 _ _ _) rfl hb3429 ?_
                refine mg_Ev.go 4 (pc' := 60) (loc' := [some (.ref 43), some (.int x1), some (.int x2), some (.int x3), some (.int (x4 - ((mg_up u 48 x5.toNatClampNeg ((v1256 * x2) / x3)) 48 x5.toNatClampNeg))), some (.int (x5 + 1))]) (st' := []) (w' := (hp (mg_up u 48 x5.toNatClampNeg ((v1256 * x2) / x3)) fL fD, c, z)) rfl ?_
                exact mg_Ev.more (loc := [some (.ref 43), some (.int x1), some (.int x2), some (.int x3), some (.int (x4 - ((mg_up u 48 x5.toNatClampNeg ((v1256 * x2) / x3)) 48 x5.toNatClampNeg))), some (.int (x5 + 1))]) (ih _ _ _ _ _ _ _ h _ K) ⟨rfl, ⟨rfl, ⟨rfl, ⟨rfl, ⟨rfl, ⟨rfl, trivial⟩⟩⟩⟩⟩⟩
        · rw [if_neg hc3425] at h
          refine mg_Ev.go 3 (pc' := 96) (loc' := [some (.ref 43), some (.int x1), some (.int x2), some (.int x3), some (.int x4), some (.int x5)]) (st' := [.int 1, .int x5, .ref 43, .int x5, .ref 49]) (w' := (hp u fL fD, c, z)) rfl ?_
          obtain ⟨v1257, hf3430, h⟩ := Option.bind_eq_some_iff.mp h
          refine mg_Ev.call (y := 68) (as := [.ref 43, .int x5, .int 1]) (rest := [.int x5, .ref 49]) (v := some (.int v1257)) (w1 := (hp u fL fD, c, z)) rfl rfl (Nat.le_of_ble_eq_true rfl) ((ev_M_declAt hf3430).deep (by decide)) ?_
          refine mg_Ev.go 1 (pc' := 113) (loc' := [some (.ref 43), some (.int x1), some (.int x2), some (.int x3), some (.int x4), some (.int x5)]) (st' := [.int v1257, .int x5, .ref 49]) (w' := (hp u fL fD, c, z)) rfl ?_
          by_cases hb3431 : x5 < 0 ∨ 30 ≤ x5.toNatClampNeg
          · rw [if_pos hb3431] at h
            cases h
          · rw [if_neg hb3431] at h
            refine mg_Ev.iast (a := 48) (n := 30) rfl (hpg_48 _ _ _) rfl hb3431 (hpa_48 _ _ _ _ _ _ _) ?_
            refine mg_Ev.go 4 (pc' := 122) (loc' := [some (.ref 43), some (.int x1), some (.int x2), some (.int x3), some (.int x4), some (.int x5)]) (st' := [.int x5, .ref 49, .int x4]) (w' := (hp (mg_up u 48 x5.toNatClampNeg v1257) fL fD, c, z)) rfl ?_
            by_cases hb3432 : x5 < 0 ∨ 30 ≤ x5.toNatClampNeg
            · rw [if_pos hb3432] at h
              cases h
            · rw [if_neg hb3432] at h
              refine mg_Ev.iald (a := 48) (n := 30) (f := (mg_up u 48 x5.toNatClampNeg v1257) 48) rfl (hpg_48 _ _ _) rfl hb3432 ?_
              refine mg_Ev.go 4 (pc' := 60) (loc' := [some (.ref 43), some (.int x1), some (.int x2), some (.int x3), some (.int (x4 - ((mg_up u 48 x5.toNatClampNeg v1257) 48 x5.toNatClampNeg))), some (.int (x5 + 1))]) (st' := []) (w' := (hp (mg_up u 48 x5.toNatClampNeg v1257) fL fD, c, z)) rfl ?_
              exact mg_Ev.more (loc := [some (.ref 43), some (.int x1), some (.int x2), some (.int x3), some (.int (x4 - ((mg_up u 48 x5.toNatClampNeg v1257) 48 x5.toNatClampNeg))), some (.int (x5 + 1))]) (ih _ _ _ _ _ _ _ h _ K) ⟨rfl, ⟨rfl, ⟨rfl, ⟨rfl, ⟨rfl, ⟨rfl, trivial⟩⟩⟩⟩⟩⟩

def M_serves_L135 : Nat → Int32 → Int32 → Int32 → Int32 → Int32 → mg_Rg → Option (Int32 × mg_Rg)
  | 0, _, _, _, _, _, _ => none
  | n + 1, x1, x2, x3, x4, x5, u =>
    if (u 43 5) ≤ x5 then
    some ((x4, u))
    else
    if x3 ≤ x2 then
      some ((x4, u))
      else
      (M_isGood x5 x1 u).bind fun v1260 =>
        if v1260 = 0 then
        M_serves_L135 n x1 x2 x3 x4 (x5 + 1) u
        else
        if x4 ≤ 0 then
          M_serves_L135 n x1 x2 x3 x4 (x5 + 1) u
          else
          if x5 < 0 ∨ 30 ≤ x5.toNatClampNeg then none else
            if x5 < 0 ∨ 30 ≤ x5.toNatClampNeg then none else
            M_serves_L135 n x1 x2 x3 (x4 + (-1)) (x5 + 1) (mg_up u 48 x5.toNatClampNeg ((u 48 x5.toNatClampNeg) + 1))
set_option maxRecDepth 10000 in
set_option maxHeartbeats 4000000 in
theorem ev_M_serves_L135 {sc : mg_Sc} {c z : Nat} {fL : Nat → Int64} {fD : Nat → UInt64} : ∀ (n : Nat) (x1 : Int32) (x2 : Int32) (x3 : Int32) (x4 : Int32) (x5 : Int32) (u : mg_Rg) (res : Int32 × mg_Rg), M_serves_L135 n x1 x2 x3 x4 x5 u = some res → ∀ r, (match res with | (y4, yu) => mg_Ev sc 8 108 186 [none, none, none, none, some (.int y4), none] [] (hp yu fL fD, c, z) r) → mg_Ev sc 8 108 135 [some (.ref 43), some (.int x1), some (.int x2), some (.int x3), some (.int x4), some (.int x5)] [] (hp u fL fD, c, z) r := by
  intro n
  induction n with
  | zero => intro x1 x2 x3 x4 x5 u res h; cases h
  | succ n ih =>
    intro x1 x2 x3 x4 x5 u res h r K
    unfold M_serves_L135 at h
    refine mg_Ev.go 4 (pc' := 142) (loc' := [some (.ref 43), some (.int x1), some (.int x2), some (.int x3), some (.int x4), some (.int x5)]) (st' := [.int 5, .ref 44, .int x5]) (w' := (hp u fL fD, c, z)) rfl ?_
    refine mg_Ev.iald (a := 43) (n := 690) (f := u 43) (j := 5) rfl (hpg_43 _ _ _) (by decide) (by decide) ?_
    refine mg_Ev.br (P := (u 43 5) ≤ x5) (t := 186) (nx := 146) (st' := []) rfl rfl rfl rfl (fun hc3433 => ?_) (fun hc3433 => ?_)
    · rw [if_pos hc3433] at h
      cases h
      exact mg_Ev.more (loc := [none, none, none, none, some (.int x4), none]) K ⟨rfl, trivial⟩
    · rw [if_neg hc3433] at h
      refine mg_Ev.go 2 (pc' := 148) (loc' := [some (.ref 43), some (.int x1), some (.int x2), some (.int x3), some (.int x4), some (.int x5)]) (st' := [.int x2, .int x3]) (w' := (hp u fL fD, c, z)) rfl ?_
      refine mg_Ev.br (P := x3 ≤ x2) (t := 186) (nx := 151) (st' := []) rfl rfl rfl rfl (fun hc3434 => ?_) (fun hc3434 => ?_)
      · rw [if_pos hc3434] at h
        cases h
        exact mg_Ev.more (loc := [none, none, none, none, some (.int x4), none]) K ⟨rfl, trivial⟩
      · rw [if_neg hc3434] at h
        refine mg_Ev.go 3 (pc' := 155) (loc' := [some (.ref 43), some (.int x1), some (.int x2), some (.int x3), some (.int x4), some (.int x5)]) (st' := [.int x1, .int x5, .ref 43]) (w' := (hp u fL fD, c, z)) rfl ?_
        obtain ⟨v1260, hf3435, h⟩ := Option.bind_eq_some_iff.mp h
        refine mg_Ev.call (y := 107) (as := [.ref 43, .int x5, .int x1]) (rest := []) (v := some (.int v1260)) (w1 := (hp u fL fD, c, z)) rfl rfl (Nat.le_of_ble_eq_true rfl) ((ev_M_isGood hf3435).deep (by decide)) ?_
        refine mg_Ev.br (P := v1260 = 0) (t := 180) (nx := 161) (st' := []) rfl rfl rfl rfl (fun hc3436 => ?_) (fun hc3436 => ?_)
        · rw [if_pos hc3436] at h
          refine mg_Ev.go 2 (pc' := 135) (loc' := [some (.ref 43), some (.int x1), some (.int x2), some (.int x3), some (.int x4), some (.int (x5 + 1))]) (st' := []) (w' := (hp u fL fD, c, z)) rfl ?_
          exact mg_Ev.more (loc := [some (.ref 43), some (.int x1), some (.int x2), some (.int x3), some (.int x4), some (.int (x5 + 1))]) (ih _ _ _ _ _ _ _ h _ K) ⟨rfl, ⟨rfl, ⟨rfl, ⟨rfl, ⟨rfl, ⟨rfl, trivial⟩⟩⟩⟩⟩⟩
        · rw [if_neg hc3436] at h
          refine mg_Ev.go 1 (pc' := 163) (loc' := [some (.ref 43), some (.int x1), some (.int x2), some (.int x3), some (.int x4), some (.int x5)]) (st' := [.int x4]) (w' := (hp u fL fD, c, z)) rfl ?_
          refine mg_Ev.br (P := x4 ≤ 0) (t := 180) (nx := 166) (st' := []) rfl rfl rfl rfl (fun hc3437 => ?_) (fun hc3437 => ?_)
          · rw [if_pos hc3437] at h
            refine mg_Ev.go 2 (pc' := 135) (loc' := [some (.ref 43), some (.int x1), some (.int x2), some (.int x3), some (.int x4), some (.int (x5 + 1))]) (st' := []) (w' := (hp u fL fD, c, z)) rfl ?_
            exact mg_Ev.more (loc := [some (.ref 43), some (.int x1), some (.int x2), some (.int x3), some (.int x4), some (.int (x5 + 1))]) (ih _ _ _ _ _ _ _ h _ K) ⟨rfl, ⟨rfl, ⟨rfl, ⟨rfl, ⟨rfl, ⟨rfl, trivial⟩⟩⟩⟩⟩⟩
          · rw [if_neg hc3437] at h
            refine mg_Ev.go 4 (pc' := 173) (loc' := [some (.ref 43), some (.int x1), some (.int x2), some (.int x3), some (.int x4), some (.int x5)]) (st' := [.int x5, .ref 49, .int x5, .ref 49]) (w' := (hp u fL fD, c, z)) rfl ?_
            by_cases hb3438 : x5 < 0 ∨ 30 ≤ x5.toNatClampNeg
            · rw [if_pos hb3438] at h
              cases h
            · rw [if_neg hb3438] at h
              refine mg_Ev.iald (a := 48) (n := 30) (f := u 48) rfl (hpg_48 _ _ _) rfl hb3438 ?_
              refine mg_Ev.go 2 (pc' := 176) (loc' := [some (.ref 43), some (.int x1), some (.int x2), some (.int x3), some (.int x4), some (.int x5)]) (st' := [.int ((u 48 x5.toNatClampNeg) + 1), .int x5, .ref 49]) (w' := (hp u fL fD, c, z)) rfl ?_
              by_cases hb3439 : x5 < 0 ∨ 30 ≤ x5.toNatClampNeg
              · rw [if_pos hb3439] at h
                cases h
              · rw [if_neg hb3439] at h
                refine mg_Ev.iast (a := 48) (n := 30) rfl (hpg_48 _ _ _) rfl hb3439 (hpa_48 _ _ _ _ _ _ _) ?_
                refine mg_Ev.go 3 (pc' := 135) (loc' := [some (.ref 43), some (.int x1), some (.int x2), some (.int x3), some (.int (x4 + (-1))), some (.int (x5 + 1))]) (st' := []) (w' := (hp (mg_up u 48 x5.toNatClampNeg ((u 48 x5.toNatClampNeg) + 1)) fL fD, c, z)) rfl ?_
                exact mg_Ev.more (loc := [some (.ref 43), some (.int x1), some (.int x2), some (.int x3), some (.int (x4 + (-1))), some (.int (x5 + 1))]) (ih _ _ _ _ _ _ _ h _ K) ⟨rfl, ⟨rfl, ⟨rfl, ⟨rfl, ⟨rfl, ⟨rfl, trivial⟩⟩⟩⟩⟩⟩

def M_serves (a0 : Int32) (u : mg_Rg) : Option (Int32 × mg_Rg) :=
  (M_quotaAt a0 6 u).bind fun v1250 =>
  (M_serves_L13 mg_F a0 v1250 0 0 u).bind fun q3440 => match q3440 with
  | (x1253, u1254) =>
    (M_serves_L60 mg_F a0 v1250 x1253 v1250 0 u1254).bind fun q3441 => match q3441 with
    | (x1258, u1259) =>
      (M_serves_L135 mg_F a0 v1250 x1253 x1258 0 u1259).bind fun q3442 => match q3442 with
      | (x1261, u1262) =>
        some (x1261, u1262)

set_option maxRecDepth 10000 in
set_option maxHeartbeats 4000000 in
theorem ev_M_serves {sc : mg_Sc} {c z : Nat} {fL : Nat → Int64} {fD : Nat → UInt64} {a0 : Int32} {u : mg_Rg} {p : Int32 × mg_Rg} (h : M_serves a0 u = some p) : mg_Ev sc 8 108 0 (mg_entry 108 [.ref 43, .int a0]) [] (hp u fL fD, c, z) (.inl (some (.int p.1)), (hp p.2 fL fD, c, z)) := by
  unfold M_serves at h
  show mg_Ev _ _ _ 0 [some (.ref 43), some (.int a0), none, none, none, none] [] _ _
  refine mg_Ev.go 3 (pc' := 4) (loc' := [some (.ref 43), some (.int a0), none, none, none, none]) (st' := [.int 6, .int a0, .ref 43]) (w' := (hp u fL fD, c, z)) rfl ?_
  obtain ⟨v1250, hf3443, h⟩ := Option.bind_eq_some_iff.mp h
  refine mg_Ev.call (y := 67) (as := [.ref 43, .int a0, .int 6]) (rest := []) (v := some (.int v1250)) (w1 := (hp u fL fD, c, z)) rfl rfl (Nat.le_of_ble_eq_true rfl) ((ev_M_quotaAt hf3443).deep (by decide)) ?_
  refine mg_Ev.go 5 (pc' := 13) (loc' := [some (.ref 43), some (.int a0), some (.int v1250), some (.int 0), some (.int 0), none]) (st' := []) (w' := (hp u fL fD, c, z)) rfl ?_
  obtain ⟨⟨x1253, u1254⟩, hl3444, h⟩ := Option.bind_eq_some_iff.mp h
  try dsimp only at h
  refine mg_Ev.more (loc := [some (.ref 43), some (.int a0), some (.int v1250), some (.int 0), some (.int 0), none]) (ev_M_serves_L13 _ _ _ _ _ _ _ hl3444 _ ?_) ⟨rfl, ⟨rfl, ⟨rfl, ⟨rfl, ⟨rfl, trivial⟩⟩⟩⟩⟩
  show mg_Ev _ _ _ 54 [some (.ref 43), some (.int a0), some (.int v1250), some (.int x1253), none, none] [] (hp u1254 fL fD, c, z) _
  refine mg_Ev.go 4 (pc' := 60) (loc' := [some (.ref 43), some (.int a0), some (.int v1250), some (.int x1253), some (.int v1250), some (.int 0)]) (st' := []) (w' := (hp u1254 fL fD, c, z)) rfl ?_
  obtain ⟨⟨x1258, u1259⟩, hl3445, h⟩ := Option.bind_eq_some_iff.mp h
  try dsimp only at h
  refine mg_Ev.more (loc := [some (.ref 43), some (.int a0), some (.int v1250), some (.int x1253), some (.int v1250), some (.int 0)]) (ev_M_serves_L60 _ _ _ _ _ _ _ _ hl3445 _ ?_) ⟨rfl, ⟨rfl, ⟨rfl, ⟨rfl, ⟨rfl, ⟨rfl, trivial⟩⟩⟩⟩⟩⟩
  show mg_Ev _ _ _ 132 [some (.ref 43), some (.int a0), some (.int v1250), some (.int x1253), some (.int x1258), none] [] (hp u1259 fL fD, c, z) _
  refine mg_Ev.go 2 (pc' := 135) (loc' := [some (.ref 43), some (.int a0), some (.int v1250), some (.int x1253), some (.int x1258), some (.int 0)]) (st' := []) (w' := (hp u1259 fL fD, c, z)) rfl ?_
  obtain ⟨⟨x1261, u1262⟩, hl3446, h⟩ := Option.bind_eq_some_iff.mp h
  try dsimp only at h
  refine mg_Ev.more (loc := [some (.ref 43), some (.int a0), some (.int v1250), some (.int x1253), some (.int x1258), some (.int 0)]) (ev_M_serves_L135 _ _ _ _ _ _ _ _ hl3446 _ ?_) ⟨rfl, ⟨rfl, ⟨rfl, ⟨rfl, ⟨rfl, ⟨rfl, trivial⟩⟩⟩⟩⟩⟩
  show mg_Ev _ _ _ 186 [none, none, none, none, some (.int x1261), none] [] (hp u1262 fL fD, c, z) _
  refine mg_Ev.go 1 (pc' := 188) (loc' := [none, none, none, none, some (.int x1261), none]) (st' := [.int x1261]) (w' := (hp u1262 fL fD, c, z)) rfl ?_
  cases h
  exact mg_Ev.fin rfl rfl rfl

def M_leftThen (a0 : Int32) (u : mg_Rg) : Option (Int32 × mg_Rg) :=
  (M_in a0 0 ((u 43 4) - 1) u).bind fun v1263 =>
  if v1263 = 0 then
  (M_fails 1 u).bind fun p1266 => match p1266 with
    | (v1264, u1265) =>
      some (v1264, u1265)
  else
  (M_serves a0 u).bind fun p1269 => match p1269 with
    | (v1267, u1268) =>
      (M_done v1267 u1268).bind fun p1272 => match p1272 with
      | (v1270, u1271) =>
        some (v1270, u1271)

set_option maxRecDepth 10000 in
set_option maxHeartbeats 4000000 in
theorem ev_M_leftThen {sc : mg_Sc} {c z : Nat} {fL : Nat → Int64} {fD : Nat → UInt64} {a0 : Int32} {u : mg_Rg} {p : Int32 × mg_Rg} (h : M_leftThen a0 u = some p) : mg_Ev sc 9 109 0 (mg_entry 109 [.ref 43, .int a0]) [] (hp u fL fD, c, z) (.inl (some (.int p.1)), (hp p.2 fL fD, c, z)) := by
  unfold M_leftThen at h
  show mg_Ev _ _ _ 0 [some (.ref 43), some (.int a0)] [] _ _
  refine mg_Ev.go 5 (pc' := 7) (loc' := [some (.ref 43), some (.int a0)]) (st' := [.int 4, .ref 44, .int 0, .int a0]) (w' := (hp u fL fD, c, z)) rfl ?_
  refine mg_Ev.iald (a := 43) (n := 690) (f := u 43) (j := 4) rfl (hpg_43 _ _ _) (by decide) (by decide) ?_
  refine mg_Ev.go 2 (pc' := 10) (loc' := [some (.ref 43), some (.int a0)]) (st' := [.int ((u 43 4) - 1), .int 0, .int a0]) (w' := (hp u fL fD, c, z)) rfl ?_
  obtain ⟨v1263, hf3447, h⟩ := Option.bind_eq_some_iff.mp h
  refine mg_Ev.call (y := 58) (as := [.int a0, .int 0, .int ((u 43 4) - 1)]) (rest := []) (v := some (.int v1263)) (w1 := (hp u fL fD, c, z)) rfl rfl (Nat.le_of_ble_eq_true rfl) ((ev_M_in hf3447).deep (by decide)) ?_
  refine mg_Ev.br (P := v1263 = 0) (t := 28) (nx := 16) (st' := []) rfl rfl rfl rfl (fun hc3448 => ?_) (fun hc3448 => ?_)
  · rw [if_pos hc3448] at h
    refine mg_Ev.go 2 (pc' := 30) (loc' := [some (.ref 43), some (.int a0)]) (st' := [.int 1, .ref 43]) (w' := (hp u fL fD, c, z)) rfl ?_
    obtain ⟨⟨v1264, u1265⟩, hf3449, h⟩ := Option.bind_eq_some_iff.mp h
    try dsimp only at h
    refine mg_Ev.call (y := 59) (as := [.ref 43, .int 1]) (rest := []) (v := some (.int v1264)) (w1 := (hp u1265 fL fD, c, z)) rfl rfl (Nat.le_of_ble_eq_true rfl) ((ev_M_fails hf3449).deep (by decide)) ?_
    cases h
    exact mg_Ev.fin rfl rfl rfl
  · rw [if_neg hc3448] at h
    refine mg_Ev.go 3 (pc' := 19) (loc' := [some (.ref 43), some (.int a0)]) (st' := [.int a0, .ref 43, .ref 43]) (w' := (hp u fL fD, c, z)) rfl ?_
    obtain ⟨⟨v1267, u1268⟩, hf3450, h⟩ := Option.bind_eq_some_iff.mp h
    try dsimp only at h
    refine mg_Ev.call (y := 108) (as := [.ref 43, .int a0]) (rest := [.ref 43]) (v := some (.int v1267)) (w1 := (hp u1268 fL fD, c, z)) rfl rfl (Nat.le_of_ble_eq_true rfl) ((ev_M_serves hf3450).deep (by decide)) ?_
    obtain ⟨⟨v1270, u1271⟩, hf3451, h⟩ := Option.bind_eq_some_iff.mp h
    try dsimp only at h
    refine mg_Ev.call (y := 60) (as := [.ref 43, .int v1267]) (rest := []) (v := some (.int v1270)) (w1 := (hp u1271 fL fD, c, z)) rfl rfl (Nat.le_of_ble_eq_true rfl) ((ev_M_done hf3451).deep (by decide)) ?_
    refine mg_Ev.go 1 (pc' := 33) (loc' := [some (.ref 43), some (.int a0)]) (st' := [.int v1270]) (w' := (hp u1271 fL fD, c, z)) rfl ?_
    cases h
    exact mg_Ev.fin rfl rfl rfl

def M_inQuota (a0 : Int32) (u : mg_Rg) : Option (Int32) :=
  (M_declAt a0 2 u).bind fun v1273 =>
  (M_declAt a0 8 u).bind fun v1274 =>
  (M_declAt a0 1 u).bind fun v1275 =>
  if v1275 = 0 then none else
  some ((v1273 * v1274) / v1275)

set_option maxRecDepth 10000 in
set_option maxHeartbeats 4000000 in
theorem ev_M_inQuota {sc : mg_Sc} {c z : Nat} {fL : Nat → Int64} {fD : Nat → UInt64} {a0 : Int32} {u : mg_Rg} {v : Int32} (h : M_inQuota a0 u = some v) : mg_Ev sc 1 110 0 (mg_entry 110 [.ref 43, .int a0]) [] (hp u fL fD, c, z) (.inl (some (.int v)), (hp u fL fD, c, z)) := by
  unfold M_inQuota at h
  show mg_Ev _ _ _ 0 [some (.ref 43), some (.int a0)] [] _ _
  refine mg_Ev.go 3 (pc' := 3) (loc' := [some (.ref 43), some (.int a0)]) (st' := [.int 2, .int a0, .ref 43]) (w' := (hp u fL fD, c, z)) rfl ?_
  obtain ⟨v1273, hf3452, h⟩ := Option.bind_eq_some_iff.mp h
  refine mg_Ev.call (y := 68) (as := [.ref 43, .int a0, .int 2]) (rest := []) (v := some (.int v1273)) (w1 := (hp u fL fD, c, z)) rfl rfl (Nat.le_of_ble_eq_true rfl) ((ev_M_declAt hf3452).deep (by decide)) ?_
  refine mg_Ev.go 3 (pc' := 10) (loc' := [some (.ref 43), some (.int a0)]) (st' := [.int 8, .int a0, .ref 43, .int v1273]) (w' := (hp u fL fD, c, z)) rfl ?_
  obtain ⟨v1274, hf3453, h⟩ := Option.bind_eq_some_iff.mp h
  refine mg_Ev.call (y := 68) (as := [.ref 43, .int a0, .int 8]) (rest := [.int v1273]) (v := some (.int v1274)) (w1 := (hp u fL fD, c, z)) rfl rfl (Nat.le_of_ble_eq_true rfl) ((ev_M_declAt hf3453).deep (by decide)) ?_
  refine mg_Ev.go 4 (pc' := 17) (loc' := [some (.ref 43), some (.int a0)]) (st' := [.int 1, .int a0, .ref 43, .int (v1273 * v1274)]) (w' := (hp u fL fD, c, z)) rfl ?_
  obtain ⟨v1275, hf3454, h⟩ := Option.bind_eq_some_iff.mp h
  refine mg_Ev.call (y := 68) (as := [.ref 43, .int a0, .int 1]) (rest := [.int (v1273 * v1274)]) (v := some (.int v1275)) (w1 := (hp u fL fD, c, z)) rfl rfl (Nat.le_of_ble_eq_true rfl) ((ev_M_declAt hf3454).deep (by decide)) ?_
  by_cases hd3455 : v1275 = 0
  · rw [if_pos hd3455] at h
    cases h
  · rw [if_neg hd3455] at h
    refine mg_Ev.idiv rfl hd3455 ?_
    cases h
    exact mg_Ev.fin rfl rfl rfl

