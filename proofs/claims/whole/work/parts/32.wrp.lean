set_option maxRecDepth 10000 in
set_option maxHeartbeats 4000000 in
theorem ev_W_heading_ok {sc : mg_Sc} {c z : Nat} {fL : Nat → Int64} {fD : Nat → UInt64} {a0 : Int32} {a1 : Int32} {u u1 : mg_Rg} {v : Int32} (h : C_heading a0 a1 u = some (.inl v, u1)) : mg_Ev sc 7 224 0 (mg_entry 224 [.ref 1, .int a0, .int a1, .ref 51]) [] (hp u fL fD, c, z) (.inl (some (.int 0)), (hp u1 (vp_updL fL 0 v.toInt64) fD, c, z)) := by
  show mg_Ev _ _ _ 0 [some (.ref 1), some (.int a0), some (.int a1), some (.ref 51), none] [] _ _
  refine mg_Ev.go 5 (pc' := 5) (loc' := [some (.ref 1), some (.int a0), some (.int a1), some (.ref 51), none]) (st' := [.int a1, .int a0, .ref 1, .int 0, .ref 51]) (w' := (hp u fL fD, c, z)) rfl ?_
  refine mg_Ev.call (y := 1) (as := [.ref 1, .int a0, .int a1]) (rest := [.int 0, .ref 51]) (v := some (.int v)) (w1 := (hp u1 fL fD, c, z)) rfl rfl (Nat.le_of_ble_eq_true rfl) ((ev_C_heading h).deep (by decide)) ?_
  refine mg_Ev.go 1 (pc' := 9) (loc' := [some (.ref 1), some (.int a0), some (.int a1), some (.ref 51), none]) (st' := [.long v.toInt64, .int 0, .ref 51]) (w' := (hp u1 fL fD, c, z)) rfl ?_
  refine mg_Ev.last (a := 50) (n := 1) (j := 0) rfl (hpg_50 _ _ _) (by decide) (by decide) (hpa_50 _ _ _ _ _ _ _) ?_
  refine mg_Ev.go 2 (pc' := 26) (loc' := [some (.ref 1), some (.int a0), some (.int a1), some (.ref 51), none]) (st' := [.int 0]) (w' := (hp u1 (vp_updL fL 0 v.toInt64) fD, c, z)) rfl ?_
  exact mg_Ev.fin rfl rfl rfl
set_option maxRecDepth 10000 in
set_option maxHeartbeats 4000000 in
theorem ev_W_heading_x0 {sc : mg_Sc} {c z : Nat} {fL : Nat → Int64} {fD : Nat → UInt64} {a0 : Int32} {a1 : Int32} {u u1 : mg_Rg} (h : C_heading a0 a1 u = some (.inr 0, u1)) : mg_Ev sc 7 224 0 (mg_entry 224 [.ref 1, .int a0, .int a1, .ref 51]) [] (hp u fL fD, c, z) (.inl (some (.int 1)), (hp u1 fL fD, c + 1, z + 6)) := by
  show mg_Ev _ _ _ 0 [some (.ref 1), some (.int a0), some (.int a1), some (.ref 51), none] [] _ _
  refine mg_Ev.go 5 (pc' := 5) (loc' := [some (.ref 1), some (.int a0), some (.int a1), some (.ref 51), none]) (st' := [.int a1, .int a0, .ref 1, .int 0, .ref 51]) (w' := (hp u fL fD, c, z)) rfl ?_
  refine mg_Ev.callH (y := 1) (as := [.ref 1, .int a0, .int a1]) (rest := [.int 0, .ref 51]) (i := 4) (pc' := 15) rfl rfl (Nat.le_of_ble_eq_true rfl) ((ev_C_heading h).deep (by decide)) rfl ?_
  refine mg_Ev.go 1 (pc' := 16) (loc' := [some (.ref 1), some (.int a0), some (.int a1), some (.ref 51), none]) (st' := [.int 1]) (w' := (hp u1 fL fD, c + 1, z + 6)) rfl ?_
  exact mg_Ev.fin rfl rfl rfl
set_option maxRecDepth 10000 in
set_option maxHeartbeats 4000000 in
theorem ev_W_heading_x1 {sc : mg_Sc} {c z : Nat} {fL : Nat → Int64} {fD : Nat → UInt64} {a0 : Int32} {a1 : Int32} {u u1 : mg_Rg} (h : C_heading a0 a1 u = some (.inr 1, u1)) : mg_Ev sc 7 224 0 (mg_entry 224 [.ref 1, .int a0, .int a1, .ref 51]) [] (hp u fL fD, c, z) (.inl (some (.int 2)), (hp u1 fL fD, c + 1, z + 6)) := by
  show mg_Ev _ _ _ 0 [some (.ref 1), some (.int a0), some (.int a1), some (.ref 51), none] [] _ _
  refine mg_Ev.go 5 (pc' := 5) (loc' := [some (.ref 1), some (.int a0), some (.int a1), some (.ref 51), none]) (st' := [.int a1, .int a0, .ref 1, .int 0, .ref 51]) (w' := (hp u fL fD, c, z)) rfl ?_
  refine mg_Ev.callH (y := 1) (as := [.ref 1, .int a0, .int a1]) (rest := [.int 0, .ref 51]) (i := 4) (pc' := 19) rfl rfl (Nat.le_of_ble_eq_true rfl) ((ev_C_heading h).deep (by decide)) rfl ?_
  refine mg_Ev.go 1 (pc' := 20) (loc' := [some (.ref 1), some (.int a0), some (.int a1), some (.ref 51), none]) (st' := [.int 2]) (w' := (hp u1 fL fD, c + 1, z + 6)) rfl ?_
  exact mg_Ev.fin rfl rfl rfl
set_option maxRecDepth 10000 in
set_option maxHeartbeats 4000000 in
theorem ev_W_heading_x2 {sc : mg_Sc} {c z : Nat} {fL : Nat → Int64} {fD : Nat → UInt64} {a0 : Int32} {a1 : Int32} {u u1 : mg_Rg} (h : C_heading a0 a1 u = some (.inr 2, u1)) : mg_Ev sc 7 224 0 (mg_entry 224 [.ref 1, .int a0, .int a1, .ref 51]) [] (hp u fL fD, c, z) (.inl (some (.int 3)), (hp u1 fL fD, c + 1, z + 6)) := by
  show mg_Ev _ _ _ 0 [some (.ref 1), some (.int a0), some (.int a1), some (.ref 51), none] [] _ _
  refine mg_Ev.go 5 (pc' := 5) (loc' := [some (.ref 1), some (.int a0), some (.int a1), some (.ref 51), none]) (st' := [.int a1, .int a0, .ref 1, .int 0, .ref 51]) (w' := (hp u fL fD, c, z)) rfl ?_
  refine mg_Ev.callH (y := 1) (as := [.ref 1, .int a0, .int a1]) (rest := [.int 0, .ref 51]) (i := 4) (pc' := 23) rfl rfl (Nat.le_of_ble_eq_true rfl) ((ev_C_heading h).deep (by decide)) rfl ?_
  refine mg_Ev.go 1 (pc' := 24) (loc' := [some (.ref 1), some (.int a0), some (.int a1), some (.ref 51), none]) (st' := [.int 3]) (w' := (hp u1 fL fD, c + 1, z + 6)) rfl ?_
  exact mg_Ev.fin rfl rfl rfl
set_option maxRecDepth 10000 in
set_option maxHeartbeats 4000000 in
theorem ev_W_rate_ok {sc : mg_Sc} {c z : Nat} {fL : Nat → Int64} {fD : Nat → UInt64} {a0 : Int32} {a1 : Int32} {u u1 : mg_Rg} {v : Int32} (h : C_rate a0 a1 u = some (.inl v, u1)) : mg_Ev sc 7 225 0 (mg_entry 225 [.ref 1, .int a0, .int a1, .ref 51]) [] (hp u fL fD, c, z) (.inl (some (.int 0)), (hp u1 (vp_updL fL 0 v.toInt64) fD, c, z)) := by
  show mg_Ev _ _ _ 0 [some (.ref 1), some (.int a0), some (.int a1), some (.ref 51), none] [] _ _
  refine mg_Ev.go 5 (pc' := 5) (loc' := [some (.ref 1), some (.int a0), some (.int a1), some (.ref 51), none]) (st' := [.int a1, .int a0, .ref 1, .int 0, .ref 51]) (w' := (hp u fL fD, c, z)) rfl ?_
  refine mg_Ev.call (y := 2) (as := [.ref 1, .int a0, .int a1]) (rest := [.int 0, .ref 51]) (v := some (.int v)) (w1 := (hp u1 fL fD, c, z)) rfl rfl (Nat.le_of_ble_eq_true rfl) ((ev_C_rate h).deep (by decide)) ?_
  refine mg_Ev.go 1 (pc' := 9) (loc' := [some (.ref 1), some (.int a0), some (.int a1), some (.ref 51), none]) (st' := [.long v.toInt64, .int 0, .ref 51]) (w' := (hp u1 fL fD, c, z)) rfl ?_
  refine mg_Ev.last (a := 50) (n := 1) (j := 0) rfl (hpg_50 _ _ _) (by decide) (by decide) (hpa_50 _ _ _ _ _ _ _) ?_
  refine mg_Ev.go 2 (pc' := 22) (loc' := [some (.ref 1), some (.int a0), some (.int a1), some (.ref 51), none]) (st' := [.int 0]) (w' := (hp u1 (vp_updL fL 0 v.toInt64) fD, c, z)) rfl ?_
  exact mg_Ev.fin rfl rfl rfl
set_option maxRecDepth 10000 in
set_option maxHeartbeats 4000000 in
theorem ev_W_rate_x0 {sc : mg_Sc} {c z : Nat} {fL : Nat → Int64} {fD : Nat → UInt64} {a0 : Int32} {a1 : Int32} {u u1 : mg_Rg} (h : C_rate a0 a1 u = some (.inr 0, u1)) : mg_Ev sc 7 225 0 (mg_entry 225 [.ref 1, .int a0, .int a1, .ref 51]) [] (hp u fL fD, c, z) (.inl (some (.int 1)), (hp u1 fL fD, c + 1, z + 6)) := by
  show mg_Ev _ _ _ 0 [some (.ref 1), some (.int a0), some (.int a1), some (.ref 51), none] [] _ _
  refine mg_Ev.go 5 (pc' := 5) (loc' := [some (.ref 1), some (.int a0), some (.int a1), some (.ref 51), none]) (st' := [.int a1, .int a0, .ref 1, .int 0, .ref 51]) (w' := (hp u fL fD, c, z)) rfl ?_
  refine mg_Ev.callH (y := 2) (as := [.ref 1, .int a0, .int a1]) (rest := [.int 0, .ref 51]) (i := 4) (pc' := 15) rfl rfl (Nat.le_of_ble_eq_true rfl) ((ev_C_rate h).deep (by decide)) rfl ?_
  refine mg_Ev.go 1 (pc' := 16) (loc' := [some (.ref 1), some (.int a0), some (.int a1), some (.ref 51), none]) (st' := [.int 1]) (w' := (hp u1 fL fD, c + 1, z + 6)) rfl ?_
  exact mg_Ev.fin rfl rfl rfl
set_option maxRecDepth 10000 in
set_option maxHeartbeats 4000000 in
theorem ev_W_rate_x1 {sc : mg_Sc} {c z : Nat} {fL : Nat → Int64} {fD : Nat → UInt64} {a0 : Int32} {a1 : Int32} {u u1 : mg_Rg} (h : C_rate a0 a1 u = some (.inr 1, u1)) : mg_Ev sc 7 225 0 (mg_entry 225 [.ref 1, .int a0, .int a1, .ref 51]) [] (hp u fL fD, c, z) (.inl (some (.int 2)), (hp u1 fL fD, c + 1, z + 6)) := by
  show mg_Ev _ _ _ 0 [some (.ref 1), some (.int a0), some (.int a1), some (.ref 51), none] [] _ _
  refine mg_Ev.go 5 (pc' := 5) (loc' := [some (.ref 1), some (.int a0), some (.int a1), some (.ref 51), none]) (st' := [.int a1, .int a0, .ref 1, .int 0, .ref 51]) (w' := (hp u fL fD, c, z)) rfl ?_
  refine mg_Ev.callH (y := 2) (as := [.ref 1, .int a0, .int a1]) (rest := [.int 0, .ref 51]) (i := 4) (pc' := 19) rfl rfl (Nat.le_of_ble_eq_true rfl) ((ev_C_rate h).deep (by decide)) rfl ?_
  refine mg_Ev.go 1 (pc' := 20) (loc' := [some (.ref 1), some (.int a0), some (.int a1), some (.ref 51), none]) (st' := [.int 2]) (w' := (hp u1 fL fD, c + 1, z + 6)) rfl ?_
  exact mg_Ev.fin rfl rfl rfl
set_option maxRecDepth 10000 in
set_option maxHeartbeats 4000000 in
theorem ev_W_told_ok {sc : mg_Sc} {c z : Nat} {fL : Nat → Int64} {fD : Nat → UInt64} {a0 : Int32} {a1 : Int32} {u u1 : mg_Rg} {v : Int32} (h : C_told a0 a1 u = some (.inl v, u1)) : mg_Ev sc 4 226 0 (mg_entry 226 [.ref 1, .int a0, .int a1, .ref 51]) [] (hp u fL fD, c, z) (.inl (some (.int 0)), (hp u1 (vp_updL fL 0 v.toInt64) fD, c, z)) := by
  show mg_Ev _ _ _ 0 [some (.ref 1), some (.int a0), some (.int a1), some (.ref 51), none] [] _ _
  refine mg_Ev.go 5 (pc' := 5) (loc' := [some (.ref 1), some (.int a0), some (.int a1), some (.ref 51), none]) (st' := [.int a1, .int a0, .ref 1, .int 0, .ref 51]) (w' := (hp u fL fD, c, z)) rfl ?_
  refine mg_Ev.call (y := 3) (as := [.ref 1, .int a0, .int a1]) (rest := [.int 0, .ref 51]) (v := some (.int v)) (w1 := (hp u1 fL fD, c, z)) rfl rfl (Nat.le_of_ble_eq_true rfl) ((ev_C_told h).deep (by decide)) ?_
  refine mg_Ev.go 1 (pc' := 9) (loc' := [some (.ref 1), some (.int a0), some (.int a1), some (.ref 51), none]) (st' := [.long v.toInt64, .int 0, .ref 51]) (w' := (hp u1 fL fD, c, z)) rfl ?_
  refine mg_Ev.last (a := 50) (n := 1) (j := 0) rfl (hpg_50 _ _ _) (by decide) (by decide) (hpa_50 _ _ _ _ _ _ _) ?_
  refine mg_Ev.go 2 (pc' := 22) (loc' := [some (.ref 1), some (.int a0), some (.int a1), some (.ref 51), none]) (st' := [.int 0]) (w' := (hp u1 (vp_updL fL 0 v.toInt64) fD, c, z)) rfl ?_
  exact mg_Ev.fin rfl rfl rfl
set_option maxRecDepth 10000 in
set_option maxHeartbeats 4000000 in
theorem ev_W_told_x0 {sc : mg_Sc} {c z : Nat} {fL : Nat → Int64} {fD : Nat → UInt64} {a0 : Int32} {a1 : Int32} {u u1 : mg_Rg} (h : C_told a0 a1 u = some (.inr 0, u1)) : mg_Ev sc 4 226 0 (mg_entry 226 [.ref 1, .int a0, .int a1, .ref 51]) [] (hp u fL fD, c, z) (.inl (some (.int 1)), (hp u1 fL fD, c + 1, z + 6)) := by
  show mg_Ev _ _ _ 0 [some (.ref 1), some (.int a0), some (.int a1), some (.ref 51), none] [] _ _
  refine mg_Ev.go 5 (pc' := 5) (loc' := [some (.ref 1), some (.int a0), some (.int a1), some (.ref 51), none]) (st' := [.int a1, .int a0, .ref 1, .int 0, .ref 51]) (w' := (hp u fL fD, c, z)) rfl ?_
  refine mg_Ev.callH (y := 3) (as := [.ref 1, .int a0, .int a1]) (rest := [.int 0, .ref 51]) (i := 4) (pc' := 15) rfl rfl (Nat.le_of_ble_eq_true rfl) ((ev_C_told h).deep (by decide)) rfl ?_
  refine mg_Ev.go 1 (pc' := 16) (loc' := [some (.ref 1), some (.int a0), some (.int a1), some (.ref 51), none]) (st' := [.int 1]) (w' := (hp u1 fL fD, c + 1, z + 6)) rfl ?_
  exact mg_Ev.fin rfl rfl rfl
set_option maxRecDepth 10000 in
set_option maxHeartbeats 4000000 in
theorem ev_W_told_x1 {sc : mg_Sc} {c z : Nat} {fL : Nat → Int64} {fD : Nat → UInt64} {a0 : Int32} {a1 : Int32} {u u1 : mg_Rg} (h : C_told a0 a1 u = some (.inr 1, u1)) : mg_Ev sc 4 226 0 (mg_entry 226 [.ref 1, .int a0, .int a1, .ref 51]) [] (hp u fL fD, c, z) (.inl (some (.int 2)), (hp u1 fL fD, c + 1, z + 6)) := by
  show mg_Ev _ _ _ 0 [some (.ref 1), some (.int a0), some (.int a1), some (.ref 51), none] [] _ _
  refine mg_Ev.go 5 (pc' := 5) (loc' := [some (.ref 1), some (.int a0), some (.int a1), some (.ref 51), none]) (st' := [.int a1, .int a0, .ref 1, .int 0, .ref 51]) (w' := (hp u fL fD, c, z)) rfl ?_
  refine mg_Ev.callH (y := 3) (as := [.ref 1, .int a0, .int a1]) (rest := [.int 0, .ref 51]) (i := 4) (pc' := 19) rfl rfl (Nat.le_of_ble_eq_true rfl) ((ev_C_told h).deep (by decide)) rfl ?_
  refine mg_Ev.go 1 (pc' := 20) (loc' := [some (.ref 1), some (.int a0), some (.int a1), some (.ref 51), none]) (st' := [.int 2]) (w' := (hp u1 fL fD, c + 1, z + 6)) rfl ?_
  exact mg_Ev.fin rfl rfl rfl
set_option maxRecDepth 10000 in
set_option maxHeartbeats 4000000 in
theorem ev_W_find_ok {sc : mg_Sc} {c z : Nat} {fL : Nat → Int64} {fD : Nat → UInt64} {a0 : Int32} {u u1 : mg_Rg} {v : Int32} (h : C_find a0 u = some (.inl v, u1)) : mg_Ev sc 4 227 0 (mg_entry 227 [.ref 1, .int a0, .ref 51]) [] (hp u fL fD, c, z) (.inl (some (.int 0)), (hp u1 (vp_updL fL 0 v.toInt64) fD, c, z)) := by
  show mg_Ev _ _ _ 0 [some (.ref 1), some (.int a0), some (.ref 51), none] [] _ _
  refine mg_Ev.go 4 (pc' := 4) (loc' := [some (.ref 1), some (.int a0), some (.ref 51), none]) (st' := [.int a0, .ref 1, .int 0, .ref 51]) (w' := (hp u fL fD, c, z)) rfl ?_
  refine mg_Ev.call (y := 4) (as := [.ref 1, .int a0]) (rest := [.int 0, .ref 51]) (v := some (.int v)) (w1 := (hp u1 fL fD, c, z)) rfl rfl (Nat.le_of_ble_eq_true rfl) ((ev_C_find h).deep (by decide)) ?_
  refine mg_Ev.go 1 (pc' := 8) (loc' := [some (.ref 1), some (.int a0), some (.ref 51), none]) (st' := [.long v.toInt64, .int 0, .ref 51]) (w' := (hp u1 fL fD, c, z)) rfl ?_
  refine mg_Ev.last (a := 50) (n := 1) (j := 0) rfl (hpg_50 _ _ _) (by decide) (by decide) (hpa_50 _ _ _ _ _ _ _) ?_
  refine mg_Ev.go 2 (pc' := 16) (loc' := [some (.ref 1), some (.int a0), some (.ref 51), none]) (st' := [.int 0]) (w' := (hp u1 (vp_updL fL 0 v.toInt64) fD, c, z)) rfl ?_
  exact mg_Ev.fin rfl rfl rfl
set_option maxRecDepth 10000 in
set_option maxHeartbeats 4000000 in
theorem ev_W_find_x3 {sc : mg_Sc} {c z : Nat} {fL : Nat → Int64} {fD : Nat → UInt64} {a0 : Int32} {u u1 : mg_Rg} (h : C_find a0 u = some (.inr 3, u1)) : mg_Ev sc 4 227 0 (mg_entry 227 [.ref 1, .int a0, .ref 51]) [] (hp u fL fD, c, z) (.inl (some (.int 1)), (hp u1 fL fD, c + 1, z + 6)) := by
  show mg_Ev _ _ _ 0 [some (.ref 1), some (.int a0), some (.ref 51), none] [] _ _
  refine mg_Ev.go 4 (pc' := 4) (loc' := [some (.ref 1), some (.int a0), some (.ref 51), none]) (st' := [.int a0, .ref 1, .int 0, .ref 51]) (w' := (hp u fL fD, c, z)) rfl ?_
  refine mg_Ev.callH (y := 4) (as := [.ref 1, .int a0]) (rest := [.int 0, .ref 51]) (i := 3) (pc' := 13) rfl rfl (Nat.le_of_ble_eq_true rfl) ((ev_C_find h).deep (by decide)) rfl ?_
  refine mg_Ev.go 1 (pc' := 14) (loc' := [some (.ref 1), some (.int a0), some (.ref 51), none]) (st' := [.int 1]) (w' := (hp u1 fL fD, c + 1, z + 6)) rfl ?_
  exact mg_Ev.fin rfl rfl rfl
set_option maxRecDepth 10000 in
set_option maxHeartbeats 4000000 in
theorem ev_W_prefer_ok {sc : mg_Sc} {c z : Nat} {fL : Nat → Int64} {fD : Nat → UInt64} {a0 : Int32} {a1 : Int32} {a2 : Int32} {a3 : Int32} {u u1 : mg_Rg} {v : Int32} (h : C_prefer a0 a1 a2 a3 u = some (.inl v, u1)) : mg_Ev sc 7 228 0 (mg_entry 228 [.ref 1, .int a0, .int a1, .int a2, .int a3, .ref 51]) [] (hp u fL fD, c, z) (.inl (some (.int 0)), (hp u1 (vp_updL fL 0 v.toInt64) fD, c, z)) := by
  show mg_Ev _ _ _ 0 [some (.ref 1), some (.int a0), some (.int a1), some (.int a2), some (.int a3), some (.ref 51), none] [] _ _
  refine mg_Ev.go 7 (pc' := 9) (loc' := [some (.ref 1), some (.int a0), some (.int a1), some (.int a2), some (.int a3), some (.ref 51), none]) (st' := [.int a3, .int a2, .int a1, .int a0, .ref 1, .int 0, .ref 51]) (w' := (hp u fL fD, c, z)) rfl ?_
  refine mg_Ev.call (y := 5) (as := [.ref 1, .int a0, .int a1, .int a2, .int a3]) (rest := [.int 0, .ref 51]) (v := some (.int v)) (w1 := (hp u1 fL fD, c, z)) rfl rfl (Nat.le_of_ble_eq_true rfl) ((ev_C_prefer h).deep (by decide)) ?_
  refine mg_Ev.go 1 (pc' := 13) (loc' := [some (.ref 1), some (.int a0), some (.int a1), some (.int a2), some (.int a3), some (.ref 51), none]) (st' := [.long v.toInt64, .int 0, .ref 51]) (w' := (hp u1 fL fD, c, z)) rfl ?_
  refine mg_Ev.last (a := 50) (n := 1) (j := 0) rfl (hpg_50 _ _ _) (by decide) (by decide) (hpa_50 _ _ _ _ _ _ _) ?_
  refine mg_Ev.go 2 (pc' := 30) (loc' := [some (.ref 1), some (.int a0), some (.int a1), some (.int a2), some (.int a3), some (.ref 51), none]) (st' := [.int 0]) (w' := (hp u1 (vp_updL fL 0 v.toInt64) fD, c, z)) rfl ?_
  exact mg_Ev.fin rfl rfl rfl
set_option maxRecDepth 10000 in
set_option maxHeartbeats 4000000 in
theorem ev_W_prefer_x0 {sc : mg_Sc} {c z : Nat} {fL : Nat → Int64} {fD : Nat → UInt64} {a0 : Int32} {a1 : Int32} {a2 : Int32} {a3 : Int32} {u u1 : mg_Rg} (h : C_prefer a0 a1 a2 a3 u = some (.inr 0, u1)) : mg_Ev sc 7 228 0 (mg_entry 228 [.ref 1, .int a0, .int a1, .int a2, .int a3, .ref 51]) [] (hp u fL fD, c, z) (.inl (some (.int 1)), (hp u1 fL fD, c + 1, z + 6)) := by
  show mg_Ev _ _ _ 0 [some (.ref 1), some (.int a0), some (.int a1), some (.int a2), some (.int a3), some (.ref 51), none] [] _ _
  refine mg_Ev.go 7 (pc' := 9) (loc' := [some (.ref 1), some (.int a0), some (.int a1), some (.int a2), some (.int a3), some (.ref 51), none]) (st' := [.int a3, .int a2, .int a1, .int a0, .ref 1, .int 0, .ref 51]) (w' := (hp u fL fD, c, z)) rfl ?_
  refine mg_Ev.callH (y := 5) (as := [.ref 1, .int a0, .int a1, .int a2, .int a3]) (rest := [.int 0, .ref 51]) (i := 6) (pc' := 19) rfl rfl (Nat.le_of_ble_eq_true rfl) ((ev_C_prefer h).deep (by decide)) rfl ?_
  refine mg_Ev.go 1 (pc' := 20) (loc' := [some (.ref 1), some (.int a0), some (.int a1), some (.int a2), some (.int a3), some (.ref 51), none]) (st' := [.int 1]) (w' := (hp u1 fL fD, c + 1, z + 6)) rfl ?_
  exact mg_Ev.fin rfl rfl rfl
set_option maxRecDepth 10000 in
set_option maxHeartbeats 4000000 in
theorem ev_W_prefer_x1 {sc : mg_Sc} {c z : Nat} {fL : Nat → Int64} {fD : Nat → UInt64} {a0 : Int32} {a1 : Int32} {a2 : Int32} {a3 : Int32} {u u1 : mg_Rg} (h : C_prefer a0 a1 a2 a3 u = some (.inr 1, u1)) : mg_Ev sc 7 228 0 (mg_entry 228 [.ref 1, .int a0, .int a1, .int a2, .int a3, .ref 51]) [] (hp u fL fD, c, z) (.inl (some (.int 2)), (hp u1 fL fD, c + 1, z + 6)) := by
  show mg_Ev _ _ _ 0 [some (.ref 1), some (.int a0), some (.int a1), some (.int a2), some (.int a3), some (.ref 51), none] [] _ _
  refine mg_Ev.go 7 (pc' := 9) (loc' := [some (.ref 1), some (.int a0), some (.int a1), some (.int a2), some (.int a3), some (.ref 51), none]) (st' := [.int a3, .int a2, .int a1, .int a0, .ref 1, .int 0, .ref 51]) (w' := (hp u fL fD, c, z)) rfl ?_
  refine mg_Ev.callH (y := 5) (as := [.ref 1, .int a0, .int a1, .int a2, .int a3]) (rest := [.int 0, .ref 51]) (i := 6) (pc' := 23) rfl rfl (Nat.le_of_ble_eq_true rfl) ((ev_C_prefer h).deep (by decide)) rfl ?_
  refine mg_Ev.go 1 (pc' := 24) (loc' := [some (.ref 1), some (.int a0), some (.int a1), some (.int a2), some (.int a3), some (.ref 51), none]) (st' := [.int 2]) (w' := (hp u1 fL fD, c + 1, z + 6)) rfl ?_
  exact mg_Ev.fin rfl rfl rfl
set_option maxRecDepth 10000 in
set_option maxHeartbeats 4000000 in
theorem ev_W_prefer_x2 {sc : mg_Sc} {c z : Nat} {fL : Nat → Int64} {fD : Nat → UInt64} {a0 : Int32} {a1 : Int32} {a2 : Int32} {a3 : Int32} {u u1 : mg_Rg} (h : C_prefer a0 a1 a2 a3 u = some (.inr 2, u1)) : mg_Ev sc 7 228 0 (mg_entry 228 [.ref 1, .int a0, .int a1, .int a2, .int a3, .ref 51]) [] (hp u fL fD, c, z) (.inl (some (.int 3)), (hp u1 fL fD, c + 1, z + 6)) := by
  show mg_Ev _ _ _ 0 [some (.ref 1), some (.int a0), some (.int a1), some (.int a2), some (.int a3), some (.ref 51), none] [] _ _
  refine mg_Ev.go 7 (pc' := 9) (loc' := [some (.ref 1), some (.int a0), some (.int a1), some (.int a2), some (.int a3), some (.ref 51), none]) (st' := [.int a3, .int a2, .int a1, .int a0, .ref 1, .int 0, .ref 51]) (w' := (hp u fL fD, c, z)) rfl ?_
  refine mg_Ev.callH (y := 5) (as := [.ref 1, .int a0, .int a1, .int a2, .int a3]) (rest := [.int 0, .ref 51]) (i := 6) (pc' := 27) rfl rfl (Nat.le_of_ble_eq_true rfl) ((ev_C_prefer h).deep (by decide)) rfl ?_
  refine mg_Ev.go 1 (pc' := 28) (loc' := [some (.ref 1), some (.int a0), some (.int a1), some (.int a2), some (.int a3), some (.ref 51), none]) (st' := [.int 3]) (w' := (hp u1 fL fD, c + 1, z + 6)) rfl ?_
  exact mg_Ev.fin rfl rfl rfl
set_option maxRecDepth 10000 in
set_option maxHeartbeats 4000000 in
theorem ev_W_drop_ok {sc : mg_Sc} {c z : Nat} {fL : Nat → Int64} {fD : Nat → UInt64} {a0 : Int32} {u u1 : mg_Rg} {v : Int32} (h : C_drop a0 u = some (.inl v, u1)) : mg_Ev sc 7 229 0 (mg_entry 229 [.ref 1, .int a0, .ref 51]) [] (hp u fL fD, c, z) (.inl (some (.int 0)), (hp u1 (vp_updL fL 0 v.toInt64) fD, c, z)) := by
  show mg_Ev _ _ _ 0 [some (.ref 1), some (.int a0), some (.ref 51), none] [] _ _
  refine mg_Ev.go 4 (pc' := 4) (loc' := [some (.ref 1), some (.int a0), some (.ref 51), none]) (st' := [.int a0, .ref 1, .int 0, .ref 51]) (w' := (hp u fL fD, c, z)) rfl ?_
  refine mg_Ev.call (y := 6) (as := [.ref 1, .int a0]) (rest := [.int 0, .ref 51]) (v := some (.int v)) (w1 := (hp u1 fL fD, c, z)) rfl rfl (Nat.le_of_ble_eq_true rfl) ((ev_C_drop h).deep (by decide)) ?_
  refine mg_Ev.go 1 (pc' := 8) (loc' := [some (.ref 1), some (.int a0), some (.ref 51), none]) (st' := [.long v.toInt64, .int 0, .ref 51]) (w' := (hp u1 fL fD, c, z)) rfl ?_
  refine mg_Ev.last (a := 50) (n := 1) (j := 0) rfl (hpg_50 _ _ _) (by decide) (by decide) (hpa_50 _ _ _ _ _ _ _) ?_
  refine mg_Ev.go 2 (pc' := 16) (loc' := [some (.ref 1), some (.int a0), some (.ref 51), none]) (st' := [.int 0]) (w' := (hp u1 (vp_updL fL 0 v.toInt64) fD, c, z)) rfl ?_
  exact mg_Ev.fin rfl rfl rfl
set_option maxRecDepth 10000 in
set_option maxHeartbeats 4000000 in
theorem ev_W_drop_x0 {sc : mg_Sc} {c z : Nat} {fL : Nat → Int64} {fD : Nat → UInt64} {a0 : Int32} {u u1 : mg_Rg} (h : C_drop a0 u = some (.inr 0, u1)) : mg_Ev sc 7 229 0 (mg_entry 229 [.ref 1, .int a0, .ref 51]) [] (hp u fL fD, c, z) (.inl (some (.int 1)), (hp u1 fL fD, c + 1, z + 6)) := by
  show mg_Ev _ _ _ 0 [some (.ref 1), some (.int a0), some (.ref 51), none] [] _ _
  refine mg_Ev.go 4 (pc' := 4) (loc' := [some (.ref 1), some (.int a0), some (.ref 51), none]) (st' := [.int a0, .ref 1, .int 0, .ref 51]) (w' := (hp u fL fD, c, z)) rfl ?_
  refine mg_Ev.callH (y := 6) (as := [.ref 1, .int a0]) (rest := [.int 0, .ref 51]) (i := 3) (pc' := 13) rfl rfl (Nat.le_of_ble_eq_true rfl) ((ev_C_drop h).deep (by decide)) rfl ?_
  refine mg_Ev.go 1 (pc' := 14) (loc' := [some (.ref 1), some (.int a0), some (.ref 51), none]) (st' := [.int 1]) (w' := (hp u1 fL fD, c + 1, z + 6)) rfl ?_
  exact mg_Ev.fin rfl rfl rfl
set_option maxRecDepth 10000 in
set_option maxHeartbeats 4000000 in
theorem ev_W_suspend_ok {sc : mg_Sc} {c z : Nat} {fL : Nat → Int64} {fD : Nat → UInt64} {a0 : Int32} {a1 : Int32} {a2 : Int32} {u u1 : mg_Rg} {v : Int32} (h : C_suspend a0 a1 a2 u = some (.inl v, u1)) : mg_Ev sc 7 230 0 (mg_entry 230 [.ref 1, .int a0, .int a1, .int a2, .ref 51]) [] (hp u fL fD, c, z) (.inl (some (.int 0)), (hp u1 (vp_updL fL 0 v.toInt64) fD, c, z)) := by
  show mg_Ev _ _ _ 0 [some (.ref 1), some (.int a0), some (.int a1), some (.int a2), some (.ref 51), none] [] _ _
  refine mg_Ev.go 6 (pc' := 7) (loc' := [some (.ref 1), some (.int a0), some (.int a1), some (.int a2), some (.ref 51), none]) (st' := [.int a2, .int a1, .int a0, .ref 1, .int 0, .ref 51]) (w' := (hp u fL fD, c, z)) rfl ?_
  refine mg_Ev.call (y := 7) (as := [.ref 1, .int a0, .int a1, .int a2]) (rest := [.int 0, .ref 51]) (v := some (.int v)) (w1 := (hp u1 fL fD, c, z)) rfl rfl (Nat.le_of_ble_eq_true rfl) ((ev_C_suspend h).deep (by decide)) ?_
  refine mg_Ev.go 1 (pc' := 11) (loc' := [some (.ref 1), some (.int a0), some (.int a1), some (.int a2), some (.ref 51), none]) (st' := [.long v.toInt64, .int 0, .ref 51]) (w' := (hp u1 fL fD, c, z)) rfl ?_
  refine mg_Ev.last (a := 50) (n := 1) (j := 0) rfl (hpg_50 _ _ _) (by decide) (by decide) (hpa_50 _ _ _ _ _ _ _) ?_
  refine mg_Ev.go 2 (pc' := 28) (loc' := [some (.ref 1), some (.int a0), some (.int a1), some (.int a2), some (.ref 51), none]) (st' := [.int 0]) (w' := (hp u1 (vp_updL fL 0 v.toInt64) fD, c, z)) rfl ?_
  exact mg_Ev.fin rfl rfl rfl
set_option maxRecDepth 10000 in
set_option maxHeartbeats 4000000 in
theorem ev_W_suspend_x0 {sc : mg_Sc} {c z : Nat} {fL : Nat → Int64} {fD : Nat → UInt64} {a0 : Int32} {a1 : Int32} {a2 : Int32} {u u1 : mg_Rg} (h : C_suspend a0 a1 a2 u = some (.inr 0, u1)) : mg_Ev sc 7 230 0 (mg_entry 230 [.ref 1, .int a0, .int a1, .int a2, .ref 51]) [] (hp u fL fD, c, z) (.inl (some (.int 1)), (hp u1 fL fD, c + 1, z + 6)) := by
  show mg_Ev _ _ _ 0 [some (.ref 1), some (.int a0), some (.int a1), some (.int a2), some (.ref 51), none] [] _ _
  refine mg_Ev.go 6 (pc' := 7) (loc' := [some (.ref 1), some (.int a0), some (.int a1), some (.int a2), some (.ref 51), none]) (st' := [.int a2, .int a1, .int a0, .ref 1, .int 0, .ref 51]) (w' := (hp u fL fD, c, z)) rfl ?_
  refine mg_Ev.callH (y := 7) (as := [.ref 1, .int a0, .int a1, .int a2]) (rest := [.int 0, .ref 51]) (i := 5) (pc' := 17) rfl rfl (Nat.le_of_ble_eq_true rfl) ((ev_C_suspend h).deep (by decide)) rfl ?_
  refine mg_Ev.go 1 (pc' := 18) (loc' := [some (.ref 1), some (.int a0), some (.int a1), some (.int a2), some (.ref 51), none]) (st' := [.int 1]) (w' := (hp u1 fL fD, c + 1, z + 6)) rfl ?_
  exact mg_Ev.fin rfl rfl rfl
set_option maxRecDepth 10000 in
set_option maxHeartbeats 4000000 in
theorem ev_W_suspend_x1 {sc : mg_Sc} {c z : Nat} {fL : Nat → Int64} {fD : Nat → UInt64} {a0 : Int32} {a1 : Int32} {a2 : Int32} {u u1 : mg_Rg} (h : C_suspend a0 a1 a2 u = some (.inr 1, u1)) : mg_Ev sc 7 230 0 (mg_entry 230 [.ref 1, .int a0, .int a1, .int a2, .ref 51]) [] (hp u fL fD, c, z) (.inl (some (.int 2)), (hp u1 fL fD, c + 1, z + 6)) := by
  show mg_Ev _ _ _ 0 [some (.ref 1), some (.int a0), some (.int a1), some (.int a2), some (.ref 51), none] [] _ _
  refine mg_Ev.go 6 (pc' := 7) (loc' := [some (.ref 1), some (.int a0), some (.int a1), some (.int a2), some (.ref 51), none]) (st' := [.int a2, .int a1, .int a0, .ref 1, .int 0, .ref 51]) (w' := (hp u fL fD, c, z)) rfl ?_
  refine mg_Ev.callH (y := 7) (as := [.ref 1, .int a0, .int a1, .int a2]) (rest := [.int 0, .ref 51]) (i := 5) (pc' := 21) rfl rfl (Nat.le_of_ble_eq_true rfl) ((ev_C_suspend h).deep (by decide)) rfl ?_
  refine mg_Ev.go 1 (pc' := 22) (loc' := [some (.ref 1), some (.int a0), some (.int a1), some (.int a2), some (.ref 51), none]) (st' := [.int 2]) (w' := (hp u1 fL fD, c + 1, z + 6)) rfl ?_
  exact mg_Ev.fin rfl rfl rfl
set_option maxRecDepth 10000 in
set_option maxHeartbeats 4000000 in
theorem ev_W_suspend_x2 {sc : mg_Sc} {c z : Nat} {fL : Nat → Int64} {fD : Nat → UInt64} {a0 : Int32} {a1 : Int32} {a2 : Int32} {u u1 : mg_Rg} (h : C_suspend a0 a1 a2 u = some (.inr 2, u1)) : mg_Ev sc 7 230 0 (mg_entry 230 [.ref 1, .int a0, .int a1, .int a2, .ref 51]) [] (hp u fL fD, c, z) (.inl (some (.int 3)), (hp u1 fL fD, c + 1, z + 6)) := by
  show mg_Ev _ _ _ 0 [some (.ref 1), some (.int a0), some (.int a1), some (.int a2), some (.ref 51), none] [] _ _
  refine mg_Ev.go 6 (pc' := 7) (loc' := [some (.ref 1), some (.int a0), some (.int a1), some (.int a2), some (.ref 51), none]) (st' := [.int a2, .int a1, .int a0, .ref 1, .int 0, .ref 51]) (w' := (hp u fL fD, c, z)) rfl ?_
  refine mg_Ev.callH (y := 7) (as := [.ref 1, .int a0, .int a1, .int a2]) (rest := [.int 0, .ref 51]) (i := 5) (pc' := 25) rfl rfl (Nat.le_of_ble_eq_true rfl) ((ev_C_suspend h).deep (by decide)) rfl ?_
  refine mg_Ev.go 1 (pc' := 26) (loc' := [some (.ref 1), some (.int a0), some (.int a1), some (.int a2), some (.ref 51), none]) (st' := [.int 3]) (w' := (hp u1 fL fD, c + 1, z + 6)) rfl ?_
  exact mg_Ev.fin rfl rfl rfl
set_option maxRecDepth 10000 in
set_option maxHeartbeats 4000000 in
theorem ev_W_quota_ok {sc : mg_Sc} {c z : Nat} {fL : Nat → Int64} {fD : Nat → UInt64} {a0 : Int32} {a1 : Int32} {a2 : Int32} {a3 : Int32} {a4 : Int32} {u u1 : mg_Rg} {v : Int32} (h : C_quota a0 a1 a2 a3 a4 u = some (.inl v, u1)) : mg_Ev sc 7 231 0 (mg_entry 231 [.ref 1, .int a0, .int a1, .int a2, .int a3, .int a4, .ref 51]) [] (hp u fL fD, c, z) (.inl (some (.int 0)), (hp u1 (vp_updL fL 0 v.toInt64) fD, c, z)) := by
  show mg_Ev _ _ _ 0 [some (.ref 1), some (.int a0), some (.int a1), some (.int a2), some (.int a3), some (.int a4), some (.ref 51), none] [] _ _
  refine mg_Ev.go 8 (pc' := 11) (loc' := [some (.ref 1), some (.int a0), some (.int a1), some (.int a2), some (.int a3), some (.int a4), some (.ref 51), none]) (st' := [.int a4, .int a3, .int a2, .int a1, .int a0, .ref 1, .int 0, .ref 51]) (w' := (hp u fL fD, c, z)) rfl ?_
  refine mg_Ev.call (y := 8) (as := [.ref 1, .int a0, .int a1, .int a2, .int a3, .int a4]) (rest := [.int 0, .ref 51]) (v := some (.int v)) (w1 := (hp u1 fL fD, c, z)) rfl rfl (Nat.le_of_ble_eq_true rfl) ((ev_C_quota h).deep (by decide)) ?_
  refine mg_Ev.go 1 (pc' := 15) (loc' := [some (.ref 1), some (.int a0), some (.int a1), some (.int a2), some (.int a3), some (.int a4), some (.ref 51), none]) (st' := [.long v.toInt64, .int 0, .ref 51]) (w' := (hp u1 fL fD, c, z)) rfl ?_
  refine mg_Ev.last (a := 50) (n := 1) (j := 0) rfl (hpg_50 _ _ _) (by decide) (by decide) (hpa_50 _ _ _ _ _ _ _) ?_
  refine mg_Ev.go 2 (pc' := 32) (loc' := [some (.ref 1), some (.int a0), some (.int a1), some (.int a2), some (.int a3), some (.int a4), some (.ref 51), none]) (st' := [.int 0]) (w' := (hp u1 (vp_updL fL 0 v.toInt64) fD, c, z)) rfl ?_
  exact mg_Ev.fin rfl rfl rfl
set_option maxRecDepth 10000 in
set_option maxHeartbeats 4000000 in
theorem ev_W_quota_x0 {sc : mg_Sc} {c z : Nat} {fL : Nat → Int64} {fD : Nat → UInt64} {a0 : Int32} {a1 : Int32} {a2 : Int32} {a3 : Int32} {a4 : Int32} {u u1 : mg_Rg} (h : C_quota a0 a1 a2 a3 a4 u = some (.inr 0, u1)) : mg_Ev sc 7 231 0 (mg_entry 231 [.ref 1, .int a0, .int a1, .int a2, .int a3, .int a4, .ref 51]) [] (hp u fL fD, c, z) (.inl (some (.int 1)), (hp u1 fL fD, c + 1, z + 6)) := by
  show mg_Ev _ _ _ 0 [some (.ref 1), some (.int a0), some (.int a1), some (.int a2), some (.int a3), some (.int a4), some (.ref 51), none] [] _ _
  refine mg_Ev.go 8 (pc' := 11) (loc' := [some (.ref 1), some (.int a0), some (.int a1), some (.int a2), some (.int a3), some (.int a4), some (.ref 51), none]) (st' := [.int a4, .int a3, .int a2, .int a1, .int a0, .ref 1, .int 0, .ref 51]) (w' := (hp u fL fD, c, z)) rfl ?_
  refine mg_Ev.callH (y := 8) (as := [.ref 1, .int a0, .int a1, .int a2, .int a3, .int a4]) (rest := [.int 0, .ref 51]) (i := 7) (pc' := 21) rfl rfl (Nat.le_of_ble_eq_true rfl) ((ev_C_quota h).deep (by decide)) rfl ?_
  refine mg_Ev.go 1 (pc' := 22) (loc' := [some (.ref 1), some (.int a0), some (.int a1), some (.int a2), some (.int a3), some (.int a4), some (.ref 51), none]) (st' := [.int 1]) (w' := (hp u1 fL fD, c + 1, z + 6)) rfl ?_
  exact mg_Ev.fin rfl rfl rfl
set_option maxRecDepth 10000 in
set_option maxHeartbeats 4000000 in
theorem ev_W_quota_x1 {sc : mg_Sc} {c z : Nat} {fL : Nat → Int64} {fD : Nat → UInt64} {a0 : Int32} {a1 : Int32} {a2 : Int32} {a3 : Int32} {a4 : Int32} {u u1 : mg_Rg} (h : C_quota a0 a1 a2 a3 a4 u = some (.inr 1, u1)) : mg_Ev sc 7 231 0 (mg_entry 231 [.ref 1, .int a0, .int a1, .int a2, .int a3, .int a4, .ref 51]) [] (hp u fL fD, c, z) (.inl (some (.int 2)), (hp u1 fL fD, c + 1, z + 6)) := by
  show mg_Ev _ _ _ 0 [some (.ref 1), some (.int a0), some (.int a1), some (.int a2), some (.int a3), some (.int a4), some (.ref 51), none] [] _ _
  refine mg_Ev.go 8 (pc' := 11) (loc' := [some (.ref 1), some (.int a0), some (.int a1), some (.int a2), some (.int a3), some (.int a4), some (.ref 51), none]) (st' := [.int a4, .int a3, .int a2, .int a1, .int a0, .ref 1, .int 0, .ref 51]) (w' := (hp u fL fD, c, z)) rfl ?_
  refine mg_Ev.callH (y := 8) (as := [.ref 1, .int a0, .int a1, .int a2, .int a3, .int a4]) (rest := [.int 0, .ref 51]) (i := 7) (pc' := 25) rfl rfl (Nat.le_of_ble_eq_true rfl) ((ev_C_quota h).deep (by decide)) rfl ?_
  refine mg_Ev.go 1 (pc' := 26) (loc' := [some (.ref 1), some (.int a0), some (.int a1), some (.int a2), some (.int a3), some (.int a4), some (.ref 51), none]) (st' := [.int 2]) (w' := (hp u1 fL fD, c + 1, z + 6)) rfl ?_
  exact mg_Ev.fin rfl rfl rfl
set_option maxRecDepth 10000 in
set_option maxHeartbeats 4000000 in
theorem ev_W_quota_x2 {sc : mg_Sc} {c z : Nat} {fL : Nat → Int64} {fD : Nat → UInt64} {a0 : Int32} {a1 : Int32} {a2 : Int32} {a3 : Int32} {a4 : Int32} {u u1 : mg_Rg} (h : C_quota a0 a1 a2 a3 a4 u = some (.inr 2, u1)) : mg_Ev sc 7 231 0 (mg_entry 231 [.ref 1, .int a0, .int a1, .int a2, .int a3, .int a4, .ref 51]) [] (hp u fL fD, c, z) (.inl (some (.int 3)), (hp u1 fL fD, c + 1, z + 6)) := by
  show mg_Ev _ _ _ 0 [some (.ref 1), some (.int a0), some (.int a1), some (.int a2), some (.int a3), some (.int a4), some (.ref 51), none] [] _ _
  refine mg_Ev.go 8 (pc' := 11) (loc' := [some (.ref 1), some (.int a0), some (.int a1), some (.int a2), some (.int a3), some (.int a4), some (.ref 51), none]) (st' := [.int a4, .int a3, .int a2, .int a1, .int a0, .ref 1, .int 0, .ref 51]) (w' := (hp u fL fD, c, z)) rfl ?_
  refine mg_Ev.callH (y := 8) (as := [.ref 1, .int a0, .int a1, .int a2, .int a3, .int a4]) (rest := [.int 0, .ref 51]) (i := 7) (pc' := 29) rfl rfl (Nat.le_of_ble_eq_true rfl) ((ev_C_quota h).deep (by decide)) rfl ?_
  refine mg_Ev.go 1 (pc' := 30) (loc' := [some (.ref 1), some (.int a0), some (.int a1), some (.int a2), some (.int a3), some (.int a4), some (.ref 51), none]) (st' := [.int 3]) (w' := (hp u1 fL fD, c + 1, z + 6)) rfl ?_
  exact mg_Ev.fin rfl rfl rfl
set_option maxRecDepth 10000 in
set_option maxHeartbeats 4000000 in
theorem ev_W_quotaTold_ok {sc : mg_Sc} {c z : Nat} {fL : Nat → Int64} {fD : Nat → UInt64} {a0 : Int32} {a1 : Int32} {u u1 : mg_Rg} {v : Int32} (h : C_quotaTold a0 a1 u = some (.inl v, u1)) : mg_Ev sc 4 232 0 (mg_entry 232 [.ref 1, .int a0, .int a1, .ref 51]) [] (hp u fL fD, c, z) (.inl (some (.int 0)), (hp u1 (vp_updL fL 0 v.toInt64) fD, c, z)) := by
  show mg_Ev _ _ _ 0 [some (.ref 1), some (.int a0), some (.int a1), some (.ref 51), none] [] _ _
  refine mg_Ev.go 5 (pc' := 5) (loc' := [some (.ref 1), some (.int a0), some (.int a1), some (.ref 51), none]) (st' := [.int a1, .int a0, .ref 1, .int 0, .ref 51]) (w' := (hp u fL fD, c, z)) rfl ?_
  refine mg_Ev.call (y := 9) (as := [.ref 1, .int a0, .int a1]) (rest := [.int 0, .ref 51]) (v := some (.int v)) (w1 := (hp u1 fL fD, c, z)) rfl rfl (Nat.le_of_ble_eq_true rfl) ((ev_C_quotaTold h).deep (by decide)) ?_
  refine mg_Ev.go 1 (pc' := 9) (loc' := [some (.ref 1), some (.int a0), some (.int a1), some (.ref 51), none]) (st' := [.long v.toInt64, .int 0, .ref 51]) (w' := (hp u1 fL fD, c, z)) rfl ?_
  refine mg_Ev.last (a := 50) (n := 1) (j := 0) rfl (hpg_50 _ _ _) (by decide) (by decide) (hpa_50 _ _ _ _ _ _ _) ?_
  refine mg_Ev.go 2 (pc' := 22) (loc' := [some (.ref 1), some (.int a0), some (.int a1), some (.ref 51), none]) (st' := [.int 0]) (w' := (hp u1 (vp_updL fL 0 v.toInt64) fD, c, z)) rfl ?_
  exact mg_Ev.fin rfl rfl rfl
set_option maxRecDepth 10000 in
set_option maxHeartbeats 4000000 in
theorem ev_W_quotaTold_x0 {sc : mg_Sc} {c z : Nat} {fL : Nat → Int64} {fD : Nat → UInt64} {a0 : Int32} {a1 : Int32} {u u1 : mg_Rg} (h : C_quotaTold a0 a1 u = some (.inr 0, u1)) : mg_Ev sc 4 232 0 (mg_entry 232 [.ref 1, .int a0, .int a1, .ref 51]) [] (hp u fL fD, c, z) (.inl (some (.int 1)), (hp u1 fL fD, c + 1, z + 6)) := by
  show mg_Ev _ _ _ 0 [some (.ref 1), some (.int a0), some (.int a1), some (.ref 51), none] [] _ _
  refine mg_Ev.go 5 (pc' := 5) (loc' := [some (.ref 1), some (.int a0), some (.int a1), some (.ref 51), none]) (st' := [.int a1, .int a0, .ref 1, .int 0, .ref 51]) (w' := (hp u fL fD, c, z)) rfl ?_
  refine mg_Ev.callH (y := 9) (as := [.ref 1, .int a0, .int a1]) (rest := [.int 0, .ref 51]) (i := 4) (pc' := 15) rfl rfl (Nat.le_of_ble_eq_true rfl) ((ev_C_quotaTold h).deep (by decide)) rfl ?_
  refine mg_Ev.go 1 (pc' := 16) (loc' := [some (.ref 1), some (.int a0), some (.int a1), some (.ref 51), none]) (st' := [.int 1]) (w' := (hp u1 fL fD, c + 1, z + 6)) rfl ?_
  exact mg_Ev.fin rfl rfl rfl
set_option maxRecDepth 10000 in
set_option maxHeartbeats 4000000 in
theorem ev_W_quotaTold_x1 {sc : mg_Sc} {c z : Nat} {fL : Nat → Int64} {fD : Nat → UInt64} {a0 : Int32} {a1 : Int32} {u u1 : mg_Rg} (h : C_quotaTold a0 a1 u = some (.inr 1, u1)) : mg_Ev sc 4 232 0 (mg_entry 232 [.ref 1, .int a0, .int a1, .ref 51]) [] (hp u fL fD, c, z) (.inl (some (.int 2)), (hp u1 fL fD, c + 1, z + 6)) := by
  show mg_Ev _ _ _ 0 [some (.ref 1), some (.int a0), some (.int a1), some (.ref 51), none] [] _ _
  refine mg_Ev.go 5 (pc' := 5) (loc' := [some (.ref 1), some (.int a0), some (.int a1), some (.ref 51), none]) (st' := [.int a1, .int a0, .ref 1, .int 0, .ref 51]) (w' := (hp u fL fD, c, z)) rfl ?_
  refine mg_Ev.callH (y := 9) (as := [.ref 1, .int a0, .int a1]) (rest := [.int 0, .ref 51]) (i := 4) (pc' := 19) rfl rfl (Nat.le_of_ble_eq_true rfl) ((ev_C_quotaTold h).deep (by decide)) rfl ?_
  refine mg_Ev.go 1 (pc' := 20) (loc' := [some (.ref 1), some (.int a0), some (.int a1), some (.ref 51), none]) (st' := [.int 2]) (w' := (hp u1 fL fD, c + 1, z + 6)) rfl ?_
  exact mg_Ev.fin rfl rfl rfl
set_option maxRecDepth 10000 in
set_option maxHeartbeats 4000000 in
theorem ev_W_set_ok {sc : mg_Sc} {c z : Nat} {fL : Nat → Int64} {fD : Nat → UInt64} {a0 : Int32} {a1 : Int32} {u u1 : mg_Rg} {v : Int32} (h : C_set a0 a1 u = some (.inl v, u1)) : mg_Ev sc 7 233 0 (mg_entry 233 [.ref 1, .int a0, .int a1, .ref 51]) [] (hp u fL fD, c, z) (.inl (some (.int 0)), (hp u1 (vp_updL fL 0 v.toInt64) fD, c, z)) := by
  show mg_Ev _ _ _ 0 [some (.ref 1), some (.int a0), some (.int a1), some (.ref 51), none] [] _ _
  refine mg_Ev.go 5 (pc' := 5) (loc' := [some (.ref 1), some (.int a0), some (.int a1), some (.ref 51), none]) (st' := [.int a1, .int a0, .ref 1, .int 0, .ref 51]) (w' := (hp u fL fD, c, z)) rfl ?_
  refine mg_Ev.call (y := 10) (as := [.ref 1, .int a0, .int a1]) (rest := [.int 0, .ref 51]) (v := some (.int v)) (w1 := (hp u1 fL fD, c, z)) rfl rfl (Nat.le_of_ble_eq_true rfl) ((ev_C_set h).deep (by decide)) ?_
  refine mg_Ev.go 1 (pc' := 9) (loc' := [some (.ref 1), some (.int a0), some (.int a1), some (.ref 51), none]) (st' := [.long v.toInt64, .int 0, .ref 51]) (w' := (hp u1 fL fD, c, z)) rfl ?_
  refine mg_Ev.last (a := 50) (n := 1) (j := 0) rfl (hpg_50 _ _ _) (by decide) (by decide) (hpa_50 _ _ _ _ _ _ _) ?_
  refine mg_Ev.go 2 (pc' := 18) (loc' := [some (.ref 1), some (.int a0), some (.int a1), some (.ref 51), none]) (st' := [.int 0]) (w' := (hp u1 (vp_updL fL 0 v.toInt64) fD, c, z)) rfl ?_
  exact mg_Ev.fin rfl rfl rfl
set_option maxRecDepth 10000 in
set_option maxHeartbeats 4000000 in
theorem ev_W_set_x1 {sc : mg_Sc} {c z : Nat} {fL : Nat → Int64} {fD : Nat → UInt64} {a0 : Int32} {a1 : Int32} {u u1 : mg_Rg} (h : C_set a0 a1 u = some (.inr 1, u1)) : mg_Ev sc 7 233 0 (mg_entry 233 [.ref 1, .int a0, .int a1, .ref 51]) [] (hp u fL fD, c, z) (.inl (some (.int 1)), (hp u1 fL fD, c + 1, z + 6)) := by
  show mg_Ev _ _ _ 0 [some (.ref 1), some (.int a0), some (.int a1), some (.ref 51), none] [] _ _
  refine mg_Ev.go 5 (pc' := 5) (loc' := [some (.ref 1), some (.int a0), some (.int a1), some (.ref 51), none]) (st' := [.int a1, .int a0, .ref 1, .int 0, .ref 51]) (w' := (hp u fL fD, c, z)) rfl ?_
  refine mg_Ev.callH (y := 10) (as := [.ref 1, .int a0, .int a1]) (rest := [.int 0, .ref 51]) (i := 4) (pc' := 15) rfl rfl (Nat.le_of_ble_eq_true rfl) ((ev_C_set h).deep (by decide)) rfl ?_
  refine mg_Ev.go 1 (pc' := 16) (loc' := [some (.ref 1), some (.int a0), some (.int a1), some (.ref 51), none]) (st' := [.int 1]) (w' := (hp u1 fL fD, c + 1, z + 6)) rfl ?_
  exact mg_Ev.fin rfl rfl rfl
set_option maxRecDepth 10000 in
set_option maxHeartbeats 4000000 in
theorem ev_W_rateOf_ok {sc : mg_Sc} {c z : Nat} {fL : Nat → Int64} {fD : Nat → UInt64} {a0 : Int32} {a1 : Int32} {a2 : Int32} {a3 : Int32} {u u1 : mg_Rg} {v : Int32} (h : C_rateOf a0 a1 a2 a3 u = some (.inl v, u1)) : mg_Ev sc 5 234 0 (mg_entry 234 [.ref 1, .int a0, .int a1, .int a2, .int a3, .ref 51]) [] (hp u fL fD, c, z) (.inl (some (.int 0)), (hp u1 (vp_updL fL 0 v.toInt64) fD, c, z)) := by
  show mg_Ev _ _ _ 0 [some (.ref 1), some (.int a0), some (.int a1), some (.int a2), some (.int a3), some (.ref 51), none] [] _ _
  refine mg_Ev.go 7 (pc' := 9) (loc' := [some (.ref 1), some (.int a0), some (.int a1), some (.int a2), some (.int a3), some (.ref 51), none]) (st' := [.int a3, .int a2, .int a1, .int a0, .ref 1, .int 0, .ref 51]) (w' := (hp u fL fD, c, z)) rfl ?_
  refine mg_Ev.call (y := 11) (as := [.ref 1, .int a0, .int a1, .int a2, .int a3]) (rest := [.int 0, .ref 51]) (v := some (.int v)) (w1 := (hp u1 fL fD, c, z)) rfl rfl (Nat.le_of_ble_eq_true rfl) ((ev_C_rateOf h).deep (by decide)) ?_
  refine mg_Ev.go 1 (pc' := 13) (loc' := [some (.ref 1), some (.int a0), some (.int a1), some (.int a2), some (.int a3), some (.ref 51), none]) (st' := [.long v.toInt64, .int 0, .ref 51]) (w' := (hp u1 fL fD, c, z)) rfl ?_
  refine mg_Ev.last (a := 50) (n := 1) (j := 0) rfl (hpg_50 _ _ _) (by decide) (by decide) (hpa_50 _ _ _ _ _ _ _) ?_
  refine mg_Ev.go 2 (pc' := 26) (loc' := [some (.ref 1), some (.int a0), some (.int a1), some (.int a2), some (.int a3), some (.ref 51), none]) (st' := [.int 0]) (w' := (hp u1 (vp_updL fL 0 v.toInt64) fD, c, z)) rfl ?_
  exact mg_Ev.fin rfl rfl rfl
set_option maxRecDepth 10000 in
set_option maxHeartbeats 4000000 in
theorem ev_W_rateOf_x0 {sc : mg_Sc} {c z : Nat} {fL : Nat → Int64} {fD : Nat → UInt64} {a0 : Int32} {a1 : Int32} {a2 : Int32} {a3 : Int32} {u u1 : mg_Rg} (h : C_rateOf a0 a1 a2 a3 u = some (.inr 0, u1)) : mg_Ev sc 5 234 0 (mg_entry 234 [.ref 1, .int a0, .int a1, .int a2, .int a3, .ref 51]) [] (hp u fL fD, c, z) (.inl (some (.int 1)), (hp u1 fL fD, c + 1, z + 6)) := by
  show mg_Ev _ _ _ 0 [some (.ref 1), some (.int a0), some (.int a1), some (.int a2), some (.int a3), some (.ref 51), none] [] _ _
  refine mg_Ev.go 7 (pc' := 9) (loc' := [some (.ref 1), some (.int a0), some (.int a1), some (.int a2), some (.int a3), some (.ref 51), none]) (st' := [.int a3, .int a2, .int a1, .int a0, .ref 1, .int 0, .ref 51]) (w' := (hp u fL fD, c, z)) rfl ?_
  refine mg_Ev.callH (y := 11) (as := [.ref 1, .int a0, .int a1, .int a2, .int a3]) (rest := [.int 0, .ref 51]) (i := 6) (pc' := 19) rfl rfl (Nat.le_of_ble_eq_true rfl) ((ev_C_rateOf h).deep (by decide)) rfl ?_
  refine mg_Ev.go 1 (pc' := 20) (loc' := [some (.ref 1), some (.int a0), some (.int a1), some (.int a2), some (.int a3), some (.ref 51), none]) (st' := [.int 1]) (w' := (hp u1 fL fD, c + 1, z + 6)) rfl ?_
  exact mg_Ev.fin rfl rfl rfl
set_option maxRecDepth 10000 in
set_option maxHeartbeats 4000000 in
theorem ev_W_rateOf_x1 {sc : mg_Sc} {c z : Nat} {fL : Nat → Int64} {fD : Nat → UInt64} {a0 : Int32} {a1 : Int32} {a2 : Int32} {a3 : Int32} {u u1 : mg_Rg} (h : C_rateOf a0 a1 a2 a3 u = some (.inr 1, u1)) : mg_Ev sc 5 234 0 (mg_entry 234 [.ref 1, .int a0, .int a1, .int a2, .int a3, .ref 51]) [] (hp u fL fD, c, z) (.inl (some (.int 2)), (hp u1 fL fD, c + 1, z + 6)) := by
  show mg_Ev _ _ _ 0 [some (.ref 1), some (.int a0), some (.int a1), some (.int a2), some (.int a3), some (.ref 51), none] [] _ _
  refine mg_Ev.go 7 (pc' := 9) (loc' := [some (.ref 1), some (.int a0), some (.int a1), some (.int a2), some (.int a3), some (.ref 51), none]) (st' := [.int a3, .int a2, .int a1, .int a0, .ref 1, .int 0, .ref 51]) (w' := (hp u fL fD, c, z)) rfl ?_
  refine mg_Ev.callH (y := 11) (as := [.ref 1, .int a0, .int a1, .int a2, .int a3]) (rest := [.int 0, .ref 51]) (i := 6) (pc' := 23) rfl rfl (Nat.le_of_ble_eq_true rfl) ((ev_C_rateOf h).deep (by decide)) rfl ?_
  refine mg_Ev.go 1 (pc' := 24) (loc' := [some (.ref 1), some (.int a0), some (.int a1), some (.int a2), some (.int a3), some (.ref 51), none]) (st' := [.int 2]) (w' := (hp u1 fL fD, c + 1, z + 6)) rfl ?_
  exact mg_Ev.fin rfl rfl rfl
set_option maxRecDepth 10000 in
set_option maxHeartbeats 4000000 in
theorem ev_W_comesFrom_ok {sc : mg_Sc} {c z : Nat} {fL : Nat → Int64} {fD : Nat → UInt64} {a0 : Int32} {a1 : Int32} {a2 : Int32} {a3 : Int32} {u u1 : mg_Rg} {v : Int32} (h : C_comesFrom a0 a1 a2 a3 u = some (.inl v, u1)) : mg_Ev sc 5 235 0 (mg_entry 235 [.ref 1, .int a0, .int a1, .int a2, .int a3, .ref 51]) [] (hp u fL fD, c, z) (.inl (some (.int 0)), (hp u1 (vp_updL fL 0 v.toInt64) fD, c, z)) := by
  show mg_Ev _ _ _ 0 [some (.ref 1), some (.int a0), some (.int a1), some (.int a2), some (.int a3), some (.ref 51), none] [] _ _
  refine mg_Ev.go 7 (pc' := 9) (loc' := [some (.ref 1), some (.int a0), some (.int a1), some (.int a2), some (.int a3), some (.ref 51), none]) (st' := [.int a3, .int a2, .int a1, .int a0, .ref 1, .int 0, .ref 51]) (w' := (hp u fL fD, c, z)) rfl ?_
  refine mg_Ev.call (y := 12) (as := [.ref 1, .int a0, .int a1, .int a2, .int a3]) (rest := [.int 0, .ref 51]) (v := some (.int v)) (w1 := (hp u1 fL fD, c, z)) rfl rfl (Nat.le_of_ble_eq_true rfl) ((ev_C_comesFrom h).deep (by decide)) ?_
  refine mg_Ev.go 1 (pc' := 13) (loc' := [some (.ref 1), some (.int a0), some (.int a1), some (.int a2), some (.int a3), some (.ref 51), none]) (st' := [.long v.toInt64, .int 0, .ref 51]) (w' := (hp u1 fL fD, c, z)) rfl ?_
  refine mg_Ev.last (a := 50) (n := 1) (j := 0) rfl (hpg_50 _ _ _) (by decide) (by decide) (hpa_50 _ _ _ _ _ _ _) ?_
  refine mg_Ev.go 2 (pc' := 26) (loc' := [some (.ref 1), some (.int a0), some (.int a1), some (.int a2), some (.int a3), some (.ref 51), none]) (st' := [.int 0]) (w' := (hp u1 (vp_updL fL 0 v.toInt64) fD, c, z)) rfl ?_
  exact mg_Ev.fin rfl rfl rfl
set_option maxRecDepth 10000 in
set_option maxHeartbeats 4000000 in
theorem ev_W_comesFrom_x0 {sc : mg_Sc} {c z : Nat} {fL : Nat → Int64} {fD : Nat → UInt64} {a0 : Int32} {a1 : Int32} {a2 : Int32} {a3 : Int32} {u u1 : mg_Rg} (h : C_comesFrom a0 a1 a2 a3 u = some (.inr 0, u1)) : mg_Ev sc 5 235 0 (mg_entry 235 [.ref 1, .int a0, .int a1, .int a2, .int a3, .ref 51]) [] (hp u fL fD, c, z) (.inl (some (.int 1)), (hp u1 fL fD, c + 1, z + 6)) := by
  show mg_Ev _ _ _ 0 [some (.ref 1), some (.int a0), some (.int a1), some (.int a2), some (.int a3), some (.ref 51), none] [] _ _
  refine mg_Ev.go 7 (pc' := 9) (loc' := [some (.ref 1), some (.int a0), some (.int a1), some (.int a2), some (.int a3), some (.ref 51), none]) (st' := [.int a3, .int a2, .int a1, .int a0, .ref 1, .int 0, .ref 51]) (w' := (hp u fL fD, c, z)) rfl ?_
  refine mg_Ev.callH (y := 12) (as := [.ref 1, .int a0, .int a1, .int a2, .int a3]) (rest := [.int 0, .ref 51]) (i := 6) (pc' := 19) rfl rfl (Nat.le_of_ble_eq_true rfl) ((ev_C_comesFrom h).deep (by decide)) rfl ?_
  refine mg_Ev.go 1 (pc' := 20) (loc' := [some (.ref 1), some (.int a0), some (.int a1), some (.int a2), some (.int a3), some (.ref 51), none]) (st' := [.int 1]) (w' := (hp u1 fL fD, c + 1, z + 6)) rfl ?_
  exact mg_Ev.fin rfl rfl rfl
set_option maxRecDepth 10000 in
set_option maxHeartbeats 4000000 in
theorem ev_W_comesFrom_x1 {sc : mg_Sc} {c z : Nat} {fL : Nat → Int64} {fD : Nat → UInt64} {a0 : Int32} {a1 : Int32} {a2 : Int32} {a3 : Int32} {u u1 : mg_Rg} (h : C_comesFrom a0 a1 a2 a3 u = some (.inr 1, u1)) : mg_Ev sc 5 235 0 (mg_entry 235 [.ref 1, .int a0, .int a1, .int a2, .int a3, .ref 51]) [] (hp u fL fD, c, z) (.inl (some (.int 2)), (hp u1 fL fD, c + 1, z + 6)) := by
  show mg_Ev _ _ _ 0 [some (.ref 1), some (.int a0), some (.int a1), some (.int a2), some (.int a3), some (.ref 51), none] [] _ _
  refine mg_Ev.go 7 (pc' := 9) (loc' := [some (.ref 1), some (.int a0), some (.int a1), some (.int a2), some (.int a3), some (.ref 51), none]) (st' := [.int a3, .int a2, .int a1, .int a0, .ref 1, .int 0, .ref 51]) (w' := (hp u fL fD, c, z)) rfl ?_
  refine mg_Ev.callH (y := 12) (as := [.ref 1, .int a0, .int a1, .int a2, .int a3]) (rest := [.int 0, .ref 51]) (i := 6) (pc' := 23) rfl rfl (Nat.le_of_ble_eq_true rfl) ((ev_C_comesFrom h).deep (by decide)) rfl ?_
  refine mg_Ev.go 1 (pc' := 24) (loc' := [some (.ref 1), some (.int a0), some (.int a1), some (.int a2), some (.int a3), some (.ref 51), none]) (st' := [.int 2]) (w' := (hp u1 fL fD, c + 1, z + 6)) rfl ?_
  exact mg_Ev.fin rfl rfl rfl
set_option maxRecDepth 10000 in
set_option maxHeartbeats 4000000 in
theorem ev_W_missed_ok {sc : mg_Sc} {c z : Nat} {fL : Nat → Int64} {fD : Nat → UInt64} {a0 : Int32} {a1 : Int32} {a2 : Int32} {a3 : Int32} {u u1 : mg_Rg} {v : Int32} (h : C_missed a0 a1 a2 a3 u = some (.inl v, u1)) : mg_Ev sc 6 236 0 (mg_entry 236 [.ref 1, .int a0, .int a1, .int a2, .int a3, .ref 51]) [] (hp u fL fD, c, z) (.inl (some (.int 0)), (hp u1 (vp_updL fL 0 v.toInt64) fD, c, z)) := by
  show mg_Ev _ _ _ 0 [some (.ref 1), some (.int a0), some (.int a1), some (.int a2), some (.int a3), some (.ref 51), none] [] _ _
  refine mg_Ev.go 7 (pc' := 9) (loc' := [some (.ref 1), some (.int a0), some (.int a1), some (.int a2), some (.int a3), some (.ref 51), none]) (st' := [.int a3, .int a2, .int a1, .int a0, .ref 1, .int 0, .ref 51]) (w' := (hp u fL fD, c, z)) rfl ?_
  refine mg_Ev.call (y := 13) (as := [.ref 1, .int a0, .int a1, .int a2, .int a3]) (rest := [.int 0, .ref 51]) (v := some (.int v)) (w1 := (hp u1 fL fD, c, z)) rfl rfl (Nat.le_of_ble_eq_true rfl) ((ev_C_missed h).deep (by decide)) ?_
  refine mg_Ev.go 1 (pc' := 13) (loc' := [some (.ref 1), some (.int a0), some (.int a1), some (.int a2), some (.int a3), some (.ref 51), none]) (st' := [.long v.toInt64, .int 0, .ref 51]) (w' := (hp u1 fL fD, c, z)) rfl ?_
  refine mg_Ev.last (a := 50) (n := 1) (j := 0) rfl (hpg_50 _ _ _) (by decide) (by decide) (hpa_50 _ _ _ _ _ _ _) ?_
  refine mg_Ev.go 2 (pc' := 30) (loc' := [some (.ref 1), some (.int a0), some (.int a1), some (.int a2), some (.int a3), some (.ref 51), none]) (st' := [.int 0]) (w' := (hp u1 (vp_updL fL 0 v.toInt64) fD, c, z)) rfl ?_
  exact mg_Ev.fin rfl rfl rfl
set_option maxRecDepth 10000 in
set_option maxHeartbeats 4000000 in
theorem ev_W_missed_x0 {sc : mg_Sc} {c z : Nat} {fL : Nat → Int64} {fD : Nat → UInt64} {a0 : Int32} {a1 : Int32} {a2 : Int32} {a3 : Int32} {u u1 : mg_Rg} (h : C_missed a0 a1 a2 a3 u = some (.inr 0, u1)) : mg_Ev sc 6 236 0 (mg_entry 236 [.ref 1, .int a0, .int a1, .int a2, .int a3, .ref 51]) [] (hp u fL fD, c, z) (.inl (some (.int 1)), (hp u1 fL fD, c + 1, z + 6)) := by
  show mg_Ev _ _ _ 0 [some (.ref 1), some (.int a0), some (.int a1), some (.int a2), some (.int a3), some (.ref 51), none] [] _ _
  refine mg_Ev.go 7 (pc' := 9) (loc' := [some (.ref 1), some (.int a0), some (.int a1), some (.int a2), some (.int a3), some (.ref 51), none]) (st' := [.int a3, .int a2, .int a1, .int a0, .ref 1, .int 0, .ref 51]) (w' := (hp u fL fD, c, z)) rfl ?_
  refine mg_Ev.callH (y := 13) (as := [.ref 1, .int a0, .int a1, .int a2, .int a3]) (rest := [.int 0, .ref 51]) (i := 6) (pc' := 19) rfl rfl (Nat.le_of_ble_eq_true rfl) ((ev_C_missed h).deep (by decide)) rfl ?_
  refine mg_Ev.go 1 (pc' := 20) (loc' := [some (.ref 1), some (.int a0), some (.int a1), some (.int a2), some (.int a3), some (.ref 51), none]) (st' := [.int 1]) (w' := (hp u1 fL fD, c + 1, z + 6)) rfl ?_
  exact mg_Ev.fin rfl rfl rfl
set_option maxRecDepth 10000 in
set_option maxHeartbeats 4000000 in
theorem ev_W_missed_x1 {sc : mg_Sc} {c z : Nat} {fL : Nat → Int64} {fD : Nat → UInt64} {a0 : Int32} {a1 : Int32} {a2 : Int32} {a3 : Int32} {u u1 : mg_Rg} (h : C_missed a0 a1 a2 a3 u = some (.inr 1, u1)) : mg_Ev sc 6 236 0 (mg_entry 236 [.ref 1, .int a0, .int a1, .int a2, .int a3, .ref 51]) [] (hp u fL fD, c, z) (.inl (some (.int 2)), (hp u1 fL fD, c + 1, z + 6)) := by
  show mg_Ev _ _ _ 0 [some (.ref 1), some (.int a0), some (.int a1), some (.int a2), some (.int a3), some (.ref 51), none] [] _ _
  refine mg_Ev.go 7 (pc' := 9) (loc' := [some (.ref 1), some (.int a0), some (.int a1), some (.int a2), some (.int a3), some (.ref 51), none]) (st' := [.int a3, .int a2, .int a1, .int a0, .ref 1, .int 0, .ref 51]) (w' := (hp u fL fD, c, z)) rfl ?_
  refine mg_Ev.callH (y := 13) (as := [.ref 1, .int a0, .int a1, .int a2, .int a3]) (rest := [.int 0, .ref 51]) (i := 6) (pc' := 23) rfl rfl (Nat.le_of_ble_eq_true rfl) ((ev_C_missed h).deep (by decide)) rfl ?_
  refine mg_Ev.go 1 (pc' := 24) (loc' := [some (.ref 1), some (.int a0), some (.int a1), some (.int a2), some (.int a3), some (.ref 51), none]) (st' := [.int 2]) (w' := (hp u1 fL fD, c + 1, z + 6)) rfl ?_
  exact mg_Ev.fin rfl rfl rfl
set_option maxRecDepth 10000 in
set_option maxHeartbeats 4000000 in
theorem ev_W_missed_x3 {sc : mg_Sc} {c z : Nat} {fL : Nat → Int64} {fD : Nat → UInt64} {a0 : Int32} {a1 : Int32} {a2 : Int32} {a3 : Int32} {u u1 : mg_Rg} (h : C_missed a0 a1 a2 a3 u = some (.inr 3, u1)) : mg_Ev sc 6 236 0 (mg_entry 236 [.ref 1, .int a0, .int a1, .int a2, .int a3, .ref 51]) [] (hp u fL fD, c, z) (.inl (some (.int 3)), (hp u1 fL fD, c + 1, z + 6)) := by
  show mg_Ev _ _ _ 0 [some (.ref 1), some (.int a0), some (.int a1), some (.int a2), some (.int a3), some (.ref 51), none] [] _ _
  refine mg_Ev.go 7 (pc' := 9) (loc' := [some (.ref 1), some (.int a0), some (.int a1), some (.int a2), some (.int a3), some (.ref 51), none]) (st' := [.int a3, .int a2, .int a1, .int a0, .ref 1, .int 0, .ref 51]) (w' := (hp u fL fD, c, z)) rfl ?_
  refine mg_Ev.callH (y := 13) (as := [.ref 1, .int a0, .int a1, .int a2, .int a3]) (rest := [.int 0, .ref 51]) (i := 6) (pc' := 27) rfl rfl (Nat.le_of_ble_eq_true rfl) ((ev_C_missed h).deep (by decide)) rfl ?_
  refine mg_Ev.go 1 (pc' := 28) (loc' := [some (.ref 1), some (.int a0), some (.int a1), some (.int a2), some (.int a3), some (.ref 51), none]) (st' := [.int 3]) (w' := (hp u1 fL fD, c + 1, z + 6)) rfl ?_
  exact mg_Ev.fin rfl rfl rfl
set_option maxRecDepth 10000 in
set_option maxHeartbeats 4000000 in
theorem ev_W_part_ok {sc : mg_Sc} {c z : Nat} {fL : Nat → Int64} {fD : Nat → UInt64} {a0 : Int32} {a1 : Int32} {u u1 : mg_Rg} {v : Int32} (h : C_part a0 a1 u = some (.inl v, u1)) : mg_Ev sc 7 237 0 (mg_entry 237 [.ref 1, .int a0, .int a1, .ref 51]) [] (hp u fL fD, c, z) (.inl (some (.int 0)), (hp u1 (vp_updL fL 0 v.toInt64) fD, c, z)) := by
  show mg_Ev _ _ _ 0 [some (.ref 1), some (.int a0), some (.int a1), some (.ref 51), none] [] _ _
  refine mg_Ev.go 5 (pc' := 5) (loc' := [some (.ref 1), some (.int a0), some (.int a1), some (.ref 51), none]) (st' := [.int a1, .int a0, .ref 1, .int 0, .ref 51]) (w' := (hp u fL fD, c, z)) rfl ?_
  refine mg_Ev.call (y := 14) (as := [.ref 1, .int a0, .int a1]) (rest := [.int 0, .ref 51]) (v := some (.int v)) (w1 := (hp u1 fL fD, c, z)) rfl rfl (Nat.le_of_ble_eq_true rfl) ((ev_C_part h).deep (by decide)) ?_
  refine mg_Ev.go 1 (pc' := 9) (loc' := [some (.ref 1), some (.int a0), some (.int a1), some (.ref 51), none]) (st' := [.long v.toInt64, .int 0, .ref 51]) (w' := (hp u1 fL fD, c, z)) rfl ?_
  refine mg_Ev.last (a := 50) (n := 1) (j := 0) rfl (hpg_50 _ _ _) (by decide) (by decide) (hpa_50 _ _ _ _ _ _ _) ?_
  refine mg_Ev.go 2 (pc' := 26) (loc' := [some (.ref 1), some (.int a0), some (.int a1), some (.ref 51), none]) (st' := [.int 0]) (w' := (hp u1 (vp_updL fL 0 v.toInt64) fD, c, z)) rfl ?_
  exact mg_Ev.fin rfl rfl rfl
set_option maxRecDepth 10000 in
set_option maxHeartbeats 4000000 in
theorem ev_W_part_x0 {sc : mg_Sc} {c z : Nat} {fL : Nat → Int64} {fD : Nat → UInt64} {a0 : Int32} {a1 : Int32} {u u1 : mg_Rg} (h : C_part a0 a1 u = some (.inr 0, u1)) : mg_Ev sc 7 237 0 (mg_entry 237 [.ref 1, .int a0, .int a1, .ref 51]) [] (hp u fL fD, c, z) (.inl (some (.int 1)), (hp u1 fL fD, c + 1, z + 6)) := by
  show mg_Ev _ _ _ 0 [some (.ref 1), some (.int a0), some (.int a1), some (.ref 51), none] [] _ _
  refine mg_Ev.go 5 (pc' := 5) (loc' := [some (.ref 1), some (.int a0), some (.int a1), some (.ref 51), none]) (st' := [.int a1, .int a0, .ref 1, .int 0, .ref 51]) (w' := (hp u fL fD, c, z)) rfl ?_
  refine mg_Ev.callH (y := 14) (as := [.ref 1, .int a0, .int a1]) (rest := [.int 0, .ref 51]) (i := 4) (pc' := 15) rfl rfl (Nat.le_of_ble_eq_true rfl) ((ev_C_part h).deep (by decide)) rfl ?_
  refine mg_Ev.go 1 (pc' := 16) (loc' := [some (.ref 1), some (.int a0), some (.int a1), some (.ref 51), none]) (st' := [.int 1]) (w' := (hp u1 fL fD, c + 1, z + 6)) rfl ?_
  exact mg_Ev.fin rfl rfl rfl
set_option maxRecDepth 10000 in
set_option maxHeartbeats 4000000 in
theorem ev_W_part_x1 {sc : mg_Sc} {c z : Nat} {fL : Nat → Int64} {fD : Nat → UInt64} {a0 : Int32} {a1 : Int32} {u u1 : mg_Rg} (h : C_part a0 a1 u = some (.inr 1, u1)) : mg_Ev sc 7 237 0 (mg_entry 237 [.ref 1, .int a0, .int a1, .ref 51]) [] (hp u fL fD, c, z) (.inl (some (.int 2)), (hp u1 fL fD, c + 1, z + 6)) := by
  show mg_Ev _ _ _ 0 [some (.ref 1), some (.int a0), some (.int a1), some (.ref 51), none] [] _ _
  refine mg_Ev.go 5 (pc' := 5) (loc' := [some (.ref 1), some (.int a0), some (.int a1), some (.ref 51), none]) (st' := [.int a1, .int a0, .ref 1, .int 0, .ref 51]) (w' := (hp u fL fD, c, z)) rfl ?_
  refine mg_Ev.callH (y := 14) (as := [.ref 1, .int a0, .int a1]) (rest := [.int 0, .ref 51]) (i := 4) (pc' := 19) rfl rfl (Nat.le_of_ble_eq_true rfl) ((ev_C_part h).deep (by decide)) rfl ?_
  refine mg_Ev.go 1 (pc' := 20) (loc' := [some (.ref 1), some (.int a0), some (.int a1), some (.ref 51), none]) (st' := [.int 2]) (w' := (hp u1 fL fD, c + 1, z + 6)) rfl ?_
  exact mg_Ev.fin rfl rfl rfl
set_option maxRecDepth 10000 in
set_option maxHeartbeats 4000000 in
theorem ev_W_part_x2 {sc : mg_Sc} {c z : Nat} {fL : Nat → Int64} {fD : Nat → UInt64} {a0 : Int32} {a1 : Int32} {u u1 : mg_Rg} (h : C_part a0 a1 u = some (.inr 2, u1)) : mg_Ev sc 7 237 0 (mg_entry 237 [.ref 1, .int a0, .int a1, .ref 51]) [] (hp u fL fD, c, z) (.inl (some (.int 3)), (hp u1 fL fD, c + 1, z + 6)) := by
  show mg_Ev _ _ _ 0 [some (.ref 1), some (.int a0), some (.int a1), some (.ref 51), none] [] _ _
  refine mg_Ev.go 5 (pc' := 5) (loc' := [some (.ref 1), some (.int a0), some (.int a1), some (.ref 51), none]) (st' := [.int a1, .int a0, .ref 1, .int 0, .ref 51]) (w' := (hp u fL fD, c, z)) rfl ?_
  refine mg_Ev.callH (y := 14) (as := [.ref 1, .int a0, .int a1]) (rest := [.int 0, .ref 51]) (i := 4) (pc' := 23) rfl rfl (Nat.le_of_ble_eq_true rfl) ((ev_C_part h).deep (by decide)) rfl ?_
  refine mg_Ev.go 1 (pc' := 24) (loc' := [some (.ref 1), some (.int a0), some (.int a1), some (.ref 51), none]) (st' := [.int 3]) (w' := (hp u1 fL fD, c + 1, z + 6)) rfl ?_
  exact mg_Ev.fin rfl rfl rfl
set_option maxRecDepth 10000 in
set_option maxHeartbeats 4000000 in
theorem ev_W_origin_ok {sc : mg_Sc} {c z : Nat} {fL : Nat → Int64} {fD : Nat → UInt64} {u u1 : mg_Rg} {v : Int32} (h : C_origin u = some (.inl v, u1)) : mg_Ev sc 4 238 0 (mg_entry 238 [.ref 1, .ref 51]) [] (hp u fL fD, c, z) (.inl (some (.int 0)), (hp u1 (vp_updL fL 0 v.toInt64) fD, c, z)) := by
  show mg_Ev _ _ _ 0 [some (.ref 1), some (.ref 51), none] [] _ _
  refine mg_Ev.go 3 (pc' := 3) (loc' := [some (.ref 1), some (.ref 51), none]) (st' := [.ref 1, .int 0, .ref 51]) (w' := (hp u fL fD, c, z)) rfl ?_
  refine mg_Ev.call (y := 16) (as := [.ref 1]) (rest := [.int 0, .ref 51]) (v := some (.int v)) (w1 := (hp u1 fL fD, c, z)) rfl rfl (Nat.le_of_ble_eq_true rfl) ((ev_C_origin h).deep (by decide)) ?_
  refine mg_Ev.go 1 (pc' := 7) (loc' := [some (.ref 1), some (.ref 51), none]) (st' := [.long v.toInt64, .int 0, .ref 51]) (w' := (hp u1 fL fD, c, z)) rfl ?_
  refine mg_Ev.last (a := 50) (n := 1) (j := 0) rfl (hpg_50 _ _ _) (by decide) (by decide) (hpa_50 _ _ _ _ _ _ _) ?_
  refine mg_Ev.go 2 (pc' := 15) (loc' := [some (.ref 1), some (.ref 51), none]) (st' := [.int 0]) (w' := (hp u1 (vp_updL fL 0 v.toInt64) fD, c, z)) rfl ?_
  exact mg_Ev.fin rfl rfl rfl
set_option maxRecDepth 10000 in
set_option maxHeartbeats 4000000 in
theorem ev_W_origin_x3 {sc : mg_Sc} {c z : Nat} {fL : Nat → Int64} {fD : Nat → UInt64} {u u1 : mg_Rg} (h : C_origin u = some (.inr 3, u1)) : mg_Ev sc 4 238 0 (mg_entry 238 [.ref 1, .ref 51]) [] (hp u fL fD, c, z) (.inl (some (.int 1)), (hp u1 fL fD, c + 1, z + 6)) := by
  show mg_Ev _ _ _ 0 [some (.ref 1), some (.ref 51), none] [] _ _
  refine mg_Ev.go 3 (pc' := 3) (loc' := [some (.ref 1), some (.ref 51), none]) (st' := [.ref 1, .int 0, .ref 51]) (w' := (hp u fL fD, c, z)) rfl ?_
  refine mg_Ev.callH (y := 16) (as := [.ref 1]) (rest := [.int 0, .ref 51]) (i := 2) (pc' := 12) rfl rfl (Nat.le_of_ble_eq_true rfl) ((ev_C_origin h).deep (by decide)) rfl ?_
  refine mg_Ev.go 1 (pc' := 13) (loc' := [some (.ref 1), some (.ref 51), none]) (st' := [.int 1]) (w' := (hp u1 fL fD, c + 1, z + 6)) rfl ?_
  exact mg_Ev.fin rfl rfl rfl
set_option maxRecDepth 10000 in
set_option maxHeartbeats 4000000 in
theorem ev_W_declare_ok {sc : mg_Sc} {c z : Nat} {fL : Nat → Int64} {fD : Nat → UInt64} {a0 : Int32} {a1 : Int32} {a2 : Int32} {a3 : Int32} {u u1 : mg_Rg} {v : Int32} (h : C_declare a0 a1 a2 a3 u = some (.inl v, u1)) : mg_Ev sc 7 239 0 (mg_entry 239 [.ref 1, .int a0, .int a1, .int a2, .int a3, .ref 51]) [] (hp u fL fD, c, z) (.inl (some (.int 0)), (hp u1 (vp_updL fL 0 v.toInt64) fD, c, z)) := by
  show mg_Ev _ _ _ 0 [some (.ref 1), some (.int a0), some (.int a1), some (.int a2), some (.int a3), some (.ref 51), none] [] _ _
  refine mg_Ev.go 7 (pc' := 9) (loc' := [some (.ref 1), some (.int a0), some (.int a1), some (.int a2), some (.int a3), some (.ref 51), none]) (st' := [.int a3, .int a2, .int a1, .int a0, .ref 1, .int 0, .ref 51]) (w' := (hp u fL fD, c, z)) rfl ?_
  refine mg_Ev.call (y := 17) (as := [.ref 1, .int a0, .int a1, .int a2, .int a3]) (rest := [.int 0, .ref 51]) (v := some (.int v)) (w1 := (hp u1 fL fD, c, z)) rfl rfl (Nat.le_of_ble_eq_true rfl) ((ev_C_declare h).deep (by decide)) ?_
  refine mg_Ev.go 1 (pc' := 13) (loc' := [some (.ref 1), some (.int a0), some (.int a1), some (.int a2), some (.int a3), some (.ref 51), none]) (st' := [.long v.toInt64, .int 0, .ref 51]) (w' := (hp u1 fL fD, c, z)) rfl ?_
  refine mg_Ev.last (a := 50) (n := 1) (j := 0) rfl (hpg_50 _ _ _) (by decide) (by decide) (hpa_50 _ _ _ _ _ _ _) ?_
  refine mg_Ev.go 2 (pc' := 30) (loc' := [some (.ref 1), some (.int a0), some (.int a1), some (.int a2), some (.int a3), some (.ref 51), none]) (st' := [.int 0]) (w' := (hp u1 (vp_updL fL 0 v.toInt64) fD, c, z)) rfl ?_
  exact mg_Ev.fin rfl rfl rfl
set_option maxRecDepth 10000 in
set_option maxHeartbeats 4000000 in
theorem ev_W_declare_x0 {sc : mg_Sc} {c z : Nat} {fL : Nat → Int64} {fD : Nat → UInt64} {a0 : Int32} {a1 : Int32} {a2 : Int32} {a3 : Int32} {u u1 : mg_Rg} (h : C_declare a0 a1 a2 a3 u = some (.inr 0, u1)) : mg_Ev sc 7 239 0 (mg_entry 239 [.ref 1, .int a0, .int a1, .int a2, .int a3, .ref 51]) [] (hp u fL fD, c, z) (.inl (some (.int 1)), (hp u1 fL fD, c + 1, z + 6)) := by
  show mg_Ev _ _ _ 0 [some (.ref 1), some (.int a0), some (.int a1), some (.int a2), some (.int a3), some (.ref 51), none] [] _ _
  refine mg_Ev.go 7 (pc' := 9) (loc' := [some (.ref 1), some (.int a0), some (.int a1), some (.int a2), some (.int a3), some (.ref 51), none]) (st' := [.int a3, .int a2, .int a1, .int a0, .ref 1, .int 0, .ref 51]) (w' := (hp u fL fD, c, z)) rfl ?_
  refine mg_Ev.callH (y := 17) (as := [.ref 1, .int a0, .int a1, .int a2, .int a3]) (rest := [.int 0, .ref 51]) (i := 6) (pc' := 19) rfl rfl (Nat.le_of_ble_eq_true rfl) ((ev_C_declare h).deep (by decide)) rfl ?_
  refine mg_Ev.go 1 (pc' := 20) (loc' := [some (.ref 1), some (.int a0), some (.int a1), some (.int a2), some (.int a3), some (.ref 51), none]) (st' := [.int 1]) (w' := (hp u1 fL fD, c + 1, z + 6)) rfl ?_
  exact mg_Ev.fin rfl rfl rfl
set_option maxRecDepth 10000 in
set_option maxHeartbeats 4000000 in
theorem ev_W_declare_x1 {sc : mg_Sc} {c z : Nat} {fL : Nat → Int64} {fD : Nat → UInt64} {a0 : Int32} {a1 : Int32} {a2 : Int32} {a3 : Int32} {u u1 : mg_Rg} (h : C_declare a0 a1 a2 a3 u = some (.inr 1, u1)) : mg_Ev sc 7 239 0 (mg_entry 239 [.ref 1, .int a0, .int a1, .int a2, .int a3, .ref 51]) [] (hp u fL fD, c, z) (.inl (some (.int 2)), (hp u1 fL fD, c + 1, z + 6)) := by
  show mg_Ev _ _ _ 0 [some (.ref 1), some (.int a0), some (.int a1), some (.int a2), some (.int a3), some (.ref 51), none] [] _ _
  refine mg_Ev.go 7 (pc' := 9) (loc' := [some (.ref 1), some (.int a0), some (.int a1), some (.int a2), some (.int a3), some (.ref 51), none]) (st' := [.int a3, .int a2, .int a1, .int a0, .ref 1, .int 0, .ref 51]) (w' := (hp u fL fD, c, z)) rfl ?_
  refine mg_Ev.callH (y := 17) (as := [.ref 1, .int a0, .int a1, .int a2, .int a3]) (rest := [.int 0, .ref 51]) (i := 6) (pc' := 23) rfl rfl (Nat.le_of_ble_eq_true rfl) ((ev_C_declare h).deep (by decide)) rfl ?_
  refine mg_Ev.go 1 (pc' := 24) (loc' := [some (.ref 1), some (.int a0), some (.int a1), some (.int a2), some (.int a3), some (.ref 51), none]) (st' := [.int 2]) (w' := (hp u1 fL fD, c + 1, z + 6)) rfl ?_
  exact mg_Ev.fin rfl rfl rfl
set_option maxRecDepth 10000 in
set_option maxHeartbeats 4000000 in
theorem ev_W_declare_x2 {sc : mg_Sc} {c z : Nat} {fL : Nat → Int64} {fD : Nat → UInt64} {a0 : Int32} {a1 : Int32} {a2 : Int32} {a3 : Int32} {u u1 : mg_Rg} (h : C_declare a0 a1 a2 a3 u = some (.inr 2, u1)) : mg_Ev sc 7 239 0 (mg_entry 239 [.ref 1, .int a0, .int a1, .int a2, .int a3, .ref 51]) [] (hp u fL fD, c, z) (.inl (some (.int 3)), (hp u1 fL fD, c + 1, z + 6)) := by
  show mg_Ev _ _ _ 0 [some (.ref 1), some (.int a0), some (.int a1), some (.int a2), some (.int a3), some (.ref 51), none] [] _ _
  refine mg_Ev.go 7 (pc' := 9) (loc' := [some (.ref 1), some (.int a0), some (.int a1), some (.int a2), some (.int a3), some (.ref 51), none]) (st' := [.int a3, .int a2, .int a1, .int a0, .ref 1, .int 0, .ref 51]) (w' := (hp u fL fD, c, z)) rfl ?_
  refine mg_Ev.callH (y := 17) (as := [.ref 1, .int a0, .int a1, .int a2, .int a3]) (rest := [.int 0, .ref 51]) (i := 6) (pc' := 27) rfl rfl (Nat.le_of_ble_eq_true rfl) ((ev_C_declare h).deep (by decide)) rfl ?_
  refine mg_Ev.go 1 (pc' := 28) (loc' := [some (.ref 1), some (.int a0), some (.int a1), some (.int a2), some (.int a3), some (.ref 51), none]) (st' := [.int 3]) (w' := (hp u1 fL fD, c + 1, z + 6)) rfl ?_
  exact mg_Ev.fin rfl rfl rfl
set_option maxRecDepth 10000 in
set_option maxHeartbeats 4000000 in
theorem ev_W_declaration_ok {sc : mg_Sc} {c z : Nat} {fL : Nat → Int64} {fD : Nat → UInt64} {a0 : Int32} {a1 : Int32} {u u1 : mg_Rg} {v : Int32} (h : C_declaration a0 a1 u = some (.inl v, u1)) : mg_Ev sc 4 240 0 (mg_entry 240 [.ref 1, .int a0, .int a1, .ref 51]) [] (hp u fL fD, c, z) (.inl (some (.int 0)), (hp u1 (vp_updL fL 0 v.toInt64) fD, c, z)) := by
  show mg_Ev _ _ _ 0 [some (.ref 1), some (.int a0), some (.int a1), some (.ref 51), none] [] _ _
  refine mg_Ev.go 5 (pc' := 5) (loc' := [some (.ref 1), some (.int a0), some (.int a1), some (.ref 51), none]) (st' := [.int a1, .int a0, .ref 1, .int 0, .ref 51]) (w' := (hp u fL fD, c, z)) rfl ?_
  refine mg_Ev.call (y := 18) (as := [.ref 1, .int a0, .int a1]) (rest := [.int 0, .ref 51]) (v := some (.int v)) (w1 := (hp u1 fL fD, c, z)) rfl rfl (Nat.le_of_ble_eq_true rfl) ((ev_C_declaration h).deep (by decide)) ?_
  refine mg_Ev.go 1 (pc' := 9) (loc' := [some (.ref 1), some (.int a0), some (.int a1), some (.ref 51), none]) (st' := [.long v.toInt64, .int 0, .ref 51]) (w' := (hp u1 fL fD, c, z)) rfl ?_
  refine mg_Ev.last (a := 50) (n := 1) (j := 0) rfl (hpg_50 _ _ _) (by decide) (by decide) (hpa_50 _ _ _ _ _ _ _) ?_
  refine mg_Ev.go 2 (pc' := 22) (loc' := [some (.ref 1), some (.int a0), some (.int a1), some (.ref 51), none]) (st' := [.int 0]) (w' := (hp u1 (vp_updL fL 0 v.toInt64) fD, c, z)) rfl ?_
  exact mg_Ev.fin rfl rfl rfl
set_option maxRecDepth 10000 in
set_option maxHeartbeats 4000000 in
theorem ev_W_declaration_x0 {sc : mg_Sc} {c z : Nat} {fL : Nat → Int64} {fD : Nat → UInt64} {a0 : Int32} {a1 : Int32} {u u1 : mg_Rg} (h : C_declaration a0 a1 u = some (.inr 0, u1)) : mg_Ev sc 4 240 0 (mg_entry 240 [.ref 1, .int a0, .int a1, .ref 51]) [] (hp u fL fD, c, z) (.inl (some (.int 1)), (hp u1 fL fD, c + 1, z + 6)) := by
  show mg_Ev _ _ _ 0 [some (.ref 1), some (.int a0), some (.int a1), some (.ref 51), none] [] _ _
  refine mg_Ev.go 5 (pc' := 5) (loc' := [some (.ref 1), some (.int a0), some (.int a1), some (.ref 51), none]) (st' := [.int a1, .int a0, .ref 1, .int 0, .ref 51]) (w' := (hp u fL fD, c, z)) rfl ?_
  refine mg_Ev.callH (y := 18) (as := [.ref 1, .int a0, .int a1]) (rest := [.int 0, .ref 51]) (i := 4) (pc' := 15) rfl rfl (Nat.le_of_ble_eq_true rfl) ((ev_C_declaration h).deep (by decide)) rfl ?_
  refine mg_Ev.go 1 (pc' := 16) (loc' := [some (.ref 1), some (.int a0), some (.int a1), some (.ref 51), none]) (st' := [.int 1]) (w' := (hp u1 fL fD, c + 1, z + 6)) rfl ?_
  exact mg_Ev.fin rfl rfl rfl
set_option maxRecDepth 10000 in
set_option maxHeartbeats 4000000 in
theorem ev_W_declaration_x1 {sc : mg_Sc} {c z : Nat} {fL : Nat → Int64} {fD : Nat → UInt64} {a0 : Int32} {a1 : Int32} {u u1 : mg_Rg} (h : C_declaration a0 a1 u = some (.inr 1, u1)) : mg_Ev sc 4 240 0 (mg_entry 240 [.ref 1, .int a0, .int a1, .ref 51]) [] (hp u fL fD, c, z) (.inl (some (.int 2)), (hp u1 fL fD, c + 1, z + 6)) := by
  show mg_Ev _ _ _ 0 [some (.ref 1), some (.int a0), some (.int a1), some (.ref 51), none] [] _ _
  refine mg_Ev.go 5 (pc' := 5) (loc' := [some (.ref 1), some (.int a0), some (.int a1), some (.ref 51), none]) (st' := [.int a1, .int a0, .ref 1, .int 0, .ref 51]) (w' := (hp u fL fD, c, z)) rfl ?_
  refine mg_Ev.callH (y := 18) (as := [.ref 1, .int a0, .int a1]) (rest := [.int 0, .ref 51]) (i := 4) (pc' := 19) rfl rfl (Nat.le_of_ble_eq_true rfl) ((ev_C_declaration h).deep (by decide)) rfl ?_
  refine mg_Ev.go 1 (pc' := 20) (loc' := [some (.ref 1), some (.int a0), some (.int a1), some (.ref 51), none]) (st' := [.int 2]) (w' := (hp u1 fL fD, c + 1, z + 6)) rfl ?_
  exact mg_Ev.fin rfl rfl rfl
set_option maxRecDepth 10000 in
set_option maxHeartbeats 4000000 in
theorem ev_W_claim_ok {sc : mg_Sc} {c z : Nat} {fL : Nat → Int64} {fD : Nat → UInt64} {a0 : Int32} {u u1 : mg_Rg} {v : Int32} (h : C_claim a0 u = some (.inl v, u1)) : mg_Ev sc 6 241 0 (mg_entry 241 [.ref 1, .int a0, .ref 51]) [] (hp u fL fD, c, z) (.inl (some (.int 0)), (hp u1 (vp_updL fL 0 v.toInt64) fD, c, z)) := by
  show mg_Ev _ _ _ 0 [some (.ref 1), some (.int a0), some (.ref 51), none] [] _ _
  refine mg_Ev.go 4 (pc' := 4) (loc' := [some (.ref 1), some (.int a0), some (.ref 51), none]) (st' := [.int a0, .ref 1, .int 0, .ref 51]) (w' := (hp u fL fD, c, z)) rfl ?_
  refine mg_Ev.call (y := 19) (as := [.ref 1, .int a0]) (rest := [.int 0, .ref 51]) (v := some (.int v)) (w1 := (hp u1 fL fD, c, z)) rfl rfl (Nat.le_of_ble_eq_true rfl) ((ev_C_claim h).deep (by decide)) ?_
  refine mg_Ev.go 1 (pc' := 8) (loc' := [some (.ref 1), some (.int a0), some (.ref 51), none]) (st' := [.long v.toInt64, .int 0, .ref 51]) (w' := (hp u1 fL fD, c, z)) rfl ?_
  refine mg_Ev.last (a := 50) (n := 1) (j := 0) rfl (hpg_50 _ _ _) (by decide) (by decide) (hpa_50 _ _ _ _ _ _ _) ?_
  refine mg_Ev.go 2 (pc' := 19) (loc' := [some (.ref 1), some (.int a0), some (.ref 51), none]) (st' := [.int 0]) (w' := (hp u1 (vp_updL fL 0 v.toInt64) fD, c, z)) rfl ?_
  exact mg_Ev.fin rfl rfl rfl
set_option maxRecDepth 10000 in
set_option maxHeartbeats 4000000 in
theorem ev_W_claim_x0 {sc : mg_Sc} {c z : Nat} {fL : Nat → Int64} {fD : Nat → UInt64} {a0 : Int32} {u u1 : mg_Rg} (h : C_claim a0 u = some (.inr 0, u1)) : mg_Ev sc 6 241 0 (mg_entry 241 [.ref 1, .int a0, .ref 51]) [] (hp u fL fD, c, z) (.inl (some (.int 1)), (hp u1 fL fD, c + 1, z + 6)) := by
  show mg_Ev _ _ _ 0 [some (.ref 1), some (.int a0), some (.ref 51), none] [] _ _
  refine mg_Ev.go 4 (pc' := 4) (loc' := [some (.ref 1), some (.int a0), some (.ref 51), none]) (st' := [.int a0, .ref 1, .int 0, .ref 51]) (w' := (hp u fL fD, c, z)) rfl ?_
  refine mg_Ev.callH (y := 19) (as := [.ref 1, .int a0]) (rest := [.int 0, .ref 51]) (i := 3) (pc' := 13) rfl rfl (Nat.le_of_ble_eq_true rfl) ((ev_C_claim h).deep (by decide)) rfl ?_
  refine mg_Ev.go 1 (pc' := 14) (loc' := [some (.ref 1), some (.int a0), some (.ref 51), none]) (st' := [.int 1]) (w' := (hp u1 fL fD, c + 1, z + 6)) rfl ?_
  exact mg_Ev.fin rfl rfl rfl
set_option maxRecDepth 10000 in
set_option maxHeartbeats 4000000 in
theorem ev_W_claim_x2 {sc : mg_Sc} {c z : Nat} {fL : Nat → Int64} {fD : Nat → UInt64} {a0 : Int32} {u u1 : mg_Rg} (h : C_claim a0 u = some (.inr 2, u1)) : mg_Ev sc 6 241 0 (mg_entry 241 [.ref 1, .int a0, .ref 51]) [] (hp u fL fD, c, z) (.inl (some (.int 2)), (hp u1 fL fD, c + 1, z + 6)) := by
  show mg_Ev _ _ _ 0 [some (.ref 1), some (.int a0), some (.ref 51), none] [] _ _
  refine mg_Ev.go 4 (pc' := 4) (loc' := [some (.ref 1), some (.int a0), some (.ref 51), none]) (st' := [.int a0, .ref 1, .int 0, .ref 51]) (w' := (hp u fL fD, c, z)) rfl ?_
  refine mg_Ev.callH (y := 19) (as := [.ref 1, .int a0]) (rest := [.int 0, .ref 51]) (i := 3) (pc' := 16) rfl rfl (Nat.le_of_ble_eq_true rfl) ((ev_C_claim h).deep (by decide)) rfl ?_
  refine mg_Ev.go 1 (pc' := 17) (loc' := [some (.ref 1), some (.int a0), some (.ref 51), none]) (st' := [.int 2]) (w' := (hp u1 fL fD, c + 1, z + 6)) rfl ?_
  exact mg_Ev.fin rfl rfl rfl
set_option maxRecDepth 10000 in
set_option maxHeartbeats 4000000 in
theorem ev_W_leftThen_ok {sc : mg_Sc} {c z : Nat} {fL : Nat → Int64} {fD : Nat → UInt64} {a0 : Int32} {u u1 : mg_Rg} {v : Int32} (h : C_leftThen a0 u = some (.inl v, u1)) : mg_Ev sc 7 242 0 (mg_entry 242 [.ref 1, .int a0, .ref 51]) [] (hp u fL fD, c, z) (.inl (some (.int 0)), (hp u1 (vp_updL fL 0 v.toInt64) fD, c, z)) := by
  show mg_Ev _ _ _ 0 [some (.ref 1), some (.int a0), some (.ref 51), none] [] _ _
  refine mg_Ev.go 4 (pc' := 4) (loc' := [some (.ref 1), some (.int a0), some (.ref 51), none]) (st' := [.int a0, .ref 1, .int 0, .ref 51]) (w' := (hp u fL fD, c, z)) rfl ?_
  refine mg_Ev.call (y := 20) (as := [.ref 1, .int a0]) (rest := [.int 0, .ref 51]) (v := some (.int v)) (w1 := (hp u1 fL fD, c, z)) rfl rfl (Nat.le_of_ble_eq_true rfl) ((ev_C_leftThen h).deep (by decide)) ?_
  refine mg_Ev.go 1 (pc' := 8) (loc' := [some (.ref 1), some (.int a0), some (.ref 51), none]) (st' := [.long v.toInt64, .int 0, .ref 51]) (w' := (hp u1 fL fD, c, z)) rfl ?_
  refine mg_Ev.last (a := 50) (n := 1) (j := 0) rfl (hpg_50 _ _ _) (by decide) (by decide) (hpa_50 _ _ _ _ _ _ _) ?_
  refine mg_Ev.go 2 (pc' := 16) (loc' := [some (.ref 1), some (.int a0), some (.ref 51), none]) (st' := [.int 0]) (w' := (hp u1 (vp_updL fL 0 v.toInt64) fD, c, z)) rfl ?_
  exact mg_Ev.fin rfl rfl rfl
set_option maxRecDepth 10000 in
set_option maxHeartbeats 4000000 in
theorem ev_W_leftThen_x0 {sc : mg_Sc} {c z : Nat} {fL : Nat → Int64} {fD : Nat → UInt64} {a0 : Int32} {u u1 : mg_Rg} (h : C_leftThen a0 u = some (.inr 0, u1)) : mg_Ev sc 7 242 0 (mg_entry 242 [.ref 1, .int a0, .ref 51]) [] (hp u fL fD, c, z) (.inl (some (.int 1)), (hp u1 fL fD, c + 1, z + 6)) := by
  show mg_Ev _ _ _ 0 [some (.ref 1), some (.int a0), some (.ref 51), none] [] _ _
  refine mg_Ev.go 4 (pc' := 4) (loc' := [some (.ref 1), some (.int a0), some (.ref 51), none]) (st' := [.int a0, .ref 1, .int 0, .ref 51]) (w' := (hp u fL fD, c, z)) rfl ?_
  refine mg_Ev.callH (y := 20) (as := [.ref 1, .int a0]) (rest := [.int 0, .ref 51]) (i := 3) (pc' := 13) rfl rfl (Nat.le_of_ble_eq_true rfl) ((ev_C_leftThen h).deep (by decide)) rfl ?_
  refine mg_Ev.go 1 (pc' := 14) (loc' := [some (.ref 1), some (.int a0), some (.ref 51), none]) (st' := [.int 1]) (w' := (hp u1 fL fD, c + 1, z + 6)) rfl ?_
  exact mg_Ev.fin rfl rfl rfl
set_option maxRecDepth 10000 in
set_option maxHeartbeats 4000000 in
theorem ev_W_pass_ok {sc : mg_Sc} {c z : Nat} {fL : Nat → Int64} {fD : Nat → UInt64} {a0 : Int32} {u u1 : mg_Rg} {v : Int32} (h : C_pass a0 u = some (.inl v, u1)) : mg_Ev sc 7 243 0 (mg_entry 243 [.ref 1, .int a0, .ref 51]) [] (hp u fL fD, c, z) (.inl (some (.int 0)), (hp u1 (vp_updL fL 0 v.toInt64) fD, c, z)) := by
  show mg_Ev _ _ _ 0 [some (.ref 1), some (.int a0), some (.ref 51), none] [] _ _
  refine mg_Ev.go 4 (pc' := 4) (loc' := [some (.ref 1), some (.int a0), some (.ref 51), none]) (st' := [.int a0, .ref 1, .int 0, .ref 51]) (w' := (hp u fL fD, c, z)) rfl ?_
  refine mg_Ev.call (y := 21) (as := [.ref 1, .int a0]) (rest := [.int 0, .ref 51]) (v := some (.int v)) (w1 := (hp u1 fL fD, c, z)) rfl rfl (Nat.le_of_ble_eq_true rfl) ((ev_C_pass h).deep (by decide)) ?_
  refine mg_Ev.go 1 (pc' := 8) (loc' := [some (.ref 1), some (.int a0), some (.ref 51), none]) (st' := [.long v.toInt64, .int 0, .ref 51]) (w' := (hp u1 fL fD, c, z)) rfl ?_
  refine mg_Ev.last (a := 50) (n := 1) (j := 0) rfl (hpg_50 _ _ _) (by decide) (by decide) (hpa_50 _ _ _ _ _ _ _) ?_
  refine mg_Ev.go 2 (pc' := 19) (loc' := [some (.ref 1), some (.int a0), some (.ref 51), none]) (st' := [.int 0]) (w' := (hp u1 (vp_updL fL 0 v.toInt64) fD, c, z)) rfl ?_
  exact mg_Ev.fin rfl rfl rfl
set_option maxRecDepth 10000 in
set_option maxHeartbeats 4000000 in
theorem ev_W_pass_x1 {sc : mg_Sc} {c z : Nat} {fL : Nat → Int64} {fD : Nat → UInt64} {a0 : Int32} {u u1 : mg_Rg} (h : C_pass a0 u = some (.inr 1, u1)) : mg_Ev sc 7 243 0 (mg_entry 243 [.ref 1, .int a0, .ref 51]) [] (hp u fL fD, c, z) (.inl (some (.int 1)), (hp u1 fL fD, c + 1, z + 6)) := by
  show mg_Ev _ _ _ 0 [some (.ref 1), some (.int a0), some (.ref 51), none] [] _ _
  refine mg_Ev.go 4 (pc' := 4) (loc' := [some (.ref 1), some (.int a0), some (.ref 51), none]) (st' := [.int a0, .ref 1, .int 0, .ref 51]) (w' := (hp u fL fD, c, z)) rfl ?_
  refine mg_Ev.callH (y := 21) (as := [.ref 1, .int a0]) (rest := [.int 0, .ref 51]) (i := 3) (pc' := 13) rfl rfl (Nat.le_of_ble_eq_true rfl) ((ev_C_pass h).deep (by decide)) rfl ?_
  refine mg_Ev.go 1 (pc' := 14) (loc' := [some (.ref 1), some (.int a0), some (.ref 51), none]) (st' := [.int 1]) (w' := (hp u1 fL fD, c + 1, z + 6)) rfl ?_
  exact mg_Ev.fin rfl rfl rfl
set_option maxRecDepth 10000 in
set_option maxHeartbeats 4000000 in
theorem ev_W_pass_x2 {sc : mg_Sc} {c z : Nat} {fL : Nat → Int64} {fD : Nat → UInt64} {a0 : Int32} {u u1 : mg_Rg} (h : C_pass a0 u = some (.inr 2, u1)) : mg_Ev sc 7 243 0 (mg_entry 243 [.ref 1, .int a0, .ref 51]) [] (hp u fL fD, c, z) (.inl (some (.int 2)), (hp u1 fL fD, c + 1, z + 6)) := by
  show mg_Ev _ _ _ 0 [some (.ref 1), some (.int a0), some (.ref 51), none] [] _ _
  refine mg_Ev.go 4 (pc' := 4) (loc' := [some (.ref 1), some (.int a0), some (.ref 51), none]) (st' := [.int a0, .ref 1, .int 0, .ref 51]) (w' := (hp u fL fD, c, z)) rfl ?_
  refine mg_Ev.callH (y := 21) (as := [.ref 1, .int a0]) (rest := [.int 0, .ref 51]) (i := 3) (pc' := 16) rfl rfl (Nat.le_of_ble_eq_true rfl) ((ev_C_pass h).deep (by decide)) rfl ?_
  refine mg_Ev.go 1 (pc' := 17) (loc' := [some (.ref 1), some (.int a0), some (.ref 51), none]) (st' := [.int 2]) (w' := (hp u1 fL fD, c + 1, z + 6)) rfl ?_
  exact mg_Ev.fin rfl rfl rfl
set_option maxRecDepth 10000 in
set_option maxHeartbeats 4000000 in
theorem ev_W_refund_ok {sc : mg_Sc} {c z : Nat} {fL : Nat → Int64} {fD : Nat → UInt64} {a0 : Int32} {u u1 : mg_Rg} {v : Int32} (h : C_refund a0 u = some (.inl v, u1)) : mg_Ev sc 7 244 0 (mg_entry 244 [.ref 1, .int a0, .ref 51]) [] (hp u fL fD, c, z) (.inl (some (.int 0)), (hp u1 (vp_updL fL 0 v.toInt64) fD, c, z)) := by
  show mg_Ev _ _ _ 0 [some (.ref 1), some (.int a0), some (.ref 51), none] [] _ _
  refine mg_Ev.go 4 (pc' := 4) (loc' := [some (.ref 1), some (.int a0), some (.ref 51), none]) (st' := [.int a0, .ref 1, .int 0, .ref 51]) (w' := (hp u fL fD, c, z)) rfl ?_
  refine mg_Ev.call (y := 22) (as := [.ref 1, .int a0]) (rest := [.int 0, .ref 51]) (v := some (.int v)) (w1 := (hp u1 fL fD, c, z)) rfl rfl (Nat.le_of_ble_eq_true rfl) ((ev_C_refund h).deep (by decide)) ?_
  refine mg_Ev.go 1 (pc' := 8) (loc' := [some (.ref 1), some (.int a0), some (.ref 51), none]) (st' := [.long v.toInt64, .int 0, .ref 51]) (w' := (hp u1 fL fD, c, z)) rfl ?_
  refine mg_Ev.last (a := 50) (n := 1) (j := 0) rfl (hpg_50 _ _ _) (by decide) (by decide) (hpa_50 _ _ _ _ _ _ _) ?_
  refine mg_Ev.go 2 (pc' := 19) (loc' := [some (.ref 1), some (.int a0), some (.ref 51), none]) (st' := [.int 0]) (w' := (hp u1 (vp_updL fL 0 v.toInt64) fD, c, z)) rfl ?_
  exact mg_Ev.fin rfl rfl rfl
set_option maxRecDepth 10000 in
set_option maxHeartbeats 4000000 in
theorem ev_W_refund_x0 {sc : mg_Sc} {c z : Nat} {fL : Nat → Int64} {fD : Nat → UInt64} {a0 : Int32} {u u1 : mg_Rg} (h : C_refund a0 u = some (.inr 0, u1)) : mg_Ev sc 7 244 0 (mg_entry 244 [.ref 1, .int a0, .ref 51]) [] (hp u fL fD, c, z) (.inl (some (.int 1)), (hp u1 fL fD, c + 1, z + 6)) := by
  show mg_Ev _ _ _ 0 [some (.ref 1), some (.int a0), some (.ref 51), none] [] _ _
  refine mg_Ev.go 4 (pc' := 4) (loc' := [some (.ref 1), some (.int a0), some (.ref 51), none]) (st' := [.int a0, .ref 1, .int 0, .ref 51]) (w' := (hp u fL fD, c, z)) rfl ?_
  refine mg_Ev.callH (y := 22) (as := [.ref 1, .int a0]) (rest := [.int 0, .ref 51]) (i := 3) (pc' := 13) rfl rfl (Nat.le_of_ble_eq_true rfl) ((ev_C_refund h).deep (by decide)) rfl ?_
  refine mg_Ev.go 1 (pc' := 14) (loc' := [some (.ref 1), some (.int a0), some (.ref 51), none]) (st' := [.int 1]) (w' := (hp u1 fL fD, c + 1, z + 6)) rfl ?_
  exact mg_Ev.fin rfl rfl rfl
set_option maxRecDepth 10000 in
set_option maxHeartbeats 4000000 in
theorem ev_W_refund_x4 {sc : mg_Sc} {c z : Nat} {fL : Nat → Int64} {fD : Nat → UInt64} {a0 : Int32} {u u1 : mg_Rg} (h : C_refund a0 u = some (.inr 4, u1)) : mg_Ev sc 7 244 0 (mg_entry 244 [.ref 1, .int a0, .ref 51]) [] (hp u fL fD, c, z) (.inl (some (.int 2)), (hp u1 fL fD, c + 1, z + 6)) := by
  show mg_Ev _ _ _ 0 [some (.ref 1), some (.int a0), some (.ref 51), none] [] _ _
  refine mg_Ev.go 4 (pc' := 4) (loc' := [some (.ref 1), some (.int a0), some (.ref 51), none]) (st' := [.int a0, .ref 1, .int 0, .ref 51]) (w' := (hp u fL fD, c, z)) rfl ?_
  refine mg_Ev.callH (y := 22) (as := [.ref 1, .int a0]) (rest := [.int 0, .ref 51]) (i := 3) (pc' := 16) rfl rfl (Nat.le_of_ble_eq_true rfl) ((ev_C_refund h).deep (by decide)) rfl ?_
  refine mg_Ev.go 1 (pc' := 17) (loc' := [some (.ref 1), some (.int a0), some (.ref 51), none]) (st' := [.int 2]) (w' := (hp u1 fL fD, c + 1, z + 6)) rfl ?_
  exact mg_Ev.fin rfl rfl rfl
set_option maxRecDepth 10000 in
set_option maxHeartbeats 4000000 in
theorem ev_W_prove_ok {sc : mg_Sc} {c z : Nat} {fL : Nat → Int64} {fD : Nat → UInt64} {a0 : Int32} {a1 : Int32} {u u1 : mg_Rg} {v : Int32} (h : C_prove a0 a1 u = some (.inl v, u1)) : mg_Ev sc 7 245 0 (mg_entry 245 [.ref 1, .int a0, .int a1, .ref 51]) [] (hp u fL fD, c, z) (.inl (some (.int 0)), (hp u1 (vp_updL fL 0 v.toInt64) fD, c, z)) := by
  show mg_Ev _ _ _ 0 [some (.ref 1), some (.int a0), some (.int a1), some (.ref 51), none] [] _ _
  refine mg_Ev.go 5 (pc' := 5) (loc' := [some (.ref 1), some (.int a0), some (.int a1), some (.ref 51), none]) (st' := [.int a1, .int a0, .ref 1, .int 0, .ref 51]) (w' := (hp u fL fD, c, z)) rfl ?_
  refine mg_Ev.call (y := 23) (as := [.ref 1, .int a0, .int a1]) (rest := [.int 0, .ref 51]) (v := some (.int v)) (w1 := (hp u1 fL fD, c, z)) rfl rfl (Nat.le_of_ble_eq_true rfl) ((ev_C_prove h).deep (by decide)) ?_
  refine mg_Ev.go 1 (pc' := 9) (loc' := [some (.ref 1), some (.int a0), some (.int a1), some (.ref 51), none]) (st' := [.long v.toInt64, .int 0, .ref 51]) (w' := (hp u1 fL fD, c, z)) rfl ?_
  refine mg_Ev.last (a := 50) (n := 1) (j := 0) rfl (hpg_50 _ _ _) (by decide) (by decide) (hpa_50 _ _ _ _ _ _ _) ?_
  refine mg_Ev.go 2 (pc' := 26) (loc' := [some (.ref 1), some (.int a0), some (.int a1), some (.ref 51), none]) (st' := [.int 0]) (w' := (hp u1 (vp_updL fL 0 v.toInt64) fD, c, z)) rfl ?_
  exact mg_Ev.fin rfl rfl rfl
set_option maxRecDepth 10000 in
set_option maxHeartbeats 4000000 in
theorem ev_W_prove_x0 {sc : mg_Sc} {c z : Nat} {fL : Nat → Int64} {fD : Nat → UInt64} {a0 : Int32} {a1 : Int32} {u u1 : mg_Rg} (h : C_prove a0 a1 u = some (.inr 0, u1)) : mg_Ev sc 7 245 0 (mg_entry 245 [.ref 1, .int a0, .int a1, .ref 51]) [] (hp u fL fD, c, z) (.inl (some (.int 1)), (hp u1 fL fD, c + 1, z + 6)) := by
  show mg_Ev _ _ _ 0 [some (.ref 1), some (.int a0), some (.int a1), some (.ref 51), none] [] _ _
  refine mg_Ev.go 5 (pc' := 5) (loc' := [some (.ref 1), some (.int a0), some (.int a1), some (.ref 51), none]) (st' := [.int a1, .int a0, .ref 1, .int 0, .ref 51]) (w' := (hp u fL fD, c, z)) rfl ?_
  refine mg_Ev.callH (y := 23) (as := [.ref 1, .int a0, .int a1]) (rest := [.int 0, .ref 51]) (i := 4) (pc' := 15) rfl rfl (Nat.le_of_ble_eq_true rfl) ((ev_C_prove h).deep (by decide)) rfl ?_
  refine mg_Ev.go 1 (pc' := 16) (loc' := [some (.ref 1), some (.int a0), some (.int a1), some (.ref 51), none]) (st' := [.int 1]) (w' := (hp u1 fL fD, c + 1, z + 6)) rfl ?_
  exact mg_Ev.fin rfl rfl rfl
set_option maxRecDepth 10000 in
set_option maxHeartbeats 4000000 in
theorem ev_W_prove_x1 {sc : mg_Sc} {c z : Nat} {fL : Nat → Int64} {fD : Nat → UInt64} {a0 : Int32} {a1 : Int32} {u u1 : mg_Rg} (h : C_prove a0 a1 u = some (.inr 1, u1)) : mg_Ev sc 7 245 0 (mg_entry 245 [.ref 1, .int a0, .int a1, .ref 51]) [] (hp u fL fD, c, z) (.inl (some (.int 2)), (hp u1 fL fD, c + 1, z + 6)) := by
  show mg_Ev _ _ _ 0 [some (.ref 1), some (.int a0), some (.int a1), some (.ref 51), none] [] _ _
  refine mg_Ev.go 5 (pc' := 5) (loc' := [some (.ref 1), some (.int a0), some (.int a1), some (.ref 51), none]) (st' := [.int a1, .int a0, .ref 1, .int 0, .ref 51]) (w' := (hp u fL fD, c, z)) rfl ?_
  refine mg_Ev.callH (y := 23) (as := [.ref 1, .int a0, .int a1]) (rest := [.int 0, .ref 51]) (i := 4) (pc' := 19) rfl rfl (Nat.le_of_ble_eq_true rfl) ((ev_C_prove h).deep (by decide)) rfl ?_
  refine mg_Ev.go 1 (pc' := 20) (loc' := [some (.ref 1), some (.int a0), some (.int a1), some (.ref 51), none]) (st' := [.int 2]) (w' := (hp u1 fL fD, c + 1, z + 6)) rfl ?_
  exact mg_Ev.fin rfl rfl rfl
set_option maxRecDepth 10000 in
set_option maxHeartbeats 4000000 in
theorem ev_W_prove_x4 {sc : mg_Sc} {c z : Nat} {fL : Nat → Int64} {fD : Nat → UInt64} {a0 : Int32} {a1 : Int32} {u u1 : mg_Rg} (h : C_prove a0 a1 u = some (.inr 4, u1)) : mg_Ev sc 7 245 0 (mg_entry 245 [.ref 1, .int a0, .int a1, .ref 51]) [] (hp u fL fD, c, z) (.inl (some (.int 3)), (hp u1 fL fD, c + 1, z + 6)) := by
  show mg_Ev _ _ _ 0 [some (.ref 1), some (.int a0), some (.int a1), some (.ref 51), none] [] _ _
  refine mg_Ev.go 5 (pc' := 5) (loc' := [some (.ref 1), some (.int a0), some (.int a1), some (.ref 51), none]) (st' := [.int a1, .int a0, .ref 1, .int 0, .ref 51]) (w' := (hp u fL fD, c, z)) rfl ?_
  refine mg_Ev.callH (y := 23) (as := [.ref 1, .int a0, .int a1]) (rest := [.int 0, .ref 51]) (i := 4) (pc' := 23) rfl rfl (Nat.le_of_ble_eq_true rfl) ((ev_C_prove h).deep (by decide)) rfl ?_
  refine mg_Ev.go 1 (pc' := 24) (loc' := [some (.ref 1), some (.int a0), some (.int a1), some (.ref 51), none]) (st' := [.int 3]) (w' := (hp u1 fL fD, c + 1, z + 6)) rfl ?_
  exact mg_Ev.fin rfl rfl rfl
set_option maxRecDepth 10000 in
set_option maxHeartbeats 4000000 in
theorem ev_W_refusal_ok {sc : mg_Sc} {c z : Nat} {fL : Nat → Int64} {fD : Nat → UInt64} {u u1 : mg_Rg} {v : Int32} (h : C_refusal u = some (.inl v, u1)) : mg_Ev sc 1 246 0 (mg_entry 246 [.ref 1, .ref 51]) [] (hp u fL fD, c, z) (.inl (some (.int 0)), (hp u1 (vp_updL fL 0 v.toInt64) fD, c, z)) := by
  show mg_Ev _ _ _ 0 [some (.ref 1), some (.ref 51), none] [] _ _
  refine mg_Ev.go 3 (pc' := 3) (loc' := [some (.ref 1), some (.ref 51), none]) (st' := [.ref 1, .int 0, .ref 51]) (w' := (hp u fL fD, c, z)) rfl ?_
  refine mg_Ev.call (y := 24) (as := [.ref 1]) (rest := [.int 0, .ref 51]) (v := some (.int v)) (w1 := (hp u1 fL fD, c, z)) rfl rfl (Nat.le_of_ble_eq_true rfl) ((ev_C_refusal h).deep (by decide)) ?_
  refine mg_Ev.go 1 (pc' := 7) (loc' := [some (.ref 1), some (.ref 51), none]) (st' := [.long v.toInt64, .int 0, .ref 51]) (w' := (hp u1 fL fD, c, z)) rfl ?_
  refine mg_Ev.last (a := 50) (n := 1) (j := 0) rfl (hpg_50 _ _ _) (by decide) (by decide) (hpa_50 _ _ _ _ _ _ _) ?_
  refine mg_Ev.go 2 (pc' := 15) (loc' := [some (.ref 1), some (.ref 51), none]) (st' := [.int 0]) (w' := (hp u1 (vp_updL fL 0 v.toInt64) fD, c, z)) rfl ?_
  exact mg_Ev.fin rfl rfl rfl
set_option maxRecDepth 10000 in
set_option maxHeartbeats 4000000 in
theorem ev_W_refusal_x3 {sc : mg_Sc} {c z : Nat} {fL : Nat → Int64} {fD : Nat → UInt64} {u u1 : mg_Rg} (h : C_refusal u = some (.inr 3, u1)) : mg_Ev sc 1 246 0 (mg_entry 246 [.ref 1, .ref 51]) [] (hp u fL fD, c, z) (.inl (some (.int 1)), (hp u1 fL fD, c + 1, z + 6)) := by
  show mg_Ev _ _ _ 0 [some (.ref 1), some (.ref 51), none] [] _ _
  refine mg_Ev.go 3 (pc' := 3) (loc' := [some (.ref 1), some (.ref 51), none]) (st' := [.ref 1, .int 0, .ref 51]) (w' := (hp u fL fD, c, z)) rfl ?_
  refine mg_Ev.callH (y := 24) (as := [.ref 1]) (rest := [.int 0, .ref 51]) (i := 2) (pc' := 12) rfl rfl (Nat.le_of_ble_eq_true rfl) ((ev_C_refusal h).deep (by decide)) rfl ?_
  refine mg_Ev.go 1 (pc' := 13) (loc' := [some (.ref 1), some (.ref 51), none]) (st' := [.int 1]) (w' := (hp u1 fL fD, c + 1, z + 6)) rfl ?_
  exact mg_Ev.fin rfl rfl rfl
set_option maxRecDepth 10000 in
set_option maxHeartbeats 4000000 in
theorem ev_W_account_ok {sc : mg_Sc} {c z : Nat} {fL : Nat → Int64} {fD : Nat → UInt64} {a0 : Int32} {u u1 : mg_Rg} {v : Int32} (h : C_account a0 u = some (.inl v, u1)) : mg_Ev sc 4 247 0 (mg_entry 247 [.ref 1, .int a0, .ref 51]) [] (hp u fL fD, c, z) (.inl (some (.int 0)), (hp u1 (vp_updL fL 0 v.toInt64) fD, c, z)) := by
  show mg_Ev _ _ _ 0 [some (.ref 1), some (.int a0), some (.ref 51), none] [] _ _
  refine mg_Ev.go 4 (pc' := 4) (loc' := [some (.ref 1), some (.int a0), some (.ref 51), none]) (st' := [.int a0, .ref 1, .int 0, .ref 51]) (w' := (hp u fL fD, c, z)) rfl ?_
  refine mg_Ev.call (y := 25) (as := [.ref 1, .int a0]) (rest := [.int 0, .ref 51]) (v := some (.int v)) (w1 := (hp u1 fL fD, c, z)) rfl rfl (Nat.le_of_ble_eq_true rfl) ((ev_C_account h).deep (by decide)) ?_
  refine mg_Ev.go 1 (pc' := 8) (loc' := [some (.ref 1), some (.int a0), some (.ref 51), none]) (st' := [.long v.toInt64, .int 0, .ref 51]) (w' := (hp u1 fL fD, c, z)) rfl ?_
  refine mg_Ev.last (a := 50) (n := 1) (j := 0) rfl (hpg_50 _ _ _) (by decide) (by decide) (hpa_50 _ _ _ _ _ _ _) ?_
  refine mg_Ev.go 2 (pc' := 16) (loc' := [some (.ref 1), some (.int a0), some (.ref 51), none]) (st' := [.int 0]) (w' := (hp u1 (vp_updL fL 0 v.toInt64) fD, c, z)) rfl ?_
  exact mg_Ev.fin rfl rfl rfl
set_option maxRecDepth 10000 in
set_option maxHeartbeats 4000000 in
theorem ev_W_account_x1 {sc : mg_Sc} {c z : Nat} {fL : Nat → Int64} {fD : Nat → UInt64} {a0 : Int32} {u u1 : mg_Rg} (h : C_account a0 u = some (.inr 1, u1)) : mg_Ev sc 4 247 0 (mg_entry 247 [.ref 1, .int a0, .ref 51]) [] (hp u fL fD, c, z) (.inl (some (.int 1)), (hp u1 fL fD, c + 1, z + 6)) := by
  show mg_Ev _ _ _ 0 [some (.ref 1), some (.int a0), some (.ref 51), none] [] _ _
  refine mg_Ev.go 4 (pc' := 4) (loc' := [some (.ref 1), some (.int a0), some (.ref 51), none]) (st' := [.int a0, .ref 1, .int 0, .ref 51]) (w' := (hp u fL fD, c, z)) rfl ?_
  refine mg_Ev.callH (y := 25) (as := [.ref 1, .int a0]) (rest := [.int 0, .ref 51]) (i := 3) (pc' := 13) rfl rfl (Nat.le_of_ble_eq_true rfl) ((ev_C_account h).deep (by decide)) rfl ?_
  refine mg_Ev.go 1 (pc' := 14) (loc' := [some (.ref 1), some (.int a0), some (.ref 51), none]) (st' := [.int 1]) (w' := (hp u1 fL fD, c + 1, z + 6)) rfl ?_
  exact mg_Ev.fin rfl rfl rfl
set_option maxRecDepth 10000 in
set_option maxHeartbeats 4000000 in
theorem ev_W_kept_ok {sc : mg_Sc} {c z : Nat} {fL : Nat → Int64} {fD : Nat → UInt64} {a0 : Int32} {u u1 : mg_Rg} {v : Int32} (h : C_kept a0 u = some (.inl v, u1)) : mg_Ev sc 4 248 0 (mg_entry 248 [.ref 1, .int a0, .ref 51]) [] (hp u fL fD, c, z) (.inl (some (.int 0)), (hp u1 (vp_updL fL 0 v.toInt64) fD, c, z)) := by
  show mg_Ev _ _ _ 0 [some (.ref 1), some (.int a0), some (.ref 51), none] [] _ _
  refine mg_Ev.go 4 (pc' := 4) (loc' := [some (.ref 1), some (.int a0), some (.ref 51), none]) (st' := [.int a0, .ref 1, .int 0, .ref 51]) (w' := (hp u fL fD, c, z)) rfl ?_
  refine mg_Ev.call (y := 26) (as := [.ref 1, .int a0]) (rest := [.int 0, .ref 51]) (v := some (.int v)) (w1 := (hp u1 fL fD, c, z)) rfl rfl (Nat.le_of_ble_eq_true rfl) ((ev_C_kept h).deep (by decide)) ?_
  refine mg_Ev.go 1 (pc' := 8) (loc' := [some (.ref 1), some (.int a0), some (.ref 51), none]) (st' := [.long v.toInt64, .int 0, .ref 51]) (w' := (hp u1 fL fD, c, z)) rfl ?_
  refine mg_Ev.last (a := 50) (n := 1) (j := 0) rfl (hpg_50 _ _ _) (by decide) (by decide) (hpa_50 _ _ _ _ _ _ _) ?_
  refine mg_Ev.go 2 (pc' := 16) (loc' := [some (.ref 1), some (.int a0), some (.ref 51), none]) (st' := [.int 0]) (w' := (hp u1 (vp_updL fL 0 v.toInt64) fD, c, z)) rfl ?_
  exact mg_Ev.fin rfl rfl rfl
set_option maxRecDepth 10000 in
set_option maxHeartbeats 4000000 in
theorem ev_W_kept_x0 {sc : mg_Sc} {c z : Nat} {fL : Nat → Int64} {fD : Nat → UInt64} {a0 : Int32} {u u1 : mg_Rg} (h : C_kept a0 u = some (.inr 0, u1)) : mg_Ev sc 4 248 0 (mg_entry 248 [.ref 1, .int a0, .ref 51]) [] (hp u fL fD, c, z) (.inl (some (.int 1)), (hp u1 fL fD, c + 1, z + 6)) := by
  show mg_Ev _ _ _ 0 [some (.ref 1), some (.int a0), some (.ref 51), none] [] _ _
  refine mg_Ev.go 4 (pc' := 4) (loc' := [some (.ref 1), some (.int a0), some (.ref 51), none]) (st' := [.int a0, .ref 1, .int 0, .ref 51]) (w' := (hp u fL fD, c, z)) rfl ?_
  refine mg_Ev.callH (y := 26) (as := [.ref 1, .int a0]) (rest := [.int 0, .ref 51]) (i := 3) (pc' := 13) rfl rfl (Nat.le_of_ble_eq_true rfl) ((ev_C_kept h).deep (by decide)) rfl ?_
  refine mg_Ev.go 1 (pc' := 14) (loc' := [some (.ref 1), some (.int a0), some (.ref 51), none]) (st' := [.int 1]) (w' := (hp u1 fL fD, c + 1, z + 6)) rfl ?_
  exact mg_Ev.fin rfl rfl rfl
set_option maxRecDepth 10000 in
set_option maxHeartbeats 4000000 in
theorem ev_W_keptAgain_ok {sc : mg_Sc} {c z : Nat} {fL : Nat → Int64} {fD : Nat → UInt64} {a0 : Int32} {u u1 : mg_Rg} {v : Int32} (h : C_keptAgain a0 u = some (.inl v, u1)) : mg_Ev sc 4 249 0 (mg_entry 249 [.ref 1, .int a0, .ref 51]) [] (hp u fL fD, c, z) (.inl (some (.int 0)), (hp u1 (vp_updL fL 0 v.toInt64) fD, c, z)) := by
  show mg_Ev _ _ _ 0 [some (.ref 1), some (.int a0), some (.ref 51), none] [] _ _
  refine mg_Ev.go 4 (pc' := 4) (loc' := [some (.ref 1), some (.int a0), some (.ref 51), none]) (st' := [.int a0, .ref 1, .int 0, .ref 51]) (w' := (hp u fL fD, c, z)) rfl ?_
  refine mg_Ev.call (y := 27) (as := [.ref 1, .int a0]) (rest := [.int 0, .ref 51]) (v := some (.int v)) (w1 := (hp u1 fL fD, c, z)) rfl rfl (Nat.le_of_ble_eq_true rfl) ((ev_C_keptAgain h).deep (by decide)) ?_
  refine mg_Ev.go 1 (pc' := 8) (loc' := [some (.ref 1), some (.int a0), some (.ref 51), none]) (st' := [.long v.toInt64, .int 0, .ref 51]) (w' := (hp u1 fL fD, c, z)) rfl ?_
  refine mg_Ev.last (a := 50) (n := 1) (j := 0) rfl (hpg_50 _ _ _) (by decide) (by decide) (hpa_50 _ _ _ _ _ _ _) ?_
  refine mg_Ev.go 2 (pc' := 16) (loc' := [some (.ref 1), some (.int a0), some (.ref 51), none]) (st' := [.int 0]) (w' := (hp u1 (vp_updL fL 0 v.toInt64) fD, c, z)) rfl ?_
  exact mg_Ev.fin rfl rfl rfl
set_option maxRecDepth 10000 in
set_option maxHeartbeats 4000000 in
theorem ev_W_keptAgain_x0 {sc : mg_Sc} {c z : Nat} {fL : Nat → Int64} {fD : Nat → UInt64} {a0 : Int32} {u u1 : mg_Rg} (h : C_keptAgain a0 u = some (.inr 0, u1)) : mg_Ev sc 4 249 0 (mg_entry 249 [.ref 1, .int a0, .ref 51]) [] (hp u fL fD, c, z) (.inl (some (.int 1)), (hp u1 fL fD, c + 1, z + 6)) := by
  show mg_Ev _ _ _ 0 [some (.ref 1), some (.int a0), some (.ref 51), none] [] _ _
  refine mg_Ev.go 4 (pc' := 4) (loc' := [some (.ref 1), some (.int a0), some (.ref 51), none]) (st' := [.int a0, .ref 1, .int 0, .ref 51]) (w' := (hp u fL fD, c, z)) rfl ?_
  refine mg_Ev.callH (y := 27) (as := [.ref 1, .int a0]) (rest := [.int 0, .ref 51]) (i := 3) (pc' := 13) rfl rfl (Nat.le_of_ble_eq_true rfl) ((ev_C_keptAgain h).deep (by decide)) rfl ?_
  refine mg_Ev.go 1 (pc' := 14) (loc' := [some (.ref 1), some (.int a0), some (.ref 51), none]) (st' := [.int 1]) (w' := (hp u1 fL fD, c + 1, z + 6)) rfl ?_
  exact mg_Ev.fin rfl rfl rfl
set_option maxRecDepth 10000 in
set_option maxHeartbeats 4000000 in
theorem ev_W_keptUnder_ok {sc : mg_Sc} {c z : Nat} {fL : Nat → Int64} {fD : Nat → UInt64} {a0 : Int32} {u u1 : mg_Rg} {v : Int32} (h : C_keptUnder a0 u = some (.inl v, u1)) : mg_Ev sc 4 250 0 (mg_entry 250 [.ref 1, .int a0, .ref 51]) [] (hp u fL fD, c, z) (.inl (some (.int 0)), (hp u1 (vp_updL fL 0 v.toInt64) fD, c, z)) := by
  show mg_Ev _ _ _ 0 [some (.ref 1), some (.int a0), some (.ref 51), none] [] _ _
  refine mg_Ev.go 4 (pc' := 4) (loc' := [some (.ref 1), some (.int a0), some (.ref 51), none]) (st' := [.int a0, .ref 1, .int 0, .ref 51]) (w' := (hp u fL fD, c, z)) rfl ?_
  refine mg_Ev.call (y := 28) (as := [.ref 1, .int a0]) (rest := [.int 0, .ref 51]) (v := some (.int v)) (w1 := (hp u1 fL fD, c, z)) rfl rfl (Nat.le_of_ble_eq_true rfl) ((ev_C_keptUnder h).deep (by decide)) ?_
  refine mg_Ev.go 1 (pc' := 8) (loc' := [some (.ref 1), some (.int a0), some (.ref 51), none]) (st' := [.long v.toInt64, .int 0, .ref 51]) (w' := (hp u1 fL fD, c, z)) rfl ?_
  refine mg_Ev.last (a := 50) (n := 1) (j := 0) rfl (hpg_50 _ _ _) (by decide) (by decide) (hpa_50 _ _ _ _ _ _ _) ?_
  refine mg_Ev.go 2 (pc' := 16) (loc' := [some (.ref 1), some (.int a0), some (.ref 51), none]) (st' := [.int 0]) (w' := (hp u1 (vp_updL fL 0 v.toInt64) fD, c, z)) rfl ?_
  exact mg_Ev.fin rfl rfl rfl
set_option maxRecDepth 10000 in
set_option maxHeartbeats 4000000 in
theorem ev_W_keptUnder_x0 {sc : mg_Sc} {c z : Nat} {fL : Nat → Int64} {fD : Nat → UInt64} {a0 : Int32} {u u1 : mg_Rg} (h : C_keptUnder a0 u = some (.inr 0, u1)) : mg_Ev sc 4 250 0 (mg_entry 250 [.ref 1, .int a0, .ref 51]) [] (hp u fL fD, c, z) (.inl (some (.int 1)), (hp u1 fL fD, c + 1, z + 6)) := by
  show mg_Ev _ _ _ 0 [some (.ref 1), some (.int a0), some (.ref 51), none] [] _ _
  refine mg_Ev.go 4 (pc' := 4) (loc' := [some (.ref 1), some (.int a0), some (.ref 51), none]) (st' := [.int a0, .ref 1, .int 0, .ref 51]) (w' := (hp u fL fD, c, z)) rfl ?_
  refine mg_Ev.callH (y := 28) (as := [.ref 1, .int a0]) (rest := [.int 0, .ref 51]) (i := 3) (pc' := 13) rfl rfl (Nat.le_of_ble_eq_true rfl) ((ev_C_keptUnder h).deep (by decide)) rfl ?_
  refine mg_Ev.go 1 (pc' := 14) (loc' := [some (.ref 1), some (.int a0), some (.ref 51), none]) (st' := [.int 1]) (w' := (hp u1 fL fD, c + 1, z + 6)) rfl ?_
  exact mg_Ev.fin rfl rfl rfl
set_option maxRecDepth 10000 in
set_option maxHeartbeats 4000000 in
theorem ev_W_givenBack_ok {sc : mg_Sc} {c z : Nat} {fL : Nat → Int64} {fD : Nat → UInt64} {u u1 : mg_Rg} {v : UInt64} (h : C_givenBack u = some (.inl v, u1)) : mg_Ev sc 3 251 0 (mg_entry 251 [.ref 1, .ref 52]) [] (hp u fL fD, c, z) (.inl (some (.int 0)), (hp u1 fL (vf_upd fD 0 v), c, z)) := by
  show mg_Ev _ _ _ 0 [some (.ref 1), some (.ref 52), none] [] _ _
  refine mg_Ev.go 3 (pc' := 3) (loc' := [some (.ref 1), some (.ref 52), none]) (st' := [.ref 1, .int 0, .ref 52]) (w' := (hp u fL fD, c, z)) rfl ?_
  refine mg_Ev.call (y := 29) (as := [.ref 1]) (rest := [.int 0, .ref 52]) (v := some (.double v)) (w1 := (hp u1 fL fD, c, z)) rfl rfl (Nat.le_of_ble_eq_true rfl) ((ev_C_givenBack h).deep (by decide)) ?_
  refine mg_Ev.dast (a := 51) (n := 1) (j := 0) rfl (hpg_51 _ _ _) (by decide) (by decide) (hpa_51 _ _ _ _ _ _ _) ?_
  refine mg_Ev.go 2 (pc' := 14) (loc' := [some (.ref 1), some (.ref 52), none]) (st' := [.int 0]) (w' := (hp u1 fL (vf_upd fD 0 v), c, z)) rfl ?_
  exact mg_Ev.fin rfl rfl rfl
set_option maxRecDepth 10000 in
set_option maxHeartbeats 4000000 in
theorem ev_W_givenBack_x5 {sc : mg_Sc} {c z : Nat} {fL : Nat → Int64} {fD : Nat → UInt64} {u u1 : mg_Rg} (h : C_givenBack u = some (.inr 5, u1)) : mg_Ev sc 3 251 0 (mg_entry 251 [.ref 1, .ref 52]) [] (hp u fL fD, c, z) (.inl (some (.int 1)), (hp u1 fL fD, c + 1, z + 6)) := by
  show mg_Ev _ _ _ 0 [some (.ref 1), some (.ref 52), none] [] _ _
  refine mg_Ev.go 3 (pc' := 3) (loc' := [some (.ref 1), some (.ref 52), none]) (st' := [.ref 1, .int 0, .ref 52]) (w' := (hp u fL fD, c, z)) rfl ?_
  refine mg_Ev.callH (y := 29) (as := [.ref 1]) (rest := [.int 0, .ref 52]) (i := 2) (pc' := 11) rfl rfl (Nat.le_of_ble_eq_true rfl) ((ev_C_givenBack h).deep (by decide)) rfl ?_
  refine mg_Ev.go 1 (pc' := 12) (loc' := [some (.ref 1), some (.ref 52), none]) (st' := [.int 1]) (w' := (hp u1 fL fD, c + 1, z + 6)) rfl ?_
  exact mg_Ev.fin rfl rfl rfl
set_option maxRecDepth 10000 in
set_option maxHeartbeats 4000000 in
theorem ev_W_meanRate_ok {sc : mg_Sc} {c z : Nat} {fL : Nat → Int64} {fD : Nat → UInt64} {u u1 : mg_Rg} {v : UInt32} (h : C_meanRate u = some (.inl v, u1)) (hn : FP.f2d v &&& 0x7fffffffffffffff ≤ 0x7ff0000000000000) : mg_Ev sc 4 252 0 (mg_entry 252 [.ref 1, .ref 52]) [] (hp u fL fD, c, z) (.inl (some (.int 0)), (hp u1 fL (vf_upd fD 0 (FP.f2d v)), c, z)) := by
  show mg_Ev _ _ _ 0 [some (.ref 1), some (.ref 52), none] [] _ _
  refine mg_Ev.go 3 (pc' := 3) (loc' := [some (.ref 1), some (.ref 52), none]) (st' := [.ref 1, .int 0, .ref 52]) (w' := (hp u fL fD, c, z)) rfl ?_
  refine mg_Ev.call (y := 30) (as := [.ref 1]) (rest := [.int 0, .ref 52]) (v := some (.float v)) (w1 := (hp u1 fL fD, c, z)) rfl rfl (Nat.le_of_ble_eq_true rfl) ((ev_C_meanRate h).deep (by decide)) ?_
  refine mg_Ev.need (pc' := 7) (loc' := [some (.ref 1), some (.ref 52), none]) (st' := [.double (FP.f2d v), .int 0, .ref 52]) (w' := (hp u1 fL fD, c, z)) hn rfl rfl rfl rfl ?_
  refine mg_Ev.dast (a := 51) (n := 1) (j := 0) rfl (hpg_51 _ _ _) (by decide) (by decide) (hpa_51 _ _ _ _ _ _ _) ?_
  refine mg_Ev.go 2 (pc' := 15) (loc' := [some (.ref 1), some (.ref 52), none]) (st' := [.int 0]) (w' := (hp u1 fL (vf_upd fD 0 (FP.f2d v)), c, z)) rfl ?_
  exact mg_Ev.fin rfl rfl rfl
set_option maxRecDepth 10000 in
set_option maxHeartbeats 4000000 in
theorem ev_W_meanRate_x5 {sc : mg_Sc} {c z : Nat} {fL : Nat → Int64} {fD : Nat → UInt64} {u u1 : mg_Rg} (h : C_meanRate u = some (.inr 5, u1)) : mg_Ev sc 4 252 0 (mg_entry 252 [.ref 1, .ref 52]) [] (hp u fL fD, c, z) (.inl (some (.int 1)), (hp u1 fL fD, c + 1, z + 6)) := by
  show mg_Ev _ _ _ 0 [some (.ref 1), some (.ref 52), none] [] _ _
  refine mg_Ev.go 3 (pc' := 3) (loc' := [some (.ref 1), some (.ref 52), none]) (st' := [.ref 1, .int 0, .ref 52]) (w' := (hp u fL fD, c, z)) rfl ?_
  refine mg_Ev.callH (y := 30) (as := [.ref 1]) (rest := [.int 0, .ref 52]) (i := 2) (pc' := 12) rfl rfl (Nat.le_of_ble_eq_true rfl) ((ev_C_meanRate h).deep (by decide)) rfl ?_
  refine mg_Ev.go 1 (pc' := 13) (loc' := [some (.ref 1), some (.ref 52), none]) (st' := [.int 1]) (w' := (hp u1 fL fD, c + 1, z + 6)) rfl ?_
  exact mg_Ev.fin rfl rfl rfl
set_option maxRecDepth 10000 in
set_option maxHeartbeats 4000000 in
theorem ev_W_append_ok {sc : mg_Sc} {c z : Nat} {fL : Nat → Int64} {fD : Nat → UInt64} {a0 : Int32} {u u1 : mg_Rg} {v : Int32} (h : C_append a0 u = some (.inl v, u1)) : mg_Ev sc 2 253 0 (mg_entry 253 [.ref 1, .int a0, .ref 51]) [] (hp u fL fD, c, z) (.inl (some (.int 0)), (hp u1 (vp_updL fL 0 v.toInt64) fD, c, z)) := by
  show mg_Ev _ _ _ 0 [some (.ref 1), some (.int a0), some (.ref 51), none] [] _ _
  refine mg_Ev.go 4 (pc' := 4) (loc' := [some (.ref 1), some (.int a0), some (.ref 51), none]) (st' := [.int a0, .ref 1, .int 0, .ref 51]) (w' := (hp u fL fD, c, z)) rfl ?_
  refine mg_Ev.call (y := 31) (as := [.ref 1, .int a0]) (rest := [.int 0, .ref 51]) (v := some (.int v)) (w1 := (hp u1 fL fD, c, z)) rfl rfl (Nat.le_of_ble_eq_true rfl) ((ev_C_append h).deep (by decide)) ?_
  refine mg_Ev.go 1 (pc' := 8) (loc' := [some (.ref 1), some (.int a0), some (.ref 51), none]) (st' := [.long v.toInt64, .int 0, .ref 51]) (w' := (hp u1 fL fD, c, z)) rfl ?_
  refine mg_Ev.last (a := 50) (n := 1) (j := 0) rfl (hpg_50 _ _ _) (by decide) (by decide) (hpa_50 _ _ _ _ _ _ _) ?_
  refine mg_Ev.go 2 (pc' := 19) (loc' := [some (.ref 1), some (.int a0), some (.ref 51), none]) (st' := [.int 0]) (w' := (hp u1 (vp_updL fL 0 v.toInt64) fD, c, z)) rfl ?_
  exact mg_Ev.fin rfl rfl rfl
set_option maxRecDepth 10000 in
set_option maxHeartbeats 4000000 in
theorem ev_W_append_x1 {sc : mg_Sc} {c z : Nat} {fL : Nat → Int64} {fD : Nat → UInt64} {a0 : Int32} {u u1 : mg_Rg} (h : C_append a0 u = some (.inr 1, u1)) : mg_Ev sc 2 253 0 (mg_entry 253 [.ref 1, .int a0, .ref 51]) [] (hp u fL fD, c, z) (.inl (some (.int 1)), (hp u1 fL fD, c + 1, z + 6)) := by
  show mg_Ev _ _ _ 0 [some (.ref 1), some (.int a0), some (.ref 51), none] [] _ _
  refine mg_Ev.go 4 (pc' := 4) (loc' := [some (.ref 1), some (.int a0), some (.ref 51), none]) (st' := [.int a0, .ref 1, .int 0, .ref 51]) (w' := (hp u fL fD, c, z)) rfl ?_
  refine mg_Ev.callH (y := 31) (as := [.ref 1, .int a0]) (rest := [.int 0, .ref 51]) (i := 3) (pc' := 13) rfl rfl (Nat.le_of_ble_eq_true rfl) ((ev_C_append h).deep (by decide)) rfl ?_
  refine mg_Ev.go 1 (pc' := 14) (loc' := [some (.ref 1), some (.int a0), some (.ref 51), none]) (st' := [.int 1]) (w' := (hp u1 fL fD, c + 1, z + 6)) rfl ?_
  exact mg_Ev.fin rfl rfl rfl
set_option maxRecDepth 10000 in
set_option maxHeartbeats 4000000 in
theorem ev_W_append_x2 {sc : mg_Sc} {c z : Nat} {fL : Nat → Int64} {fD : Nat → UInt64} {a0 : Int32} {u u1 : mg_Rg} (h : C_append a0 u = some (.inr 2, u1)) : mg_Ev sc 2 253 0 (mg_entry 253 [.ref 1, .int a0, .ref 51]) [] (hp u fL fD, c, z) (.inl (some (.int 2)), (hp u1 fL fD, c + 1, z + 6)) := by
  show mg_Ev _ _ _ 0 [some (.ref 1), some (.int a0), some (.ref 51), none] [] _ _
  refine mg_Ev.go 4 (pc' := 4) (loc' := [some (.ref 1), some (.int a0), some (.ref 51), none]) (st' := [.int a0, .ref 1, .int 0, .ref 51]) (w' := (hp u fL fD, c, z)) rfl ?_
  refine mg_Ev.callH (y := 31) (as := [.ref 1, .int a0]) (rest := [.int 0, .ref 51]) (i := 3) (pc' := 16) rfl rfl (Nat.le_of_ble_eq_true rfl) ((ev_C_append h).deep (by decide)) rfl ?_
  refine mg_Ev.go 1 (pc' := 17) (loc' := [some (.ref 1), some (.int a0), some (.ref 51), none]) (st' := [.int 2]) (w' := (hp u1 fL fD, c + 1, z + 6)) rfl ?_
  exact mg_Ev.fin rfl rfl rfl
set_option maxRecDepth 10000 in
set_option maxHeartbeats 4000000 in
theorem ev_W_lodge_ok {sc : mg_Sc} {c z : Nat} {fL : Nat → Int64} {fD : Nat → UInt64} {u u1 : mg_Rg} {v : Int32} (h : C_lodge u = some (.inl v, u1)) : mg_Ev sc 7 254 0 (mg_entry 254 [.ref 1, .ref 51]) [] (hp u fL fD, c, z) (.inl (some (.int 0)), (hp u1 (vp_updL fL 0 v.toInt64) fD, c, z)) := by
  show mg_Ev _ _ _ 0 [some (.ref 1), some (.ref 51), none] [] _ _
  refine mg_Ev.go 3 (pc' := 3) (loc' := [some (.ref 1), some (.ref 51), none]) (st' := [.ref 1, .int 0, .ref 51]) (w' := (hp u fL fD, c, z)) rfl ?_
  refine mg_Ev.call (y := 32) (as := [.ref 1]) (rest := [.int 0, .ref 51]) (v := some (.int v)) (w1 := (hp u1 fL fD, c, z)) rfl rfl (Nat.le_of_ble_eq_true rfl) ((ev_C_lodge h).deep (by decide)) ?_
  refine mg_Ev.go 1 (pc' := 7) (loc' := [some (.ref 1), some (.ref 51), none]) (st' := [.long v.toInt64, .int 0, .ref 51]) (w' := (hp u1 fL fD, c, z)) rfl ?_
  refine mg_Ev.last (a := 50) (n := 1) (j := 0) rfl (hpg_50 _ _ _) (by decide) (by decide) (hpa_50 _ _ _ _ _ _ _) ?_
  refine mg_Ev.go 2 (pc' := 21) (loc' := [some (.ref 1), some (.ref 51), none]) (st' := [.int 0]) (w' := (hp u1 (vp_updL fL 0 v.toInt64) fD, c, z)) rfl ?_
  exact mg_Ev.fin rfl rfl rfl
set_option maxRecDepth 10000 in
set_option maxHeartbeats 4000000 in
theorem ev_W_lodge_x1 {sc : mg_Sc} {c z : Nat} {fL : Nat → Int64} {fD : Nat → UInt64} {u u1 : mg_Rg} (h : C_lodge u = some (.inr 1, u1)) : mg_Ev sc 7 254 0 (mg_entry 254 [.ref 1, .ref 51]) [] (hp u fL fD, c, z) (.inl (some (.int 1)), (hp u1 fL fD, c + 1, z + 6)) := by
  show mg_Ev _ _ _ 0 [some (.ref 1), some (.ref 51), none] [] _ _
  refine mg_Ev.go 3 (pc' := 3) (loc' := [some (.ref 1), some (.ref 51), none]) (st' := [.ref 1, .int 0, .ref 51]) (w' := (hp u fL fD, c, z)) rfl ?_
  refine mg_Ev.callH (y := 32) (as := [.ref 1]) (rest := [.int 0, .ref 51]) (i := 2) (pc' := 12) rfl rfl (Nat.le_of_ble_eq_true rfl) ((ev_C_lodge h).deep (by decide)) rfl ?_
  refine mg_Ev.go 1 (pc' := 13) (loc' := [some (.ref 1), some (.ref 51), none]) (st' := [.int 1]) (w' := (hp u1 fL fD, c + 1, z + 6)) rfl ?_
  exact mg_Ev.fin rfl rfl rfl
set_option maxRecDepth 10000 in
set_option maxHeartbeats 4000000 in
theorem ev_W_lodge_x3 {sc : mg_Sc} {c z : Nat} {fL : Nat → Int64} {fD : Nat → UInt64} {u u1 : mg_Rg} (h : C_lodge u = some (.inr 3, u1)) : mg_Ev sc 7 254 0 (mg_entry 254 [.ref 1, .ref 51]) [] (hp u fL fD, c, z) (.inl (some (.int 2)), (hp u1 fL fD, c + 1, z + 6)) := by
  show mg_Ev _ _ _ 0 [some (.ref 1), some (.ref 51), none] [] _ _
  refine mg_Ev.go 3 (pc' := 3) (loc' := [some (.ref 1), some (.ref 51), none]) (st' := [.ref 1, .int 0, .ref 51]) (w' := (hp u fL fD, c, z)) rfl ?_
  refine mg_Ev.callH (y := 32) (as := [.ref 1]) (rest := [.int 0, .ref 51]) (i := 2) (pc' := 15) rfl rfl (Nat.le_of_ble_eq_true rfl) ((ev_C_lodge h).deep (by decide)) rfl ?_
  refine mg_Ev.go 1 (pc' := 16) (loc' := [some (.ref 1), some (.ref 51), none]) (st' := [.int 2]) (w' := (hp u1 fL fD, c + 1, z + 6)) rfl ?_
  exact mg_Ev.fin rfl rfl rfl
set_option maxRecDepth 10000 in
set_option maxHeartbeats 4000000 in
theorem ev_W_lodge_x2 {sc : mg_Sc} {c z : Nat} {fL : Nat → Int64} {fD : Nat → UInt64} {u u1 : mg_Rg} (h : C_lodge u = some (.inr 2, u1)) : mg_Ev sc 7 254 0 (mg_entry 254 [.ref 1, .ref 51]) [] (hp u fL fD, c, z) (.inl (some (.int 3)), (hp u1 fL fD, c + 1, z + 6)) := by
  show mg_Ev _ _ _ 0 [some (.ref 1), some (.ref 51), none] [] _ _
  refine mg_Ev.go 3 (pc' := 3) (loc' := [some (.ref 1), some (.ref 51), none]) (st' := [.ref 1, .int 0, .ref 51]) (w' := (hp u fL fD, c, z)) rfl ?_
  refine mg_Ev.callH (y := 32) (as := [.ref 1]) (rest := [.int 0, .ref 51]) (i := 2) (pc' := 18) rfl rfl (Nat.le_of_ble_eq_true rfl) ((ev_C_lodge h).deep (by decide)) rfl ?_
  refine mg_Ev.go 1 (pc' := 19) (loc' := [some (.ref 1), some (.ref 51), none]) (st' := [.int 3]) (w' := (hp u1 fL fD, c + 1, z + 6)) rfl ?_
  exact mg_Ev.fin rfl rfl rfl
set_option maxRecDepth 10000 in
set_option maxHeartbeats 4000000 in
theorem ev_W_errorPosition_ok {sc : mg_Sc} {c z : Nat} {fL : Nat → Int64} {fD : Nat → UInt64} {u u1 : mg_Rg} {v : Int32} (h : C_errorPosition u = some (.inl v, u1)) : mg_Ev sc 1 255 0 (mg_entry 255 [.ref 1, .ref 51]) [] (hp u fL fD, c, z) (.inl (some (.int 0)), (hp u1 (vp_updL fL 0 v.toInt64) fD, c, z)) := by
  show mg_Ev _ _ _ 0 [some (.ref 1), some (.ref 51), none] [] _ _
  refine mg_Ev.go 3 (pc' := 3) (loc' := [some (.ref 1), some (.ref 51), none]) (st' := [.ref 1, .int 0, .ref 51]) (w' := (hp u fL fD, c, z)) rfl ?_
  refine mg_Ev.call (y := 33) (as := [.ref 1]) (rest := [.int 0, .ref 51]) (v := some (.int v)) (w1 := (hp u1 fL fD, c, z)) rfl rfl (Nat.le_of_ble_eq_true rfl) ((ev_C_errorPosition h).deep (by decide)) ?_
  refine mg_Ev.go 1 (pc' := 7) (loc' := [some (.ref 1), some (.ref 51), none]) (st' := [.long v.toInt64, .int 0, .ref 51]) (w' := (hp u1 fL fD, c, z)) rfl ?_
  refine mg_Ev.last (a := 50) (n := 1) (j := 0) rfl (hpg_50 _ _ _) (by decide) (by decide) (hpa_50 _ _ _ _ _ _ _) ?_
  refine mg_Ev.go 2 (pc' := 15) (loc' := [some (.ref 1), some (.ref 51), none]) (st' := [.int 0]) (w' := (hp u1 (vp_updL fL 0 v.toInt64) fD, c, z)) rfl ?_
  exact mg_Ev.fin rfl rfl rfl
set_option maxRecDepth 10000 in
set_option maxHeartbeats 4000000 in
theorem ev_W_errorPosition_x3 {sc : mg_Sc} {c z : Nat} {fL : Nat → Int64} {fD : Nat → UInt64} {u u1 : mg_Rg} (h : C_errorPosition u = some (.inr 3, u1)) : mg_Ev sc 1 255 0 (mg_entry 255 [.ref 1, .ref 51]) [] (hp u fL fD, c, z) (.inl (some (.int 1)), (hp u1 fL fD, c + 1, z + 6)) := by
  show mg_Ev _ _ _ 0 [some (.ref 1), some (.ref 51), none] [] _ _
  refine mg_Ev.go 3 (pc' := 3) (loc' := [some (.ref 1), some (.ref 51), none]) (st' := [.ref 1, .int 0, .ref 51]) (w' := (hp u fL fD, c, z)) rfl ?_
  refine mg_Ev.callH (y := 33) (as := [.ref 1]) (rest := [.int 0, .ref 51]) (i := 2) (pc' := 12) rfl rfl (Nat.le_of_ble_eq_true rfl) ((ev_C_errorPosition h).deep (by decide)) rfl ?_
  refine mg_Ev.go 1 (pc' := 13) (loc' := [some (.ref 1), some (.ref 51), none]) (st' := [.int 1]) (w' := (hp u1 fL fD, c + 1, z + 6)) rfl ?_
  exact mg_Ev.fin rfl rfl rfl
set_option maxRecDepth 10000 in
set_option maxHeartbeats 4000000 in
theorem ev_W_undo_ok {sc : mg_Sc} {c z : Nat} {fL : Nat → Int64} {fD : Nat → UInt64} {u u1 : mg_Rg} {v : Int32} (h : C_undo u = some (.inl v, u1)) : mg_Ev sc 6 256 0 (mg_entry 256 [.ref 1, .ref 51]) [] (hp u fL fD, c, z) (.inl (some (.int 0)), (hp u1 (vp_updL fL 0 v.toInt64) fD, c, z)) := by
  show mg_Ev _ _ _ 0 [some (.ref 1), some (.ref 51), none] [] _ _
  refine mg_Ev.go 3 (pc' := 3) (loc' := [some (.ref 1), some (.ref 51), none]) (st' := [.ref 1, .int 0, .ref 51]) (w' := (hp u fL fD, c, z)) rfl ?_
  refine mg_Ev.call (y := 35) (as := [.ref 1]) (rest := [.int 0, .ref 51]) (v := some (.int v)) (w1 := (hp u1 fL fD, c, z)) rfl rfl (Nat.le_of_ble_eq_true rfl) ((ev_C_undo h).deep (by decide)) ?_
  refine mg_Ev.go 1 (pc' := 7) (loc' := [some (.ref 1), some (.ref 51), none]) (st' := [.long v.toInt64, .int 0, .ref 51]) (w' := (hp u1 fL fD, c, z)) rfl ?_
  refine mg_Ev.last (a := 50) (n := 1) (j := 0) rfl (hpg_50 _ _ _) (by decide) (by decide) (hpa_50 _ _ _ _ _ _ _) ?_
  refine mg_Ev.go 2 (pc' := 15) (loc' := [some (.ref 1), some (.ref 51), none]) (st' := [.int 0]) (w' := (hp u1 (vp_updL fL 0 v.toInt64) fD, c, z)) rfl ?_
  exact mg_Ev.fin rfl rfl rfl
set_option maxRecDepth 10000 in
set_option maxHeartbeats 4000000 in
theorem ev_W_undo_x2 {sc : mg_Sc} {c z : Nat} {fL : Nat → Int64} {fD : Nat → UInt64} {u u1 : mg_Rg} (h : C_undo u = some (.inr 2, u1)) : mg_Ev sc 6 256 0 (mg_entry 256 [.ref 1, .ref 51]) [] (hp u fL fD, c, z) (.inl (some (.int 1)), (hp u1 fL fD, c + 1, z + 6)) := by
  show mg_Ev _ _ _ 0 [some (.ref 1), some (.ref 51), none] [] _ _
  refine mg_Ev.go 3 (pc' := 3) (loc' := [some (.ref 1), some (.ref 51), none]) (st' := [.ref 1, .int 0, .ref 51]) (w' := (hp u fL fD, c, z)) rfl ?_
  refine mg_Ev.callH (y := 35) (as := [.ref 1]) (rest := [.int 0, .ref 51]) (i := 2) (pc' := 12) rfl rfl (Nat.le_of_ble_eq_true rfl) ((ev_C_undo h).deep (by decide)) rfl ?_
  refine mg_Ev.go 1 (pc' := 13) (loc' := [some (.ref 1), some (.ref 51), none]) (st' := [.int 1]) (w' := (hp u1 fL fD, c + 1, z + 6)) rfl ?_
  exact mg_Ev.fin rfl rfl rfl
set_option maxRecDepth 10000 in
set_option maxHeartbeats 4000000 in
theorem ev_W_restore_ok {sc : mg_Sc} {c z : Nat} {fL : Nat → Int64} {fD : Nat → UInt64} {u u1 : mg_Rg} {v : Int32} (h : C_restore u = some (.inl v, u1)) : mg_Ev sc 7 257 0 (mg_entry 257 [.ref 1, .ref 51]) [] (hp u fL fD, c, z) (.inl (some (.int 0)), (hp u1 (vp_updL fL 0 v.toInt64) fD, c, z)) := by
  show mg_Ev _ _ _ 0 [some (.ref 1), some (.ref 51), none] [] _ _
  refine mg_Ev.go 3 (pc' := 3) (loc' := [some (.ref 1), some (.ref 51), none]) (st' := [.ref 1, .int 0, .ref 51]) (w' := (hp u fL fD, c, z)) rfl ?_
  refine mg_Ev.call (y := 37) (as := [.ref 1]) (rest := [.int 0, .ref 51]) (v := some (.int v)) (w1 := (hp u1 fL fD, c, z)) rfl rfl (Nat.le_of_ble_eq_true rfl) ((ev_C_restore h).deep (by decide)) ?_
  refine mg_Ev.go 1 (pc' := 7) (loc' := [some (.ref 1), some (.ref 51), none]) (st' := [.long v.toInt64, .int 0, .ref 51]) (w' := (hp u1 fL fD, c, z)) rfl ?_
  refine mg_Ev.last (a := 50) (n := 1) (j := 0) rfl (hpg_50 _ _ _) (by decide) (by decide) (hpa_50 _ _ _ _ _ _ _) ?_
  refine mg_Ev.go 2 (pc' := 15) (loc' := [some (.ref 1), some (.ref 51), none]) (st' := [.int 0]) (w' := (hp u1 (vp_updL fL 0 v.toInt64) fD, c, z)) rfl ?_
  exact mg_Ev.fin rfl rfl rfl
set_option maxRecDepth 10000 in
set_option maxHeartbeats 4000000 in
theorem ev_W_restore_x2 {sc : mg_Sc} {c z : Nat} {fL : Nat → Int64} {fD : Nat → UInt64} {u u1 : mg_Rg} (h : C_restore u = some (.inr 2, u1)) : mg_Ev sc 7 257 0 (mg_entry 257 [.ref 1, .ref 51]) [] (hp u fL fD, c, z) (.inl (some (.int 1)), (hp u1 fL fD, c + 1, z + 6)) := by
  show mg_Ev _ _ _ 0 [some (.ref 1), some (.ref 51), none] [] _ _
  refine mg_Ev.go 3 (pc' := 3) (loc' := [some (.ref 1), some (.ref 51), none]) (st' := [.ref 1, .int 0, .ref 51]) (w' := (hp u fL fD, c, z)) rfl ?_
  refine mg_Ev.callH (y := 37) (as := [.ref 1]) (rest := [.int 0, .ref 51]) (i := 2) (pc' := 12) rfl rfl (Nat.le_of_ble_eq_true rfl) ((ev_C_restore h).deep (by decide)) rfl ?_
  refine mg_Ev.go 1 (pc' := 13) (loc' := [some (.ref 1), some (.ref 51), none]) (st' := [.int 1]) (w' := (hp u1 fL fD, c + 1, z + 6)) rfl ?_
  exact mg_Ev.fin rfl rfl rfl
