set_option maxRecDepth 10000 in
set_option maxHeartbeats 4000000 in
theorem ev_opB_36 {sc : mg_Sc} {c z : Nat} {fL : Nat → Int64} {fD : Nat → UInt64} {i T : Int32} {b : Int32} {u1 u2 : mg_Rg} {r : mg_R} (hM : M_restore u1 = some (b, u2)) (hT : M_thrown u2 = some T) (hv : T = 0 → fL 0 = b.toInt64) (K : mg_Ev sc 11 258 2448 [some (.ref 0), some (.ref 1), some (.ref 43), some (.ref 51), some (.ref 52), some (.int i), none, none, none] [] (hp u2 fL fD, c, z) r) : mg_Ev sc 11 258 2411 [some (.ref 0), some (.ref 1), some (.ref 43), some (.ref 51), some (.ref 52), some (.int i), some (.int T), none, none] [] (hp u1 fL fD, c, z) r := by
  refine mg_Ev.go 1 (pc' := 2412) (loc' := [some (.ref 0), some (.ref 1), some (.ref 43), some (.ref 51), some (.ref 52), some (.int i), some (.int T), none, none]) (st' := [.ref 43]) (w' := (hp u1 fL fD, c, z)) rfl ?_
  refine mg_Ev.call (y := 140) (as := [.ref 43]) (rest := []) (v := some (.int b)) (w1 := (hp u2 fL fD, c, z)) rfl rfl (Nat.le_of_ble_eq_true rfl) ((ev_M_restore hM).deep (by decide)) ?_
  refine mg_Ev.go 2 (pc' := 2418) (loc' := [some (.ref 0), some (.ref 1), some (.ref 43), some (.ref 51), some (.ref 52), some (.int i), some (.int T), some (.int b), none]) (st' := [.ref 43]) (w' := (hp u2 fL fD, c, z)) rfl ?_
  refine mg_Ev.call (y := 57) (as := [.ref 43]) (rest := []) (v := some (.int T)) (w1 := (hp u2 fL fD, c, z)) rfl rfl (Nat.le_of_ble_eq_true rfl) ((ev_M_thrown hT).deep (by decide)) ?_
  refine mg_Ev.go 1 (pc' := 2423) (loc' := [some (.ref 0), some (.ref 1), some (.ref 43), some (.ref 51), some (.ref 52), some (.int i), some (.int T), some (.int b), none]) (st' := [.int T, .int T]) (w' := (hp u2 fL fD, c, z)) rfl ?_
  refine mg_Ev.br (P := T = T) (t := 2428) (nx := 2426) (st' := []) rfl rfl rfl rfl (fun _ => ?_) (fun q => absurd rfl q)
  refine mg_Ev.go 1 (pc' := 2430) (loc' := [some (.ref 0), some (.ref 1), some (.ref 43), some (.ref 51), some (.ref 52), some (.int i), some (.int T), some (.int b), none]) (st' := [.int T]) (w' := (hp u2 fL fD, c, z)) rfl ?_
  refine mg_Ev.br (P := T = 0) (t := 2433) (nx := 2445) (st' := []) rfl rfl rfl rfl (fun h0 => ?_) (fun _ => ?_)
  · have h1 := hv h0
    refine mg_Ev.go 2 (pc' := 2435) (loc' := [some (.ref 0), some (.ref 1), some (.ref 43), some (.ref 51), some (.ref 52), some (.int i), some (.int T), some (.int b), none]) (st' := [.int 0, .ref 51]) (w' := (hp u2 fL fD, c, z)) rfl ?_
    refine mg_Ev.lald (a := 50) (n := 1) (f := fL) (j := 0) rfl (hpg_50 _ _ _) (by decide) (by decide) ?_
    rw [h1]
    refine mg_Ev.go 3 (pc' := 2440) (loc' := [some (.ref 0), some (.ref 1), some (.ref 43), some (.ref 51), some (.ref 52), some (.int i), some (.int T), some (.int b), none]) (st' := [.int (lg_cmp b.toInt64 b.toInt64)]) (w' := (hp u2 fL fD, c, z)) rfl ?_
    refine mg_Ev.br (P := lg_cmp b.toInt64 b.toInt64 = 0) (t := 2445) (nx := 2443) (st' := []) rfl rfl rfl rfl (fun _ => ?_) (fun q => absurd (mg_lcmp _) q)
    refine mg_Ev.go 1 (pc' := 2448) (loc' := [some (.ref 0), some (.ref 1), some (.ref 43), some (.ref 51), some (.ref 52), some (.int i), some (.int T), some (.int b), none]) (st' := []) (w' := (hp u2 fL fD, c, z)) rfl ?_
    exact mg_Ev.more K ⟨rfl, ⟨rfl, ⟨rfl, ⟨rfl, ⟨rfl, ⟨rfl, trivial⟩⟩⟩⟩⟩⟩
  · refine mg_Ev.go 1 (pc' := 2448) (loc' := [some (.ref 0), some (.ref 1), some (.ref 43), some (.ref 51), some (.ref 52), some (.int i), some (.int T), some (.int b), none]) (st' := []) (w' := (hp u2 fL fD, c, z)) rfl ?_
    exact mg_Ev.more K ⟨rfl, ⟨rfl, ⟨rfl, ⟨rfl, ⟨rfl, ⟨rfl, trivial⟩⟩⟩⟩⟩⟩
set_option maxRecDepth 10000 in
set_option maxHeartbeats 4000000 in
theorem ev_op_36 {sc : mg_Sc} {c z : Nat} {fL : Nat → Int64} {fD : Nat → UInt64} {i T : Int32} {b : Int32} {t : Int32 ⊕ Nat} {u u1 u2 : mg_Rg} {r : mg_R} (hC : C_restore u = some (t, u1)) (hM : M_restore u1 = some (b, u2)) (hT : M_thrown u2 = some T) (H : (∃ v, t = .inl v ∧ b = v ∧ T = 0) ∨ (t = .inr 2 ∧ T = 1)) (K : ∀ fL fD c1 z1, c1 ≤ c + 1 → z1 ≤ z + 6 → mg_Ev sc 11 258 2448 [some (.ref 0), some (.ref 1), some (.ref 43), some (.ref 51), some (.ref 52), some (.int i), none, none, none] [] (hp u2 fL fD, c1, z1) r) : mg_Ev sc 11 258 2404 [some (.ref 0), some (.ref 1), some (.ref 43), some (.ref 51), some (.ref 52), some (.int i), none, none, none] [] (hp u fL fD, c, z) r := by
  refine mg_Ev.go 2 (pc' := 2406) (loc' := [some (.ref 0), some (.ref 1), some (.ref 43), some (.ref 51), some (.ref 52), some (.int i), none, none, none]) (st' := [.ref 51, .ref 1]) (w' := (hp u fL fD, c, z)) rfl ?_
  rcases H with ⟨v, rfl, rfl, rfl⟩ | ⟨rfl, rfl⟩
  · refine mg_Ev.call (y := 257) (as := [.ref 1, .ref 51]) (rest := []) (v := some (.int 0)) (w1 := (hp u1 (vp_updL fL 0 b.toInt64) fD, c, z)) rfl rfl (Nat.le_of_ble_eq_true rfl) ((ev_W_restore_ok hC).deep (by decide)) ?_
    refine mg_Ev.go 1 (pc' := 2411) (loc' := [some (.ref 0), some (.ref 1), some (.ref 43), some (.ref 51), some (.ref 52), some (.int i), some (.int 0), none, none]) (st' := []) (w' := (hp u1 (vp_updL fL 0 b.toInt64) fD, c, z)) rfl ?_
    exact ev_opB_36 hM hT (fun _ => rfl) (K _ _ _ _ (Nat.le_succ _) (Nat.le_add_right _ _))
  · refine mg_Ev.call (y := 257) (as := [.ref 1, .ref 51]) (rest := []) (v := some (.int 1)) (w1 := (hp u1 fL fD, c + 1, z + 6)) rfl rfl (Nat.le_of_ble_eq_true rfl) ((ev_W_restore_x2 hC).deep (by decide)) ?_
    refine mg_Ev.go 1 (pc' := 2411) (loc' := [some (.ref 0), some (.ref 1), some (.ref 43), some (.ref 51), some (.ref 52), some (.int i), some (.int 1), none, none]) (st' := []) (w' := (hp u1 fL fD, c + 1, z + 6)) rfl ?_
    exact ev_opB_36 hM hT (fun q => absurd q (by decide)) (K _ _ _ _ (Nat.le_refl _) (Nat.le_refl _))
