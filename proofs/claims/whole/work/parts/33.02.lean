set_option maxRecDepth 10000 in
set_option maxHeartbeats 4000000 in
theorem ev_opB_13 {sc : mg_Sc} {c z : Nat} {fL : Nat → Int64} {fD : Nat → UInt64} {i T : Int32} {b : Int32} {u1 u2 : mg_Rg} {r : mg_R} (hb1 : ¬ ((i + 1) < 0 ∨ sc.1 ≤ (i + 1).toNatClampNeg)) (hb2 : ¬ ((i + 2) < 0 ∨ sc.1 ≤ (i + 2).toNatClampNeg)) (hM : M_part (sc.2 (i + 1).toNatClampNeg) (sc.2 (i + 2).toNatClampNeg) u1 = some (b, u2)) (hT : M_thrown u2 = some T) (hv : T = 0 → fL 0 = b.toInt64) (K : mg_Ev sc 11 258 2448 [some (.ref 0), some (.ref 1), some (.ref 43), some (.ref 51), some (.ref 52), some (.int i), none, none, none] [] (hp u2 fL fD, c, z) r) : mg_Ev sc 11 258 1231 [some (.ref 0), some (.ref 1), some (.ref 43), some (.ref 51), some (.ref 52), some (.int i), some (.int T), none, none] [] (hp u1 fL fD, c, z) r := by
  refine mg_Ev.go 5 (pc' := 1237) (loc' := [some (.ref 0), some (.ref 1), some (.ref 43), some (.ref 51), some (.ref 52), some (.int i), some (.int T), none, none]) (st' := [.int (i + 1), .ref 0, .ref 43]) (w' := (hp u1 fL fD, c, z)) rfl ?_
  refine mg_Ev.sld rfl hb1 ?_
  refine mg_Ev.go 4 (pc' := 1243) (loc' := [some (.ref 0), some (.ref 1), some (.ref 43), some (.ref 51), some (.ref 52), some (.int i), some (.int T), none, none]) (st' := [.int (i + 2), .ref 0, .int (sc.2 (i + 1).toNatClampNeg), .ref 43]) (w' := (hp u1 fL fD, c, z)) rfl ?_
  refine mg_Ev.sld rfl hb2 ?_
  refine mg_Ev.call (y := 95) (as := [.ref 43, .int (sc.2 (i + 1).toNatClampNeg), .int (sc.2 (i + 2).toNatClampNeg)]) (rest := []) (v := some (.int b)) (w1 := (hp u2 fL fD, c, z)) rfl rfl (Nat.le_of_ble_eq_true rfl) ((ev_M_part hM).deep (by decide)) ?_
  refine mg_Ev.go 2 (pc' := 1250) (loc' := [some (.ref 0), some (.ref 1), some (.ref 43), some (.ref 51), some (.ref 52), some (.int i), some (.int T), some (.int b), none]) (st' := [.ref 43]) (w' := (hp u2 fL fD, c, z)) rfl ?_
  refine mg_Ev.call (y := 57) (as := [.ref 43]) (rest := []) (v := some (.int T)) (w1 := (hp u2 fL fD, c, z)) rfl rfl (Nat.le_of_ble_eq_true rfl) ((ev_M_thrown hT).deep (by decide)) ?_
  refine mg_Ev.go 1 (pc' := 1255) (loc' := [some (.ref 0), some (.ref 1), some (.ref 43), some (.ref 51), some (.ref 52), some (.int i), some (.int T), some (.int b), none]) (st' := [.int T, .int T]) (w' := (hp u2 fL fD, c, z)) rfl ?_
  refine mg_Ev.br (P := T = T) (t := 1260) (nx := 1258) (st' := []) rfl rfl rfl rfl (fun _ => ?_) (fun q => absurd rfl q)
  refine mg_Ev.go 1 (pc' := 1262) (loc' := [some (.ref 0), some (.ref 1), some (.ref 43), some (.ref 51), some (.ref 52), some (.int i), some (.int T), some (.int b), none]) (st' := [.int T]) (w' := (hp u2 fL fD, c, z)) rfl ?_
  refine mg_Ev.br (P := T = 0) (t := 1265) (nx := 1277) (st' := []) rfl rfl rfl rfl (fun h0 => ?_) (fun _ => ?_)
  · have h1 := hv h0
    refine mg_Ev.go 2 (pc' := 1267) (loc' := [some (.ref 0), some (.ref 1), some (.ref 43), some (.ref 51), some (.ref 52), some (.int i), some (.int T), some (.int b), none]) (st' := [.int 0, .ref 51]) (w' := (hp u2 fL fD, c, z)) rfl ?_
    refine mg_Ev.lald (a := 50) (n := 1) (f := fL) (j := 0) rfl (hpg_50 _ _ _) (by decide) (by decide) ?_
    rw [h1]
    refine mg_Ev.go 3 (pc' := 1272) (loc' := [some (.ref 0), some (.ref 1), some (.ref 43), some (.ref 51), some (.ref 52), some (.int i), some (.int T), some (.int b), none]) (st' := [.int (lg_cmp b.toInt64 b.toInt64)]) (w' := (hp u2 fL fD, c, z)) rfl ?_
    refine mg_Ev.br (P := lg_cmp b.toInt64 b.toInt64 = 0) (t := 1277) (nx := 1275) (st' := []) rfl rfl rfl rfl (fun _ => ?_) (fun q => absurd (mg_lcmp _) q)
    refine mg_Ev.go 1 (pc' := 2448) (loc' := [some (.ref 0), some (.ref 1), some (.ref 43), some (.ref 51), some (.ref 52), some (.int i), some (.int T), some (.int b), none]) (st' := []) (w' := (hp u2 fL fD, c, z)) rfl ?_
    exact mg_Ev.more K ⟨rfl, ⟨rfl, ⟨rfl, ⟨rfl, ⟨rfl, ⟨rfl, trivial⟩⟩⟩⟩⟩⟩
  · refine mg_Ev.go 1 (pc' := 2448) (loc' := [some (.ref 0), some (.ref 1), some (.ref 43), some (.ref 51), some (.ref 52), some (.int i), some (.int T), some (.int b), none]) (st' := []) (w' := (hp u2 fL fD, c, z)) rfl ?_
    exact mg_Ev.more K ⟨rfl, ⟨rfl, ⟨rfl, ⟨rfl, ⟨rfl, ⟨rfl, trivial⟩⟩⟩⟩⟩⟩
set_option maxRecDepth 10000 in
set_option maxHeartbeats 4000000 in
theorem ev_op_13 {sc : mg_Sc} {c z : Nat} {fL : Nat → Int64} {fD : Nat → UInt64} {i T : Int32} {b : Int32} {t : Int32 ⊕ Nat} {u u1 u2 : mg_Rg} {Q : mg_R → Prop} (hb1 : ¬ ((i + 1) < 0 ∨ sc.1 ≤ (i + 1).toNatClampNeg)) (hb2 : ¬ ((i + 2) < 0 ∨ sc.1 ≤ (i + 2).toNatClampNeg)) (hC : C_part (sc.2 (i + 1).toNatClampNeg) (sc.2 (i + 2).toNatClampNeg) u = some (t, u1)) (hM : M_part (sc.2 (i + 1).toNatClampNeg) (sc.2 (i + 2).toNatClampNeg) u1 = some (b, u2)) (hT : M_thrown u2 = some T) (H : (∃ v, t = .inl v ∧ b = v ∧ T = 0) ∨ (t = .inr 0 ∧ T = 1) ∨ (t = .inr 1 ∧ T = 2) ∨ (t = .inr 2 ∧ T = 3)) (K : ∀ fL fD c1 z1, c1 ≤ c + 1 → z1 ≤ z + 6 → ∃ r, mg_Ev sc 11 258 2448 [some (.ref 0), some (.ref 1), some (.ref 43), some (.ref 51), some (.ref 52), some (.int i), none, none, none] [] (hp u2 fL fD, c1, z1) r ∧ Q r) : ∃ r, mg_Ev sc 11 258 1212 [some (.ref 0), some (.ref 1), some (.ref 43), some (.ref 51), some (.ref 52), some (.int i), none, none, none] [] (hp u fL fD, c, z) r ∧ Q r := by
  rcases H with ⟨v, rfl, rfl, rfl⟩ | ⟨rfl, rfl⟩ | ⟨rfl, rfl⟩ | ⟨rfl, rfl⟩
  · obtain ⟨r, hr, hQ⟩ := K (vp_updL fL 0 b.toInt64) fD c z (Nat.le_succ _) (Nat.le_add_right _ _)
    refine ⟨r, ?_, hQ⟩
    refine mg_Ev.go 5 (pc' := 1218) (loc' := [some (.ref 0), some (.ref 1), some (.ref 43), some (.ref 51), some (.ref 52), some (.int i), none, none, none]) (st' := [.int (i + 1), .ref 0, .ref 1]) (w' := (hp u fL fD, c, z)) rfl ?_
    refine mg_Ev.sld rfl hb1 ?_
    refine mg_Ev.go 4 (pc' := 1224) (loc' := [some (.ref 0), some (.ref 1), some (.ref 43), some (.ref 51), some (.ref 52), some (.int i), none, none, none]) (st' := [.int (i + 2), .ref 0, .int (sc.2 (i + 1).toNatClampNeg), .ref 1]) (w' := (hp u fL fD, c, z)) rfl ?_
    refine mg_Ev.sld rfl hb2 ?_
    refine mg_Ev.go 1 (pc' := 1226) (loc' := [some (.ref 0), some (.ref 1), some (.ref 43), some (.ref 51), some (.ref 52), some (.int i), none, none, none]) (st' := [.ref 51, .int (sc.2 (i + 2).toNatClampNeg), .int (sc.2 (i + 1).toNatClampNeg), .ref 1]) (w' := (hp u fL fD, c, z)) rfl ?_
    refine mg_Ev.call (y := 237) (as := [.ref 1, .int (sc.2 (i + 1).toNatClampNeg), .int (sc.2 (i + 2).toNatClampNeg), .ref 51]) (rest := []) (v := some (.int 0)) (w1 := (hp u1 (vp_updL fL 0 b.toInt64) fD, c, z)) rfl rfl (Nat.le_of_ble_eq_true rfl) ((ev_W_part_ok hC).deep (by decide)) ?_
    refine mg_Ev.go 1 (pc' := 1231) (loc' := [some (.ref 0), some (.ref 1), some (.ref 43), some (.ref 51), some (.ref 52), some (.int i), some (.int 0), none, none]) (st' := []) (w' := (hp u1 (vp_updL fL 0 b.toInt64) fD, c, z)) rfl ?_
    exact ev_opB_13 hb1 hb2 hM hT (fun _ => rfl) hr
  · obtain ⟨r, hr, hQ⟩ := K fL fD (c + 1) (z + 6) (Nat.le_refl _) (Nat.le_refl _)
    refine ⟨r, ?_, hQ⟩
    refine mg_Ev.go 5 (pc' := 1218) (loc' := [some (.ref 0), some (.ref 1), some (.ref 43), some (.ref 51), some (.ref 52), some (.int i), none, none, none]) (st' := [.int (i + 1), .ref 0, .ref 1]) (w' := (hp u fL fD, c, z)) rfl ?_
    refine mg_Ev.sld rfl hb1 ?_
    refine mg_Ev.go 4 (pc' := 1224) (loc' := [some (.ref 0), some (.ref 1), some (.ref 43), some (.ref 51), some (.ref 52), some (.int i), none, none, none]) (st' := [.int (i + 2), .ref 0, .int (sc.2 (i + 1).toNatClampNeg), .ref 1]) (w' := (hp u fL fD, c, z)) rfl ?_
    refine mg_Ev.sld rfl hb2 ?_
    refine mg_Ev.go 1 (pc' := 1226) (loc' := [some (.ref 0), some (.ref 1), some (.ref 43), some (.ref 51), some (.ref 52), some (.int i), none, none, none]) (st' := [.ref 51, .int (sc.2 (i + 2).toNatClampNeg), .int (sc.2 (i + 1).toNatClampNeg), .ref 1]) (w' := (hp u fL fD, c, z)) rfl ?_
    refine mg_Ev.call (y := 237) (as := [.ref 1, .int (sc.2 (i + 1).toNatClampNeg), .int (sc.2 (i + 2).toNatClampNeg), .ref 51]) (rest := []) (v := some (.int 1)) (w1 := (hp u1 fL fD, c + 1, z + 6)) rfl rfl (Nat.le_of_ble_eq_true rfl) ((ev_W_part_x0 hC).deep (by decide)) ?_
    refine mg_Ev.go 1 (pc' := 1231) (loc' := [some (.ref 0), some (.ref 1), some (.ref 43), some (.ref 51), some (.ref 52), some (.int i), some (.int 1), none, none]) (st' := []) (w' := (hp u1 fL fD, c + 1, z + 6)) rfl ?_
    exact ev_opB_13 hb1 hb2 hM hT (fun q => absurd q (by decide)) hr
  · obtain ⟨r, hr, hQ⟩ := K fL fD (c + 1) (z + 6) (Nat.le_refl _) (Nat.le_refl _)
    refine ⟨r, ?_, hQ⟩
    refine mg_Ev.go 5 (pc' := 1218) (loc' := [some (.ref 0), some (.ref 1), some (.ref 43), some (.ref 51), some (.ref 52), some (.int i), none, none, none]) (st' := [.int (i + 1), .ref 0, .ref 1]) (w' := (hp u fL fD, c, z)) rfl ?_
    refine mg_Ev.sld rfl hb1 ?_
    refine mg_Ev.go 4 (pc' := 1224) (loc' := [some (.ref 0), some (.ref 1), some (.ref 43), some (.ref 51), some (.ref 52), some (.int i), none, none, none]) (st' := [.int (i + 2), .ref 0, .int (sc.2 (i + 1).toNatClampNeg), .ref 1]) (w' := (hp u fL fD, c, z)) rfl ?_
    refine mg_Ev.sld rfl hb2 ?_
    refine mg_Ev.go 1 (pc' := 1226) (loc' := [some (.ref 0), some (.ref 1), some (.ref 43), some (.ref 51), some (.ref 52), some (.int i), none, none, none]) (st' := [.ref 51, .int (sc.2 (i + 2).toNatClampNeg), .int (sc.2 (i + 1).toNatClampNeg), .ref 1]) (w' := (hp u fL fD, c, z)) rfl ?_
    refine mg_Ev.call (y := 237) (as := [.ref 1, .int (sc.2 (i + 1).toNatClampNeg), .int (sc.2 (i + 2).toNatClampNeg), .ref 51]) (rest := []) (v := some (.int 2)) (w1 := (hp u1 fL fD, c + 1, z + 6)) rfl rfl (Nat.le_of_ble_eq_true rfl) ((ev_W_part_x1 hC).deep (by decide)) ?_
    refine mg_Ev.go 1 (pc' := 1231) (loc' := [some (.ref 0), some (.ref 1), some (.ref 43), some (.ref 51), some (.ref 52), some (.int i), some (.int 2), none, none]) (st' := []) (w' := (hp u1 fL fD, c + 1, z + 6)) rfl ?_
    exact ev_opB_13 hb1 hb2 hM hT (fun q => absurd q (by decide)) hr
  · obtain ⟨r, hr, hQ⟩ := K fL fD (c + 1) (z + 6) (Nat.le_refl _) (Nat.le_refl _)
    refine ⟨r, ?_, hQ⟩
    refine mg_Ev.go 5 (pc' := 1218) (loc' := [some (.ref 0), some (.ref 1), some (.ref 43), some (.ref 51), some (.ref 52), some (.int i), none, none, none]) (st' := [.int (i + 1), .ref 0, .ref 1]) (w' := (hp u fL fD, c, z)) rfl ?_
    refine mg_Ev.sld rfl hb1 ?_
    refine mg_Ev.go 4 (pc' := 1224) (loc' := [some (.ref 0), some (.ref 1), some (.ref 43), some (.ref 51), some (.ref 52), some (.int i), none, none, none]) (st' := [.int (i + 2), .ref 0, .int (sc.2 (i + 1).toNatClampNeg), .ref 1]) (w' := (hp u fL fD, c, z)) rfl ?_
    refine mg_Ev.sld rfl hb2 ?_
    refine mg_Ev.go 1 (pc' := 1226) (loc' := [some (.ref 0), some (.ref 1), some (.ref 43), some (.ref 51), some (.ref 52), some (.int i), none, none, none]) (st' := [.ref 51, .int (sc.2 (i + 2).toNatClampNeg), .int (sc.2 (i + 1).toNatClampNeg), .ref 1]) (w' := (hp u fL fD, c, z)) rfl ?_
    refine mg_Ev.call (y := 237) (as := [.ref 1, .int (sc.2 (i + 1).toNatClampNeg), .int (sc.2 (i + 2).toNatClampNeg), .ref 51]) (rest := []) (v := some (.int 3)) (w1 := (hp u1 fL fD, c + 1, z + 6)) rfl rfl (Nat.le_of_ble_eq_true rfl) ((ev_W_part_x2 hC).deep (by decide)) ?_
    refine mg_Ev.go 1 (pc' := 1231) (loc' := [some (.ref 0), some (.ref 1), some (.ref 43), some (.ref 51), some (.ref 52), some (.int i), some (.int 3), none, none]) (st' := []) (w' := (hp u1 fL fD, c + 1, z + 6)) rfl ?_
    exact ev_opB_13 hb1 hb2 hM hT (fun q => absurd q (by decide)) hr
def Ob_13 (I : mg_Rg → Prop) : Prop := ∀ u, I u → ∀ p1 p2 : Int32, ∃ (t : Int32 ⊕ Nat) (u1 : mg_Rg) (b : Int32) (u2 : mg_Rg) (T : Int32), C_part p1 p2 u = some (t, u1) ∧ M_part p1 p2 u1 = some (b, u2) ∧ M_thrown u2 = some T ∧ ((∃ v, t = .inl v ∧ b = v ∧ T = 0) ∨ (t = .inr 0 ∧ T = 1) ∨ (t = .inr 1 ∧ T = 2) ∨ (t = .inr 2 ∧ T = 3)) ∧ I u2
theorem st_op_13 {sc : mg_Sc} {c z : Nat} {fL : Nat → Int64} {fD : Nat → UInt64} {i : Int32} {u : mg_Rg} {Q : mg_R → Prop} {I : mg_Rg → Prop} (O : Ob_13 I) (hu : I u) (hb1 : ¬ ((i + 1) < 0 ∨ sc.1 ≤ (i + 1).toNatClampNeg)) (hb2 : ¬ ((i + 2) < 0 ∨ sc.1 ≤ (i + 2).toNatClampNeg)) (K : ∀ u2 fL fD c1 z1, I u2 → c1 ≤ c + 1 → z1 ≤ z + 6 → ∃ r, mg_Ev sc 11 258 2448 [some (.ref 0), some (.ref 1), some (.ref 43), some (.ref 51), some (.ref 52), some (.int i), none, none, none] [] (hp u2 fL fD, c1, z1) r ∧ Q r) : ∃ r, mg_Ev sc 11 258 1212 [some (.ref 0), some (.ref 1), some (.ref 43), some (.ref 51), some (.ref 52), some (.int i), none, none, none] [] (hp u fL fD, c, z) r ∧ Q r := by
  obtain ⟨t, u1, b, u2, T, hC, hM, hT, H, hI⟩ := O u hu (sc.2 (i + 1).toNatClampNeg) (sc.2 (i + 2).toNatClampNeg)
  exact ev_op_13 hb1 hb2 hC hM hT H (fun fL fD c1 z1 h1 h2 => K u2 fL fD c1 z1 hI h1 h2)
set_option maxRecDepth 10000 in
set_option maxHeartbeats 4000000 in
theorem ev_op_14 {sc : mg_Sc} {c z : Nat} {fL : Nat → Int64} {fD : Nat → UInt64} {i b : Int32} {u u1 u2 : mg_Rg} {r : mg_R} (hC : C_forget u = some (b, u1)) (hM : M_forget u1 = some (b, u2)) (K : mg_Ev sc 11 258 2448 [some (.ref 0), some (.ref 1), some (.ref 43), some (.ref 51), some (.ref 52), some (.int i), none, none, none] [] (hp u2 fL fD, c, z) r) : mg_Ev sc 11 258 1280 [some (.ref 0), some (.ref 1), some (.ref 43), some (.ref 51), some (.ref 52), some (.int i), none, none, none] [] (hp u fL fD, c, z) r := by
  refine mg_Ev.go 1 (pc' := 1281) (loc' := [some (.ref 0), some (.ref 1), some (.ref 43), some (.ref 51), some (.ref 52), some (.int i), none, none, none]) (st' := [.ref 1]) (w' := (hp u fL fD, c, z)) rfl ?_
  refine mg_Ev.call (y := 15) (as := [.ref 1]) (rest := []) (v := some (.int b)) (w1 := (hp u1 fL fD, c, z)) rfl rfl (Nat.le_of_ble_eq_true rfl) ((ev_C_forget hC).deep (by decide)) ?_
  refine mg_Ev.go 1 (pc' := 1285) (loc' := [some (.ref 0), some (.ref 1), some (.ref 43), some (.ref 51), some (.ref 52), some (.int i), none, none, none]) (st' := [.ref 43, .int b]) (w' := (hp u1 fL fD, c, z)) rfl ?_
  refine mg_Ev.call (y := 96) (as := [.ref 43]) (rest := [.int b]) (v := some (.int b)) (w1 := (hp u2 fL fD, c, z)) rfl rfl (Nat.le_of_ble_eq_true rfl) ((ev_M_forget hM).deep (by decide)) ?_
  refine mg_Ev.br (P := b = b) (t := 2448) (nx := 1291) (st' := []) rfl rfl rfl rfl (fun _ => K) (fun q => absurd rfl q)
def Ob_14 (I : mg_Rg → Prop) : Prop := ∀ u, I u → ∃ (b : Int32) (u1 : mg_Rg) (u2 : mg_Rg), C_forget u = some (b, u1) ∧ M_forget u1 = some (b, u2) ∧ I u2
theorem st_op_14 {sc : mg_Sc} {c z : Nat} {fL : Nat → Int64} {fD : Nat → UInt64} {i : Int32} {u : mg_Rg} {Q : mg_R → Prop} {I : mg_Rg → Prop} (O : Ob_14 I) (hu : I u) (K : ∀ u2 fL fD c1 z1, I u2 → c1 ≤ c + 1 → z1 ≤ z + 6 → ∃ r, mg_Ev sc 11 258 2448 [some (.ref 0), some (.ref 1), some (.ref 43), some (.ref 51), some (.ref 52), some (.int i), none, none, none] [] (hp u2 fL fD, c1, z1) r ∧ Q r) : ∃ r, mg_Ev sc 11 258 1280 [some (.ref 0), some (.ref 1), some (.ref 43), some (.ref 51), some (.ref 52), some (.int i), none, none, none] [] (hp u fL fD, c, z) r ∧ Q r := by
  obtain ⟨b, u1, u2, hC, hM, hI⟩ := O u hu
  obtain ⟨r, hr, hQ⟩ := K u2 fL fD c z hI (Nat.le_succ _) (Nat.le_add_right _ _)
  exact ⟨r, ev_op_14 hC hM hr, hQ⟩
set_option maxRecDepth 10000 in
set_option maxHeartbeats 4000000 in
theorem ev_opB_15 {sc : mg_Sc} {c z : Nat} {fL : Nat → Int64} {fD : Nat → UInt64} {i T : Int32} {b : Int32} {u1 u2 : mg_Rg} {r : mg_R} (hM : M_origin u1 = some (b, u2)) (hT : M_thrown u2 = some T) (hv : T = 0 → fL 0 = b.toInt64) (K : mg_Ev sc 11 258 2448 [some (.ref 0), some (.ref 1), some (.ref 43), some (.ref 51), some (.ref 52), some (.int i), none, none, none] [] (hp u2 fL fD, c, z) r) : mg_Ev sc 11 258 1300 [some (.ref 0), some (.ref 1), some (.ref 43), some (.ref 51), some (.ref 52), some (.int i), some (.int T), none, none] [] (hp u1 fL fD, c, z) r := by
  refine mg_Ev.go 1 (pc' := 1301) (loc' := [some (.ref 0), some (.ref 1), some (.ref 43), some (.ref 51), some (.ref 52), some (.int i), some (.int T), none, none]) (st' := [.ref 43]) (w' := (hp u1 fL fD, c, z)) rfl ?_
  refine mg_Ev.call (y := 99) (as := [.ref 43]) (rest := []) (v := some (.int b)) (w1 := (hp u2 fL fD, c, z)) rfl rfl (Nat.le_of_ble_eq_true rfl) ((ev_M_origin hM).deep (by decide)) ?_
  refine mg_Ev.go 2 (pc' := 1307) (loc' := [some (.ref 0), some (.ref 1), some (.ref 43), some (.ref 51), some (.ref 52), some (.int i), some (.int T), some (.int b), none]) (st' := [.ref 43]) (w' := (hp u2 fL fD, c, z)) rfl ?_
  refine mg_Ev.call (y := 57) (as := [.ref 43]) (rest := []) (v := some (.int T)) (w1 := (hp u2 fL fD, c, z)) rfl rfl (Nat.le_of_ble_eq_true rfl) ((ev_M_thrown hT).deep (by decide)) ?_
  refine mg_Ev.go 1 (pc' := 1312) (loc' := [some (.ref 0), some (.ref 1), some (.ref 43), some (.ref 51), some (.ref 52), some (.int i), some (.int T), some (.int b), none]) (st' := [.int T, .int T]) (w' := (hp u2 fL fD, c, z)) rfl ?_
  refine mg_Ev.br (P := T = T) (t := 1317) (nx := 1315) (st' := []) rfl rfl rfl rfl (fun _ => ?_) (fun q => absurd rfl q)
  refine mg_Ev.go 1 (pc' := 1319) (loc' := [some (.ref 0), some (.ref 1), some (.ref 43), some (.ref 51), some (.ref 52), some (.int i), some (.int T), some (.int b), none]) (st' := [.int T]) (w' := (hp u2 fL fD, c, z)) rfl ?_
  refine mg_Ev.br (P := T = 0) (t := 1322) (nx := 1334) (st' := []) rfl rfl rfl rfl (fun h0 => ?_) (fun _ => ?_)
  · have h1 := hv h0
    refine mg_Ev.go 2 (pc' := 1324) (loc' := [some (.ref 0), some (.ref 1), some (.ref 43), some (.ref 51), some (.ref 52), some (.int i), some (.int T), some (.int b), none]) (st' := [.int 0, .ref 51]) (w' := (hp u2 fL fD, c, z)) rfl ?_
    refine mg_Ev.lald (a := 50) (n := 1) (f := fL) (j := 0) rfl (hpg_50 _ _ _) (by decide) (by decide) ?_
    rw [h1]
    refine mg_Ev.go 3 (pc' := 1329) (loc' := [some (.ref 0), some (.ref 1), some (.ref 43), some (.ref 51), some (.ref 52), some (.int i), some (.int T), some (.int b), none]) (st' := [.int (lg_cmp b.toInt64 b.toInt64)]) (w' := (hp u2 fL fD, c, z)) rfl ?_
    refine mg_Ev.br (P := lg_cmp b.toInt64 b.toInt64 = 0) (t := 1334) (nx := 1332) (st' := []) rfl rfl rfl rfl (fun _ => ?_) (fun q => absurd (mg_lcmp _) q)
    refine mg_Ev.go 1 (pc' := 2448) (loc' := [some (.ref 0), some (.ref 1), some (.ref 43), some (.ref 51), some (.ref 52), some (.int i), some (.int T), some (.int b), none]) (st' := []) (w' := (hp u2 fL fD, c, z)) rfl ?_
    exact mg_Ev.more K ⟨rfl, ⟨rfl, ⟨rfl, ⟨rfl, ⟨rfl, ⟨rfl, trivial⟩⟩⟩⟩⟩⟩
  · refine mg_Ev.go 1 (pc' := 2448) (loc' := [some (.ref 0), some (.ref 1), some (.ref 43), some (.ref 51), some (.ref 52), some (.int i), some (.int T), some (.int b), none]) (st' := []) (w' := (hp u2 fL fD, c, z)) rfl ?_
    exact mg_Ev.more K ⟨rfl, ⟨rfl, ⟨rfl, ⟨rfl, ⟨rfl, ⟨rfl, trivial⟩⟩⟩⟩⟩⟩
set_option maxRecDepth 10000 in
set_option maxHeartbeats 4000000 in
theorem ev_op_15 {sc : mg_Sc} {c z : Nat} {fL : Nat → Int64} {fD : Nat → UInt64} {i T : Int32} {b : Int32} {t : Int32 ⊕ Nat} {u u1 u2 : mg_Rg} {Q : mg_R → Prop} (hC : C_origin u = some (t, u1)) (hM : M_origin u1 = some (b, u2)) (hT : M_thrown u2 = some T) (H : (∃ v, t = .inl v ∧ b = v ∧ T = 0) ∨ (t = .inr 3 ∧ T = 1)) (K : ∀ fL fD c1 z1, c1 ≤ c + 1 → z1 ≤ z + 6 → ∃ r, mg_Ev sc 11 258 2448 [some (.ref 0), some (.ref 1), some (.ref 43), some (.ref 51), some (.ref 52), some (.int i), none, none, none] [] (hp u2 fL fD, c1, z1) r ∧ Q r) : ∃ r, mg_Ev sc 11 258 1293 [some (.ref 0), some (.ref 1), some (.ref 43), some (.ref 51), some (.ref 52), some (.int i), none, none, none] [] (hp u fL fD, c, z) r ∧ Q r := by
  rcases H with ⟨v, rfl, rfl, rfl⟩ | ⟨rfl, rfl⟩
  · obtain ⟨r, hr, hQ⟩ := K (vp_updL fL 0 b.toInt64) fD c z (Nat.le_succ _) (Nat.le_add_right _ _)
    refine ⟨r, ?_, hQ⟩
    refine mg_Ev.go 2 (pc' := 1295) (loc' := [some (.ref 0), some (.ref 1), some (.ref 43), some (.ref 51), some (.ref 52), some (.int i), none, none, none]) (st' := [.ref 51, .ref 1]) (w' := (hp u fL fD, c, z)) rfl ?_
    refine mg_Ev.call (y := 238) (as := [.ref 1, .ref 51]) (rest := []) (v := some (.int 0)) (w1 := (hp u1 (vp_updL fL 0 b.toInt64) fD, c, z)) rfl rfl (Nat.le_of_ble_eq_true rfl) ((ev_W_origin_ok hC).deep (by decide)) ?_
    refine mg_Ev.go 1 (pc' := 1300) (loc' := [some (.ref 0), some (.ref 1), some (.ref 43), some (.ref 51), some (.ref 52), some (.int i), some (.int 0), none, none]) (st' := []) (w' := (hp u1 (vp_updL fL 0 b.toInt64) fD, c, z)) rfl ?_
    exact ev_opB_15 hM hT (fun _ => rfl) hr
  · obtain ⟨r, hr, hQ⟩ := K fL fD (c + 1) (z + 6) (Nat.le_refl _) (Nat.le_refl _)
    refine ⟨r, ?_, hQ⟩
    refine mg_Ev.go 2 (pc' := 1295) (loc' := [some (.ref 0), some (.ref 1), some (.ref 43), some (.ref 51), some (.ref 52), some (.int i), none, none, none]) (st' := [.ref 51, .ref 1]) (w' := (hp u fL fD, c, z)) rfl ?_
    refine mg_Ev.call (y := 238) (as := [.ref 1, .ref 51]) (rest := []) (v := some (.int 1)) (w1 := (hp u1 fL fD, c + 1, z + 6)) rfl rfl (Nat.le_of_ble_eq_true rfl) ((ev_W_origin_x3 hC).deep (by decide)) ?_
    refine mg_Ev.go 1 (pc' := 1300) (loc' := [some (.ref 0), some (.ref 1), some (.ref 43), some (.ref 51), some (.ref 52), some (.int i), some (.int 1), none, none]) (st' := []) (w' := (hp u1 fL fD, c + 1, z + 6)) rfl ?_
    exact ev_opB_15 hM hT (fun q => absurd q (by decide)) hr
def Ob_15 (I : mg_Rg → Prop) : Prop := ∀ u, I u → ∃ (t : Int32 ⊕ Nat) (u1 : mg_Rg) (b : Int32) (u2 : mg_Rg) (T : Int32), C_origin u = some (t, u1) ∧ M_origin u1 = some (b, u2) ∧ M_thrown u2 = some T ∧ ((∃ v, t = .inl v ∧ b = v ∧ T = 0) ∨ (t = .inr 3 ∧ T = 1)) ∧ I u2
theorem st_op_15 {sc : mg_Sc} {c z : Nat} {fL : Nat → Int64} {fD : Nat → UInt64} {i : Int32} {u : mg_Rg} {Q : mg_R → Prop} {I : mg_Rg → Prop} (O : Ob_15 I) (hu : I u) (K : ∀ u2 fL fD c1 z1, I u2 → c1 ≤ c + 1 → z1 ≤ z + 6 → ∃ r, mg_Ev sc 11 258 2448 [some (.ref 0), some (.ref 1), some (.ref 43), some (.ref 51), some (.ref 52), some (.int i), none, none, none] [] (hp u2 fL fD, c1, z1) r ∧ Q r) : ∃ r, mg_Ev sc 11 258 1293 [some (.ref 0), some (.ref 1), some (.ref 43), some (.ref 51), some (.ref 52), some (.int i), none, none, none] [] (hp u fL fD, c, z) r ∧ Q r := by
  obtain ⟨t, u1, b, u2, T, hC, hM, hT, H, hI⟩ := O u hu
  exact ev_op_15 hC hM hT H (fun fL fD c1 z1 h1 h2 => K u2 fL fD c1 z1 hI h1 h2)
set_option maxRecDepth 10000 in
set_option maxHeartbeats 4000000 in
theorem ev_opB_16 {sc : mg_Sc} {c z : Nat} {fL : Nat → Int64} {fD : Nat → UInt64} {i T : Int32} {b : Int32} {u1 u2 : mg_Rg} {r : mg_R} (hb1 : ¬ ((i + 1) < 0 ∨ sc.1 ≤ (i + 1).toNatClampNeg)) (hb2 : ¬ ((i + 2) < 0 ∨ sc.1 ≤ (i + 2).toNatClampNeg)) (hb3 : ¬ ((i + 3) < 0 ∨ sc.1 ≤ (i + 3).toNatClampNeg)) (hb4 : ¬ ((i + 4) < 0 ∨ sc.1 ≤ (i + 4).toNatClampNeg)) (hM : M_declare (sc.2 (i + 1).toNatClampNeg) (sc.2 (i + 2).toNatClampNeg) (sc.2 (i + 3).toNatClampNeg) (sc.2 (i + 4).toNatClampNeg) u1 = some (b, u2)) (hT : M_thrown u2 = some T) (hv : T = 0 → fL 0 = b.toInt64) (K : mg_Ev sc 11 258 2448 [some (.ref 0), some (.ref 1), some (.ref 43), some (.ref 51), some (.ref 52), some (.int i), none, none, none] [] (hp u2 fL fD, c, z) r) : mg_Ev sc 11 258 1368 [some (.ref 0), some (.ref 1), some (.ref 43), some (.ref 51), some (.ref 52), some (.int i), some (.int T), none, none] [] (hp u1 fL fD, c, z) r := by
  refine mg_Ev.go 5 (pc' := 1374) (loc' := [some (.ref 0), some (.ref 1), some (.ref 43), some (.ref 51), some (.ref 52), some (.int i), some (.int T), none, none]) (st' := [.int (i + 1), .ref 0, .ref 43]) (w' := (hp u1 fL fD, c, z)) rfl ?_
  refine mg_Ev.sld rfl hb1 ?_
  refine mg_Ev.go 4 (pc' := 1380) (loc' := [some (.ref 0), some (.ref 1), some (.ref 43), some (.ref 51), some (.ref 52), some (.int i), some (.int T), none, none]) (st' := [.int (i + 2), .ref 0, .int (sc.2 (i + 1).toNatClampNeg), .ref 43]) (w' := (hp u1 fL fD, c, z)) rfl ?_
  refine mg_Ev.sld rfl hb2 ?_
  refine mg_Ev.go 4 (pc' := 1386) (loc' := [some (.ref 0), some (.ref 1), some (.ref 43), some (.ref 51), some (.ref 52), some (.int i), some (.int T), none, none]) (st' := [.int (i + 3), .ref 0, .int (sc.2 (i + 2).toNatClampNeg), .int (sc.2 (i + 1).toNatClampNeg), .ref 43]) (w' := (hp u1 fL fD, c, z)) rfl ?_
  refine mg_Ev.sld rfl hb3 ?_
  refine mg_Ev.go 4 (pc' := 1392) (loc' := [some (.ref 0), some (.ref 1), some (.ref 43), some (.ref 51), some (.ref 52), some (.int i), some (.int T), none, none]) (st' := [.int (i + 4), .ref 0, .int (sc.2 (i + 3).toNatClampNeg), .int (sc.2 (i + 2).toNatClampNeg), .int (sc.2 (i + 1).toNatClampNeg), .ref 43]) (w' := (hp u1 fL fD, c, z)) rfl ?_
  refine mg_Ev.sld rfl hb4 ?_
  refine mg_Ev.call (y := 100) (as := [.ref 43, .int (sc.2 (i + 1).toNatClampNeg), .int (sc.2 (i + 2).toNatClampNeg), .int (sc.2 (i + 3).toNatClampNeg), .int (sc.2 (i + 4).toNatClampNeg)]) (rest := []) (v := some (.int b)) (w1 := (hp u2 fL fD, c, z)) rfl rfl (Nat.le_of_ble_eq_true rfl) ((ev_M_declare hM).deep (by decide)) ?_
  refine mg_Ev.go 2 (pc' := 1399) (loc' := [some (.ref 0), some (.ref 1), some (.ref 43), some (.ref 51), some (.ref 52), some (.int i), some (.int T), some (.int b), none]) (st' := [.ref 43]) (w' := (hp u2 fL fD, c, z)) rfl ?_
  refine mg_Ev.call (y := 57) (as := [.ref 43]) (rest := []) (v := some (.int T)) (w1 := (hp u2 fL fD, c, z)) rfl rfl (Nat.le_of_ble_eq_true rfl) ((ev_M_thrown hT).deep (by decide)) ?_
  refine mg_Ev.go 1 (pc' := 1404) (loc' := [some (.ref 0), some (.ref 1), some (.ref 43), some (.ref 51), some (.ref 52), some (.int i), some (.int T), some (.int b), none]) (st' := [.int T, .int T]) (w' := (hp u2 fL fD, c, z)) rfl ?_
  refine mg_Ev.br (P := T = T) (t := 1409) (nx := 1407) (st' := []) rfl rfl rfl rfl (fun _ => ?_) (fun q => absurd rfl q)
  refine mg_Ev.go 1 (pc' := 1411) (loc' := [some (.ref 0), some (.ref 1), some (.ref 43), some (.ref 51), some (.ref 52), some (.int i), some (.int T), some (.int b), none]) (st' := [.int T]) (w' := (hp u2 fL fD, c, z)) rfl ?_
  refine mg_Ev.br (P := T = 0) (t := 1414) (nx := 1426) (st' := []) rfl rfl rfl rfl (fun h0 => ?_) (fun _ => ?_)
  · have h1 := hv h0
    refine mg_Ev.go 2 (pc' := 1416) (loc' := [some (.ref 0), some (.ref 1), some (.ref 43), some (.ref 51), some (.ref 52), some (.int i), some (.int T), some (.int b), none]) (st' := [.int 0, .ref 51]) (w' := (hp u2 fL fD, c, z)) rfl ?_
    refine mg_Ev.lald (a := 50) (n := 1) (f := fL) (j := 0) rfl (hpg_50 _ _ _) (by decide) (by decide) ?_
    rw [h1]
    refine mg_Ev.go 3 (pc' := 1421) (loc' := [some (.ref 0), some (.ref 1), some (.ref 43), some (.ref 51), some (.ref 52), some (.int i), some (.int T), some (.int b), none]) (st' := [.int (lg_cmp b.toInt64 b.toInt64)]) (w' := (hp u2 fL fD, c, z)) rfl ?_
    refine mg_Ev.br (P := lg_cmp b.toInt64 b.toInt64 = 0) (t := 1426) (nx := 1424) (st' := []) rfl rfl rfl rfl (fun _ => ?_) (fun q => absurd (mg_lcmp _) q)
    refine mg_Ev.go 1 (pc' := 2448) (loc' := [some (.ref 0), some (.ref 1), some (.ref 43), some (.ref 51), some (.ref 52), some (.int i), some (.int T), some (.int b), none]) (st' := []) (w' := (hp u2 fL fD, c, z)) rfl ?_
    exact mg_Ev.more K ⟨rfl, ⟨rfl, ⟨rfl, ⟨rfl, ⟨rfl, ⟨rfl, trivial⟩⟩⟩⟩⟩⟩
  · refine mg_Ev.go 1 (pc' := 2448) (loc' := [some (.ref 0), some (.ref 1), some (.ref 43), some (.ref 51), some (.ref 52), some (.int i), some (.int T), some (.int b), none]) (st' := []) (w' := (hp u2 fL fD, c, z)) rfl ?_
    exact mg_Ev.more K ⟨rfl, ⟨rfl, ⟨rfl, ⟨rfl, ⟨rfl, ⟨rfl, trivial⟩⟩⟩⟩⟩⟩
set_option maxRecDepth 10000 in
set_option maxHeartbeats 4000000 in
theorem ev_op_16 {sc : mg_Sc} {c z : Nat} {fL : Nat → Int64} {fD : Nat → UInt64} {i T : Int32} {b : Int32} {t : Int32 ⊕ Nat} {u u1 u2 : mg_Rg} {Q : mg_R → Prop} (hb1 : ¬ ((i + 1) < 0 ∨ sc.1 ≤ (i + 1).toNatClampNeg)) (hb2 : ¬ ((i + 2) < 0 ∨ sc.1 ≤ (i + 2).toNatClampNeg)) (hb3 : ¬ ((i + 3) < 0 ∨ sc.1 ≤ (i + 3).toNatClampNeg)) (hb4 : ¬ ((i + 4) < 0 ∨ sc.1 ≤ (i + 4).toNatClampNeg)) (hC : C_declare (sc.2 (i + 1).toNatClampNeg) (sc.2 (i + 2).toNatClampNeg) (sc.2 (i + 3).toNatClampNeg) (sc.2 (i + 4).toNatClampNeg) u = some (t, u1)) (hM : M_declare (sc.2 (i + 1).toNatClampNeg) (sc.2 (i + 2).toNatClampNeg) (sc.2 (i + 3).toNatClampNeg) (sc.2 (i + 4).toNatClampNeg) u1 = some (b, u2)) (hT : M_thrown u2 = some T) (H : (∃ v, t = .inl v ∧ b = v ∧ T = 0) ∨ (t = .inr 0 ∧ T = 1) ∨ (t = .inr 1 ∧ T = 2) ∨ (t = .inr 2 ∧ T = 3)) (K : ∀ fL fD c1 z1, c1 ≤ c + 1 → z1 ≤ z + 6 → ∃ r, mg_Ev sc 11 258 2448 [some (.ref 0), some (.ref 1), some (.ref 43), some (.ref 51), some (.ref 52), some (.int i), none, none, none] [] (hp u2 fL fD, c1, z1) r ∧ Q r) : ∃ r, mg_Ev sc 11 258 1337 [some (.ref 0), some (.ref 1), some (.ref 43), some (.ref 51), some (.ref 52), some (.int i), none, none, none] [] (hp u fL fD, c, z) r ∧ Q r := by
  rcases H with ⟨v, rfl, rfl, rfl⟩ | ⟨rfl, rfl⟩ | ⟨rfl, rfl⟩ | ⟨rfl, rfl⟩
  · obtain ⟨r, hr, hQ⟩ := K (vp_updL fL 0 b.toInt64) fD c z (Nat.le_succ _) (Nat.le_add_right _ _)
    refine ⟨r, ?_, hQ⟩
    refine mg_Ev.go 5 (pc' := 1343) (loc' := [some (.ref 0), some (.ref 1), some (.ref 43), some (.ref 51), some (.ref 52), some (.int i), none, none, none]) (st' := [.int (i + 1), .ref 0, .ref 1]) (w' := (hp u fL fD, c, z)) rfl ?_
    refine mg_Ev.sld rfl hb1 ?_
    refine mg_Ev.go 4 (pc' := 1349) (loc' := [some (.ref 0), some (.ref 1), some (.ref 43), some (.ref 51), some (.ref 52), some (.int i), none, none, none]) (st' := [.int (i + 2), .ref 0, .int (sc.2 (i + 1).toNatClampNeg), .ref 1]) (w' := (hp u fL fD, c, z)) rfl ?_
    refine mg_Ev.sld rfl hb2 ?_
    refine mg_Ev.go 4 (pc' := 1355) (loc' := [some (.ref 0), some (.ref 1), some (.ref 43), some (.ref 51), some (.ref 52), some (.int i), none, none, none]) (st' := [.int (i + 3), .ref 0, .int (sc.2 (i + 2).toNatClampNeg), .int (sc.2 (i + 1).toNatClampNeg), .ref 1]) (w' := (hp u fL fD, c, z)) rfl ?_
    refine mg_Ev.sld rfl hb3 ?_
    refine mg_Ev.go 4 (pc' := 1361) (loc' := [some (.ref 0), some (.ref 1), some (.ref 43), some (.ref 51), some (.ref 52), some (.int i), none, none, none]) (st' := [.int (i + 4), .ref 0, .int (sc.2 (i + 3).toNatClampNeg), .int (sc.2 (i + 2).toNatClampNeg), .int (sc.2 (i + 1).toNatClampNeg), .ref 1]) (w' := (hp u fL fD, c, z)) rfl ?_
    refine mg_Ev.sld rfl hb4 ?_
    refine mg_Ev.go 1 (pc' := 1363) (loc' := [some (.ref 0), some (.ref 1), some (.ref 43), some (.ref 51), some (.ref 52), some (.int i), none, none, none]) (st' := [.ref 51, .int (sc.2 (i + 4).toNatClampNeg), .int (sc.2 (i + 3).toNatClampNeg), .int (sc.2 (i + 2).toNatClampNeg), .int (sc.2 (i + 1).toNatClampNeg), .ref 1]) (w' := (hp u fL fD, c, z)) rfl ?_
    refine mg_Ev.call (y := 239) (as := [.ref 1, .int (sc.2 (i + 1).toNatClampNeg), .int (sc.2 (i + 2).toNatClampNeg), .int (sc.2 (i + 3).toNatClampNeg), .int (sc.2 (i + 4).toNatClampNeg), .ref 51]) (rest := []) (v := some (.int 0)) (w1 := (hp u1 (vp_updL fL 0 b.toInt64) fD, c, z)) rfl rfl (Nat.le_of_ble_eq_true rfl) ((ev_W_declare_ok hC).deep (by decide)) ?_
    refine mg_Ev.go 1 (pc' := 1368) (loc' := [some (.ref 0), some (.ref 1), some (.ref 43), some (.ref 51), some (.ref 52), some (.int i), some (.int 0), none, none]) (st' := []) (w' := (hp u1 (vp_updL fL 0 b.toInt64) fD, c, z)) rfl ?_
    exact ev_opB_16 hb1 hb2 hb3 hb4 hM hT (fun _ => rfl) hr
  · obtain ⟨r, hr, hQ⟩ := K fL fD (c + 1) (z + 6) (Nat.le_refl _) (Nat.le_refl _)
    refine ⟨r, ?_, hQ⟩
    refine mg_Ev.go 5 (pc' := 1343) (loc' := [some (.ref 0), some (.ref 1), some (.ref 43), some (.ref 51), some (.ref 52), some (.int i), none, none, none]) (st' := [.int (i + 1), .ref 0, .ref 1]) (w' := (hp u fL fD, c, z)) rfl ?_
    refine mg_Ev.sld rfl hb1 ?_
    refine mg_Ev.go 4 (pc' := 1349) (loc' := [some (.ref 0), some (.ref 1), some (.ref 43), some (.ref 51), some (.ref 52), some (.int i), none, none, none]) (st' := [.int (i + 2), .ref 0, .int (sc.2 (i + 1).toNatClampNeg), .ref 1]) (w' := (hp u fL fD, c, z)) rfl ?_
    refine mg_Ev.sld rfl hb2 ?_
    refine mg_Ev.go 4 (pc' := 1355) (loc' := [some (.ref 0), some (.ref 1), some (.ref 43), some (.ref 51), some (.ref 52), some (.int i), none, none, none]) (st' := [.int (i + 3), .ref 0, .int (sc.2 (i + 2).toNatClampNeg), .int (sc.2 (i + 1).toNatClampNeg), .ref 1]) (w' := (hp u fL fD, c, z)) rfl ?_
    refine mg_Ev.sld rfl hb3 ?_
    refine mg_Ev.go 4 (pc' := 1361) (loc' := [some (.ref 0), some (.ref 1), some (.ref 43), some (.ref 51), some (.ref 52), some (.int i), none, none, none]) (st' := [.int (i + 4), .ref 0, .int (sc.2 (i + 3).toNatClampNeg), .int (sc.2 (i + 2).toNatClampNeg), .int (sc.2 (i + 1).toNatClampNeg), .ref 1]) (w' := (hp u fL fD, c, z)) rfl ?_
    refine mg_Ev.sld rfl hb4 ?_
    refine mg_Ev.go 1 (pc' := 1363) (loc' := [some (.ref 0), some (.ref 1), some (.ref 43), some (.ref 51), some (.ref 52), some (.int i), none, none, none]) (st' := [.ref 51, .int (sc.2 (i + 4).toNatClampNeg), .int (sc.2 (i + 3).toNatClampNeg), .int (sc.2 (i + 2).toNatClampNeg), .int (sc.2 (i + 1).toNatClampNeg), .ref 1]) (w' := (hp u fL fD, c, z)) rfl ?_
    refine mg_Ev.call (y := 239) (as := [.ref 1, .int (sc.2 (i + 1).toNatClampNeg), .int (sc.2 (i + 2).toNatClampNeg), .int (sc.2 (i + 3).toNatClampNeg), .int (sc.2 (i + 4).toNatClampNeg), .ref 51]) (rest := []) (v := some (.int 1)) (w1 := (hp u1 fL fD, c + 1, z + 6)) rfl rfl (Nat.le_of_ble_eq_true rfl) ((ev_W_declare_x0 hC).deep (by decide)) ?_
    refine mg_Ev.go 1 (pc' := 1368) (loc' := [some (.ref 0), some (.ref 1), some (.ref 43), some (.ref 51), some (.ref 52), some (.int i), some (.int 1), none, none]) (st' := []) (w' := (hp u1 fL fD, c + 1, z + 6)) rfl ?_
    exact ev_opB_16 hb1 hb2 hb3 hb4 hM hT (fun q => absurd q (by decide)) hr
  · obtain ⟨r, hr, hQ⟩ := K fL fD (c + 1) (z + 6) (Nat.le_refl _) (Nat.le_refl _)
    refine ⟨r, ?_, hQ⟩
    refine mg_Ev.go 5 (pc' := 1343) (loc' := [some (.ref 0), some (.ref 1), some (.ref 43), some (.ref 51), some (.ref 52), some (.int i), none, none, none]) (st' := [.int (i + 1), .ref 0, .ref 1]) (w' := (hp u fL fD, c, z)) rfl ?_
    refine mg_Ev.sld rfl hb1 ?_
    refine mg_Ev.go 4 (pc' := 1349) (loc' := [some (.ref 0), some (.ref 1), some (.ref 43), some (.ref 51), some (.ref 52), some (.int i), none, none, none]) (st' := [.int (i + 2), .ref 0, .int (sc.2 (i + 1).toNatClampNeg), .ref 1]) (w' := (hp u fL fD, c, z)) rfl ?_
    refine mg_Ev.sld rfl hb2 ?_
    refine mg_Ev.go 4 (pc' := 1355) (loc' := [some (.ref 0), some (.ref 1), some (.ref 43), some (.ref 51), some (.ref 52), some (.int i), none, none, none]) (st' := [.int (i + 3), .ref 0, .int (sc.2 (i + 2).toNatClampNeg), .int (sc.2 (i + 1).toNatClampNeg), .ref 1]) (w' := (hp u fL fD, c, z)) rfl ?_
    refine mg_Ev.sld rfl hb3 ?_
    refine mg_Ev.go 4 (pc' := 1361) (loc' := [some (.ref 0), some (.ref 1), some (.ref 43), some (.ref 51), some (.ref 52), some (.int i), none, none, none]) (st' := [.int (i + 4), .ref 0, .int (sc.2 (i + 3).toNatClampNeg), .int (sc.2 (i + 2).toNatClampNeg), .int (sc.2 (i + 1).toNatClampNeg), .ref 1]) (w' := (hp u fL fD, c, z)) rfl ?_
    refine mg_Ev.sld rfl hb4 ?_
    refine mg_Ev.go 1 (pc' := 1363) (loc' := [some (.ref 0), some (.ref 1), some (.ref 43), some (.ref 51), some (.ref 52), some (.int i), none, none, none]) (st' := [.ref 51, .int (sc.2 (i + 4).toNatClampNeg), .int (sc.2 (i + 3).toNatClampNeg), .int (sc.2 (i + 2).toNatClampNeg), .int (sc.2 (i + 1).toNatClampNeg), .ref 1]) (w' := (hp u fL fD, c, z)) rfl ?_
    refine mg_Ev.call (y := 239) (as := [.ref 1, .int (sc.2 (i + 1).toNatClampNeg), .int (sc.2 (i + 2).toNatClampNeg), .int (sc.2 (i + 3).toNatClampNeg), .int (sc.2 (i + 4).toNatClampNeg), .ref 51]) (rest := []) (v := some (.int 2)) (w1 := (hp u1 fL fD, c + 1, z + 6)) rfl rfl (Nat.le_of_ble_eq_true rfl) ((ev_W_declare_x1 hC).deep (by decide)) ?_
    refine mg_Ev.go 1 (pc' := 1368) (loc' := [some (.ref 0), some (.ref 1), some (.ref 43), some (.ref 51), some (.ref 52), some (.int i), some (.int 2), none, none]) (st' := []) (w' := (hp u1 fL fD, c + 1, z + 6)) rfl ?_
    exact ev_opB_16 hb1 hb2 hb3 hb4 hM hT (fun q => absurd q (by decide)) hr
  · obtain ⟨r, hr, hQ⟩ := K fL fD (c + 1) (z + 6) (Nat.le_refl _) (Nat.le_refl _)
    refine ⟨r, ?_, hQ⟩
    refine mg_Ev.go 5 (pc' := 1343) (loc' := [some (.ref 0), some (.ref 1), some (.ref 43), some (.ref 51), some (.ref 52), some (.int i), none, none, none]) (st' := [.int (i + 1), .ref 0, .ref 1]) (w' := (hp u fL fD, c, z)) rfl ?_
    refine mg_Ev.sld rfl hb1 ?_
    refine mg_Ev.go 4 (pc' := 1349) (loc' := [some (.ref 0), some (.ref 1), some (.ref 43), some (.ref 51), some (.ref 52), some (.int i), none, none, none]) (st' := [.int (i + 2), .ref 0, .int (sc.2 (i + 1).toNatClampNeg), .ref 1]) (w' := (hp u fL fD, c, z)) rfl ?_
    refine mg_Ev.sld rfl hb2 ?_
    refine mg_Ev.go 4 (pc' := 1355) (loc' := [some (.ref 0), some (.ref 1), some (.ref 43), some (.ref 51), some (.ref 52), some (.int i), none, none, none]) (st' := [.int (i + 3), .ref 0, .int (sc.2 (i + 2).toNatClampNeg), .int (sc.2 (i + 1).toNatClampNeg), .ref 1]) (w' := (hp u fL fD, c, z)) rfl ?_
    refine mg_Ev.sld rfl hb3 ?_
    refine mg_Ev.go 4 (pc' := 1361) (loc' := [some (.ref 0), some (.ref 1), some (.ref 43), some (.ref 51), some (.ref 52), some (.int i), none, none, none]) (st' := [.int (i + 4), .ref 0, .int (sc.2 (i + 3).toNatClampNeg), .int (sc.2 (i + 2).toNatClampNeg), .int (sc.2 (i + 1).toNatClampNeg), .ref 1]) (w' := (hp u fL fD, c, z)) rfl ?_
    refine mg_Ev.sld rfl hb4 ?_
    refine mg_Ev.go 1 (pc' := 1363) (loc' := [some (.ref 0), some (.ref 1), some (.ref 43), some (.ref 51), some (.ref 52), some (.int i), none, none, none]) (st' := [.ref 51, .int (sc.2 (i + 4).toNatClampNeg), .int (sc.2 (i + 3).toNatClampNeg), .int (sc.2 (i + 2).toNatClampNeg), .int (sc.2 (i + 1).toNatClampNeg), .ref 1]) (w' := (hp u fL fD, c, z)) rfl ?_
    refine mg_Ev.call (y := 239) (as := [.ref 1, .int (sc.2 (i + 1).toNatClampNeg), .int (sc.2 (i + 2).toNatClampNeg), .int (sc.2 (i + 3).toNatClampNeg), .int (sc.2 (i + 4).toNatClampNeg), .ref 51]) (rest := []) (v := some (.int 3)) (w1 := (hp u1 fL fD, c + 1, z + 6)) rfl rfl (Nat.le_of_ble_eq_true rfl) ((ev_W_declare_x2 hC).deep (by decide)) ?_
    refine mg_Ev.go 1 (pc' := 1368) (loc' := [some (.ref 0), some (.ref 1), some (.ref 43), some (.ref 51), some (.ref 52), some (.int i), some (.int 3), none, none]) (st' := []) (w' := (hp u1 fL fD, c + 1, z + 6)) rfl ?_
    exact ev_opB_16 hb1 hb2 hb3 hb4 hM hT (fun q => absurd q (by decide)) hr
def Ob_16 (I : mg_Rg → Prop) : Prop := ∀ u, I u → ∀ p1 p2 p3 p4 : Int32, ∃ (t : Int32 ⊕ Nat) (u1 : mg_Rg) (b : Int32) (u2 : mg_Rg) (T : Int32), C_declare p1 p2 p3 p4 u = some (t, u1) ∧ M_declare p1 p2 p3 p4 u1 = some (b, u2) ∧ M_thrown u2 = some T ∧ ((∃ v, t = .inl v ∧ b = v ∧ T = 0) ∨ (t = .inr 0 ∧ T = 1) ∨ (t = .inr 1 ∧ T = 2) ∨ (t = .inr 2 ∧ T = 3)) ∧ I u2
theorem st_op_16 {sc : mg_Sc} {c z : Nat} {fL : Nat → Int64} {fD : Nat → UInt64} {i : Int32} {u : mg_Rg} {Q : mg_R → Prop} {I : mg_Rg → Prop} (O : Ob_16 I) (hu : I u) (hb1 : ¬ ((i + 1) < 0 ∨ sc.1 ≤ (i + 1).toNatClampNeg)) (hb2 : ¬ ((i + 2) < 0 ∨ sc.1 ≤ (i + 2).toNatClampNeg)) (hb3 : ¬ ((i + 3) < 0 ∨ sc.1 ≤ (i + 3).toNatClampNeg)) (hb4 : ¬ ((i + 4) < 0 ∨ sc.1 ≤ (i + 4).toNatClampNeg)) (K : ∀ u2 fL fD c1 z1, I u2 → c1 ≤ c + 1 → z1 ≤ z + 6 → ∃ r, mg_Ev sc 11 258 2448 [some (.ref 0), some (.ref 1), some (.ref 43), some (.ref 51), some (.ref 52), some (.int i), none, none, none] [] (hp u2 fL fD, c1, z1) r ∧ Q r) : ∃ r, mg_Ev sc 11 258 1337 [some (.ref 0), some (.ref 1), some (.ref 43), some (.ref 51), some (.ref 52), some (.int i), none, none, none] [] (hp u fL fD, c, z) r ∧ Q r := by
  obtain ⟨t, u1, b, u2, T, hC, hM, hT, H, hI⟩ := O u hu (sc.2 (i + 1).toNatClampNeg) (sc.2 (i + 2).toNatClampNeg) (sc.2 (i + 3).toNatClampNeg) (sc.2 (i + 4).toNatClampNeg)
  exact ev_op_16 hb1 hb2 hb3 hb4 hC hM hT H (fun fL fD c1 z1 h1 h2 => K u2 fL fD c1 z1 hI h1 h2)
set_option maxRecDepth 10000 in
set_option maxHeartbeats 4000000 in
theorem ev_opB_17 {sc : mg_Sc} {c z : Nat} {fL : Nat → Int64} {fD : Nat → UInt64} {i T : Int32} {b : Int32} {u1 u2 : mg_Rg} {r : mg_R} (hb1 : ¬ ((i + 1) < 0 ∨ sc.1 ≤ (i + 1).toNatClampNeg)) (hb2 : ¬ ((i + 2) < 0 ∨ sc.1 ≤ (i + 2).toNatClampNeg)) (hM : M_declaration (sc.2 (i + 1).toNatClampNeg) (sc.2 (i + 2).toNatClampNeg) u1 = some (b, u2)) (hT : M_thrown u2 = some T) (hv : T = 0 → fL 0 = b.toInt64) (K : mg_Ev sc 11 258 2448 [some (.ref 0), some (.ref 1), some (.ref 43), some (.ref 51), some (.ref 52), some (.int i), none, none, none] [] (hp u2 fL fD, c, z) r) : mg_Ev sc 11 258 1448 [some (.ref 0), some (.ref 1), some (.ref 43), some (.ref 51), some (.ref 52), some (.int i), some (.int T), none, none] [] (hp u1 fL fD, c, z) r := by
  refine mg_Ev.go 5 (pc' := 1454) (loc' := [some (.ref 0), some (.ref 1), some (.ref 43), some (.ref 51), some (.ref 52), some (.int i), some (.int T), none, none]) (st' := [.int (i + 1), .ref 0, .ref 43]) (w' := (hp u1 fL fD, c, z)) rfl ?_
  refine mg_Ev.sld rfl hb1 ?_
  refine mg_Ev.go 4 (pc' := 1460) (loc' := [some (.ref 0), some (.ref 1), some (.ref 43), some (.ref 51), some (.ref 52), some (.int i), some (.int T), none, none]) (st' := [.int (i + 2), .ref 0, .int (sc.2 (i + 1).toNatClampNeg), .ref 43]) (w' := (hp u1 fL fD, c, z)) rfl ?_
  refine mg_Ev.sld rfl hb2 ?_
  refine mg_Ev.call (y := 102) (as := [.ref 43, .int (sc.2 (i + 1).toNatClampNeg), .int (sc.2 (i + 2).toNatClampNeg)]) (rest := []) (v := some (.int b)) (w1 := (hp u2 fL fD, c, z)) rfl rfl (Nat.le_of_ble_eq_true rfl) ((ev_M_declaration hM).deep (by decide)) ?_
  refine mg_Ev.go 2 (pc' := 1467) (loc' := [some (.ref 0), some (.ref 1), some (.ref 43), some (.ref 51), some (.ref 52), some (.int i), some (.int T), some (.int b), none]) (st' := [.ref 43]) (w' := (hp u2 fL fD, c, z)) rfl ?_
  refine mg_Ev.call (y := 57) (as := [.ref 43]) (rest := []) (v := some (.int T)) (w1 := (hp u2 fL fD, c, z)) rfl rfl (Nat.le_of_ble_eq_true rfl) ((ev_M_thrown hT).deep (by decide)) ?_
  refine mg_Ev.go 1 (pc' := 1472) (loc' := [some (.ref 0), some (.ref 1), some (.ref 43), some (.ref 51), some (.ref 52), some (.int i), some (.int T), some (.int b), none]) (st' := [.int T, .int T]) (w' := (hp u2 fL fD, c, z)) rfl ?_
  refine mg_Ev.br (P := T = T) (t := 1477) (nx := 1475) (st' := []) rfl rfl rfl rfl (fun _ => ?_) (fun q => absurd rfl q)
  refine mg_Ev.go 1 (pc' := 1479) (loc' := [some (.ref 0), some (.ref 1), some (.ref 43), some (.ref 51), some (.ref 52), some (.int i), some (.int T), some (.int b), none]) (st' := [.int T]) (w' := (hp u2 fL fD, c, z)) rfl ?_
  refine mg_Ev.br (P := T = 0) (t := 1482) (nx := 1494) (st' := []) rfl rfl rfl rfl (fun h0 => ?_) (fun _ => ?_)
  · have h1 := hv h0
    refine mg_Ev.go 2 (pc' := 1484) (loc' := [some (.ref 0), some (.ref 1), some (.ref 43), some (.ref 51), some (.ref 52), some (.int i), some (.int T), some (.int b), none]) (st' := [.int 0, .ref 51]) (w' := (hp u2 fL fD, c, z)) rfl ?_
    refine mg_Ev.lald (a := 50) (n := 1) (f := fL) (j := 0) rfl (hpg_50 _ _ _) (by decide) (by decide) ?_
    rw [h1]
    refine mg_Ev.go 3 (pc' := 1489) (loc' := [some (.ref 0), some (.ref 1), some (.ref 43), some (.ref 51), some (.ref 52), some (.int i), some (.int T), some (.int b), none]) (st' := [.int (lg_cmp b.toInt64 b.toInt64)]) (w' := (hp u2 fL fD, c, z)) rfl ?_
    refine mg_Ev.br (P := lg_cmp b.toInt64 b.toInt64 = 0) (t := 1494) (nx := 1492) (st' := []) rfl rfl rfl rfl (fun _ => ?_) (fun q => absurd (mg_lcmp _) q)
    refine mg_Ev.go 1 (pc' := 2448) (loc' := [some (.ref 0), some (.ref 1), some (.ref 43), some (.ref 51), some (.ref 52), some (.int i), some (.int T), some (.int b), none]) (st' := []) (w' := (hp u2 fL fD, c, z)) rfl ?_
    exact mg_Ev.more K ⟨rfl, ⟨rfl, ⟨rfl, ⟨rfl, ⟨rfl, ⟨rfl, trivial⟩⟩⟩⟩⟩⟩
  · refine mg_Ev.go 1 (pc' := 2448) (loc' := [some (.ref 0), some (.ref 1), some (.ref 43), some (.ref 51), some (.ref 52), some (.int i), some (.int T), some (.int b), none]) (st' := []) (w' := (hp u2 fL fD, c, z)) rfl ?_
    exact mg_Ev.more K ⟨rfl, ⟨rfl, ⟨rfl, ⟨rfl, ⟨rfl, ⟨rfl, trivial⟩⟩⟩⟩⟩⟩
set_option maxRecDepth 10000 in
set_option maxHeartbeats 4000000 in
theorem ev_op_17 {sc : mg_Sc} {c z : Nat} {fL : Nat → Int64} {fD : Nat → UInt64} {i T : Int32} {b : Int32} {t : Int32 ⊕ Nat} {u u1 u2 : mg_Rg} {Q : mg_R → Prop} (hb1 : ¬ ((i + 1) < 0 ∨ sc.1 ≤ (i + 1).toNatClampNeg)) (hb2 : ¬ ((i + 2) < 0 ∨ sc.1 ≤ (i + 2).toNatClampNeg)) (hC : C_declaration (sc.2 (i + 1).toNatClampNeg) (sc.2 (i + 2).toNatClampNeg) u = some (t, u1)) (hM : M_declaration (sc.2 (i + 1).toNatClampNeg) (sc.2 (i + 2).toNatClampNeg) u1 = some (b, u2)) (hT : M_thrown u2 = some T) (H : (∃ v, t = .inl v ∧ b = v ∧ T = 0) ∨ (t = .inr 0 ∧ T = 1) ∨ (t = .inr 1 ∧ T = 2)) (K : ∀ fL fD c1 z1, c1 ≤ c + 1 → z1 ≤ z + 6 → ∃ r, mg_Ev sc 11 258 2448 [some (.ref 0), some (.ref 1), some (.ref 43), some (.ref 51), some (.ref 52), some (.int i), none, none, none] [] (hp u2 fL fD, c1, z1) r ∧ Q r) : ∃ r, mg_Ev sc 11 258 1429 [some (.ref 0), some (.ref 1), some (.ref 43), some (.ref 51), some (.ref 52), some (.int i), none, none, none] [] (hp u fL fD, c, z) r ∧ Q r := by
  rcases H with ⟨v, rfl, rfl, rfl⟩ | ⟨rfl, rfl⟩ | ⟨rfl, rfl⟩
  · obtain ⟨r, hr, hQ⟩ := K (vp_updL fL 0 b.toInt64) fD c z (Nat.le_succ _) (Nat.le_add_right _ _)
    refine ⟨r, ?_, hQ⟩
    refine mg_Ev.go 5 (pc' := 1435) (loc' := [some (.ref 0), some (.ref 1), some (.ref 43), some (.ref 51), some (.ref 52), some (.int i), none, none, none]) (st' := [.int (i + 1), .ref 0, .ref 1]) (w' := (hp u fL fD, c, z)) rfl ?_
    refine mg_Ev.sld rfl hb1 ?_
    refine mg_Ev.go 4 (pc' := 1441) (loc' := [some (.ref 0), some (.ref 1), some (.ref 43), some (.ref 51), some (.ref 52), some (.int i), none, none, none]) (st' := [.int (i + 2), .ref 0, .int (sc.2 (i + 1).toNatClampNeg), .ref 1]) (w' := (hp u fL fD, c, z)) rfl ?_
    refine mg_Ev.sld rfl hb2 ?_
    refine mg_Ev.go 1 (pc' := 1443) (loc' := [some (.ref 0), some (.ref 1), some (.ref 43), some (.ref 51), some (.ref 52), some (.int i), none, none, none]) (st' := [.ref 51, .int (sc.2 (i + 2).toNatClampNeg), .int (sc.2 (i + 1).toNatClampNeg), .ref 1]) (w' := (hp u fL fD, c, z)) rfl ?_
    refine mg_Ev.call (y := 240) (as := [.ref 1, .int (sc.2 (i + 1).toNatClampNeg), .int (sc.2 (i + 2).toNatClampNeg), .ref 51]) (rest := []) (v := some (.int 0)) (w1 := (hp u1 (vp_updL fL 0 b.toInt64) fD, c, z)) rfl rfl (Nat.le_of_ble_eq_true rfl) ((ev_W_declaration_ok hC).deep (by decide)) ?_
    refine mg_Ev.go 1 (pc' := 1448) (loc' := [some (.ref 0), some (.ref 1), some (.ref 43), some (.ref 51), some (.ref 52), some (.int i), some (.int 0), none, none]) (st' := []) (w' := (hp u1 (vp_updL fL 0 b.toInt64) fD, c, z)) rfl ?_
    exact ev_opB_17 hb1 hb2 hM hT (fun _ => rfl) hr
  · obtain ⟨r, hr, hQ⟩ := K fL fD (c + 1) (z + 6) (Nat.le_refl _) (Nat.le_refl _)
    refine ⟨r, ?_, hQ⟩
    refine mg_Ev.go 5 (pc' := 1435) (loc' := [some (.ref 0), some (.ref 1), some (.ref 43), some (.ref 51), some (.ref 52), some (.int i), none, none, none]) (st' := [.int (i + 1), .ref 0, .ref 1]) (w' := (hp u fL fD, c, z)) rfl ?_
    refine mg_Ev.sld rfl hb1 ?_
    refine mg_Ev.go 4 (pc' := 1441) (loc' := [some (.ref 0), some (.ref 1), some (.ref 43), some (.ref 51), some (.ref 52), some (.int i), none, none, none]) (st' := [.int (i + 2), .ref 0, .int (sc.2 (i + 1).toNatClampNeg), .ref 1]) (w' := (hp u fL fD, c, z)) rfl ?_
    refine mg_Ev.sld rfl hb2 ?_
    refine mg_Ev.go 1 (pc' := 1443) (loc' := [some (.ref 0), some (.ref 1), some (.ref 43), some (.ref 51), some (.ref 52), some (.int i), none, none, none]) (st' := [.ref 51, .int (sc.2 (i + 2).toNatClampNeg), .int (sc.2 (i + 1).toNatClampNeg), .ref 1]) (w' := (hp u fL fD, c, z)) rfl ?_
    refine mg_Ev.call (y := 240) (as := [.ref 1, .int (sc.2 (i + 1).toNatClampNeg), .int (sc.2 (i + 2).toNatClampNeg), .ref 51]) (rest := []) (v := some (.int 1)) (w1 := (hp u1 fL fD, c + 1, z + 6)) rfl rfl (Nat.le_of_ble_eq_true rfl) ((ev_W_declaration_x0 hC).deep (by decide)) ?_
    refine mg_Ev.go 1 (pc' := 1448) (loc' := [some (.ref 0), some (.ref 1), some (.ref 43), some (.ref 51), some (.ref 52), some (.int i), some (.int 1), none, none]) (st' := []) (w' := (hp u1 fL fD, c + 1, z + 6)) rfl ?_
    exact ev_opB_17 hb1 hb2 hM hT (fun q => absurd q (by decide)) hr
  · obtain ⟨r, hr, hQ⟩ := K fL fD (c + 1) (z + 6) (Nat.le_refl _) (Nat.le_refl _)
    refine ⟨r, ?_, hQ⟩
    refine mg_Ev.go 5 (pc' := 1435) (loc' := [some (.ref 0), some (.ref 1), some (.ref 43), some (.ref 51), some (.ref 52), some (.int i), none, none, none]) (st' := [.int (i + 1), .ref 0, .ref 1]) (w' := (hp u fL fD, c, z)) rfl ?_
    refine mg_Ev.sld rfl hb1 ?_
    refine mg_Ev.go 4 (pc' := 1441) (loc' := [some (.ref 0), some (.ref 1), some (.ref 43), some (.ref 51), some (.ref 52), some (.int i), none, none, none]) (st' := [.int (i + 2), .ref 0, .int (sc.2 (i + 1).toNatClampNeg), .ref 1]) (w' := (hp u fL fD, c, z)) rfl ?_
    refine mg_Ev.sld rfl hb2 ?_
    refine mg_Ev.go 1 (pc' := 1443) (loc' := [some (.ref 0), some (.ref 1), some (.ref 43), some (.ref 51), some (.ref 52), some (.int i), none, none, none]) (st' := [.ref 51, .int (sc.2 (i + 2).toNatClampNeg), .int (sc.2 (i + 1).toNatClampNeg), .ref 1]) (w' := (hp u fL fD, c, z)) rfl ?_
    refine mg_Ev.call (y := 240) (as := [.ref 1, .int (sc.2 (i + 1).toNatClampNeg), .int (sc.2 (i + 2).toNatClampNeg), .ref 51]) (rest := []) (v := some (.int 2)) (w1 := (hp u1 fL fD, c + 1, z + 6)) rfl rfl (Nat.le_of_ble_eq_true rfl) ((ev_W_declaration_x1 hC).deep (by decide)) ?_
    refine mg_Ev.go 1 (pc' := 1448) (loc' := [some (.ref 0), some (.ref 1), some (.ref 43), some (.ref 51), some (.ref 52), some (.int i), some (.int 2), none, none]) (st' := []) (w' := (hp u1 fL fD, c + 1, z + 6)) rfl ?_
    exact ev_opB_17 hb1 hb2 hM hT (fun q => absurd q (by decide)) hr
def Ob_17 (I : mg_Rg → Prop) : Prop := ∀ u, I u → ∀ p1 p2 : Int32, ∃ (t : Int32 ⊕ Nat) (u1 : mg_Rg) (b : Int32) (u2 : mg_Rg) (T : Int32), C_declaration p1 p2 u = some (t, u1) ∧ M_declaration p1 p2 u1 = some (b, u2) ∧ M_thrown u2 = some T ∧ ((∃ v, t = .inl v ∧ b = v ∧ T = 0) ∨ (t = .inr 0 ∧ T = 1) ∨ (t = .inr 1 ∧ T = 2)) ∧ I u2
theorem st_op_17 {sc : mg_Sc} {c z : Nat} {fL : Nat → Int64} {fD : Nat → UInt64} {i : Int32} {u : mg_Rg} {Q : mg_R → Prop} {I : mg_Rg → Prop} (O : Ob_17 I) (hu : I u) (hb1 : ¬ ((i + 1) < 0 ∨ sc.1 ≤ (i + 1).toNatClampNeg)) (hb2 : ¬ ((i + 2) < 0 ∨ sc.1 ≤ (i + 2).toNatClampNeg)) (K : ∀ u2 fL fD c1 z1, I u2 → c1 ≤ c + 1 → z1 ≤ z + 6 → ∃ r, mg_Ev sc 11 258 2448 [some (.ref 0), some (.ref 1), some (.ref 43), some (.ref 51), some (.ref 52), some (.int i), none, none, none] [] (hp u2 fL fD, c1, z1) r ∧ Q r) : ∃ r, mg_Ev sc 11 258 1429 [some (.ref 0), some (.ref 1), some (.ref 43), some (.ref 51), some (.ref 52), some (.int i), none, none, none] [] (hp u fL fD, c, z) r ∧ Q r := by
  obtain ⟨t, u1, b, u2, T, hC, hM, hT, H, hI⟩ := O u hu (sc.2 (i + 1).toNatClampNeg) (sc.2 (i + 2).toNatClampNeg)
  exact ev_op_17 hb1 hb2 hC hM hT H (fun fL fD c1 z1 h1 h2 => K u2 fL fD c1 z1 hI h1 h2)
set_option maxRecDepth 10000 in
set_option maxHeartbeats 4000000 in
theorem ev_opB_18 {sc : mg_Sc} {c z : Nat} {fL : Nat → Int64} {fD : Nat → UInt64} {i T : Int32} {b : Int32} {u1 u2 : mg_Rg} {r : mg_R} (hb1 : ¬ ((i + 1) < 0 ∨ sc.1 ≤ (i + 1).toNatClampNeg)) (hM : M_claim (sc.2 (i + 1).toNatClampNeg) u1 = some (b, u2)) (hT : M_thrown u2 = some T) (hv : T = 0 → fL 0 = b.toInt64) (K : mg_Ev sc 11 258 2448 [some (.ref 0), some (.ref 1), some (.ref 43), some (.ref 51), some (.ref 52), some (.int i), none, none, none] [] (hp u2 fL fD, c, z) r) : mg_Ev sc 11 258 1510 [some (.ref 0), some (.ref 1), some (.ref 43), some (.ref 51), some (.ref 52), some (.int i), some (.int T), none, none] [] (hp u1 fL fD, c, z) r := by
  refine mg_Ev.go 5 (pc' := 1516) (loc' := [some (.ref 0), some (.ref 1), some (.ref 43), some (.ref 51), some (.ref 52), some (.int i), some (.int T), none, none]) (st' := [.int (i + 1), .ref 0, .ref 43]) (w' := (hp u1 fL fD, c, z)) rfl ?_
  refine mg_Ev.sld rfl hb1 ?_
  refine mg_Ev.call (y := 106) (as := [.ref 43, .int (sc.2 (i + 1).toNatClampNeg)]) (rest := []) (v := some (.int b)) (w1 := (hp u2 fL fD, c, z)) rfl rfl (Nat.le_of_ble_eq_true rfl) ((ev_M_claim hM).deep (by decide)) ?_
  refine mg_Ev.go 2 (pc' := 1523) (loc' := [some (.ref 0), some (.ref 1), some (.ref 43), some (.ref 51), some (.ref 52), some (.int i), some (.int T), some (.int b), none]) (st' := [.ref 43]) (w' := (hp u2 fL fD, c, z)) rfl ?_
  refine mg_Ev.call (y := 57) (as := [.ref 43]) (rest := []) (v := some (.int T)) (w1 := (hp u2 fL fD, c, z)) rfl rfl (Nat.le_of_ble_eq_true rfl) ((ev_M_thrown hT).deep (by decide)) ?_
  refine mg_Ev.go 1 (pc' := 1528) (loc' := [some (.ref 0), some (.ref 1), some (.ref 43), some (.ref 51), some (.ref 52), some (.int i), some (.int T), some (.int b), none]) (st' := [.int T, .int T]) (w' := (hp u2 fL fD, c, z)) rfl ?_
  refine mg_Ev.br (P := T = T) (t := 1533) (nx := 1531) (st' := []) rfl rfl rfl rfl (fun _ => ?_) (fun q => absurd rfl q)
  refine mg_Ev.go 1 (pc' := 1535) (loc' := [some (.ref 0), some (.ref 1), some (.ref 43), some (.ref 51), some (.ref 52), some (.int i), some (.int T), some (.int b), none]) (st' := [.int T]) (w' := (hp u2 fL fD, c, z)) rfl ?_
  refine mg_Ev.br (P := T = 0) (t := 1538) (nx := 1550) (st' := []) rfl rfl rfl rfl (fun h0 => ?_) (fun _ => ?_)
  · have h1 := hv h0
    refine mg_Ev.go 2 (pc' := 1540) (loc' := [some (.ref 0), some (.ref 1), some (.ref 43), some (.ref 51), some (.ref 52), some (.int i), some (.int T), some (.int b), none]) (st' := [.int 0, .ref 51]) (w' := (hp u2 fL fD, c, z)) rfl ?_
    refine mg_Ev.lald (a := 50) (n := 1) (f := fL) (j := 0) rfl (hpg_50 _ _ _) (by decide) (by decide) ?_
    rw [h1]
    refine mg_Ev.go 3 (pc' := 1545) (loc' := [some (.ref 0), some (.ref 1), some (.ref 43), some (.ref 51), some (.ref 52), some (.int i), some (.int T), some (.int b), none]) (st' := [.int (lg_cmp b.toInt64 b.toInt64)]) (w' := (hp u2 fL fD, c, z)) rfl ?_
    refine mg_Ev.br (P := lg_cmp b.toInt64 b.toInt64 = 0) (t := 1550) (nx := 1548) (st' := []) rfl rfl rfl rfl (fun _ => ?_) (fun q => absurd (mg_lcmp _) q)
    refine mg_Ev.go 1 (pc' := 2448) (loc' := [some (.ref 0), some (.ref 1), some (.ref 43), some (.ref 51), some (.ref 52), some (.int i), some (.int T), some (.int b), none]) (st' := []) (w' := (hp u2 fL fD, c, z)) rfl ?_
    exact mg_Ev.more K ⟨rfl, ⟨rfl, ⟨rfl, ⟨rfl, ⟨rfl, ⟨rfl, trivial⟩⟩⟩⟩⟩⟩
  · refine mg_Ev.go 1 (pc' := 2448) (loc' := [some (.ref 0), some (.ref 1), some (.ref 43), some (.ref 51), some (.ref 52), some (.int i), some (.int T), some (.int b), none]) (st' := []) (w' := (hp u2 fL fD, c, z)) rfl ?_
    exact mg_Ev.more K ⟨rfl, ⟨rfl, ⟨rfl, ⟨rfl, ⟨rfl, ⟨rfl, trivial⟩⟩⟩⟩⟩⟩
set_option maxRecDepth 10000 in
set_option maxHeartbeats 4000000 in
theorem ev_op_18 {sc : mg_Sc} {c z : Nat} {fL : Nat → Int64} {fD : Nat → UInt64} {i T : Int32} {b : Int32} {t : Int32 ⊕ Nat} {u u1 u2 : mg_Rg} {Q : mg_R → Prop} (hb1 : ¬ ((i + 1) < 0 ∨ sc.1 ≤ (i + 1).toNatClampNeg)) (hC : C_claim (sc.2 (i + 1).toNatClampNeg) u = some (t, u1)) (hM : M_claim (sc.2 (i + 1).toNatClampNeg) u1 = some (b, u2)) (hT : M_thrown u2 = some T) (H : (∃ v, t = .inl v ∧ b = v ∧ T = 0) ∨ (t = .inr 0 ∧ T = 1) ∨ (t = .inr 2 ∧ T = 2)) (K : ∀ fL fD c1 z1, c1 ≤ c + 1 → z1 ≤ z + 6 → ∃ r, mg_Ev sc 11 258 2448 [some (.ref 0), some (.ref 1), some (.ref 43), some (.ref 51), some (.ref 52), some (.int i), none, none, none] [] (hp u2 fL fD, c1, z1) r ∧ Q r) : ∃ r, mg_Ev sc 11 258 1497 [some (.ref 0), some (.ref 1), some (.ref 43), some (.ref 51), some (.ref 52), some (.int i), none, none, none] [] (hp u fL fD, c, z) r ∧ Q r := by
  rcases H with ⟨v, rfl, rfl, rfl⟩ | ⟨rfl, rfl⟩ | ⟨rfl, rfl⟩
  · obtain ⟨r, hr, hQ⟩ := K (vp_updL fL 0 b.toInt64) fD c z (Nat.le_succ _) (Nat.le_add_right _ _)
    refine ⟨r, ?_, hQ⟩
    refine mg_Ev.go 5 (pc' := 1503) (loc' := [some (.ref 0), some (.ref 1), some (.ref 43), some (.ref 51), some (.ref 52), some (.int i), none, none, none]) (st' := [.int (i + 1), .ref 0, .ref 1]) (w' := (hp u fL fD, c, z)) rfl ?_
    refine mg_Ev.sld rfl hb1 ?_
    refine mg_Ev.go 1 (pc' := 1505) (loc' := [some (.ref 0), some (.ref 1), some (.ref 43), some (.ref 51), some (.ref 52), some (.int i), none, none, none]) (st' := [.ref 51, .int (sc.2 (i + 1).toNatClampNeg), .ref 1]) (w' := (hp u fL fD, c, z)) rfl ?_
    refine mg_Ev.call (y := 241) (as := [.ref 1, .int (sc.2 (i + 1).toNatClampNeg), .ref 51]) (rest := []) (v := some (.int 0)) (w1 := (hp u1 (vp_updL fL 0 b.toInt64) fD, c, z)) rfl rfl (Nat.le_of_ble_eq_true rfl) ((ev_W_claim_ok hC).deep (by decide)) ?_
    refine mg_Ev.go 1 (pc' := 1510) (loc' := [some (.ref 0), some (.ref 1), some (.ref 43), some (.ref 51), some (.ref 52), some (.int i), some (.int 0), none, none]) (st' := []) (w' := (hp u1 (vp_updL fL 0 b.toInt64) fD, c, z)) rfl ?_
    exact ev_opB_18 hb1 hM hT (fun _ => rfl) hr
  · obtain ⟨r, hr, hQ⟩ := K fL fD (c + 1) (z + 6) (Nat.le_refl _) (Nat.le_refl _)
    refine ⟨r, ?_, hQ⟩
    refine mg_Ev.go 5 (pc' := 1503) (loc' := [some (.ref 0), some (.ref 1), some (.ref 43), some (.ref 51), some (.ref 52), some (.int i), none, none, none]) (st' := [.int (i + 1), .ref 0, .ref 1]) (w' := (hp u fL fD, c, z)) rfl ?_
    refine mg_Ev.sld rfl hb1 ?_
    refine mg_Ev.go 1 (pc' := 1505) (loc' := [some (.ref 0), some (.ref 1), some (.ref 43), some (.ref 51), some (.ref 52), some (.int i), none, none, none]) (st' := [.ref 51, .int (sc.2 (i + 1).toNatClampNeg), .ref 1]) (w' := (hp u fL fD, c, z)) rfl ?_
    refine mg_Ev.call (y := 241) (as := [.ref 1, .int (sc.2 (i + 1).toNatClampNeg), .ref 51]) (rest := []) (v := some (.int 1)) (w1 := (hp u1 fL fD, c + 1, z + 6)) rfl rfl (Nat.le_of_ble_eq_true rfl) ((ev_W_claim_x0 hC).deep (by decide)) ?_
    refine mg_Ev.go 1 (pc' := 1510) (loc' := [some (.ref 0), some (.ref 1), some (.ref 43), some (.ref 51), some (.ref 52), some (.int i), some (.int 1), none, none]) (st' := []) (w' := (hp u1 fL fD, c + 1, z + 6)) rfl ?_
    exact ev_opB_18 hb1 hM hT (fun q => absurd q (by decide)) hr
  · obtain ⟨r, hr, hQ⟩ := K fL fD (c + 1) (z + 6) (Nat.le_refl _) (Nat.le_refl _)
    refine ⟨r, ?_, hQ⟩
    refine mg_Ev.go 5 (pc' := 1503) (loc' := [some (.ref 0), some (.ref 1), some (.ref 43), some (.ref 51), some (.ref 52), some (.int i), none, none, none]) (st' := [.int (i + 1), .ref 0, .ref 1]) (w' := (hp u fL fD, c, z)) rfl ?_
    refine mg_Ev.sld rfl hb1 ?_
    refine mg_Ev.go 1 (pc' := 1505) (loc' := [some (.ref 0), some (.ref 1), some (.ref 43), some (.ref 51), some (.ref 52), some (.int i), none, none, none]) (st' := [.ref 51, .int (sc.2 (i + 1).toNatClampNeg), .ref 1]) (w' := (hp u fL fD, c, z)) rfl ?_
    refine mg_Ev.call (y := 241) (as := [.ref 1, .int (sc.2 (i + 1).toNatClampNeg), .ref 51]) (rest := []) (v := some (.int 2)) (w1 := (hp u1 fL fD, c + 1, z + 6)) rfl rfl (Nat.le_of_ble_eq_true rfl) ((ev_W_claim_x2 hC).deep (by decide)) ?_
    refine mg_Ev.go 1 (pc' := 1510) (loc' := [some (.ref 0), some (.ref 1), some (.ref 43), some (.ref 51), some (.ref 52), some (.int i), some (.int 2), none, none]) (st' := []) (w' := (hp u1 fL fD, c + 1, z + 6)) rfl ?_
    exact ev_opB_18 hb1 hM hT (fun q => absurd q (by decide)) hr
def Ob_18 (I : mg_Rg → Prop) : Prop := ∀ u, I u → ∀ p1 : Int32, ∃ (t : Int32 ⊕ Nat) (u1 : mg_Rg) (b : Int32) (u2 : mg_Rg) (T : Int32), C_claim p1 u = some (t, u1) ∧ M_claim p1 u1 = some (b, u2) ∧ M_thrown u2 = some T ∧ ((∃ v, t = .inl v ∧ b = v ∧ T = 0) ∨ (t = .inr 0 ∧ T = 1) ∨ (t = .inr 2 ∧ T = 2)) ∧ I u2
theorem st_op_18 {sc : mg_Sc} {c z : Nat} {fL : Nat → Int64} {fD : Nat → UInt64} {i : Int32} {u : mg_Rg} {Q : mg_R → Prop} {I : mg_Rg → Prop} (O : Ob_18 I) (hu : I u) (hb1 : ¬ ((i + 1) < 0 ∨ sc.1 ≤ (i + 1).toNatClampNeg)) (K : ∀ u2 fL fD c1 z1, I u2 → c1 ≤ c + 1 → z1 ≤ z + 6 → ∃ r, mg_Ev sc 11 258 2448 [some (.ref 0), some (.ref 1), some (.ref 43), some (.ref 51), some (.ref 52), some (.int i), none, none, none] [] (hp u2 fL fD, c1, z1) r ∧ Q r) : ∃ r, mg_Ev sc 11 258 1497 [some (.ref 0), some (.ref 1), some (.ref 43), some (.ref 51), some (.ref 52), some (.int i), none, none, none] [] (hp u fL fD, c, z) r ∧ Q r := by
  obtain ⟨t, u1, b, u2, T, hC, hM, hT, H, hI⟩ := O u hu (sc.2 (i + 1).toNatClampNeg)
  exact ev_op_18 hb1 hC hM hT H (fun fL fD c1 z1 h1 h2 => K u2 fL fD c1 z1 hI h1 h2)
set_option maxRecDepth 10000 in
set_option maxHeartbeats 4000000 in
theorem ev_opB_19 {sc : mg_Sc} {c z : Nat} {fL : Nat → Int64} {fD : Nat → UInt64} {i T : Int32} {b : Int32} {u1 u2 : mg_Rg} {r : mg_R} (hb1 : ¬ ((i + 1) < 0 ∨ sc.1 ≤ (i + 1).toNatClampNeg)) (hM : M_leftThen (sc.2 (i + 1).toNatClampNeg) u1 = some (b, u2)) (hT : M_thrown u2 = some T) (hv : T = 0 → fL 0 = b.toInt64) (K : mg_Ev sc 11 258 2448 [some (.ref 0), some (.ref 1), some (.ref 43), some (.ref 51), some (.ref 52), some (.int i), none, none, none] [] (hp u2 fL fD, c, z) r) : mg_Ev sc 11 258 1566 [some (.ref 0), some (.ref 1), some (.ref 43), some (.ref 51), some (.ref 52), some (.int i), some (.int T), none, none] [] (hp u1 fL fD, c, z) r := by
  refine mg_Ev.go 5 (pc' := 1572) (loc' := [some (.ref 0), some (.ref 1), some (.ref 43), some (.ref 51), some (.ref 52), some (.int i), some (.int T), none, none]) (st' := [.int (i + 1), .ref 0, .ref 43]) (w' := (hp u1 fL fD, c, z)) rfl ?_
  refine mg_Ev.sld rfl hb1 ?_
  refine mg_Ev.call (y := 109) (as := [.ref 43, .int (sc.2 (i + 1).toNatClampNeg)]) (rest := []) (v := some (.int b)) (w1 := (hp u2 fL fD, c, z)) rfl rfl (Nat.le_of_ble_eq_true rfl) ((ev_M_leftThen hM).deep (by decide)) ?_
  refine mg_Ev.go 2 (pc' := 1579) (loc' := [some (.ref 0), some (.ref 1), some (.ref 43), some (.ref 51), some (.ref 52), some (.int i), some (.int T), some (.int b), none]) (st' := [.ref 43]) (w' := (hp u2 fL fD, c, z)) rfl ?_
  refine mg_Ev.call (y := 57) (as := [.ref 43]) (rest := []) (v := some (.int T)) (w1 := (hp u2 fL fD, c, z)) rfl rfl (Nat.le_of_ble_eq_true rfl) ((ev_M_thrown hT).deep (by decide)) ?_
  refine mg_Ev.go 1 (pc' := 1584) (loc' := [some (.ref 0), some (.ref 1), some (.ref 43), some (.ref 51), some (.ref 52), some (.int i), some (.int T), some (.int b), none]) (st' := [.int T, .int T]) (w' := (hp u2 fL fD, c, z)) rfl ?_
  refine mg_Ev.br (P := T = T) (t := 1589) (nx := 1587) (st' := []) rfl rfl rfl rfl (fun _ => ?_) (fun q => absurd rfl q)
  refine mg_Ev.go 1 (pc' := 1591) (loc' := [some (.ref 0), some (.ref 1), some (.ref 43), some (.ref 51), some (.ref 52), some (.int i), some (.int T), some (.int b), none]) (st' := [.int T]) (w' := (hp u2 fL fD, c, z)) rfl ?_
  refine mg_Ev.br (P := T = 0) (t := 1594) (nx := 1606) (st' := []) rfl rfl rfl rfl (fun h0 => ?_) (fun _ => ?_)
  · have h1 := hv h0
    refine mg_Ev.go 2 (pc' := 1596) (loc' := [some (.ref 0), some (.ref 1), some (.ref 43), some (.ref 51), some (.ref 52), some (.int i), some (.int T), some (.int b), none]) (st' := [.int 0, .ref 51]) (w' := (hp u2 fL fD, c, z)) rfl ?_
    refine mg_Ev.lald (a := 50) (n := 1) (f := fL) (j := 0) rfl (hpg_50 _ _ _) (by decide) (by decide) ?_
    rw [h1]
    refine mg_Ev.go 3 (pc' := 1601) (loc' := [some (.ref 0), some (.ref 1), some (.ref 43), some (.ref 51), some (.ref 52), some (.int i), some (.int T), some (.int b), none]) (st' := [.int (lg_cmp b.toInt64 b.toInt64)]) (w' := (hp u2 fL fD, c, z)) rfl ?_
    refine mg_Ev.br (P := lg_cmp b.toInt64 b.toInt64 = 0) (t := 1606) (nx := 1604) (st' := []) rfl rfl rfl rfl (fun _ => ?_) (fun q => absurd (mg_lcmp _) q)
    refine mg_Ev.go 1 (pc' := 2448) (loc' := [some (.ref 0), some (.ref 1), some (.ref 43), some (.ref 51), some (.ref 52), some (.int i), some (.int T), some (.int b), none]) (st' := []) (w' := (hp u2 fL fD, c, z)) rfl ?_
    exact mg_Ev.more K ⟨rfl, ⟨rfl, ⟨rfl, ⟨rfl, ⟨rfl, ⟨rfl, trivial⟩⟩⟩⟩⟩⟩
  · refine mg_Ev.go 1 (pc' := 2448) (loc' := [some (.ref 0), some (.ref 1), some (.ref 43), some (.ref 51), some (.ref 52), some (.int i), some (.int T), some (.int b), none]) (st' := []) (w' := (hp u2 fL fD, c, z)) rfl ?_
    exact mg_Ev.more K ⟨rfl, ⟨rfl, ⟨rfl, ⟨rfl, ⟨rfl, ⟨rfl, trivial⟩⟩⟩⟩⟩⟩
set_option maxRecDepth 10000 in
set_option maxHeartbeats 4000000 in
theorem ev_op_19 {sc : mg_Sc} {c z : Nat} {fL : Nat → Int64} {fD : Nat → UInt64} {i T : Int32} {b : Int32} {t : Int32 ⊕ Nat} {u u1 u2 : mg_Rg} {Q : mg_R → Prop} (hb1 : ¬ ((i + 1) < 0 ∨ sc.1 ≤ (i + 1).toNatClampNeg)) (hC : C_leftThen (sc.2 (i + 1).toNatClampNeg) u = some (t, u1)) (hM : M_leftThen (sc.2 (i + 1).toNatClampNeg) u1 = some (b, u2)) (hT : M_thrown u2 = some T) (H : (∃ v, t = .inl v ∧ b = v ∧ T = 0) ∨ (t = .inr 0 ∧ T = 1)) (K : ∀ fL fD c1 z1, c1 ≤ c + 1 → z1 ≤ z + 6 → ∃ r, mg_Ev sc 11 258 2448 [some (.ref 0), some (.ref 1), some (.ref 43), some (.ref 51), some (.ref 52), some (.int i), none, none, none] [] (hp u2 fL fD, c1, z1) r ∧ Q r) : ∃ r, mg_Ev sc 11 258 1553 [some (.ref 0), some (.ref 1), some (.ref 43), some (.ref 51), some (.ref 52), some (.int i), none, none, none] [] (hp u fL fD, c, z) r ∧ Q r := by
  rcases H with ⟨v, rfl, rfl, rfl⟩ | ⟨rfl, rfl⟩
  · obtain ⟨r, hr, hQ⟩ := K (vp_updL fL 0 b.toInt64) fD c z (Nat.le_succ _) (Nat.le_add_right _ _)
    refine ⟨r, ?_, hQ⟩
    refine mg_Ev.go 5 (pc' := 1559) (loc' := [some (.ref 0), some (.ref 1), some (.ref 43), some (.ref 51), some (.ref 52), some (.int i), none, none, none]) (st' := [.int (i + 1), .ref 0, .ref 1]) (w' := (hp u fL fD, c, z)) rfl ?_
    refine mg_Ev.sld rfl hb1 ?_
    refine mg_Ev.go 1 (pc' := 1561) (loc' := [some (.ref 0), some (.ref 1), some (.ref 43), some (.ref 51), some (.ref 52), some (.int i), none, none, none]) (st' := [.ref 51, .int (sc.2 (i + 1).toNatClampNeg), .ref 1]) (w' := (hp u fL fD, c, z)) rfl ?_
    refine mg_Ev.call (y := 242) (as := [.ref 1, .int (sc.2 (i + 1).toNatClampNeg), .ref 51]) (rest := []) (v := some (.int 0)) (w1 := (hp u1 (vp_updL fL 0 b.toInt64) fD, c, z)) rfl rfl (Nat.le_of_ble_eq_true rfl) ((ev_W_leftThen_ok hC).deep (by decide)) ?_
    refine mg_Ev.go 1 (pc' := 1566) (loc' := [some (.ref 0), some (.ref 1), some (.ref 43), some (.ref 51), some (.ref 52), some (.int i), some (.int 0), none, none]) (st' := []) (w' := (hp u1 (vp_updL fL 0 b.toInt64) fD, c, z)) rfl ?_
    exact ev_opB_19 hb1 hM hT (fun _ => rfl) hr
  · obtain ⟨r, hr, hQ⟩ := K fL fD (c + 1) (z + 6) (Nat.le_refl _) (Nat.le_refl _)
    refine ⟨r, ?_, hQ⟩
    refine mg_Ev.go 5 (pc' := 1559) (loc' := [some (.ref 0), some (.ref 1), some (.ref 43), some (.ref 51), some (.ref 52), some (.int i), none, none, none]) (st' := [.int (i + 1), .ref 0, .ref 1]) (w' := (hp u fL fD, c, z)) rfl ?_
    refine mg_Ev.sld rfl hb1 ?_
    refine mg_Ev.go 1 (pc' := 1561) (loc' := [some (.ref 0), some (.ref 1), some (.ref 43), some (.ref 51), some (.ref 52), some (.int i), none, none, none]) (st' := [.ref 51, .int (sc.2 (i + 1).toNatClampNeg), .ref 1]) (w' := (hp u fL fD, c, z)) rfl ?_
    refine mg_Ev.call (y := 242) (as := [.ref 1, .int (sc.2 (i + 1).toNatClampNeg), .ref 51]) (rest := []) (v := some (.int 1)) (w1 := (hp u1 fL fD, c + 1, z + 6)) rfl rfl (Nat.le_of_ble_eq_true rfl) ((ev_W_leftThen_x0 hC).deep (by decide)) ?_
    refine mg_Ev.go 1 (pc' := 1566) (loc' := [some (.ref 0), some (.ref 1), some (.ref 43), some (.ref 51), some (.ref 52), some (.int i), some (.int 1), none, none]) (st' := []) (w' := (hp u1 fL fD, c + 1, z + 6)) rfl ?_
    exact ev_opB_19 hb1 hM hT (fun q => absurd q (by decide)) hr
def Ob_19 (I : mg_Rg → Prop) : Prop := ∀ u, I u → ∀ p1 : Int32, ∃ (t : Int32 ⊕ Nat) (u1 : mg_Rg) (b : Int32) (u2 : mg_Rg) (T : Int32), C_leftThen p1 u = some (t, u1) ∧ M_leftThen p1 u1 = some (b, u2) ∧ M_thrown u2 = some T ∧ ((∃ v, t = .inl v ∧ b = v ∧ T = 0) ∨ (t = .inr 0 ∧ T = 1)) ∧ I u2
theorem st_op_19 {sc : mg_Sc} {c z : Nat} {fL : Nat → Int64} {fD : Nat → UInt64} {i : Int32} {u : mg_Rg} {Q : mg_R → Prop} {I : mg_Rg → Prop} (O : Ob_19 I) (hu : I u) (hb1 : ¬ ((i + 1) < 0 ∨ sc.1 ≤ (i + 1).toNatClampNeg)) (K : ∀ u2 fL fD c1 z1, I u2 → c1 ≤ c + 1 → z1 ≤ z + 6 → ∃ r, mg_Ev sc 11 258 2448 [some (.ref 0), some (.ref 1), some (.ref 43), some (.ref 51), some (.ref 52), some (.int i), none, none, none] [] (hp u2 fL fD, c1, z1) r ∧ Q r) : ∃ r, mg_Ev sc 11 258 1553 [some (.ref 0), some (.ref 1), some (.ref 43), some (.ref 51), some (.ref 52), some (.int i), none, none, none] [] (hp u fL fD, c, z) r ∧ Q r := by
  obtain ⟨t, u1, b, u2, T, hC, hM, hT, H, hI⟩ := O u hu (sc.2 (i + 1).toNatClampNeg)
  exact ev_op_19 hb1 hC hM hT H (fun fL fD c1 z1 h1 h2 => K u2 fL fD c1 z1 hI h1 h2)
set_option maxRecDepth 10000 in
set_option maxHeartbeats 4000000 in
theorem ev_opB_20 {sc : mg_Sc} {c z : Nat} {fL : Nat → Int64} {fD : Nat → UInt64} {i T : Int32} {b : Int32} {u1 u2 : mg_Rg} {r : mg_R} (hb1 : ¬ ((i + 1) < 0 ∨ sc.1 ≤ (i + 1).toNatClampNeg)) (hM : M_pass (sc.2 (i + 1).toNatClampNeg) u1 = some (b, u2)) (hT : M_thrown u2 = some T) (hv : T = 0 → fL 0 = b.toInt64) (K : mg_Ev sc 11 258 2448 [some (.ref 0), some (.ref 1), some (.ref 43), some (.ref 51), some (.ref 52), some (.int i), none, none, none] [] (hp u2 fL fD, c, z) r) : mg_Ev sc 11 258 1622 [some (.ref 0), some (.ref 1), some (.ref 43), some (.ref 51), some (.ref 52), some (.int i), some (.int T), none, none] [] (hp u1 fL fD, c, z) r := by
  refine mg_Ev.go 5 (pc' := 1628) (loc' := [some (.ref 0), some (.ref 1), some (.ref 43), some (.ref 51), some (.ref 52), some (.int i), some (.int T), none, none]) (st' := [.int (i + 1), .ref 0, .ref 43]) (w' := (hp u1 fL fD, c, z)) rfl ?_
  refine mg_Ev.sld rfl hb1 ?_
  refine mg_Ev.call (y := 113) (as := [.ref 43, .int (sc.2 (i + 1).toNatClampNeg)]) (rest := []) (v := some (.int b)) (w1 := (hp u2 fL fD, c, z)) rfl rfl (Nat.le_of_ble_eq_true rfl) ((ev_M_pass hM).deep (by decide)) ?_
  refine mg_Ev.go 2 (pc' := 1635) (loc' := [some (.ref 0), some (.ref 1), some (.ref 43), some (.ref 51), some (.ref 52), some (.int i), some (.int T), some (.int b), none]) (st' := [.ref 43]) (w' := (hp u2 fL fD, c, z)) rfl ?_
  refine mg_Ev.call (y := 57) (as := [.ref 43]) (rest := []) (v := some (.int T)) (w1 := (hp u2 fL fD, c, z)) rfl rfl (Nat.le_of_ble_eq_true rfl) ((ev_M_thrown hT).deep (by decide)) ?_
  refine mg_Ev.go 1 (pc' := 1640) (loc' := [some (.ref 0), some (.ref 1), some (.ref 43), some (.ref 51), some (.ref 52), some (.int i), some (.int T), some (.int b), none]) (st' := [.int T, .int T]) (w' := (hp u2 fL fD, c, z)) rfl ?_
  refine mg_Ev.br (P := T = T) (t := 1645) (nx := 1643) (st' := []) rfl rfl rfl rfl (fun _ => ?_) (fun q => absurd rfl q)
  refine mg_Ev.go 1 (pc' := 1647) (loc' := [some (.ref 0), some (.ref 1), some (.ref 43), some (.ref 51), some (.ref 52), some (.int i), some (.int T), some (.int b), none]) (st' := [.int T]) (w' := (hp u2 fL fD, c, z)) rfl ?_
  refine mg_Ev.br (P := T = 0) (t := 1650) (nx := 1662) (st' := []) rfl rfl rfl rfl (fun h0 => ?_) (fun _ => ?_)
  · have h1 := hv h0
    refine mg_Ev.go 2 (pc' := 1652) (loc' := [some (.ref 0), some (.ref 1), some (.ref 43), some (.ref 51), some (.ref 52), some (.int i), some (.int T), some (.int b), none]) (st' := [.int 0, .ref 51]) (w' := (hp u2 fL fD, c, z)) rfl ?_
    refine mg_Ev.lald (a := 50) (n := 1) (f := fL) (j := 0) rfl (hpg_50 _ _ _) (by decide) (by decide) ?_
    rw [h1]
    refine mg_Ev.go 3 (pc' := 1657) (loc' := [some (.ref 0), some (.ref 1), some (.ref 43), some (.ref 51), some (.ref 52), some (.int i), some (.int T), some (.int b), none]) (st' := [.int (lg_cmp b.toInt64 b.toInt64)]) (w' := (hp u2 fL fD, c, z)) rfl ?_
    refine mg_Ev.br (P := lg_cmp b.toInt64 b.toInt64 = 0) (t := 1662) (nx := 1660) (st' := []) rfl rfl rfl rfl (fun _ => ?_) (fun q => absurd (mg_lcmp _) q)
    refine mg_Ev.go 1 (pc' := 2448) (loc' := [some (.ref 0), some (.ref 1), some (.ref 43), some (.ref 51), some (.ref 52), some (.int i), some (.int T), some (.int b), none]) (st' := []) (w' := (hp u2 fL fD, c, z)) rfl ?_
    exact mg_Ev.more K ⟨rfl, ⟨rfl, ⟨rfl, ⟨rfl, ⟨rfl, ⟨rfl, trivial⟩⟩⟩⟩⟩⟩
  · refine mg_Ev.go 1 (pc' := 2448) (loc' := [some (.ref 0), some (.ref 1), some (.ref 43), some (.ref 51), some (.ref 52), some (.int i), some (.int T), some (.int b), none]) (st' := []) (w' := (hp u2 fL fD, c, z)) rfl ?_
    exact mg_Ev.more K ⟨rfl, ⟨rfl, ⟨rfl, ⟨rfl, ⟨rfl, ⟨rfl, trivial⟩⟩⟩⟩⟩⟩
set_option maxRecDepth 10000 in
set_option maxHeartbeats 4000000 in
theorem ev_op_20 {sc : mg_Sc} {c z : Nat} {fL : Nat → Int64} {fD : Nat → UInt64} {i T : Int32} {b : Int32} {t : Int32 ⊕ Nat} {u u1 u2 : mg_Rg} {Q : mg_R → Prop} (hb1 : ¬ ((i + 1) < 0 ∨ sc.1 ≤ (i + 1).toNatClampNeg)) (hC : C_pass (sc.2 (i + 1).toNatClampNeg) u = some (t, u1)) (hM : M_pass (sc.2 (i + 1).toNatClampNeg) u1 = some (b, u2)) (hT : M_thrown u2 = some T) (H : (∃ v, t = .inl v ∧ b = v ∧ T = 0) ∨ (t = .inr 1 ∧ T = 1) ∨ (t = .inr 2 ∧ T = 2)) (K : ∀ fL fD c1 z1, c1 ≤ c + 1 → z1 ≤ z + 6 → ∃ r, mg_Ev sc 11 258 2448 [some (.ref 0), some (.ref 1), some (.ref 43), some (.ref 51), some (.ref 52), some (.int i), none, none, none] [] (hp u2 fL fD, c1, z1) r ∧ Q r) : ∃ r, mg_Ev sc 11 258 1609 [some (.ref 0), some (.ref 1), some (.ref 43), some (.ref 51), some (.ref 52), some (.int i), none, none, none] [] (hp u fL fD, c, z) r ∧ Q r := by
  rcases H with ⟨v, rfl, rfl, rfl⟩ | ⟨rfl, rfl⟩ | ⟨rfl, rfl⟩
  · obtain ⟨r, hr, hQ⟩ := K (vp_updL fL 0 b.toInt64) fD c z (Nat.le_succ _) (Nat.le_add_right _ _)
    refine ⟨r, ?_, hQ⟩
    refine mg_Ev.go 5 (pc' := 1615) (loc' := [some (.ref 0), some (.ref 1), some (.ref 43), some (.ref 51), some (.ref 52), some (.int i), none, none, none]) (st' := [.int (i + 1), .ref 0, .ref 1]) (w' := (hp u fL fD, c, z)) rfl ?_
    refine mg_Ev.sld rfl hb1 ?_
    refine mg_Ev.go 1 (pc' := 1617) (loc' := [some (.ref 0), some (.ref 1), some (.ref 43), some (.ref 51), some (.ref 52), some (.int i), none, none, none]) (st' := [.ref 51, .int (sc.2 (i + 1).toNatClampNeg), .ref 1]) (w' := (hp u fL fD, c, z)) rfl ?_
    refine mg_Ev.call (y := 243) (as := [.ref 1, .int (sc.2 (i + 1).toNatClampNeg), .ref 51]) (rest := []) (v := some (.int 0)) (w1 := (hp u1 (vp_updL fL 0 b.toInt64) fD, c, z)) rfl rfl (Nat.le_of_ble_eq_true rfl) ((ev_W_pass_ok hC).deep (by decide)) ?_
    refine mg_Ev.go 1 (pc' := 1622) (loc' := [some (.ref 0), some (.ref 1), some (.ref 43), some (.ref 51), some (.ref 52), some (.int i), some (.int 0), none, none]) (st' := []) (w' := (hp u1 (vp_updL fL 0 b.toInt64) fD, c, z)) rfl ?_
    exact ev_opB_20 hb1 hM hT (fun _ => rfl) hr
  · obtain ⟨r, hr, hQ⟩ := K fL fD (c + 1) (z + 6) (Nat.le_refl _) (Nat.le_refl _)
    refine ⟨r, ?_, hQ⟩
    refine mg_Ev.go 5 (pc' := 1615) (loc' := [some (.ref 0), some (.ref 1), some (.ref 43), some (.ref 51), some (.ref 52), some (.int i), none, none, none]) (st' := [.int (i + 1), .ref 0, .ref 1]) (w' := (hp u fL fD, c, z)) rfl ?_
    refine mg_Ev.sld rfl hb1 ?_
    refine mg_Ev.go 1 (pc' := 1617) (loc' := [some (.ref 0), some (.ref 1), some (.ref 43), some (.ref 51), some (.ref 52), some (.int i), none, none, none]) (st' := [.ref 51, .int (sc.2 (i + 1).toNatClampNeg), .ref 1]) (w' := (hp u fL fD, c, z)) rfl ?_
    refine mg_Ev.call (y := 243) (as := [.ref 1, .int (sc.2 (i + 1).toNatClampNeg), .ref 51]) (rest := []) (v := some (.int 1)) (w1 := (hp u1 fL fD, c + 1, z + 6)) rfl rfl (Nat.le_of_ble_eq_true rfl) ((ev_W_pass_x1 hC).deep (by decide)) ?_
    refine mg_Ev.go 1 (pc' := 1622) (loc' := [some (.ref 0), some (.ref 1), some (.ref 43), some (.ref 51), some (.ref 52), some (.int i), some (.int 1), none, none]) (st' := []) (w' := (hp u1 fL fD, c + 1, z + 6)) rfl ?_
    exact ev_opB_20 hb1 hM hT (fun q => absurd q (by decide)) hr
  · obtain ⟨r, hr, hQ⟩ := K fL fD (c + 1) (z + 6) (Nat.le_refl _) (Nat.le_refl _)
    refine ⟨r, ?_, hQ⟩
    refine mg_Ev.go 5 (pc' := 1615) (loc' := [some (.ref 0), some (.ref 1), some (.ref 43), some (.ref 51), some (.ref 52), some (.int i), none, none, none]) (st' := [.int (i + 1), .ref 0, .ref 1]) (w' := (hp u fL fD, c, z)) rfl ?_
    refine mg_Ev.sld rfl hb1 ?_
    refine mg_Ev.go 1 (pc' := 1617) (loc' := [some (.ref 0), some (.ref 1), some (.ref 43), some (.ref 51), some (.ref 52), some (.int i), none, none, none]) (st' := [.ref 51, .int (sc.2 (i + 1).toNatClampNeg), .ref 1]) (w' := (hp u fL fD, c, z)) rfl ?_
    refine mg_Ev.call (y := 243) (as := [.ref 1, .int (sc.2 (i + 1).toNatClampNeg), .ref 51]) (rest := []) (v := some (.int 2)) (w1 := (hp u1 fL fD, c + 1, z + 6)) rfl rfl (Nat.le_of_ble_eq_true rfl) ((ev_W_pass_x2 hC).deep (by decide)) ?_
    refine mg_Ev.go 1 (pc' := 1622) (loc' := [some (.ref 0), some (.ref 1), some (.ref 43), some (.ref 51), some (.ref 52), some (.int i), some (.int 2), none, none]) (st' := []) (w' := (hp u1 fL fD, c + 1, z + 6)) rfl ?_
    exact ev_opB_20 hb1 hM hT (fun q => absurd q (by decide)) hr
def Ob_20 (I : mg_Rg → Prop) : Prop := ∀ u, I u → ∀ p1 : Int32, ∃ (t : Int32 ⊕ Nat) (u1 : mg_Rg) (b : Int32) (u2 : mg_Rg) (T : Int32), C_pass p1 u = some (t, u1) ∧ M_pass p1 u1 = some (b, u2) ∧ M_thrown u2 = some T ∧ ((∃ v, t = .inl v ∧ b = v ∧ T = 0) ∨ (t = .inr 1 ∧ T = 1) ∨ (t = .inr 2 ∧ T = 2)) ∧ I u2
theorem st_op_20 {sc : mg_Sc} {c z : Nat} {fL : Nat → Int64} {fD : Nat → UInt64} {i : Int32} {u : mg_Rg} {Q : mg_R → Prop} {I : mg_Rg → Prop} (O : Ob_20 I) (hu : I u) (hb1 : ¬ ((i + 1) < 0 ∨ sc.1 ≤ (i + 1).toNatClampNeg)) (K : ∀ u2 fL fD c1 z1, I u2 → c1 ≤ c + 1 → z1 ≤ z + 6 → ∃ r, mg_Ev sc 11 258 2448 [some (.ref 0), some (.ref 1), some (.ref 43), some (.ref 51), some (.ref 52), some (.int i), none, none, none] [] (hp u2 fL fD, c1, z1) r ∧ Q r) : ∃ r, mg_Ev sc 11 258 1609 [some (.ref 0), some (.ref 1), some (.ref 43), some (.ref 51), some (.ref 52), some (.int i), none, none, none] [] (hp u fL fD, c, z) r ∧ Q r := by
  obtain ⟨t, u1, b, u2, T, hC, hM, hT, H, hI⟩ := O u hu (sc.2 (i + 1).toNatClampNeg)
  exact ev_op_20 hb1 hC hM hT H (fun fL fD c1 z1 h1 h2 => K u2 fL fD c1 z1 hI h1 h2)
set_option maxRecDepth 10000 in
set_option maxHeartbeats 4000000 in
theorem ev_opB_21 {sc : mg_Sc} {c z : Nat} {fL : Nat → Int64} {fD : Nat → UInt64} {i T : Int32} {b : Int32} {u1 u2 : mg_Rg} {r : mg_R} (hb1 : ¬ ((i + 1) < 0 ∨ sc.1 ≤ (i + 1).toNatClampNeg)) (hM : M_refund (sc.2 (i + 1).toNatClampNeg) u1 = some (b, u2)) (hT : M_thrown u2 = some T) (hv : T = 0 → fL 0 = b.toInt64) (K : mg_Ev sc 11 258 2448 [some (.ref 0), some (.ref 1), some (.ref 43), some (.ref 51), some (.ref 52), some (.int i), none, none, none] [] (hp u2 fL fD, c, z) r) : mg_Ev sc 11 258 1678 [some (.ref 0), some (.ref 1), some (.ref 43), some (.ref 51), some (.ref 52), some (.int i), some (.int T), none, none] [] (hp u1 fL fD, c, z) r := by
  refine mg_Ev.go 5 (pc' := 1684) (loc' := [some (.ref 0), some (.ref 1), some (.ref 43), some (.ref 51), some (.ref 52), some (.int i), some (.int T), none, none]) (st' := [.int (i + 1), .ref 0, .ref 43]) (w' := (hp u1 fL fD, c, z)) rfl ?_
  refine mg_Ev.sld rfl hb1 ?_
  refine mg_Ev.call (y := 116) (as := [.ref 43, .int (sc.2 (i + 1).toNatClampNeg)]) (rest := []) (v := some (.int b)) (w1 := (hp u2 fL fD, c, z)) rfl rfl (Nat.le_of_ble_eq_true rfl) ((ev_M_refund hM).deep (by decide)) ?_
  refine mg_Ev.go 2 (pc' := 1691) (loc' := [some (.ref 0), some (.ref 1), some (.ref 43), some (.ref 51), some (.ref 52), some (.int i), some (.int T), some (.int b), none]) (st' := [.ref 43]) (w' := (hp u2 fL fD, c, z)) rfl ?_
  refine mg_Ev.call (y := 57) (as := [.ref 43]) (rest := []) (v := some (.int T)) (w1 := (hp u2 fL fD, c, z)) rfl rfl (Nat.le_of_ble_eq_true rfl) ((ev_M_thrown hT).deep (by decide)) ?_
  refine mg_Ev.go 1 (pc' := 1696) (loc' := [some (.ref 0), some (.ref 1), some (.ref 43), some (.ref 51), some (.ref 52), some (.int i), some (.int T), some (.int b), none]) (st' := [.int T, .int T]) (w' := (hp u2 fL fD, c, z)) rfl ?_
  refine mg_Ev.br (P := T = T) (t := 1701) (nx := 1699) (st' := []) rfl rfl rfl rfl (fun _ => ?_) (fun q => absurd rfl q)
  refine mg_Ev.go 1 (pc' := 1703) (loc' := [some (.ref 0), some (.ref 1), some (.ref 43), some (.ref 51), some (.ref 52), some (.int i), some (.int T), some (.int b), none]) (st' := [.int T]) (w' := (hp u2 fL fD, c, z)) rfl ?_
  refine mg_Ev.br (P := T = 0) (t := 1706) (nx := 1718) (st' := []) rfl rfl rfl rfl (fun h0 => ?_) (fun _ => ?_)
  · have h1 := hv h0
    refine mg_Ev.go 2 (pc' := 1708) (loc' := [some (.ref 0), some (.ref 1), some (.ref 43), some (.ref 51), some (.ref 52), some (.int i), some (.int T), some (.int b), none]) (st' := [.int 0, .ref 51]) (w' := (hp u2 fL fD, c, z)) rfl ?_
    refine mg_Ev.lald (a := 50) (n := 1) (f := fL) (j := 0) rfl (hpg_50 _ _ _) (by decide) (by decide) ?_
    rw [h1]
    refine mg_Ev.go 3 (pc' := 1713) (loc' := [some (.ref 0), some (.ref 1), some (.ref 43), some (.ref 51), some (.ref 52), some (.int i), some (.int T), some (.int b), none]) (st' := [.int (lg_cmp b.toInt64 b.toInt64)]) (w' := (hp u2 fL fD, c, z)) rfl ?_
    refine mg_Ev.br (P := lg_cmp b.toInt64 b.toInt64 = 0) (t := 1718) (nx := 1716) (st' := []) rfl rfl rfl rfl (fun _ => ?_) (fun q => absurd (mg_lcmp _) q)
    refine mg_Ev.go 1 (pc' := 2448) (loc' := [some (.ref 0), some (.ref 1), some (.ref 43), some (.ref 51), some (.ref 52), some (.int i), some (.int T), some (.int b), none]) (st' := []) (w' := (hp u2 fL fD, c, z)) rfl ?_
    exact mg_Ev.more K ⟨rfl, ⟨rfl, ⟨rfl, ⟨rfl, ⟨rfl, ⟨rfl, trivial⟩⟩⟩⟩⟩⟩
  · refine mg_Ev.go 1 (pc' := 2448) (loc' := [some (.ref 0), some (.ref 1), some (.ref 43), some (.ref 51), some (.ref 52), some (.int i), some (.int T), some (.int b), none]) (st' := []) (w' := (hp u2 fL fD, c, z)) rfl ?_
    exact mg_Ev.more K ⟨rfl, ⟨rfl, ⟨rfl, ⟨rfl, ⟨rfl, ⟨rfl, trivial⟩⟩⟩⟩⟩⟩
set_option maxRecDepth 10000 in
set_option maxHeartbeats 4000000 in
theorem ev_op_21 {sc : mg_Sc} {c z : Nat} {fL : Nat → Int64} {fD : Nat → UInt64} {i T : Int32} {b : Int32} {t : Int32 ⊕ Nat} {u u1 u2 : mg_Rg} {Q : mg_R → Prop} (hb1 : ¬ ((i + 1) < 0 ∨ sc.1 ≤ (i + 1).toNatClampNeg)) (hC : C_refund (sc.2 (i + 1).toNatClampNeg) u = some (t, u1)) (hM : M_refund (sc.2 (i + 1).toNatClampNeg) u1 = some (b, u2)) (hT : M_thrown u2 = some T) (H : (∃ v, t = .inl v ∧ b = v ∧ T = 0) ∨ (t = .inr 0 ∧ T = 1) ∨ (t = .inr 4 ∧ T = 2)) (K : ∀ fL fD c1 z1, c1 ≤ c + 1 → z1 ≤ z + 6 → ∃ r, mg_Ev sc 11 258 2448 [some (.ref 0), some (.ref 1), some (.ref 43), some (.ref 51), some (.ref 52), some (.int i), none, none, none] [] (hp u2 fL fD, c1, z1) r ∧ Q r) : ∃ r, mg_Ev sc 11 258 1665 [some (.ref 0), some (.ref 1), some (.ref 43), some (.ref 51), some (.ref 52), some (.int i), none, none, none] [] (hp u fL fD, c, z) r ∧ Q r := by
  rcases H with ⟨v, rfl, rfl, rfl⟩ | ⟨rfl, rfl⟩ | ⟨rfl, rfl⟩
  · obtain ⟨r, hr, hQ⟩ := K (vp_updL fL 0 b.toInt64) fD c z (Nat.le_succ _) (Nat.le_add_right _ _)
    refine ⟨r, ?_, hQ⟩
    refine mg_Ev.go 5 (pc' := 1671) (loc' := [some (.ref 0), some (.ref 1), some (.ref 43), some (.ref 51), some (.ref 52), some (.int i), none, none, none]) (st' := [.int (i + 1), .ref 0, .ref 1]) (w' := (hp u fL fD, c, z)) rfl ?_
    refine mg_Ev.sld rfl hb1 ?_
    refine mg_Ev.go 1 (pc' := 1673) (loc' := [some (.ref 0), some (.ref 1), some (.ref 43), some (.ref 51), some (.ref 52), some (.int i), none, none, none]) (st' := [.ref 51, .int (sc.2 (i + 1).toNatClampNeg), .ref 1]) (w' := (hp u fL fD, c, z)) rfl ?_
    refine mg_Ev.call (y := 244) (as := [.ref 1, .int (sc.2 (i + 1).toNatClampNeg), .ref 51]) (rest := []) (v := some (.int 0)) (w1 := (hp u1 (vp_updL fL 0 b.toInt64) fD, c, z)) rfl rfl (Nat.le_of_ble_eq_true rfl) ((ev_W_refund_ok hC).deep (by decide)) ?_
    refine mg_Ev.go 1 (pc' := 1678) (loc' := [some (.ref 0), some (.ref 1), some (.ref 43), some (.ref 51), some (.ref 52), some (.int i), some (.int 0), none, none]) (st' := []) (w' := (hp u1 (vp_updL fL 0 b.toInt64) fD, c, z)) rfl ?_
    exact ev_opB_21 hb1 hM hT (fun _ => rfl) hr
  · obtain ⟨r, hr, hQ⟩ := K fL fD (c + 1) (z + 6) (Nat.le_refl _) (Nat.le_refl _)
    refine ⟨r, ?_, hQ⟩
    refine mg_Ev.go 5 (pc' := 1671) (loc' := [some (.ref 0), some (.ref 1), some (.ref 43), some (.ref 51), some (.ref 52), some (.int i), none, none, none]) (st' := [.int (i + 1), .ref 0, .ref 1]) (w' := (hp u fL fD, c, z)) rfl ?_
    refine mg_Ev.sld rfl hb1 ?_
    refine mg_Ev.go 1 (pc' := 1673) (loc' := [some (.ref 0), some (.ref 1), some (.ref 43), some (.ref 51), some (.ref 52), some (.int i), none, none, none]) (st' := [.ref 51, .int (sc.2 (i + 1).toNatClampNeg), .ref 1]) (w' := (hp u fL fD, c, z)) rfl ?_
    refine mg_Ev.call (y := 244) (as := [.ref 1, .int (sc.2 (i + 1).toNatClampNeg), .ref 51]) (rest := []) (v := some (.int 1)) (w1 := (hp u1 fL fD, c + 1, z + 6)) rfl rfl (Nat.le_of_ble_eq_true rfl) ((ev_W_refund_x0 hC).deep (by decide)) ?_
    refine mg_Ev.go 1 (pc' := 1678) (loc' := [some (.ref 0), some (.ref 1), some (.ref 43), some (.ref 51), some (.ref 52), some (.int i), some (.int 1), none, none]) (st' := []) (w' := (hp u1 fL fD, c + 1, z + 6)) rfl ?_
    exact ev_opB_21 hb1 hM hT (fun q => absurd q (by decide)) hr
  · obtain ⟨r, hr, hQ⟩ := K fL fD (c + 1) (z + 6) (Nat.le_refl _) (Nat.le_refl _)
    refine ⟨r, ?_, hQ⟩
    refine mg_Ev.go 5 (pc' := 1671) (loc' := [some (.ref 0), some (.ref 1), some (.ref 43), some (.ref 51), some (.ref 52), some (.int i), none, none, none]) (st' := [.int (i + 1), .ref 0, .ref 1]) (w' := (hp u fL fD, c, z)) rfl ?_
    refine mg_Ev.sld rfl hb1 ?_
    refine mg_Ev.go 1 (pc' := 1673) (loc' := [some (.ref 0), some (.ref 1), some (.ref 43), some (.ref 51), some (.ref 52), some (.int i), none, none, none]) (st' := [.ref 51, .int (sc.2 (i + 1).toNatClampNeg), .ref 1]) (w' := (hp u fL fD, c, z)) rfl ?_
    refine mg_Ev.call (y := 244) (as := [.ref 1, .int (sc.2 (i + 1).toNatClampNeg), .ref 51]) (rest := []) (v := some (.int 2)) (w1 := (hp u1 fL fD, c + 1, z + 6)) rfl rfl (Nat.le_of_ble_eq_true rfl) ((ev_W_refund_x4 hC).deep (by decide)) ?_
    refine mg_Ev.go 1 (pc' := 1678) (loc' := [some (.ref 0), some (.ref 1), some (.ref 43), some (.ref 51), some (.ref 52), some (.int i), some (.int 2), none, none]) (st' := []) (w' := (hp u1 fL fD, c + 1, z + 6)) rfl ?_
    exact ev_opB_21 hb1 hM hT (fun q => absurd q (by decide)) hr
def Ob_21 (I : mg_Rg → Prop) : Prop := ∀ u, I u → ∀ p1 : Int32, ∃ (t : Int32 ⊕ Nat) (u1 : mg_Rg) (b : Int32) (u2 : mg_Rg) (T : Int32), C_refund p1 u = some (t, u1) ∧ M_refund p1 u1 = some (b, u2) ∧ M_thrown u2 = some T ∧ ((∃ v, t = .inl v ∧ b = v ∧ T = 0) ∨ (t = .inr 0 ∧ T = 1) ∨ (t = .inr 4 ∧ T = 2)) ∧ I u2
theorem st_op_21 {sc : mg_Sc} {c z : Nat} {fL : Nat → Int64} {fD : Nat → UInt64} {i : Int32} {u : mg_Rg} {Q : mg_R → Prop} {I : mg_Rg → Prop} (O : Ob_21 I) (hu : I u) (hb1 : ¬ ((i + 1) < 0 ∨ sc.1 ≤ (i + 1).toNatClampNeg)) (K : ∀ u2 fL fD c1 z1, I u2 → c1 ≤ c + 1 → z1 ≤ z + 6 → ∃ r, mg_Ev sc 11 258 2448 [some (.ref 0), some (.ref 1), some (.ref 43), some (.ref 51), some (.ref 52), some (.int i), none, none, none] [] (hp u2 fL fD, c1, z1) r ∧ Q r) : ∃ r, mg_Ev sc 11 258 1665 [some (.ref 0), some (.ref 1), some (.ref 43), some (.ref 51), some (.ref 52), some (.int i), none, none, none] [] (hp u fL fD, c, z) r ∧ Q r := by
  obtain ⟨t, u1, b, u2, T, hC, hM, hT, H, hI⟩ := O u hu (sc.2 (i + 1).toNatClampNeg)
  exact ev_op_21 hb1 hC hM hT H (fun fL fD c1 z1 h1 h2 => K u2 fL fD c1 z1 hI h1 h2)
