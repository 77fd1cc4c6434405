theorem mg_lcmp (x : Int64) : lg_cmp x x = 0 := by
  unfold lg_cmp
  simp
set_option maxRecDepth 10000 in
set_option maxHeartbeats 4000000 in
theorem ev_opB_0 {sc : mg_Sc} {c z : Nat} {fL : Nat → Int64} {fD : Nat → UInt64} {i T : Int32} {b : Int32} {u1 u2 : mg_Rg} {r : mg_R} (hb1 : ¬ ((i + 1) < 0 ∨ sc.1 ≤ (i + 1).toNatClampNeg)) (hb2 : ¬ ((i + 2) < 0 ∨ sc.1 ≤ (i + 2).toNatClampNeg)) (hM : M_heading (sc.2 (i + 1).toNatClampNeg) (sc.2 (i + 2).toNatClampNeg) u1 = some (b, u2)) (hT : M_thrown u2 = some T) (hv : T = 0 → fL 0 = b.toInt64) (K : mg_Ev sc 11 258 2448 [some (.ref 0), some (.ref 1), some (.ref 43), some (.ref 51), some (.ref 52), some (.int i), none, none, none] [] (hp u2 fL fD, c, z) r) : mg_Ev sc 11 258 227 [some (.ref 0), some (.ref 1), some (.ref 43), some (.ref 51), some (.ref 52), some (.int i), some (.int T), none, none] [] (hp u1 fL fD, c, z) r := by
  refine mg_Ev.go 5 (pc' := 233) (loc' := [some (.ref 0), some (.ref 1), some (.ref 43), some (.ref 51), some (.ref 52), some (.int i), some (.int T), none, none]) (st' := [.int (i + 1), .ref 0, .ref 43]) (w' := (hp u1 fL fD, c, z)) rfl ?_
  refine mg_Ev.sld rfl hb1 ?_
  refine mg_Ev.go 4 (pc' := 239) (loc' := [some (.ref 0), some (.ref 1), some (.ref 43), some (.ref 51), some (.ref 52), some (.int i), some (.int T), none, none]) (st' := [.int (i + 2), .ref 0, .int (sc.2 (i + 1).toNatClampNeg), .ref 43]) (w' := (hp u1 fL fD, c, z)) rfl ?_
  refine mg_Ev.sld rfl hb2 ?_
  refine mg_Ev.call (y := 75) (as := [.ref 43, .int (sc.2 (i + 1).toNatClampNeg), .int (sc.2 (i + 2).toNatClampNeg)]) (rest := []) (v := some (.int b)) (w1 := (hp u2 fL fD, c, z)) rfl rfl (Nat.le_of_ble_eq_true rfl) ((ev_M_heading hM).deep (by decide)) ?_
  refine mg_Ev.go 2 (pc' := 246) (loc' := [some (.ref 0), some (.ref 1), some (.ref 43), some (.ref 51), some (.ref 52), some (.int i), some (.int T), some (.int b), none]) (st' := [.ref 43]) (w' := (hp u2 fL fD, c, z)) rfl ?_
  refine mg_Ev.call (y := 57) (as := [.ref 43]) (rest := []) (v := some (.int T)) (w1 := (hp u2 fL fD, c, z)) rfl rfl (Nat.le_of_ble_eq_true rfl) ((ev_M_thrown hT).deep (by decide)) ?_
  refine mg_Ev.go 1 (pc' := 251) (loc' := [some (.ref 0), some (.ref 1), some (.ref 43), some (.ref 51), some (.ref 52), some (.int i), some (.int T), some (.int b), none]) (st' := [.int T, .int T]) (w' := (hp u2 fL fD, c, z)) rfl ?_
  refine mg_Ev.br (P := T = T) (t := 256) (nx := 254) (st' := []) rfl rfl rfl rfl (fun _ => ?_) (fun q => absurd rfl q)
  refine mg_Ev.go 1 (pc' := 258) (loc' := [some (.ref 0), some (.ref 1), some (.ref 43), some (.ref 51), some (.ref 52), some (.int i), some (.int T), some (.int b), none]) (st' := [.int T]) (w' := (hp u2 fL fD, c, z)) rfl ?_
  refine mg_Ev.br (P := T = 0) (t := 261) (nx := 273) (st' := []) rfl rfl rfl rfl (fun h0 => ?_) (fun _ => ?_)
  · have h1 := hv h0
    refine mg_Ev.go 2 (pc' := 263) (loc' := [some (.ref 0), some (.ref 1), some (.ref 43), some (.ref 51), some (.ref 52), some (.int i), some (.int T), some (.int b), none]) (st' := [.int 0, .ref 51]) (w' := (hp u2 fL fD, c, z)) rfl ?_
    refine mg_Ev.lald (a := 50) (n := 1) (f := fL) (j := 0) rfl (hpg_50 _ _ _) (by decide) (by decide) ?_
    rw [h1]
    refine mg_Ev.go 3 (pc' := 268) (loc' := [some (.ref 0), some (.ref 1), some (.ref 43), some (.ref 51), some (.ref 52), some (.int i), some (.int T), some (.int b), none]) (st' := [.int (lg_cmp b.toInt64 b.toInt64)]) (w' := (hp u2 fL fD, c, z)) rfl ?_
    refine mg_Ev.br (P := lg_cmp b.toInt64 b.toInt64 = 0) (t := 273) (nx := 271) (st' := []) rfl rfl rfl rfl (fun _ => ?_) (fun q => absurd (mg_lcmp _) q)
    refine mg_Ev.go 1 (pc' := 2448) (loc' := [some (.ref 0), some (.ref 1), some (.ref 43), some (.ref 51), some (.ref 52), some (.int i), some (.int T), some (.int b), none]) (st' := []) (w' := (hp u2 fL fD, c, z)) rfl ?_
    exact mg_Ev.more K ⟨rfl, ⟨rfl, ⟨rfl, ⟨rfl, ⟨rfl, ⟨rfl, trivial⟩⟩⟩⟩⟩⟩
  · refine mg_Ev.go 1 (pc' := 2448) (loc' := [some (.ref 0), some (.ref 1), some (.ref 43), some (.ref 51), some (.ref 52), some (.int i), some (.int T), some (.int b), none]) (st' := []) (w' := (hp u2 fL fD, c, z)) rfl ?_
    exact mg_Ev.more K ⟨rfl, ⟨rfl, ⟨rfl, ⟨rfl, ⟨rfl, ⟨rfl, trivial⟩⟩⟩⟩⟩⟩
set_option maxRecDepth 10000 in
set_option maxHeartbeats 4000000 in
theorem ev_op_0 {sc : mg_Sc} {c z : Nat} {fL : Nat → Int64} {fD : Nat → UInt64} {i T : Int32} {b : Int32} {t : Int32 ⊕ Nat} {u u1 u2 : mg_Rg} {Q : mg_R → Prop} (hb1 : ¬ ((i + 1) < 0 ∨ sc.1 ≤ (i + 1).toNatClampNeg)) (hb2 : ¬ ((i + 2) < 0 ∨ sc.1 ≤ (i + 2).toNatClampNeg)) (hC : C_heading (sc.2 (i + 1).toNatClampNeg) (sc.2 (i + 2).toNatClampNeg) u = some (t, u1)) (hM : M_heading (sc.2 (i + 1).toNatClampNeg) (sc.2 (i + 2).toNatClampNeg) u1 = some (b, u2)) (hT : M_thrown u2 = some T) (H : (∃ v, t = .inl v ∧ b = v ∧ T = 0) ∨ (t = .inr 0 ∧ T = 1) ∨ (t = .inr 1 ∧ T = 2) ∨ (t = .inr 2 ∧ T = 3)) (K : ∀ fL fD c1 z1, c1 ≤ c + 1 → z1 ≤ z + 6 → ∃ r, mg_Ev sc 11 258 2448 [some (.ref 0), some (.ref 1), some (.ref 43), some (.ref 51), some (.ref 52), some (.int i), none, none, none] [] (hp u2 fL fD, c1, z1) r ∧ Q r) : ∃ r, mg_Ev sc 11 258 208 [some (.ref 0), some (.ref 1), some (.ref 43), some (.ref 51), some (.ref 52), some (.int i), none, none, none] [] (hp u fL fD, c, z) r ∧ Q r := by
  rcases H with ⟨v, rfl, rfl, rfl⟩ | ⟨rfl, rfl⟩ | ⟨rfl, rfl⟩ | ⟨rfl, rfl⟩
  · obtain ⟨r, hr, hQ⟩ := K (vp_updL fL 0 b.toInt64) fD c z (Nat.le_succ _) (Nat.le_add_right _ _)
    refine ⟨r, ?_, hQ⟩
    refine mg_Ev.go 5 (pc' := 214) (loc' := [some (.ref 0), some (.ref 1), some (.ref 43), some (.ref 51), some (.ref 52), some (.int i), none, none, none]) (st' := [.int (i + 1), .ref 0, .ref 1]) (w' := (hp u fL fD, c, z)) rfl ?_
    refine mg_Ev.sld rfl hb1 ?_
    refine mg_Ev.go 4 (pc' := 220) (loc' := [some (.ref 0), some (.ref 1), some (.ref 43), some (.ref 51), some (.ref 52), some (.int i), none, none, none]) (st' := [.int (i + 2), .ref 0, .int (sc.2 (i + 1).toNatClampNeg), .ref 1]) (w' := (hp u fL fD, c, z)) rfl ?_
    refine mg_Ev.sld rfl hb2 ?_
    refine mg_Ev.go 1 (pc' := 222) (loc' := [some (.ref 0), some (.ref 1), some (.ref 43), some (.ref 51), some (.ref 52), some (.int i), none, none, none]) (st' := [.ref 51, .int (sc.2 (i + 2).toNatClampNeg), .int (sc.2 (i + 1).toNatClampNeg), .ref 1]) (w' := (hp u fL fD, c, z)) rfl ?_
    refine mg_Ev.call (y := 224) (as := [.ref 1, .int (sc.2 (i + 1).toNatClampNeg), .int (sc.2 (i + 2).toNatClampNeg), .ref 51]) (rest := []) (v := some (.int 0)) (w1 := (hp u1 (vp_updL fL 0 b.toInt64) fD, c, z)) rfl rfl (Nat.le_of_ble_eq_true rfl) ((ev_W_heading_ok hC).deep (by decide)) ?_
    refine mg_Ev.go 1 (pc' := 227) (loc' := [some (.ref 0), some (.ref 1), some (.ref 43), some (.ref 51), some (.ref 52), some (.int i), some (.int 0), none, none]) (st' := []) (w' := (hp u1 (vp_updL fL 0 b.toInt64) fD, c, z)) rfl ?_
    exact ev_opB_0 hb1 hb2 hM hT (fun _ => rfl) hr
  · obtain ⟨r, hr, hQ⟩ := K fL fD (c + 1) (z + 6) (Nat.le_refl _) (Nat.le_refl _)
    refine ⟨r, ?_, hQ⟩
    refine mg_Ev.go 5 (pc' := 214) (loc' := [some (.ref 0), some (.ref 1), some (.ref 43), some (.ref 51), some (.ref 52), some (.int i), none, none, none]) (st' := [.int (i + 1), .ref 0, .ref 1]) (w' := (hp u fL fD, c, z)) rfl ?_
    refine mg_Ev.sld rfl hb1 ?_
    refine mg_Ev.go 4 (pc' := 220) (loc' := [some (.ref 0), some (.ref 1), some (.ref 43), some (.ref 51), some (.ref 52), some (.int i), none, none, none]) (st' := [.int (i + 2), .ref 0, .int (sc.2 (i + 1).toNatClampNeg), .ref 1]) (w' := (hp u fL fD, c, z)) rfl ?_
    refine mg_Ev.sld rfl hb2 ?_
    refine mg_Ev.go 1 (pc' := 222) (loc' := [some (.ref 0), some (.ref 1), some (.ref 43), some (.ref 51), some (.ref 52), some (.int i), none, none, none]) (st' := [.ref 51, .int (sc.2 (i + 2).toNatClampNeg), .int (sc.2 (i + 1).toNatClampNeg), .ref 1]) (w' := (hp u fL fD, c, z)) rfl ?_
    refine mg_Ev.call (y := 224) (as := [.ref 1, .int (sc.2 (i + 1).toNatClampNeg), .int (sc.2 (i + 2).toNatClampNeg), .ref 51]) (rest := []) (v := some (.int 1)) (w1 := (hp u1 fL fD, c + 1, z + 6)) rfl rfl (Nat.le_of_ble_eq_true rfl) ((ev_W_heading_x0 hC).deep (by decide)) ?_
    refine mg_Ev.go 1 (pc' := 227) (loc' := [some (.ref 0), some (.ref 1), some (.ref 43), some (.ref 51), some (.ref 52), some (.int i), some (.int 1), none, none]) (st' := []) (w' := (hp u1 fL fD, c + 1, z + 6)) rfl ?_
    exact ev_opB_0 hb1 hb2 hM hT (fun q => absurd q (by decide)) hr
  · obtain ⟨r, hr, hQ⟩ := K fL fD (c + 1) (z + 6) (Nat.le_refl _) (Nat.le_refl _)
    refine ⟨r, ?_, hQ⟩
    refine mg_Ev.go 5 (pc' := 214) (loc' := [some (.ref 0), some (.ref 1), some (.ref 43), some (.ref 51), some (.ref 52), some (.int i), none, none, none]) (st' := [.int (i + 1), .ref 0, .ref 1]) (w' := (hp u fL fD, c, z)) rfl ?_
    refine mg_Ev.sld rfl hb1 ?_
    refine mg_Ev.go 4 (pc' := 220) (loc' := [some (.ref 0), some (.ref 1), some (.ref 43), some (.ref 51), some (.ref 52), some (.int i), none, none, none]) (st' := [.int (i + 2), .ref 0, .int (sc.2 (i + 1).toNatClampNeg), .ref 1]) (w' := (hp u fL fD, c, z)) rfl ?_
    refine mg_Ev.sld rfl hb2 ?_
    refine mg_Ev.go 1 (pc' := 222) (loc' := [some (.ref 0), some (.ref 1), some (.ref 43), some (.ref 51), some (.ref 52), some (.int i), none, none, none]) (st' := [.ref 51, .int (sc.2 (i + 2).toNatClampNeg), .int (sc.2 (i + 1).toNatClampNeg), .ref 1]) (w' := (hp u fL fD, c, z)) rfl ?_
    refine mg_Ev.call (y := 224) (as := [.ref 1, .int (sc.2 (i + 1).toNatClampNeg), .int (sc.2 (i + 2).toNatClampNeg), .ref 51]) (rest := []) (v := some (.int 2)) (w1 := (hp u1 fL fD, c + 1, z + 6)) rfl rfl (Nat.le_of_ble_eq_true rfl) ((ev_W_heading_x1 hC).deep (by decide)) ?_
    refine mg_Ev.go 1 (pc' := 227) (loc' := [some (.ref 0), some (.ref 1), some (.ref 43), some (.ref 51), some (.ref 52), some (.int i), some (.int 2), none, none]) (st' := []) (w' := (hp u1 fL fD, c + 1, z + 6)) rfl ?_
    exact ev_opB_0 hb1 hb2 hM hT (fun q => absurd q (by decide)) hr
  · obtain ⟨r, hr, hQ⟩ := K fL fD (c + 1) (z + 6) (Nat.le_refl _) (Nat.le_refl _)
    refine ⟨r, ?_, hQ⟩
    refine mg_Ev.go 5 (pc' := 214) (loc' := [some (.ref 0), some (.ref 1), some (.ref 43), some (.ref 51), some (.ref 52), some (.int i), none, none, none]) (st' := [.int (i + 1), .ref 0, .ref 1]) (w' := (hp u fL fD, c, z)) rfl ?_
    refine mg_Ev.sld rfl hb1 ?_
    refine mg_Ev.go 4 (pc' := 220) (loc' := [some (.ref 0), some (.ref 1), some (.ref 43), some (.ref 51), some (.ref 52), some (.int i), none, none, none]) (st' := [.int (i + 2), .ref 0, .int (sc.2 (i + 1).toNatClampNeg), .ref 1]) (w' := (hp u fL fD, c, z)) rfl ?_
    refine mg_Ev.sld rfl hb2 ?_
    refine mg_Ev.go 1 (pc' := 222) (loc' := [some (.ref 0), some (.ref 1), some (.ref 43), some (.ref 51), some (.ref 52), some (.int i), none, none, none]) (st' := [.ref 51, .int (sc.2 (i + 2).toNatClampNeg), .int (sc.2 (i + 1).toNatClampNeg), .ref 1]) (w' := (hp u fL fD, c, z)) rfl ?_
    refine mg_Ev.call (y := 224) (as := [.ref 1, .int (sc.2 (i + 1).toNatClampNeg), .int (sc.2 (i + 2).toNatClampNeg), .ref 51]) (rest := []) (v := some (.int 3)) (w1 := (hp u1 fL fD, c + 1, z + 6)) rfl rfl (Nat.le_of_ble_eq_true rfl) ((ev_W_heading_x2 hC).deep (by decide)) ?_
    refine mg_Ev.go 1 (pc' := 227) (loc' := [some (.ref 0), some (.ref 1), some (.ref 43), some (.ref 51), some (.ref 52), some (.int i), some (.int 3), none, none]) (st' := []) (w' := (hp u1 fL fD, c + 1, z + 6)) rfl ?_
    exact ev_opB_0 hb1 hb2 hM hT (fun q => absurd q (by decide)) hr
def Ob_0 (I : mg_Rg → Prop) : Prop := ∀ u, I u → ∀ p1 p2 : Int32, ∃ (t : Int32 ⊕ Nat) (u1 : mg_Rg) (b : Int32) (u2 : mg_Rg) (T : Int32), C_heading p1 p2 u = some (t, u1) ∧ M_heading p1 p2 u1 = some (b, u2) ∧ M_thrown u2 = some T ∧ ((∃ v, t = .inl v ∧ b = v ∧ T = 0) ∨ (t = .inr 0 ∧ T = 1) ∨ (t = .inr 1 ∧ T = 2) ∨ (t = .inr 2 ∧ T = 3)) ∧ I u2
theorem st_op_0 {sc : mg_Sc} {c z : Nat} {fL : Nat → Int64} {fD : Nat → UInt64} {i : Int32} {u : mg_Rg} {Q : mg_R → Prop} {I : mg_Rg → Prop} (O : Ob_0 I) (hu : I u) (hb1 : ¬ ((i + 1) < 0 ∨ sc.1 ≤ (i + 1).toNatClampNeg)) (hb2 : ¬ ((i + 2) < 0 ∨ sc.1 ≤ (i + 2).toNatClampNeg)) (K : ∀ u2 fL fD c1 z1, I u2 → c1 ≤ c + 1 → z1 ≤ z + 6 → ∃ r, mg_Ev sc 11 258 2448 [some (.ref 0), some (.ref 1), some (.ref 43), some (.ref 51), some (.ref 52), some (.int i), none, none, none] [] (hp u2 fL fD, c1, z1) r ∧ Q r) : ∃ r, mg_Ev sc 11 258 208 [some (.ref 0), some (.ref 1), some (.ref 43), some (.ref 51), some (.ref 52), some (.int i), none, none, none] [] (hp u fL fD, c, z) r ∧ Q r := by
  obtain ⟨t, u1, b, u2, T, hC, hM, hT, H, hI⟩ := O u hu (sc.2 (i + 1).toNatClampNeg) (sc.2 (i + 2).toNatClampNeg)
  exact ev_op_0 hb1 hb2 hC hM hT H (fun fL fD c1 z1 h1 h2 => K u2 fL fD c1 z1 hI h1 h2)
set_option maxRecDepth 10000 in
set_option maxHeartbeats 4000000 in
theorem ev_opB_1 {sc : mg_Sc} {c z : Nat} {fL : Nat → Int64} {fD : Nat → UInt64} {i T : Int32} {b : Int32} {u1 u2 : mg_Rg} {r : mg_R} (hb1 : ¬ ((i + 1) < 0 ∨ sc.1 ≤ (i + 1).toNatClampNeg)) (hb2 : ¬ ((i + 2) < 0 ∨ sc.1 ≤ (i + 2).toNatClampNeg)) (hM : M_rate (sc.2 (i + 1).toNatClampNeg) (sc.2 (i + 2).toNatClampNeg) u1 = some (b, u2)) (hT : M_thrown u2 = some T) (hv : T = 0 → fL 0 = b.toInt64) (K : mg_Ev sc 11 258 2448 [some (.ref 0), some (.ref 1), some (.ref 43), some (.ref 51), some (.ref 52), some (.int i), none, none, none] [] (hp u2 fL fD, c, z) r) : mg_Ev sc 11 258 295 [some (.ref 0), some (.ref 1), some (.ref 43), some (.ref 51), some (.ref 52), some (.int i), some (.int T), none, none] [] (hp u1 fL fD, c, z) r := by
  refine mg_Ev.go 5 (pc' := 301) (loc' := [some (.ref 0), some (.ref 1), some (.ref 43), some (.ref 51), some (.ref 52), some (.int i), some (.int T), none, none]) (st' := [.int (i + 1), .ref 0, .ref 43]) (w' := (hp u1 fL fD, c, z)) rfl ?_
  refine mg_Ev.sld rfl hb1 ?_
  refine mg_Ev.go 4 (pc' := 307) (loc' := [some (.ref 0), some (.ref 1), some (.ref 43), some (.ref 51), some (.ref 52), some (.int i), some (.int T), none, none]) (st' := [.int (i + 2), .ref 0, .int (sc.2 (i + 1).toNatClampNeg), .ref 43]) (w' := (hp u1 fL fD, c, z)) rfl ?_
  refine mg_Ev.sld rfl hb2 ?_
  refine mg_Ev.call (y := 76) (as := [.ref 43, .int (sc.2 (i + 1).toNatClampNeg), .int (sc.2 (i + 2).toNatClampNeg)]) (rest := []) (v := some (.int b)) (w1 := (hp u2 fL fD, c, z)) rfl rfl (Nat.le_of_ble_eq_true rfl) ((ev_M_rate hM).deep (by decide)) ?_
  refine mg_Ev.go 2 (pc' := 314) (loc' := [some (.ref 0), some (.ref 1), some (.ref 43), some (.ref 51), some (.ref 52), some (.int i), some (.int T), some (.int b), none]) (st' := [.ref 43]) (w' := (hp u2 fL fD, c, z)) rfl ?_
  refine mg_Ev.call (y := 57) (as := [.ref 43]) (rest := []) (v := some (.int T)) (w1 := (hp u2 fL fD, c, z)) rfl rfl (Nat.le_of_ble_eq_true rfl) ((ev_M_thrown hT).deep (by decide)) ?_
  refine mg_Ev.go 1 (pc' := 319) (loc' := [some (.ref 0), some (.ref 1), some (.ref 43), some (.ref 51), some (.ref 52), some (.int i), some (.int T), some (.int b), none]) (st' := [.int T, .int T]) (w' := (hp u2 fL fD, c, z)) rfl ?_
  refine mg_Ev.br (P := T = T) (t := 324) (nx := 322) (st' := []) rfl rfl rfl rfl (fun _ => ?_) (fun q => absurd rfl q)
  refine mg_Ev.go 1 (pc' := 326) (loc' := [some (.ref 0), some (.ref 1), some (.ref 43), some (.ref 51), some (.ref 52), some (.int i), some (.int T), some (.int b), none]) (st' := [.int T]) (w' := (hp u2 fL fD, c, z)) rfl ?_
  refine mg_Ev.br (P := T = 0) (t := 329) (nx := 341) (st' := []) rfl rfl rfl rfl (fun h0 => ?_) (fun _ => ?_)
  · have h1 := hv h0
    refine mg_Ev.go 2 (pc' := 331) (loc' := [some (.ref 0), some (.ref 1), some (.ref 43), some (.ref 51), some (.ref 52), some (.int i), some (.int T), some (.int b), none]) (st' := [.int 0, .ref 51]) (w' := (hp u2 fL fD, c, z)) rfl ?_
    refine mg_Ev.lald (a := 50) (n := 1) (f := fL) (j := 0) rfl (hpg_50 _ _ _) (by decide) (by decide) ?_
    rw [h1]
    refine mg_Ev.go 3 (pc' := 336) (loc' := [some (.ref 0), some (.ref 1), some (.ref 43), some (.ref 51), some (.ref 52), some (.int i), some (.int T), some (.int b), none]) (st' := [.int (lg_cmp b.toInt64 b.toInt64)]) (w' := (hp u2 fL fD, c, z)) rfl ?_
    refine mg_Ev.br (P := lg_cmp b.toInt64 b.toInt64 = 0) (t := 341) (nx := 339) (st' := []) rfl rfl rfl rfl (fun _ => ?_) (fun q => absurd (mg_lcmp _) q)
    refine mg_Ev.go 1 (pc' := 2448) (loc' := [some (.ref 0), some (.ref 1), some (.ref 43), some (.ref 51), some (.ref 52), some (.int i), some (.int T), some (.int b), none]) (st' := []) (w' := (hp u2 fL fD, c, z)) rfl ?_
    exact mg_Ev.more K ⟨rfl, ⟨rfl, ⟨rfl, ⟨rfl, ⟨rfl, ⟨rfl, trivial⟩⟩⟩⟩⟩⟩
  · refine mg_Ev.go 1 (pc' := 2448) (loc' := [some (.ref 0), some (.ref 1), some (.ref 43), some (.ref 51), some (.ref 52), some (.int i), some (.int T), some (.int b), none]) (st' := []) (w' := (hp u2 fL fD, c, z)) rfl ?_
    exact mg_Ev.more K ⟨rfl, ⟨rfl, ⟨rfl, ⟨rfl, ⟨rfl, ⟨rfl, trivial⟩⟩⟩⟩⟩⟩
set_option maxRecDepth 10000 in
set_option maxHeartbeats 4000000 in
theorem ev_op_1 {sc : mg_Sc} {c z : Nat} {fL : Nat → Int64} {fD : Nat → UInt64} {i T : Int32} {b : Int32} {t : Int32 ⊕ Nat} {u u1 u2 : mg_Rg} {Q : mg_R → Prop} (hb1 : ¬ ((i + 1) < 0 ∨ sc.1 ≤ (i + 1).toNatClampNeg)) (hb2 : ¬ ((i + 2) < 0 ∨ sc.1 ≤ (i + 2).toNatClampNeg)) (hC : C_rate (sc.2 (i + 1).toNatClampNeg) (sc.2 (i + 2).toNatClampNeg) u = some (t, u1)) (hM : M_rate (sc.2 (i + 1).toNatClampNeg) (sc.2 (i + 2).toNatClampNeg) u1 = some (b, u2)) (hT : M_thrown u2 = some T) (H : (∃ v, t = .inl v ∧ b = v ∧ T = 0) ∨ (t = .inr 0 ∧ T = 1) ∨ (t = .inr 1 ∧ T = 2)) (K : ∀ fL fD c1 z1, c1 ≤ c + 1 → z1 ≤ z + 6 → ∃ r, mg_Ev sc 11 258 2448 [some (.ref 0), some (.ref 1), some (.ref 43), some (.ref 51), some (.ref 52), some (.int i), none, none, none] [] (hp u2 fL fD, c1, z1) r ∧ Q r) : ∃ r, mg_Ev sc 11 258 276 [some (.ref 0), some (.ref 1), some (.ref 43), some (.ref 51), some (.ref 52), some (.int i), none, none, none] [] (hp u fL fD, c, z) r ∧ Q r := by
  rcases H with ⟨v, rfl, rfl, rfl⟩ | ⟨rfl, rfl⟩ | ⟨rfl, rfl⟩
  · obtain ⟨r, hr, hQ⟩ := K (vp_updL fL 0 b.toInt64) fD c z (Nat.le_succ _) (Nat.le_add_right _ _)
    refine ⟨r, ?_, hQ⟩
    refine mg_Ev.go 5 (pc' := 282) (loc' := [some (.ref 0), some (.ref 1), some (.ref 43), some (.ref 51), some (.ref 52), some (.int i), none, none, none]) (st' := [.int (i + 1), .ref 0, .ref 1]) (w' := (hp u fL fD, c, z)) rfl ?_
    refine mg_Ev.sld rfl hb1 ?_
    refine mg_Ev.go 4 (pc' := 288) (loc' := [some (.ref 0), some (.ref 1), some (.ref 43), some (.ref 51), some (.ref 52), some (.int i), none, none, none]) (st' := [.int (i + 2), .ref 0, .int (sc.2 (i + 1).toNatClampNeg), .ref 1]) (w' := (hp u fL fD, c, z)) rfl ?_
    refine mg_Ev.sld rfl hb2 ?_
    refine mg_Ev.go 1 (pc' := 290) (loc' := [some (.ref 0), some (.ref 1), some (.ref 43), some (.ref 51), some (.ref 52), some (.int i), none, none, none]) (st' := [.ref 51, .int (sc.2 (i + 2).toNatClampNeg), .int (sc.2 (i + 1).toNatClampNeg), .ref 1]) (w' := (hp u fL fD, c, z)) rfl ?_
    refine mg_Ev.call (y := 225) (as := [.ref 1, .int (sc.2 (i + 1).toNatClampNeg), .int (sc.2 (i + 2).toNatClampNeg), .ref 51]) (rest := []) (v := some (.int 0)) (w1 := (hp u1 (vp_updL fL 0 b.toInt64) fD, c, z)) rfl rfl (Nat.le_of_ble_eq_true rfl) ((ev_W_rate_ok hC).deep (by decide)) ?_
    refine mg_Ev.go 1 (pc' := 295) (loc' := [some (.ref 0), some (.ref 1), some (.ref 43), some (.ref 51), some (.ref 52), some (.int i), some (.int 0), none, none]) (st' := []) (w' := (hp u1 (vp_updL fL 0 b.toInt64) fD, c, z)) rfl ?_
    exact ev_opB_1 hb1 hb2 hM hT (fun _ => rfl) hr
  · obtain ⟨r, hr, hQ⟩ := K fL fD (c + 1) (z + 6) (Nat.le_refl _) (Nat.le_refl _)
    refine ⟨r, ?_, hQ⟩
    refine mg_Ev.go 5 (pc' := 282) (loc' := [some (.ref 0), some (.ref 1), some (.ref 43), some (.ref 51), some (.ref 52), some (.int i), none, none, none]) (st' := [.int (i + 1), .ref 0, .ref 1]) (w' := (hp u fL fD, c, z)) rfl ?_
    refine mg_Ev.sld rfl hb1 ?_
    refine mg_Ev.go 4 (pc' := 288) (loc' := [some (.ref 0), some (.ref 1), some (.ref 43), some (.ref 51), some (.ref 52), some (.int i), none, none, none]) (st' := [.int (i + 2), .ref 0, .int (sc.2 (i + 1).toNatClampNeg), .ref 1]) (w' := (hp u fL fD, c, z)) rfl ?_
    refine mg_Ev.sld rfl hb2 ?_
    refine mg_Ev.go 1 (pc' := 290) (loc' := [some (.ref 0), some (.ref 1), some (.ref 43), some (.ref 51), some (.ref 52), some (.int i), none, none, none]) (st' := [.ref 51, .int (sc.2 (i + 2).toNatClampNeg), .int (sc.2 (i + 1).toNatClampNeg), .ref 1]) (w' := (hp u fL fD, c, z)) rfl ?_
    refine mg_Ev.call (y := 225) (as := [.ref 1, .int (sc.2 (i + 1).toNatClampNeg), .int (sc.2 (i + 2).toNatClampNeg), .ref 51]) (rest := []) (v := some (.int 1)) (w1 := (hp u1 fL fD, c + 1, z + 6)) rfl rfl (Nat.le_of_ble_eq_true rfl) ((ev_W_rate_x0 hC).deep (by decide)) ?_
    refine mg_Ev.go 1 (pc' := 295) (loc' := [some (.ref 0), some (.ref 1), some (.ref 43), some (.ref 51), some (.ref 52), some (.int i), some (.int 1), none, none]) (st' := []) (w' := (hp u1 fL fD, c + 1, z + 6)) rfl ?_
    exact ev_opB_1 hb1 hb2 hM hT (fun q => absurd q (by decide)) hr
  · obtain ⟨r, hr, hQ⟩ := K fL fD (c + 1) (z + 6) (Nat.le_refl _) (Nat.le_refl _)
    refine ⟨r, ?_, hQ⟩
    refine mg_Ev.go 5 (pc' := 282) (loc' := [some (.ref 0), some (.ref 1), some (.ref 43), some (.ref 51), some (.ref 52), some (.int i), none, none, none]) (st' := [.int (i + 1), .ref 0, .ref 1]) (w' := (hp u fL fD, c, z)) rfl ?_
    refine mg_Ev.sld rfl hb1 ?_
    refine mg_Ev.go 4 (pc' := 288) (loc' := [some (.ref 0), some (.ref 1), some (.ref 43), some (.ref 51), some (.ref 52), some (.int i), none, none, none]) (st' := [.int (i + 2), .ref 0, .int (sc.2 (i + 1).toNatClampNeg), .ref 1]) (w' := (hp u fL fD, c, z)) rfl ?_
    refine mg_Ev.sld rfl hb2 ?_
    refine mg_Ev.go 1 (pc' := 290) (loc' := [some (.ref 0), some (.ref 1), some (.ref 43), some (.ref 51), some (.ref 52), some (.int i), none, none, none]) (st' := [.ref 51, .int (sc.2 (i + 2).toNatClampNeg), .int (sc.2 (i + 1).toNatClampNeg), .ref 1]) (w' := (hp u fL fD, c, z)) rfl ?_
    refine mg_Ev.call (y := 225) (as := [.ref 1, .int (sc.2 (i + 1).toNatClampNeg), .int (sc.2 (i + 2).toNatClampNeg), .ref 51]) (rest := []) (v := some (.int 2)) (w1 := (hp u1 fL fD, c + 1, z + 6)) rfl rfl (Nat.le_of_ble_eq_true rfl) ((ev_W_rate_x1 hC).deep (by decide)) ?_
    refine mg_Ev.go 1 (pc' := 295) (loc' := [some (.ref 0), some (.ref 1), some (.ref 43), some (.ref 51), some (.ref 52), some (.int i), some (.int 2), none, none]) (st' := []) (w' := (hp u1 fL fD, c + 1, z + 6)) rfl ?_
    exact ev_opB_1 hb1 hb2 hM hT (fun q => absurd q (by decide)) hr
def Ob_1 (I : mg_Rg → Prop) : Prop := ∀ u, I u → ∀ p1 p2 : Int32, ∃ (t : Int32 ⊕ Nat) (u1 : mg_Rg) (b : Int32) (u2 : mg_Rg) (T : Int32), C_rate p1 p2 u = some (t, u1) ∧ M_rate p1 p2 u1 = some (b, u2) ∧ M_thrown u2 = some T ∧ ((∃ v, t = .inl v ∧ b = v ∧ T = 0) ∨ (t = .inr 0 ∧ T = 1) ∨ (t = .inr 1 ∧ T = 2)) ∧ I u2
theorem st_op_1 {sc : mg_Sc} {c z : Nat} {fL : Nat → Int64} {fD : Nat → UInt64} {i : Int32} {u : mg_Rg} {Q : mg_R → Prop} {I : mg_Rg → Prop} (O : Ob_1 I) (hu : I u) (hb1 : ¬ ((i + 1) < 0 ∨ sc.1 ≤ (i + 1).toNatClampNeg)) (hb2 : ¬ ((i + 2) < 0 ∨ sc.1 ≤ (i + 2).toNatClampNeg)) (K : ∀ u2 fL fD c1 z1, I u2 → c1 ≤ c + 1 → z1 ≤ z + 6 → ∃ r, mg_Ev sc 11 258 2448 [some (.ref 0), some (.ref 1), some (.ref 43), some (.ref 51), some (.ref 52), some (.int i), none, none, none] [] (hp u2 fL fD, c1, z1) r ∧ Q r) : ∃ r, mg_Ev sc 11 258 276 [some (.ref 0), some (.ref 1), some (.ref 43), some (.ref 51), some (.ref 52), some (.int i), none, none, none] [] (hp u fL fD, c, z) r ∧ Q r := by
  obtain ⟨t, u1, b, u2, T, hC, hM, hT, H, hI⟩ := O u hu (sc.2 (i + 1).toNatClampNeg) (sc.2 (i + 2).toNatClampNeg)
  exact ev_op_1 hb1 hb2 hC hM hT H (fun fL fD c1 z1 h1 h2 => K u2 fL fD c1 z1 hI h1 h2)
set_option maxRecDepth 10000 in
set_option maxHeartbeats 4000000 in
theorem ev_opB_2 {sc : mg_Sc} {c z : Nat} {fL : Nat → Int64} {fD : Nat → UInt64} {i T : Int32} {b : Int32} {u1 u2 : mg_Rg} {r : mg_R} (hb1 : ¬ ((i + 1) < 0 ∨ sc.1 ≤ (i + 1).toNatClampNeg)) (hb2 : ¬ ((i + 2) < 0 ∨ sc.1 ≤ (i + 2).toNatClampNeg)) (hM : M_told (sc.2 (i + 1).toNatClampNeg) (sc.2 (i + 2).toNatClampNeg) u1 = some (b, u2)) (hT : M_thrown u2 = some T) (hv : T = 0 → fL 0 = b.toInt64) (K : mg_Ev sc 11 258 2448 [some (.ref 0), some (.ref 1), some (.ref 43), some (.ref 51), some (.ref 52), some (.int i), none, none, none] [] (hp u2 fL fD, c, z) r) : mg_Ev sc 11 258 363 [some (.ref 0), some (.ref 1), some (.ref 43), some (.ref 51), some (.ref 52), some (.int i), some (.int T), none, none] [] (hp u1 fL fD, c, z) r := by
  refine mg_Ev.go 5 (pc' := 369) (loc' := [some (.ref 0), some (.ref 1), some (.ref 43), some (.ref 51), some (.ref 52), some (.int i), some (.int T), none, none]) (st' := [.int (i + 1), .ref 0, .ref 43]) (w' := (hp u1 fL fD, c, z)) rfl ?_
  refine mg_Ev.sld rfl hb1 ?_
  refine mg_Ev.go 4 (pc' := 375) (loc' := [some (.ref 0), some (.ref 1), some (.ref 43), some (.ref 51), some (.ref 52), some (.int i), some (.int T), none, none]) (st' := [.int (i + 2), .ref 0, .int (sc.2 (i + 1).toNatClampNeg), .ref 43]) (w' := (hp u1 fL fD, c, z)) rfl ?_
  refine mg_Ev.sld rfl hb2 ?_
  refine mg_Ev.call (y := 77) (as := [.ref 43, .int (sc.2 (i + 1).toNatClampNeg), .int (sc.2 (i + 2).toNatClampNeg)]) (rest := []) (v := some (.int b)) (w1 := (hp u2 fL fD, c, z)) rfl rfl (Nat.le_of_ble_eq_true rfl) ((ev_M_told hM).deep (by decide)) ?_
  refine mg_Ev.go 2 (pc' := 382) (loc' := [some (.ref 0), some (.ref 1), some (.ref 43), some (.ref 51), some (.ref 52), some (.int i), some (.int T), some (.int b), none]) (st' := [.ref 43]) (w' := (hp u2 fL fD, c, z)) rfl ?_
  refine mg_Ev.call (y := 57) (as := [.ref 43]) (rest := []) (v := some (.int T)) (w1 := (hp u2 fL fD, c, z)) rfl rfl (Nat.le_of_ble_eq_true rfl) ((ev_M_thrown hT).deep (by decide)) ?_
  refine mg_Ev.go 1 (pc' := 387) (loc' := [some (.ref 0), some (.ref 1), some (.ref 43), some (.ref 51), some (.ref 52), some (.int i), some (.int T), some (.int b), none]) (st' := [.int T, .int T]) (w' := (hp u2 fL fD, c, z)) rfl ?_
  refine mg_Ev.br (P := T = T) (t := 392) (nx := 390) (st' := []) rfl rfl rfl rfl (fun _ => ?_) (fun q => absurd rfl q)
  refine mg_Ev.go 1 (pc' := 394) (loc' := [some (.ref 0), some (.ref 1), some (.ref 43), some (.ref 51), some (.ref 52), some (.int i), some (.int T), some (.int b), none]) (st' := [.int T]) (w' := (hp u2 fL fD, c, z)) rfl ?_
  refine mg_Ev.br (P := T = 0) (t := 397) (nx := 409) (st' := []) rfl rfl rfl rfl (fun h0 => ?_) (fun _ => ?_)
  · have h1 := hv h0
    refine mg_Ev.go 2 (pc' := 399) (loc' := [some (.ref 0), some (.ref 1), some (.ref 43), some (.ref 51), some (.ref 52), some (.int i), some (.int T), some (.int b), none]) (st' := [.int 0, .ref 51]) (w' := (hp u2 fL fD, c, z)) rfl ?_
    refine mg_Ev.lald (a := 50) (n := 1) (f := fL) (j := 0) rfl (hpg_50 _ _ _) (by decide) (by decide) ?_
    rw [h1]
    refine mg_Ev.go 3 (pc' := 404) (loc' := [some (.ref 0), some (.ref 1), some (.ref 43), some (.ref 51), some (.ref 52), some (.int i), some (.int T), some (.int b), none]) (st' := [.int (lg_cmp b.toInt64 b.toInt64)]) (w' := (hp u2 fL fD, c, z)) rfl ?_
    refine mg_Ev.br (P := lg_cmp b.toInt64 b.toInt64 = 0) (t := 409) (nx := 407) (st' := []) rfl rfl rfl rfl (fun _ => ?_) (fun q => absurd (mg_lcmp _) q)
    refine mg_Ev.go 1 (pc' := 2448) (loc' := [some (.ref 0), some (.ref 1), some (.ref 43), some (.ref 51), some (.ref 52), some (.int i), some (.int T), some (.int b), none]) (st' := []) (w' := (hp u2 fL fD, c, z)) rfl ?_
    exact mg_Ev.more K ⟨rfl, ⟨rfl, ⟨rfl, ⟨rfl, ⟨rfl, ⟨rfl, trivial⟩⟩⟩⟩⟩⟩
  · refine mg_Ev.go 1 (pc' := 2448) (loc' := [some (.ref 0), some (.ref 1), some (.ref 43), some (.ref 51), some (.ref 52), some (.int i), some (.int T), some (.int b), none]) (st' := []) (w' := (hp u2 fL fD, c, z)) rfl ?_
    exact mg_Ev.more K ⟨rfl, ⟨rfl, ⟨rfl, ⟨rfl, ⟨rfl, ⟨rfl, trivial⟩⟩⟩⟩⟩⟩
set_option maxRecDepth 10000 in
set_option maxHeartbeats 4000000 in
theorem ev_op_2 {sc : mg_Sc} {c z : Nat} {fL : Nat → Int64} {fD : Nat → UInt64} {i T : Int32} {b : Int32} {t : Int32 ⊕ Nat} {u u1 u2 : mg_Rg} {Q : mg_R → Prop} (hb1 : ¬ ((i + 1) < 0 ∨ sc.1 ≤ (i + 1).toNatClampNeg)) (hb2 : ¬ ((i + 2) < 0 ∨ sc.1 ≤ (i + 2).toNatClampNeg)) (hC : C_told (sc.2 (i + 1).toNatClampNeg) (sc.2 (i + 2).toNatClampNeg) u = some (t, u1)) (hM : M_told (sc.2 (i + 1).toNatClampNeg) (sc.2 (i + 2).toNatClampNeg) u1 = some (b, u2)) (hT : M_thrown u2 = some T) (H : (∃ v, t = .inl v ∧ b = v ∧ T = 0) ∨ (t = .inr 0 ∧ T = 1) ∨ (t = .inr 1 ∧ T = 2)) (K : ∀ fL fD c1 z1, c1 ≤ c + 1 → z1 ≤ z + 6 → ∃ r, mg_Ev sc 11 258 2448 [some (.ref 0), some (.ref 1), some (.ref 43), some (.ref 51), some (.ref 52), some (.int i), none, none, none] [] (hp u2 fL fD, c1, z1) r ∧ Q r) : ∃ r, mg_Ev sc 11 258 344 [some (.ref 0), some (.ref 1), some (.ref 43), some (.ref 51), some (.ref 52), some (.int i), none, none, none] [] (hp u fL fD, c, z) r ∧ Q r := by
  rcases H with ⟨v, rfl, rfl, rfl⟩ | ⟨rfl, rfl⟩ | ⟨rfl, rfl⟩
  · obtain ⟨r, hr, hQ⟩ := K (vp_updL fL 0 b.toInt64) fD c z (Nat.le_succ _) (Nat.le_add_right _ _)
    refine ⟨r, ?_, hQ⟩
    refine mg_Ev.go 5 (pc' := 350) (loc' := [some (.ref 0), some (.ref 1), some (.ref 43), some (.ref 51), some (.ref 52), some (.int i), none, none, none]) (st' := [.int (i + 1), .ref 0, .ref 1]) (w' := (hp u fL fD, c, z)) rfl ?_
    refine mg_Ev.sld rfl hb1 ?_
    refine mg_Ev.go 4 (pc' := 356) (loc' := [some (.ref 0), some (.ref 1), some (.ref 43), some (.ref 51), some (.ref 52), some (.int i), none, none, none]) (st' := [.int (i + 2), .ref 0, .int (sc.2 (i + 1).toNatClampNeg), .ref 1]) (w' := (hp u fL fD, c, z)) rfl ?_
    refine mg_Ev.sld rfl hb2 ?_
    refine mg_Ev.go 1 (pc' := 358) (loc' := [some (.ref 0), some (.ref 1), some (.ref 43), some (.ref 51), some (.ref 52), some (.int i), none, none, none]) (st' := [.ref 51, .int (sc.2 (i + 2).toNatClampNeg), .int (sc.2 (i + 1).toNatClampNeg), .ref 1]) (w' := (hp u fL fD, c, z)) rfl ?_
    refine mg_Ev.call (y := 226) (as := [.ref 1, .int (sc.2 (i + 1).toNatClampNeg), .int (sc.2 (i + 2).toNatClampNeg), .ref 51]) (rest := []) (v := some (.int 0)) (w1 := (hp u1 (vp_updL fL 0 b.toInt64) fD, c, z)) rfl rfl (Nat.le_of_ble_eq_true rfl) ((ev_W_told_ok hC).deep (by decide)) ?_
    refine mg_Ev.go 1 (pc' := 363) (loc' := [some (.ref 0), some (.ref 1), some (.ref 43), some (.ref 51), some (.ref 52), some (.int i), some (.int 0), none, none]) (st' := []) (w' := (hp u1 (vp_updL fL 0 b.toInt64) fD, c, z)) rfl ?_
    exact ev_opB_2 hb1 hb2 hM hT (fun _ => rfl) hr
  · obtain ⟨r, hr, hQ⟩ := K fL fD (c + 1) (z + 6) (Nat.le_refl _) (Nat.le_refl _)
    refine ⟨r, ?_, hQ⟩
    refine mg_Ev.go 5 (pc' := 350) (loc' := [some (.ref 0), some (.ref 1), some (.ref 43), some (.ref 51), some (.ref 52), some (.int i), none, none, none]) (st' := [.int (i + 1), .ref 0, .ref 1]) (w' := (hp u fL fD, c, z)) rfl ?_
    refine mg_Ev.sld rfl hb1 ?_
    refine mg_Ev.go 4 (pc' := 356) (loc' := [some (.ref 0), some (.ref 1), some (.ref 43), some (.ref 51), some (.ref 52), some (.int i), none, none, none]) (st' := [.int (i + 2), .ref 0, .int (sc.2 (i + 1).toNatClampNeg), .ref 1]) (w' := (hp u fL fD, c, z)) rfl ?_
    refine mg_Ev.sld rfl hb2 ?_
    refine mg_Ev.go 1 (pc' := 358) (loc' := [some (.ref 0), some (.ref 1), some (.ref 43), some (.ref 51), some (.ref 52), some (.int i), none, none, none]) (st' := [.ref 51, .int (sc.2 (i + 2).toNatClampNeg), .int (sc.2 (i + 1).toNatClampNeg), .ref 1]) (w' := (hp u fL fD, c, z)) rfl ?_
    refine mg_Ev.call (y := 226) (as := [.ref 1, .int (sc.2 (i + 1).toNatClampNeg), .int (sc.2 (i + 2).toNatClampNeg), .ref 51]) (rest := []) (v := some (.int 1)) (w1 := (hp u1 fL fD, c + 1, z + 6)) rfl rfl (Nat.le_of_ble_eq_true rfl) ((ev_W_told_x0 hC).deep (by decide)) ?_
    refine mg_Ev.go 1 (pc' := 363) (loc' := [some (.ref 0), some (.ref 1), some (.ref 43), some (.ref 51), some (.ref 52), some (.int i), some (.int 1), none, none]) (st' := []) (w' := (hp u1 fL fD, c + 1, z + 6)) rfl ?_
    exact ev_opB_2 hb1 hb2 hM hT (fun q => absurd q (by decide)) hr
  · obtain ⟨r, hr, hQ⟩ := K fL fD (c + 1) (z + 6) (Nat.le_refl _) (Nat.le_refl _)
    refine ⟨r, ?_, hQ⟩
    refine mg_Ev.go 5 (pc' := 350) (loc' := [some (.ref 0), some (.ref 1), some (.ref 43), some (.ref 51), some (.ref 52), some (.int i), none, none, none]) (st' := [.int (i + 1), .ref 0, .ref 1]) (w' := (hp u fL fD, c, z)) rfl ?_
    refine mg_Ev.sld rfl hb1 ?_
    refine mg_Ev.go 4 (pc' := 356) (loc' := [some (.ref 0), some (.ref 1), some (.ref 43), some (.ref 51), some (.ref 52), some (.int i), none, none, none]) (st' := [.int (i + 2), .ref 0, .int (sc.2 (i + 1).toNatClampNeg), .ref 1]) (w' := (hp u fL fD, c, z)) rfl ?_
    refine mg_Ev.sld rfl hb2 ?_
    refine mg_Ev.go 1 (pc' := 358) (loc' := [some (.ref 0), some (.ref 1), some (.ref 43), some (.ref 51), some (.ref 52), some (.int i), none, none, none]) (st' := [.ref 51, .int (sc.2 (i + 2).toNatClampNeg), .int (sc.2 (i + 1).toNatClampNeg), .ref 1]) (w' := (hp u fL fD, c, z)) rfl ?_
    refine mg_Ev.call (y := 226) (as := [.ref 1, .int (sc.2 (i + 1).toNatClampNeg), .int (sc.2 (i + 2).toNatClampNeg), .ref 51]) (rest := []) (v := some (.int 2)) (w1 := (hp u1 fL fD, c + 1, z + 6)) rfl rfl (Nat.le_of_ble_eq_true rfl) ((ev_W_told_x1 hC).deep (by decide)) ?_
    refine mg_Ev.go 1 (pc' := 363) (loc' := [some (.ref 0), some (.ref 1), some (.ref 43), some (.ref 51), some (.ref 52), some (.int i), some (.int 2), none, none]) (st' := []) (w' := (hp u1 fL fD, c + 1, z + 6)) rfl ?_
    exact ev_opB_2 hb1 hb2 hM hT (fun q => absurd q (by decide)) hr
def Ob_2 (I : mg_Rg → Prop) : Prop := ∀ u, I u → ∀ p1 p2 : Int32, ∃ (t : Int32 ⊕ Nat) (u1 : mg_Rg) (b : Int32) (u2 : mg_Rg) (T : Int32), C_told p1 p2 u = some (t, u1) ∧ M_told p1 p2 u1 = some (b, u2) ∧ M_thrown u2 = some T ∧ ((∃ v, t = .inl v ∧ b = v ∧ T = 0) ∨ (t = .inr 0 ∧ T = 1) ∨ (t = .inr 1 ∧ T = 2)) ∧ I u2
theorem st_op_2 {sc : mg_Sc} {c z : Nat} {fL : Nat → Int64} {fD : Nat → UInt64} {i : Int32} {u : mg_Rg} {Q : mg_R → Prop} {I : mg_Rg → Prop} (O : Ob_2 I) (hu : I u) (hb1 : ¬ ((i + 1) < 0 ∨ sc.1 ≤ (i + 1).toNatClampNeg)) (hb2 : ¬ ((i + 2) < 0 ∨ sc.1 ≤ (i + 2).toNatClampNeg)) (K : ∀ u2 fL fD c1 z1, I u2 → c1 ≤ c + 1 → z1 ≤ z + 6 → ∃ r, mg_Ev sc 11 258 2448 [some (.ref 0), some (.ref 1), some (.ref 43), some (.ref 51), some (.ref 52), some (.int i), none, none, none] [] (hp u2 fL fD, c1, z1) r ∧ Q r) : ∃ r, mg_Ev sc 11 258 344 [some (.ref 0), some (.ref 1), some (.ref 43), some (.ref 51), some (.ref 52), some (.int i), none, none, none] [] (hp u fL fD, c, z) r ∧ Q r := by
  obtain ⟨t, u1, b, u2, T, hC, hM, hT, H, hI⟩ := O u hu (sc.2 (i + 1).toNatClampNeg) (sc.2 (i + 2).toNatClampNeg)
  exact ev_op_2 hb1 hb2 hC hM hT H (fun fL fD c1 z1 h1 h2 => K u2 fL fD c1 z1 hI h1 h2)
set_option maxRecDepth 10000 in
set_option maxHeartbeats 4000000 in
theorem ev_opB_3 {sc : mg_Sc} {c z : Nat} {fL : Nat → Int64} {fD : Nat → UInt64} {i T : Int32} {b : Int32} {u1 u2 : mg_Rg} {r : mg_R} (hb1 : ¬ ((i + 1) < 0 ∨ sc.1 ≤ (i + 1).toNatClampNeg)) (hM : M_find (sc.2 (i + 1).toNatClampNeg) u1 = some (b, u2)) (hT : M_thrown u2 = some T) (hv : T = 0 → fL 0 = b.toInt64) (K : mg_Ev sc 11 258 2448 [some (.ref 0), some (.ref 1), some (.ref 43), some (.ref 51), some (.ref 52), some (.int i), none, none, none] [] (hp u2 fL fD, c, z) r) : mg_Ev sc 11 258 425 [some (.ref 0), some (.ref 1), some (.ref 43), some (.ref 51), some (.ref 52), some (.int i), some (.int T), none, none] [] (hp u1 fL fD, c, z) r := by
  refine mg_Ev.go 5 (pc' := 431) (loc' := [some (.ref 0), some (.ref 1), some (.ref 43), some (.ref 51), some (.ref 52), some (.int i), some (.int T), none, none]) (st' := [.int (i + 1), .ref 0, .ref 43]) (w' := (hp u1 fL fD, c, z)) rfl ?_
  refine mg_Ev.sld rfl hb1 ?_
  refine mg_Ev.call (y := 78) (as := [.ref 43, .int (sc.2 (i + 1).toNatClampNeg)]) (rest := []) (v := some (.int b)) (w1 := (hp u2 fL fD, c, z)) rfl rfl (Nat.le_of_ble_eq_true rfl) ((ev_M_find hM).deep (by decide)) ?_
  refine mg_Ev.go 2 (pc' := 438) (loc' := [some (.ref 0), some (.ref 1), some (.ref 43), some (.ref 51), some (.ref 52), some (.int i), some (.int T), some (.int b), none]) (st' := [.ref 43]) (w' := (hp u2 fL fD, c, z)) rfl ?_
  refine mg_Ev.call (y := 57) (as := [.ref 43]) (rest := []) (v := some (.int T)) (w1 := (hp u2 fL fD, c, z)) rfl rfl (Nat.le_of_ble_eq_true rfl) ((ev_M_thrown hT).deep (by decide)) ?_
  refine mg_Ev.go 1 (pc' := 443) (loc' := [some (.ref 0), some (.ref 1), some (.ref 43), some (.ref 51), some (.ref 52), some (.int i), some (.int T), some (.int b), none]) (st' := [.int T, .int T]) (w' := (hp u2 fL fD, c, z)) rfl ?_
  refine mg_Ev.br (P := T = T) (t := 448) (nx := 446) (st' := []) rfl rfl rfl rfl (fun _ => ?_) (fun q => absurd rfl q)
  refine mg_Ev.go 1 (pc' := 450) (loc' := [some (.ref 0), some (.ref 1), some (.ref 43), some (.ref 51), some (.ref 52), some (.int i), some (.int T), some (.int b), none]) (st' := [.int T]) (w' := (hp u2 fL fD, c, z)) rfl ?_
  refine mg_Ev.br (P := T = 0) (t := 453) (nx := 465) (st' := []) rfl rfl rfl rfl (fun h0 => ?_) (fun _ => ?_)
  · have h1 := hv h0
    refine mg_Ev.go 2 (pc' := 455) (loc' := [some (.ref 0), some (.ref 1), some (.ref 43), some (.ref 51), some (.ref 52), some (.int i), some (.int T), some (.int b), none]) (st' := [.int 0, .ref 51]) (w' := (hp u2 fL fD, c, z)) rfl ?_
    refine mg_Ev.lald (a := 50) (n := 1) (f := fL) (j := 0) rfl (hpg_50 _ _ _) (by decide) (by decide) ?_
    rw [h1]
    refine mg_Ev.go 3 (pc' := 460) (loc' := [some (.ref 0), some (.ref 1), some (.ref 43), some (.ref 51), some (.ref 52), some (.int i), some (.int T), some (.int b), none]) (st' := [.int (lg_cmp b.toInt64 b.toInt64)]) (w' := (hp u2 fL fD, c, z)) rfl ?_
    refine mg_Ev.br (P := lg_cmp b.toInt64 b.toInt64 = 0) (t := 465) (nx := 463) (st' := []) rfl rfl rfl rfl (fun _ => ?_) (fun q => absurd (mg_lcmp _) q)
    refine mg_Ev.go 1 (pc' := 2448) (loc' := [some (.ref 0), some (.ref 1), some (.ref 43), some (.ref 51), some (.ref 52), some (.int i), some (.int T), some (.int b), none]) (st' := []) (w' := (hp u2 fL fD, c, z)) rfl ?_
    exact mg_Ev.more K ⟨rfl, ⟨rfl, ⟨rfl, ⟨rfl, ⟨rfl, ⟨rfl, trivial⟩⟩⟩⟩⟩⟩
  · refine mg_Ev.go 1 (pc' := 2448) (loc' := [some (.ref 0), some (.ref 1), some (.ref 43), some (.ref 51), some (.ref 52), some (.int i), some (.int T), some (.int b), none]) (st' := []) (w' := (hp u2 fL fD, c, z)) rfl ?_
    exact mg_Ev.more K ⟨rfl, ⟨rfl, ⟨rfl, ⟨rfl, ⟨rfl, ⟨rfl, trivial⟩⟩⟩⟩⟩⟩
set_option maxRecDepth 10000 in
set_option maxHeartbeats 4000000 in
theorem ev_op_3 {sc : mg_Sc} {c z : Nat} {fL : Nat → Int64} {fD : Nat → UInt64} {i T : Int32} {b : Int32} {t : Int32 ⊕ Nat} {u u1 u2 : mg_Rg} {Q : mg_R → Prop} (hb1 : ¬ ((i + 1) < 0 ∨ sc.1 ≤ (i + 1).toNatClampNeg)) (hC : C_find (sc.2 (i + 1).toNatClampNeg) u = some (t, u1)) (hM : M_find (sc.2 (i + 1).toNatClampNeg) u1 = some (b, u2)) (hT : M_thrown u2 = some T) (H : (∃ v, t = .inl v ∧ b = v ∧ T = 0) ∨ (t = .inr 3 ∧ T = 1)) (K : ∀ fL fD c1 z1, c1 ≤ c + 1 → z1 ≤ z + 6 → ∃ r, mg_Ev sc 11 258 2448 [some (.ref 0), some (.ref 1), some (.ref 43), some (.ref 51), some (.ref 52), some (.int i), none, none, none] [] (hp u2 fL fD, c1, z1) r ∧ Q r) : ∃ r, mg_Ev sc 11 258 412 [some (.ref 0), some (.ref 1), some (.ref 43), some (.ref 51), some (.ref 52), some (.int i), none, none, none] [] (hp u fL fD, c, z) r ∧ Q r := by
  rcases H with ⟨v, rfl, rfl, rfl⟩ | ⟨rfl, rfl⟩
  · obtain ⟨r, hr, hQ⟩ := K (vp_updL fL 0 b.toInt64) fD c z (Nat.le_succ _) (Nat.le_add_right _ _)
    refine ⟨r, ?_, hQ⟩
    refine mg_Ev.go 5 (pc' := 418) (loc' := [some (.ref 0), some (.ref 1), some (.ref 43), some (.ref 51), some (.ref 52), some (.int i), none, none, none]) (st' := [.int (i + 1), .ref 0, .ref 1]) (w' := (hp u fL fD, c, z)) rfl ?_
    refine mg_Ev.sld rfl hb1 ?_
    refine mg_Ev.go 1 (pc' := 420) (loc' := [some (.ref 0), some (.ref 1), some (.ref 43), some (.ref 51), some (.ref 52), some (.int i), none, none, none]) (st' := [.ref 51, .int (sc.2 (i + 1).toNatClampNeg), .ref 1]) (w' := (hp u fL fD, c, z)) rfl ?_
    refine mg_Ev.call (y := 227) (as := [.ref 1, .int (sc.2 (i + 1).toNatClampNeg), .ref 51]) (rest := []) (v := some (.int 0)) (w1 := (hp u1 (vp_updL fL 0 b.toInt64) fD, c, z)) rfl rfl (Nat.le_of_ble_eq_true rfl) ((ev_W_find_ok hC).deep (by decide)) ?_
    refine mg_Ev.go 1 (pc' := 425) (loc' := [some (.ref 0), some (.ref 1), some (.ref 43), some (.ref 51), some (.ref 52), some (.int i), some (.int 0), none, none]) (st' := []) (w' := (hp u1 (vp_updL fL 0 b.toInt64) fD, c, z)) rfl ?_
    exact ev_opB_3 hb1 hM hT (fun _ => rfl) hr
  · obtain ⟨r, hr, hQ⟩ := K fL fD (c + 1) (z + 6) (Nat.le_refl _) (Nat.le_refl _)
    refine ⟨r, ?_, hQ⟩
    refine mg_Ev.go 5 (pc' := 418) (loc' := [some (.ref 0), some (.ref 1), some (.ref 43), some (.ref 51), some (.ref 52), some (.int i), none, none, none]) (st' := [.int (i + 1), .ref 0, .ref 1]) (w' := (hp u fL fD, c, z)) rfl ?_
    refine mg_Ev.sld rfl hb1 ?_
    refine mg_Ev.go 1 (pc' := 420) (loc' := [some (.ref 0), some (.ref 1), some (.ref 43), some (.ref 51), some (.ref 52), some (.int i), none, none, none]) (st' := [.ref 51, .int (sc.2 (i + 1).toNatClampNeg), .ref 1]) (w' := (hp u fL fD, c, z)) rfl ?_
    refine mg_Ev.call (y := 227) (as := [.ref 1, .int (sc.2 (i + 1).toNatClampNeg), .ref 51]) (rest := []) (v := some (.int 1)) (w1 := (hp u1 fL fD, c + 1, z + 6)) rfl rfl (Nat.le_of_ble_eq_true rfl) ((ev_W_find_x3 hC).deep (by decide)) ?_
    refine mg_Ev.go 1 (pc' := 425) (loc' := [some (.ref 0), some (.ref 1), some (.ref 43), some (.ref 51), some (.ref 52), some (.int i), some (.int 1), none, none]) (st' := []) (w' := (hp u1 fL fD, c + 1, z + 6)) rfl ?_
    exact ev_opB_3 hb1 hM hT (fun q => absurd q (by decide)) hr
def Ob_3 (I : mg_Rg → Prop) : Prop := ∀ u, I u → ∀ p1 : Int32, ∃ (t : Int32 ⊕ Nat) (u1 : mg_Rg) (b : Int32) (u2 : mg_Rg) (T : Int32), C_find p1 u = some (t, u1) ∧ M_find p1 u1 = some (b, u2) ∧ M_thrown u2 = some T ∧ ((∃ v, t = .inl v ∧ b = v ∧ T = 0) ∨ (t = .inr 3 ∧ T = 1)) ∧ I u2
theorem st_op_3 {sc : mg_Sc} {c z : Nat} {fL : Nat → Int64} {fD : Nat → UInt64} {i : Int32} {u : mg_Rg} {Q : mg_R → Prop} {I : mg_Rg → Prop} (O : Ob_3 I) (hu : I u) (hb1 : ¬ ((i + 1) < 0 ∨ sc.1 ≤ (i + 1).toNatClampNeg)) (K : ∀ u2 fL fD c1 z1, I u2 → c1 ≤ c + 1 → z1 ≤ z + 6 → ∃ r, mg_Ev sc 11 258 2448 [some (.ref 0), some (.ref 1), some (.ref 43), some (.ref 51), some (.ref 52), some (.int i), none, none, none] [] (hp u2 fL fD, c1, z1) r ∧ Q r) : ∃ r, mg_Ev sc 11 258 412 [some (.ref 0), some (.ref 1), some (.ref 43), some (.ref 51), some (.ref 52), some (.int i), none, none, none] [] (hp u fL fD, c, z) r ∧ Q r := by
  obtain ⟨t, u1, b, u2, T, hC, hM, hT, H, hI⟩ := O u hu (sc.2 (i + 1).toNatClampNeg)
  exact ev_op_3 hb1 hC hM hT H (fun fL fD c1 z1 h1 h2 => K u2 fL fD c1 z1 hI h1 h2)
set_option maxRecDepth 10000 in
set_option maxHeartbeats 4000000 in
theorem ev_opB_4 {sc : mg_Sc} {c z : Nat} {fL : Nat → Int64} {fD : Nat → UInt64} {i T : Int32} {b : Int32} {u1 u2 : mg_Rg} {r : mg_R} (hb1 : ¬ ((i + 1) < 0 ∨ sc.1 ≤ (i + 1).toNatClampNeg)) (hb2 : ¬ ((i + 2) < 0 ∨ sc.1 ≤ (i + 2).toNatClampNeg)) (hb3 : ¬ ((i + 3) < 0 ∨ sc.1 ≤ (i + 3).toNatClampNeg)) (hb4 : ¬ ((i + 4) < 0 ∨ sc.1 ≤ (i + 4).toNatClampNeg)) (hM : M_prefer (sc.2 (i + 1).toNatClampNeg) (sc.2 (i + 2).toNatClampNeg) (sc.2 (i + 3).toNatClampNeg) (sc.2 (i + 4).toNatClampNeg) u1 = some (b, u2)) (hT : M_thrown u2 = some T) (hv : T = 0 → fL 0 = b.toInt64) (K : mg_Ev sc 11 258 2448 [some (.ref 0), some (.ref 1), some (.ref 43), some (.ref 51), some (.ref 52), some (.int i), none, none, none] [] (hp u2 fL fD, c, z) r) : mg_Ev sc 11 258 499 [some (.ref 0), some (.ref 1), some (.ref 43), some (.ref 51), some (.ref 52), some (.int i), some (.int T), none, none] [] (hp u1 fL fD, c, z) r := by
  refine mg_Ev.go 5 (pc' := 505) (loc' := [some (.ref 0), some (.ref 1), some (.ref 43), some (.ref 51), some (.ref 52), some (.int i), some (.int T), none, none]) (st' := [.int (i + 1), .ref 0, .ref 43]) (w' := (hp u1 fL fD, c, z)) rfl ?_
  refine mg_Ev.sld rfl hb1 ?_
  refine mg_Ev.go 4 (pc' := 511) (loc' := [some (.ref 0), some (.ref 1), some (.ref 43), some (.ref 51), some (.ref 52), some (.int i), some (.int T), none, none]) (st' := [.int (i + 2), .ref 0, .int (sc.2 (i + 1).toNatClampNeg), .ref 43]) (w' := (hp u1 fL fD, c, z)) rfl ?_
  refine mg_Ev.sld rfl hb2 ?_
  refine mg_Ev.go 4 (pc' := 517) (loc' := [some (.ref 0), some (.ref 1), some (.ref 43), some (.ref 51), some (.ref 52), some (.int i), some (.int T), none, none]) (st' := [.int (i + 3), .ref 0, .int (sc.2 (i + 2).toNatClampNeg), .int (sc.2 (i + 1).toNatClampNeg), .ref 43]) (w' := (hp u1 fL fD, c, z)) rfl ?_
  refine mg_Ev.sld rfl hb3 ?_
  refine mg_Ev.go 4 (pc' := 523) (loc' := [some (.ref 0), some (.ref 1), some (.ref 43), some (.ref 51), some (.ref 52), some (.int i), some (.int T), none, none]) (st' := [.int (i + 4), .ref 0, .int (sc.2 (i + 3).toNatClampNeg), .int (sc.2 (i + 2).toNatClampNeg), .int (sc.2 (i + 1).toNatClampNeg), .ref 43]) (w' := (hp u1 fL fD, c, z)) rfl ?_
  refine mg_Ev.sld rfl hb4 ?_
  refine mg_Ev.call (y := 79) (as := [.ref 43, .int (sc.2 (i + 1).toNatClampNeg), .int (sc.2 (i + 2).toNatClampNeg), .int (sc.2 (i + 3).toNatClampNeg), .int (sc.2 (i + 4).toNatClampNeg)]) (rest := []) (v := some (.int b)) (w1 := (hp u2 fL fD, c, z)) rfl rfl (Nat.le_of_ble_eq_true rfl) ((ev_M_prefer hM).deep (by decide)) ?_
  refine mg_Ev.go 2 (pc' := 530) (loc' := [some (.ref 0), some (.ref 1), some (.ref 43), some (.ref 51), some (.ref 52), some (.int i), some (.int T), some (.int b), none]) (st' := [.ref 43]) (w' := (hp u2 fL fD, c, z)) rfl ?_
  refine mg_Ev.call (y := 57) (as := [.ref 43]) (rest := []) (v := some (.int T)) (w1 := (hp u2 fL fD, c, z)) rfl rfl (Nat.le_of_ble_eq_true rfl) ((ev_M_thrown hT).deep (by decide)) ?_
  refine mg_Ev.go 1 (pc' := 535) (loc' := [some (.ref 0), some (.ref 1), some (.ref 43), some (.ref 51), some (.ref 52), some (.int i), some (.int T), some (.int b), none]) (st' := [.int T, .int T]) (w' := (hp u2 fL fD, c, z)) rfl ?_
  refine mg_Ev.br (P := T = T) (t := 540) (nx := 538) (st' := []) rfl rfl rfl rfl (fun _ => ?_) (fun q => absurd rfl q)
  refine mg_Ev.go 1 (pc' := 542) (loc' := [some (.ref 0), some (.ref 1), some (.ref 43), some (.ref 51), some (.ref 52), some (.int i), some (.int T), some (.int b), none]) (st' := [.int T]) (w' := (hp u2 fL fD, c, z)) rfl ?_
  refine mg_Ev.br (P := T = 0) (t := 545) (nx := 557) (st' := []) rfl rfl rfl rfl (fun h0 => ?_) (fun _ => ?_)
  · have h1 := hv h0
    refine mg_Ev.go 2 (pc' := 547) (loc' := [some (.ref 0), some (.ref 1), some (.ref 43), some (.ref 51), some (.ref 52), some (.int i), some (.int T), some (.int b), none]) (st' := [.int 0, .ref 51]) (w' := (hp u2 fL fD, c, z)) rfl ?_
    refine mg_Ev.lald (a := 50) (n := 1) (f := fL) (j := 0) rfl (hpg_50 _ _ _) (by decide) (by decide) ?_
    rw [h1]
    refine mg_Ev.go 3 (pc' := 552) (loc' := [some (.ref 0), some (.ref 1), some (.ref 43), some (.ref 51), some (.ref 52), some (.int i), some (.int T), some (.int b), none]) (st' := [.int (lg_cmp b.toInt64 b.toInt64)]) (w' := (hp u2 fL fD, c, z)) rfl ?_
    refine mg_Ev.br (P := lg_cmp b.toInt64 b.toInt64 = 0) (t := 557) (nx := 555) (st' := []) rfl rfl rfl rfl (fun _ => ?_) (fun q => absurd (mg_lcmp _) q)
    refine mg_Ev.go 1 (pc' := 2448) (loc' := [some (.ref 0), some (.ref 1), some (.ref 43), some (.ref 51), some (.ref 52), some (.int i), some (.int T), some (.int b), none]) (st' := []) (w' := (hp u2 fL fD, c, z)) rfl ?_
    exact mg_Ev.more K ⟨rfl, ⟨rfl, ⟨rfl, ⟨rfl, ⟨rfl, ⟨rfl, trivial⟩⟩⟩⟩⟩⟩
  · refine mg_Ev.go 1 (pc' := 2448) (loc' := [some (.ref 0), some (.ref 1), some (.ref 43), some (.ref 51), some (.ref 52), some (.int i), some (.int T), some (.int b), none]) (st' := []) (w' := (hp u2 fL fD, c, z)) rfl ?_
    exact mg_Ev.more K ⟨rfl, ⟨rfl, ⟨rfl, ⟨rfl, ⟨rfl, ⟨rfl, trivial⟩⟩⟩⟩⟩⟩
set_option maxRecDepth 10000 in
set_option maxHeartbeats 4000000 in
theorem ev_op_4 {sc : mg_Sc} {c z : Nat} {fL : Nat → Int64} {fD : Nat → UInt64} {i T : Int32} {b : Int32} {t : Int32 ⊕ Nat} {u u1 u2 : mg_Rg} {Q : mg_R → Prop} (hb1 : ¬ ((i + 1) < 0 ∨ sc.1 ≤ (i + 1).toNatClampNeg)) (hb2 : ¬ ((i + 2) < 0 ∨ sc.1 ≤ (i + 2).toNatClampNeg)) (hb3 : ¬ ((i + 3) < 0 ∨ sc.1 ≤ (i + 3).toNatClampNeg)) (hb4 : ¬ ((i + 4) < 0 ∨ sc.1 ≤ (i + 4).toNatClampNeg)) (hC : C_prefer (sc.2 (i + 1).toNatClampNeg) (sc.2 (i + 2).toNatClampNeg) (sc.2 (i + 3).toNatClampNeg) (sc.2 (i + 4).toNatClampNeg) u = some (t, u1)) (hM : M_prefer (sc.2 (i + 1).toNatClampNeg) (sc.2 (i + 2).toNatClampNeg) (sc.2 (i + 3).toNatClampNeg) (sc.2 (i + 4).toNatClampNeg) u1 = some (b, u2)) (hT : M_thrown u2 = some T) (H : (∃ v, t = .inl v ∧ b = v ∧ T = 0) ∨ (t = .inr 0 ∧ T = 1) ∨ (t = .inr 1 ∧ T = 2) ∨ (t = .inr 2 ∧ T = 3)) (K : ∀ fL fD c1 z1, c1 ≤ c + 1 → z1 ≤ z + 6 → ∃ r, mg_Ev sc 11 258 2448 [some (.ref 0), some (.ref 1), some (.ref 43), some (.ref 51), some (.ref 52), some (.int i), none, none, none] [] (hp u2 fL fD, c1, z1) r ∧ Q r) : ∃ r, mg_Ev sc 11 258 468 [some (.ref 0), some (.ref 1), some (.ref 43), some (.ref 51), some (.ref 52), some (.int i), none, none, none] [] (hp u fL fD, c, z) r ∧ Q r := by
  rcases H with ⟨v, rfl, rfl, rfl⟩ | ⟨rfl, rfl⟩ | ⟨rfl, rfl⟩ | ⟨rfl, rfl⟩
  · obtain ⟨r, hr, hQ⟩ := K (vp_updL fL 0 b.toInt64) fD c z (Nat.le_succ _) (Nat.le_add_right _ _)
    refine ⟨r, ?_, hQ⟩
    refine mg_Ev.go 5 (pc' := 474) (loc' := [some (.ref 0), some (.ref 1), some (.ref 43), some (.ref 51), some (.ref 52), some (.int i), none, none, none]) (st' := [.int (i + 1), .ref 0, .ref 1]) (w' := (hp u fL fD, c, z)) rfl ?_
    refine mg_Ev.sld rfl hb1 ?_
    refine mg_Ev.go 4 (pc' := 480) (loc' := [some (.ref 0), some (.ref 1), some (.ref 43), some (.ref 51), some (.ref 52), some (.int i), none, none, none]) (st' := [.int (i + 2), .ref 0, .int (sc.2 (i + 1).toNatClampNeg), .ref 1]) (w' := (hp u fL fD, c, z)) rfl ?_
    refine mg_Ev.sld rfl hb2 ?_
    refine mg_Ev.go 4 (pc' := 486) (loc' := [some (.ref 0), some (.ref 1), some (.ref 43), some (.ref 51), some (.ref 52), some (.int i), none, none, none]) (st' := [.int (i + 3), .ref 0, .int (sc.2 (i + 2).toNatClampNeg), .int (sc.2 (i + 1).toNatClampNeg), .ref 1]) (w' := (hp u fL fD, c, z)) rfl ?_
    refine mg_Ev.sld rfl hb3 ?_
    refine mg_Ev.go 4 (pc' := 492) (loc' := [some (.ref 0), some (.ref 1), some (.ref 43), some (.ref 51), some (.ref 52), some (.int i), none, none, none]) (st' := [.int (i + 4), .ref 0, .int (sc.2 (i + 3).toNatClampNeg), .int (sc.2 (i + 2).toNatClampNeg), .int (sc.2 (i + 1).toNatClampNeg), .ref 1]) (w' := (hp u fL fD, c, z)) rfl ?_
    refine mg_Ev.sld rfl hb4 ?_
    refine mg_Ev.go 1 (pc' := 494) (loc' := [some (.ref 0), some (.ref 1), some (.ref 43), some (.ref 51), some (.ref 52), some (.int i), none, none, none]) (st' := [.ref 51, .int (sc.2 (i + 4).toNatClampNeg), .int (sc.2 (i + 3).toNatClampNeg), .int (sc.2 (i + 2).toNatClampNeg), .int (sc.2 (i + 1).toNatClampNeg), .ref 1]) (w' := (hp u fL fD, c, z)) rfl ?_
    refine mg_Ev.call (y := 228) (as := [.ref 1, .int (sc.2 (i + 1).toNatClampNeg), .int (sc.2 (i + 2).toNatClampNeg), .int (sc.2 (i + 3).toNatClampNeg), .int (sc.2 (i + 4).toNatClampNeg), .ref 51]) (rest := []) (v := some (.int 0)) (w1 := (hp u1 (vp_updL fL 0 b.toInt64) fD, c, z)) rfl rfl (Nat.le_of_ble_eq_true rfl) ((ev_W_prefer_ok hC).deep (by decide)) ?_
    refine mg_Ev.go 1 (pc' := 499) (loc' := [some (.ref 0), some (.ref 1), some (.ref 43), some (.ref 51), some (.ref 52), some (.int i), some (.int 0), none, none]) (st' := []) (w' := (hp u1 (vp_updL fL 0 b.toInt64) fD, c, z)) rfl ?_
    exact ev_opB_4 hb1 hb2 hb3 hb4 hM hT (fun _ => rfl) hr
  · obtain ⟨r, hr, hQ⟩ := K fL fD (c + 1) (z + 6) (Nat.le_refl _) (Nat.le_refl _)
    refine ⟨r, ?_, hQ⟩
    refine mg_Ev.go 5 (pc' := 474) (loc' := [some (.ref 0), some (.ref 1), some (.ref 43), some (.ref 51), some (.ref 52), some (.int i), none, none, none]) (st' := [.int (i + 1), .ref 0, .ref 1]) (w' := (hp u fL fD, c, z)) rfl ?_
    refine mg_Ev.sld rfl hb1 ?_
    refine mg_Ev.go 4 (pc' := 480) (loc' := [some (.ref 0), some (.ref 1), some (.ref 43), some (.ref 51), some (.ref 52), some (.int i), none, none, none]) (st' := [.int (i + 2), .ref 0, .int (sc.2 (i + 1).toNatClampNeg), .ref 1]) (w' := (hp u fL fD, c, z)) rfl ?_
    refine mg_Ev.sld rfl hb2 ?_
    refine mg_Ev.go 4 (pc' := 486) (loc' := [some (.ref 0), some (.ref 1), some (.ref 43), some (.ref 51), some (.ref 52), some (.int i), none, none, none]) (st' := [.int (i + 3), .ref 0, .int (sc.2 (i + 2).toNatClampNeg), .int (sc.2 (i + 1).toNatClampNeg), .ref 1]) (w' := (hp u fL fD, c, z)) rfl ?_
    refine mg_Ev.sld rfl hb3 ?_
    refine mg_Ev.go 4 (pc' := 492) (loc' := [some (.ref 0), some (.ref 1), some (.ref 43), some (.ref 51), some (.ref 52), some (.int i), none, none, none]) (st' := [.int (i + 4), .ref 0, .int (sc.2 (i + 3).toNatClampNeg), .int (sc.2 (i + 2).toNatClampNeg), .int (sc.2 (i + 1).toNatClampNeg), .ref 1]) (w' := (hp u fL fD, c, z)) rfl ?_
    refine mg_Ev.sld rfl hb4 ?_
    refine mg_Ev.go 1 (pc' := 494) (loc' := [some (.ref 0), some (.ref 1), some (.ref 43), some (.ref 51), some (.ref 52), some (.int i), none, none, none]) (st' := [.ref 51, .int (sc.2 (i + 4).toNatClampNeg), .int (sc.2 (i + 3).toNatClampNeg), .int (sc.2 (i + 2).toNatClampNeg), .int (sc.2 (i + 1).toNatClampNeg), .ref 1]) (w' := (hp u fL fD, c, z)) rfl ?_
    refine mg_Ev.call (y := 228) (as := [.ref 1, .int (sc.2 (i + 1).toNatClampNeg), .int (sc.2 (i + 2).toNatClampNeg), .int (sc.2 (i + 3).toNatClampNeg), .int (sc.2 (i + 4).toNatClampNeg), .ref 51]) (rest := []) (v := some (.int 1)) (w1 := (hp u1 fL fD, c + 1, z + 6)) rfl rfl (Nat.le_of_ble_eq_true rfl) ((ev_W_prefer_x0 hC).deep (by decide)) ?_
    refine mg_Ev.go 1 (pc' := 499) (loc' := [some (.ref 0), some (.ref 1), some (.ref 43), some (.ref 51), some (.ref 52), some (.int i), some (.int 1), none, none]) (st' := []) (w' := (hp u1 fL fD, c + 1, z + 6)) rfl ?_
    exact ev_opB_4 hb1 hb2 hb3 hb4 hM hT (fun q => absurd q (by decide)) hr
  · obtain ⟨r, hr, hQ⟩ := K fL fD (c + 1) (z + 6) (Nat.le_refl _) (Nat.le_refl _)
    refine ⟨r, ?_, hQ⟩
    refine mg_Ev.go 5 (pc' := 474) (loc' := [some (.ref 0), some (.ref 1), some (.ref 43), some (.ref 51), some (.ref 52), some (.int i), none, none, none]) (st' := [.int (i + 1), .ref 0, .ref 1]) (w' := (hp u fL fD, c, z)) rfl ?_
    refine mg_Ev.sld rfl hb1 ?_
    refine mg_Ev.go 4 (pc' := 480) (loc' := [some (.ref 0), some (.ref 1), some (.ref 43), some (.ref 51), some (.ref 52), some (.int i), none, none, none]) (st' := [.int (i + 2), .ref 0, .int (sc.2 (i + 1).toNatClampNeg), .ref 1]) (w' := (hp u fL fD, c, z)) rfl ?_
    refine mg_Ev.sld rfl hb2 ?_
    refine mg_Ev.go 4 (pc' := 486) (loc' := [some (.ref 0), some (.ref 1), some (.ref 43), some (.ref 51), some (.ref 52), some (.int i), none, none, none]) (st' := [.int (i + 3), .ref 0, .int (sc.2 (i + 2).toNatClampNeg), .int (sc.2 (i + 1).toNatClampNeg), .ref 1]) (w' := (hp u fL fD, c, z)) rfl ?_
    refine mg_Ev.sld rfl hb3 ?_
    refine mg_Ev.go 4 (pc' := 492) (loc' := [some (.ref 0), some (.ref 1), some (.ref 43), some (.ref 51), some (.ref 52), some (.int i), none, none, none]) (st' := [.int (i + 4), .ref 0, .int (sc.2 (i + 3).toNatClampNeg), .int (sc.2 (i + 2).toNatClampNeg), .int (sc.2 (i + 1).toNatClampNeg), .ref 1]) (w' := (hp u fL fD, c, z)) rfl ?_
    refine mg_Ev.sld rfl hb4 ?_
    refine mg_Ev.go 1 (pc' := 494) (loc' := [some (.ref 0), some (.ref 1), some (.ref 43), some (.ref 51), some (.ref 52), some (.int i), none, none, none]) (st' := [.ref 51, .int (sc.2 (i + 4).toNatClampNeg), .int (sc.2 (i + 3).toNatClampNeg), .int (sc.2 (i + 2).toNatClampNeg), .int (sc.2 (i + 1).toNatClampNeg), .ref 1]) (w' := (hp u fL fD, c, z)) rfl ?_
    refine mg_Ev.call (y := 228) (as := [.ref 1, .int (sc.2 (i + 1).toNatClampNeg), .int (sc.2 (i + 2).toNatClampNeg), .int (sc.2 (i + 3).toNatClampNeg), .int (sc.2 (i + 4).toNatClampNeg), .ref 51]) (rest := []) (v := some (.int 2)) (w1 := (hp u1 fL fD, c + 1, z + 6)) rfl rfl (Nat.le_of_ble_eq_true rfl) ((ev_W_prefer_x1 hC).deep (by decide)) ?_
    refine mg_Ev.go 1 (pc' := 499) (loc' := [some (.ref 0), some (.ref 1), some (.ref 43), some (.ref 51), some (.ref 52), some (.int i), some (.int 2), none, none]) (st' := []) (w' := (hp u1 fL fD, c + 1, z + 6)) rfl ?_
    exact ev_opB_4 hb1 hb2 hb3 hb4 hM hT (fun q => absurd q (by decide)) hr
  · obtain ⟨r, hr, hQ⟩ := K fL fD (c + 1) (z + 6) (Nat.le_refl _) (Nat.le_refl _)
    refine ⟨r, ?_, hQ⟩
    refine mg_Ev.go 5 (pc' := 474) (loc' := [some (.ref 0), some (.ref 1), some (.ref 43), some (.ref 51), some (.ref 52), some (.int i), none, none, none]) (st' := [.int (i + 1), .ref 0, .ref 1]) (w' := (hp u fL fD, c, z)) rfl ?_
    refine mg_Ev.sld rfl hb1 ?_
    refine mg_Ev.go 4 (pc' := 480) (loc' := [some (.ref 0), some (.ref 1), some (.ref 43), some (.ref 51), some (.ref 52), some (.int i), none, none, none]) (st' := [.int (i + 2), .ref 0, .int (sc.2 (i + 1).toNatClampNeg), .ref 1]) (w' := (hp u fL fD, c, z)) rfl ?_
    refine mg_Ev.sld rfl hb2 ?_
    refine mg_Ev.go 4 (pc' := 486) (loc' := [some (.ref 0), some (.ref 1), some (.ref 43), some (.ref 51), some (.ref 52), some (.int i), none, none, none]) (st' := [.int (i + 3), .ref 0, .int (sc.2 (i + 2).toNatClampNeg), .int (sc.2 (i + 1).toNatClampNeg), .ref 1]) (w' := (hp u fL fD, c, z)) rfl ?_
    refine mg_Ev.sld rfl hb3 ?_
    refine mg_Ev.go 4 (pc' := 492) (loc' := [some (.ref 0), some (.ref 1), some (.ref 43), some (.ref 51), some (.ref 52), some (.int i), none, none, none]) (st' := [.int (i + 4), .ref 0, .int (sc.2 (i + 3).toNatClampNeg), .int (sc.2 (i + 2).toNatClampNeg), .int (sc.2 (i + 1).toNatClampNeg), .ref 1]) (w' := (hp u fL fD, c, z)) rfl ?_
    refine mg_Ev.sld rfl hb4 ?_
    refine mg_Ev.go 1 (pc' := 494) (loc' := [some (.ref 0), some (.ref 1), some (.ref 43), some (.ref 51), some (.ref 52), some (.int i), none, none, none]) (st' := [.ref 51, .int (sc.2 (i + 4).toNatClampNeg), .int (sc.2 (i + 3).toNatClampNeg), .int (sc.2 (i + 2).toNatClampNeg), .int (sc.2 (i + 1).toNatClampNeg), .ref 1]) (w' := (hp u fL fD, c, z)) rfl ?_
    refine mg_Ev.call (y := 228) (as := [.ref 1, .int (sc.2 (i + 1).toNatClampNeg), .int (sc.2 (i + 2).toNatClampNeg), .int (sc.2 (i + 3).toNatClampNeg), .int (sc.2 (i + 4).toNatClampNeg), .ref 51]) (rest := []) (v := some (.int 3)) (w1 := (hp u1 fL fD, c + 1, z + 6)) rfl rfl (Nat.le_of_ble_eq_true rfl) ((ev_W_prefer_x2 hC).deep (by decide)) ?_
    refine mg_Ev.go 1 (pc' := 499) (loc' := [some (.ref 0), some (.ref 1), some (.ref 43), some (.ref 51), some (.ref 52), some (.int i), some (.int 3), none, none]) (st' := []) (w' := (hp u1 fL fD, c + 1, z + 6)) rfl ?_
    exact ev_opB_4 hb1 hb2 hb3 hb4 hM hT (fun q => absurd q (by decide)) hr
def Ob_4 (I : mg_Rg → Prop) : Prop := ∀ u, I u → ∀ p1 p2 p3 p4 : Int32, ∃ (t : Int32 ⊕ Nat) (u1 : mg_Rg) (b : Int32) (u2 : mg_Rg) (T : Int32), C_prefer p1 p2 p3 p4 u = some (t, u1) ∧ M_prefer p1 p2 p3 p4 u1 = some (b, u2) ∧ M_thrown u2 = some T ∧ ((∃ v, t = .inl v ∧ b = v ∧ T = 0) ∨ (t = .inr 0 ∧ T = 1) ∨ (t = .inr 1 ∧ T = 2) ∨ (t = .inr 2 ∧ T = 3)) ∧ I u2
theorem st_op_4 {sc : mg_Sc} {c z : Nat} {fL : Nat → Int64} {fD : Nat → UInt64} {i : Int32} {u : mg_Rg} {Q : mg_R → Prop} {I : mg_Rg → Prop} (O : Ob_4 I) (hu : I u) (hb1 : ¬ ((i + 1) < 0 ∨ sc.1 ≤ (i + 1).toNatClampNeg)) (hb2 : ¬ ((i + 2) < 0 ∨ sc.1 ≤ (i + 2).toNatClampNeg)) (hb3 : ¬ ((i + 3) < 0 ∨ sc.1 ≤ (i + 3).toNatClampNeg)) (hb4 : ¬ ((i + 4) < 0 ∨ sc.1 ≤ (i + 4).toNatClampNeg)) (K : ∀ u2 fL fD c1 z1, I u2 → c1 ≤ c + 1 → z1 ≤ z + 6 → ∃ r, mg_Ev sc 11 258 2448 [some (.ref 0), some (.ref 1), some (.ref 43), some (.ref 51), some (.ref 52), some (.int i), none, none, none] [] (hp u2 fL fD, c1, z1) r ∧ Q r) : ∃ r, mg_Ev sc 11 258 468 [some (.ref 0), some (.ref 1), some (.ref 43), some (.ref 51), some (.ref 52), some (.int i), none, none, none] [] (hp u fL fD, c, z) r ∧ Q r := by
  obtain ⟨t, u1, b, u2, T, hC, hM, hT, H, hI⟩ := O u hu (sc.2 (i + 1).toNatClampNeg) (sc.2 (i + 2).toNatClampNeg) (sc.2 (i + 3).toNatClampNeg) (sc.2 (i + 4).toNatClampNeg)
  exact ev_op_4 hb1 hb2 hb3 hb4 hC hM hT H (fun fL fD c1 z1 h1 h2 => K u2 fL fD c1 z1 hI h1 h2)
set_option maxRecDepth 10000 in
set_option maxHeartbeats 4000000 in
theorem ev_opB_5 {sc : mg_Sc} {c z : Nat} {fL : Nat → Int64} {fD : Nat → UInt64} {i T : Int32} {b : Int32} {u1 u2 : mg_Rg} {r : mg_R} (hb1 : ¬ ((i + 1) < 0 ∨ sc.1 ≤ (i + 1).toNatClampNeg)) (hM : M_drop (sc.2 (i + 1).toNatClampNeg) u1 = some (b, u2)) (hT : M_thrown u2 = some T) (hv : T = 0 → fL 0 = b.toInt64) (K : mg_Ev sc 11 258 2448 [some (.ref 0), some (.ref 1), some (.ref 43), some (.ref 51), some (.ref 52), some (.int i), none, none, none] [] (hp u2 fL fD, c, z) r) : mg_Ev sc 11 258 573 [some (.ref 0), some (.ref 1), some (.ref 43), some (.ref 51), some (.ref 52), some (.int i), some (.int T), none, none] [] (hp u1 fL fD, c, z) r := by
  refine mg_Ev.go 5 (pc' := 579) (loc' := [some (.ref 0), some (.ref 1), some (.ref 43), some (.ref 51), some (.ref 52), some (.int i), some (.int T), none, none]) (st' := [.int (i + 1), .ref 0, .ref 43]) (w' := (hp u1 fL fD, c, z)) rfl ?_
  refine mg_Ev.sld rfl hb1 ?_
  refine mg_Ev.call (y := 80) (as := [.ref 43, .int (sc.2 (i + 1).toNatClampNeg)]) (rest := []) (v := some (.int b)) (w1 := (hp u2 fL fD, c, z)) rfl rfl (Nat.le_of_ble_eq_true rfl) ((ev_M_drop hM).deep (by decide)) ?_
  refine mg_Ev.go 2 (pc' := 586) (loc' := [some (.ref 0), some (.ref 1), some (.ref 43), some (.ref 51), some (.ref 52), some (.int i), some (.int T), some (.int b), none]) (st' := [.ref 43]) (w' := (hp u2 fL fD, c, z)) rfl ?_
  refine mg_Ev.call (y := 57) (as := [.ref 43]) (rest := []) (v := some (.int T)) (w1 := (hp u2 fL fD, c, z)) rfl rfl (Nat.le_of_ble_eq_true rfl) ((ev_M_thrown hT).deep (by decide)) ?_
  refine mg_Ev.go 1 (pc' := 591) (loc' := [some (.ref 0), some (.ref 1), some (.ref 43), some (.ref 51), some (.ref 52), some (.int i), some (.int T), some (.int b), none]) (st' := [.int T, .int T]) (w' := (hp u2 fL fD, c, z)) rfl ?_
  refine mg_Ev.br (P := T = T) (t := 596) (nx := 594) (st' := []) rfl rfl rfl rfl (fun _ => ?_) (fun q => absurd rfl q)
  refine mg_Ev.go 1 (pc' := 598) (loc' := [some (.ref 0), some (.ref 1), some (.ref 43), some (.ref 51), some (.ref 52), some (.int i), some (.int T), some (.int b), none]) (st' := [.int T]) (w' := (hp u2 fL fD, c, z)) rfl ?_
  refine mg_Ev.br (P := T = 0) (t := 601) (nx := 613) (st' := []) rfl rfl rfl rfl (fun h0 => ?_) (fun _ => ?_)
  · have h1 := hv h0
    refine mg_Ev.go 2 (pc' := 603) (loc' := [some (.ref 0), some (.ref 1), some (.ref 43), some (.ref 51), some (.ref 52), some (.int i), some (.int T), some (.int b), none]) (st' := [.int 0, .ref 51]) (w' := (hp u2 fL fD, c, z)) rfl ?_
    refine mg_Ev.lald (a := 50) (n := 1) (f := fL) (j := 0) rfl (hpg_50 _ _ _) (by decide) (by decide) ?_
    rw [h1]
    refine mg_Ev.go 3 (pc' := 608) (loc' := [some (.ref 0), some (.ref 1), some (.ref 43), some (.ref 51), some (.ref 52), some (.int i), some (.int T), some (.int b), none]) (st' := [.int (lg_cmp b.toInt64 b.toInt64)]) (w' := (hp u2 fL fD, c, z)) rfl ?_
    refine mg_Ev.br (P := lg_cmp b.toInt64 b.toInt64 = 0) (t := 613) (nx := 611) (st' := []) rfl rfl rfl rfl (fun _ => ?_) (fun q => absurd (mg_lcmp _) q)
    refine mg_Ev.go 1 (pc' := 2448) (loc' := [some (.ref 0), some (.ref 1), some (.ref 43), some (.ref 51), some (.ref 52), some (.int i), some (.int T), some (.int b), none]) (st' := []) (w' := (hp u2 fL fD, c, z)) rfl ?_
    exact mg_Ev.more K ⟨rfl, ⟨rfl, ⟨rfl, ⟨rfl, ⟨rfl, ⟨rfl, trivial⟩⟩⟩⟩⟩⟩
  · refine mg_Ev.go 1 (pc' := 2448) (loc' := [some (.ref 0), some (.ref 1), some (.ref 43), some (.ref 51), some (.ref 52), some (.int i), some (.int T), some (.int b), none]) (st' := []) (w' := (hp u2 fL fD, c, z)) rfl ?_
    exact mg_Ev.more K ⟨rfl, ⟨rfl, ⟨rfl, ⟨rfl, ⟨rfl, ⟨rfl, trivial⟩⟩⟩⟩⟩⟩
set_option maxRecDepth 10000 in
set_option maxHeartbeats 4000000 in
theorem ev_op_5 {sc : mg_Sc} {c z : Nat} {fL : Nat → Int64} {fD : Nat → UInt64} {i T : Int32} {b : Int32} {t : Int32 ⊕ Nat} {u u1 u2 : mg_Rg} {Q : mg_R → Prop} (hb1 : ¬ ((i + 1) < 0 ∨ sc.1 ≤ (i + 1).toNatClampNeg)) (hC : C_drop (sc.2 (i + 1).toNatClampNeg) u = some (t, u1)) (hM : M_drop (sc.2 (i + 1).toNatClampNeg) u1 = some (b, u2)) (hT : M_thrown u2 = some T) (H : (∃ v, t = .inl v ∧ b = v ∧ T = 0) ∨ (t = .inr 0 ∧ T = 1)) (K : ∀ fL fD c1 z1, c1 ≤ c + 1 → z1 ≤ z + 6 → ∃ r, mg_Ev sc 11 258 2448 [some (.ref 0), some (.ref 1), some (.ref 43), some (.ref 51), some (.ref 52), some (.int i), none, none, none] [] (hp u2 fL fD, c1, z1) r ∧ Q r) : ∃ r, mg_Ev sc 11 258 560 [some (.ref 0), some (.ref 1), some (.ref 43), some (.ref 51), some (.ref 52), some (.int i), none, none, none] [] (hp u fL fD, c, z) r ∧ Q r := by
  rcases H with ⟨v, rfl, rfl, rfl⟩ | ⟨rfl, rfl⟩
  · obtain ⟨r, hr, hQ⟩ := K (vp_updL fL 0 b.toInt64) fD c z (Nat.le_succ _) (Nat.le_add_right _ _)
    refine ⟨r, ?_, hQ⟩
    refine mg_Ev.go 5 (pc' := 566) (loc' := [some (.ref 0), some (.ref 1), some (.ref 43), some (.ref 51), some (.ref 52), some (.int i), none, none, none]) (st' := [.int (i + 1), .ref 0, .ref 1]) (w' := (hp u fL fD, c, z)) rfl ?_
    refine mg_Ev.sld rfl hb1 ?_
    refine mg_Ev.go 1 (pc' := 568) (loc' := [some (.ref 0), some (.ref 1), some (.ref 43), some (.ref 51), some (.ref 52), some (.int i), none, none, none]) (st' := [.ref 51, .int (sc.2 (i + 1).toNatClampNeg), .ref 1]) (w' := (hp u fL fD, c, z)) rfl ?_
    refine mg_Ev.call (y := 229) (as := [.ref 1, .int (sc.2 (i + 1).toNatClampNeg), .ref 51]) (rest := []) (v := some (.int 0)) (w1 := (hp u1 (vp_updL fL 0 b.toInt64) fD, c, z)) rfl rfl (Nat.le_of_ble_eq_true rfl) ((ev_W_drop_ok hC).deep (by decide)) ?_
    refine mg_Ev.go 1 (pc' := 573) (loc' := [some (.ref 0), some (.ref 1), some (.ref 43), some (.ref 51), some (.ref 52), some (.int i), some (.int 0), none, none]) (st' := []) (w' := (hp u1 (vp_updL fL 0 b.toInt64) fD, c, z)) rfl ?_
    exact ev_opB_5 hb1 hM hT (fun _ => rfl) hr
  · obtain ⟨r, hr, hQ⟩ := K fL fD (c + 1) (z + 6) (Nat.le_refl _) (Nat.le_refl _)
    refine ⟨r, ?_, hQ⟩
    refine mg_Ev.go 5 (pc' := 566) (loc' := [some (.ref 0), some (.ref 1), some (.ref 43), some (.ref 51), some (.ref 52), some (.int i), none, none, none]) (st' := [.int (i + 1), .ref 0, .ref 1]) (w' := (hp u fL fD, c, z)) rfl ?_
    refine mg_Ev.sld rfl hb1 ?_
    refine mg_Ev.go 1 (pc' := 568) (loc' := [some (.ref 0), some (.ref 1), some (.ref 43), some (.ref 51), some (.ref 52), some (.int i), none, none, none]) (st' := [.ref 51, .int (sc.2 (i + 1).toNatClampNeg), .ref 1]) (w' := (hp u fL fD, c, z)) rfl ?_
    refine mg_Ev.call (y := 229) (as := [.ref 1, .int (sc.2 (i + 1).toNatClampNeg), .ref 51]) (rest := []) (v := some (.int 1)) (w1 := (hp u1 fL fD, c + 1, z + 6)) rfl rfl (Nat.le_of_ble_eq_true rfl) ((ev_W_drop_x0 hC).deep (by decide)) ?_
    refine mg_Ev.go 1 (pc' := 573) (loc' := [some (.ref 0), some (.ref 1), some (.ref 43), some (.ref 51), some (.ref 52), some (.int i), some (.int 1), none, none]) (st' := []) (w' := (hp u1 fL fD, c + 1, z + 6)) rfl ?_
    exact ev_opB_5 hb1 hM hT (fun q => absurd q (by decide)) hr
def Ob_5 (I : mg_Rg → Prop) : Prop := ∀ u, I u → ∀ p1 : Int32, ∃ (t : Int32 ⊕ Nat) (u1 : mg_Rg) (b : Int32) (u2 : mg_Rg) (T : Int32), C_drop p1 u = some (t, u1) ∧ M_drop p1 u1 = some (b, u2) ∧ M_thrown u2 = some T ∧ ((∃ v, t = .inl v ∧ b = v ∧ T = 0) ∨ (t = .inr 0 ∧ T = 1)) ∧ I u2
theorem st_op_5 {sc : mg_Sc} {c z : Nat} {fL : Nat → Int64} {fD : Nat → UInt64} {i : Int32} {u : mg_Rg} {Q : mg_R → Prop} {I : mg_Rg → Prop} (O : Ob_5 I) (hu : I u) (hb1 : ¬ ((i + 1) < 0 ∨ sc.1 ≤ (i + 1).toNatClampNeg)) (K : ∀ u2 fL fD c1 z1, I u2 → c1 ≤ c + 1 → z1 ≤ z + 6 → ∃ r, mg_Ev sc 11 258 2448 [some (.ref 0), some (.ref 1), some (.ref 43), some (.ref 51), some (.ref 52), some (.int i), none, none, none] [] (hp u2 fL fD, c1, z1) r ∧ Q r) : ∃ r, mg_Ev sc 11 258 560 [some (.ref 0), some (.ref 1), some (.ref 43), some (.ref 51), some (.ref 52), some (.int i), none, none, none] [] (hp u fL fD, c, z) r ∧ Q r := by
  obtain ⟨t, u1, b, u2, T, hC, hM, hT, H, hI⟩ := O u hu (sc.2 (i + 1).toNatClampNeg)
  exact ev_op_5 hb1 hC hM hT H (fun fL fD c1 z1 h1 h2 => K u2 fL fD c1 z1 hI h1 h2)
set_option maxRecDepth 10000 in
set_option maxHeartbeats 4000000 in
theorem ev_opB_6 {sc : mg_Sc} {c z : Nat} {fL : Nat → Int64} {fD : Nat → UInt64} {i T : Int32} {b : Int32} {u1 u2 : mg_Rg} {r : mg_R} (hb1 : ¬ ((i + 1) < 0 ∨ sc.1 ≤ (i + 1).toNatClampNeg)) (hb2 : ¬ ((i + 2) < 0 ∨ sc.1 ≤ (i + 2).toNatClampNeg)) (hb3 : ¬ ((i + 3) < 0 ∨ sc.1 ≤ (i + 3).toNatClampNeg)) (hM : M_suspend (sc.2 (i + 1).toNatClampNeg) (sc.2 (i + 2).toNatClampNeg) (sc.2 (i + 3).toNatClampNeg) u1 = some (b, u2)) (hT : M_thrown u2 = some T) (hv : T = 0 → fL 0 = b.toInt64) (K : mg_Ev sc 11 258 2448 [some (.ref 0), some (.ref 1), some (.ref 43), some (.ref 51), some (.ref 52), some (.int i), none, none, none] [] (hp u2 fL fD, c, z) r) : mg_Ev sc 11 258 641 [some (.ref 0), some (.ref 1), some (.ref 43), some (.ref 51), some (.ref 52), some (.int i), some (.int T), none, none] [] (hp u1 fL fD, c, z) r := by
  refine mg_Ev.go 5 (pc' := 647) (loc' := [some (.ref 0), some (.ref 1), some (.ref 43), some (.ref 51), some (.ref 52), some (.int i), some (.int T), none, none]) (st' := [.int (i + 1), .ref 0, .ref 43]) (w' := (hp u1 fL fD, c, z)) rfl ?_
  refine mg_Ev.sld rfl hb1 ?_
  refine mg_Ev.go 4 (pc' := 653) (loc' := [some (.ref 0), some (.ref 1), some (.ref 43), some (.ref 51), some (.ref 52), some (.int i), some (.int T), none, none]) (st' := [.int (i + 2), .ref 0, .int (sc.2 (i + 1).toNatClampNeg), .ref 43]) (w' := (hp u1 fL fD, c, z)) rfl ?_
  refine mg_Ev.sld rfl hb2 ?_
  refine mg_Ev.go 4 (pc' := 659) (loc' := [some (.ref 0), some (.ref 1), some (.ref 43), some (.ref 51), some (.ref 52), some (.int i), some (.int T), none, none]) (st' := [.int (i + 3), .ref 0, .int (sc.2 (i + 2).toNatClampNeg), .int (sc.2 (i + 1).toNatClampNeg), .ref 43]) (w' := (hp u1 fL fD, c, z)) rfl ?_
  refine mg_Ev.sld rfl hb3 ?_
  refine mg_Ev.call (y := 81) (as := [.ref 43, .int (sc.2 (i + 1).toNatClampNeg), .int (sc.2 (i + 2).toNatClampNeg), .int (sc.2 (i + 3).toNatClampNeg)]) (rest := []) (v := some (.int b)) (w1 := (hp u2 fL fD, c, z)) rfl rfl (Nat.le_of_ble_eq_true rfl) ((ev_M_suspend hM).deep (by decide)) ?_
  refine mg_Ev.go 2 (pc' := 666) (loc' := [some (.ref 0), some (.ref 1), some (.ref 43), some (.ref 51), some (.ref 52), some (.int i), some (.int T), some (.int b), none]) (st' := [.ref 43]) (w' := (hp u2 fL fD, c, z)) rfl ?_
  refine mg_Ev.call (y := 57) (as := [.ref 43]) (rest := []) (v := some (.int T)) (w1 := (hp u2 fL fD, c, z)) rfl rfl (Nat.le_of_ble_eq_true rfl) ((ev_M_thrown hT).deep (by decide)) ?_
  refine mg_Ev.go 1 (pc' := 671) (loc' := [some (.ref 0), some (.ref 1), some (.ref 43), some (.ref 51), some (.ref 52), some (.int i), some (.int T), some (.int b), none]) (st' := [.int T, .int T]) (w' := (hp u2 fL fD, c, z)) rfl ?_
  refine mg_Ev.br (P := T = T) (t := 676) (nx := 674) (st' := []) rfl rfl rfl rfl (fun _ => ?_) (fun q => absurd rfl q)
  refine mg_Ev.go 1 (pc' := 678) (loc' := [some (.ref 0), some (.ref 1), some (.ref 43), some (.ref 51), some (.ref 52), some (.int i), some (.int T), some (.int b), none]) (st' := [.int T]) (w' := (hp u2 fL fD, c, z)) rfl ?_
  refine mg_Ev.br (P := T = 0) (t := 681) (nx := 693) (st' := []) rfl rfl rfl rfl (fun h0 => ?_) (fun _ => ?_)
  · have h1 := hv h0
    refine mg_Ev.go 2 (pc' := 683) (loc' := [some (.ref 0), some (.ref 1), some (.ref 43), some (.ref 51), some (.ref 52), some (.int i), some (.int T), some (.int b), none]) (st' := [.int 0, .ref 51]) (w' := (hp u2 fL fD, c, z)) rfl ?_
    refine mg_Ev.lald (a := 50) (n := 1) (f := fL) (j := 0) rfl (hpg_50 _ _ _) (by decide) (by decide) ?_
    rw [h1]
    refine mg_Ev.go 3 (pc' := 688) (loc' := [some (.ref 0), some (.ref 1), some (.ref 43), some (.ref 51), some (.ref 52), some (.int i), some (.int T), some (.int b), none]) (st' := [.int (lg_cmp b.toInt64 b.toInt64)]) (w' := (hp u2 fL fD, c, z)) rfl ?_
    refine mg_Ev.br (P := lg_cmp b.toInt64 b.toInt64 = 0) (t := 693) (nx := 691) (st' := []) rfl rfl rfl rfl (fun _ => ?_) (fun q => absurd (mg_lcmp _) q)
    refine mg_Ev.go 1 (pc' := 2448) (loc' := [some (.ref 0), some (.ref 1), some (.ref 43), some (.ref 51), some (.ref 52), some (.int i), some (.int T), some (.int b), none]) (st' := []) (w' := (hp u2 fL fD, c, z)) rfl ?_
    exact mg_Ev.more K ⟨rfl, ⟨rfl, ⟨rfl, ⟨rfl, ⟨rfl, ⟨rfl, trivial⟩⟩⟩⟩⟩⟩
  · refine mg_Ev.go 1 (pc' := 2448) (loc' := [some (.ref 0), some (.ref 1), some (.ref 43), some (.ref 51), some (.ref 52), some (.int i), some (.int T), some (.int b), none]) (st' := []) (w' := (hp u2 fL fD, c, z)) rfl ?_
    exact mg_Ev.more K ⟨rfl, ⟨rfl, ⟨rfl, ⟨rfl, ⟨rfl, ⟨rfl, trivial⟩⟩⟩⟩⟩⟩
set_option maxRecDepth 10000 in
set_option maxHeartbeats 4000000 in
theorem ev_op_6 {sc : mg_Sc} {c z : Nat} {fL : Nat → Int64} {fD : Nat → UInt64} {i T : Int32} {b : Int32} {t : Int32 ⊕ Nat} {u u1 u2 : mg_Rg} {Q : mg_R → Prop} (hb1 : ¬ ((i + 1) < 0 ∨ sc.1 ≤ (i + 1).toNatClampNeg)) (hb2 : ¬ ((i + 2) < 0 ∨ sc.1 ≤ (i + 2).toNatClampNeg)) (hb3 : ¬ ((i + 3) < 0 ∨ sc.1 ≤ (i + 3).toNatClampNeg)) (hC : C_suspend (sc.2 (i + 1).toNatClampNeg) (sc.2 (i + 2).toNatClampNeg) (sc.2 (i + 3).toNatClampNeg) u = some (t, u1)) (hM : M_suspend (sc.2 (i + 1).toNatClampNeg) (sc.2 (i + 2).toNatClampNeg) (sc.2 (i + 3).toNatClampNeg) u1 = some (b, u2)) (hT : M_thrown u2 = some T) (H : (∃ v, t = .inl v ∧ b = v ∧ T = 0) ∨ (t = .inr 0 ∧ T = 1) ∨ (t = .inr 1 ∧ T = 2) ∨ (t = .inr 2 ∧ T = 3)) (K : ∀ fL fD c1 z1, c1 ≤ c + 1 → z1 ≤ z + 6 → ∃ r, mg_Ev sc 11 258 2448 [some (.ref 0), some (.ref 1), some (.ref 43), some (.ref 51), some (.ref 52), some (.int i), none, none, none] [] (hp u2 fL fD, c1, z1) r ∧ Q r) : ∃ r, mg_Ev sc 11 258 616 [some (.ref 0), some (.ref 1), some (.ref 43), some (.ref 51), some (.ref 52), some (.int i), none, none, none] [] (hp u fL fD, c, z) r ∧ Q r := by
  rcases H with ⟨v, rfl, rfl, rfl⟩ | ⟨rfl, rfl⟩ | ⟨rfl, rfl⟩ | ⟨rfl, rfl⟩
  · obtain ⟨r, hr, hQ⟩ := K (vp_updL fL 0 b.toInt64) fD c z (Nat.le_succ _) (Nat.le_add_right _ _)
    refine ⟨r, ?_, hQ⟩
    refine mg_Ev.go 5 (pc' := 622) (loc' := [some (.ref 0), some (.ref 1), some (.ref 43), some (.ref 51), some (.ref 52), some (.int i), none, none, none]) (st' := [.int (i + 1), .ref 0, .ref 1]) (w' := (hp u fL fD, c, z)) rfl ?_
    refine mg_Ev.sld rfl hb1 ?_
    refine mg_Ev.go 4 (pc' := 628) (loc' := [some (.ref 0), some (.ref 1), some (.ref 43), some (.ref 51), some (.ref 52), some (.int i), none, none, none]) (st' := [.int (i + 2), .ref 0, .int (sc.2 (i + 1).toNatClampNeg), .ref 1]) (w' := (hp u fL fD, c, z)) rfl ?_
    refine mg_Ev.sld rfl hb2 ?_
    refine mg_Ev.go 4 (pc' := 634) (loc' := [some (.ref 0), some (.ref 1), some (.ref 43), some (.ref 51), some (.ref 52), some (.int i), none, none, none]) (st' := [.int (i + 3), .ref 0, .int (sc.2 (i + 2).toNatClampNeg), .int (sc.2 (i + 1).toNatClampNeg), .ref 1]) (w' := (hp u fL fD, c, z)) rfl ?_
    refine mg_Ev.sld rfl hb3 ?_
    refine mg_Ev.go 1 (pc' := 636) (loc' := [some (.ref 0), some (.ref 1), some (.ref 43), some (.ref 51), some (.ref 52), some (.int i), none, none, none]) (st' := [.ref 51, .int (sc.2 (i + 3).toNatClampNeg), .int (sc.2 (i + 2).toNatClampNeg), .int (sc.2 (i + 1).toNatClampNeg), .ref 1]) (w' := (hp u fL fD, c, z)) rfl ?_
    refine mg_Ev.call (y := 230) (as := [.ref 1, .int (sc.2 (i + 1).toNatClampNeg), .int (sc.2 (i + 2).toNatClampNeg), .int (sc.2 (i + 3).toNatClampNeg), .ref 51]) (rest := []) (v := some (.int 0)) (w1 := (hp u1 (vp_updL fL 0 b.toInt64) fD, c, z)) rfl rfl (Nat.le_of_ble_eq_true rfl) ((ev_W_suspend_ok hC).deep (by decide)) ?_
    refine mg_Ev.go 1 (pc' := 641) (loc' := [some (.ref 0), some (.ref 1), some (.ref 43), some (.ref 51), some (.ref 52), some (.int i), some (.int 0), none, none]) (st' := []) (w' := (hp u1 (vp_updL fL 0 b.toInt64) fD, c, z)) rfl ?_
    exact ev_opB_6 hb1 hb2 hb3 hM hT (fun _ => rfl) hr
  · obtain ⟨r, hr, hQ⟩ := K fL fD (c + 1) (z + 6) (Nat.le_refl _) (Nat.le_refl _)
    refine ⟨r, ?_, hQ⟩
    refine mg_Ev.go 5 (pc' := 622) (loc' := [some (.ref 0), some (.ref 1), some (.ref 43), some (.ref 51), some (.ref 52), some (.int i), none, none, none]) (st' := [.int (i + 1), .ref 0, .ref 1]) (w' := (hp u fL fD, c, z)) rfl ?_
    refine mg_Ev.sld rfl hb1 ?_
    refine mg_Ev.go 4 (pc' := 628) (loc' := [some (.ref 0), some (.ref 1), some (.ref 43), some (.ref 51), some (.ref 52), some (.int i), none, none, none]) (st' := [.int (i + 2), .ref 0, .int (sc.2 (i + 1).toNatClampNeg), .ref 1]) (w' := (hp u fL fD, c, z)) rfl ?_
    refine mg_Ev.sld rfl hb2 ?_
    refine mg_Ev.go 4 (pc' := 634) (loc' := [some (.ref 0), some (.ref 1), some (.ref 43), some (.ref 51), some (.ref 52), some (.int i), none, none, none]) (st' := [.int (i + 3), .ref 0, .int (sc.2 (i + 2).toNatClampNeg), .int (sc.2 (i + 1).toNatClampNeg), .ref 1]) (w' := (hp u fL fD, c, z)) rfl ?_
    refine mg_Ev.sld rfl hb3 ?_
    refine mg_Ev.go 1 (pc' := 636) (loc' := [some (.ref 0), some (.ref 1), some (.ref 43), some (.ref 51), some (.ref 52), some (.int i), none, none, none]) (st' := [.ref 51, .int (sc.2 (i + 3).toNatClampNeg), .int (sc.2 (i + 2).toNatClampNeg), .int (sc.2 (i + 1).toNatClampNeg), .ref 1]) (w' := (hp u fL fD, c, z)) rfl ?_
    refine mg_Ev.call (y := 230) (as := [.ref 1, .int (sc.2 (i + 1).toNatClampNeg), .int (sc.2 (i + 2).toNatClampNeg), .int (sc.2 (i + 3).toNatClampNeg), .ref 51]) (rest := []) (v := some (.int 1)) (w1 := (hp u1 fL fD, c + 1, z + 6)) rfl rfl (Nat.le_of_ble_eq_true rfl) ((ev_W_suspend_x0 hC).deep (by decide)) ?_
    refine mg_Ev.go 1 (pc' := 641) (loc' := [some (.ref 0), some (.ref 1), some (.ref 43), some (.ref 51), some (.ref 52), some (.int i), some (.int 1), none, none]) (st' := []) (w' := (hp u1 fL fD, c + 1, z + 6)) rfl ?_
    exact ev_opB_6 hb1 hb2 hb3 hM hT (fun q => absurd q (by decide)) hr
  · obtain ⟨r, hr, hQ⟩ := K fL fD (c + 1) (z + 6) (Nat.le_refl _) (Nat.le_refl _)
    refine ⟨r, ?_, hQ⟩
    refine mg_Ev.go 5 (pc' := 622) (loc' := [some (.ref 0), some (.ref 1), some (.ref 43), some (.ref 51), some (.ref 52), some (.int i), none, none, none]) (st' := [.int (i + 1), .ref 0, .ref 1]) (w' := (hp u fL fD, c, z)) rfl ?_
    refine mg_Ev.sld rfl hb1 ?_
    refine mg_Ev.go 4 (pc' := 628) (loc' := [some (.ref 0), some (.ref 1), some (.ref 43), some (.ref 51), some (.ref 52), some (.int i), none, none, none]) (st' := [.int (i + 2), .ref 0, .int (sc.2 (i + 1).toNatClampNeg), .ref 1]) (w' := (hp u fL fD, c, z)) rfl ?_
    refine mg_Ev.sld rfl hb2 ?_
    refine mg_Ev.go 4 (pc' := 634) (loc' := [some (.ref 0), some (.ref 1), some (.ref 43), some (.ref 51), some (.ref 52), some (.int i), none, none, none]) (st' := [.int (i + 3), .ref 0, .int (sc.2 (i + 2).toNatClampNeg), .int (sc.2 (i + 1).toNatClampNeg), .ref 1]) (w' := (hp u fL fD, c, z)) rfl ?_
    refine mg_Ev.sld rfl hb3 ?_
    refine mg_Ev.go 1 (pc' := 636) (loc' := [some (.ref 0), some (.ref 1), some (.ref 43), some (.ref 51), some (.ref 52), some (.int i), none, none, none]) (st' := [.ref 51, .int (sc.2 (i + 3).toNatClampNeg), .int (sc.2 (i + 2).toNatClampNeg), .int (sc.2 (i + 1).toNatClampNeg), .ref 1]) (w' := (hp u fL fD, c, z)) rfl ?_
    refine mg_Ev.call (y := 230) (as := [.ref 1, .int (sc.2 (i + 1).toNatClampNeg), .int (sc.2 (i + 2).toNatClampNeg), .int (sc.2 (i + 3).toNatClampNeg), .ref 51]) (rest := []) (v := some (.int 2)) (w1 := (hp u1 fL fD, c + 1, z + 6)) rfl rfl (Nat.le_of_ble_eq_true rfl) ((ev_W_suspend_x1 hC).deep (by decide)) ?_
    refine mg_Ev.go 1 (pc' := 641) (loc' := [some (.ref 0), some (.ref 1), some (.ref 43), some (.ref 51), some (.ref 52), some (.int i), some (.int 2), none, none]) (st' := []) (w' := (hp u1 fL fD, c + 1, z + 6)) rfl ?_
    exact ev_opB_6 hb1 hb2 hb3 hM hT (fun q => absurd q (by decide)) hr
  · obtain ⟨r, hr, hQ⟩ := K fL fD (c + 1) (z + 6) (Nat.le_refl _) (Nat.le_refl _)
    refine ⟨r, ?_, hQ⟩
    refine mg_Ev.go 5 (pc' := 622) (loc' := [some (.ref 0), some (.ref 1), some (.ref 43), some (.ref 51), some (.ref 52), some (.int i), none, none, none]) (st' := [.int (i + 1), .ref 0, .ref 1]) (w' := (hp u fL fD, c, z)) rfl ?_
    refine mg_Ev.sld rfl hb1 ?_
    refine mg_Ev.go 4 (pc' := 628) (loc' := [some (.ref 0), some (.ref 1), some (.ref 43), some (.ref 51), some (.ref 52), some (.int i), none, none, none]) (st' := [.int (i + 2), .ref 0, .int (sc.2 (i + 1).toNatClampNeg), .ref 1]) (w' := (hp u fL fD, c, z)) rfl ?_
    refine mg_Ev.sld rfl hb2 ?_
    refine mg_Ev.go 4 (pc' := 634) (loc' := [some (.ref 0), some (.ref 1), some (.ref 43), some (.ref 51), some (.ref 52), some (.int i), none, none, none]) (st' := [.int (i + 3), .ref 0, .int (sc.2 (i + 2).toNatClampNeg), .int (sc.2 (i + 1).toNatClampNeg), .ref 1]) (w' := (hp u fL fD, c, z)) rfl ?_
    refine mg_Ev.sld rfl hb3 ?_
    refine mg_Ev.go 1 (pc' := 636) (loc' := [some (.ref 0), some (.ref 1), some (.ref 43), some (.ref 51), some (.ref 52), some (.int i), none, none, none]) (st' := [.ref 51, .int (sc.2 (i + 3).toNatClampNeg), .int (sc.2 (i + 2).toNatClampNeg), .int (sc.2 (i + 1).toNatClampNeg), .ref 1]) (w' := (hp u fL fD, c, z)) rfl ?_
    refine mg_Ev.call (y := 230) (as := [.ref 1, .int (sc.2 (i + 1).toNatClampNeg), .int (sc.2 (i + 2).toNatClampNeg), .int (sc.2 (i + 3).toNatClampNeg), .ref 51]) (rest := []) (v := some (.int 3)) (w1 := (hp u1 fL fD, c + 1, z + 6)) rfl rfl (Nat.le_of_ble_eq_true rfl) ((ev_W_suspend_x2 hC).deep (by decide)) ?_
    refine mg_Ev.go 1 (pc' := 641) (loc' := [some (.ref 0), some (.ref 1), some (.ref 43), some (.ref 51), some (.ref 52), some (.int i), some (.int 3), none, none]) (st' := []) (w' := (hp u1 fL fD, c + 1, z + 6)) rfl ?_
    exact ev_opB_6 hb1 hb2 hb3 hM hT (fun q => absurd q (by decide)) hr
def Ob_6 (I : mg_Rg → Prop) : Prop := ∀ u, I u → ∀ p1 p2 p3 : Int32, ∃ (t : Int32 ⊕ Nat) (u1 : mg_Rg) (b : Int32) (u2 : mg_Rg) (T : Int32), C_suspend p1 p2 p3 u = some (t, u1) ∧ M_suspend p1 p2 p3 u1 = some (b, u2) ∧ M_thrown u2 = some T ∧ ((∃ v, t = .inl v ∧ b = v ∧ T = 0) ∨ (t = .inr 0 ∧ T = 1) ∨ (t = .inr 1 ∧ T = 2) ∨ (t = .inr 2 ∧ T = 3)) ∧ I u2
theorem st_op_6 {sc : mg_Sc} {c z : Nat} {fL : Nat → Int64} {fD : Nat → UInt64} {i : Int32} {u : mg_Rg} {Q : mg_R → Prop} {I : mg_Rg → Prop} (O : Ob_6 I) (hu : I u) (hb1 : ¬ ((i + 1) < 0 ∨ sc.1 ≤ (i + 1).toNatClampNeg)) (hb2 : ¬ ((i + 2) < 0 ∨ sc.1 ≤ (i + 2).toNatClampNeg)) (hb3 : ¬ ((i + 3) < 0 ∨ sc.1 ≤ (i + 3).toNatClampNeg)) (K : ∀ u2 fL fD c1 z1, I u2 → c1 ≤ c + 1 → z1 ≤ z + 6 → ∃ r, mg_Ev sc 11 258 2448 [some (.ref 0), some (.ref 1), some (.ref 43), some (.ref 51), some (.ref 52), some (.int i), none, none, none] [] (hp u2 fL fD, c1, z1) r ∧ Q r) : ∃ r, mg_Ev sc 11 258 616 [some (.ref 0), some (.ref 1), some (.ref 43), some (.ref 51), some (.ref 52), some (.int i), none, none, none] [] (hp u fL fD, c, z) r ∧ Q r := by
  obtain ⟨t, u1, b, u2, T, hC, hM, hT, H, hI⟩ := O u hu (sc.2 (i + 1).toNatClampNeg) (sc.2 (i + 2).toNatClampNeg) (sc.2 (i + 3).toNatClampNeg)
  exact ev_op_6 hb1 hb2 hb3 hC hM hT H (fun fL fD c1 z1 h1 h2 => K u2 fL fD c1 z1 hI h1 h2)
