set_option maxRecDepth 10000 in
set_option maxHeartbeats 4000000 in
theorem ev_opB_7 {sc : mg_Sc} {c z : Nat} {fL : Nat → Int64} {fD : Nat → UInt64} {i T : Int32} {b : Int32} {u1 u2 : mg_Rg} {r : mg_R} (hb1 : ¬ ((i + 1) < 0 ∨ sc.1 ≤ (i + 1).toNatClampNeg)) (hb2 : ¬ ((i + 2) < 0 ∨ sc.1 ≤ (i + 2).toNatClampNeg)) (hb3 : ¬ ((i + 3) < 0 ∨ sc.1 ≤ (i + 3).toNatClampNeg)) (hb4 : ¬ ((i + 4) < 0 ∨ sc.1 ≤ (i + 4).toNatClampNeg)) (hb5 : ¬ ((i + 5) < 0 ∨ sc.1 ≤ (i + 5).toNatClampNeg)) (hM : M_quota (sc.2 (i + 1).toNatClampNeg) (sc.2 (i + 2).toNatClampNeg) (sc.2 (i + 3).toNatClampNeg) (sc.2 (i + 4).toNatClampNeg) (sc.2 (i + 5).toNatClampNeg) u1 = some (b, u2)) (hT : M_thrown u2 = some T) (hv : T = 0 → fL 0 = b.toInt64) (K : mg_Ev sc 11 258 2448 [some (.ref 0), some (.ref 1), some (.ref 43), some (.ref 51), some (.ref 52), some (.int i), none, none, none] [] (hp u2 fL fD, c, z) r) : mg_Ev sc 11 258 733 [some (.ref 0), some (.ref 1), some (.ref 43), some (.ref 51), some (.ref 52), some (.int i), some (.int T), none, none] [] (hp u1 fL fD, c, z) r := by
  refine mg_Ev.go 5 (pc' := 739) (loc' := [some (.ref 0), some (.ref 1), some (.ref 43), some (.ref 51), some (.ref 52), some (.int i), some (.int T), none, none]) (st' := [.int (i + 1), .ref 0, .ref 43]) (w' := (hp u1 fL fD, c, z)) rfl ?_
  refine mg_Ev.sld rfl hb1 ?_
  refine mg_Ev.go 4 (pc' := 745) (loc' := [some (.ref 0), some (.ref 1), some (.ref 43), some (.ref 51), some (.ref 52), some (.int i), some (.int T), none, none]) (st' := [.int (i + 2), .ref 0, .int (sc.2 (i + 1).toNatClampNeg), .ref 43]) (w' := (hp u1 fL fD, c, z)) rfl ?_
  refine mg_Ev.sld rfl hb2 ?_
  refine mg_Ev.go 4 (pc' := 751) (loc' := [some (.ref 0), some (.ref 1), some (.ref 43), some (.ref 51), some (.ref 52), some (.int i), some (.int T), none, none]) (st' := [.int (i + 3), .ref 0, .int (sc.2 (i + 2).toNatClampNeg), .int (sc.2 (i + 1).toNatClampNeg), .ref 43]) (w' := (hp u1 fL fD, c, z)) rfl ?_
  refine mg_Ev.sld rfl hb3 ?_
  refine mg_Ev.go 4 (pc' := 757) (loc' := [some (.ref 0), some (.ref 1), some (.ref 43), some (.ref 51), some (.ref 52), some (.int i), some (.int T), none, none]) (st' := [.int (i + 4), .ref 0, .int (sc.2 (i + 3).toNatClampNeg), .int (sc.2 (i + 2).toNatClampNeg), .int (sc.2 (i + 1).toNatClampNeg), .ref 43]) (w' := (hp u1 fL fD, c, z)) rfl ?_
  refine mg_Ev.sld rfl hb4 ?_
  refine mg_Ev.go 4 (pc' := 763) (loc' := [some (.ref 0), some (.ref 1), some (.ref 43), some (.ref 51), some (.ref 52), some (.int i), some (.int T), none, none]) (st' := [.int (i + 5), .ref 0, .int (sc.2 (i + 4).toNatClampNeg), .int (sc.2 (i + 3).toNatClampNeg), .int (sc.2 (i + 2).toNatClampNeg), .int (sc.2 (i + 1).toNatClampNeg), .ref 43]) (w' := (hp u1 fL fD, c, z)) rfl ?_
  refine mg_Ev.sld rfl hb5 ?_
  refine mg_Ev.call (y := 82) (as := [.ref 43, .int (sc.2 (i + 1).toNatClampNeg), .int (sc.2 (i + 2).toNatClampNeg), .int (sc.2 (i + 3).toNatClampNeg), .int (sc.2 (i + 4).toNatClampNeg), .int (sc.2 (i + 5).toNatClampNeg)]) (rest := []) (v := some (.int b)) (w1 := (hp u2 fL fD, c, z)) rfl rfl (Nat.le_of_ble_eq_true rfl) ((ev_M_quota hM).deep (by decide)) ?_
  refine mg_Ev.go 2 (pc' := 770) (loc' := [some (.ref 0), some (.ref 1), some (.ref 43), some (.ref 51), some (.ref 52), some (.int i), some (.int T), some (.int b), none]) (st' := [.ref 43]) (w' := (hp u2 fL fD, c, z)) rfl ?_
  refine mg_Ev.call (y := 57) (as := [.ref 43]) (rest := []) (v := some (.int T)) (w1 := (hp u2 fL fD, c, z)) rfl rfl (Nat.le_of_ble_eq_true rfl) ((ev_M_thrown hT).deep (by decide)) ?_
  refine mg_Ev.go 1 (pc' := 775) (loc' := [some (.ref 0), some (.ref 1), some (.ref 43), some (.ref 51), some (.ref 52), some (.int i), some (.int T), some (.int b), none]) (st' := [.int T, .int T]) (w' := (hp u2 fL fD, c, z)) rfl ?_
  refine mg_Ev.br (P := T = T) (t := 780) (nx := 778) (st' := []) rfl rfl rfl rfl (fun _ => ?_) (fun q => absurd rfl q)
  refine mg_Ev.go 1 (pc' := 782) (loc' := [some (.ref 0), some (.ref 1), some (.ref 43), some (.ref 51), some (.ref 52), some (.int i), some (.int T), some (.int b), none]) (st' := [.int T]) (w' := (hp u2 fL fD, c, z)) rfl ?_
  refine mg_Ev.br (P := T = 0) (t := 785) (nx := 797) (st' := []) rfl rfl rfl rfl (fun h0 => ?_) (fun _ => ?_)
  · have h1 := hv h0
    refine mg_Ev.go 2 (pc' := 787) (loc' := [some (.ref 0), some (.ref 1), some (.ref 43), some (.ref 51), some (.ref 52), some (.int i), some (.int T), some (.int b), none]) (st' := [.int 0, .ref 51]) (w' := (hp u2 fL fD, c, z)) rfl ?_
    refine mg_Ev.lald (a := 50) (n := 1) (f := fL) (j := 0) rfl (hpg_50 _ _ _) (by decide) (by decide) ?_
    rw [h1]
    refine mg_Ev.go 3 (pc' := 792) (loc' := [some (.ref 0), some (.ref 1), some (.ref 43), some (.ref 51), some (.ref 52), some (.int i), some (.int T), some (.int b), none]) (st' := [.int (lg_cmp b.toInt64 b.toInt64)]) (w' := (hp u2 fL fD, c, z)) rfl ?_
    refine mg_Ev.br (P := lg_cmp b.toInt64 b.toInt64 = 0) (t := 797) (nx := 795) (st' := []) rfl rfl rfl rfl (fun _ => ?_) (fun q => absurd (mg_lcmp _) q)
    refine mg_Ev.go 1 (pc' := 2448) (loc' := [some (.ref 0), some (.ref 1), some (.ref 43), some (.ref 51), some (.ref 52), some (.int i), some (.int T), some (.int b), none]) (st' := []) (w' := (hp u2 fL fD, c, z)) rfl ?_
    exact mg_Ev.more K ⟨rfl, ⟨rfl, ⟨rfl, ⟨rfl, ⟨rfl, ⟨rfl, trivial⟩⟩⟩⟩⟩⟩
  · refine mg_Ev.go 1 (pc' := 2448) (loc' := [some (.ref 0), some (.ref 1), some (.ref 43), some (.ref 51), some (.ref 52), some (.int i), some (.int T), some (.int b), none]) (st' := []) (w' := (hp u2 fL fD, c, z)) rfl ?_
    exact mg_Ev.more K ⟨rfl, ⟨rfl, ⟨rfl, ⟨rfl, ⟨rfl, ⟨rfl, trivial⟩⟩⟩⟩⟩⟩
set_option maxRecDepth 10000 in
set_option maxHeartbeats 4000000 in
theorem ev_op_7 {sc : mg_Sc} {c z : Nat} {fL : Nat → Int64} {fD : Nat → UInt64} {i T : Int32} {b : Int32} {t : Int32 ⊕ Nat} {u u1 u2 : mg_Rg} {Q : mg_R → Prop} (hb1 : ¬ ((i + 1) < 0 ∨ sc.1 ≤ (i + 1).toNatClampNeg)) (hb2 : ¬ ((i + 2) < 0 ∨ sc.1 ≤ (i + 2).toNatClampNeg)) (hb3 : ¬ ((i + 3) < 0 ∨ sc.1 ≤ (i + 3).toNatClampNeg)) (hb4 : ¬ ((i + 4) < 0 ∨ sc.1 ≤ (i + 4).toNatClampNeg)) (hb5 : ¬ ((i + 5) < 0 ∨ sc.1 ≤ (i + 5).toNatClampNeg)) (hC : C_quota (sc.2 (i + 1).toNatClampNeg) (sc.2 (i + 2).toNatClampNeg) (sc.2 (i + 3).toNatClampNeg) (sc.2 (i + 4).toNatClampNeg) (sc.2 (i + 5).toNatClampNeg) u = some (t, u1)) (hM : M_quota (sc.2 (i + 1).toNatClampNeg) (sc.2 (i + 2).toNatClampNeg) (sc.2 (i + 3).toNatClampNeg) (sc.2 (i + 4).toNatClampNeg) (sc.2 (i + 5).toNatClampNeg) u1 = some (b, u2)) (hT : M_thrown u2 = some T) (H : (∃ v, t = .inl v ∧ b = v ∧ T = 0) ∨ (t = .inr 0 ∧ T = 1) ∨ (t = .inr 1 ∧ T = 2) ∨ (t = .inr 2 ∧ T = 3)) (K : ∀ fL fD c1 z1, c1 ≤ c + 1 → z1 ≤ z + 6 → ∃ r, mg_Ev sc 11 258 2448 [some (.ref 0), some (.ref 1), some (.ref 43), some (.ref 51), some (.ref 52), some (.int i), none, none, none] [] (hp u2 fL fD, c1, z1) r ∧ Q r) : ∃ r, mg_Ev sc 11 258 696 [some (.ref 0), some (.ref 1), some (.ref 43), some (.ref 51), some (.ref 52), some (.int i), none, none, none] [] (hp u fL fD, c, z) r ∧ Q r := by
  rcases H with ⟨v, rfl, rfl, rfl⟩ | ⟨rfl, rfl⟩ | ⟨rfl, rfl⟩ | ⟨rfl, rfl⟩
  · obtain ⟨r, hr, hQ⟩ := K (vp_updL fL 0 b.toInt64) fD c z (Nat.le_succ _) (Nat.le_add_right _ _)
    refine ⟨r, ?_, hQ⟩
    refine mg_Ev.go 5 (pc' := 702) (loc' := [some (.ref 0), some (.ref 1), some (.ref 43), some (.ref 51), some (.ref 52), some (.int i), none, none, none]) (st' := [.int (i + 1), .ref 0, .ref 1]) (w' := (hp u fL fD, c, z)) rfl ?_
    refine mg_Ev.sld rfl hb1 ?_
    refine mg_Ev.go 4 (pc' := 708) (loc' := [some (.ref 0), some (.ref 1), some (.ref 43), some (.ref 51), some (.ref 52), some (.int i), none, none, none]) (st' := [.int (i + 2), .ref 0, .int (sc.2 (i + 1).toNatClampNeg), .ref 1]) (w' := (hp u fL fD, c, z)) rfl ?_
    refine mg_Ev.sld rfl hb2 ?_
    refine mg_Ev.go 4 (pc' := 714) (loc' := [some (.ref 0), some (.ref 1), some (.ref 43), some (.ref 51), some (.ref 52), some (.int i), none, none, none]) (st' := [.int (i + 3), .ref 0, .int (sc.2 (i + 2).toNatClampNeg), .int (sc.2 (i + 1).toNatClampNeg), .ref 1]) (w' := (hp u fL fD, c, z)) rfl ?_
    refine mg_Ev.sld rfl hb3 ?_
    refine mg_Ev.go 4 (pc' := 720) (loc' := [some (.ref 0), some (.ref 1), some (.ref 43), some (.ref 51), some (.ref 52), some (.int i), none, none, none]) (st' := [.int (i + 4), .ref 0, .int (sc.2 (i + 3).toNatClampNeg), .int (sc.2 (i + 2).toNatClampNeg), .int (sc.2 (i + 1).toNatClampNeg), .ref 1]) (w' := (hp u fL fD, c, z)) rfl ?_
    refine mg_Ev.sld rfl hb4 ?_
    refine mg_Ev.go 4 (pc' := 726) (loc' := [some (.ref 0), some (.ref 1), some (.ref 43), some (.ref 51), some (.ref 52), some (.int i), none, none, none]) (st' := [.int (i + 5), .ref 0, .int (sc.2 (i + 4).toNatClampNeg), .int (sc.2 (i + 3).toNatClampNeg), .int (sc.2 (i + 2).toNatClampNeg), .int (sc.2 (i + 1).toNatClampNeg), .ref 1]) (w' := (hp u fL fD, c, z)) rfl ?_
    refine mg_Ev.sld rfl hb5 ?_
    refine mg_Ev.go 1 (pc' := 728) (loc' := [some (.ref 0), some (.ref 1), some (.ref 43), some (.ref 51), some (.ref 52), some (.int i), none, none, none]) (st' := [.ref 51, .int (sc.2 (i + 5).toNatClampNeg), .int (sc.2 (i + 4).toNatClampNeg), .int (sc.2 (i + 3).toNatClampNeg), .int (sc.2 (i + 2).toNatClampNeg), .int (sc.2 (i + 1).toNatClampNeg), .ref 1]) (w' := (hp u fL fD, c, z)) rfl ?_
    refine mg_Ev.call (y := 231) (as := [.ref 1, .int (sc.2 (i + 1).toNatClampNeg), .int (sc.2 (i + 2).toNatClampNeg), .int (sc.2 (i + 3).toNatClampNeg), .int (sc.2 (i + 4).toNatClampNeg), .int (sc.2 (i + 5).toNatClampNeg), .ref 51]) (rest := []) (v := some (.int 0)) (w1 := (hp u1 (vp_updL fL 0 b.toInt64) fD, c, z)) rfl rfl (Nat.le_of_ble_eq_true rfl) ((ev_W_quota_ok hC).deep (by decide)) ?_
    refine mg_Ev.go 1 (pc' := 733) (loc' := [some (.ref 0), some (.ref 1), some (.ref 43), some (.ref 51), some (.ref 52), some (.int i), some (.int 0), none, none]) (st' := []) (w' := (hp u1 (vp_updL fL 0 b.toInt64) fD, c, z)) rfl ?_
    exact ev_opB_7 hb1 hb2 hb3 hb4 hb5 hM hT (fun _ => rfl) hr
  · obtain ⟨r, hr, hQ⟩ := K fL fD (c + 1) (z + 6) (Nat.le_refl _) (Nat.le_refl _)
    refine ⟨r, ?_, hQ⟩
    refine mg_Ev.go 5 (pc' := 702) (loc' := [some (.ref 0), some (.ref 1), some (.ref 43), some (.ref 51), some (.ref 52), some (.int i), none, none, none]) (st' := [.int (i + 1), .ref 0, .ref 1]) (w' := (hp u fL fD, c, z)) rfl ?_
    refine mg_Ev.sld rfl hb1 ?_
    refine mg_Ev.go 4 (pc' := 708) (loc' := [some (.ref 0), some (.ref 1), some (.ref 43), some (.ref 51), some (.ref 52), some (.int i), none, none, none]) (st' := [.int (i + 2), .ref 0, .int (sc.2 (i + 1).toNatClampNeg), .ref 1]) (w' := (hp u fL fD, c, z)) rfl ?_
    refine mg_Ev.sld rfl hb2 ?_
    refine mg_Ev.go 4 (pc' := 714) (loc' := [some (.ref 0), some (.ref 1), some (.ref 43), some (.ref 51), some (.ref 52), some (.int i), none, none, none]) (st' := [.int (i + 3), .ref 0, .int (sc.2 (i + 2).toNatClampNeg), .int (sc.2 (i + 1).toNatClampNeg), .ref 1]) (w' := (hp u fL fD, c, z)) rfl ?_
    refine mg_Ev.sld rfl hb3 ?_
    refine mg_Ev.go 4 (pc' := 720) (loc' := [some (.ref 0), some (.ref 1), some (.ref 43), some (.ref 51), some (.ref 52), some (.int i), none, none, none]) (st' := [.int (i + 4), .ref 0, .int (sc.2 (i + 3).toNatClampNeg), .int (sc.2 (i + 2).toNatClampNeg), .int (sc.2 (i + 1).toNatClampNeg), .ref 1]) (w' := (hp u fL fD, c, z)) rfl ?_
    refine mg_Ev.sld rfl hb4 ?_
    refine mg_Ev.go 4 (pc' := 726) (loc' := [some (.ref 0), some (.ref 1), some (.ref 43), some (.ref 51), some (.ref 52), some (.int i), none, none, none]) (st' := [.int (i + 5), .ref 0, .int (sc.2 (i + 4).toNatClampNeg), .int (sc.2 (i + 3).toNatClampNeg), .int (sc.2 (i + 2).toNatClampNeg), .int (sc.2 (i + 1).toNatClampNeg), .ref 1]) (w' := (hp u fL fD, c, z)) rfl ?_
    refine mg_Ev.sld rfl hb5 ?_
    refine mg_Ev.go 1 (pc' := 728) (loc' := [some (.ref 0), some (.ref 1), some (.ref 43), some (.ref 51), some (.ref 52), some (.int i), none, none, none]) (st' := [.ref 51, .int (sc.2 (i + 5).toNatClampNeg), .int (sc.2 (i + 4).toNatClampNeg), .int (sc.2 (i + 3).toNatClampNeg), .int (sc.2 (i + 2).toNatClampNeg), .int (sc.2 (i + 1).toNatClampNeg), .ref 1]) (w' := (hp u fL fD, c, z)) rfl ?_
    refine mg_Ev.call (y := 231) (as := [.ref 1, .int (sc.2 (i + 1).toNatClampNeg), .int (sc.2 (i + 2).toNatClampNeg), .int (sc.2 (i + 3).toNatClampNeg), .int (sc.2 (i + 4).toNatClampNeg), .int (sc.2 (i + 5).toNatClampNeg), .ref 51]) (rest := []) (v := some (.int 1)) (w1 := (hp u1 fL fD, c + 1, z + 6)) rfl rfl (Nat.le_of_ble_eq_true rfl) ((ev_W_quota_x0 hC).deep (by decide)) ?_
    refine mg_Ev.go 1 (pc' := 733) (loc' := [some (.ref 0), some (.ref 1), some (.ref 43), some (.ref 51), some (.ref 52), some (.int i), some (.int 1), none, none]) (st' := []) (w' := (hp u1 fL fD, c + 1, z + 6)) rfl ?_
    exact ev_opB_7 hb1 hb2 hb3 hb4 hb5 hM hT (fun q => absurd q (by decide)) hr
  · obtain ⟨r, hr, hQ⟩ := K fL fD (c + 1) (z + 6) (Nat.le_refl _) (Nat.le_refl _)
    refine ⟨r, ?_, hQ⟩
    refine mg_Ev.go 5 (pc' := 702) (loc' := [some (.ref 0), some (.ref 1), some (.ref 43), some (.ref 51), some (.ref 52), some (.int i), none, none, none]) (st' := [.int (i + 1), .ref 0, .ref 1]) (w' := (hp u fL fD, c, z)) rfl ?_
    refine mg_Ev.sld rfl hb1 ?_
    refine mg_Ev.go 4 (pc' := 708) (loc' := [some (.ref 0), some (.ref 1), some (.ref 43), some (.ref 51), some (.ref 52), some (.int i), none, none, none]) (st' := [.int (i + 2), .ref 0, .int (sc.2 (i + 1).toNatClampNeg), .ref 1]) (w' := (hp u fL fD, c, z)) rfl ?_
    refine mg_Ev.sld rfl hb2 ?_
    refine mg_Ev.go 4 (pc' := 714) (loc' := [some (.ref 0), some (.ref 1), some (.ref 43), some (.ref 51), some (.ref 52), some (.int i), none, none, none]) (st' := [.int (i + 3), .ref 0, .int (sc.2 (i + 2).toNatClampNeg), .int (sc.2 (i + 1).toNatClampNeg), .ref 1]) (w' := (hp u fL fD, c, z)) rfl ?_
    refine mg_Ev.sld rfl hb3 ?_
    refine mg_Ev.go 4 (pc' := 720) (loc' := [some (.ref 0), some (.ref 1), some (.ref 43), some (.ref 51), some (.ref 52), some (.int i), none, none, none]) (st' := [.int (i + 4), .ref 0, .int (sc.2 (i + 3).toNatClampNeg), .int (sc.2 (i + 2).toNatClampNeg), .int (sc.2 (i + 1).toNatClampNeg), .ref 1]) (w' := (hp u fL fD, c, z)) rfl ?_
    refine mg_Ev.sld rfl hb4 ?_
    refine mg_Ev.go 4 (pc' := 726) (loc' := [some (.ref 0), some (.ref 1), some (.ref 43), some (.ref 51), some (.ref 52), some (.int i), none, none, none]) (st' := [.int (i + 5), .ref 0, .int (sc.2 (i + 4).toNatClampNeg), .int (sc.2 (i + 3).toNatClampNeg), .int (sc.2 (i + 2).toNatClampNeg), .int (sc.2 (i + 1).toNatClampNeg), .ref 1]) (w' := (hp u fL fD, c, z)) rfl ?_
    refine mg_Ev.sld rfl hb5 ?_
    refine mg_Ev.go 1 (pc' := 728) (loc' := [some (.ref 0), some (.ref 1), some (.ref 43), some (.ref 51), some (.ref 52), some (.int i), none, none, none]) (st' := [.ref 51, .int (sc.2 (i + 5).toNatClampNeg), .int (sc.2 (i + 4).toNatClampNeg), .int (sc.2 (i + 3).toNatClampNeg), .int (sc.2 (i + 2).toNatClampNeg), .int (sc.2 (i + 1).toNatClampNeg), .ref 1]) (w' := (hp u fL fD, c, z)) rfl ?_
    refine mg_Ev.call (y := 231) (as := [.ref 1, .int (sc.2 (i + 1).toNatClampNeg), .int (sc.2 (i + 2).toNatClampNeg), .int (sc.2 (i + 3).toNatClampNeg), .int (sc.2 (i + 4).toNatClampNeg), .int (sc.2 (i + 5).toNatClampNeg), .ref 51]) (rest := []) (v := some (.int 2)) (w1 := (hp u1 fL fD, c + 1, z + 6)) rfl rfl (Nat.le_of_ble_eq_true rfl) ((ev_W_quota_x1 hC).deep (by decide)) ?_
    refine mg_Ev.go 1 (pc' := 733) (loc' := [some (.ref 0), some (.ref 1), some (.ref 43), some (.ref 51), some (.ref 52), some (.int i), some (.int 2), none, none]) (st' := []) (w' := (hp u1 fL fD, c + 1, z + 6)) rfl ?_
    exact ev_opB_7 hb1 hb2 hb3 hb4 hb5 hM hT (fun q => absurd q (by decide)) hr
  · obtain ⟨r, hr, hQ⟩ := K fL fD (c + 1) (z + 6) (Nat.le_refl _) (Nat.le_refl _)
    refine ⟨r, ?_, hQ⟩
    refine mg_Ev.go 5 (pc' := 702) (loc' := [some (.ref 0), some (.ref 1), some (.ref 43), some (.ref 51), some (.ref 52), some (.int i), none, none, none]) (st' := [.int (i + 1), .ref 0, .ref 1]) (w' := (hp u fL fD, c, z)) rfl ?_
    refine mg_Ev.sld rfl hb1 ?_
    refine mg_Ev.go 4 (pc' := 708) (loc' := [some (.ref 0), some (.ref 1), some (.ref 43), some (.ref 51), some (.ref 52), some (.int i), none, none, none]) (st' := [.int (i + 2), .ref 0, .int (sc.2 (i + 1).toNatClampNeg), .ref 1]) (w' := (hp u fL fD, c, z)) rfl ?_
    refine mg_Ev.sld rfl hb2 ?_
    refine mg_Ev.go 4 (pc' := 714) (loc' := [some (.ref 0), some (.ref 1), some (.ref 43), some (.ref 51), some (.ref 52), some (.int i), none, none, none]) (st' := [.int (i + 3), .ref 0, .int (sc.2 (i + 2).toNatClampNeg), .int (sc.2 (i + 1).toNatClampNeg), .ref 1]) (w' := (hp u fL fD, c, z)) rfl ?_
    refine mg_Ev.sld rfl hb3 ?_
    refine mg_Ev.go 4 (pc' := 720) (loc' := [some (.ref 0), some (.ref 1), some (.ref 43), some (.ref 51), some (.ref 52), some (.int i), none, none, none]) (st' := [.int (i + 4), .ref 0, .int (sc.2 (i + 3).toNatClampNeg), .int (sc.2 (i + 2).toNatClampNeg), .int (sc.2 (i + 1).toNatClampNeg), .ref 1]) (w' := (hp u fL fD, c, z)) rfl ?_
    refine mg_Ev.sld rfl hb4 ?_
    refine mg_Ev.go 4 (pc' := 726) (loc' := [some (.ref 0), some (.ref 1), some (.ref 43), some (.ref 51), some (.ref 52), some (.int i), none, none, none]) (st' := [.int (i + 5), .ref 0, .int (sc.2 (i + 4).toNatClampNeg), .int (sc.2 (i + 3).toNatClampNeg), .int (sc.2 (i + 2).toNatClampNeg), .int (sc.2 (i + 1).toNatClampNeg), .ref 1]) (w' := (hp u fL fD, c, z)) rfl ?_
    refine mg_Ev.sld rfl hb5 ?_
    refine mg_Ev.go 1 (pc' := 728) (loc' := [some (.ref 0), some (.ref 1), some (.ref 43), some (.ref 51), some (.ref 52), some (.int i), none, none, none]) (st' := [.ref 51, .int (sc.2 (i + 5).toNatClampNeg), .int (sc.2 (i + 4).toNatClampNeg), .int (sc.2 (i + 3).toNatClampNeg), .int (sc.2 (i + 2).toNatClampNeg), .int (sc.2 (i + 1).toNatClampNeg), .ref 1]) (w' := (hp u fL fD, c, z)) rfl ?_
    refine mg_Ev.call (y := 231) (as := [.ref 1, .int (sc.2 (i + 1).toNatClampNeg), .int (sc.2 (i + 2).toNatClampNeg), .int (sc.2 (i + 3).toNatClampNeg), .int (sc.2 (i + 4).toNatClampNeg), .int (sc.2 (i + 5).toNatClampNeg), .ref 51]) (rest := []) (v := some (.int 3)) (w1 := (hp u1 fL fD, c + 1, z + 6)) rfl rfl (Nat.le_of_ble_eq_true rfl) ((ev_W_quota_x2 hC).deep (by decide)) ?_
    refine mg_Ev.go 1 (pc' := 733) (loc' := [some (.ref 0), some (.ref 1), some (.ref 43), some (.ref 51), some (.ref 52), some (.int i), some (.int 3), none, none]) (st' := []) (w' := (hp u1 fL fD, c + 1, z + 6)) rfl ?_
    exact ev_opB_7 hb1 hb2 hb3 hb4 hb5 hM hT (fun q => absurd q (by decide)) hr
def Ob_7 (I : mg_Rg → Prop) : Prop := ∀ u, I u → ∀ p1 p2 p3 p4 p5 : Int32, ∃ (t : Int32 ⊕ Nat) (u1 : mg_Rg) (b : Int32) (u2 : mg_Rg) (T : Int32), C_quota p1 p2 p3 p4 p5 u = some (t, u1) ∧ M_quota p1 p2 p3 p4 p5 u1 = some (b, u2) ∧ M_thrown u2 = some T ∧ ((∃ v, t = .inl v ∧ b = v ∧ T = 0) ∨ (t = .inr 0 ∧ T = 1) ∨ (t = .inr 1 ∧ T = 2) ∨ (t = .inr 2 ∧ T = 3)) ∧ I u2
theorem st_op_7 {sc : mg_Sc} {c z : Nat} {fL : Nat → Int64} {fD : Nat → UInt64} {i : Int32} {u : mg_Rg} {Q : mg_R → Prop} {I : mg_Rg → Prop} (O : Ob_7 I) (hu : I u) (hb1 : ¬ ((i + 1) < 0 ∨ sc.1 ≤ (i + 1).toNatClampNeg)) (hb2 : ¬ ((i + 2) < 0 ∨ sc.1 ≤ (i + 2).toNatClampNeg)) (hb3 : ¬ ((i + 3) < 0 ∨ sc.1 ≤ (i + 3).toNatClampNeg)) (hb4 : ¬ ((i + 4) < 0 ∨ sc.1 ≤ (i + 4).toNatClampNeg)) (hb5 : ¬ ((i + 5) < 0 ∨ sc.1 ≤ (i + 5).toNatClampNeg)) (K : ∀ u2 fL fD c1 z1, I u2 → c1 ≤ c + 1 → z1 ≤ z + 6 → ∃ r, mg_Ev sc 11 258 2448 [some (.ref 0), some (.ref 1), some (.ref 43), some (.ref 51), some (.ref 52), some (.int i), none, none, none] [] (hp u2 fL fD, c1, z1) r ∧ Q r) : ∃ r, mg_Ev sc 11 258 696 [some (.ref 0), some (.ref 1), some (.ref 43), some (.ref 51), some (.ref 52), some (.int i), none, none, none] [] (hp u fL fD, c, z) r ∧ Q r := by
  obtain ⟨t, u1, b, u2, T, hC, hM, hT, H, hI⟩ := O u hu (sc.2 (i + 1).toNatClampNeg) (sc.2 (i + 2).toNatClampNeg) (sc.2 (i + 3).toNatClampNeg) (sc.2 (i + 4).toNatClampNeg) (sc.2 (i + 5).toNatClampNeg)
  exact ev_op_7 hb1 hb2 hb3 hb4 hb5 hC hM hT H (fun fL fD c1 z1 h1 h2 => K u2 fL fD c1 z1 hI h1 h2)
set_option maxRecDepth 10000 in
set_option maxHeartbeats 4000000 in
theorem ev_opB_8 {sc : mg_Sc} {c z : Nat} {fL : Nat → Int64} {fD : Nat → UInt64} {i T : Int32} {b : Int32} {u1 u2 : mg_Rg} {r : mg_R} (hb1 : ¬ ((i + 1) < 0 ∨ sc.1 ≤ (i + 1).toNatClampNeg)) (hb2 : ¬ ((i + 2) < 0 ∨ sc.1 ≤ (i + 2).toNatClampNeg)) (hM : M_quotaTold (sc.2 (i + 1).toNatClampNeg) (sc.2 (i + 2).toNatClampNeg) u1 = some (b, u2)) (hT : M_thrown u2 = some T) (hv : T = 0 → fL 0 = b.toInt64) (K : mg_Ev sc 11 258 2448 [some (.ref 0), some (.ref 1), some (.ref 43), some (.ref 51), some (.ref 52), some (.int i), none, none, none] [] (hp u2 fL fD, c, z) r) : mg_Ev sc 11 258 819 [some (.ref 0), some (.ref 1), some (.ref 43), some (.ref 51), some (.ref 52), some (.int i), some (.int T), none, none] [] (hp u1 fL fD, c, z) r := by
  refine mg_Ev.go 5 (pc' := 825) (loc' := [some (.ref 0), some (.ref 1), some (.ref 43), some (.ref 51), some (.ref 52), some (.int i), some (.int T), none, none]) (st' := [.int (i + 1), .ref 0, .ref 43]) (w' := (hp u1 fL fD, c, z)) rfl ?_
  refine mg_Ev.sld rfl hb1 ?_
  refine mg_Ev.go 4 (pc' := 831) (loc' := [some (.ref 0), some (.ref 1), some (.ref 43), some (.ref 51), some (.ref 52), some (.int i), some (.int T), none, none]) (st' := [.int (i + 2), .ref 0, .int (sc.2 (i + 1).toNatClampNeg), .ref 43]) (w' := (hp u1 fL fD, c, z)) rfl ?_
  refine mg_Ev.sld rfl hb2 ?_
  refine mg_Ev.call (y := 83) (as := [.ref 43, .int (sc.2 (i + 1).toNatClampNeg), .int (sc.2 (i + 2).toNatClampNeg)]) (rest := []) (v := some (.int b)) (w1 := (hp u2 fL fD, c, z)) rfl rfl (Nat.le_of_ble_eq_true rfl) ((ev_M_quotaTold hM).deep (by decide)) ?_
  refine mg_Ev.go 2 (pc' := 838) (loc' := [some (.ref 0), some (.ref 1), some (.ref 43), some (.ref 51), some (.ref 52), some (.int i), some (.int T), some (.int b), none]) (st' := [.ref 43]) (w' := (hp u2 fL fD, c, z)) rfl ?_
  refine mg_Ev.call (y := 57) (as := [.ref 43]) (rest := []) (v := some (.int T)) (w1 := (hp u2 fL fD, c, z)) rfl rfl (Nat.le_of_ble_eq_true rfl) ((ev_M_thrown hT).deep (by decide)) ?_
  refine mg_Ev.go 1 (pc' := 843) (loc' := [some (.ref 0), some (.ref 1), some (.ref 43), some (.ref 51), some (.ref 52), some (.int i), some (.int T), some (.int b), none]) (st' := [.int T, .int T]) (w' := (hp u2 fL fD, c, z)) rfl ?_
  refine mg_Ev.br (P := T = T) (t := 848) (nx := 846) (st' := []) rfl rfl rfl rfl (fun _ => ?_) (fun q => absurd rfl q)
  refine mg_Ev.go 1 (pc' := 850) (loc' := [some (.ref 0), some (.ref 1), some (.ref 43), some (.ref 51), some (.ref 52), some (.int i), some (.int T), some (.int b), none]) (st' := [.int T]) (w' := (hp u2 fL fD, c, z)) rfl ?_
  refine mg_Ev.br (P := T = 0) (t := 853) (nx := 865) (st' := []) rfl rfl rfl rfl (fun h0 => ?_) (fun _ => ?_)
  · have h1 := hv h0
    refine mg_Ev.go 2 (pc' := 855) (loc' := [some (.ref 0), some (.ref 1), some (.ref 43), some (.ref 51), some (.ref 52), some (.int i), some (.int T), some (.int b), none]) (st' := [.int 0, .ref 51]) (w' := (hp u2 fL fD, c, z)) rfl ?_
    refine mg_Ev.lald (a := 50) (n := 1) (f := fL) (j := 0) rfl (hpg_50 _ _ _) (by decide) (by decide) ?_
    rw [h1]
    refine mg_Ev.go 3 (pc' := 860) (loc' := [some (.ref 0), some (.ref 1), some (.ref 43), some (.ref 51), some (.ref 52), some (.int i), some (.int T), some (.int b), none]) (st' := [.int (lg_cmp b.toInt64 b.toInt64)]) (w' := (hp u2 fL fD, c, z)) rfl ?_
    refine mg_Ev.br (P := lg_cmp b.toInt64 b.toInt64 = 0) (t := 865) (nx := 863) (st' := []) rfl rfl rfl rfl (fun _ => ?_) (fun q => absurd (mg_lcmp _) q)
    refine mg_Ev.go 1 (pc' := 2448) (loc' := [some (.ref 0), some (.ref 1), some (.ref 43), some (.ref 51), some (.ref 52), some (.int i), some (.int T), some (.int b), none]) (st' := []) (w' := (hp u2 fL fD, c, z)) rfl ?_
    exact mg_Ev.more K ⟨rfl, ⟨rfl, ⟨rfl, ⟨rfl, ⟨rfl, ⟨rfl, trivial⟩⟩⟩⟩⟩⟩
  · refine mg_Ev.go 1 (pc' := 2448) (loc' := [some (.ref 0), some (.ref 1), some (.ref 43), some (.ref 51), some (.ref 52), some (.int i), some (.int T), some (.int b), none]) (st' := []) (w' := (hp u2 fL fD, c, z)) rfl ?_
    exact mg_Ev.more K ⟨rfl, ⟨rfl, ⟨rfl, ⟨rfl, ⟨rfl, ⟨rfl, trivial⟩⟩⟩⟩⟩⟩
set_option maxRecDepth 10000 in
set_option maxHeartbeats 4000000 in
theorem ev_op_8 {sc : mg_Sc} {c z : Nat} {fL : Nat → Int64} {fD : Nat → UInt64} {i T : Int32} {b : Int32} {t : Int32 ⊕ Nat} {u u1 u2 : mg_Rg} {Q : mg_R → Prop} (hb1 : ¬ ((i + 1) < 0 ∨ sc.1 ≤ (i + 1).toNatClampNeg)) (hb2 : ¬ ((i + 2) < 0 ∨ sc.1 ≤ (i + 2).toNatClampNeg)) (hC : C_quotaTold (sc.2 (i + 1).toNatClampNeg) (sc.2 (i + 2).toNatClampNeg) u = some (t, u1)) (hM : M_quotaTold (sc.2 (i + 1).toNatClampNeg) (sc.2 (i + 2).toNatClampNeg) u1 = some (b, u2)) (hT : M_thrown u2 = some T) (H : (∃ v, t = .inl v ∧ b = v ∧ T = 0) ∨ (t = .inr 0 ∧ T = 1) ∨ (t = .inr 1 ∧ T = 2)) (K : ∀ fL fD c1 z1, c1 ≤ c + 1 → z1 ≤ z + 6 → ∃ r, mg_Ev sc 11 258 2448 [some (.ref 0), some (.ref 1), some (.ref 43), some (.ref 51), some (.ref 52), some (.int i), none, none, none] [] (hp u2 fL fD, c1, z1) r ∧ Q r) : ∃ r, mg_Ev sc 11 258 800 [some (.ref 0), some (.ref 1), some (.ref 43), some (.ref 51), some (.ref 52), some (.int i), none, none, none] [] (hp u fL fD, c, z) r ∧ Q r := by
  rcases H with ⟨v, rfl, rfl, rfl⟩ | ⟨rfl, rfl⟩ | ⟨rfl, rfl⟩
  · obtain ⟨r, hr, hQ⟩ := K (vp_updL fL 0 b.toInt64) fD c z (Nat.le_succ _) (Nat.le_add_right _ _)
    refine ⟨r, ?_, hQ⟩
    refine mg_Ev.go 5 (pc' := 806) (loc' := [some (.ref 0), some (.ref 1), some (.ref 43), some (.ref 51), some (.ref 52), some (.int i), none, none, none]) (st' := [.int (i + 1), .ref 0, .ref 1]) (w' := (hp u fL fD, c, z)) rfl ?_
    refine mg_Ev.sld rfl hb1 ?_
    refine mg_Ev.go 4 (pc' := 812) (loc' := [some (.ref 0), some (.ref 1), some (.ref 43), some (.ref 51), some (.ref 52), some (.int i), none, none, none]) (st' := [.int (i + 2), .ref 0, .int (sc.2 (i + 1).toNatClampNeg), .ref 1]) (w' := (hp u fL fD, c, z)) rfl ?_
    refine mg_Ev.sld rfl hb2 ?_
    refine mg_Ev.go 1 (pc' := 814) (loc' := [some (.ref 0), some (.ref 1), some (.ref 43), some (.ref 51), some (.ref 52), some (.int i), none, none, none]) (st' := [.ref 51, .int (sc.2 (i + 2).toNatClampNeg), .int (sc.2 (i + 1).toNatClampNeg), .ref 1]) (w' := (hp u fL fD, c, z)) rfl ?_
    refine mg_Ev.call (y := 232) (as := [.ref 1, .int (sc.2 (i + 1).toNatClampNeg), .int (sc.2 (i + 2).toNatClampNeg), .ref 51]) (rest := []) (v := some (.int 0)) (w1 := (hp u1 (vp_updL fL 0 b.toInt64) fD, c, z)) rfl rfl (Nat.le_of_ble_eq_true rfl) ((ev_W_quotaTold_ok hC).deep (by decide)) ?_
    refine mg_Ev.go 1 (pc' := 819) (loc' := [some (.ref 0), some (.ref 1), some (.ref 43), some (.ref 51), some (.ref 52), some (.int i), some (.int 0), none, none]) (st' := []) (w' := (hp u1 (vp_updL fL 0 b.toInt64) fD, c, z)) rfl ?_
    exact ev_opB_8 hb1 hb2 hM hT (fun _ => rfl) hr
  · obtain ⟨r, hr, hQ⟩ := K fL fD (c + 1) (z + 6) (Nat.le_refl _) (Nat.le_refl _)
    refine ⟨r, ?_, hQ⟩
    refine mg_Ev.go 5 (pc' := 806) (loc' := [some (.ref 0), some (.ref 1), some (.ref 43), some (.ref 51), some (.ref 52), some (.int i), none, none, none]) (st' := [.int (i + 1), .ref 0, .ref 1]) (w' := (hp u fL fD, c, z)) rfl ?_
    refine mg_Ev.sld rfl hb1 ?_
    refine mg_Ev.go 4 (pc' := 812) (loc' := [some (.ref 0), some (.ref 1), some (.ref 43), some (.ref 51), some (.ref 52), some (.int i), none, none, none]) (st' := [.int (i + 2), .ref 0, .int (sc.2 (i + 1).toNatClampNeg), .ref 1]) (w' := (hp u fL fD, c, z)) rfl ?_
    refine mg_Ev.sld rfl hb2 ?_
    refine mg_Ev.go 1 (pc' := 814) (loc' := [some (.ref 0), some (.ref 1), some (.ref 43), some (.ref 51), some (.ref 52), some (.int i), none, none, none]) (st' := [.ref 51, .int (sc.2 (i + 2).toNatClampNeg), .int (sc.2 (i + 1).toNatClampNeg), .ref 1]) (w' := (hp u fL fD, c, z)) rfl ?_
    refine mg_Ev.call (y := 232) (as := [.ref 1, .int (sc.2 (i + 1).toNatClampNeg), .int (sc.2 (i + 2).toNatClampNeg), .ref 51]) (rest := []) (v := some (.int 1)) (w1 := (hp u1 fL fD, c + 1, z + 6)) rfl rfl (Nat.le_of_ble_eq_true rfl) ((ev_W_quotaTold_x0 hC).deep (by decide)) ?_
    refine mg_Ev.go 1 (pc' := 819) (loc' := [some (.ref 0), some (.ref 1), some (.ref 43), some (.ref 51), some (.ref 52), some (.int i), some (.int 1), none, none]) (st' := []) (w' := (hp u1 fL fD, c + 1, z + 6)) rfl ?_
    exact ev_opB_8 hb1 hb2 hM hT (fun q => absurd q (by decide)) hr
  · obtain ⟨r, hr, hQ⟩ := K fL fD (c + 1) (z + 6) (Nat.le_refl _) (Nat.le_refl _)
    refine ⟨r, ?_, hQ⟩
    refine mg_Ev.go 5 (pc' := 806) (loc' := [some (.ref 0), some (.ref 1), some (.ref 43), some (.ref 51), some (.ref 52), some (.int i), none, none, none]) (st' := [.int (i + 1), .ref 0, .ref 1]) (w' := (hp u fL fD, c, z)) rfl ?_
    refine mg_Ev.sld rfl hb1 ?_
    refine mg_Ev.go 4 (pc' := 812) (loc' := [some (.ref 0), some (.ref 1), some (.ref 43), some (.ref 51), some (.ref 52), some (.int i), none, none, none]) (st' := [.int (i + 2), .ref 0, .int (sc.2 (i + 1).toNatClampNeg), .ref 1]) (w' := (hp u fL fD, c, z)) rfl ?_
    refine mg_Ev.sld rfl hb2 ?_
    refine mg_Ev.go 1 (pc' := 814) (loc' := [some (.ref 0), some (.ref 1), some (.ref 43), some (.ref 51), some (.ref 52), some (.int i), none, none, none]) (st' := [.ref 51, .int (sc.2 (i + 2).toNatClampNeg), .int (sc.2 (i + 1).toNatClampNeg), .ref 1]) (w' := (hp u fL fD, c, z)) rfl ?_
    refine mg_Ev.call (y := 232) (as := [.ref 1, .int (sc.2 (i + 1).toNatClampNeg), .int (sc.2 (i + 2).toNatClampNeg), .ref 51]) (rest := []) (v := some (.int 2)) (w1 := (hp u1 fL fD, c + 1, z + 6)) rfl rfl (Nat.le_of_ble_eq_true rfl) ((ev_W_quotaTold_x1 hC).deep (by decide)) ?_
    refine mg_Ev.go 1 (pc' := 819) (loc' := [some (.ref 0), some (.ref 1), some (.ref 43), some (.ref 51), some (.ref 52), some (.int i), some (.int 2), none, none]) (st' := []) (w' := (hp u1 fL fD, c + 1, z + 6)) rfl ?_
    exact ev_opB_8 hb1 hb2 hM hT (fun q => absurd q (by decide)) hr
def Ob_8 (I : mg_Rg → Prop) : Prop := ∀ u, I u → ∀ p1 p2 : Int32, ∃ (t : Int32 ⊕ Nat) (u1 : mg_Rg) (b : Int32) (u2 : mg_Rg) (T : Int32), C_quotaTold p1 p2 u = some (t, u1) ∧ M_quotaTold p1 p2 u1 = some (b, u2) ∧ M_thrown u2 = some T ∧ ((∃ v, t = .inl v ∧ b = v ∧ T = 0) ∨ (t = .inr 0 ∧ T = 1) ∨ (t = .inr 1 ∧ T = 2)) ∧ I u2
theorem st_op_8 {sc : mg_Sc} {c z : Nat} {fL : Nat → Int64} {fD : Nat → UInt64} {i : Int32} {u : mg_Rg} {Q : mg_R → Prop} {I : mg_Rg → Prop} (O : Ob_8 I) (hu : I u) (hb1 : ¬ ((i + 1) < 0 ∨ sc.1 ≤ (i + 1).toNatClampNeg)) (hb2 : ¬ ((i + 2) < 0 ∨ sc.1 ≤ (i + 2).toNatClampNeg)) (K : ∀ u2 fL fD c1 z1, I u2 → c1 ≤ c + 1 → z1 ≤ z + 6 → ∃ r, mg_Ev sc 11 258 2448 [some (.ref 0), some (.ref 1), some (.ref 43), some (.ref 51), some (.ref 52), some (.int i), none, none, none] [] (hp u2 fL fD, c1, z1) r ∧ Q r) : ∃ r, mg_Ev sc 11 258 800 [some (.ref 0), some (.ref 1), some (.ref 43), some (.ref 51), some (.ref 52), some (.int i), none, none, none] [] (hp u fL fD, c, z) r ∧ Q r := by
  obtain ⟨t, u1, b, u2, T, hC, hM, hT, H, hI⟩ := O u hu (sc.2 (i + 1).toNatClampNeg) (sc.2 (i + 2).toNatClampNeg)
  exact ev_op_8 hb1 hb2 hC hM hT H (fun fL fD c1 z1 h1 h2 => K u2 fL fD c1 z1 hI h1 h2)
set_option maxRecDepth 10000 in
set_option maxHeartbeats 4000000 in
theorem ev_opB_9 {sc : mg_Sc} {c z : Nat} {fL : Nat → Int64} {fD : Nat → UInt64} {i T : Int32} {b : Int32} {u1 u2 : mg_Rg} {r : mg_R} (hb1 : ¬ ((i + 1) < 0 ∨ sc.1 ≤ (i + 1).toNatClampNeg)) (hb2 : ¬ ((i + 2) < 0 ∨ sc.1 ≤ (i + 2).toNatClampNeg)) (hM : M_set (sc.2 (i + 1).toNatClampNeg) (sc.2 (i + 2).toNatClampNeg) u1 = some (b, u2)) (hT : M_thrown u2 = some T) (hv : T = 0 → fL 0 = b.toInt64) (K : mg_Ev sc 11 258 2448 [some (.ref 0), some (.ref 1), some (.ref 43), some (.ref 51), some (.ref 52), some (.int i), none, none, none] [] (hp u2 fL fD, c, z) r) : mg_Ev sc 11 258 887 [some (.ref 0), some (.ref 1), some (.ref 43), some (.ref 51), some (.ref 52), some (.int i), some (.int T), none, none] [] (hp u1 fL fD, c, z) r := by
  refine mg_Ev.go 5 (pc' := 893) (loc' := [some (.ref 0), some (.ref 1), some (.ref 43), some (.ref 51), some (.ref 52), some (.int i), some (.int T), none, none]) (st' := [.int (i + 1), .ref 0, .ref 43]) (w' := (hp u1 fL fD, c, z)) rfl ?_
  refine mg_Ev.sld rfl hb1 ?_
  refine mg_Ev.go 4 (pc' := 899) (loc' := [some (.ref 0), some (.ref 1), some (.ref 43), some (.ref 51), some (.ref 52), some (.int i), some (.int T), none, none]) (st' := [.int (i + 2), .ref 0, .int (sc.2 (i + 1).toNatClampNeg), .ref 43]) (w' := (hp u1 fL fD, c, z)) rfl ?_
  refine mg_Ev.sld rfl hb2 ?_
  refine mg_Ev.call (y := 84) (as := [.ref 43, .int (sc.2 (i + 1).toNatClampNeg), .int (sc.2 (i + 2).toNatClampNeg)]) (rest := []) (v := some (.int b)) (w1 := (hp u2 fL fD, c, z)) rfl rfl (Nat.le_of_ble_eq_true rfl) ((ev_M_set hM).deep (by decide)) ?_
  refine mg_Ev.go 2 (pc' := 906) (loc' := [some (.ref 0), some (.ref 1), some (.ref 43), some (.ref 51), some (.ref 52), some (.int i), some (.int T), some (.int b), none]) (st' := [.ref 43]) (w' := (hp u2 fL fD, c, z)) rfl ?_
  refine mg_Ev.call (y := 57) (as := [.ref 43]) (rest := []) (v := some (.int T)) (w1 := (hp u2 fL fD, c, z)) rfl rfl (Nat.le_of_ble_eq_true rfl) ((ev_M_thrown hT).deep (by decide)) ?_
  refine mg_Ev.go 1 (pc' := 911) (loc' := [some (.ref 0), some (.ref 1), some (.ref 43), some (.ref 51), some (.ref 52), some (.int i), some (.int T), some (.int b), none]) (st' := [.int T, .int T]) (w' := (hp u2 fL fD, c, z)) rfl ?_
  refine mg_Ev.br (P := T = T) (t := 916) (nx := 914) (st' := []) rfl rfl rfl rfl (fun _ => ?_) (fun q => absurd rfl q)
  refine mg_Ev.go 1 (pc' := 918) (loc' := [some (.ref 0), some (.ref 1), some (.ref 43), some (.ref 51), some (.ref 52), some (.int i), some (.int T), some (.int b), none]) (st' := [.int T]) (w' := (hp u2 fL fD, c, z)) rfl ?_
  refine mg_Ev.br (P := T = 0) (t := 921) (nx := 933) (st' := []) rfl rfl rfl rfl (fun h0 => ?_) (fun _ => ?_)
  · have h1 := hv h0
    refine mg_Ev.go 2 (pc' := 923) (loc' := [some (.ref 0), some (.ref 1), some (.ref 43), some (.ref 51), some (.ref 52), some (.int i), some (.int T), some (.int b), none]) (st' := [.int 0, .ref 51]) (w' := (hp u2 fL fD, c, z)) rfl ?_
    refine mg_Ev.lald (a := 50) (n := 1) (f := fL) (j := 0) rfl (hpg_50 _ _ _) (by decide) (by decide) ?_
    rw [h1]
    refine mg_Ev.go 3 (pc' := 928) (loc' := [some (.ref 0), some (.ref 1), some (.ref 43), some (.ref 51), some (.ref 52), some (.int i), some (.int T), some (.int b), none]) (st' := [.int (lg_cmp b.toInt64 b.toInt64)]) (w' := (hp u2 fL fD, c, z)) rfl ?_
    refine mg_Ev.br (P := lg_cmp b.toInt64 b.toInt64 = 0) (t := 933) (nx := 931) (st' := []) rfl rfl rfl rfl (fun _ => ?_) (fun q => absurd (mg_lcmp _) q)
    refine mg_Ev.go 1 (pc' := 2448) (loc' := [some (.ref 0), some (.ref 1), some (.ref 43), some (.ref 51), some (.ref 52), some (.int i), some (.int T), some (.int b), none]) (st' := []) (w' := (hp u2 fL fD, c, z)) rfl ?_
    exact mg_Ev.more K ⟨rfl, ⟨rfl, ⟨rfl, ⟨rfl, ⟨rfl, ⟨rfl, trivial⟩⟩⟩⟩⟩⟩
  · refine mg_Ev.go 1 (pc' := 2448) (loc' := [some (.ref 0), some (.ref 1), some (.ref 43), some (.ref 51), some (.ref 52), some (.int i), some (.int T), some (.int b), none]) (st' := []) (w' := (hp u2 fL fD, c, z)) rfl ?_
    exact mg_Ev.more K ⟨rfl, ⟨rfl, ⟨rfl, ⟨rfl, ⟨rfl, ⟨rfl, trivial⟩⟩⟩⟩⟩⟩
set_option maxRecDepth 10000 in
set_option maxHeartbeats 4000000 in
theorem ev_op_9 {sc : mg_Sc} {c z : Nat} {fL : Nat → Int64} {fD : Nat → UInt64} {i T : Int32} {b : Int32} {t : Int32 ⊕ Nat} {u u1 u2 : mg_Rg} {Q : mg_R → Prop} (hb1 : ¬ ((i + 1) < 0 ∨ sc.1 ≤ (i + 1).toNatClampNeg)) (hb2 : ¬ ((i + 2) < 0 ∨ sc.1 ≤ (i + 2).toNatClampNeg)) (hC : C_set (sc.2 (i + 1).toNatClampNeg) (sc.2 (i + 2).toNatClampNeg) u = some (t, u1)) (hM : M_set (sc.2 (i + 1).toNatClampNeg) (sc.2 (i + 2).toNatClampNeg) u1 = some (b, u2)) (hT : M_thrown u2 = some T) (H : (∃ v, t = .inl v ∧ b = v ∧ T = 0) ∨ (t = .inr 1 ∧ T = 1)) (K : ∀ fL fD c1 z1, c1 ≤ c + 1 → z1 ≤ z + 6 → ∃ r, mg_Ev sc 11 258 2448 [some (.ref 0), some (.ref 1), some (.ref 43), some (.ref 51), some (.ref 52), some (.int i), none, none, none] [] (hp u2 fL fD, c1, z1) r ∧ Q r) : ∃ r, mg_Ev sc 11 258 868 [some (.ref 0), some (.ref 1), some (.ref 43), some (.ref 51), some (.ref 52), some (.int i), none, none, none] [] (hp u fL fD, c, z) r ∧ Q r := by
  rcases H with ⟨v, rfl, rfl, rfl⟩ | ⟨rfl, rfl⟩
  · obtain ⟨r, hr, hQ⟩ := K (vp_updL fL 0 b.toInt64) fD c z (Nat.le_succ _) (Nat.le_add_right _ _)
    refine ⟨r, ?_, hQ⟩
    refine mg_Ev.go 5 (pc' := 874) (loc' := [some (.ref 0), some (.ref 1), some (.ref 43), some (.ref 51), some (.ref 52), some (.int i), none, none, none]) (st' := [.int (i + 1), .ref 0, .ref 1]) (w' := (hp u fL fD, c, z)) rfl ?_
    refine mg_Ev.sld rfl hb1 ?_
    refine mg_Ev.go 4 (pc' := 880) (loc' := [some (.ref 0), some (.ref 1), some (.ref 43), some (.ref 51), some (.ref 52), some (.int i), none, none, none]) (st' := [.int (i + 2), .ref 0, .int (sc.2 (i + 1).toNatClampNeg), .ref 1]) (w' := (hp u fL fD, c, z)) rfl ?_
    refine mg_Ev.sld rfl hb2 ?_
    refine mg_Ev.go 1 (pc' := 882) (loc' := [some (.ref 0), some (.ref 1), some (.ref 43), some (.ref 51), some (.ref 52), some (.int i), none, none, none]) (st' := [.ref 51, .int (sc.2 (i + 2).toNatClampNeg), .int (sc.2 (i + 1).toNatClampNeg), .ref 1]) (w' := (hp u fL fD, c, z)) rfl ?_
    refine mg_Ev.call (y := 233) (as := [.ref 1, .int (sc.2 (i + 1).toNatClampNeg), .int (sc.2 (i + 2).toNatClampNeg), .ref 51]) (rest := []) (v := some (.int 0)) (w1 := (hp u1 (vp_updL fL 0 b.toInt64) fD, c, z)) rfl rfl (Nat.le_of_ble_eq_true rfl) ((ev_W_set_ok hC).deep (by decide)) ?_
    refine mg_Ev.go 1 (pc' := 887) (loc' := [some (.ref 0), some (.ref 1), some (.ref 43), some (.ref 51), some (.ref 52), some (.int i), some (.int 0), none, none]) (st' := []) (w' := (hp u1 (vp_updL fL 0 b.toInt64) fD, c, z)) rfl ?_
    exact ev_opB_9 hb1 hb2 hM hT (fun _ => rfl) hr
  · obtain ⟨r, hr, hQ⟩ := K fL fD (c + 1) (z + 6) (Nat.le_refl _) (Nat.le_refl _)
    refine ⟨r, ?_, hQ⟩
    refine mg_Ev.go 5 (pc' := 874) (loc' := [some (.ref 0), some (.ref 1), some (.ref 43), some (.ref 51), some (.ref 52), some (.int i), none, none, none]) (st' := [.int (i + 1), .ref 0, .ref 1]) (w' := (hp u fL fD, c, z)) rfl ?_
    refine mg_Ev.sld rfl hb1 ?_
    refine mg_Ev.go 4 (pc' := 880) (loc' := [some (.ref 0), some (.ref 1), some (.ref 43), some (.ref 51), some (.ref 52), some (.int i), none, none, none]) (st' := [.int (i + 2), .ref 0, .int (sc.2 (i + 1).toNatClampNeg), .ref 1]) (w' := (hp u fL fD, c, z)) rfl ?_
    refine mg_Ev.sld rfl hb2 ?_
    refine mg_Ev.go 1 (pc' := 882) (loc' := [some (.ref 0), some (.ref 1), some (.ref 43), some (.ref 51), some (.ref 52), some (.int i), none, none, none]) (st' := [.ref 51, .int (sc.2 (i + 2).toNatClampNeg), .int (sc.2 (i + 1).toNatClampNeg), .ref 1]) (w' := (hp u fL fD, c, z)) rfl ?_
    refine mg_Ev.call (y := 233) (as := [.ref 1, .int (sc.2 (i + 1).toNatClampNeg), .int (sc.2 (i + 2).toNatClampNeg), .ref 51]) (rest := []) (v := some (.int 1)) (w1 := (hp u1 fL fD, c + 1, z + 6)) rfl rfl (Nat.le_of_ble_eq_true rfl) ((ev_W_set_x1 hC).deep (by decide)) ?_
    refine mg_Ev.go 1 (pc' := 887) (loc' := [some (.ref 0), some (.ref 1), some (.ref 43), some (.ref 51), some (.ref 52), some (.int i), some (.int 1), none, none]) (st' := []) (w' := (hp u1 fL fD, c + 1, z + 6)) rfl ?_
    exact ev_opB_9 hb1 hb2 hM hT (fun q => absurd q (by decide)) hr
def Ob_9 (I : mg_Rg → Prop) : Prop := ∀ u, I u → ∀ p1 p2 : Int32, ∃ (t : Int32 ⊕ Nat) (u1 : mg_Rg) (b : Int32) (u2 : mg_Rg) (T : Int32), C_set p1 p2 u = some (t, u1) ∧ M_set p1 p2 u1 = some (b, u2) ∧ M_thrown u2 = some T ∧ ((∃ v, t = .inl v ∧ b = v ∧ T = 0) ∨ (t = .inr 1 ∧ T = 1)) ∧ I u2
theorem st_op_9 {sc : mg_Sc} {c z : Nat} {fL : Nat → Int64} {fD : Nat → UInt64} {i : Int32} {u : mg_Rg} {Q : mg_R → Prop} {I : mg_Rg → Prop} (O : Ob_9 I) (hu : I u) (hb1 : ¬ ((i + 1) < 0 ∨ sc.1 ≤ (i + 1).toNatClampNeg)) (hb2 : ¬ ((i + 2) < 0 ∨ sc.1 ≤ (i + 2).toNatClampNeg)) (K : ∀ u2 fL fD c1 z1, I u2 → c1 ≤ c + 1 → z1 ≤ z + 6 → ∃ r, mg_Ev sc 11 258 2448 [some (.ref 0), some (.ref 1), some (.ref 43), some (.ref 51), some (.ref 52), some (.int i), none, none, none] [] (hp u2 fL fD, c1, z1) r ∧ Q r) : ∃ r, mg_Ev sc 11 258 868 [some (.ref 0), some (.ref 1), some (.ref 43), some (.ref 51), some (.ref 52), some (.int i), none, none, none] [] (hp u fL fD, c, z) r ∧ Q r := by
  obtain ⟨t, u1, b, u2, T, hC, hM, hT, H, hI⟩ := O u hu (sc.2 (i + 1).toNatClampNeg) (sc.2 (i + 2).toNatClampNeg)
  exact ev_op_9 hb1 hb2 hC hM hT H (fun fL fD c1 z1 h1 h2 => K u2 fL fD c1 z1 hI h1 h2)
set_option maxRecDepth 10000 in
set_option maxHeartbeats 4000000 in
theorem ev_opB_10 {sc : mg_Sc} {c z : Nat} {fL : Nat → Int64} {fD : Nat → UInt64} {i T : Int32} {b : Int32} {u1 u2 : mg_Rg} {r : mg_R} (hb1 : ¬ ((i + 1) < 0 ∨ sc.1 ≤ (i + 1).toNatClampNeg)) (hb2 : ¬ ((i + 2) < 0 ∨ sc.1 ≤ (i + 2).toNatClampNeg)) (hb3 : ¬ ((i + 3) < 0 ∨ sc.1 ≤ (i + 3).toNatClampNeg)) (hb4 : ¬ ((i + 4) < 0 ∨ sc.1 ≤ (i + 4).toNatClampNeg)) (hM : M_rateOf (sc.2 (i + 1).toNatClampNeg) (sc.2 (i + 2).toNatClampNeg) (sc.2 (i + 3).toNatClampNeg) (sc.2 (i + 4).toNatClampNeg) u1 = some (b, u2)) (hT : M_thrown u2 = some T) (hv : T = 0 → fL 0 = b.toInt64) (K : mg_Ev sc 11 258 2448 [some (.ref 0), some (.ref 1), some (.ref 43), some (.ref 51), some (.ref 52), some (.int i), none, none, none] [] (hp u2 fL fD, c, z) r) : mg_Ev sc 11 258 967 [some (.ref 0), some (.ref 1), some (.ref 43), some (.ref 51), some (.ref 52), some (.int i), some (.int T), none, none] [] (hp u1 fL fD, c, z) r := by
  refine mg_Ev.go 5 (pc' := 973) (loc' := [some (.ref 0), some (.ref 1), some (.ref 43), some (.ref 51), some (.ref 52), some (.int i), some (.int T), none, none]) (st' := [.int (i + 1), .ref 0, .ref 43]) (w' := (hp u1 fL fD, c, z)) rfl ?_
  refine mg_Ev.sld rfl hb1 ?_
  refine mg_Ev.go 4 (pc' := 979) (loc' := [some (.ref 0), some (.ref 1), some (.ref 43), some (.ref 51), some (.ref 52), some (.int i), some (.int T), none, none]) (st' := [.int (i + 2), .ref 0, .int (sc.2 (i + 1).toNatClampNeg), .ref 43]) (w' := (hp u1 fL fD, c, z)) rfl ?_
  refine mg_Ev.sld rfl hb2 ?_
  refine mg_Ev.go 4 (pc' := 985) (loc' := [some (.ref 0), some (.ref 1), some (.ref 43), some (.ref 51), some (.ref 52), some (.int i), some (.int T), none, none]) (st' := [.int (i + 3), .ref 0, .int (sc.2 (i + 2).toNatClampNeg), .int (sc.2 (i + 1).toNatClampNeg), .ref 43]) (w' := (hp u1 fL fD, c, z)) rfl ?_
  refine mg_Ev.sld rfl hb3 ?_
  refine mg_Ev.go 4 (pc' := 991) (loc' := [some (.ref 0), some (.ref 1), some (.ref 43), some (.ref 51), some (.ref 52), some (.int i), some (.int T), none, none]) (st' := [.int (i + 4), .ref 0, .int (sc.2 (i + 3).toNatClampNeg), .int (sc.2 (i + 2).toNatClampNeg), .int (sc.2 (i + 1).toNatClampNeg), .ref 43]) (w' := (hp u1 fL fD, c, z)) rfl ?_
  refine mg_Ev.sld rfl hb4 ?_
  refine mg_Ev.call (y := 92) (as := [.ref 43, .int (sc.2 (i + 1).toNatClampNeg), .int (sc.2 (i + 2).toNatClampNeg), .int (sc.2 (i + 3).toNatClampNeg), .int (sc.2 (i + 4).toNatClampNeg)]) (rest := []) (v := some (.int b)) (w1 := (hp u2 fL fD, c, z)) rfl rfl (Nat.le_of_ble_eq_true rfl) ((ev_M_rateOf hM).deep (by decide)) ?_
  refine mg_Ev.go 2 (pc' := 998) (loc' := [some (.ref 0), some (.ref 1), some (.ref 43), some (.ref 51), some (.ref 52), some (.int i), some (.int T), some (.int b), none]) (st' := [.ref 43]) (w' := (hp u2 fL fD, c, z)) rfl ?_
  refine mg_Ev.call (y := 57) (as := [.ref 43]) (rest := []) (v := some (.int T)) (w1 := (hp u2 fL fD, c, z)) rfl rfl (Nat.le_of_ble_eq_true rfl) ((ev_M_thrown hT).deep (by decide)) ?_
  refine mg_Ev.go 1 (pc' := 1003) (loc' := [some (.ref 0), some (.ref 1), some (.ref 43), some (.ref 51), some (.ref 52), some (.int i), some (.int T), some (.int b), none]) (st' := [.int T, .int T]) (w' := (hp u2 fL fD, c, z)) rfl ?_
  refine mg_Ev.br (P := T = T) (t := 1008) (nx := 1006) (st' := []) rfl rfl rfl rfl (fun _ => ?_) (fun q => absurd rfl q)
  refine mg_Ev.go 1 (pc' := 1010) (loc' := [some (.ref 0), some (.ref 1), some (.ref 43), some (.ref 51), some (.ref 52), some (.int i), some (.int T), some (.int b), none]) (st' := [.int T]) (w' := (hp u2 fL fD, c, z)) rfl ?_
  refine mg_Ev.br (P := T = 0) (t := 1013) (nx := 1025) (st' := []) rfl rfl rfl rfl (fun h0 => ?_) (fun _ => ?_)
  · have h1 := hv h0
    refine mg_Ev.go 2 (pc' := 1015) (loc' := [some (.ref 0), some (.ref 1), some (.ref 43), some (.ref 51), some (.ref 52), some (.int i), some (.int T), some (.int b), none]) (st' := [.int 0, .ref 51]) (w' := (hp u2 fL fD, c, z)) rfl ?_
    refine mg_Ev.lald (a := 50) (n := 1) (f := fL) (j := 0) rfl (hpg_50 _ _ _) (by decide) (by decide) ?_
    rw [h1]
    refine mg_Ev.go 3 (pc' := 1020) (loc' := [some (.ref 0), some (.ref 1), some (.ref 43), some (.ref 51), some (.ref 52), some (.int i), some (.int T), some (.int b), none]) (st' := [.int (lg_cmp b.toInt64 b.toInt64)]) (w' := (hp u2 fL fD, c, z)) rfl ?_
    refine mg_Ev.br (P := lg_cmp b.toInt64 b.toInt64 = 0) (t := 1025) (nx := 1023) (st' := []) rfl rfl rfl rfl (fun _ => ?_) (fun q => absurd (mg_lcmp _) q)
    refine mg_Ev.go 1 (pc' := 2448) (loc' := [some (.ref 0), some (.ref 1), some (.ref 43), some (.ref 51), some (.ref 52), some (.int i), some (.int T), some (.int b), none]) (st' := []) (w' := (hp u2 fL fD, c, z)) rfl ?_
    exact mg_Ev.more K ⟨rfl, ⟨rfl, ⟨rfl, ⟨rfl, ⟨rfl, ⟨rfl, trivial⟩⟩⟩⟩⟩⟩
  · refine mg_Ev.go 1 (pc' := 2448) (loc' := [some (.ref 0), some (.ref 1), some (.ref 43), some (.ref 51), some (.ref 52), some (.int i), some (.int T), some (.int b), none]) (st' := []) (w' := (hp u2 fL fD, c, z)) rfl ?_
    exact mg_Ev.more K ⟨rfl, ⟨rfl, ⟨rfl, ⟨rfl, ⟨rfl, ⟨rfl, trivial⟩⟩⟩⟩⟩⟩
set_option maxRecDepth 10000 in
set_option maxHeartbeats 4000000 in
theorem ev_op_10 {sc : mg_Sc} {c z : Nat} {fL : Nat → Int64} {fD : Nat → UInt64} {i T : Int32} {b : Int32} {t : Int32 ⊕ Nat} {u u1 u2 : mg_Rg} {Q : mg_R → Prop} (hb1 : ¬ ((i + 1) < 0 ∨ sc.1 ≤ (i + 1).toNatClampNeg)) (hb2 : ¬ ((i + 2) < 0 ∨ sc.1 ≤ (i + 2).toNatClampNeg)) (hb3 : ¬ ((i + 3) < 0 ∨ sc.1 ≤ (i + 3).toNatClampNeg)) (hb4 : ¬ ((i + 4) < 0 ∨ sc.1 ≤ (i + 4).toNatClampNeg)) (hC : C_rateOf (sc.2 (i + 1).toNatClampNeg) (sc.2 (i + 2).toNatClampNeg) (sc.2 (i + 3).toNatClampNeg) (sc.2 (i + 4).toNatClampNeg) u = some (t, u1)) (hM : M_rateOf (sc.2 (i + 1).toNatClampNeg) (sc.2 (i + 2).toNatClampNeg) (sc.2 (i + 3).toNatClampNeg) (sc.2 (i + 4).toNatClampNeg) u1 = some (b, u2)) (hT : M_thrown u2 = some T) (H : (∃ v, t = .inl v ∧ b = v ∧ T = 0) ∨ (t = .inr 0 ∧ T = 1) ∨ (t = .inr 1 ∧ T = 2)) (K : ∀ fL fD c1 z1, c1 ≤ c + 1 → z1 ≤ z + 6 → ∃ r, mg_Ev sc 11 258 2448 [some (.ref 0), some (.ref 1), some (.ref 43), some (.ref 51), some (.ref 52), some (.int i), none, none, none] [] (hp u2 fL fD, c1, z1) r ∧ Q r) : ∃ r, mg_Ev sc 11 258 936 [some (.ref 0), some (.ref 1), some (.ref 43), some (.ref 51), some (.ref 52), some (.int i), none, none, none] [] (hp u fL fD, c, z) r ∧ Q r := by
  rcases H with ⟨v, rfl, rfl, rfl⟩ | ⟨rfl, rfl⟩ | ⟨rfl, rfl⟩
  · obtain ⟨r, hr, hQ⟩ := K (vp_updL fL 0 b.toInt64) fD c z (Nat.le_succ _) (Nat.le_add_right _ _)
    refine ⟨r, ?_, hQ⟩
    refine mg_Ev.go 5 (pc' := 942) (loc' := [some (.ref 0), some (.ref 1), some (.ref 43), some (.ref 51), some (.ref 52), some (.int i), none, none, none]) (st' := [.int (i + 1), .ref 0, .ref 1]) (w' := (hp u fL fD, c, z)) rfl ?_
    refine mg_Ev.sld rfl hb1 ?_
    refine mg_Ev.go 4 (pc' := 948) (loc' := [some (.ref 0), some (.ref 1), some (.ref 43), some (.ref 51), some (.ref 52), some (.int i), none, none, none]) (st' := [.int (i + 2), .ref 0, .int (sc.2 (i + 1).toNatClampNeg), .ref 1]) (w' := (hp u fL fD, c, z)) rfl ?_
    refine mg_Ev.sld rfl hb2 ?_
    refine mg_Ev.go 4 (pc' := 954) (loc' := [some (.ref 0), some (.ref 1), some (.ref 43), some (.ref 51), some (.ref 52), some (.int i), none, none, none]) (st' := [.int (i + 3), .ref 0, .int (sc.2 (i + 2).toNatClampNeg), .int (sc.2 (i + 1).toNatClampNeg), .ref 1]) (w' := (hp u fL fD, c, z)) rfl ?_
    refine mg_Ev.sld rfl hb3 ?_
    refine mg_Ev.go 4 (pc' := 960) (loc' := [some (.ref 0), some (.ref 1), some (.ref 43), some (.ref 51), some (.ref 52), some (.int i), none, none, none]) (st' := [.int (i + 4), .ref 0, .int (sc.2 (i + 3).toNatClampNeg), .int (sc.2 (i + 2).toNatClampNeg), .int (sc.2 (i + 1).toNatClampNeg), .ref 1]) (w' := (hp u fL fD, c, z)) rfl ?_
    refine mg_Ev.sld rfl hb4 ?_
    refine mg_Ev.go 1 (pc' := 962) (loc' := [some (.ref 0), some (.ref 1), some (.ref 43), some (.ref 51), some (.ref 52), some (.int i), none, none, none]) (st' := [.ref 51, .int (sc.2 (i + 4).toNatClampNeg), .int (sc.2 (i + 3).toNatClampNeg), .int (sc.2 (i + 2).toNatClampNeg), .int (sc.2 (i + 1).toNatClampNeg), .ref 1]) (w' := (hp u fL fD, c, z)) rfl ?_
    refine mg_Ev.call (y := 234) (as := [.ref 1, .int (sc.2 (i + 1).toNatClampNeg), .int (sc.2 (i + 2).toNatClampNeg), .int (sc.2 (i + 3).toNatClampNeg), .int (sc.2 (i + 4).toNatClampNeg), .ref 51]) (rest := []) (v := some (.int 0)) (w1 := (hp u1 (vp_updL fL 0 b.toInt64) fD, c, z)) rfl rfl (Nat.le_of_ble_eq_true rfl) ((ev_W_rateOf_ok hC).deep (by decide)) ?_
    refine mg_Ev.go 1 (pc' := 967) (loc' := [some (.ref 0), some (.ref 1), some (.ref 43), some (.ref 51), some (.ref 52), some (.int i), some (.int 0), none, none]) (st' := []) (w' := (hp u1 (vp_updL fL 0 b.toInt64) fD, c, z)) rfl ?_
    exact ev_opB_10 hb1 hb2 hb3 hb4 hM hT (fun _ => rfl) hr
  · obtain ⟨r, hr, hQ⟩ := K fL fD (c + 1) (z + 6) (Nat.le_refl _) (Nat.le_refl _)
    refine ⟨r, ?_, hQ⟩
    refine mg_Ev.go 5 (pc' := 942) (loc' := [some (.ref 0), some (.ref 1), some (.ref 43), some (.ref 51), some (.ref 52), some (.int i), none, none, none]) (st' := [.int (i + 1), .ref 0, .ref 1]) (w' := (hp u fL fD, c, z)) rfl ?_
    refine mg_Ev.sld rfl hb1 ?_
    refine mg_Ev.go 4 (pc' := 948) (loc' := [some (.ref 0), some (.ref 1), some (.ref 43), some (.ref 51), some (.ref 52), some (.int i), none, none, none]) (st' := [.int (i + 2), .ref 0, .int (sc.2 (i + 1).toNatClampNeg), .ref 1]) (w' := (hp u fL fD, c, z)) rfl ?_
    refine mg_Ev.sld rfl hb2 ?_
    refine mg_Ev.go 4 (pc' := 954) (loc' := [some (.ref 0), some (.ref 1), some (.ref 43), some (.ref 51), some (.ref 52), some (.int i), none, none, none]) (st' := [.int (i + 3), .ref 0, .int (sc.2 (i + 2).toNatClampNeg), .int (sc.2 (i + 1).toNatClampNeg), .ref 1]) (w' := (hp u fL fD, c, z)) rfl ?_
    refine mg_Ev.sld rfl hb3 ?_
    refine mg_Ev.go 4 (pc' := 960) (loc' := [some (.ref 0), some (.ref 1), some (.ref 43), some (.ref 51), some (.ref 52), some (.int i), none, none, none]) (st' := [.int (i + 4), .ref 0, .int (sc.2 (i + 3).toNatClampNeg), .int (sc.2 (i + 2).toNatClampNeg), .int (sc.2 (i + 1).toNatClampNeg), .ref 1]) (w' := (hp u fL fD, c, z)) rfl ?_
    refine mg_Ev.sld rfl hb4 ?_
    refine mg_Ev.go 1 (pc' := 962) (loc' := [some (.ref 0), some (.ref 1), some (.ref 43), some (.ref 51), some (.ref 52), some (.int i), none, none, none]) (st' := [.ref 51, .int (sc.2 (i + 4).toNatClampNeg), .int (sc.2 (i + 3).toNatClampNeg), .int (sc.2 (i + 2).toNatClampNeg), .int (sc.2 (i + 1).toNatClampNeg), .ref 1]) (w' := (hp u fL fD, c, z)) rfl ?_
    refine mg_Ev.call (y := 234) (as := [.ref 1, .int (sc.2 (i + 1).toNatClampNeg), .int (sc.2 (i + 2).toNatClampNeg), .int (sc.2 (i + 3).toNatClampNeg), .int (sc.2 (i + 4).toNatClampNeg), .ref 51]) (rest := []) (v := some (.int 1)) (w1 := (hp u1 fL fD, c + 1, z + 6)) rfl rfl (Nat.le_of_ble_eq_true rfl) ((ev_W_rateOf_x0 hC).deep (by decide)) ?_
    refine mg_Ev.go 1 (pc' := 967) (loc' := [some (.ref 0), some (.ref 1), some (.ref 43), some (.ref 51), some (.ref 52), some (.int i), some (.int 1), none, none]) (st' := []) (w' := (hp u1 fL fD, c + 1, z + 6)) rfl ?_
    exact ev_opB_10 hb1 hb2 hb3 hb4 hM hT (fun q => absurd q (by decide)) hr
  · obtain ⟨r, hr, hQ⟩ := K fL fD (c + 1) (z + 6) (Nat.le_refl _) (Nat.le_refl _)
    refine ⟨r, ?_, hQ⟩
    refine mg_Ev.go 5 (pc' := 942) (loc' := [some (.ref 0), some (.ref 1), some (.ref 43), some (.ref 51), some (.ref 52), some (.int i), none, none, none]) (st' := [.int (i + 1), .ref 0, .ref 1]) (w' := (hp u fL fD, c, z)) rfl ?_
    refine mg_Ev.sld rfl hb1 ?_
    refine mg_Ev.go 4 (pc' := 948) (loc' := [some (.ref 0), some (.ref 1), some (.ref 43), some (.ref 51), some (.ref 52), some (.int i), none, none, none]) (st' := [.int (i + 2), .ref 0, .int (sc.2 (i + 1).toNatClampNeg), .ref 1]) (w' := (hp u fL fD, c, z)) rfl ?_
    refine mg_Ev.sld rfl hb2 ?_
    refine mg_Ev.go 4 (pc' := 954) (loc' := [some (.ref 0), some (.ref 1), some (.ref 43), some (.ref 51), some (.ref 52), some (.int i), none, none, none]) (st' := [.int (i + 3), .ref 0, .int (sc.2 (i + 2).toNatClampNeg), .int (sc.2 (i + 1).toNatClampNeg), .ref 1]) (w' := (hp u fL fD, c, z)) rfl ?_
    refine mg_Ev.sld rfl hb3 ?_
    refine mg_Ev.go 4 (pc' := 960) (loc' := [some (.ref 0), some (.ref 1), some (.ref 43), some (.ref 51), some (.ref 52), some (.int i), none, none, none]) (st' := [.int (i + 4), .ref 0, .int (sc.2 (i + 3).toNatClampNeg), .int (sc.2 (i + 2).toNatClampNeg), .int (sc.2 (i + 1).toNatClampNeg), .ref 1]) (w' := (hp u fL fD, c, z)) rfl ?_
    refine mg_Ev.sld rfl hb4 ?_
    refine mg_Ev.go 1 (pc' := 962) (loc' := [some (.ref 0), some (.ref 1), some (.ref 43), some (.ref 51), some (.ref 52), some (.int i), none, none, none]) (st' := [.ref 51, .int (sc.2 (i + 4).toNatClampNeg), .int (sc.2 (i + 3).toNatClampNeg), .int (sc.2 (i + 2).toNatClampNeg), .int (sc.2 (i + 1).toNatClampNeg), .ref 1]) (w' := (hp u fL fD, c, z)) rfl ?_
    refine mg_Ev.call (y := 234) (as := [.ref 1, .int (sc.2 (i + 1).toNatClampNeg), .int (sc.2 (i + 2).toNatClampNeg), .int (sc.2 (i + 3).toNatClampNeg), .int (sc.2 (i + 4).toNatClampNeg), .ref 51]) (rest := []) (v := some (.int 2)) (w1 := (hp u1 fL fD, c + 1, z + 6)) rfl rfl (Nat.le_of_ble_eq_true rfl) ((ev_W_rateOf_x1 hC).deep (by decide)) ?_
    refine mg_Ev.go 1 (pc' := 967) (loc' := [some (.ref 0), some (.ref 1), some (.ref 43), some (.ref 51), some (.ref 52), some (.int i), some (.int 2), none, none]) (st' := []) (w' := (hp u1 fL fD, c + 1, z + 6)) rfl ?_
    exact ev_opB_10 hb1 hb2 hb3 hb4 hM hT (fun q => absurd q (by decide)) hr
def Ob_10 (I : mg_Rg → Prop) : Prop := ∀ u, I u → ∀ p1 p2 p3 p4 : Int32, ∃ (t : Int32 ⊕ Nat) (u1 : mg_Rg) (b : Int32) (u2 : mg_Rg) (T : Int32), C_rateOf p1 p2 p3 p4 u = some (t, u1) ∧ M_rateOf p1 p2 p3 p4 u1 = some (b, u2) ∧ M_thrown u2 = some T ∧ ((∃ v, t = .inl v ∧ b = v ∧ T = 0) ∨ (t = .inr 0 ∧ T = 1) ∨ (t = .inr 1 ∧ T = 2)) ∧ I u2
theorem st_op_10 {sc : mg_Sc} {c z : Nat} {fL : Nat → Int64} {fD : Nat → UInt64} {i : Int32} {u : mg_Rg} {Q : mg_R → Prop} {I : mg_Rg → Prop} (O : Ob_10 I) (hu : I u) (hb1 : ¬ ((i + 1) < 0 ∨ sc.1 ≤ (i + 1).toNatClampNeg)) (hb2 : ¬ ((i + 2) < 0 ∨ sc.1 ≤ (i + 2).toNatClampNeg)) (hb3 : ¬ ((i + 3) < 0 ∨ sc.1 ≤ (i + 3).toNatClampNeg)) (hb4 : ¬ ((i + 4) < 0 ∨ sc.1 ≤ (i + 4).toNatClampNeg)) (K : ∀ u2 fL fD c1 z1, I u2 → c1 ≤ c + 1 → z1 ≤ z + 6 → ∃ r, mg_Ev sc 11 258 2448 [some (.ref 0), some (.ref 1), some (.ref 43), some (.ref 51), some (.ref 52), some (.int i), none, none, none] [] (hp u2 fL fD, c1, z1) r ∧ Q r) : ∃ r, mg_Ev sc 11 258 936 [some (.ref 0), some (.ref 1), some (.ref 43), some (.ref 51), some (.ref 52), some (.int i), none, none, none] [] (hp u fL fD, c, z) r ∧ Q r := by
  obtain ⟨t, u1, b, u2, T, hC, hM, hT, H, hI⟩ := O u hu (sc.2 (i + 1).toNatClampNeg) (sc.2 (i + 2).toNatClampNeg) (sc.2 (i + 3).toNatClampNeg) (sc.2 (i + 4).toNatClampNeg)
  exact ev_op_10 hb1 hb2 hb3 hb4 hC hM hT H (fun fL fD c1 z1 h1 h2 => K u2 fL fD c1 z1 hI h1 h2)
set_option maxRecDepth 10000 in
set_option maxHeartbeats 4000000 in
theorem ev_opB_11 {sc : mg_Sc} {c z : Nat} {fL : Nat → Int64} {fD : Nat → UInt64} {i T : Int32} {b : Int32} {u1 u2 : mg_Rg} {r : mg_R} (hb1 : ¬ ((i + 1) < 0 ∨ sc.1 ≤ (i + 1).toNatClampNeg)) (hb2 : ¬ ((i + 2) < 0 ∨ sc.1 ≤ (i + 2).toNatClampNeg)) (hb3 : ¬ ((i + 3) < 0 ∨ sc.1 ≤ (i + 3).toNatClampNeg)) (hb4 : ¬ ((i + 4) < 0 ∨ sc.1 ≤ (i + 4).toNatClampNeg)) (hM : M_comesFrom (sc.2 (i + 1).toNatClampNeg) (sc.2 (i + 2).toNatClampNeg) (sc.2 (i + 3).toNatClampNeg) (sc.2 (i + 4).toNatClampNeg) u1 = some (b, u2)) (hT : M_thrown u2 = some T) (hv : T = 0 → fL 0 = b.toInt64) (K : mg_Ev sc 11 258 2448 [some (.ref 0), some (.ref 1), some (.ref 43), some (.ref 51), some (.ref 52), some (.int i), none, none, none] [] (hp u2 fL fD, c, z) r) : mg_Ev sc 11 258 1059 [some (.ref 0), some (.ref 1), some (.ref 43), some (.ref 51), some (.ref 52), some (.int i), some (.int T), none, none] [] (hp u1 fL fD, c, z) r := by
  refine mg_Ev.go 5 (pc' := 1065) (loc' := [some (.ref 0), some (.ref 1), some (.ref 43), some (.ref 51), some (.ref 52), some (.int i), some (.int T), none, none]) (st' := [.int (i + 1), .ref 0, .ref 43]) (w' := (hp u1 fL fD, c, z)) rfl ?_
  refine mg_Ev.sld rfl hb1 ?_
  refine mg_Ev.go 4 (pc' := 1071) (loc' := [some (.ref 0), some (.ref 1), some (.ref 43), some (.ref 51), some (.ref 52), some (.int i), some (.int T), none, none]) (st' := [.int (i + 2), .ref 0, .int (sc.2 (i + 1).toNatClampNeg), .ref 43]) (w' := (hp u1 fL fD, c, z)) rfl ?_
  refine mg_Ev.sld rfl hb2 ?_
  refine mg_Ev.go 4 (pc' := 1077) (loc' := [some (.ref 0), some (.ref 1), some (.ref 43), some (.ref 51), some (.ref 52), some (.int i), some (.int T), none, none]) (st' := [.int (i + 3), .ref 0, .int (sc.2 (i + 2).toNatClampNeg), .int (sc.2 (i + 1).toNatClampNeg), .ref 43]) (w' := (hp u1 fL fD, c, z)) rfl ?_
  refine mg_Ev.sld rfl hb3 ?_
  refine mg_Ev.go 4 (pc' := 1083) (loc' := [some (.ref 0), some (.ref 1), some (.ref 43), some (.ref 51), some (.ref 52), some (.int i), some (.int T), none, none]) (st' := [.int (i + 4), .ref 0, .int (sc.2 (i + 3).toNatClampNeg), .int (sc.2 (i + 2).toNatClampNeg), .int (sc.2 (i + 1).toNatClampNeg), .ref 43]) (w' := (hp u1 fL fD, c, z)) rfl ?_
  refine mg_Ev.sld rfl hb4 ?_
  refine mg_Ev.call (y := 93) (as := [.ref 43, .int (sc.2 (i + 1).toNatClampNeg), .int (sc.2 (i + 2).toNatClampNeg), .int (sc.2 (i + 3).toNatClampNeg), .int (sc.2 (i + 4).toNatClampNeg)]) (rest := []) (v := some (.int b)) (w1 := (hp u2 fL fD, c, z)) rfl rfl (Nat.le_of_ble_eq_true rfl) ((ev_M_comesFrom hM).deep (by decide)) ?_
  refine mg_Ev.go 2 (pc' := 1090) (loc' := [some (.ref 0), some (.ref 1), some (.ref 43), some (.ref 51), some (.ref 52), some (.int i), some (.int T), some (.int b), none]) (st' := [.ref 43]) (w' := (hp u2 fL fD, c, z)) rfl ?_
  refine mg_Ev.call (y := 57) (as := [.ref 43]) (rest := []) (v := some (.int T)) (w1 := (hp u2 fL fD, c, z)) rfl rfl (Nat.le_of_ble_eq_true rfl) ((ev_M_thrown hT).deep (by decide)) ?_
  refine mg_Ev.go 1 (pc' := 1095) (loc' := [some (.ref 0), some (.ref 1), some (.ref 43), some (.ref 51), some (.ref 52), some (.int i), some (.int T), some (.int b), none]) (st' := [.int T, .int T]) (w' := (hp u2 fL fD, c, z)) rfl ?_
  refine mg_Ev.br (P := T = T) (t := 1100) (nx := 1098) (st' := []) rfl rfl rfl rfl (fun _ => ?_) (fun q => absurd rfl q)
  refine mg_Ev.go 1 (pc' := 1102) (loc' := [some (.ref 0), some (.ref 1), some (.ref 43), some (.ref 51), some (.ref 52), some (.int i), some (.int T), some (.int b), none]) (st' := [.int T]) (w' := (hp u2 fL fD, c, z)) rfl ?_
  refine mg_Ev.br (P := T = 0) (t := 1105) (nx := 1117) (st' := []) rfl rfl rfl rfl (fun h0 => ?_) (fun _ => ?_)
  · have h1 := hv h0
    refine mg_Ev.go 2 (pc' := 1107) (loc' := [some (.ref 0), some (.ref 1), some (.ref 43), some (.ref 51), some (.ref 52), some (.int i), some (.int T), some (.int b), none]) (st' := [.int 0, .ref 51]) (w' := (hp u2 fL fD, c, z)) rfl ?_
    refine mg_Ev.lald (a := 50) (n := 1) (f := fL) (j := 0) rfl (hpg_50 _ _ _) (by decide) (by decide) ?_
    rw [h1]
    refine mg_Ev.go 3 (pc' := 1112) (loc' := [some (.ref 0), some (.ref 1), some (.ref 43), some (.ref 51), some (.ref 52), some (.int i), some (.int T), some (.int b), none]) (st' := [.int (lg_cmp b.toInt64 b.toInt64)]) (w' := (hp u2 fL fD, c, z)) rfl ?_
    refine mg_Ev.br (P := lg_cmp b.toInt64 b.toInt64 = 0) (t := 1117) (nx := 1115) (st' := []) rfl rfl rfl rfl (fun _ => ?_) (fun q => absurd (mg_lcmp _) q)
    refine mg_Ev.go 1 (pc' := 2448) (loc' := [some (.ref 0), some (.ref 1), some (.ref 43), some (.ref 51), some (.ref 52), some (.int i), some (.int T), some (.int b), none]) (st' := []) (w' := (hp u2 fL fD, c, z)) rfl ?_
    exact mg_Ev.more K ⟨rfl, ⟨rfl, ⟨rfl, ⟨rfl, ⟨rfl, ⟨rfl, trivial⟩⟩⟩⟩⟩⟩
  · refine mg_Ev.go 1 (pc' := 2448) (loc' := [some (.ref 0), some (.ref 1), some (.ref 43), some (.ref 51), some (.ref 52), some (.int i), some (.int T), some (.int b), none]) (st' := []) (w' := (hp u2 fL fD, c, z)) rfl ?_
    exact mg_Ev.more K ⟨rfl, ⟨rfl, ⟨rfl, ⟨rfl, ⟨rfl, ⟨rfl, trivial⟩⟩⟩⟩⟩⟩
set_option maxRecDepth 10000 in
set_option maxHeartbeats 4000000 in
theorem ev_op_11 {sc : mg_Sc} {c z : Nat} {fL : Nat → Int64} {fD : Nat → UInt64} {i T : Int32} {b : Int32} {t : Int32 ⊕ Nat} {u u1 u2 : mg_Rg} {Q : mg_R → Prop} (hb1 : ¬ ((i + 1) < 0 ∨ sc.1 ≤ (i + 1).toNatClampNeg)) (hb2 : ¬ ((i + 2) < 0 ∨ sc.1 ≤ (i + 2).toNatClampNeg)) (hb3 : ¬ ((i + 3) < 0 ∨ sc.1 ≤ (i + 3).toNatClampNeg)) (hb4 : ¬ ((i + 4) < 0 ∨ sc.1 ≤ (i + 4).toNatClampNeg)) (hC : C_comesFrom (sc.2 (i + 1).toNatClampNeg) (sc.2 (i + 2).toNatClampNeg) (sc.2 (i + 3).toNatClampNeg) (sc.2 (i + 4).toNatClampNeg) u = some (t, u1)) (hM : M_comesFrom (sc.2 (i + 1).toNatClampNeg) (sc.2 (i + 2).toNatClampNeg) (sc.2 (i + 3).toNatClampNeg) (sc.2 (i + 4).toNatClampNeg) u1 = some (b, u2)) (hT : M_thrown u2 = some T) (H : (∃ v, t = .inl v ∧ b = v ∧ T = 0) ∨ (t = .inr 0 ∧ T = 1) ∨ (t = .inr 1 ∧ T = 2)) (K : ∀ fL fD c1 z1, c1 ≤ c + 1 → z1 ≤ z + 6 → ∃ r, mg_Ev sc 11 258 2448 [some (.ref 0), some (.ref 1), some (.ref 43), some (.ref 51), some (.ref 52), some (.int i), none, none, none] [] (hp u2 fL fD, c1, z1) r ∧ Q r) : ∃ r, mg_Ev sc 11 258 1028 [some (.ref 0), some (.ref 1), some (.ref 43), some (.ref 51), some (.ref 52), some (.int i), none, none, none] [] (hp u fL fD, c, z) r ∧ Q r := by
  rcases H with ⟨v, rfl, rfl, rfl⟩ | ⟨rfl, rfl⟩ | ⟨rfl, rfl⟩
  · obtain ⟨r, hr, hQ⟩ := K (vp_updL fL 0 b.toInt64) fD c z (Nat.le_succ _) (Nat.le_add_right _ _)
    refine ⟨r, ?_, hQ⟩
    refine mg_Ev.go 5 (pc' := 1034) (loc' := [some (.ref 0), some (.ref 1), some (.ref 43), some (.ref 51), some (.ref 52), some (.int i), none, none, none]) (st' := [.int (i + 1), .ref 0, .ref 1]) (w' := (hp u fL fD, c, z)) rfl ?_
    refine mg_Ev.sld rfl hb1 ?_
    refine mg_Ev.go 4 (pc' := 1040) (loc' := [some (.ref 0), some (.ref 1), some (.ref 43), some (.ref 51), some (.ref 52), some (.int i), none, none, none]) (st' := [.int (i + 2), .ref 0, .int (sc.2 (i + 1).toNatClampNeg), .ref 1]) (w' := (hp u fL fD, c, z)) rfl ?_
    refine mg_Ev.sld rfl hb2 ?_
    refine mg_Ev.go 4 (pc' := 1046) (loc' := [some (.ref 0), some (.ref 1), some (.ref 43), some (.ref 51), some (.ref 52), some (.int i), none, none, none]) (st' := [.int (i + 3), .ref 0, .int (sc.2 (i + 2).toNatClampNeg), .int (sc.2 (i + 1).toNatClampNeg), .ref 1]) (w' := (hp u fL fD, c, z)) rfl ?_
    refine mg_Ev.sld rfl hb3 ?_
    refine mg_Ev.go 4 (pc' := 1052) (loc' := [some (.ref 0), some (.ref 1), some (.ref 43), some (.ref 51), some (.ref 52), some (.int i), none, none, none]) (st' := [.int (i + 4), .ref 0, .int (sc.2 (i + 3).toNatClampNeg), .int (sc.2 (i + 2).toNatClampNeg), .int (sc.2 (i + 1).toNatClampNeg), .ref 1]) (w' := (hp u fL fD, c, z)) rfl ?_
    refine mg_Ev.sld rfl hb4 ?_
    refine mg_Ev.go 1 (pc' := 1054) (loc' := [some (.ref 0), some (.ref 1), some (.ref 43), some (.ref 51), some (.ref 52), some (.int i), none, none, none]) (st' := [.ref 51, .int (sc.2 (i + 4).toNatClampNeg), .int (sc.2 (i + 3).toNatClampNeg), .int (sc.2 (i + 2).toNatClampNeg), .int (sc.2 (i + 1).toNatClampNeg), .ref 1]) (w' := (hp u fL fD, c, z)) rfl ?_
    refine mg_Ev.call (y := 235) (as := [.ref 1, .int (sc.2 (i + 1).toNatClampNeg), .int (sc.2 (i + 2).toNatClampNeg), .int (sc.2 (i + 3).toNatClampNeg), .int (sc.2 (i + 4).toNatClampNeg), .ref 51]) (rest := []) (v := some (.int 0)) (w1 := (hp u1 (vp_updL fL 0 b.toInt64) fD, c, z)) rfl rfl (Nat.le_of_ble_eq_true rfl) ((ev_W_comesFrom_ok hC).deep (by decide)) ?_
    refine mg_Ev.go 1 (pc' := 1059) (loc' := [some (.ref 0), some (.ref 1), some (.ref 43), some (.ref 51), some (.ref 52), some (.int i), some (.int 0), none, none]) (st' := []) (w' := (hp u1 (vp_updL fL 0 b.toInt64) fD, c, z)) rfl ?_
    exact ev_opB_11 hb1 hb2 hb3 hb4 hM hT (fun _ => rfl) hr
  · obtain ⟨r, hr, hQ⟩ := K fL fD (c + 1) (z + 6) (Nat.le_refl _) (Nat.le_refl _)
    refine ⟨r, ?_, hQ⟩
    refine mg_Ev.go 5 (pc' := 1034) (loc' := [some (.ref 0), some (.ref 1), some (.ref 43), some (.ref 51), some (.ref 52), some (.int i), none, none, none]) (st' := [.int (i + 1), .ref 0, .ref 1]) (w' := (hp u fL fD, c, z)) rfl ?_
    refine mg_Ev.sld rfl hb1 ?_
    refine mg_Ev.go 4 (pc' := 1040) (loc' := [some (.ref 0), some (.ref 1), some (.ref 43), some (.ref 51), some (.ref 52), some (.int i), none, none, none]) (st' := [.int (i + 2), .ref 0, .int (sc.2 (i + 1).toNatClampNeg), .ref 1]) (w' := (hp u fL fD, c, z)) rfl ?_
    refine mg_Ev.sld rfl hb2 ?_
    refine mg_Ev.go 4 (pc' := 1046) (loc' := [some (.ref 0), some (.ref 1), some (.ref 43), some (.ref 51), some (.ref 52), some (.int i), none, none, none]) (st' := [.int (i + 3), .ref 0, .int (sc.2 (i + 2).toNatClampNeg), .int (sc.2 (i + 1).toNatClampNeg), .ref 1]) (w' := (hp u fL fD, c, z)) rfl ?_
    refine mg_Ev.sld rfl hb3 ?_
    refine mg_Ev.go 4 (pc' := 1052) (loc' := [some (.ref 0), some (.ref 1), some (.ref 43), some (.ref 51), some (.ref 52), some (.int i), none, none, none]) (st' := [.int (i + 4), .ref 0, .int (sc.2 (i + 3).toNatClampNeg), .int (sc.2 (i + 2).toNatClampNeg), .int (sc.2 (i + 1).toNatClampNeg), .ref 1]) (w' := (hp u fL fD, c, z)) rfl ?_
    refine mg_Ev.sld rfl hb4 ?_
    refine mg_Ev.go 1 (pc' := 1054) (loc' := [some (.ref 0), some (.ref 1), some (.ref 43), some (.ref 51), some (.ref 52), some (.int i), none, none, none]) (st' := [.ref 51, .int (sc.2 (i + 4).toNatClampNeg), .int (sc.2 (i + 3).toNatClampNeg), .int (sc.2 (i + 2).toNatClampNeg), .int (sc.2 (i + 1).toNatClampNeg), .ref 1]) (w' := (hp u fL fD, c, z)) rfl ?_
    refine mg_Ev.call (y := 235) (as := [.ref 1, .int (sc.2 (i + 1).toNatClampNeg), .int (sc.2 (i + 2).toNatClampNeg), .int (sc.2 (i + 3).toNatClampNeg), .int (sc.2 (i + 4).toNatClampNeg), .ref 51]) (rest := []) (v := some (.int 1)) (w1 := (hp u1 fL fD, c + 1, z + 6)) rfl rfl (Nat.le_of_ble_eq_true rfl) ((ev_W_comesFrom_x0 hC).deep (by decide)) ?_
    refine mg_Ev.go 1 (pc' := 1059) (loc' := [some (.ref 0), some (.ref 1), some (.ref 43), some (.ref 51), some (.ref 52), some (.int i), some (.int 1), none, none]) (st' := []) (w' := (hp u1 fL fD, c + 1, z + 6)) rfl ?_
    exact ev_opB_11 hb1 hb2 hb3 hb4 hM hT (fun q => absurd q (by decide)) hr
  · obtain ⟨r, hr, hQ⟩ := K fL fD (c + 1) (z + 6) (Nat.le_refl _) (Nat.le_refl _)
    refine ⟨r, ?_, hQ⟩
    refine mg_Ev.go 5 (pc' := 1034) (loc' := [some (.ref 0), some (.ref 1), some (.ref 43), some (.ref 51), some (.ref 52), some (.int i), none, none, none]) (st' := [.int (i + 1), .ref 0, .ref 1]) (w' := (hp u fL fD, c, z)) rfl ?_
    refine mg_Ev.sld rfl hb1 ?_
    refine mg_Ev.go 4 (pc' := 1040) (loc' := [some (.ref 0), some (.ref 1), some (.ref 43), some (.ref 51), some (.ref 52), some (.int i), none, none, none]) (st' := [.int (i + 2), .ref 0, .int (sc.2 (i + 1).toNatClampNeg), .ref 1]) (w' := (hp u fL fD, c, z)) rfl ?_
    refine mg_Ev.sld rfl hb2 ?_
    refine mg_Ev.go 4 (pc' := 1046) (loc' := [some (.ref 0), some (.ref 1), some (.ref 43), some (.ref 51), some (.ref 52), some (.int i), none, none, none]) (st' := [.int (i + 3), .ref 0, .int (sc.2 (i + 2).toNatClampNeg), .int (sc.2 (i + 1).toNatClampNeg), .ref 1]) (w' := (hp u fL fD, c, z)) rfl ?_
    refine mg_Ev.sld rfl hb3 ?_
    refine mg_Ev.go 4 (pc' := 1052) (loc' := [some (.ref 0), some (.ref 1), some (.ref 43), some (.ref 51), some (.ref 52), some (.int i), none, none, none]) (st' := [.int (i + 4), .ref 0, .int (sc.2 (i + 3).toNatClampNeg), .int (sc.2 (i + 2).toNatClampNeg), .int (sc.2 (i + 1).toNatClampNeg), .ref 1]) (w' := (hp u fL fD, c, z)) rfl ?_
    refine mg_Ev.sld rfl hb4 ?_
    refine mg_Ev.go 1 (pc' := 1054) (loc' := [some (.ref 0), some (.ref 1), some (.ref 43), some (.ref 51), some (.ref 52), some (.int i), none, none, none]) (st' := [.ref 51, .int (sc.2 (i + 4).toNatClampNeg), .int (sc.2 (i + 3).toNatClampNeg), .int (sc.2 (i + 2).toNatClampNeg), .int (sc.2 (i + 1).toNatClampNeg), .ref 1]) (w' := (hp u fL fD, c, z)) rfl ?_
    refine mg_Ev.call (y := 235) (as := [.ref 1, .int (sc.2 (i + 1).toNatClampNeg), .int (sc.2 (i + 2).toNatClampNeg), .int (sc.2 (i + 3).toNatClampNeg), .int (sc.2 (i + 4).toNatClampNeg), .ref 51]) (rest := []) (v := some (.int 2)) (w1 := (hp u1 fL fD, c + 1, z + 6)) rfl rfl (Nat.le_of_ble_eq_true rfl) ((ev_W_comesFrom_x1 hC).deep (by decide)) ?_
    refine mg_Ev.go 1 (pc' := 1059) (loc' := [some (.ref 0), some (.ref 1), some (.ref 43), some (.ref 51), some (.ref 52), some (.int i), some (.int 2), none, none]) (st' := []) (w' := (hp u1 fL fD, c + 1, z + 6)) rfl ?_
    exact ev_opB_11 hb1 hb2 hb3 hb4 hM hT (fun q => absurd q (by decide)) hr
def Ob_11 (I : mg_Rg → Prop) : Prop := ∀ u, I u → ∀ p1 p2 p3 p4 : Int32, ∃ (t : Int32 ⊕ Nat) (u1 : mg_Rg) (b : Int32) (u2 : mg_Rg) (T : Int32), C_comesFrom p1 p2 p3 p4 u = some (t, u1) ∧ M_comesFrom p1 p2 p3 p4 u1 = some (b, u2) ∧ M_thrown u2 = some T ∧ ((∃ v, t = .inl v ∧ b = v ∧ T = 0) ∨ (t = .inr 0 ∧ T = 1) ∨ (t = .inr 1 ∧ T = 2)) ∧ I u2
theorem st_op_11 {sc : mg_Sc} {c z : Nat} {fL : Nat → Int64} {fD : Nat → UInt64} {i : Int32} {u : mg_Rg} {Q : mg_R → Prop} {I : mg_Rg → Prop} (O : Ob_11 I) (hu : I u) (hb1 : ¬ ((i + 1) < 0 ∨ sc.1 ≤ (i + 1).toNatClampNeg)) (hb2 : ¬ ((i + 2) < 0 ∨ sc.1 ≤ (i + 2).toNatClampNeg)) (hb3 : ¬ ((i + 3) < 0 ∨ sc.1 ≤ (i + 3).toNatClampNeg)) (hb4 : ¬ ((i + 4) < 0 ∨ sc.1 ≤ (i + 4).toNatClampNeg)) (K : ∀ u2 fL fD c1 z1, I u2 → c1 ≤ c + 1 → z1 ≤ z + 6 → ∃ r, mg_Ev sc 11 258 2448 [some (.ref 0), some (.ref 1), some (.ref 43), some (.ref 51), some (.ref 52), some (.int i), none, none, none] [] (hp u2 fL fD, c1, z1) r ∧ Q r) : ∃ r, mg_Ev sc 11 258 1028 [some (.ref 0), some (.ref 1), some (.ref 43), some (.ref 51), some (.ref 52), some (.int i), none, none, none] [] (hp u fL fD, c, z) r ∧ Q r := by
  obtain ⟨t, u1, b, u2, T, hC, hM, hT, H, hI⟩ := O u hu (sc.2 (i + 1).toNatClampNeg) (sc.2 (i + 2).toNatClampNeg) (sc.2 (i + 3).toNatClampNeg) (sc.2 (i + 4).toNatClampNeg)
  exact ev_op_11 hb1 hb2 hb3 hb4 hC hM hT H (fun fL fD c1 z1 h1 h2 => K u2 fL fD c1 z1 hI h1 h2)
set_option maxRecDepth 10000 in
set_option maxHeartbeats 4000000 in
theorem ev_opB_12 {sc : mg_Sc} {c z : Nat} {fL : Nat → Int64} {fD : Nat → UInt64} {i T : Int32} {b : Int32} {u1 u2 : mg_Rg} {r : mg_R} (hb1 : ¬ ((i + 1) < 0 ∨ sc.1 ≤ (i + 1).toNatClampNeg)) (hb2 : ¬ ((i + 2) < 0 ∨ sc.1 ≤ (i + 2).toNatClampNeg)) (hb3 : ¬ ((i + 3) < 0 ∨ sc.1 ≤ (i + 3).toNatClampNeg)) (hb4 : ¬ ((i + 4) < 0 ∨ sc.1 ≤ (i + 4).toNatClampNeg)) (hM : M_missed (sc.2 (i + 1).toNatClampNeg) (sc.2 (i + 2).toNatClampNeg) (sc.2 (i + 3).toNatClampNeg) (sc.2 (i + 4).toNatClampNeg) u1 = some (b, u2)) (hT : M_thrown u2 = some T) (hv : T = 0 → fL 0 = b.toInt64) (K : mg_Ev sc 11 258 2448 [some (.ref 0), some (.ref 1), some (.ref 43), some (.ref 51), some (.ref 52), some (.int i), none, none, none] [] (hp u2 fL fD, c, z) r) : mg_Ev sc 11 258 1151 [some (.ref 0), some (.ref 1), some (.ref 43), some (.ref 51), some (.ref 52), some (.int i), some (.int T), none, none] [] (hp u1 fL fD, c, z) r := by
  refine mg_Ev.go 5 (pc' := 1157) (loc' := [some (.ref 0), some (.ref 1), some (.ref 43), some (.ref 51), some (.ref 52), some (.int i), some (.int T), none, none]) (st' := [.int (i + 1), .ref 0, .ref 43]) (w' := (hp u1 fL fD, c, z)) rfl ?_
  refine mg_Ev.sld rfl hb1 ?_
  refine mg_Ev.go 4 (pc' := 1163) (loc' := [some (.ref 0), some (.ref 1), some (.ref 43), some (.ref 51), some (.ref 52), some (.int i), some (.int T), none, none]) (st' := [.int (i + 2), .ref 0, .int (sc.2 (i + 1).toNatClampNeg), .ref 43]) (w' := (hp u1 fL fD, c, z)) rfl ?_
  refine mg_Ev.sld rfl hb2 ?_
  refine mg_Ev.go 4 (pc' := 1169) (loc' := [some (.ref 0), some (.ref 1), some (.ref 43), some (.ref 51), some (.ref 52), some (.int i), some (.int T), none, none]) (st' := [.int (i + 3), .ref 0, .int (sc.2 (i + 2).toNatClampNeg), .int (sc.2 (i + 1).toNatClampNeg), .ref 43]) (w' := (hp u1 fL fD, c, z)) rfl ?_
  refine mg_Ev.sld rfl hb3 ?_
  refine mg_Ev.go 4 (pc' := 1175) (loc' := [some (.ref 0), some (.ref 1), some (.ref 43), some (.ref 51), some (.ref 52), some (.int i), some (.int T), none, none]) (st' := [.int (i + 4), .ref 0, .int (sc.2 (i + 3).toNatClampNeg), .int (sc.2 (i + 2).toNatClampNeg), .int (sc.2 (i + 1).toNatClampNeg), .ref 43]) (w' := (hp u1 fL fD, c, z)) rfl ?_
  refine mg_Ev.sld rfl hb4 ?_
  refine mg_Ev.call (y := 94) (as := [.ref 43, .int (sc.2 (i + 1).toNatClampNeg), .int (sc.2 (i + 2).toNatClampNeg), .int (sc.2 (i + 3).toNatClampNeg), .int (sc.2 (i + 4).toNatClampNeg)]) (rest := []) (v := some (.int b)) (w1 := (hp u2 fL fD, c, z)) rfl rfl (Nat.le_of_ble_eq_true rfl) ((ev_M_missed hM).deep (by decide)) ?_
  refine mg_Ev.go 2 (pc' := 1182) (loc' := [some (.ref 0), some (.ref 1), some (.ref 43), some (.ref 51), some (.ref 52), some (.int i), some (.int T), some (.int b), none]) (st' := [.ref 43]) (w' := (hp u2 fL fD, c, z)) rfl ?_
  refine mg_Ev.call (y := 57) (as := [.ref 43]) (rest := []) (v := some (.int T)) (w1 := (hp u2 fL fD, c, z)) rfl rfl (Nat.le_of_ble_eq_true rfl) ((ev_M_thrown hT).deep (by decide)) ?_
  refine mg_Ev.go 1 (pc' := 1187) (loc' := [some (.ref 0), some (.ref 1), some (.ref 43), some (.ref 51), some (.ref 52), some (.int i), some (.int T), some (.int b), none]) (st' := [.int T, .int T]) (w' := (hp u2 fL fD, c, z)) rfl ?_
  refine mg_Ev.br (P := T = T) (t := 1192) (nx := 1190) (st' := []) rfl rfl rfl rfl (fun _ => ?_) (fun q => absurd rfl q)
  refine mg_Ev.go 1 (pc' := 1194) (loc' := [some (.ref 0), some (.ref 1), some (.ref 43), some (.ref 51), some (.ref 52), some (.int i), some (.int T), some (.int b), none]) (st' := [.int T]) (w' := (hp u2 fL fD, c, z)) rfl ?_
  refine mg_Ev.br (P := T = 0) (t := 1197) (nx := 1209) (st' := []) rfl rfl rfl rfl (fun h0 => ?_) (fun _ => ?_)
  · have h1 := hv h0
    refine mg_Ev.go 2 (pc' := 1199) (loc' := [some (.ref 0), some (.ref 1), some (.ref 43), some (.ref 51), some (.ref 52), some (.int i), some (.int T), some (.int b), none]) (st' := [.int 0, .ref 51]) (w' := (hp u2 fL fD, c, z)) rfl ?_
    refine mg_Ev.lald (a := 50) (n := 1) (f := fL) (j := 0) rfl (hpg_50 _ _ _) (by decide) (by decide) ?_
    rw [h1]
    refine mg_Ev.go 3 (pc' := 1204) (loc' := [some (.ref 0), some (.ref 1), some (.ref 43), some (.ref 51), some (.ref 52), some (.int i), some (.int T), some (.int b), none]) (st' := [.int (lg_cmp b.toInt64 b.toInt64)]) (w' := (hp u2 fL fD, c, z)) rfl ?_
    refine mg_Ev.br (P := lg_cmp b.toInt64 b.toInt64 = 0) (t := 1209) (nx := 1207) (st' := []) rfl rfl rfl rfl (fun _ => ?_) (fun q => absurd (mg_lcmp _) q)
    refine mg_Ev.go 1 (pc' := 2448) (loc' := [some (.ref 0), some (.ref 1), some (.ref 43), some (.ref 51), some (.ref 52), some (.int i), some (.int T), some (.int b), none]) (st' := []) (w' := (hp u2 fL fD, c, z)) rfl ?_
    exact mg_Ev.more K ⟨rfl, ⟨rfl, ⟨rfl, ⟨rfl, ⟨rfl, ⟨rfl, trivial⟩⟩⟩⟩⟩⟩
  · refine mg_Ev.go 1 (pc' := 2448) (loc' := [some (.ref 0), some (.ref 1), some (.ref 43), some (.ref 51), some (.ref 52), some (.int i), some (.int T), some (.int b), none]) (st' := []) (w' := (hp u2 fL fD, c, z)) rfl ?_
    exact mg_Ev.more K ⟨rfl, ⟨rfl, ⟨rfl, ⟨rfl, ⟨rfl, ⟨rfl, trivial⟩⟩⟩⟩⟩⟩
set_option maxRecDepth 10000 in
set_option maxHeartbeats 4000000 in
theorem ev_op_12 {sc : mg_Sc} {c z : Nat} {fL : Nat → Int64} {fD : Nat → UInt64} {i T : Int32} {b : Int32} {t : Int32 ⊕ Nat} {u u1 u2 : mg_Rg} {Q : mg_R → Prop} (hb1 : ¬ ((i + 1) < 0 ∨ sc.1 ≤ (i + 1).toNatClampNeg)) (hb2 : ¬ ((i + 2) < 0 ∨ sc.1 ≤ (i + 2).toNatClampNeg)) (hb3 : ¬ ((i + 3) < 0 ∨ sc.1 ≤ (i + 3).toNatClampNeg)) (hb4 : ¬ ((i + 4) < 0 ∨ sc.1 ≤ (i + 4).toNatClampNeg)) (hC : C_missed (sc.2 (i + 1).toNatClampNeg) (sc.2 (i + 2).toNatClampNeg) (sc.2 (i + 3).toNatClampNeg) (sc.2 (i + 4).toNatClampNeg) u = some (t, u1)) (hM : M_missed (sc.2 (i + 1).toNatClampNeg) (sc.2 (i + 2).toNatClampNeg) (sc.2 (i + 3).toNatClampNeg) (sc.2 (i + 4).toNatClampNeg) u1 = some (b, u2)) (hT : M_thrown u2 = some T) (H : (∃ v, t = .inl v ∧ b = v ∧ T = 0) ∨ (t = .inr 0 ∧ T = 1) ∨ (t = .inr 1 ∧ T = 2) ∨ (t = .inr 3 ∧ T = 3)) (K : ∀ fL fD c1 z1, c1 ≤ c + 1 → z1 ≤ z + 6 → ∃ r, mg_Ev sc 11 258 2448 [some (.ref 0), some (.ref 1), some (.ref 43), some (.ref 51), some (.ref 52), some (.int i), none, none, none] [] (hp u2 fL fD, c1, z1) r ∧ Q r) : ∃ r, mg_Ev sc 11 258 1120 [some (.ref 0), some (.ref 1), some (.ref 43), some (.ref 51), some (.ref 52), some (.int i), none, none, none] [] (hp u fL fD, c, z) r ∧ Q r := by
  rcases H with ⟨v, rfl, rfl, rfl⟩ | ⟨rfl, rfl⟩ | ⟨rfl, rfl⟩ | ⟨rfl, rfl⟩
  · obtain ⟨r, hr, hQ⟩ := K (vp_updL fL 0 b.toInt64) fD c z (Nat.le_succ _) (Nat.le_add_right _ _)
    refine ⟨r, ?_, hQ⟩
    refine mg_Ev.go 5 (pc' := 1126) (loc' := [some (.ref 0), some (.ref 1), some (.ref 43), some (.ref 51), some (.ref 52), some (.int i), none, none, none]) (st' := [.int (i + 1), .ref 0, .ref 1]) (w' := (hp u fL fD, c, z)) rfl ?_
    refine mg_Ev.sld rfl hb1 ?_
    refine mg_Ev.go 4 (pc' := 1132) (loc' := [some (.ref 0), some (.ref 1), some (.ref 43), some (.ref 51), some (.ref 52), some (.int i), none, none, none]) (st' := [.int (i + 2), .ref 0, .int (sc.2 (i + 1).toNatClampNeg), .ref 1]) (w' := (hp u fL fD, c, z)) rfl ?_
    refine mg_Ev.sld rfl hb2 ?_
    refine mg_Ev.go 4 (pc' := 1138) (loc' := [some (.ref 0), some (.ref 1), some (.ref 43), some (.ref 51), some (.ref 52), some (.int i), none, none, none]) (st' := [.int (i + 3), .ref 0, .int (sc.2 (i + 2).toNatClampNeg), .int (sc.2 (i + 1).toNatClampNeg), .ref 1]) (w' := (hp u fL fD, c, z)) rfl ?_
    refine mg_Ev.sld rfl hb3 ?_
    refine mg_Ev.go 4 (pc' := 1144) (loc' := [some (.ref 0), some (.ref 1), some (.ref 43), some (.ref 51), some (.ref 52), some (.int i), none, none, none]) (st' := [.int (i + 4), .ref 0, .int (sc.2 (i + 3).toNatClampNeg), .int (sc.2 (i + 2).toNatClampNeg), .int (sc.2 (i + 1).toNatClampNeg), .ref 1]) (w' := (hp u fL fD, c, z)) rfl ?_
    refine mg_Ev.sld rfl hb4 ?_
    refine mg_Ev.go 1 (pc' := 1146) (loc' := [some (.ref 0), some (.ref 1), some (.ref 43), some (.ref 51), some (.ref 52), some (.int i), none, none, none]) (st' := [.ref 51, .int (sc.2 (i + 4).toNatClampNeg), .int (sc.2 (i + 3).toNatClampNeg), .int (sc.2 (i + 2).toNatClampNeg), .int (sc.2 (i + 1).toNatClampNeg), .ref 1]) (w' := (hp u fL fD, c, z)) rfl ?_
    refine mg_Ev.call (y := 236) (as := [.ref 1, .int (sc.2 (i + 1).toNatClampNeg), .int (sc.2 (i + 2).toNatClampNeg), .int (sc.2 (i + 3).toNatClampNeg), .int (sc.2 (i + 4).toNatClampNeg), .ref 51]) (rest := []) (v := some (.int 0)) (w1 := (hp u1 (vp_updL fL 0 b.toInt64) fD, c, z)) rfl rfl (Nat.le_of_ble_eq_true rfl) ((ev_W_missed_ok hC).deep (by decide)) ?_
    refine mg_Ev.go 1 (pc' := 1151) (loc' := [some (.ref 0), some (.ref 1), some (.ref 43), some (.ref 51), some (.ref 52), some (.int i), some (.int 0), none, none]) (st' := []) (w' := (hp u1 (vp_updL fL 0 b.toInt64) fD, c, z)) rfl ?_
    exact ev_opB_12 hb1 hb2 hb3 hb4 hM hT (fun _ => rfl) hr
  · obtain ⟨r, hr, hQ⟩ := K fL fD (c + 1) (z + 6) (Nat.le_refl _) (Nat.le_refl _)
    refine ⟨r, ?_, hQ⟩
    refine mg_Ev.go 5 (pc' := 1126) (loc' := [some (.ref 0), some (.ref 1), some (.ref 43), some (.ref 51), some (.ref 52), some (.int i), none, none, none]) (st' := [.int (i + 1), .ref 0, .ref 1]) (w' := (hp u fL fD, c, z)) rfl ?_
    refine mg_Ev.sld rfl hb1 ?_
    refine mg_Ev.go 4 (pc' := 1132) (loc' := [some (.ref 0), some (.ref 1), some (.ref 43), some (.ref 51), some (.ref 52), some (.int i), none, none, none]) (st' := [.int (i + 2), .ref 0, .int (sc.2 (i + 1).toNatClampNeg), .ref 1]) (w' := (hp u fL fD, c, z)) rfl ?_
    refine mg_Ev.sld rfl hb2 ?_
    refine mg_Ev.go 4 (pc' := 1138) (loc' := [some (.ref 0), some (.ref 1), some (.ref 43), some (.ref 51), some (.ref 52), some (.int i), none, none, none]) (st' := [.int (i + 3), .ref 0, .int (sc.2 (i + 2).toNatClampNeg), .int (sc.2 (i + 1).toNatClampNeg), .ref 1]) (w' := (hp u fL fD, c, z)) rfl ?_
    refine mg_Ev.sld rfl hb3 ?_
    refine mg_Ev.go 4 (pc' := 1144) (loc' := [some (.ref 0), some (.ref 1), some (.ref 43), some (.ref 51), some (.ref 52), some (.int i), none, none, none]) (st' := [.int (i + 4), .ref 0, .int (sc.2 (i + 3).toNatClampNeg), .int (sc.2 (i + 2).toNatClampNeg), .int (sc.2 (i + 1).toNatClampNeg), .ref 1]) (w' := (hp u fL fD, c, z)) rfl ?_
    refine mg_Ev.sld rfl hb4 ?_
    refine mg_Ev.go 1 (pc' := 1146) (loc' := [some (.ref 0), some (.ref 1), some (.ref 43), some (.ref 51), some (.ref 52), some (.int i), none, none, none]) (st' := [.ref 51, .int (sc.2 (i + 4).toNatClampNeg), .int (sc.2 (i + 3).toNatClampNeg), .int (sc.2 (i + 2).toNatClampNeg), .int (sc.2 (i + 1).toNatClampNeg), .ref 1]) (w' := (hp u fL fD, c, z)) rfl ?_
    refine mg_Ev.call (y := 236) (as := [.ref 1, .int (sc.2 (i + 1).toNatClampNeg), .int (sc.2 (i + 2).toNatClampNeg), .int (sc.2 (i + 3).toNatClampNeg), .int (sc.2 (i + 4).toNatClampNeg), .ref 51]) (rest := []) (v := some (.int 1)) (w1 := (hp u1 fL fD, c + 1, z + 6)) rfl rfl (Nat.le_of_ble_eq_true rfl) ((ev_W_missed_x0 hC).deep (by decide)) ?_
    refine mg_Ev.go 1 (pc' := 1151) (loc' := [some (.ref 0), some (.ref 1), some (.ref 43), some (.ref 51), some (.ref 52), some (.int i), some (.int 1), none, none]) (st' := []) (w' := (hp u1 fL fD, c + 1, z + 6)) rfl ?_
    exact ev_opB_12 hb1 hb2 hb3 hb4 hM hT (fun q => absurd q (by decide)) hr
  · obtain ⟨r, hr, hQ⟩ := K fL fD (c + 1) (z + 6) (Nat.le_refl _) (Nat.le_refl _)
    refine ⟨r, ?_, hQ⟩
    refine mg_Ev.go 5 (pc' := 1126) (loc' := [some (.ref 0), some (.ref 1), some (.ref 43), some (.ref 51), some (.ref 52), some (.int i), none, none, none]) (st' := [.int (i + 1), .ref 0, .ref 1]) (w' := (hp u fL fD, c, z)) rfl ?_
    refine mg_Ev.sld rfl hb1 ?_
    refine mg_Ev.go 4 (pc' := 1132) (loc' := [some (.ref 0), some (.ref 1), some (.ref 43), some (.ref 51), some (.ref 52), some (.int i), none, none, none]) (st' := [.int (i + 2), .ref 0, .int (sc.2 (i + 1).toNatClampNeg), .ref 1]) (w' := (hp u fL fD, c, z)) rfl ?_
    refine mg_Ev.sld rfl hb2 ?_
    refine mg_Ev.go 4 (pc' := 1138) (loc' := [some (.ref 0), some (.ref 1), some (.ref 43), some (.ref 51), some (.ref 52), some (.int i), none, none, none]) (st' := [.int (i + 3), .ref 0, .int (sc.2 (i + 2).toNatClampNeg), .int (sc.2 (i + 1).toNatClampNeg), .ref 1]) (w' := (hp u fL fD, c, z)) rfl ?_
    refine mg_Ev.sld rfl hb3 ?_
    refine mg_Ev.go 4 (pc' := 1144) (loc' := [some (.ref 0), some (.ref 1), some (.ref 43), some (.ref 51), some (.ref 52), some (.int i), none, none, none]) (st' := [.int (i + 4), .ref 0, .int (sc.2 (i + 3).toNatClampNeg), .int (sc.2 (i + 2).toNatClampNeg), .int (sc.2 (i + 1).toNatClampNeg), .ref 1]) (w' := (hp u fL fD, c, z)) rfl ?_
    refine mg_Ev.sld rfl hb4 ?_
    refine mg_Ev.go 1 (pc' := 1146) (loc' := [some (.ref 0), some (.ref 1), some (.ref 43), some (.ref 51), some (.ref 52), some (.int i), none, none, none]) (st' := [.ref 51, .int (sc.2 (i + 4).toNatClampNeg), .int (sc.2 (i + 3).toNatClampNeg), .int (sc.2 (i + 2).toNatClampNeg), .int (sc.2 (i + 1).toNatClampNeg), .ref 1]) (w' := (hp u fL fD, c, z)) rfl ?_
    refine mg_Ev.call (y := 236) (as := [.ref 1, .int (sc.2 (i + 1).toNatClampNeg), .int (sc.2 (i + 2).toNatClampNeg), .int (sc.2 (i + 3).toNatClampNeg), .int (sc.2 (i + 4).toNatClampNeg), .ref 51]) (rest := []) (v := some (.int 2)) (w1 := (hp u1 fL fD, c + 1, z + 6)) rfl rfl (Nat.le_of_ble_eq_true rfl) ((ev_W_missed_x1 hC).deep (by decide)) ?_
    refine mg_Ev.go 1 (pc' := 1151) (loc' := [some (.ref 0), some (.ref 1), some (.ref 43), some (.ref 51), some (.ref 52), some (.int i), some (.int 2), none, none]) (st' := []) (w' := (hp u1 fL fD, c + 1, z + 6)) rfl ?_
    exact ev_opB_12 hb1 hb2 hb3 hb4 hM hT (fun q => absurd q (by decide)) hr
  · obtain ⟨r, hr, hQ⟩ := K fL fD (c + 1) (z + 6) (Nat.le_refl _) (Nat.le_refl _)
    refine ⟨r, ?_, hQ⟩
    refine mg_Ev.go 5 (pc' := 1126) (loc' := [some (.ref 0), some (.ref 1), some (.ref 43), some (.ref 51), some (.ref 52), some (.int i), none, none, none]) (st' := [.int (i + 1), .ref 0, .ref 1]) (w' := (hp u fL fD, c, z)) rfl ?_
    refine mg_Ev.sld rfl hb1 ?_
    refine mg_Ev.go 4 (pc' := 1132) (loc' := [some (.ref 0), some (.ref 1), some (.ref 43), some (.ref 51), some (.ref 52), some (.int i), none, none, none]) (st' := [.int (i + 2), .ref 0, .int (sc.2 (i + 1).toNatClampNeg), .ref 1]) (w' := (hp u fL fD, c, z)) rfl ?_
    refine mg_Ev.sld rfl hb2 ?_
    refine mg_Ev.go 4 (pc' := 1138) (loc' := [some (.ref 0), some (.ref 1), some (.ref 43), some (.ref 51), some (.ref 52), some (.int i), none, none, none]) (st' := [.int (i + 3), .ref 0, .int (sc.2 (i + 2).toNatClampNeg), .int (sc.2 (i + 1).toNatClampNeg), .ref 1]) (w' := (hp u fL fD, c, z)) rfl ?_
    refine mg_Ev.sld rfl hb3 ?_
    refine mg_Ev.go 4 (pc' := 1144) (loc' := [some (.ref 0), some (.ref 1), some (.ref 43), some (.ref 51), some (.ref 52), some (.int i), none, none, none]) (st' := [.int (i + 4), .ref 0, .int (sc.2 (i + 3).toNatClampNeg), .int (sc.2 (i + 2).toNatClampNeg), .int (sc.2 (i + 1).toNatClampNeg), .ref 1]) (w' := (hp u fL fD, c, z)) rfl ?_
    refine mg_Ev.sld rfl hb4 ?_
    refine mg_Ev.go 1 (pc' := 1146) (loc' := [some (.ref 0), some (.ref 1), some (.ref 43), some (.ref 51), some (.ref 52), some (.int i), none, none, none]) (st' := [.ref 51, .int (sc.2 (i + 4).toNatClampNeg), .int (sc.2 (i + 3).toNatClampNeg), .int (sc.2 (i + 2).toNatClampNeg), .int (sc.2 (i + 1).toNatClampNeg), .ref 1]) (w' := (hp u fL fD, c, z)) rfl ?_
    refine mg_Ev.call (y := 236) (as := [.ref 1, .int (sc.2 (i + 1).toNatClampNeg), .int (sc.2 (i + 2).toNatClampNeg), .int (sc.2 (i + 3).toNatClampNeg), .int (sc.2 (i + 4).toNatClampNeg), .ref 51]) (rest := []) (v := some (.int 3)) (w1 := (hp u1 fL fD, c + 1, z + 6)) rfl rfl (Nat.le_of_ble_eq_true rfl) ((ev_W_missed_x3 hC).deep (by decide)) ?_
    refine mg_Ev.go 1 (pc' := 1151) (loc' := [some (.ref 0), some (.ref 1), some (.ref 43), some (.ref 51), some (.ref 52), some (.int i), some (.int 3), none, none]) (st' := []) (w' := (hp u1 fL fD, c + 1, z + 6)) rfl ?_
    exact ev_opB_12 hb1 hb2 hb3 hb4 hM hT (fun q => absurd q (by decide)) hr
def Ob_12 (I : mg_Rg → Prop) : Prop := ∀ u, I u → ∀ p1 p2 p3 p4 : Int32, ∃ (t : Int32 ⊕ Nat) (u1 : mg_Rg) (b : Int32) (u2 : mg_Rg) (T : Int32), C_missed p1 p2 p3 p4 u = some (t, u1) ∧ M_missed p1 p2 p3 p4 u1 = some (b, u2) ∧ M_thrown u2 = some T ∧ ((∃ v, t = .inl v ∧ b = v ∧ T = 0) ∨ (t = .inr 0 ∧ T = 1) ∨ (t = .inr 1 ∧ T = 2) ∨ (t = .inr 3 ∧ T = 3)) ∧ I u2
theorem st_op_12 {sc : mg_Sc} {c z : Nat} {fL : Nat → Int64} {fD : Nat → UInt64} {i : Int32} {u : mg_Rg} {Q : mg_R → Prop} {I : mg_Rg → Prop} (O : Ob_12 I) (hu : I u) (hb1 : ¬ ((i + 1) < 0 ∨ sc.1 ≤ (i + 1).toNatClampNeg)) (hb2 : ¬ ((i + 2) < 0 ∨ sc.1 ≤ (i + 2).toNatClampNeg)) (hb3 : ¬ ((i + 3) < 0 ∨ sc.1 ≤ (i + 3).toNatClampNeg)) (hb4 : ¬ ((i + 4) < 0 ∨ sc.1 ≤ (i + 4).toNatClampNeg)) (K : ∀ u2 fL fD c1 z1, I u2 → c1 ≤ c + 1 → z1 ≤ z + 6 → ∃ r, mg_Ev sc 11 258 2448 [some (.ref 0), some (.ref 1), some (.ref 43), some (.ref 51), some (.ref 52), some (.int i), none, none, none] [] (hp u2 fL fD, c1, z1) r ∧ Q r) : ∃ r, mg_Ev sc 11 258 1120 [some (.ref 0), some (.ref 1), some (.ref 43), some (.ref 51), some (.ref 52), some (.int i), none, none, none] [] (hp u fL fD, c, z) r ∧ Q r := by
  obtain ⟨t, u1, b, u2, T, hC, hM, hT, H, hI⟩ := O u hu (sc.2 (i + 1).toNatClampNeg) (sc.2 (i + 2).toNatClampNeg) (sc.2 (i + 3).toNatClampNeg) (sc.2 (i + 4).toNatClampNeg)
  exact ev_op_12 hb1 hb2 hb3 hb4 hC hM hT H (fun fL fD c1 z1 h1 h2 => K u2 fL fD c1 z1 hI h1 h2)
