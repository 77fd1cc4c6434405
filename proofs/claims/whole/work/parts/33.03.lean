set_option maxRecDepth 10000 in
set_option maxHeartbeats 4000000 in
theorem ev_opB_22 {sc : mg_Sc} {c z : Nat} {fL : Nat → Int64} {fD : Nat → UInt64} {i T : Int32} {b : Int32} {u1 u2 : mg_Rg} {r : mg_R} (hb1 : ¬ ((i + 1) < 0 ∨ sc.1 ≤ (i + 1).toNatClampNeg)) (hb2 : ¬ ((i + 2) < 0 ∨ sc.1 ≤ (i + 2).toNatClampNeg)) (hM : M_prove (sc.2 (i + 1).toNatClampNeg) (sc.2 (i + 2).toNatClampNeg) u1 = some (b, u2)) (hT : M_thrown u2 = some T) (hv : T = 0 → fL 0 = b.toInt64) (K : mg_Ev sc 11 258 2448 [some (.ref 0), some (.ref 1), some (.ref 43), some (.ref 51), some (.ref 52), some (.int i), none, none, none] [] (hp u2 fL fD, c, z) r) : mg_Ev sc 11 258 1740 [some (.ref 0), some (.ref 1), some (.ref 43), some (.ref 51), some (.ref 52), some (.int i), some (.int T), none, none] [] (hp u1 fL fD, c, z) r := by
  refine mg_Ev.go 5 (pc' := 1746) (loc' := [some (.ref 0), some (.ref 1), some (.ref 43), some (.ref 51), some (.ref 52), some (.int i), some (.int T), none, none]) (st' := [.int (i + 1), .ref 0, .ref 43]) (w' := (hp u1 fL fD, c, z)) rfl ?_
  refine mg_Ev.sld rfl hb1 ?_
  refine mg_Ev.go 4 (pc' := 1752) (loc' := [some (.ref 0), some (.ref 1), some (.ref 43), some (.ref 51), some (.ref 52), some (.int i), some (.int T), none, none]) (st' := [.int (i + 2), .ref 0, .int (sc.2 (i + 1).toNatClampNeg), .ref 43]) (w' := (hp u1 fL fD, c, z)) rfl ?_
  refine mg_Ev.sld rfl hb2 ?_
  refine mg_Ev.call (y := 117) (as := [.ref 43, .int (sc.2 (i + 1).toNatClampNeg), .int (sc.2 (i + 2).toNatClampNeg)]) (rest := []) (v := some (.int b)) (w1 := (hp u2 fL fD, c, z)) rfl rfl (Nat.le_of_ble_eq_true rfl) ((ev_M_prove hM).deep (by decide)) ?_
  refine mg_Ev.go 2 (pc' := 1759) (loc' := [some (.ref 0), some (.ref 1), some (.ref 43), some (.ref 51), some (.ref 52), some (.int i), some (.int T), some (.int b), none]) (st' := [.ref 43]) (w' := (hp u2 fL fD, c, z)) rfl ?_
  refine mg_Ev.call (y := 57) (as := [.ref 43]) (rest := []) (v := some (.int T)) (w1 := (hp u2 fL fD, c, z)) rfl rfl (Nat.le_of_ble_eq_true rfl) ((ev_M_thrown hT).deep (by decide)) ?_
  refine mg_Ev.go 1 (pc' := 1764) (loc' := [some (.ref 0), some (.ref 1), some (.ref 43), some (.ref 51), some (.ref 52), some (.int i), some (.int T), some (.int b), none]) (st' := [.int T, .int T]) (w' := (hp u2 fL fD, c, z)) rfl ?_
  refine mg_Ev.br (P := T = T) (t := 1769) (nx := 1767) (st' := []) rfl rfl rfl rfl (fun _ => ?_) (fun q => absurd rfl q)
  refine mg_Ev.go 1 (pc' := 1771) (loc' := [some (.ref 0), some (.ref 1), some (.ref 43), some (.ref 51), some (.ref 52), some (.int i), some (.int T), some (.int b), none]) (st' := [.int T]) (w' := (hp u2 fL fD, c, z)) rfl ?_
  refine mg_Ev.br (P := T = 0) (t := 1774) (nx := 1786) (st' := []) rfl rfl rfl rfl (fun h0 => ?_) (fun _ => ?_)
  · have h1 := hv h0
    refine mg_Ev.go 2 (pc' := 1776) (loc' := [some (.ref 0), some (.ref 1), some (.ref 43), some (.ref 51), some (.ref 52), some (.int i), some (.int T), some (.int b), none]) (st' := [.int 0, .ref 51]) (w' := (hp u2 fL fD, c, z)) rfl ?_
    refine mg_Ev.lald (a := 50) (n := 1) (f := fL) (j := 0) rfl (hpg_50 _ _ _) (by decide) (by decide) ?_
    rw [h1]
    refine mg_Ev.go 3 (pc' := 1781) (loc' := [some (.ref 0), some (.ref 1), some (.ref 43), some (.ref 51), some (.ref 52), some (.int i), some (.int T), some (.int b), none]) (st' := [.int (lg_cmp b.toInt64 b.toInt64)]) (w' := (hp u2 fL fD, c, z)) rfl ?_
    refine mg_Ev.br (P := lg_cmp b.toInt64 b.toInt64 = 0) (t := 1786) (nx := 1784) (st' := []) rfl rfl rfl rfl (fun _ => ?_) (fun q => absurd (mg_lcmp _) q)
    refine mg_Ev.go 1 (pc' := 2448) (loc' := [some (.ref 0), some (.ref 1), some (.ref 43), some (.ref 51), some (.ref 52), some (.int i), some (.int T), some (.int b), none]) (st' := []) (w' := (hp u2 fL fD, c, z)) rfl ?_
    exact mg_Ev.more K ⟨rfl, ⟨rfl, ⟨rfl, ⟨rfl, ⟨rfl, ⟨rfl, trivial⟩⟩⟩⟩⟩⟩
  · refine mg_Ev.go 1 (pc' := 2448) (loc' := [some (.ref 0), some (.ref 1), some (.ref 43), some (.ref 51), some (.ref 52), some (.int i), some (.int T), some (.int b), none]) (st' := []) (w' := (hp u2 fL fD, c, z)) rfl ?_
    exact mg_Ev.more K ⟨rfl, ⟨rfl, ⟨rfl, ⟨rfl, ⟨rfl, ⟨rfl, trivial⟩⟩⟩⟩⟩⟩
set_option maxRecDepth 10000 in
set_option maxHeartbeats 4000000 in
theorem ev_op_22 {sc : mg_Sc} {c z : Nat} {fL : Nat → Int64} {fD : Nat → UInt64} {i T : Int32} {b : Int32} {t : Int32 ⊕ Nat} {u u1 u2 : mg_Rg} {Q : mg_R → Prop} (hb1 : ¬ ((i + 1) < 0 ∨ sc.1 ≤ (i + 1).toNatClampNeg)) (hb2 : ¬ ((i + 2) < 0 ∨ sc.1 ≤ (i + 2).toNatClampNeg)) (hC : C_prove (sc.2 (i + 1).toNatClampNeg) (sc.2 (i + 2).toNatClampNeg) u = some (t, u1)) (hM : M_prove (sc.2 (i + 1).toNatClampNeg) (sc.2 (i + 2).toNatClampNeg) u1 = some (b, u2)) (hT : M_thrown u2 = some T) (H : (∃ v, t = .inl v ∧ b = v ∧ T = 0) ∨ (t = .inr 0 ∧ T = 1) ∨ (t = .inr 1 ∧ T = 2) ∨ (t = .inr 4 ∧ T = 3)) (K : ∀ fL fD c1 z1, c1 ≤ c + 1 → z1 ≤ z + 6 → ∃ r, mg_Ev sc 11 258 2448 [some (.ref 0), some (.ref 1), some (.ref 43), some (.ref 51), some (.ref 52), some (.int i), none, none, none] [] (hp u2 fL fD, c1, z1) r ∧ Q r) : ∃ r, mg_Ev sc 11 258 1721 [some (.ref 0), some (.ref 1), some (.ref 43), some (.ref 51), some (.ref 52), some (.int i), none, none, none] [] (hp u fL fD, c, z) r ∧ Q r := by
  rcases H with ⟨v, rfl, rfl, rfl⟩ | ⟨rfl, rfl⟩ | ⟨rfl, rfl⟩ | ⟨rfl, rfl⟩
  · obtain ⟨r, hr, hQ⟩ := K (vp_updL fL 0 b.toInt64) fD c z (Nat.le_succ _) (Nat.le_add_right _ _)
    refine ⟨r, ?_, hQ⟩
    refine mg_Ev.go 5 (pc' := 1727) (loc' := [some (.ref 0), some (.ref 1), some (.ref 43), some (.ref 51), some (.ref 52), some (.int i), none, none, none]) (st' := [.int (i + 1), .ref 0, .ref 1]) (w' := (hp u fL fD, c, z)) rfl ?_
    refine mg_Ev.sld rfl hb1 ?_
    refine mg_Ev.go 4 (pc' := 1733) (loc' := [some (.ref 0), some (.ref 1), some (.ref 43), some (.ref 51), some (.ref 52), some (.int i), none, none, none]) (st' := [.int (i + 2), .ref 0, .int (sc.2 (i + 1).toNatClampNeg), .ref 1]) (w' := (hp u fL fD, c, z)) rfl ?_
    refine mg_Ev.sld rfl hb2 ?_
    refine mg_Ev.go 1 (pc' := 1735) (loc' := [some (.ref 0), some (.ref 1), some (.ref 43), some (.ref 51), some (.ref 52), some (.int i), none, none, none]) (st' := [.ref 51, .int (sc.2 (i + 2).toNatClampNeg), .int (sc.2 (i + 1).toNatClampNeg), .ref 1]) (w' := (hp u fL fD, c, z)) rfl ?_
    refine mg_Ev.call (y := 245) (as := [.ref 1, .int (sc.2 (i + 1).toNatClampNeg), .int (sc.2 (i + 2).toNatClampNeg), .ref 51]) (rest := []) (v := some (.int 0)) (w1 := (hp u1 (vp_updL fL 0 b.toInt64) fD, c, z)) rfl rfl (Nat.le_of_ble_eq_true rfl) ((ev_W_prove_ok hC).deep (by decide)) ?_
    refine mg_Ev.go 1 (pc' := 1740) (loc' := [some (.ref 0), some (.ref 1), some (.ref 43), some (.ref 51), some (.ref 52), some (.int i), some (.int 0), none, none]) (st' := []) (w' := (hp u1 (vp_updL fL 0 b.toInt64) fD, c, z)) rfl ?_
    exact ev_opB_22 hb1 hb2 hM hT (fun _ => rfl) hr
  · obtain ⟨r, hr, hQ⟩ := K fL fD (c + 1) (z + 6) (Nat.le_refl _) (Nat.le_refl _)
    refine ⟨r, ?_, hQ⟩
    refine mg_Ev.go 5 (pc' := 1727) (loc' := [some (.ref 0), some (.ref 1), some (.ref 43), some (.ref 51), some (.ref 52), some (.int i), none, none, none]) (st' := [.int (i + 1), .ref 0, .ref 1]) (w' := (hp u fL fD, c, z)) rfl ?_
    refine mg_Ev.sld rfl hb1 ?_
    refine mg_Ev.go 4 (pc' := 1733) (loc' := [some (.ref 0), some (.ref 1), some (.ref 43), some (.ref 51), some (.ref 52), some (.int i), none, none, none]) (st' := [.int (i + 2), .ref 0, .int (sc.2 (i + 1).toNatClampNeg), .ref 1]) (w' := (hp u fL fD, c, z)) rfl ?_
    refine mg_Ev.sld rfl hb2 ?_
    refine mg_Ev.go 1 (pc' := 1735) (loc' := [some (.ref 0), some (.ref 1), some (.ref 43), some (.ref 51), some (.ref 52), some (.int i), none, none, none]) (st' := [.ref 51, .int (sc.2 (i + 2).toNatClampNeg), .int (sc.2 (i + 1).toNatClampNeg), .ref 1]) (w' := (hp u fL fD, c, z)) rfl ?_
    refine mg_Ev.call (y := 245) (as := [.ref 1, .int (sc.2 (i + 1).toNatClampNeg), .int (sc.2 (i + 2).toNatClampNeg), .ref 51]) (rest := []) (v := some (.int 1)) (w1 := (hp u1 fL fD, c + 1, z + 6)) rfl rfl (Nat.le_of_ble_eq_true rfl) ((ev_W_prove_x0 hC).deep (by decide)) ?_
    refine mg_Ev.go 1 (pc' := 1740) (loc' := [some (.ref 0), some (.ref 1), some (.ref 43), some (.ref 51), some (.ref 52), some (.int i), some (.int 1), none, none]) (st' := []) (w' := (hp u1 fL fD, c + 1, z + 6)) rfl ?_
    exact ev_opB_22 hb1 hb2 hM hT (fun q => absurd q (by decide)) hr
  · obtain ⟨r, hr, hQ⟩ := K fL fD (c + 1) (z + 6) (Nat.le_refl _) (Nat.le_refl _)
    refine ⟨r, ?_, hQ⟩
    refine mg_Ev.go 5 (pc' := 1727) (loc' := [some (.ref 0), some (.ref 1), some (.ref 43), some (.ref 51), some (.ref 52), some (.int i), none, none, none]) (st' := [.int (i + 1), .ref 0, .ref 1]) (w' := (hp u fL fD, c, z)) rfl ?_
    refine mg_Ev.sld rfl hb1 ?_
    refine mg_Ev.go 4 (pc' := 1733) (loc' := [some (.ref 0), some (.ref 1), some (.ref 43), some (.ref 51), some (.ref 52), some (.int i), none, none, none]) (st' := [.int (i + 2), .ref 0, .int (sc.2 (i + 1).toNatClampNeg), .ref 1]) (w' := (hp u fL fD, c, z)) rfl ?_
    refine mg_Ev.sld rfl hb2 ?_
    refine mg_Ev.go 1 (pc' := 1735) (loc' := [some (.ref 0), some (.ref 1), some (.ref 43), some (.ref 51), some (.ref 52), some (.int i), none, none, none]) (st' := [.ref 51, .int (sc.2 (i + 2).toNatClampNeg), .int (sc.2 (i + 1).toNatClampNeg), .ref 1]) (w' := (hp u fL fD, c, z)) rfl ?_
    refine mg_Ev.call (y := 245) (as := [.ref 1, .int (sc.2 (i + 1).toNatClampNeg), .int (sc.2 (i + 2).toNatClampNeg), .ref 51]) (rest := []) (v := some (.int 2)) (w1 := (hp u1 fL fD, c + 1, z + 6)) rfl rfl (Nat.le_of_ble_eq_true rfl) ((ev_W_prove_x1 hC).deep (by decide)) ?_
    refine mg_Ev.go 1 (pc' := 1740) (loc' := [some (.ref 0), some (.ref 1), some (.ref 43), some (.ref 51), some (.ref 52), some (.int i), some (.int 2), none, none]) (st' := []) (w' := (hp u1 fL fD, c + 1, z + 6)) rfl ?_
    exact ev_opB_22 hb1 hb2 hM hT (fun q => absurd q (by decide)) hr
  · obtain ⟨r, hr, hQ⟩ := K fL fD (c + 1) (z + 6) (Nat.le_refl _) (Nat.le_refl _)
    refine ⟨r, ?_, hQ⟩
    refine mg_Ev.go 5 (pc' := 1727) (loc' := [some (.ref 0), some (.ref 1), some (.ref 43), some (.ref 51), some (.ref 52), some (.int i), none, none, none]) (st' := [.int (i + 1), .ref 0, .ref 1]) (w' := (hp u fL fD, c, z)) rfl ?_
    refine mg_Ev.sld rfl hb1 ?_
    refine mg_Ev.go 4 (pc' := 1733) (loc' := [some (.ref 0), some (.ref 1), some (.ref 43), some (.ref 51), some (.ref 52), some (.int i), none, none, none]) (st' := [.int (i + 2), .ref 0, .int (sc.2 (i + 1).toNatClampNeg), .ref 1]) (w' := (hp u fL fD, c, z)) rfl ?_
    refine mg_Ev.sld rfl hb2 ?_
    refine mg_Ev.go 1 (pc' := 1735) (loc' := [some (.ref 0), some (.ref 1), some (.ref 43), some (.ref 51), some (.ref 52), some (.int i), none, none, none]) (st' := [.ref 51, .int (sc.2 (i + 2).toNatClampNeg), .int (sc.2 (i + 1).toNatClampNeg), .ref 1]) (w' := (hp u fL fD, c, z)) rfl ?_
    refine mg_Ev.call (y := 245) (as := [.ref 1, .int (sc.2 (i + 1).toNatClampNeg), .int (sc.2 (i + 2).toNatClampNeg), .ref 51]) (rest := []) (v := some (.int 3)) (w1 := (hp u1 fL fD, c + 1, z + 6)) rfl rfl (Nat.le_of_ble_eq_true rfl) ((ev_W_prove_x4 hC).deep (by decide)) ?_
    refine mg_Ev.go 1 (pc' := 1740) (loc' := [some (.ref 0), some (.ref 1), some (.ref 43), some (.ref 51), some (.ref 52), some (.int i), some (.int 3), none, none]) (st' := []) (w' := (hp u1 fL fD, c + 1, z + 6)) rfl ?_
    exact ev_opB_22 hb1 hb2 hM hT (fun q => absurd q (by decide)) hr
def Ob_22 (I : mg_Rg → Prop) : Prop := ∀ u, I u → ∀ p1 p2 : Int32, ∃ (t : Int32 ⊕ Nat) (u1 : mg_Rg) (b : Int32) (u2 : mg_Rg) (T : Int32), C_prove p1 p2 u = some (t, u1) ∧ M_prove p1 p2 u1 = some (b, u2) ∧ M_thrown u2 = some T ∧ ((∃ v, t = .inl v ∧ b = v ∧ T = 0) ∨ (t = .inr 0 ∧ T = 1) ∨ (t = .inr 1 ∧ T = 2) ∨ (t = .inr 4 ∧ T = 3)) ∧ I u2
theorem st_op_22 {sc : mg_Sc} {c z : Nat} {fL : Nat → Int64} {fD : Nat → UInt64} {i : Int32} {u : mg_Rg} {Q : mg_R → Prop} {I : mg_Rg → Prop} (O : Ob_22 I) (hu : I u) (hb1 : ¬ ((i + 1) < 0 ∨ sc.1 ≤ (i + 1).toNatClampNeg)) (hb2 : ¬ ((i + 2) < 0 ∨ sc.1 ≤ (i + 2).toNatClampNeg)) (K : ∀ u2 fL fD c1 z1, I u2 → c1 ≤ c + 1 → z1 ≤ z + 6 → ∃ r, mg_Ev sc 11 258 2448 [some (.ref 0), some (.ref 1), some (.ref 43), some (.ref 51), some (.ref 52), some (.int i), none, none, none] [] (hp u2 fL fD, c1, z1) r ∧ Q r) : ∃ r, mg_Ev sc 11 258 1721 [some (.ref 0), some (.ref 1), some (.ref 43), some (.ref 51), some (.ref 52), some (.int i), none, none, none] [] (hp u fL fD, c, z) r ∧ Q r := by
  obtain ⟨t, u1, b, u2, T, hC, hM, hT, H, hI⟩ := O u hu (sc.2 (i + 1).toNatClampNeg) (sc.2 (i + 2).toNatClampNeg)
  exact ev_op_22 hb1 hb2 hC hM hT H (fun fL fD c1 z1 h1 h2 => K u2 fL fD c1 z1 hI h1 h2)
set_option maxRecDepth 10000 in
set_option maxHeartbeats 4000000 in
theorem ev_opB_23 {sc : mg_Sc} {c z : Nat} {fL : Nat → Int64} {fD : Nat → UInt64} {i T : Int32} {b : Int32} {u1 u2 : mg_Rg} {r : mg_R} (hM : M_refusal u1 = some (b, u2)) (hT : M_thrown u2 = some T) (hv : T = 0 → fL 0 = b.toInt64) (K : mg_Ev sc 11 258 2448 [some (.ref 0), some (.ref 1), some (.ref 43), some (.ref 51), some (.ref 52), some (.int i), none, none, none] [] (hp u2 fL fD, c, z) r) : mg_Ev sc 11 258 1796 [some (.ref 0), some (.ref 1), some (.ref 43), some (.ref 51), some (.ref 52), some (.int i), some (.int T), none, none] [] (hp u1 fL fD, c, z) r := by
  refine mg_Ev.go 1 (pc' := 1797) (loc' := [some (.ref 0), some (.ref 1), some (.ref 43), some (.ref 51), some (.ref 52), some (.int i), some (.int T), none, none]) (st' := [.ref 43]) (w' := (hp u1 fL fD, c, z)) rfl ?_
  refine mg_Ev.call (y := 118) (as := [.ref 43]) (rest := []) (v := some (.int b)) (w1 := (hp u2 fL fD, c, z)) rfl rfl (Nat.le_of_ble_eq_true rfl) ((ev_M_refusal hM).deep (by decide)) ?_
  refine mg_Ev.go 2 (pc' := 1803) (loc' := [some (.ref 0), some (.ref 1), some (.ref 43), some (.ref 51), some (.ref 52), some (.int i), some (.int T), some (.int b), none]) (st' := [.ref 43]) (w' := (hp u2 fL fD, c, z)) rfl ?_
  refine mg_Ev.call (y := 57) (as := [.ref 43]) (rest := []) (v := some (.int T)) (w1 := (hp u2 fL fD, c, z)) rfl rfl (Nat.le_of_ble_eq_true rfl) ((ev_M_thrown hT).deep (by decide)) ?_
  refine mg_Ev.go 1 (pc' := 1808) (loc' := [some (.ref 0), some (.ref 1), some (.ref 43), some (.ref 51), some (.ref 52), some (.int i), some (.int T), some (.int b), none]) (st' := [.int T, .int T]) (w' := (hp u2 fL fD, c, z)) rfl ?_
  refine mg_Ev.br (P := T = T) (t := 1813) (nx := 1811) (st' := []) rfl rfl rfl rfl (fun _ => ?_) (fun q => absurd rfl q)
  refine mg_Ev.go 1 (pc' := 1815) (loc' := [some (.ref 0), some (.ref 1), some (.ref 43), some (.ref 51), some (.ref 52), some (.int i), some (.int T), some (.int b), none]) (st' := [.int T]) (w' := (hp u2 fL fD, c, z)) rfl ?_
  refine mg_Ev.br (P := T = 0) (t := 1818) (nx := 1830) (st' := []) rfl rfl rfl rfl (fun h0 => ?_) (fun _ => ?_)
  · have h1 := hv h0
    refine mg_Ev.go 2 (pc' := 1820) (loc' := [some (.ref 0), some (.ref 1), some (.ref 43), some (.ref 51), some (.ref 52), some (.int i), some (.int T), some (.int b), none]) (st' := [.int 0, .ref 51]) (w' := (hp u2 fL fD, c, z)) rfl ?_
    refine mg_Ev.lald (a := 50) (n := 1) (f := fL) (j := 0) rfl (hpg_50 _ _ _) (by decide) (by decide) ?_
    rw [h1]
    refine mg_Ev.go 3 (pc' := 1825) (loc' := [some (.ref 0), some (.ref 1), some (.ref 43), some (.ref 51), some (.ref 52), some (.int i), some (.int T), some (.int b), none]) (st' := [.int (lg_cmp b.toInt64 b.toInt64)]) (w' := (hp u2 fL fD, c, z)) rfl ?_
    refine mg_Ev.br (P := lg_cmp b.toInt64 b.toInt64 = 0) (t := 1830) (nx := 1828) (st' := []) rfl rfl rfl rfl (fun _ => ?_) (fun q => absurd (mg_lcmp _) q)
    refine mg_Ev.go 1 (pc' := 2448) (loc' := [some (.ref 0), some (.ref 1), some (.ref 43), some (.ref 51), some (.ref 52), some (.int i), some (.int T), some (.int b), none]) (st' := []) (w' := (hp u2 fL fD, c, z)) rfl ?_
    exact mg_Ev.more K ⟨rfl, ⟨rfl, ⟨rfl, ⟨rfl, ⟨rfl, ⟨rfl, trivial⟩⟩⟩⟩⟩⟩
  · refine mg_Ev.go 1 (pc' := 2448) (loc' := [some (.ref 0), some (.ref 1), some (.ref 43), some (.ref 51), some (.ref 52), some (.int i), some (.int T), some (.int b), none]) (st' := []) (w' := (hp u2 fL fD, c, z)) rfl ?_
    exact mg_Ev.more K ⟨rfl, ⟨rfl, ⟨rfl, ⟨rfl, ⟨rfl, ⟨rfl, trivial⟩⟩⟩⟩⟩⟩
set_option maxRecDepth 10000 in
set_option maxHeartbeats 4000000 in
theorem ev_op_23 {sc : mg_Sc} {c z : Nat} {fL : Nat → Int64} {fD : Nat → UInt64} {i T : Int32} {b : Int32} {t : Int32 ⊕ Nat} {u u1 u2 : mg_Rg} {Q : mg_R → Prop} (hC : C_refusal u = some (t, u1)) (hM : M_refusal u1 = some (b, u2)) (hT : M_thrown u2 = some T) (H : (∃ v, t = .inl v ∧ b = v ∧ T = 0) ∨ (t = .inr 3 ∧ T = 1)) (K : ∀ fL fD c1 z1, c1 ≤ c + 1 → z1 ≤ z + 6 → ∃ r, mg_Ev sc 11 258 2448 [some (.ref 0), some (.ref 1), some (.ref 43), some (.ref 51), some (.ref 52), some (.int i), none, none, none] [] (hp u2 fL fD, c1, z1) r ∧ Q r) : ∃ r, mg_Ev sc 11 258 1789 [some (.ref 0), some (.ref 1), some (.ref 43), some (.ref 51), some (.ref 52), some (.int i), none, none, none] [] (hp u fL fD, c, z) r ∧ Q r := by
  rcases H with ⟨v, rfl, rfl, rfl⟩ | ⟨rfl, rfl⟩
  · obtain ⟨r, hr, hQ⟩ := K (vp_updL fL 0 b.toInt64) fD c z (Nat.le_succ _) (Nat.le_add_right _ _)
    refine ⟨r, ?_, hQ⟩
    refine mg_Ev.go 2 (pc' := 1791) (loc' := [some (.ref 0), some (.ref 1), some (.ref 43), some (.ref 51), some (.ref 52), some (.int i), none, none, none]) (st' := [.ref 51, .ref 1]) (w' := (hp u fL fD, c, z)) rfl ?_
    refine mg_Ev.call (y := 246) (as := [.ref 1, .ref 51]) (rest := []) (v := some (.int 0)) (w1 := (hp u1 (vp_updL fL 0 b.toInt64) fD, c, z)) rfl rfl (Nat.le_of_ble_eq_true rfl) ((ev_W_refusal_ok hC).deep (by decide)) ?_
    refine mg_Ev.go 1 (pc' := 1796) (loc' := [some (.ref 0), some (.ref 1), some (.ref 43), some (.ref 51), some (.ref 52), some (.int i), some (.int 0), none, none]) (st' := []) (w' := (hp u1 (vp_updL fL 0 b.toInt64) fD, c, z)) rfl ?_
    exact ev_opB_23 hM hT (fun _ => rfl) hr
  · obtain ⟨r, hr, hQ⟩ := K fL fD (c + 1) (z + 6) (Nat.le_refl _) (Nat.le_refl _)
    refine ⟨r, ?_, hQ⟩
    refine mg_Ev.go 2 (pc' := 1791) (loc' := [some (.ref 0), some (.ref 1), some (.ref 43), some (.ref 51), some (.ref 52), some (.int i), none, none, none]) (st' := [.ref 51, .ref 1]) (w' := (hp u fL fD, c, z)) rfl ?_
    refine mg_Ev.call (y := 246) (as := [.ref 1, .ref 51]) (rest := []) (v := some (.int 1)) (w1 := (hp u1 fL fD, c + 1, z + 6)) rfl rfl (Nat.le_of_ble_eq_true rfl) ((ev_W_refusal_x3 hC).deep (by decide)) ?_
    refine mg_Ev.go 1 (pc' := 1796) (loc' := [some (.ref 0), some (.ref 1), some (.ref 43), some (.ref 51), some (.ref 52), some (.int i), some (.int 1), none, none]) (st' := []) (w' := (hp u1 fL fD, c + 1, z + 6)) rfl ?_
    exact ev_opB_23 hM hT (fun q => absurd q (by decide)) hr
def Ob_23 (I : mg_Rg → Prop) : Prop := ∀ u, I u → ∃ (t : Int32 ⊕ Nat) (u1 : mg_Rg) (b : Int32) (u2 : mg_Rg) (T : Int32), C_refusal u = some (t, u1) ∧ M_refusal u1 = some (b, u2) ∧ M_thrown u2 = some T ∧ ((∃ v, t = .inl v ∧ b = v ∧ T = 0) ∨ (t = .inr 3 ∧ T = 1)) ∧ I u2
theorem st_op_23 {sc : mg_Sc} {c z : Nat} {fL : Nat → Int64} {fD : Nat → UInt64} {i : Int32} {u : mg_Rg} {Q : mg_R → Prop} {I : mg_Rg → Prop} (O : Ob_23 I) (hu : I u) (K : ∀ u2 fL fD c1 z1, I u2 → c1 ≤ c + 1 → z1 ≤ z + 6 → ∃ r, mg_Ev sc 11 258 2448 [some (.ref 0), some (.ref 1), some (.ref 43), some (.ref 51), some (.ref 52), some (.int i), none, none, none] [] (hp u2 fL fD, c1, z1) r ∧ Q r) : ∃ r, mg_Ev sc 11 258 1789 [some (.ref 0), some (.ref 1), some (.ref 43), some (.ref 51), some (.ref 52), some (.int i), none, none, none] [] (hp u fL fD, c, z) r ∧ Q r := by
  obtain ⟨t, u1, b, u2, T, hC, hM, hT, H, hI⟩ := O u hu
  exact ev_op_23 hC hM hT H (fun fL fD c1 z1 h1 h2 => K u2 fL fD c1 z1 hI h1 h2)
set_option maxRecDepth 10000 in
set_option maxHeartbeats 4000000 in
theorem ev_opB_24 {sc : mg_Sc} {c z : Nat} {fL : Nat → Int64} {fD : Nat → UInt64} {i T : Int32} {b : Int32} {u1 u2 : mg_Rg} {r : mg_R} (hb1 : ¬ ((i + 1) < 0 ∨ sc.1 ≤ (i + 1).toNatClampNeg)) (hM : M_account (sc.2 (i + 1).toNatClampNeg) u1 = some (b, u2)) (hT : M_thrown u2 = some T) (hv : T = 0 → fL 0 = b.toInt64) (K : mg_Ev sc 11 258 2448 [some (.ref 0), some (.ref 1), some (.ref 43), some (.ref 51), some (.ref 52), some (.int i), none, none, none] [] (hp u2 fL fD, c, z) r) : mg_Ev sc 11 258 1846 [some (.ref 0), some (.ref 1), some (.ref 43), some (.ref 51), some (.ref 52), some (.int i), some (.int T), none, none] [] (hp u1 fL fD, c, z) r := by
  refine mg_Ev.go 5 (pc' := 1852) (loc' := [some (.ref 0), some (.ref 1), some (.ref 43), some (.ref 51), some (.ref 52), some (.int i), some (.int T), none, none]) (st' := [.int (i + 1), .ref 0, .ref 43]) (w' := (hp u1 fL fD, c, z)) rfl ?_
  refine mg_Ev.sld rfl hb1 ?_
  refine mg_Ev.call (y := 120) (as := [.ref 43, .int (sc.2 (i + 1).toNatClampNeg)]) (rest := []) (v := some (.int b)) (w1 := (hp u2 fL fD, c, z)) rfl rfl (Nat.le_of_ble_eq_true rfl) ((ev_M_account hM).deep (by decide)) ?_
  refine mg_Ev.go 2 (pc' := 1859) (loc' := [some (.ref 0), some (.ref 1), some (.ref 43), some (.ref 51), some (.ref 52), some (.int i), some (.int T), some (.int b), none]) (st' := [.ref 43]) (w' := (hp u2 fL fD, c, z)) rfl ?_
  refine mg_Ev.call (y := 57) (as := [.ref 43]) (rest := []) (v := some (.int T)) (w1 := (hp u2 fL fD, c, z)) rfl rfl (Nat.le_of_ble_eq_true rfl) ((ev_M_thrown hT).deep (by decide)) ?_
  refine mg_Ev.go 1 (pc' := 1864) (loc' := [some (.ref 0), some (.ref 1), some (.ref 43), some (.ref 51), some (.ref 52), some (.int i), some (.int T), some (.int b), none]) (st' := [.int T, .int T]) (w' := (hp u2 fL fD, c, z)) rfl ?_
  refine mg_Ev.br (P := T = T) (t := 1869) (nx := 1867) (st' := []) rfl rfl rfl rfl (fun _ => ?_) (fun q => absurd rfl q)
  refine mg_Ev.go 1 (pc' := 1871) (loc' := [some (.ref 0), some (.ref 1), some (.ref 43), some (.ref 51), some (.ref 52), some (.int i), some (.int T), some (.int b), none]) (st' := [.int T]) (w' := (hp u2 fL fD, c, z)) rfl ?_
  refine mg_Ev.br (P := T = 0) (t := 1874) (nx := 1886) (st' := []) rfl rfl rfl rfl (fun h0 => ?_) (fun _ => ?_)
  · have h1 := hv h0
    refine mg_Ev.go 2 (pc' := 1876) (loc' := [some (.ref 0), some (.ref 1), some (.ref 43), some (.ref 51), some (.ref 52), some (.int i), some (.int T), some (.int b), none]) (st' := [.int 0, .ref 51]) (w' := (hp u2 fL fD, c, z)) rfl ?_
    refine mg_Ev.lald (a := 50) (n := 1) (f := fL) (j := 0) rfl (hpg_50 _ _ _) (by decide) (by decide) ?_
    rw [h1]
    refine mg_Ev.go 3 (pc' := 1881) (loc' := [some (.ref 0), some (.ref 1), some (.ref 43), some (.ref 51), some (.ref 52), some (.int i), some (.int T), some (.int b), none]) (st' := [.int (lg_cmp b.toInt64 b.toInt64)]) (w' := (hp u2 fL fD, c, z)) rfl ?_
    refine mg_Ev.br (P := lg_cmp b.toInt64 b.toInt64 = 0) (t := 1886) (nx := 1884) (st' := []) rfl rfl rfl rfl (fun _ => ?_) (fun q => absurd (mg_lcmp _) q)
    refine mg_Ev.go 1 (pc' := 2448) (loc' := [some (.ref 0), some (.ref 1), some (.ref 43), some (.ref 51), some (.ref 52), some (.int i), some (.int T), some (.int b), none]) (st' := []) (w' := (hp u2 fL fD, c, z)) rfl ?_
    exact mg_Ev.more K ⟨rfl, ⟨rfl, ⟨rfl, ⟨rfl, ⟨rfl, ⟨rfl, trivial⟩⟩⟩⟩⟩⟩
  · refine mg_Ev.go 1 (pc' := 2448) (loc' := [some (.ref 0), some (.ref 1), some (.ref 43), some (.ref 51), some (.ref 52), some (.int i), some (.int T), some (.int b), none]) (st' := []) (w' := (hp u2 fL fD, c, z)) rfl ?_
    exact mg_Ev.more K ⟨rfl, ⟨rfl, ⟨rfl, ⟨rfl, ⟨rfl, ⟨rfl, trivial⟩⟩⟩⟩⟩⟩
set_option maxRecDepth 10000 in
set_option maxHeartbeats 4000000 in
theorem ev_op_24 {sc : mg_Sc} {c z : Nat} {fL : Nat → Int64} {fD : Nat → UInt64} {i T : Int32} {b : Int32} {t : Int32 ⊕ Nat} {u u1 u2 : mg_Rg} {Q : mg_R → Prop} (hb1 : ¬ ((i + 1) < 0 ∨ sc.1 ≤ (i + 1).toNatClampNeg)) (hC : C_account (sc.2 (i + 1).toNatClampNeg) u = some (t, u1)) (hM : M_account (sc.2 (i + 1).toNatClampNeg) u1 = some (b, u2)) (hT : M_thrown u2 = some T) (H : (∃ v, t = .inl v ∧ b = v ∧ T = 0) ∨ (t = .inr 1 ∧ T = 1)) (K : ∀ fL fD c1 z1, c1 ≤ c + 1 → z1 ≤ z + 6 → ∃ r, mg_Ev sc 11 258 2448 [some (.ref 0), some (.ref 1), some (.ref 43), some (.ref 51), some (.ref 52), some (.int i), none, none, none] [] (hp u2 fL fD, c1, z1) r ∧ Q r) : ∃ r, mg_Ev sc 11 258 1833 [some (.ref 0), some (.ref 1), some (.ref 43), some (.ref 51), some (.ref 52), some (.int i), none, none, none] [] (hp u fL fD, c, z) r ∧ Q r := by
  rcases H with ⟨v, rfl, rfl, rfl⟩ | ⟨rfl, rfl⟩
  · obtain ⟨r, hr, hQ⟩ := K (vp_updL fL 0 b.toInt64) fD c z (Nat.le_succ _) (Nat.le_add_right _ _)
    refine ⟨r, ?_, hQ⟩
    refine mg_Ev.go 5 (pc' := 1839) (loc' := [some (.ref 0), some (.ref 1), some (.ref 43), some (.ref 51), some (.ref 52), some (.int i), none, none, none]) (st' := [.int (i + 1), .ref 0, .ref 1]) (w' := (hp u fL fD, c, z)) rfl ?_
    refine mg_Ev.sld rfl hb1 ?_
    refine mg_Ev.go 1 (pc' := 1841) (loc' := [some (.ref 0), some (.ref 1), some (.ref 43), some (.ref 51), some (.ref 52), some (.int i), none, none, none]) (st' := [.ref 51, .int (sc.2 (i + 1).toNatClampNeg), .ref 1]) (w' := (hp u fL fD, c, z)) rfl ?_
    refine mg_Ev.call (y := 247) (as := [.ref 1, .int (sc.2 (i + 1).toNatClampNeg), .ref 51]) (rest := []) (v := some (.int 0)) (w1 := (hp u1 (vp_updL fL 0 b.toInt64) fD, c, z)) rfl rfl (Nat.le_of_ble_eq_true rfl) ((ev_W_account_ok hC).deep (by decide)) ?_
    refine mg_Ev.go 1 (pc' := 1846) (loc' := [some (.ref 0), some (.ref 1), some (.ref 43), some (.ref 51), some (.ref 52), some (.int i), some (.int 0), none, none]) (st' := []) (w' := (hp u1 (vp_updL fL 0 b.toInt64) fD, c, z)) rfl ?_
    exact ev_opB_24 hb1 hM hT (fun _ => rfl) hr
  · obtain ⟨r, hr, hQ⟩ := K fL fD (c + 1) (z + 6) (Nat.le_refl _) (Nat.le_refl _)
    refine ⟨r, ?_, hQ⟩
    refine mg_Ev.go 5 (pc' := 1839) (loc' := [some (.ref 0), some (.ref 1), some (.ref 43), some (.ref 51), some (.ref 52), some (.int i), none, none, none]) (st' := [.int (i + 1), .ref 0, .ref 1]) (w' := (hp u fL fD, c, z)) rfl ?_
    refine mg_Ev.sld rfl hb1 ?_
    refine mg_Ev.go 1 (pc' := 1841) (loc' := [some (.ref 0), some (.ref 1), some (.ref 43), some (.ref 51), some (.ref 52), some (.int i), none, none, none]) (st' := [.ref 51, .int (sc.2 (i + 1).toNatClampNeg), .ref 1]) (w' := (hp u fL fD, c, z)) rfl ?_
    refine mg_Ev.call (y := 247) (as := [.ref 1, .int (sc.2 (i + 1).toNatClampNeg), .ref 51]) (rest := []) (v := some (.int 1)) (w1 := (hp u1 fL fD, c + 1, z + 6)) rfl rfl (Nat.le_of_ble_eq_true rfl) ((ev_W_account_x1 hC).deep (by decide)) ?_
    refine mg_Ev.go 1 (pc' := 1846) (loc' := [some (.ref 0), some (.ref 1), some (.ref 43), some (.ref 51), some (.ref 52), some (.int i), some (.int 1), none, none]) (st' := []) (w' := (hp u1 fL fD, c + 1, z + 6)) rfl ?_
    exact ev_opB_24 hb1 hM hT (fun q => absurd q (by decide)) hr
def Ob_24 (I : mg_Rg → Prop) : Prop := ∀ u, I u → ∀ p1 : Int32, ∃ (t : Int32 ⊕ Nat) (u1 : mg_Rg) (b : Int32) (u2 : mg_Rg) (T : Int32), C_account p1 u = some (t, u1) ∧ M_account p1 u1 = some (b, u2) ∧ M_thrown u2 = some T ∧ ((∃ v, t = .inl v ∧ b = v ∧ T = 0) ∨ (t = .inr 1 ∧ T = 1)) ∧ I u2
theorem st_op_24 {sc : mg_Sc} {c z : Nat} {fL : Nat → Int64} {fD : Nat → UInt64} {i : Int32} {u : mg_Rg} {Q : mg_R → Prop} {I : mg_Rg → Prop} (O : Ob_24 I) (hu : I u) (hb1 : ¬ ((i + 1) < 0 ∨ sc.1 ≤ (i + 1).toNatClampNeg)) (K : ∀ u2 fL fD c1 z1, I u2 → c1 ≤ c + 1 → z1 ≤ z + 6 → ∃ r, mg_Ev sc 11 258 2448 [some (.ref 0), some (.ref 1), some (.ref 43), some (.ref 51), some (.ref 52), some (.int i), none, none, none] [] (hp u2 fL fD, c1, z1) r ∧ Q r) : ∃ r, mg_Ev sc 11 258 1833 [some (.ref 0), some (.ref 1), some (.ref 43), some (.ref 51), some (.ref 52), some (.int i), none, none, none] [] (hp u fL fD, c, z) r ∧ Q r := by
  obtain ⟨t, u1, b, u2, T, hC, hM, hT, H, hI⟩ := O u hu (sc.2 (i + 1).toNatClampNeg)
  exact ev_op_24 hb1 hC hM hT H (fun fL fD c1 z1 h1 h2 => K u2 fL fD c1 z1 hI h1 h2)
set_option maxRecDepth 10000 in
set_option maxHeartbeats 4000000 in
theorem ev_opB_25 {sc : mg_Sc} {c z : Nat} {fL : Nat → Int64} {fD : Nat → UInt64} {i T : Int32} {b : Int32} {u1 u2 : mg_Rg} {r : mg_R} (hb1 : ¬ ((i + 1) < 0 ∨ sc.1 ≤ (i + 1).toNatClampNeg)) (hM : M_kept (sc.2 (i + 1).toNatClampNeg) u1 = some (b, u2)) (hT : M_thrown u2 = some T) (hv : T = 0 → fL 0 = b.toInt64) (K : mg_Ev sc 11 258 2448 [some (.ref 0), some (.ref 1), some (.ref 43), some (.ref 51), some (.ref 52), some (.int i), none, none, none] [] (hp u2 fL fD, c, z) r) : mg_Ev sc 11 258 1902 [some (.ref 0), some (.ref 1), some (.ref 43), some (.ref 51), some (.ref 52), some (.int i), some (.int T), none, none] [] (hp u1 fL fD, c, z) r := by
  refine mg_Ev.go 5 (pc' := 1908) (loc' := [some (.ref 0), some (.ref 1), some (.ref 43), some (.ref 51), some (.ref 52), some (.int i), some (.int T), none, none]) (st' := [.int (i + 1), .ref 0, .ref 43]) (w' := (hp u1 fL fD, c, z)) rfl ?_
  refine mg_Ev.sld rfl hb1 ?_
  refine mg_Ev.call (y := 122) (as := [.ref 43, .int (sc.2 (i + 1).toNatClampNeg)]) (rest := []) (v := some (.int b)) (w1 := (hp u2 fL fD, c, z)) rfl rfl (Nat.le_of_ble_eq_true rfl) ((ev_M_kept hM).deep (by decide)) ?_
  refine mg_Ev.go 2 (pc' := 1915) (loc' := [some (.ref 0), some (.ref 1), some (.ref 43), some (.ref 51), some (.ref 52), some (.int i), some (.int T), some (.int b), none]) (st' := [.ref 43]) (w' := (hp u2 fL fD, c, z)) rfl ?_
  refine mg_Ev.call (y := 57) (as := [.ref 43]) (rest := []) (v := some (.int T)) (w1 := (hp u2 fL fD, c, z)) rfl rfl (Nat.le_of_ble_eq_true rfl) ((ev_M_thrown hT).deep (by decide)) ?_
  refine mg_Ev.go 1 (pc' := 1920) (loc' := [some (.ref 0), some (.ref 1), some (.ref 43), some (.ref 51), some (.ref 52), some (.int i), some (.int T), some (.int b), none]) (st' := [.int T, .int T]) (w' := (hp u2 fL fD, c, z)) rfl ?_
  refine mg_Ev.br (P := T = T) (t := 1925) (nx := 1923) (st' := []) rfl rfl rfl rfl (fun _ => ?_) (fun q => absurd rfl q)
  refine mg_Ev.go 1 (pc' := 1927) (loc' := [some (.ref 0), some (.ref 1), some (.ref 43), some (.ref 51), some (.ref 52), some (.int i), some (.int T), some (.int b), none]) (st' := [.int T]) (w' := (hp u2 fL fD, c, z)) rfl ?_
  refine mg_Ev.br (P := T = 0) (t := 1930) (nx := 1942) (st' := []) rfl rfl rfl rfl (fun h0 => ?_) (fun _ => ?_)
  · have h1 := hv h0
    refine mg_Ev.go 2 (pc' := 1932) (loc' := [some (.ref 0), some (.ref 1), some (.ref 43), some (.ref 51), some (.ref 52), some (.int i), some (.int T), some (.int b), none]) (st' := [.int 0, .ref 51]) (w' := (hp u2 fL fD, c, z)) rfl ?_
    refine mg_Ev.lald (a := 50) (n := 1) (f := fL) (j := 0) rfl (hpg_50 _ _ _) (by decide) (by decide) ?_
    rw [h1]
    refine mg_Ev.go 3 (pc' := 1937) (loc' := [some (.ref 0), some (.ref 1), some (.ref 43), some (.ref 51), some (.ref 52), some (.int i), some (.int T), some (.int b), none]) (st' := [.int (lg_cmp b.toInt64 b.toInt64)]) (w' := (hp u2 fL fD, c, z)) rfl ?_
    refine mg_Ev.br (P := lg_cmp b.toInt64 b.toInt64 = 0) (t := 1942) (nx := 1940) (st' := []) rfl rfl rfl rfl (fun _ => ?_) (fun q => absurd (mg_lcmp _) q)
    refine mg_Ev.go 1 (pc' := 2448) (loc' := [some (.ref 0), some (.ref 1), some (.ref 43), some (.ref 51), some (.ref 52), some (.int i), some (.int T), some (.int b), none]) (st' := []) (w' := (hp u2 fL fD, c, z)) rfl ?_
    exact mg_Ev.more K ⟨rfl, ⟨rfl, ⟨rfl, ⟨rfl, ⟨rfl, ⟨rfl, trivial⟩⟩⟩⟩⟩⟩
  · refine mg_Ev.go 1 (pc' := 2448) (loc' := [some (.ref 0), some (.ref 1), some (.ref 43), some (.ref 51), some (.ref 52), some (.int i), some (.int T), some (.int b), none]) (st' := []) (w' := (hp u2 fL fD, c, z)) rfl ?_
    exact mg_Ev.more K ⟨rfl, ⟨rfl, ⟨rfl, ⟨rfl, ⟨rfl, ⟨rfl, trivial⟩⟩⟩⟩⟩⟩
set_option maxRecDepth 10000 in
set_option maxHeartbeats 4000000 in
theorem ev_op_25 {sc : mg_Sc} {c z : Nat} {fL : Nat → Int64} {fD : Nat → UInt64} {i T : Int32} {b : Int32} {t : Int32 ⊕ Nat} {u u1 u2 : mg_Rg} {Q : mg_R → Prop} (hb1 : ¬ ((i + 1) < 0 ∨ sc.1 ≤ (i + 1).toNatClampNeg)) (hC : C_kept (sc.2 (i + 1).toNatClampNeg) u = some (t, u1)) (hM : M_kept (sc.2 (i + 1).toNatClampNeg) u1 = some (b, u2)) (hT : M_thrown u2 = some T) (H : (∃ v, t = .inl v ∧ b = v ∧ T = 0) ∨ (t = .inr 0 ∧ T = 1)) (K : ∀ fL fD c1 z1, c1 ≤ c + 1 → z1 ≤ z + 6 → ∃ r, mg_Ev sc 11 258 2448 [some (.ref 0), some (.ref 1), some (.ref 43), some (.ref 51), some (.ref 52), some (.int i), none, none, none] [] (hp u2 fL fD, c1, z1) r ∧ Q r) : ∃ r, mg_Ev sc 11 258 1889 [some (.ref 0), some (.ref 1), some (.ref 43), some (.ref 51), some (.ref 52), some (.int i), none, none, none] [] (hp u fL fD, c, z) r ∧ Q r := by
  rcases H with ⟨v, rfl, rfl, rfl⟩ | ⟨rfl, rfl⟩
  · obtain ⟨r, hr, hQ⟩ := K (vp_updL fL 0 b.toInt64) fD c z (Nat.le_succ _) (Nat.le_add_right _ _)
    refine ⟨r, ?_, hQ⟩
    refine mg_Ev.go 5 (pc' := 1895) (loc' := [some (.ref 0), some (.ref 1), some (.ref 43), some (.ref 51), some (.ref 52), some (.int i), none, none, none]) (st' := [.int (i + 1), .ref 0, .ref 1]) (w' := (hp u fL fD, c, z)) rfl ?_
    refine mg_Ev.sld rfl hb1 ?_
    refine mg_Ev.go 1 (pc' := 1897) (loc' := [some (.ref 0), some (.ref 1), some (.ref 43), some (.ref 51), some (.ref 52), some (.int i), none, none, none]) (st' := [.ref 51, .int (sc.2 (i + 1).toNatClampNeg), .ref 1]) (w' := (hp u fL fD, c, z)) rfl ?_
    refine mg_Ev.call (y := 248) (as := [.ref 1, .int (sc.2 (i + 1).toNatClampNeg), .ref 51]) (rest := []) (v := some (.int 0)) (w1 := (hp u1 (vp_updL fL 0 b.toInt64) fD, c, z)) rfl rfl (Nat.le_of_ble_eq_true rfl) ((ev_W_kept_ok hC).deep (by decide)) ?_
    refine mg_Ev.go 1 (pc' := 1902) (loc' := [some (.ref 0), some (.ref 1), some (.ref 43), some (.ref 51), some (.ref 52), some (.int i), some (.int 0), none, none]) (st' := []) (w' := (hp u1 (vp_updL fL 0 b.toInt64) fD, c, z)) rfl ?_
    exact ev_opB_25 hb1 hM hT (fun _ => rfl) hr
  · obtain ⟨r, hr, hQ⟩ := K fL fD (c + 1) (z + 6) (Nat.le_refl _) (Nat.le_refl _)
    refine ⟨r, ?_, hQ⟩
    refine mg_Ev.go 5 (pc' := 1895) (loc' := [some (.ref 0), some (.ref 1), some (.ref 43), some (.ref 51), some (.ref 52), some (.int i), none, none, none]) (st' := [.int (i + 1), .ref 0, .ref 1]) (w' := (hp u fL fD, c, z)) rfl ?_
    refine mg_Ev.sld rfl hb1 ?_
    refine mg_Ev.go 1 (pc' := 1897) (loc' := [some (.ref 0), some (.ref 1), some (.ref 43), some (.ref 51), some (.ref 52), some (.int i), none, none, none]) (st' := [.ref 51, .int (sc.2 (i + 1).toNatClampNeg), .ref 1]) (w' := (hp u fL fD, c, z)) rfl ?_
    refine mg_Ev.call (y := 248) (as := [.ref 1, .int (sc.2 (i + 1).toNatClampNeg), .ref 51]) (rest := []) (v := some (.int 1)) (w1 := (hp u1 fL fD, c + 1, z + 6)) rfl rfl (Nat.le_of_ble_eq_true rfl) ((ev_W_kept_x0 hC).deep (by decide)) ?_
    refine mg_Ev.go 1 (pc' := 1902) (loc' := [some (.ref 0), some (.ref 1), some (.ref 43), some (.ref 51), some (.ref 52), some (.int i), some (.int 1), none, none]) (st' := []) (w' := (hp u1 fL fD, c + 1, z + 6)) rfl ?_
    exact ev_opB_25 hb1 hM hT (fun q => absurd q (by decide)) hr
def Ob_25 (I : mg_Rg → Prop) : Prop := ∀ u, I u → ∀ p1 : Int32, ∃ (t : Int32 ⊕ Nat) (u1 : mg_Rg) (b : Int32) (u2 : mg_Rg) (T : Int32), C_kept p1 u = some (t, u1) ∧ M_kept p1 u1 = some (b, u2) ∧ M_thrown u2 = some T ∧ ((∃ v, t = .inl v ∧ b = v ∧ T = 0) ∨ (t = .inr 0 ∧ T = 1)) ∧ I u2
theorem st_op_25 {sc : mg_Sc} {c z : Nat} {fL : Nat → Int64} {fD : Nat → UInt64} {i : Int32} {u : mg_Rg} {Q : mg_R → Prop} {I : mg_Rg → Prop} (O : Ob_25 I) (hu : I u) (hb1 : ¬ ((i + 1) < 0 ∨ sc.1 ≤ (i + 1).toNatClampNeg)) (K : ∀ u2 fL fD c1 z1, I u2 → c1 ≤ c + 1 → z1 ≤ z + 6 → ∃ r, mg_Ev sc 11 258 2448 [some (.ref 0), some (.ref 1), some (.ref 43), some (.ref 51), some (.ref 52), some (.int i), none, none, none] [] (hp u2 fL fD, c1, z1) r ∧ Q r) : ∃ r, mg_Ev sc 11 258 1889 [some (.ref 0), some (.ref 1), some (.ref 43), some (.ref 51), some (.ref 52), some (.int i), none, none, none] [] (hp u fL fD, c, z) r ∧ Q r := by
  obtain ⟨t, u1, b, u2, T, hC, hM, hT, H, hI⟩ := O u hu (sc.2 (i + 1).toNatClampNeg)
  exact ev_op_25 hb1 hC hM hT H (fun fL fD c1 z1 h1 h2 => K u2 fL fD c1 z1 hI h1 h2)
set_option maxRecDepth 10000 in
set_option maxHeartbeats 4000000 in
theorem ev_opB_26 {sc : mg_Sc} {c z : Nat} {fL : Nat → Int64} {fD : Nat → UInt64} {i T : Int32} {b : Int32} {u1 u2 : mg_Rg} {r : mg_R} (hb1 : ¬ ((i + 1) < 0 ∨ sc.1 ≤ (i + 1).toNatClampNeg)) (hM : M_keptAgain (sc.2 (i + 1).toNatClampNeg) u1 = some (b, u2)) (hT : M_thrown u2 = some T) (hv : T = 0 → fL 0 = b.toInt64) (K : mg_Ev sc 11 258 2448 [some (.ref 0), some (.ref 1), some (.ref 43), some (.ref 51), some (.ref 52), some (.int i), none, none, none] [] (hp u2 fL fD, c, z) r) : mg_Ev sc 11 258 1958 [some (.ref 0), some (.ref 1), some (.ref 43), some (.ref 51), some (.ref 52), some (.int i), some (.int T), none, none] [] (hp u1 fL fD, c, z) r := by
  refine mg_Ev.go 5 (pc' := 1964) (loc' := [some (.ref 0), some (.ref 1), some (.ref 43), some (.ref 51), some (.ref 52), some (.int i), some (.int T), none, none]) (st' := [.int (i + 1), .ref 0, .ref 43]) (w' := (hp u1 fL fD, c, z)) rfl ?_
  refine mg_Ev.sld rfl hb1 ?_
  refine mg_Ev.call (y := 123) (as := [.ref 43, .int (sc.2 (i + 1).toNatClampNeg)]) (rest := []) (v := some (.int b)) (w1 := (hp u2 fL fD, c, z)) rfl rfl (Nat.le_of_ble_eq_true rfl) ((ev_M_keptAgain hM).deep (by decide)) ?_
  refine mg_Ev.go 2 (pc' := 1971) (loc' := [some (.ref 0), some (.ref 1), some (.ref 43), some (.ref 51), some (.ref 52), some (.int i), some (.int T), some (.int b), none]) (st' := [.ref 43]) (w' := (hp u2 fL fD, c, z)) rfl ?_
  refine mg_Ev.call (y := 57) (as := [.ref 43]) (rest := []) (v := some (.int T)) (w1 := (hp u2 fL fD, c, z)) rfl rfl (Nat.le_of_ble_eq_true rfl) ((ev_M_thrown hT).deep (by decide)) ?_
  refine mg_Ev.go 1 (pc' := 1976) (loc' := [some (.ref 0), some (.ref 1), some (.ref 43), some (.ref 51), some (.ref 52), some (.int i), some (.int T), some (.int b), none]) (st' := [.int T, .int T]) (w' := (hp u2 fL fD, c, z)) rfl ?_
  refine mg_Ev.br (P := T = T) (t := 1981) (nx := 1979) (st' := []) rfl rfl rfl rfl (fun _ => ?_) (fun q => absurd rfl q)
  refine mg_Ev.go 1 (pc' := 1983) (loc' := [some (.ref 0), some (.ref 1), some (.ref 43), some (.ref 51), some (.ref 52), some (.int i), some (.int T), some (.int b), none]) (st' := [.int T]) (w' := (hp u2 fL fD, c, z)) rfl ?_
  refine mg_Ev.br (P := T = 0) (t := 1986) (nx := 1998) (st' := []) rfl rfl rfl rfl (fun h0 => ?_) (fun _ => ?_)
  · have h1 := hv h0
    refine mg_Ev.go 2 (pc' := 1988) (loc' := [some (.ref 0), some (.ref 1), some (.ref 43), some (.ref 51), some (.ref 52), some (.int i), some (.int T), some (.int b), none]) (st' := [.int 0, .ref 51]) (w' := (hp u2 fL fD, c, z)) rfl ?_
    refine mg_Ev.lald (a := 50) (n := 1) (f := fL) (j := 0) rfl (hpg_50 _ _ _) (by decide) (by decide) ?_
    rw [h1]
    refine mg_Ev.go 3 (pc' := 1993) (loc' := [some (.ref 0), some (.ref 1), some (.ref 43), some (.ref 51), some (.ref 52), some (.int i), some (.int T), some (.int b), none]) (st' := [.int (lg_cmp b.toInt64 b.toInt64)]) (w' := (hp u2 fL fD, c, z)) rfl ?_
    refine mg_Ev.br (P := lg_cmp b.toInt64 b.toInt64 = 0) (t := 1998) (nx := 1996) (st' := []) rfl rfl rfl rfl (fun _ => ?_) (fun q => absurd (mg_lcmp _) q)
    refine mg_Ev.go 1 (pc' := 2448) (loc' := [some (.ref 0), some (.ref 1), some (.ref 43), some (.ref 51), some (.ref 52), some (.int i), some (.int T), some (.int b), none]) (st' := []) (w' := (hp u2 fL fD, c, z)) rfl ?_
    exact mg_Ev.more K ⟨rfl, ⟨rfl, ⟨rfl, ⟨rfl, ⟨rfl, ⟨rfl, trivial⟩⟩⟩⟩⟩⟩
  · refine mg_Ev.go 1 (pc' := 2448) (loc' := [some (.ref 0), some (.ref 1), some (.ref 43), some (.ref 51), some (.ref 52), some (.int i), some (.int T), some (.int b), none]) (st' := []) (w' := (hp u2 fL fD, c, z)) rfl ?_
    exact mg_Ev.more K ⟨rfl, ⟨rfl, ⟨rfl, ⟨rfl, ⟨rfl, ⟨rfl, trivial⟩⟩⟩⟩⟩⟩
set_option maxRecDepth 10000 in
set_option maxHeartbeats 4000000 in
theorem ev_op_26 {sc : mg_Sc} {c z : Nat} {fL : Nat → Int64} {fD : Nat → UInt64} {i T : Int32} {b : Int32} {t : Int32 ⊕ Nat} {u u1 u2 : mg_Rg} {Q : mg_R → Prop} (hb1 : ¬ ((i + 1) < 0 ∨ sc.1 ≤ (i + 1).toNatClampNeg)) (hC : C_keptAgain (sc.2 (i + 1).toNatClampNeg) u = some (t, u1)) (hM : M_keptAgain (sc.2 (i + 1).toNatClampNeg) u1 = some (b, u2)) (hT : M_thrown u2 = some T) (H : (∃ v, t = .inl v ∧ b = v ∧ T = 0) ∨ (t = .inr 0 ∧ T = 1)) (K : ∀ fL fD c1 z1, c1 ≤ c + 1 → z1 ≤ z + 6 → ∃ r, mg_Ev sc 11 258 2448 [some (.ref 0), some (.ref 1), some (.ref 43), some (.ref 51), some (.ref 52), some (.int i), none, none, none] [] (hp u2 fL fD, c1, z1) r ∧ Q r) : ∃ r, mg_Ev sc 11 258 1945 [some (.ref 0), some (.ref 1), some (.ref 43), some (.ref 51), some (.ref 52), some (.int i), none, none, none] [] (hp u fL fD, c, z) r ∧ Q r := by
  rcases H with ⟨v, rfl, rfl, rfl⟩ | ⟨rfl, rfl⟩
  · obtain ⟨r, hr, hQ⟩ := K (vp_updL fL 0 b.toInt64) fD c z (Nat.le_succ _) (Nat.le_add_right _ _)
    refine ⟨r, ?_, hQ⟩
    refine mg_Ev.go 5 (pc' := 1951) (loc' := [some (.ref 0), some (.ref 1), some (.ref 43), some (.ref 51), some (.ref 52), some (.int i), none, none, none]) (st' := [.int (i + 1), .ref 0, .ref 1]) (w' := (hp u fL fD, c, z)) rfl ?_
    refine mg_Ev.sld rfl hb1 ?_
    refine mg_Ev.go 1 (pc' := 1953) (loc' := [some (.ref 0), some (.ref 1), some (.ref 43), some (.ref 51), some (.ref 52), some (.int i), none, none, none]) (st' := [.ref 51, .int (sc.2 (i + 1).toNatClampNeg), .ref 1]) (w' := (hp u fL fD, c, z)) rfl ?_
    refine mg_Ev.call (y := 249) (as := [.ref 1, .int (sc.2 (i + 1).toNatClampNeg), .ref 51]) (rest := []) (v := some (.int 0)) (w1 := (hp u1 (vp_updL fL 0 b.toInt64) fD, c, z)) rfl rfl (Nat.le_of_ble_eq_true rfl) ((ev_W_keptAgain_ok hC).deep (by decide)) ?_
    refine mg_Ev.go 1 (pc' := 1958) (loc' := [some (.ref 0), some (.ref 1), some (.ref 43), some (.ref 51), some (.ref 52), some (.int i), some (.int 0), none, none]) (st' := []) (w' := (hp u1 (vp_updL fL 0 b.toInt64) fD, c, z)) rfl ?_
    exact ev_opB_26 hb1 hM hT (fun _ => rfl) hr
  · obtain ⟨r, hr, hQ⟩ := K fL fD (c + 1) (z + 6) (Nat.le_refl _) (Nat.le_refl _)
    refine ⟨r, ?_, hQ⟩
    refine mg_Ev.go 5 (pc' := 1951) (loc' := [some (.ref 0), some (.ref 1), some (.ref 43), some (.ref 51), some (.ref 52), some (.int i), none, none, none]) (st' := [.int (i + 1), .ref 0, .ref 1]) (w' := (hp u fL fD, c, z)) rfl ?_
    refine mg_Ev.sld rfl hb1 ?_
    refine mg_Ev.go 1 (pc' := 1953) (loc' := [some (.ref 0), some (.ref 1), some (.ref 43), some (.ref 51), some (.ref 52), some (.int i), none, none, none]) (st' := [.ref 51, .int (sc.2 (i + 1).toNatClampNeg), .ref 1]) (w' := (hp u fL fD, c, z)) rfl ?_
    refine mg_Ev.call (y := 249) (as := [.ref 1, .int (sc.2 (i + 1).toNatClampNeg), .ref 51]) (rest := []) (v := some (.int 1)) (w1 := (hp u1 fL fD, c + 1, z + 6)) rfl rfl (Nat.le_of_ble_eq_true rfl) ((ev_W_keptAgain_x0 hC).deep (by decide)) ?_
    refine mg_Ev.go 1 (pc' := 1958) (loc' := [some (.ref 0), some (.ref 1), some (.ref 43), some (.ref 51), some (.ref 52), some (.int i), some (.int 1), none, none]) (st' := []) (w' := (hp u1 fL fD, c + 1, z + 6)) rfl ?_
    exact ev_opB_26 hb1 hM hT (fun q => absurd q (by decide)) hr
def Ob_26 (I : mg_Rg → Prop) : Prop := ∀ u, I u → ∀ p1 : Int32, ∃ (t : Int32 ⊕ Nat) (u1 : mg_Rg) (b : Int32) (u2 : mg_Rg) (T : Int32), C_keptAgain p1 u = some (t, u1) ∧ M_keptAgain p1 u1 = some (b, u2) ∧ M_thrown u2 = some T ∧ ((∃ v, t = .inl v ∧ b = v ∧ T = 0) ∨ (t = .inr 0 ∧ T = 1)) ∧ I u2
theorem st_op_26 {sc : mg_Sc} {c z : Nat} {fL : Nat → Int64} {fD : Nat → UInt64} {i : Int32} {u : mg_Rg} {Q : mg_R → Prop} {I : mg_Rg → Prop} (O : Ob_26 I) (hu : I u) (hb1 : ¬ ((i + 1) < 0 ∨ sc.1 ≤ (i + 1).toNatClampNeg)) (K : ∀ u2 fL fD c1 z1, I u2 → c1 ≤ c + 1 → z1 ≤ z + 6 → ∃ r, mg_Ev sc 11 258 2448 [some (.ref 0), some (.ref 1), some (.ref 43), some (.ref 51), some (.ref 52), some (.int i), none, none, none] [] (hp u2 fL fD, c1, z1) r ∧ Q r) : ∃ r, mg_Ev sc 11 258 1945 [some (.ref 0), some (.ref 1), some (.ref 43), some (.ref 51), some (.ref 52), some (.int i), none, none, none] [] (hp u fL fD, c, z) r ∧ Q r := by
  obtain ⟨t, u1, b, u2, T, hC, hM, hT, H, hI⟩ := O u hu (sc.2 (i + 1).toNatClampNeg)
  exact ev_op_26 hb1 hC hM hT H (fun fL fD c1 z1 h1 h2 => K u2 fL fD c1 z1 hI h1 h2)
set_option maxRecDepth 10000 in
set_option maxHeartbeats 4000000 in
theorem ev_opB_27 {sc : mg_Sc} {c z : Nat} {fL : Nat → Int64} {fD : Nat → UInt64} {i T : Int32} {b : Int32} {u1 u2 : mg_Rg} {r : mg_R} (hb1 : ¬ ((i + 1) < 0 ∨ sc.1 ≤ (i + 1).toNatClampNeg)) (hM : M_keptUnder (sc.2 (i + 1).toNatClampNeg) u1 = some (b, u2)) (hT : M_thrown u2 = some T) (hv : T = 0 → fL 0 = b.toInt64) (K : mg_Ev sc 11 258 2448 [some (.ref 0), some (.ref 1), some (.ref 43), some (.ref 51), some (.ref 52), some (.int i), none, none, none] [] (hp u2 fL fD, c, z) r) : mg_Ev sc 11 258 2014 [some (.ref 0), some (.ref 1), some (.ref 43), some (.ref 51), some (.ref 52), some (.int i), some (.int T), none, none] [] (hp u1 fL fD, c, z) r := by
  refine mg_Ev.go 5 (pc' := 2020) (loc' := [some (.ref 0), some (.ref 1), some (.ref 43), some (.ref 51), some (.ref 52), some (.int i), some (.int T), none, none]) (st' := [.int (i + 1), .ref 0, .ref 43]) (w' := (hp u1 fL fD, c, z)) rfl ?_
  refine mg_Ev.sld rfl hb1 ?_
  refine mg_Ev.call (y := 124) (as := [.ref 43, .int (sc.2 (i + 1).toNatClampNeg)]) (rest := []) (v := some (.int b)) (w1 := (hp u2 fL fD, c, z)) rfl rfl (Nat.le_of_ble_eq_true rfl) ((ev_M_keptUnder hM).deep (by decide)) ?_
  refine mg_Ev.go 2 (pc' := 2027) (loc' := [some (.ref 0), some (.ref 1), some (.ref 43), some (.ref 51), some (.ref 52), some (.int i), some (.int T), some (.int b), none]) (st' := [.ref 43]) (w' := (hp u2 fL fD, c, z)) rfl ?_
  refine mg_Ev.call (y := 57) (as := [.ref 43]) (rest := []) (v := some (.int T)) (w1 := (hp u2 fL fD, c, z)) rfl rfl (Nat.le_of_ble_eq_true rfl) ((ev_M_thrown hT).deep (by decide)) ?_
  refine mg_Ev.go 1 (pc' := 2032) (loc' := [some (.ref 0), some (.ref 1), some (.ref 43), some (.ref 51), some (.ref 52), some (.int i), some (.int T), some (.int b), none]) (st' := [.int T, .int T]) (w' := (hp u2 fL fD, c, z)) rfl ?_
  refine mg_Ev.br (P := T = T) (t := 2037) (nx := 2035) (st' := []) rfl rfl rfl rfl (fun _ => ?_) (fun q => absurd rfl q)
  refine mg_Ev.go 1 (pc' := 2039) (loc' := [some (.ref 0), some (.ref 1), some (.ref 43), some (.ref 51), some (.ref 52), some (.int i), some (.int T), some (.int b), none]) (st' := [.int T]) (w' := (hp u2 fL fD, c, z)) rfl ?_
  refine mg_Ev.br (P := T = 0) (t := 2042) (nx := 2054) (st' := []) rfl rfl rfl rfl (fun h0 => ?_) (fun _ => ?_)
  · have h1 := hv h0
    refine mg_Ev.go 2 (pc' := 2044) (loc' := [some (.ref 0), some (.ref 1), some (.ref 43), some (.ref 51), some (.ref 52), some (.int i), some (.int T), some (.int b), none]) (st' := [.int 0, .ref 51]) (w' := (hp u2 fL fD, c, z)) rfl ?_
    refine mg_Ev.lald (a := 50) (n := 1) (f := fL) (j := 0) rfl (hpg_50 _ _ _) (by decide) (by decide) ?_
    rw [h1]
    refine mg_Ev.go 3 (pc' := 2049) (loc' := [some (.ref 0), some (.ref 1), some (.ref 43), some (.ref 51), some (.ref 52), some (.int i), some (.int T), some (.int b), none]) (st' := [.int (lg_cmp b.toInt64 b.toInt64)]) (w' := (hp u2 fL fD, c, z)) rfl ?_
    refine mg_Ev.br (P := lg_cmp b.toInt64 b.toInt64 = 0) (t := 2054) (nx := 2052) (st' := []) rfl rfl rfl rfl (fun _ => ?_) (fun q => absurd (mg_lcmp _) q)
    refine mg_Ev.go 1 (pc' := 2448) (loc' := [some (.ref 0), some (.ref 1), some (.ref 43), some (.ref 51), some (.ref 52), some (.int i), some (.int T), some (.int b), none]) (st' := []) (w' := (hp u2 fL fD, c, z)) rfl ?_
    exact mg_Ev.more K ⟨rfl, ⟨rfl, ⟨rfl, ⟨rfl, ⟨rfl, ⟨rfl, trivial⟩⟩⟩⟩⟩⟩
  · refine mg_Ev.go 1 (pc' := 2448) (loc' := [some (.ref 0), some (.ref 1), some (.ref 43), some (.ref 51), some (.ref 52), some (.int i), some (.int T), some (.int b), none]) (st' := []) (w' := (hp u2 fL fD, c, z)) rfl ?_
    exact mg_Ev.more K ⟨rfl, ⟨rfl, ⟨rfl, ⟨rfl, ⟨rfl, ⟨rfl, trivial⟩⟩⟩⟩⟩⟩
set_option maxRecDepth 10000 in
set_option maxHeartbeats 4000000 in
theorem ev_op_27 {sc : mg_Sc} {c z : Nat} {fL : Nat → Int64} {fD : Nat → UInt64} {i T : Int32} {b : Int32} {t : Int32 ⊕ Nat} {u u1 u2 : mg_Rg} {Q : mg_R → Prop} (hb1 : ¬ ((i + 1) < 0 ∨ sc.1 ≤ (i + 1).toNatClampNeg)) (hC : C_keptUnder (sc.2 (i + 1).toNatClampNeg) u = some (t, u1)) (hM : M_keptUnder (sc.2 (i + 1).toNatClampNeg) u1 = some (b, u2)) (hT : M_thrown u2 = some T) (H : (∃ v, t = .inl v ∧ b = v ∧ T = 0) ∨ (t = .inr 0 ∧ T = 1)) (K : ∀ fL fD c1 z1, c1 ≤ c + 1 → z1 ≤ z + 6 → ∃ r, mg_Ev sc 11 258 2448 [some (.ref 0), some (.ref 1), some (.ref 43), some (.ref 51), some (.ref 52), some (.int i), none, none, none] [] (hp u2 fL fD, c1, z1) r ∧ Q r) : ∃ r, mg_Ev sc 11 258 2001 [some (.ref 0), some (.ref 1), some (.ref 43), some (.ref 51), some (.ref 52), some (.int i), none, none, none] [] (hp u fL fD, c, z) r ∧ Q r := by
  rcases H with ⟨v, rfl, rfl, rfl⟩ | ⟨rfl, rfl⟩
  · obtain ⟨r, hr, hQ⟩ := K (vp_updL fL 0 b.toInt64) fD c z (Nat.le_succ _) (Nat.le_add_right _ _)
    refine ⟨r, ?_, hQ⟩
    refine mg_Ev.go 5 (pc' := 2007) (loc' := [some (.ref 0), some (.ref 1), some (.ref 43), some (.ref 51), some (.ref 52), some (.int i), none, none, none]) (st' := [.int (i + 1), .ref 0, .ref 1]) (w' := (hp u fL fD, c, z)) rfl ?_
    refine mg_Ev.sld rfl hb1 ?_
    refine mg_Ev.go 1 (pc' := 2009) (loc' := [some (.ref 0), some (.ref 1), some (.ref 43), some (.ref 51), some (.ref 52), some (.int i), none, none, none]) (st' := [.ref 51, .int (sc.2 (i + 1).toNatClampNeg), .ref 1]) (w' := (hp u fL fD, c, z)) rfl ?_
    refine mg_Ev.call (y := 250) (as := [.ref 1, .int (sc.2 (i + 1).toNatClampNeg), .ref 51]) (rest := []) (v := some (.int 0)) (w1 := (hp u1 (vp_updL fL 0 b.toInt64) fD, c, z)) rfl rfl (Nat.le_of_ble_eq_true rfl) ((ev_W_keptUnder_ok hC).deep (by decide)) ?_
    refine mg_Ev.go 1 (pc' := 2014) (loc' := [some (.ref 0), some (.ref 1), some (.ref 43), some (.ref 51), some (.ref 52), some (.int i), some (.int 0), none, none]) (st' := []) (w' := (hp u1 (vp_updL fL 0 b.toInt64) fD, c, z)) rfl ?_
    exact ev_opB_27 hb1 hM hT (fun _ => rfl) hr
  · obtain ⟨r, hr, hQ⟩ := K fL fD (c + 1) (z + 6) (Nat.le_refl _) (Nat.le_refl _)
    refine ⟨r, ?_, hQ⟩
    refine mg_Ev.go 5 (pc' := 2007) (loc' := [some (.ref 0), some (.ref 1), some (.ref 43), some (.ref 51), some (.ref 52), some (.int i), none, none, none]) (st' := [.int (i + 1), .ref 0, .ref 1]) (w' := (hp u fL fD, c, z)) rfl ?_
    refine mg_Ev.sld rfl hb1 ?_
    refine mg_Ev.go 1 (pc' := 2009) (loc' := [some (.ref 0), some (.ref 1), some (.ref 43), some (.ref 51), some (.ref 52), some (.int i), none, none, none]) (st' := [.ref 51, .int (sc.2 (i + 1).toNatClampNeg), .ref 1]) (w' := (hp u fL fD, c, z)) rfl ?_
    refine mg_Ev.call (y := 250) (as := [.ref 1, .int (sc.2 (i + 1).toNatClampNeg), .ref 51]) (rest := []) (v := some (.int 1)) (w1 := (hp u1 fL fD, c + 1, z + 6)) rfl rfl (Nat.le_of_ble_eq_true rfl) ((ev_W_keptUnder_x0 hC).deep (by decide)) ?_
    refine mg_Ev.go 1 (pc' := 2014) (loc' := [some (.ref 0), some (.ref 1), some (.ref 43), some (.ref 51), some (.ref 52), some (.int i), some (.int 1), none, none]) (st' := []) (w' := (hp u1 fL fD, c + 1, z + 6)) rfl ?_
    exact ev_opB_27 hb1 hM hT (fun q => absurd q (by decide)) hr
def Ob_27 (I : mg_Rg → Prop) : Prop := ∀ u, I u → ∀ p1 : Int32, ∃ (t : Int32 ⊕ Nat) (u1 : mg_Rg) (b : Int32) (u2 : mg_Rg) (T : Int32), C_keptUnder p1 u = some (t, u1) ∧ M_keptUnder p1 u1 = some (b, u2) ∧ M_thrown u2 = some T ∧ ((∃ v, t = .inl v ∧ b = v ∧ T = 0) ∨ (t = .inr 0 ∧ T = 1)) ∧ I u2
theorem st_op_27 {sc : mg_Sc} {c z : Nat} {fL : Nat → Int64} {fD : Nat → UInt64} {i : Int32} {u : mg_Rg} {Q : mg_R → Prop} {I : mg_Rg → Prop} (O : Ob_27 I) (hu : I u) (hb1 : ¬ ((i + 1) < 0 ∨ sc.1 ≤ (i + 1).toNatClampNeg)) (K : ∀ u2 fL fD c1 z1, I u2 → c1 ≤ c + 1 → z1 ≤ z + 6 → ∃ r, mg_Ev sc 11 258 2448 [some (.ref 0), some (.ref 1), some (.ref 43), some (.ref 51), some (.ref 52), some (.int i), none, none, none] [] (hp u2 fL fD, c1, z1) r ∧ Q r) : ∃ r, mg_Ev sc 11 258 2001 [some (.ref 0), some (.ref 1), some (.ref 43), some (.ref 51), some (.ref 52), some (.int i), none, none, none] [] (hp u fL fD, c, z) r ∧ Q r := by
  obtain ⟨t, u1, b, u2, T, hC, hM, hT, H, hI⟩ := O u hu (sc.2 (i + 1).toNatClampNeg)
  exact ev_op_27 hb1 hC hM hT H (fun fL fD c1 z1 h1 h2 => K u2 fL fD c1 z1 hI h1 h2)
set_option maxRecDepth 10000 in
set_option maxHeartbeats 4000000 in
theorem ev_opB_28 {sc : mg_Sc} {c z : Nat} {fL : Nat → Int64} {fD : Nat → UInt64} {i T : Int32} {b : UInt64} {u1 u2 : mg_Rg} {r : mg_R} (hM : M_givenBack u1 = some (b, u2)) (hT : M_thrown u2 = some T) (hv : T = 0 → fD 0 = b) (K : mg_Ev sc 11 258 2448 [some (.ref 0), some (.ref 1), some (.ref 43), some (.ref 51), some (.ref 52), some (.int i), none, none, none] [] (hp u2 fL fD, c, z) r) : mg_Ev sc 11 258 2065 [some (.ref 0), some (.ref 1), some (.ref 43), some (.ref 51), some (.ref 52), some (.int i), some (.int T), none, none] [] (hp u1 fL fD, c, z) r := by
  refine mg_Ev.go 1 (pc' := 2066) (loc' := [some (.ref 0), some (.ref 1), some (.ref 43), some (.ref 51), some (.ref 52), some (.int i), some (.int T), none, none]) (st' := [.ref 43]) (w' := (hp u1 fL fD, c, z)) rfl ?_
  refine mg_Ev.call (y := 125) (as := [.ref 43]) (rest := []) (v := some (.double b)) (w1 := (hp u2 fL fD, c, z)) rfl rfl (Nat.le_of_ble_eq_true rfl) ((ev_M_givenBack hM).deep (by decide)) ?_
  refine mg_Ev.go 2 (pc' := 2072) (loc' := [some (.ref 0), some (.ref 1), some (.ref 43), some (.ref 51), some (.ref 52), some (.int i), some (.int T), some (.double b), none]) (st' := [.ref 43]) (w' := (hp u2 fL fD, c, z)) rfl ?_
  refine mg_Ev.call (y := 57) (as := [.ref 43]) (rest := []) (v := some (.int T)) (w1 := (hp u2 fL fD, c, z)) rfl rfl (Nat.le_of_ble_eq_true rfl) ((ev_M_thrown hT).deep (by decide)) ?_
  refine mg_Ev.go 1 (pc' := 2077) (loc' := [some (.ref 0), some (.ref 1), some (.ref 43), some (.ref 51), some (.ref 52), some (.int i), some (.int T), some (.double b), none]) (st' := [.int T, .int T]) (w' := (hp u2 fL fD, c, z)) rfl ?_
  refine mg_Ev.br (P := T = T) (t := 2082) (nx := 2080) (st' := []) rfl rfl rfl rfl (fun _ => ?_) (fun q => absurd rfl q)
  refine mg_Ev.go 1 (pc' := 2084) (loc' := [some (.ref 0), some (.ref 1), some (.ref 43), some (.ref 51), some (.ref 52), some (.int i), some (.int T), some (.double b), none]) (st' := [.int T]) (w' := (hp u2 fL fD, c, z)) rfl ?_
  refine mg_Ev.br (P := T = 0) (t := 2087) (nx := 2119) (st' := []) rfl rfl rfl rfl (fun h0 => ?_) (fun _ => ?_)
  · have h1 := hv h0
    refine mg_Ev.go 2 (pc' := 2090) (loc' := [some (.ref 0), some (.ref 1), some (.ref 43), some (.ref 51), some (.ref 52), some (.int i), some (.int T), some (.double b), none]) (st' := [.int 0, .ref 52]) (w' := (hp u2 fL fD, c, z)) rfl ?_
    refine mg_Ev.dald (a := 51) (n := 1) (f := fD) (j := 0) rfl (hpg_51 _ _ _) (by decide) (by decide) ?_
    rw [h1]
    refine mg_Ev.go 2 (pc' := 2094) (loc' := [some (.ref 0), some (.ref 1), some (.ref 43), some (.ref 51), some (.ref 52), some (.int i), some (.int T), some (.double b), none]) (st' := [.int (Op.cmpValue (FP.dcmp b b) .l)]) (w' := (hp u2 fL fD, c, z)) rfl ?_
    refine mg_Ev.br (P := (Op.cmpValue (FP.dcmp b b) .l) = 0) (t := 2119) (nx := 2097) (st' := []) rfl rfl rfl rfl (fun _ => ?_) (fun hq => ?_)
    · refine mg_Ev.go 1 (pc' := 2448) (loc' := [some (.ref 0), some (.ref 1), some (.ref 43), some (.ref 51), some (.ref 52), some (.int i), some (.int T), some (.double b), none]) (st' := []) (w' := (hp u2 fL fD, c, z)) rfl ?_
      exact mg_Ev.more K ⟨rfl, ⟨rfl, ⟨rfl, ⟨rfl, ⟨rfl, ⟨rfl, trivial⟩⟩⟩⟩⟩⟩
    · refine mg_Ev.go 2 (pc' := 2100) (loc' := [some (.ref 0), some (.ref 1), some (.ref 43), some (.ref 51), some (.ref 52), some (.int i), some (.int T), some (.double b), none]) (st' := [.int 0, .ref 52]) (w' := (hp u2 fL fD, c, z)) rfl ?_
      refine mg_Ev.dald (a := 51) (n := 1) (f := fD) (j := 0) rfl (hpg_51 _ _ _) (by decide) (by decide) ?_
      rw [h1]
      refine mg_Ev.go 2 (pc' := 2104) (loc' := [some (.ref 0), some (.ref 1), some (.ref 43), some (.ref 51), some (.ref 52), some (.int i), some (.int T), some (.double b), none]) (st' := [.int 0, .ref 52, .double b]) (w' := (hp u2 fL fD, c, z)) rfl ?_
      refine mg_Ev.dald (a := 51) (n := 1) (f := fD) (j := 0) rfl (hpg_51 _ _ _) (by decide) (by decide) ?_
      rw [h1]
      refine mg_Ev.go 1 (pc' := 2106) (loc' := [some (.ref 0), some (.ref 1), some (.ref 43), some (.ref 51), some (.ref 52), some (.int i), some (.int T), some (.double b), none]) (st' := [.int (Op.cmpValue (FP.dcmp b b) .l)]) (w' := (hp u2 fL fD, c, z)) rfl ?_
      refine mg_Ev.br (P := (Op.cmpValue (FP.dcmp b b) .l) = 0) (t := 2117) (nx := 2109) (st' := []) rfl rfl rfl rfl (fun q => absurd q hq) (fun _ => ?_)
      refine mg_Ev.go 3 (pc' := 2114) (loc' := [some (.ref 0), some (.ref 1), some (.ref 43), some (.ref 51), some (.ref 52), some (.int i), some (.int T), some (.double b), none]) (st' := [.int (Op.cmpValue (FP.dcmp b b) .l)]) (w' := (hp u2 fL fD, c, z)) rfl ?_
      refine mg_Ev.br (P := (Op.cmpValue (FP.dcmp b b) .l) = 0) (t := 2117) (nx := 2119) (st' := []) rfl rfl rfl rfl (fun q => absurd q hq) (fun _ => ?_)
      refine mg_Ev.go 1 (pc' := 2448) (loc' := [some (.ref 0), some (.ref 1), some (.ref 43), some (.ref 51), some (.ref 52), some (.int i), some (.int T), some (.double b), none]) (st' := []) (w' := (hp u2 fL fD, c, z)) rfl ?_
      exact mg_Ev.more K ⟨rfl, ⟨rfl, ⟨rfl, ⟨rfl, ⟨rfl, ⟨rfl, trivial⟩⟩⟩⟩⟩⟩
  · refine mg_Ev.go 1 (pc' := 2448) (loc' := [some (.ref 0), some (.ref 1), some (.ref 43), some (.ref 51), some (.ref 52), some (.int i), some (.int T), some (.double b), none]) (st' := []) (w' := (hp u2 fL fD, c, z)) rfl ?_
    exact mg_Ev.more K ⟨rfl, ⟨rfl, ⟨rfl, ⟨rfl, ⟨rfl, ⟨rfl, trivial⟩⟩⟩⟩⟩⟩
set_option maxRecDepth 10000 in
set_option maxHeartbeats 4000000 in
theorem ev_op_28 {sc : mg_Sc} {c z : Nat} {fL : Nat → Int64} {fD : Nat → UInt64} {i T : Int32} {b : UInt64} {t : UInt64 ⊕ Nat} {u u1 u2 : mg_Rg} {Q : mg_R → Prop} (hC : C_givenBack u = some (t, u1)) (hM : M_givenBack u1 = some (b, u2)) (hT : M_thrown u2 = some T) (H : (∃ v, t = .inl v ∧ b = v ∧ T = 0) ∨ (t = .inr 5 ∧ T = 1)) (K : ∀ fL fD c1 z1, c1 ≤ c + 1 → z1 ≤ z + 6 → ∃ r, mg_Ev sc 11 258 2448 [some (.ref 0), some (.ref 1), some (.ref 43), some (.ref 51), some (.ref 52), some (.int i), none, none, none] [] (hp u2 fL fD, c1, z1) r ∧ Q r) : ∃ r, mg_Ev sc 11 258 2057 [some (.ref 0), some (.ref 1), some (.ref 43), some (.ref 51), some (.ref 52), some (.int i), none, none, none] [] (hp u fL fD, c, z) r ∧ Q r := by
  rcases H with ⟨v, rfl, rfl, rfl⟩ | ⟨rfl, rfl⟩
  · obtain ⟨r, hr, hQ⟩ := K fL (vf_upd fD 0 b) c z (Nat.le_succ _) (Nat.le_add_right _ _)
    refine ⟨r, ?_, hQ⟩
    refine mg_Ev.go 2 (pc' := 2060) (loc' := [some (.ref 0), some (.ref 1), some (.ref 43), some (.ref 51), some (.ref 52), some (.int i), none, none, none]) (st' := [.ref 52, .ref 1]) (w' := (hp u fL fD, c, z)) rfl ?_
    refine mg_Ev.call (y := 251) (as := [.ref 1, .ref 52]) (rest := []) (v := some (.int 0)) (w1 := (hp u1 fL (vf_upd fD 0 b), c, z)) rfl rfl (Nat.le_of_ble_eq_true rfl) ((ev_W_givenBack_ok hC).deep (by decide)) ?_
    refine mg_Ev.go 1 (pc' := 2065) (loc' := [some (.ref 0), some (.ref 1), some (.ref 43), some (.ref 51), some (.ref 52), some (.int i), some (.int 0), none, none]) (st' := []) (w' := (hp u1 fL (vf_upd fD 0 b), c, z)) rfl ?_
    exact ev_opB_28 hM hT (fun _ => rfl) hr
  · obtain ⟨r, hr, hQ⟩ := K fL fD (c + 1) (z + 6) (Nat.le_refl _) (Nat.le_refl _)
    refine ⟨r, ?_, hQ⟩
    refine mg_Ev.go 2 (pc' := 2060) (loc' := [some (.ref 0), some (.ref 1), some (.ref 43), some (.ref 51), some (.ref 52), some (.int i), none, none, none]) (st' := [.ref 52, .ref 1]) (w' := (hp u fL fD, c, z)) rfl ?_
    refine mg_Ev.call (y := 251) (as := [.ref 1, .ref 52]) (rest := []) (v := some (.int 1)) (w1 := (hp u1 fL fD, c + 1, z + 6)) rfl rfl (Nat.le_of_ble_eq_true rfl) ((ev_W_givenBack_x5 hC).deep (by decide)) ?_
    refine mg_Ev.go 1 (pc' := 2065) (loc' := [some (.ref 0), some (.ref 1), some (.ref 43), some (.ref 51), some (.ref 52), some (.int i), some (.int 1), none, none]) (st' := []) (w' := (hp u1 fL fD, c + 1, z + 6)) rfl ?_
    exact ev_opB_28 hM hT (fun q => absurd q (by decide)) hr
def Ob_28 (I : mg_Rg → Prop) : Prop := ∀ u, I u → ∃ (t : UInt64 ⊕ Nat) (u1 : mg_Rg) (b : UInt64) (u2 : mg_Rg) (T : Int32), C_givenBack u = some (t, u1) ∧ M_givenBack u1 = some (b, u2) ∧ M_thrown u2 = some T ∧ ((∃ v, t = .inl v ∧ b = v ∧ T = 0) ∨ (t = .inr 5 ∧ T = 1)) ∧ I u2
theorem st_op_28 {sc : mg_Sc} {c z : Nat} {fL : Nat → Int64} {fD : Nat → UInt64} {i : Int32} {u : mg_Rg} {Q : mg_R → Prop} {I : mg_Rg → Prop} (O : Ob_28 I) (hu : I u) (K : ∀ u2 fL fD c1 z1, I u2 → c1 ≤ c + 1 → z1 ≤ z + 6 → ∃ r, mg_Ev sc 11 258 2448 [some (.ref 0), some (.ref 1), some (.ref 43), some (.ref 51), some (.ref 52), some (.int i), none, none, none] [] (hp u2 fL fD, c1, z1) r ∧ Q r) : ∃ r, mg_Ev sc 11 258 2057 [some (.ref 0), some (.ref 1), some (.ref 43), some (.ref 51), some (.ref 52), some (.int i), none, none, none] [] (hp u fL fD, c, z) r ∧ Q r := by
  obtain ⟨t, u1, b, u2, T, hC, hM, hT, H, hI⟩ := O u hu
  exact ev_op_28 hC hM hT H (fun fL fD c1 z1 h1 h2 => K u2 fL fD c1 z1 hI h1 h2)
set_option maxRecDepth 10000 in
set_option maxHeartbeats 4000000 in
theorem ev_opB_29 {sc : mg_Sc} {c z : Nat} {fL : Nat → Int64} {fD : Nat → UInt64} {i T : Int32} {b : UInt32} {u1 u2 : mg_Rg} {r : mg_R} (hM : M_meanRate u1 = some (b, u2)) (hT : M_thrown u2 = some T) (hv : T = 0 → fD 0 = FP.f2d b ∧ FP.f2d b &&& 0x7fffffffffffffff ≤ 0x7ff0000000000000 ∧ Op.cmpValue (FP.dcmp (FP.f2d b) (FP.f2d b)) .l = 0) (K : mg_Ev sc 11 258 2448 [some (.ref 0), some (.ref 1), some (.ref 43), some (.ref 51), some (.ref 52), some (.int i), none, none, none] [] (hp u2 fL fD, c, z) r) : mg_Ev sc 11 258 2130 [some (.ref 0), some (.ref 1), some (.ref 43), some (.ref 51), some (.ref 52), some (.int i), some (.int T), none, none] [] (hp u1 fL fD, c, z) r := by
  refine mg_Ev.go 1 (pc' := 2131) (loc' := [some (.ref 0), some (.ref 1), some (.ref 43), some (.ref 51), some (.ref 52), some (.int i), some (.int T), none, none]) (st' := [.ref 43]) (w' := (hp u1 fL fD, c, z)) rfl ?_
  refine mg_Ev.call (y := 126) (as := [.ref 43]) (rest := []) (v := some (.float b)) (w1 := (hp u2 fL fD, c, z)) rfl rfl (Nat.le_of_ble_eq_true rfl) ((ev_M_meanRate hM).deep (by decide)) ?_
  refine mg_Ev.go 2 (pc' := 2137) (loc' := [some (.ref 0), some (.ref 1), some (.ref 43), some (.ref 51), some (.ref 52), some (.int i), some (.int T), some (.float b), none]) (st' := [.ref 43]) (w' := (hp u2 fL fD, c, z)) rfl ?_
  refine mg_Ev.call (y := 57) (as := [.ref 43]) (rest := []) (v := some (.int T)) (w1 := (hp u2 fL fD, c, z)) rfl rfl (Nat.le_of_ble_eq_true rfl) ((ev_M_thrown hT).deep (by decide)) ?_
  refine mg_Ev.go 1 (pc' := 2142) (loc' := [some (.ref 0), some (.ref 1), some (.ref 43), some (.ref 51), some (.ref 52), some (.int i), some (.int T), some (.float b), none]) (st' := [.int T, .int T]) (w' := (hp u2 fL fD, c, z)) rfl ?_
  refine mg_Ev.br (P := T = T) (t := 2147) (nx := 2145) (st' := []) rfl rfl rfl rfl (fun _ => ?_) (fun q => absurd rfl q)
  refine mg_Ev.go 1 (pc' := 2149) (loc' := [some (.ref 0), some (.ref 1), some (.ref 43), some (.ref 51), some (.ref 52), some (.int i), some (.int T), some (.float b), none]) (st' := [.int T]) (w' := (hp u2 fL fD, c, z)) rfl ?_
  refine mg_Ev.br (P := T = 0) (t := 2152) (nx := 2185) (st' := []) rfl rfl rfl rfl (fun h0 => ?_) (fun _ => ?_)
  · have h1 := hv h0
    obtain ⟨h1, hn, hq⟩ := h1
    refine mg_Ev.go 2 (pc' := 2155) (loc' := [some (.ref 0), some (.ref 1), some (.ref 43), some (.ref 51), some (.ref 52), some (.int i), some (.int T), some (.float b), none]) (st' := [.int 0, .ref 52]) (w' := (hp u2 fL fD, c, z)) rfl ?_
    refine mg_Ev.dald (a := 51) (n := 1) (f := fD) (j := 0) rfl (hpg_51 _ _ _) (by decide) (by decide) ?_
    rw [h1]
    refine mg_Ev.go 1 (pc' := 2158) (loc' := [some (.ref 0), some (.ref 1), some (.ref 43), some (.ref 51), some (.ref 52), some (.int i), some (.int T), some (.float b), none]) (st' := [.float b, .double (FP.f2d b)]) (w' := (hp u2 fL fD, c, z)) rfl ?_
    refine mg_Ev.need (pc' := 2159) (loc' := [some (.ref 0), some (.ref 1), some (.ref 43), some (.ref 51), some (.ref 52), some (.int i), some (.int T), some (.float b), none]) (st' := [.double (FP.f2d b), .double (FP.f2d b)]) (w' := (hp u2 fL fD, c, z)) hn rfl rfl rfl rfl ?_
    refine mg_Ev.go 1 (pc' := 2160) (loc' := [some (.ref 0), some (.ref 1), some (.ref 43), some (.ref 51), some (.ref 52), some (.int i), some (.int T), some (.float b), none]) (st' := [.int (Op.cmpValue (FP.dcmp (FP.f2d b) (FP.f2d b)) .l)]) (w' := (hp u2 fL fD, c, z)) rfl ?_
    refine mg_Ev.br (P := (Op.cmpValue (FP.dcmp (FP.f2d b) (FP.f2d b)) .l) = 0) (t := 2185) (nx := 2163) (st' := []) rfl rfl rfl rfl (fun _ => ?_) (fun q => absurd hq q)
    refine mg_Ev.go 1 (pc' := 2448) (loc' := [some (.ref 0), some (.ref 1), some (.ref 43), some (.ref 51), some (.ref 52), some (.int i), some (.int T), some (.float b), none]) (st' := []) (w' := (hp u2 fL fD, c, z)) rfl ?_
    exact mg_Ev.more K ⟨rfl, ⟨rfl, ⟨rfl, ⟨rfl, ⟨rfl, ⟨rfl, trivial⟩⟩⟩⟩⟩⟩
  · refine mg_Ev.go 1 (pc' := 2448) (loc' := [some (.ref 0), some (.ref 1), some (.ref 43), some (.ref 51), some (.ref 52), some (.int i), some (.int T), some (.float b), none]) (st' := []) (w' := (hp u2 fL fD, c, z)) rfl ?_
    exact mg_Ev.more K ⟨rfl, ⟨rfl, ⟨rfl, ⟨rfl, ⟨rfl, ⟨rfl, trivial⟩⟩⟩⟩⟩⟩
set_option maxRecDepth 10000 in
set_option maxHeartbeats 4000000 in
theorem ev_op_29 {sc : mg_Sc} {c z : Nat} {fL : Nat → Int64} {fD : Nat → UInt64} {i T : Int32} {b : UInt32} {t : UInt32 ⊕ Nat} {u u1 u2 : mg_Rg} {Q : mg_R → Prop} (hC : C_meanRate u = some (t, u1)) (hM : M_meanRate u1 = some (b, u2)) (hT : M_thrown u2 = some T) (H : (∃ v, t = .inl v ∧ b = v ∧ T = 0 ∧ FP.f2d v &&& 0x7fffffffffffffff ≤ 0x7ff0000000000000 ∧ Op.cmpValue (FP.dcmp (FP.f2d v) (FP.f2d v)) .l = 0) ∨ (t = .inr 5 ∧ T = 1)) (K : ∀ fL fD c1 z1, c1 ≤ c + 1 → z1 ≤ z + 6 → ∃ r, mg_Ev sc 11 258 2448 [some (.ref 0), some (.ref 1), some (.ref 43), some (.ref 51), some (.ref 52), some (.int i), none, none, none] [] (hp u2 fL fD, c1, z1) r ∧ Q r) : ∃ r, mg_Ev sc 11 258 2122 [some (.ref 0), some (.ref 1), some (.ref 43), some (.ref 51), some (.ref 52), some (.int i), none, none, none] [] (hp u fL fD, c, z) r ∧ Q r := by
  rcases H with ⟨v, rfl, rfl, rfl, hn, hq⟩ | ⟨rfl, rfl⟩
  · obtain ⟨r, hr, hQ⟩ := K fL (vf_upd fD 0 (FP.f2d b)) c z (Nat.le_succ _) (Nat.le_add_right _ _)
    refine ⟨r, ?_, hQ⟩
    refine mg_Ev.go 2 (pc' := 2125) (loc' := [some (.ref 0), some (.ref 1), some (.ref 43), some (.ref 51), some (.ref 52), some (.int i), none, none, none]) (st' := [.ref 52, .ref 1]) (w' := (hp u fL fD, c, z)) rfl ?_
    refine mg_Ev.call (y := 252) (as := [.ref 1, .ref 52]) (rest := []) (v := some (.int 0)) (w1 := (hp u1 fL (vf_upd fD 0 (FP.f2d b)), c, z)) rfl rfl (Nat.le_of_ble_eq_true rfl) ((ev_W_meanRate_ok hC hn).deep (by decide)) ?_
    refine mg_Ev.go 1 (pc' := 2130) (loc' := [some (.ref 0), some (.ref 1), some (.ref 43), some (.ref 51), some (.ref 52), some (.int i), some (.int 0), none, none]) (st' := []) (w' := (hp u1 fL (vf_upd fD 0 (FP.f2d b)), c, z)) rfl ?_
    exact ev_opB_29 hM hT (fun _ => ⟨rfl, hn, hq⟩) hr
  · obtain ⟨r, hr, hQ⟩ := K fL fD (c + 1) (z + 6) (Nat.le_refl _) (Nat.le_refl _)
    refine ⟨r, ?_, hQ⟩
    refine mg_Ev.go 2 (pc' := 2125) (loc' := [some (.ref 0), some (.ref 1), some (.ref 43), some (.ref 51), some (.ref 52), some (.int i), none, none, none]) (st' := [.ref 52, .ref 1]) (w' := (hp u fL fD, c, z)) rfl ?_
    refine mg_Ev.call (y := 252) (as := [.ref 1, .ref 52]) (rest := []) (v := some (.int 1)) (w1 := (hp u1 fL fD, c + 1, z + 6)) rfl rfl (Nat.le_of_ble_eq_true rfl) ((ev_W_meanRate_x5 hC).deep (by decide)) ?_
    refine mg_Ev.go 1 (pc' := 2130) (loc' := [some (.ref 0), some (.ref 1), some (.ref 43), some (.ref 51), some (.ref 52), some (.int i), some (.int 1), none, none]) (st' := []) (w' := (hp u1 fL fD, c + 1, z + 6)) rfl ?_
    exact ev_opB_29 hM hT (fun q => absurd q (by decide)) hr
def Ob_29 (I : mg_Rg → Prop) : Prop := ∀ u, I u → ∃ (t : UInt32 ⊕ Nat) (u1 : mg_Rg) (b : UInt32) (u2 : mg_Rg) (T : Int32), C_meanRate u = some (t, u1) ∧ M_meanRate u1 = some (b, u2) ∧ M_thrown u2 = some T ∧ ((∃ v, t = .inl v ∧ b = v ∧ T = 0 ∧ FP.f2d v &&& 0x7fffffffffffffff ≤ 0x7ff0000000000000 ∧ Op.cmpValue (FP.dcmp (FP.f2d v) (FP.f2d v)) .l = 0) ∨ (t = .inr 5 ∧ T = 1)) ∧ I u2
theorem st_op_29 {sc : mg_Sc} {c z : Nat} {fL : Nat → Int64} {fD : Nat → UInt64} {i : Int32} {u : mg_Rg} {Q : mg_R → Prop} {I : mg_Rg → Prop} (O : Ob_29 I) (hu : I u) (K : ∀ u2 fL fD c1 z1, I u2 → c1 ≤ c + 1 → z1 ≤ z + 6 → ∃ r, mg_Ev sc 11 258 2448 [some (.ref 0), some (.ref 1), some (.ref 43), some (.ref 51), some (.ref 52), some (.int i), none, none, none] [] (hp u2 fL fD, c1, z1) r ∧ Q r) : ∃ r, mg_Ev sc 11 258 2122 [some (.ref 0), some (.ref 1), some (.ref 43), some (.ref 51), some (.ref 52), some (.int i), none, none, none] [] (hp u fL fD, c, z) r ∧ Q r := by
  obtain ⟨t, u1, b, u2, T, hC, hM, hT, H, hI⟩ := O u hu
  exact ev_op_29 hC hM hT H (fun fL fD c1 z1 h1 h2 => K u2 fL fD c1 z1 hI h1 h2)
set_option maxRecDepth 10000 in
set_option maxHeartbeats 4000000 in
theorem ev_opB_30 {sc : mg_Sc} {c z : Nat} {fL : Nat → Int64} {fD : Nat → UInt64} {i T : Int32} {b : Int32} {u1 u2 : mg_Rg} {r : mg_R} (hb1 : ¬ ((i + 1) < 0 ∨ sc.1 ≤ (i + 1).toNatClampNeg)) (hM : M_append ((((sc.2 (i + 1).toNatClampNeg)).toUInt32 % 65536).toInt32) u1 = some (b, u2)) (hT : M_thrown u2 = some T) (hv : T = 0 → fL 0 = b.toInt64) (K : mg_Ev sc 11 258 2448 [some (.ref 0), some (.ref 1), some (.ref 43), some (.ref 51), some (.ref 52), some (.int i), none, none, none] [] (hp u2 fL fD, c, z) r) : mg_Ev sc 11 258 2202 [some (.ref 0), some (.ref 1), some (.ref 43), some (.ref 51), some (.ref 52), some (.int i), some (.int T), none, none] [] (hp u1 fL fD, c, z) r := by
  refine mg_Ev.go 5 (pc' := 2208) (loc' := [some (.ref 0), some (.ref 1), some (.ref 43), some (.ref 51), some (.ref 52), some (.int i), some (.int T), none, none]) (st' := [.int (i + 1), .ref 0, .ref 43]) (w' := (hp u1 fL fD, c, z)) rfl ?_
  refine mg_Ev.sld rfl hb1 ?_
  refine mg_Ev.go 1 (pc' := 2210) (loc' := [some (.ref 0), some (.ref 1), some (.ref 43), some (.ref 51), some (.ref 52), some (.int i), some (.int T), none, none]) (st' := [.int ((((sc.2 (i + 1).toNatClampNeg)).toUInt32 % 65536).toInt32), .ref 43]) (w' := (hp u1 fL fD, c, z)) rfl ?_
  refine mg_Ev.call (y := 127) (as := [.ref 43, .int ((((sc.2 (i + 1).toNatClampNeg)).toUInt32 % 65536).toInt32)]) (rest := []) (v := some (.int b)) (w1 := (hp u2 fL fD, c, z)) rfl rfl (Nat.le_of_ble_eq_true rfl) ((ev_M_append hM).deep (by decide)) ?_
  refine mg_Ev.go 2 (pc' := 2216) (loc' := [some (.ref 0), some (.ref 1), some (.ref 43), some (.ref 51), some (.ref 52), some (.int i), some (.int T), some (.int b), none]) (st' := [.ref 43]) (w' := (hp u2 fL fD, c, z)) rfl ?_
  refine mg_Ev.call (y := 57) (as := [.ref 43]) (rest := []) (v := some (.int T)) (w1 := (hp u2 fL fD, c, z)) rfl rfl (Nat.le_of_ble_eq_true rfl) ((ev_M_thrown hT).deep (by decide)) ?_
  refine mg_Ev.go 1 (pc' := 2221) (loc' := [some (.ref 0), some (.ref 1), some (.ref 43), some (.ref 51), some (.ref 52), some (.int i), some (.int T), some (.int b), none]) (st' := [.int T, .int T]) (w' := (hp u2 fL fD, c, z)) rfl ?_
  refine mg_Ev.br (P := T = T) (t := 2226) (nx := 2224) (st' := []) rfl rfl rfl rfl (fun _ => ?_) (fun q => absurd rfl q)
  refine mg_Ev.go 1 (pc' := 2228) (loc' := [some (.ref 0), some (.ref 1), some (.ref 43), some (.ref 51), some (.ref 52), some (.int i), some (.int T), some (.int b), none]) (st' := [.int T]) (w' := (hp u2 fL fD, c, z)) rfl ?_
  refine mg_Ev.br (P := T = 0) (t := 2231) (nx := 2243) (st' := []) rfl rfl rfl rfl (fun h0 => ?_) (fun _ => ?_)
  · have h1 := hv h0
    refine mg_Ev.go 2 (pc' := 2233) (loc' := [some (.ref 0), some (.ref 1), some (.ref 43), some (.ref 51), some (.ref 52), some (.int i), some (.int T), some (.int b), none]) (st' := [.int 0, .ref 51]) (w' := (hp u2 fL fD, c, z)) rfl ?_
    refine mg_Ev.lald (a := 50) (n := 1) (f := fL) (j := 0) rfl (hpg_50 _ _ _) (by decide) (by decide) ?_
    rw [h1]
    refine mg_Ev.go 3 (pc' := 2238) (loc' := [some (.ref 0), some (.ref 1), some (.ref 43), some (.ref 51), some (.ref 52), some (.int i), some (.int T), some (.int b), none]) (st' := [.int (lg_cmp b.toInt64 b.toInt64)]) (w' := (hp u2 fL fD, c, z)) rfl ?_
    refine mg_Ev.br (P := lg_cmp b.toInt64 b.toInt64 = 0) (t := 2243) (nx := 2241) (st' := []) rfl rfl rfl rfl (fun _ => ?_) (fun q => absurd (mg_lcmp _) q)
    refine mg_Ev.go 1 (pc' := 2448) (loc' := [some (.ref 0), some (.ref 1), some (.ref 43), some (.ref 51), some (.ref 52), some (.int i), some (.int T), some (.int b), none]) (st' := []) (w' := (hp u2 fL fD, c, z)) rfl ?_
    exact mg_Ev.more K ⟨rfl, ⟨rfl, ⟨rfl, ⟨rfl, ⟨rfl, ⟨rfl, trivial⟩⟩⟩⟩⟩⟩
  · refine mg_Ev.go 1 (pc' := 2448) (loc' := [some (.ref 0), some (.ref 1), some (.ref 43), some (.ref 51), some (.ref 52), some (.int i), some (.int T), some (.int b), none]) (st' := []) (w' := (hp u2 fL fD, c, z)) rfl ?_
    exact mg_Ev.more K ⟨rfl, ⟨rfl, ⟨rfl, ⟨rfl, ⟨rfl, ⟨rfl, trivial⟩⟩⟩⟩⟩⟩
set_option maxRecDepth 10000 in
set_option maxHeartbeats 4000000 in
theorem ev_op_30 {sc : mg_Sc} {c z : Nat} {fL : Nat → Int64} {fD : Nat → UInt64} {i T : Int32} {b : Int32} {t : Int32 ⊕ Nat} {u u1 u2 : mg_Rg} {Q : mg_R → Prop} (hb1 : ¬ ((i + 1) < 0 ∨ sc.1 ≤ (i + 1).toNatClampNeg)) (hC : C_append ((((sc.2 (i + 1).toNatClampNeg)).toUInt32 % 65536).toInt32) u = some (t, u1)) (hM : M_append ((((sc.2 (i + 1).toNatClampNeg)).toUInt32 % 65536).toInt32) u1 = some (b, u2)) (hT : M_thrown u2 = some T) (H : (∃ v, t = .inl v ∧ b = v ∧ T = 0) ∨ (t = .inr 1 ∧ T = 1) ∨ (t = .inr 2 ∧ T = 2)) (K : ∀ fL fD c1 z1, c1 ≤ c + 1 → z1 ≤ z + 6 → ∃ r, mg_Ev sc 11 258 2448 [some (.ref 0), some (.ref 1), some (.ref 43), some (.ref 51), some (.ref 52), some (.int i), none, none, none] [] (hp u2 fL fD, c1, z1) r ∧ Q r) : ∃ r, mg_Ev sc 11 258 2188 [some (.ref 0), some (.ref 1), some (.ref 43), some (.ref 51), some (.ref 52), some (.int i), none, none, none] [] (hp u fL fD, c, z) r ∧ Q r := by
  rcases H with ⟨v, rfl, rfl, rfl⟩ | ⟨rfl, rfl⟩ | ⟨rfl, rfl⟩
  · obtain ⟨r, hr, hQ⟩ := K (vp_updL fL 0 b.toInt64) fD c z (Nat.le_succ _) (Nat.le_add_right _ _)
    refine ⟨r, ?_, hQ⟩
    refine mg_Ev.go 5 (pc' := 2194) (loc' := [some (.ref 0), some (.ref 1), some (.ref 43), some (.ref 51), some (.ref 52), some (.int i), none, none, none]) (st' := [.int (i + 1), .ref 0, .ref 1]) (w' := (hp u fL fD, c, z)) rfl ?_
    refine mg_Ev.sld rfl hb1 ?_
    refine mg_Ev.go 1 (pc' := 2196) (loc' := [some (.ref 0), some (.ref 1), some (.ref 43), some (.ref 51), some (.ref 52), some (.int i), none, none, none]) (st' := [.int ((((sc.2 (i + 1).toNatClampNeg)).toUInt32 % 65536).toInt32), .ref 1]) (w' := (hp u fL fD, c, z)) rfl ?_
    refine mg_Ev.go 1 (pc' := 2197) (loc' := [some (.ref 0), some (.ref 1), some (.ref 43), some (.ref 51), some (.ref 52), some (.int i), none, none, none]) (st' := [.ref 51, .int ((((sc.2 (i + 1).toNatClampNeg)).toUInt32 % 65536).toInt32), .ref 1]) (w' := (hp u fL fD, c, z)) rfl ?_
    refine mg_Ev.call (y := 253) (as := [.ref 1, .int ((((sc.2 (i + 1).toNatClampNeg)).toUInt32 % 65536).toInt32), .ref 51]) (rest := []) (v := some (.int 0)) (w1 := (hp u1 (vp_updL fL 0 b.toInt64) fD, c, z)) rfl rfl (Nat.le_of_ble_eq_true rfl) ((ev_W_append_ok hC).deep (by decide)) ?_
    refine mg_Ev.go 1 (pc' := 2202) (loc' := [some (.ref 0), some (.ref 1), some (.ref 43), some (.ref 51), some (.ref 52), some (.int i), some (.int 0), none, none]) (st' := []) (w' := (hp u1 (vp_updL fL 0 b.toInt64) fD, c, z)) rfl ?_
    exact ev_opB_30 hb1 hM hT (fun _ => rfl) hr
  · obtain ⟨r, hr, hQ⟩ := K fL fD (c + 1) (z + 6) (Nat.le_refl _) (Nat.le_refl _)
    refine ⟨r, ?_, hQ⟩
    refine mg_Ev.go 5 (pc' := 2194) (loc' := [some (.ref 0), some (.ref 1), some (.ref 43), some (.ref 51), some (.ref 52), some (.int i), none, none, none]) (st' := [.int (i + 1), .ref 0, .ref 1]) (w' := (hp u fL fD, c, z)) rfl ?_
    refine mg_Ev.sld rfl hb1 ?_
    refine mg_Ev.go 1 (pc' := 2196) (loc' := [some (.ref 0), some (.ref 1), some (.ref 43), some (.ref 51), some (.ref 52), some (.int i), none, none, none]) (st' := [.int ((((sc.2 (i + 1).toNatClampNeg)).toUInt32 % 65536).toInt32), .ref 1]) (w' := (hp u fL fD, c, z)) rfl ?_
    refine mg_Ev.go 1 (pc' := 2197) (loc' := [some (.ref 0), some (.ref 1), some (.ref 43), some (.ref 51), some (.ref 52), some (.int i), none, none, none]) (st' := [.ref 51, .int ((((sc.2 (i + 1).toNatClampNeg)).toUInt32 % 65536).toInt32), .ref 1]) (w' := (hp u fL fD, c, z)) rfl ?_
    refine mg_Ev.call (y := 253) (as := [.ref 1, .int ((((sc.2 (i + 1).toNatClampNeg)).toUInt32 % 65536).toInt32), .ref 51]) (rest := []) (v := some (.int 1)) (w1 := (hp u1 fL fD, c + 1, z + 6)) rfl rfl (Nat.le_of_ble_eq_true rfl) ((ev_W_append_x1 hC).deep (by decide)) ?_
    refine mg_Ev.go 1 (pc' := 2202) (loc' := [some (.ref 0), some (.ref 1), some (.ref 43), some (.ref 51), some (.ref 52), some (.int i), some (.int 1), none, none]) (st' := []) (w' := (hp u1 fL fD, c + 1, z + 6)) rfl ?_
    exact ev_opB_30 hb1 hM hT (fun q => absurd q (by decide)) hr
  · obtain ⟨r, hr, hQ⟩ := K fL fD (c + 1) (z + 6) (Nat.le_refl _) (Nat.le_refl _)
    refine ⟨r, ?_, hQ⟩
    refine mg_Ev.go 5 (pc' := 2194) (loc' := [some (.ref 0), some (.ref 1), some (.ref 43), some (.ref 51), some (.ref 52), some (.int i), none, none, none]) (st' := [.int (i + 1), .ref 0, .ref 1]) (w' := (hp u fL fD, c, z)) rfl ?_
    refine mg_Ev.sld rfl hb1 ?_
    refine mg_Ev.go 1 (pc' := 2196) (loc' := [some (.ref 0), some (.ref 1), some (.ref 43), some (.ref 51), some (.ref 52), some (.int i), none, none, none]) (st' := [.int ((((sc.2 (i + 1).toNatClampNeg)).toUInt32 % 65536).toInt32), .ref 1]) (w' := (hp u fL fD, c, z)) rfl ?_
    refine mg_Ev.go 1 (pc' := 2197) (loc' := [some (.ref 0), some (.ref 1), some (.ref 43), some (.ref 51), some (.ref 52), some (.int i), none, none, none]) (st' := [.ref 51, .int ((((sc.2 (i + 1).toNatClampNeg)).toUInt32 % 65536).toInt32), .ref 1]) (w' := (hp u fL fD, c, z)) rfl ?_
    refine mg_Ev.call (y := 253) (as := [.ref 1, .int ((((sc.2 (i + 1).toNatClampNeg)).toUInt32 % 65536).toInt32), .ref 51]) (rest := []) (v := some (.int 2)) (w1 := (hp u1 fL fD, c + 1, z + 6)) rfl rfl (Nat.le_of_ble_eq_true rfl) ((ev_W_append_x2 hC).deep (by decide)) ?_
    refine mg_Ev.go 1 (pc' := 2202) (loc' := [some (.ref 0), some (.ref 1), some (.ref 43), some (.ref 51), some (.ref 52), some (.int i), some (.int 2), none, none]) (st' := []) (w' := (hp u1 fL fD, c + 1, z + 6)) rfl ?_
    exact ev_opB_30 hb1 hM hT (fun q => absurd q (by decide)) hr
def Ob_30 (I : mg_Rg → Prop) : Prop := ∀ u, I u → ∀ p1 : Int32, ∃ (t : Int32 ⊕ Nat) (u1 : mg_Rg) (b : Int32) (u2 : mg_Rg) (T : Int32), C_append ((p1.toUInt32 % 65536).toInt32) u = some (t, u1) ∧ M_append ((p1.toUInt32 % 65536).toInt32) u1 = some (b, u2) ∧ M_thrown u2 = some T ∧ ((∃ v, t = .inl v ∧ b = v ∧ T = 0) ∨ (t = .inr 1 ∧ T = 1) ∨ (t = .inr 2 ∧ T = 2)) ∧ I u2
theorem st_op_30 {sc : mg_Sc} {c z : Nat} {fL : Nat → Int64} {fD : Nat → UInt64} {i : Int32} {u : mg_Rg} {Q : mg_R → Prop} {I : mg_Rg → Prop} (O : Ob_30 I) (hu : I u) (hb1 : ¬ ((i + 1) < 0 ∨ sc.1 ≤ (i + 1).toNatClampNeg)) (K : ∀ u2 fL fD c1 z1, I u2 → c1 ≤ c + 1 → z1 ≤ z + 6 → ∃ r, mg_Ev sc 11 258 2448 [some (.ref 0), some (.ref 1), some (.ref 43), some (.ref 51), some (.ref 52), some (.int i), none, none, none] [] (hp u2 fL fD, c1, z1) r ∧ Q r) : ∃ r, mg_Ev sc 11 258 2188 [some (.ref 0), some (.ref 1), some (.ref 43), some (.ref 51), some (.ref 52), some (.int i), none, none, none] [] (hp u fL fD, c, z) r ∧ Q r := by
  obtain ⟨t, u1, b, u2, T, hC, hM, hT, H, hI⟩ := O u hu (sc.2 (i + 1).toNatClampNeg)
  exact ev_op_30 hb1 hC hM hT H (fun fL fD c1 z1 h1 h2 => K u2 fL fD c1 z1 hI h1 h2)
set_option maxRecDepth 10000 in
set_option maxHeartbeats 4000000 in
theorem ev_opB_31 {sc : mg_Sc} {c z : Nat} {fL : Nat → Int64} {fD : Nat → UInt64} {i T : Int32} {b : Int32} {u1 u2 : mg_Rg} {r : mg_R} (hM : M_lodge u1 = some (b, u2)) (hT : M_thrown u2 = some T) (hv : T = 0 → fL 0 = b.toInt64) (K : mg_Ev sc 11 258 2448 [some (.ref 0), some (.ref 1), some (.ref 43), some (.ref 51), some (.ref 52), some (.int i), none, none, none] [] (hp u2 fL fD, c, z) r) : mg_Ev sc 11 258 2253 [some (.ref 0), some (.ref 1), some (.ref 43), some (.ref 51), some (.ref 52), some (.int i), some (.int T), none, none] [] (hp u1 fL fD, c, z) r := by
  refine mg_Ev.go 1 (pc' := 2254) (loc' := [some (.ref 0), some (.ref 1), some (.ref 43), some (.ref 51), some (.ref 52), some (.int i), some (.int T), none, none]) (st' := [.ref 43]) (w' := (hp u1 fL fD, c, z)) rfl ?_
  refine mg_Ev.call (y := 135) (as := [.ref 43]) (rest := []) (v := some (.int b)) (w1 := (hp u2 fL fD, c, z)) rfl rfl (Nat.le_of_ble_eq_true rfl) ((ev_M_lodge hM).deep (by decide)) ?_
  refine mg_Ev.go 2 (pc' := 2260) (loc' := [some (.ref 0), some (.ref 1), some (.ref 43), some (.ref 51), some (.ref 52), some (.int i), some (.int T), some (.int b), none]) (st' := [.ref 43]) (w' := (hp u2 fL fD, c, z)) rfl ?_
  refine mg_Ev.call (y := 57) (as := [.ref 43]) (rest := []) (v := some (.int T)) (w1 := (hp u2 fL fD, c, z)) rfl rfl (Nat.le_of_ble_eq_true rfl) ((ev_M_thrown hT).deep (by decide)) ?_
  refine mg_Ev.go 1 (pc' := 2265) (loc' := [some (.ref 0), some (.ref 1), some (.ref 43), some (.ref 51), some (.ref 52), some (.int i), some (.int T), some (.int b), none]) (st' := [.int T, .int T]) (w' := (hp u2 fL fD, c, z)) rfl ?_
  refine mg_Ev.br (P := T = T) (t := 2270) (nx := 2268) (st' := []) rfl rfl rfl rfl (fun _ => ?_) (fun q => absurd rfl q)
  refine mg_Ev.go 1 (pc' := 2272) (loc' := [some (.ref 0), some (.ref 1), some (.ref 43), some (.ref 51), some (.ref 52), some (.int i), some (.int T), some (.int b), none]) (st' := [.int T]) (w' := (hp u2 fL fD, c, z)) rfl ?_
  refine mg_Ev.br (P := T = 0) (t := 2275) (nx := 2287) (st' := []) rfl rfl rfl rfl (fun h0 => ?_) (fun _ => ?_)
  · have h1 := hv h0
    refine mg_Ev.go 2 (pc' := 2277) (loc' := [some (.ref 0), some (.ref 1), some (.ref 43), some (.ref 51), some (.ref 52), some (.int i), some (.int T), some (.int b), none]) (st' := [.int 0, .ref 51]) (w' := (hp u2 fL fD, c, z)) rfl ?_
    refine mg_Ev.lald (a := 50) (n := 1) (f := fL) (j := 0) rfl (hpg_50 _ _ _) (by decide) (by decide) ?_
    rw [h1]
    refine mg_Ev.go 3 (pc' := 2282) (loc' := [some (.ref 0), some (.ref 1), some (.ref 43), some (.ref 51), some (.ref 52), some (.int i), some (.int T), some (.int b), none]) (st' := [.int (lg_cmp b.toInt64 b.toInt64)]) (w' := (hp u2 fL fD, c, z)) rfl ?_
    refine mg_Ev.br (P := lg_cmp b.toInt64 b.toInt64 = 0) (t := 2287) (nx := 2285) (st' := []) rfl rfl rfl rfl (fun _ => ?_) (fun q => absurd (mg_lcmp _) q)
    refine mg_Ev.go 1 (pc' := 2448) (loc' := [some (.ref 0), some (.ref 1), some (.ref 43), some (.ref 51), some (.ref 52), some (.int i), some (.int T), some (.int b), none]) (st' := []) (w' := (hp u2 fL fD, c, z)) rfl ?_
    exact mg_Ev.more K ⟨rfl, ⟨rfl, ⟨rfl, ⟨rfl, ⟨rfl, ⟨rfl, trivial⟩⟩⟩⟩⟩⟩
  · refine mg_Ev.go 1 (pc' := 2448) (loc' := [some (.ref 0), some (.ref 1), some (.ref 43), some (.ref 51), some (.ref 52), some (.int i), some (.int T), some (.int b), none]) (st' := []) (w' := (hp u2 fL fD, c, z)) rfl ?_
    exact mg_Ev.more K ⟨rfl, ⟨rfl, ⟨rfl, ⟨rfl, ⟨rfl, ⟨rfl, trivial⟩⟩⟩⟩⟩⟩
set_option maxRecDepth 10000 in
set_option maxHeartbeats 4000000 in
theorem ev_op_31 {sc : mg_Sc} {c z : Nat} {fL : Nat → Int64} {fD : Nat → UInt64} {i T : Int32} {b : Int32} {t : Int32 ⊕ Nat} {u u1 u2 : mg_Rg} {Q : mg_R → Prop} (hC : C_lodge u = some (t, u1)) (hM : M_lodge u1 = some (b, u2)) (hT : M_thrown u2 = some T) (H : (∃ v, t = .inl v ∧ b = v ∧ T = 0) ∨ (t = .inr 1 ∧ T = 1) ∨ (t = .inr 3 ∧ T = 2) ∨ (t = .inr 2 ∧ T = 3)) (K : ∀ fL fD c1 z1, c1 ≤ c + 1 → z1 ≤ z + 6 → ∃ r, mg_Ev sc 11 258 2448 [some (.ref 0), some (.ref 1), some (.ref 43), some (.ref 51), some (.ref 52), some (.int i), none, none, none] [] (hp u2 fL fD, c1, z1) r ∧ Q r) : ∃ r, mg_Ev sc 11 258 2246 [some (.ref 0), some (.ref 1), some (.ref 43), some (.ref 51), some (.ref 52), some (.int i), none, none, none] [] (hp u fL fD, c, z) r ∧ Q r := by
  rcases H with ⟨v, rfl, rfl, rfl⟩ | ⟨rfl, rfl⟩ | ⟨rfl, rfl⟩ | ⟨rfl, rfl⟩
  · obtain ⟨r, hr, hQ⟩ := K (vp_updL fL 0 b.toInt64) fD c z (Nat.le_succ _) (Nat.le_add_right _ _)
    refine ⟨r, ?_, hQ⟩
    refine mg_Ev.go 2 (pc' := 2248) (loc' := [some (.ref 0), some (.ref 1), some (.ref 43), some (.ref 51), some (.ref 52), some (.int i), none, none, none]) (st' := [.ref 51, .ref 1]) (w' := (hp u fL fD, c, z)) rfl ?_
    refine mg_Ev.call (y := 254) (as := [.ref 1, .ref 51]) (rest := []) (v := some (.int 0)) (w1 := (hp u1 (vp_updL fL 0 b.toInt64) fD, c, z)) rfl rfl (Nat.le_of_ble_eq_true rfl) ((ev_W_lodge_ok hC).deep (by decide)) ?_
    refine mg_Ev.go 1 (pc' := 2253) (loc' := [some (.ref 0), some (.ref 1), some (.ref 43), some (.ref 51), some (.ref 52), some (.int i), some (.int 0), none, none]) (st' := []) (w' := (hp u1 (vp_updL fL 0 b.toInt64) fD, c, z)) rfl ?_
    exact ev_opB_31 hM hT (fun _ => rfl) hr
  · obtain ⟨r, hr, hQ⟩ := K fL fD (c + 1) (z + 6) (Nat.le_refl _) (Nat.le_refl _)
    refine ⟨r, ?_, hQ⟩
    refine mg_Ev.go 2 (pc' := 2248) (loc' := [some (.ref 0), some (.ref 1), some (.ref 43), some (.ref 51), some (.ref 52), some (.int i), none, none, none]) (st' := [.ref 51, .ref 1]) (w' := (hp u fL fD, c, z)) rfl ?_
    refine mg_Ev.call (y := 254) (as := [.ref 1, .ref 51]) (rest := []) (v := some (.int 1)) (w1 := (hp u1 fL fD, c + 1, z + 6)) rfl rfl (Nat.le_of_ble_eq_true rfl) ((ev_W_lodge_x1 hC).deep (by decide)) ?_
    refine mg_Ev.go 1 (pc' := 2253) (loc' := [some (.ref 0), some (.ref 1), some (.ref 43), some (.ref 51), some (.ref 52), some (.int i), some (.int 1), none, none]) (st' := []) (w' := (hp u1 fL fD, c + 1, z + 6)) rfl ?_
    exact ev_opB_31 hM hT (fun q => absurd q (by decide)) hr
  · obtain ⟨r, hr, hQ⟩ := K fL fD (c + 1) (z + 6) (Nat.le_refl _) (Nat.le_refl _)
    refine ⟨r, ?_, hQ⟩
    refine mg_Ev.go 2 (pc' := 2248) (loc' := [some (.ref 0), some (.ref 1), some (.ref 43), some (.ref 51), some (.ref 52), some (.int i), none, none, none]) (st' := [.ref 51, .ref 1]) (w' := (hp u fL fD, c, z)) rfl ?_
    refine mg_Ev.call (y := 254) (as := [.ref 1, .ref 51]) (rest := []) (v := some (.int 2)) (w1 := (hp u1 fL fD, c + 1, z + 6)) rfl rfl (Nat.le_of_ble_eq_true rfl) ((ev_W_lodge_x3 hC).deep (by decide)) ?_
    refine mg_Ev.go 1 (pc' := 2253) (loc' := [some (.ref 0), some (.ref 1), some (.ref 43), some (.ref 51), some (.ref 52), some (.int i), some (.int 2), none, none]) (st' := []) (w' := (hp u1 fL fD, c + 1, z + 6)) rfl ?_
    exact ev_opB_31 hM hT (fun q => absurd q (by decide)) hr
  · obtain ⟨r, hr, hQ⟩ := K fL fD (c + 1) (z + 6) (Nat.le_refl _) (Nat.le_refl _)
    refine ⟨r, ?_, hQ⟩
    refine mg_Ev.go 2 (pc' := 2248) (loc' := [some (.ref 0), some (.ref 1), some (.ref 43), some (.ref 51), some (.ref 52), some (.int i), none, none, none]) (st' := [.ref 51, .ref 1]) (w' := (hp u fL fD, c, z)) rfl ?_
    refine mg_Ev.call (y := 254) (as := [.ref 1, .ref 51]) (rest := []) (v := some (.int 3)) (w1 := (hp u1 fL fD, c + 1, z + 6)) rfl rfl (Nat.le_of_ble_eq_true rfl) ((ev_W_lodge_x2 hC).deep (by decide)) ?_
    refine mg_Ev.go 1 (pc' := 2253) (loc' := [some (.ref 0), some (.ref 1), some (.ref 43), some (.ref 51), some (.ref 52), some (.int i), some (.int 3), none, none]) (st' := []) (w' := (hp u1 fL fD, c + 1, z + 6)) rfl ?_
    exact ev_opB_31 hM hT (fun q => absurd q (by decide)) hr
def Ob_31 (I : mg_Rg → Prop) : Prop := ∀ u, I u → ∃ (t : Int32 ⊕ Nat) (u1 : mg_Rg) (b : Int32) (u2 : mg_Rg) (T : Int32), C_lodge u = some (t, u1) ∧ M_lodge u1 = some (b, u2) ∧ M_thrown u2 = some T ∧ ((∃ v, t = .inl v ∧ b = v ∧ T = 0) ∨ (t = .inr 1 ∧ T = 1) ∨ (t = .inr 3 ∧ T = 2) ∨ (t = .inr 2 ∧ T = 3)) ∧ I u2
theorem st_op_31 {sc : mg_Sc} {c z : Nat} {fL : Nat → Int64} {fD : Nat → UInt64} {i : Int32} {u : mg_Rg} {Q : mg_R → Prop} {I : mg_Rg → Prop} (O : Ob_31 I) (hu : I u) (K : ∀ u2 fL fD c1 z1, I u2 → c1 ≤ c + 1 → z1 ≤ z + 6 → ∃ r, mg_Ev sc 11 258 2448 [some (.ref 0), some (.ref 1), some (.ref 43), some (.ref 51), some (.ref 52), some (.int i), none, none, none] [] (hp u2 fL fD, c1, z1) r ∧ Q r) : ∃ r, mg_Ev sc 11 258 2246 [some (.ref 0), some (.ref 1), some (.ref 43), some (.ref 51), some (.ref 52), some (.int i), none, none, none] [] (hp u fL fD, c, z) r ∧ Q r := by
  obtain ⟨t, u1, b, u2, T, hC, hM, hT, H, hI⟩ := O u hu
  exact ev_op_31 hC hM hT H (fun fL fD c1 z1 h1 h2 => K u2 fL fD c1 z1 hI h1 h2)
