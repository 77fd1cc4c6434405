def T_bringFrom_22 (a0 : Int32) (u : mg_Rg) : Option (mg_Rg) :=
  (T_hasSlot_22 a0 u).bind fun v779 =>
  if v779 = 0 then
  some u
  else
  if ¬ (a0 * 55) < 0 ∧ ¬ (0 : Int32) < 0 ∧ ¬ (55 : Int32) < 0 ∧ (a0 * 55).toNatClampNeg + (55 : Int32).toNatClampNeg ≤ 495 ∧ (0 : Int32).toNatClampNeg + (55 : Int32).toNatClampNeg ≤ 55 then
    some (mg_rw u 23 (va_cpy (u 24) (u 23) (a0 * 55).toNatClampNeg (0 : Int32).toNatClampNeg (55 : Int32).toNatClampNeg))
    else none

set_option maxRecDepth 10000 in
set_option maxHeartbeats 4000000 in
theorem ev_T_bringFrom_22 {sc : mg_Sc} {c z : Nat} {fL : Nat → Int64} {fD : Nat → UInt64} {a0 : Int32} {u : mg_Rg} {v : mg_Rg} (h : T_bringFrom_22 a0 u = some v) : mg_Ev sc 1 191 0 (mg_entry 191 [.ref 23, .int a0]) [] (hp u fL fD, c, z) (.inl none, (hp v fL fD, c, z)) := by
  unfold T_bringFrom_22 at h
  show mg_Ev _ _ _ 0 [some (.ref 23), some (.int a0)] [] _ _
  refine mg_Ev.go 2 (pc' := 2) (loc' := [some (.ref 23), some (.int a0)]) (st' := [.int a0, .ref 23]) (w' := (hp u fL fD, c, z)) rfl ?_
  obtain ⟨v779, hf2870, h⟩ := Option.bind_eq_some_iff.mp h
  refine mg_Ev.call (y := 192) (as := [.ref 23, .int a0]) (rest := []) (v := some (.int v779)) (w1 := (hp u fL fD, c, z)) rfl rfl (Nat.le_of_ble_eq_true rfl) ((ev_T_hasSlot_22 hf2870).deep (by decide)) ?_
  refine mg_Ev.br (P := v779 = 0) (t := 32) (nx := 8) (st' := []) rfl rfl rfl rfl (fun hc2871 => ?_) (fun hc2871 => ?_)
  · rw [if_pos hc2871] at h
    cases h
    exact mg_Ev.fin rfl rfl rfl
  · rw [if_neg hc2871] at h
    refine mg_Ev.go 10 (pc' := 24) (loc' := [some (.ref 23), some (.int a0)]) (st' := [.int 0, .ref 24, .int (a0 * 55), .ref 25]) (w' := (hp u fL fD, c, z)) rfl ?_
    refine mg_Ev.go 3 (pc' := 29) (loc' := [some (.ref 23), some (.int a0)]) (st' := [.int 55, .int 0, .ref 24, .int (a0 * 55), .ref 25]) (w' := (hp u fL fD, c, z)) rfl ?_
    by_cases hn2872 : ¬ (a0 * 55) < 0 ∧ ¬ (0 : Int32) < 0 ∧ ¬ (55 : Int32) < 0 ∧ (a0 * 55).toNatClampNeg + (55 : Int32).toNatClampNeg ≤ 495 ∧ (0 : Int32).toNatClampNeg + (55 : Int32).toNatClampNeg ≤ 55
    · rw [if_pos hn2872] at h
      refine mg_Ev.copy rfl (hpg_24 _ _ _) (hpg_23 _ _ _) hn2872 (hpr_23 _ _ _ _ _ _) ?_
      cases h
      exact mg_Ev.fin rfl rfl rfl
    · rw [if_neg hn2872] at h
      cases h

def T_bringFrom_25 (a0 : Int32) (u : mg_Rg) : Option (mg_Rg) :=
  (T_hasSlot_25 a0 u).bind fun v781 =>
  if v781 = 0 then
  some u
  else
  if ¬ (a0 * 451) < 0 ∧ ¬ (0 : Int32) < 0 ∧ ¬ (451 : Int32) < 0 ∧ (a0 * 451).toNatClampNeg + (451 : Int32).toNatClampNeg ≤ 4059 ∧ (0 : Int32).toNatClampNeg + (451 : Int32).toNatClampNeg ≤ 451 then
    some (mg_rw u 26 (va_cpy (u 27) (u 26) (a0 * 451).toNatClampNeg (0 : Int32).toNatClampNeg (451 : Int32).toNatClampNeg))
    else none

set_option maxRecDepth 10000 in
set_option maxHeartbeats 4000000 in
theorem ev_T_bringFrom_25 {sc : mg_Sc} {c z : Nat} {fL : Nat → Int64} {fD : Nat → UInt64} {a0 : Int32} {u : mg_Rg} {v : mg_Rg} (h : T_bringFrom_25 a0 u = some v) : mg_Ev sc 1 191 0 (mg_entry 191 [.ref 26, .int a0]) [] (hp u fL fD, c, z) (.inl none, (hp v fL fD, c, z)) := by
  unfold T_bringFrom_25 at h
  show mg_Ev _ _ _ 0 [some (.ref 26), some (.int a0)] [] _ _
  refine mg_Ev.go 2 (pc' := 2) (loc' := [some (.ref 26), some (.int a0)]) (st' := [.int a0, .ref 26]) (w' := (hp u fL fD, c, z)) rfl ?_
  obtain ⟨v781, hf2873, h⟩ := Option.bind_eq_some_iff.mp h
  refine mg_Ev.call (y := 192) (as := [.ref 26, .int a0]) (rest := []) (v := some (.int v781)) (w1 := (hp u fL fD, c, z)) rfl rfl (Nat.le_of_ble_eq_true rfl) ((ev_T_hasSlot_25 hf2873).deep (by decide)) ?_
  refine mg_Ev.br (P := v781 = 0) (t := 32) (nx := 8) (st' := []) rfl rfl rfl rfl (fun hc2874 => ?_) (fun hc2874 => ?_)
  · rw [if_pos hc2874] at h
    cases h
    exact mg_Ev.fin rfl rfl rfl
  · rw [if_neg hc2874] at h
    refine mg_Ev.go 10 (pc' := 24) (loc' := [some (.ref 26), some (.int a0)]) (st' := [.int 0, .ref 27, .int (a0 * 451), .ref 28]) (w' := (hp u fL fD, c, z)) rfl ?_
    refine mg_Ev.go 3 (pc' := 29) (loc' := [some (.ref 26), some (.int a0)]) (st' := [.int 451, .int 0, .ref 27, .int (a0 * 451), .ref 28]) (w' := (hp u fL fD, c, z)) rfl ?_
    by_cases hn2875 : ¬ (a0 * 451) < 0 ∧ ¬ (0 : Int32) < 0 ∧ ¬ (451 : Int32) < 0 ∧ (a0 * 451).toNatClampNeg + (451 : Int32).toNatClampNeg ≤ 4059 ∧ (0 : Int32).toNatClampNeg + (451 : Int32).toNatClampNeg ≤ 451
    · rw [if_pos hn2875] at h
      refine mg_Ev.copy rfl (hpg_27 _ _ _) (hpg_26 _ _ _) hn2875 (hpr_26 _ _ _ _ _ _) ?_
      cases h
      exact mg_Ev.fin rfl rfl rfl
    · rw [if_neg hn2875] at h
      cases h

def O_bringFrom (a0 : Int32) (u : mg_Rg) : Option (mg_Rg) :=
  (Tf_bringFrom a0 u).bind fun u773 =>
  (Lg_bringFrom a0 u773).bind fun u778 =>
  (T_bringFrom_22 a0 u778).bind fun u780 =>
  (T_bringFrom_25 a0 u780).bind fun u782 =>
  some u782

set_option maxRecDepth 10000 in
set_option maxHeartbeats 4000000 in
theorem ev_O_bringFrom {sc : mg_Sc} {c z : Nat} {fL : Nat → Int64} {fD : Nat → UInt64} {a0 : Int32} {u : mg_Rg} {v : mg_Rg} (h : O_bringFrom a0 u = some v) : mg_Ev sc 3 165 0 (mg_entry 165 [.ref 2, .int a0]) [] (hp u fL fD, c, z) (.inl none, (hp v fL fD, c, z)) := by
  unfold O_bringFrom at h
  show mg_Ev _ _ _ 0 [some (.ref 2), some (.int a0)] [] _ _
  refine mg_Ev.go 3 (pc' := 5) (loc' := [some (.ref 2), some (.int a0)]) (st' := [.int a0, .ref 3]) (w' := (hp u fL fD, c, z)) rfl ?_
  obtain ⟨u773, hf2876, h⟩ := Option.bind_eq_some_iff.mp h
  refine mg_Ev.call (y := 207) (as := [.ref 3, .int a0]) (rest := []) (v := none) (w1 := (hp u773 fL fD, c, z)) rfl rfl (Nat.le_of_ble_eq_true rfl) ((ev_Tf_bringFrom hf2876).deep (by decide)) ?_
  refine mg_Ev.go 3 (pc' := 13) (loc' := [some (.ref 2), some (.int a0)]) (st' := [.int a0, .ref 16]) (w' := (hp u773 fL fD, c, z)) rfl ?_
  obtain ⟨u778, hf2877, h⟩ := Option.bind_eq_some_iff.mp h
  refine mg_Ev.call (y := 150) (as := [.ref 16, .int a0]) (rest := []) (v := none) (w1 := (hp u778 fL fD, c, z)) rfl rfl (Nat.le_of_ble_eq_true rfl) ((ev_Lg_bringFrom hf2877).deep (by decide)) ?_
  refine mg_Ev.go 3 (pc' := 21) (loc' := [some (.ref 2), some (.int a0)]) (st' := [.int a0, .ref 23]) (w' := (hp u778 fL fD, c, z)) rfl ?_
  obtain ⟨u780, hf2878, h⟩ := Option.bind_eq_some_iff.mp h
  refine mg_Ev.call (y := 191) (as := [.ref 23, .int a0]) (rest := []) (v := none) (w1 := (hp u780 fL fD, c, z)) rfl rfl (Nat.le_of_ble_eq_true rfl) ((ev_T_bringFrom_22 hf2878).deep (by decide)) ?_
  refine mg_Ev.go 3 (pc' := 29) (loc' := [some (.ref 2), some (.int a0)]) (st' := [.int a0, .ref 26]) (w' := (hp u780 fL fD, c, z)) rfl ?_
  obtain ⟨u782, hf2879, h⟩ := Option.bind_eq_some_iff.mp h
  refine mg_Ev.call (y := 191) (as := [.ref 26, .int a0]) (rest := []) (v := none) (w1 := (hp u782 fL fD, c, z)) rfl rfl (Nat.le_of_ble_eq_true rfl) ((ev_T_bringFrom_25 hf2879).deep (by decide)) ?_
  cases h
  exact mg_Ev.fin rfl rfl rfl

def T_bringFrom_30 (a0 : Int32) (u : mg_Rg) : Option (mg_Rg) :=
  (T_hasSlot_30 a0 u).bind fun v784 =>
  if v784 = 0 then
  some u
  else
  if ¬ (a0 * 9) < 0 ∧ ¬ (0 : Int32) < 0 ∧ ¬ (9 : Int32) < 0 ∧ (a0 * 9).toNatClampNeg + (9 : Int32).toNatClampNeg ≤ 81 ∧ (0 : Int32).toNatClampNeg + (9 : Int32).toNatClampNeg ≤ 9 then
    some (mg_rw u 31 (va_cpy (u 32) (u 31) (a0 * 9).toNatClampNeg (0 : Int32).toNatClampNeg (9 : Int32).toNatClampNeg))
    else none

set_option maxRecDepth 10000 in
set_option maxHeartbeats 4000000 in
theorem ev_T_bringFrom_30 {sc : mg_Sc} {c z : Nat} {fL : Nat → Int64} {fD : Nat → UInt64} {a0 : Int32} {u : mg_Rg} {v : mg_Rg} (h : T_bringFrom_30 a0 u = some v) : mg_Ev sc 1 191 0 (mg_entry 191 [.ref 31, .int a0]) [] (hp u fL fD, c, z) (.inl none, (hp v fL fD, c, z)) := by
  unfold T_bringFrom_30 at h
  show mg_Ev _ _ _ 0 [some (.ref 31), some (.int a0)] [] _ _
  refine mg_Ev.go 2 (pc' := 2) (loc' := [some (.ref 31), some (.int a0)]) (st' := [.int a0, .ref 31]) (w' := (hp u fL fD, c, z)) rfl ?_
  obtain ⟨v784, hf2880, h⟩ := Option.bind_eq_some_iff.mp h
  refine mg_Ev.call (y := 192) (as := [.ref 31, .int a0]) (rest := []) (v := some (.int v784)) (w1 := (hp u fL fD, c, z)) rfl rfl (Nat.le_of_ble_eq_true rfl) ((ev_T_hasSlot_30 hf2880).deep (by decide)) ?_
  refine mg_Ev.br (P := v784 = 0) (t := 32) (nx := 8) (st' := []) rfl rfl rfl rfl (fun hc2881 => ?_) (fun hc2881 => ?_)
  · rw [if_pos hc2881] at h
    cases h
    exact mg_Ev.fin rfl rfl rfl
  · rw [if_neg hc2881] at h
    refine mg_Ev.go 10 (pc' := 24) (loc' := [some (.ref 31), some (.int a0)]) (st' := [.int 0, .ref 32, .int (a0 * 9), .ref 33]) (w' := (hp u fL fD, c, z)) rfl ?_
    refine mg_Ev.go 3 (pc' := 29) (loc' := [some (.ref 31), some (.int a0)]) (st' := [.int 9, .int 0, .ref 32, .int (a0 * 9), .ref 33]) (w' := (hp u fL fD, c, z)) rfl ?_
    by_cases hn2882 : ¬ (a0 * 9) < 0 ∧ ¬ (0 : Int32) < 0 ∧ ¬ (9 : Int32) < 0 ∧ (a0 * 9).toNatClampNeg + (9 : Int32).toNatClampNeg ≤ 81 ∧ (0 : Int32).toNatClampNeg + (9 : Int32).toNatClampNeg ≤ 9
    · rw [if_pos hn2882] at h
      refine mg_Ev.copy rfl (hpg_32 _ _ _) (hpg_31 _ _ _) hn2882 (hpr_31 _ _ _ _ _ _) ?_
      cases h
      exact mg_Ev.fin rfl rfl rfl
    · rw [if_neg hn2882] at h
      cases h

def C_bringFrom (a0 : Int32) (u : mg_Rg) : Option (mg_Rg) :=
  (O_bringFrom a0 u).bind fun u783 =>
  (T_bringFrom_30 a0 u783).bind fun u785 =>
  some u785

set_option maxRecDepth 10000 in
set_option maxHeartbeats 4000000 in
theorem ev_C_bringFrom {sc : mg_Sc} {c z : Nat} {fL : Nat → Int64} {fD : Nat → UInt64} {a0 : Int32} {u : mg_Rg} {v : mg_Rg} (h : C_bringFrom a0 u = some v) : mg_Ev sc 4 40 0 (mg_entry 40 [.ref 1, .int a0]) [] (hp u fL fD, c, z) (.inl none, (hp v fL fD, c, z)) := by
  unfold C_bringFrom at h
  show mg_Ev _ _ _ 0 [some (.ref 1), some (.int a0)] [] _ _
  refine mg_Ev.go 3 (pc' := 5) (loc' := [some (.ref 1), some (.int a0)]) (st' := [.int a0, .ref 2]) (w' := (hp u fL fD, c, z)) rfl ?_
  obtain ⟨u783, hf2883, h⟩ := Option.bind_eq_some_iff.mp h
  refine mg_Ev.call (y := 165) (as := [.ref 2, .int a0]) (rest := []) (v := none) (w1 := (hp u783 fL fD, c, z)) rfl rfl (Nat.le_of_ble_eq_true rfl) ((ev_O_bringFrom hf2883).deep (by decide)) ?_
  refine mg_Ev.go 4 (pc' := 16) (loc' := [some (.ref 1), some (.int a0)]) (st' := [.int a0, .ref 31]) (w' := (hp u783 fL fD, c, z)) rfl ?_
  obtain ⟨u785, hf2884, h⟩ := Option.bind_eq_some_iff.mp h
  refine mg_Ev.call (y := 191) (as := [.ref 31, .int a0]) (rest := []) (v := none) (w1 := (hp u785 fL fD, c, z)) rfl rfl (Nat.le_of_ble_eq_true rfl) ((ev_T_bringFrom_30 hf2884).deep (by decide)) ?_
  cases h
  exact mg_Ev.fin rfl rfl rfl

def C_undo (u : mg_Rg) : Option ((Int32 ⊕ Nat) × mg_Rg) :=
  if (u 0 7) = 0 then
  some (.inr 2, u)
  else
  (C_bringFrom ((mg_up (mg_up u 0 6 ((((u 0 6) + 8) - 1) - (((u 0 6) + 8) - 1) / 8 * 8)) 0 7 (((mg_up u 0 6 ((((u 0 6) + 8) - 1) - (((u 0 6) + 8) - 1) / 8 * 8)) 0 7) - 1)) 0 6) (mg_up (mg_up u 0 6 ((((u 0 6) + 8) - 1) - (((u 0 6) + 8) - 1) / 8 * 8)) 0 7 (((mg_up u 0 6 ((((u 0 6) + 8) - 1) - (((u 0 6) + 8) - 1) / 8 * 8)) 0 7) - 1))).bind fun u786 =>
    some (.inl (u786 0 7), u786)

set_option maxRecDepth 10000 in
set_option maxHeartbeats 4000000 in
theorem ev_C_undo {sc : mg_Sc} {c z : Nat} {fL : Nat → Int64} {fD : Nat → UInt64} {u : mg_Rg} {p : (Int32 ⊕ Nat) × mg_Rg} (h : C_undo u = some p) : mg_Ev sc 5 35 0 (mg_entry 35 [.ref 1]) [] (hp u fL fD, c, z) (xri p.1, xw p.1 (hp p.2 fL fD) c z) := by
  unfold C_undo at h
  show mg_Ev _ _ _ 0 [some (.ref 1)] [] _ _
  refine mg_Ev.go 2 (pc' := 4) (loc' := [some (.ref 1)]) (st' := [.int (u 0 7)]) (w' := (hp u fL fD, c, z)) rfl ?_
  refine mg_Ev.br (P := (u 0 7) = 0) (t := 7) (nx := 18) (st' := []) rfl rfl rfl rfl (fun hc2885 => ?_) (fun hc2885 => ?_)
  · rw [if_pos hc2885] at h
    cases h
    exact mg_Ev.fin rfl rfl rfl
  · rw [if_neg hc2885] at h
    refine mg_Ev.go 8 (pc' := 30) (loc' := [some (.ref 1)]) (st' := [.int 8, .int (((u 0 6) + 8) - 1), .ref 1]) (w' := (hp u fL fD, c, z)) rfl ?_
    refine mg_Ev.irem rfl (by decide) ?_
    refine mg_Ev.put rfl (hpg_0 _ _ _) (Nat.le_of_ble_eq_true rfl) rfl (hpf_0_6 _ _ _ _ _ _) ?_
    refine mg_Ev.go 5 (pc' := 41) (loc' := [some (.ref 1)]) (st' := [.int (((mg_up u 0 6 ((((u 0 6) + 8) - 1) - (((u 0 6) + 8) - 1) / 8 * 8)) 0 7) - 1), .ref 1]) (w' := (hp (mg_up u 0 6 ((((u 0 6) + 8) - 1) - (((u 0 6) + 8) - 1) / 8 * 8)) fL fD, c, z)) rfl ?_
    refine mg_Ev.put rfl (hpg_0 _ _ _) (Nat.le_of_ble_eq_true rfl) rfl (hpf_0_7 _ _ _ _ _ _) ?_
    refine mg_Ev.go 3 (pc' := 49) (loc' := [some (.ref 1)]) (st' := [.int ((mg_up (mg_up u 0 6 ((((u 0 6) + 8) - 1) - (((u 0 6) + 8) - 1) / 8 * 8)) 0 7 (((mg_up u 0 6 ((((u 0 6) + 8) - 1) - (((u 0 6) + 8) - 1) / 8 * 8)) 0 7) - 1)) 0 6), .ref 1]) (w' := (hp (mg_up (mg_up u 0 6 ((((u 0 6) + 8) - 1) - (((u 0 6) + 8) - 1) / 8 * 8)) 0 7 (((mg_up u 0 6 ((((u 0 6) + 8) - 1) - (((u 0 6) + 8) - 1) / 8 * 8)) 0 7) - 1)) fL fD, c, z)) rfl ?_
    obtain ⟨u786, hf2886, h⟩ := Option.bind_eq_some_iff.mp h
    refine mg_Ev.call (y := 40) (as := [.ref 1, .int ((mg_up (mg_up u 0 6 ((((u 0 6) + 8) - 1) - (((u 0 6) + 8) - 1) / 8 * 8)) 0 7 (((mg_up u 0 6 ((((u 0 6) + 8) - 1) - (((u 0 6) + 8) - 1) / 8 * 8)) 0 7) - 1)) 0 6)]) (rest := []) (v := none) (w1 := (hp u786 fL fD, c, z)) rfl rfl (Nat.le_of_ble_eq_true rfl) ((ev_C_bringFrom hf2886).deep (by decide)) ?_
    refine mg_Ev.go 2 (pc' := 56) (loc' := [some (.ref 1)]) (st' := [.int (u786 0 7)]) (w' := (hp u786 fL fD, c, z)) rfl ?_
    cases h
    exact mg_Ev.fin rfl rfl rfl

def C_save (u : mg_Rg) : Option (Int32 × mg_Rg) :=
  (C_keepIn 8 u).bind fun u787 =>
  (T_count_25 (mg_up u787 0 8 1)).bind fun v788 =>
  some (v788, (mg_up u787 0 8 1))

set_option maxRecDepth 10000 in
set_option maxHeartbeats 4000000 in
theorem ev_C_save {sc : mg_Sc} {c z : Nat} {fL : Nat → Int64} {fD : Nat → UInt64} {u : mg_Rg} {p : Int32 × mg_Rg} (h : C_save u = some p) : mg_Ev sc 5 36 0 (mg_entry 36 [.ref 1]) [] (hp u fL fD, c, z) (.inl (some (.int p.1)), (hp p.2 fL fD, c, z)) := by
  unfold C_save at h
  show mg_Ev _ _ _ 0 [some (.ref 1)] [] _ _
  refine mg_Ev.go 2 (pc' := 3) (loc' := [some (.ref 1)]) (st' := [.int 8, .ref 1]) (w' := (hp u fL fD, c, z)) rfl ?_
  obtain ⟨u787, hf2887, h⟩ := Option.bind_eq_some_iff.mp h
  refine mg_Ev.call (y := 39) (as := [.ref 1, .int 8]) (rest := []) (v := none) (w1 := (hp u787 fL fD, c, z)) rfl rfl (Nat.le_of_ble_eq_true rfl) ((ev_C_keepIn hf2887).deep (by decide)) ?_
  refine mg_Ev.go 2 (pc' := 8) (loc' := [some (.ref 1)]) (st' := [.int 1, .ref 1]) (w' := (hp u787 fL fD, c, z)) rfl ?_
  refine mg_Ev.put rfl (hpg_0 _ _ _) (Nat.le_of_ble_eq_true rfl) rfl (hpf_0_8 _ _ _ _ _ _) ?_
  refine mg_Ev.go 3 (pc' := 18) (loc' := [some (.ref 1)]) (st' := [.ref 26]) (w' := (hp (mg_up u787 0 8 1) fL fD, c, z)) rfl ?_
  obtain ⟨v788, hf2888, h⟩ := Option.bind_eq_some_iff.mp h
  refine mg_Ev.call (y := 181) (as := [.ref 26]) (rest := []) (v := some (.int v788)) (w1 := (hp (mg_up u787 0 8 1) fL fD, c, z)) rfl rfl (Nat.le_of_ble_eq_true rfl) ((ev_T_count_25 hf2888).deep (by decide)) ?_
  cases h
  exact mg_Ev.fin rfl rfl rfl

def C_restore (u : mg_Rg) : Option ((Int32 ⊕ Nat) × mg_Rg) :=
  if (u 0 8) = 0 then
  some (.inr 2, u)
  else
  (C_keepForUndo u).bind fun u789 =>
    (C_bringFrom 8 u789).bind fun u790 =>
    (T_count_25 u790).bind fun v791 =>
    some (.inl v791, u790)

set_option maxRecDepth 10000 in
set_option maxHeartbeats 4000000 in
theorem ev_C_restore {sc : mg_Sc} {c z : Nat} {fL : Nat → Int64} {fD : Nat → UInt64} {u : mg_Rg} {p : (Int32 ⊕ Nat) × mg_Rg} (h : C_restore u = some p) : mg_Ev sc 6 37 0 (mg_entry 37 [.ref 1]) [] (hp u fL fD, c, z) (xri p.1, xw p.1 (hp p.2 fL fD) c z) := by
  unfold C_restore at h
  show mg_Ev _ _ _ 0 [some (.ref 1)] [] _ _
  refine mg_Ev.go 2 (pc' := 4) (loc' := [some (.ref 1)]) (st' := [.int (u 0 8)]) (w' := (hp u fL fD, c, z)) rfl ?_
  refine mg_Ev.br (P := (u 0 8) = 0) (t := 7) (nx := 18) (st' := []) rfl rfl rfl rfl (fun hc2889 => ?_) (fun hc2889 => ?_)
  · rw [if_pos hc2889] at h
    cases h
    exact mg_Ev.fin rfl rfl rfl
  · rw [if_neg hc2889] at h
    refine mg_Ev.go 1 (pc' := 19) (loc' := [some (.ref 1)]) (st' := [.ref 1]) (w' := (hp u fL fD, c, z)) rfl ?_
    obtain ⟨u789, hf2890, h⟩ := Option.bind_eq_some_iff.mp h
    refine mg_Ev.call (y := 38) (as := [.ref 1]) (rest := []) (v := none) (w1 := (hp u789 fL fD, c, z)) rfl rfl (Nat.le_of_ble_eq_true rfl) ((ev_C_keepForUndo hf2890).deep (by decide)) ?_
    refine mg_Ev.go 2 (pc' := 25) (loc' := [some (.ref 1)]) (st' := [.int 8, .ref 1]) (w' := (hp u789 fL fD, c, z)) rfl ?_
    obtain ⟨u790, hf2891, h⟩ := Option.bind_eq_some_iff.mp h
    refine mg_Ev.call (y := 40) (as := [.ref 1, .int 8]) (rest := []) (v := none) (w1 := (hp u790 fL fD, c, z)) rfl rfl (Nat.le_of_ble_eq_true rfl) ((ev_C_bringFrom hf2891).deep (by decide)) ?_
    refine mg_Ev.go 3 (pc' := 35) (loc' := [some (.ref 1)]) (st' := [.ref 26]) (w' := (hp u790 fL fD, c, z)) rfl ?_
    obtain ⟨v791, hf2892, h⟩ := Option.bind_eq_some_iff.mp h
    refine mg_Ev.call (y := 181) (as := [.ref 26]) (rest := []) (v := some (.int v791)) (w1 := (hp u790 fL fD, c, z)) rfl rfl (Nat.le_of_ble_eq_true rfl) ((ev_T_count_25 hf2892).deep (by decide)) ?_
    cases h
    exact mg_Ev.fin rfl rfl rfl

def M_thrown (u : mg_Rg) : Option (Int32) :=
  some (u 42 0)

set_option maxRecDepth 10000 in
set_option maxHeartbeats 4000000 in
theorem ev_M_thrown {sc : mg_Sc} {c z : Nat} {fL : Nat → Int64} {fD : Nat → UInt64} {u : mg_Rg} {v : Int32} (h : M_thrown u = some v) : mg_Ev sc 0 57 0 (mg_entry 57 [.ref 43]) [] (hp u fL fD, c, z) (.inl (some (.int v)), (hp u fL fD, c, z)) := by
  unfold M_thrown at h
  show mg_Ev _ _ _ 0 [some (.ref 43)] [] _ _
  refine mg_Ev.go 2 (pc' := 4) (loc' := [some (.ref 43)]) (st' := [.int (u 42 0)]) (w' := (hp u fL fD, c, z)) rfl ?_
  cases h
  exact mg_Ev.fin rfl rfl rfl

def M_fails (a0 : Int32) (u : mg_Rg) : Option (Int32 × mg_Rg) :=
  some (0, (mg_up u 42 0 a0))

set_option maxRecDepth 10000 in
set_option maxHeartbeats 4000000 in
theorem ev_M_fails {sc : mg_Sc} {c z : Nat} {fL : Nat → Int64} {fD : Nat → UInt64} {a0 : Int32} {u : mg_Rg} {p : Int32 × mg_Rg} (h : M_fails a0 u = some p) : mg_Ev sc 0 59 0 (mg_entry 59 [.ref 43, .int a0]) [] (hp u fL fD, c, z) (.inl (some (.int p.1)), (hp p.2 fL fD, c, z)) := by
  unfold M_fails at h
  show mg_Ev _ _ _ 0 [some (.ref 43), some (.int a0)] [] _ _
  refine mg_Ev.go 2 (pc' := 2) (loc' := [some (.ref 43), some (.int a0)]) (st' := [.int a0, .ref 43]) (w' := (hp u fL fD, c, z)) rfl ?_
  refine mg_Ev.put rfl (hpg_42 _ _ _) (Nat.le_of_ble_eq_true rfl) rfl (hpf_42_0 _ _ _ _ _ _) ?_
  refine mg_Ev.go 1 (pc' := 6) (loc' := [some (.ref 43), some (.int a0)]) (st' := [.int 0]) (w' := (hp (mg_up u 42 0 a0) fL fD, c, z)) rfl ?_
  cases h
  exact mg_Ev.fin rfl rfl rfl

def M_done (a0 : Int32) (u : mg_Rg) : Option (Int32 × mg_Rg) :=
  some (a0, (mg_up u 42 0 0))

set_option maxRecDepth 10000 in
set_option maxHeartbeats 4000000 in
theorem ev_M_done {sc : mg_Sc} {c z : Nat} {fL : Nat → Int64} {fD : Nat → UInt64} {a0 : Int32} {u : mg_Rg} {p : Int32 × mg_Rg} (h : M_done a0 u = some p) : mg_Ev sc 0 60 0 (mg_entry 60 [.ref 43, .int a0]) [] (hp u fL fD, c, z) (.inl (some (.int p.1)), (hp p.2 fL fD, c, z)) := by
  unfold M_done at h
  show mg_Ev _ _ _ 0 [some (.ref 43), some (.int a0)] [] _ _
  refine mg_Ev.go 2 (pc' := 2) (loc' := [some (.ref 43), some (.int a0)]) (st' := [.int 0, .ref 43]) (w' := (hp u fL fD, c, z)) rfl ?_
  refine mg_Ev.put rfl (hpg_42 _ _ _) (Nat.le_of_ble_eq_true rfl) rfl (hpf_42_0 _ _ _ _ _ _) ?_
  refine mg_Ev.go 1 (pc' := 6) (loc' := [some (.ref 43), some (.int a0)]) (st' := [.int a0]) (w' := (hp (mg_up u 42 0 0) fL fD, c, z)) rfl ?_
  cases h
  exact mg_Ev.fin rfl rfl rfl

def M_copy_43_44_L3 : Nat → Int32 → Int32 → Int32 → mg_Rg → Option (mg_Rg)
  | 0, _, _, _, _ => none
  | n + 1, x1, x3, x4, u =>
    if 690 ≤ x4 then
    some (u)
    else
    if (x1 + x4) < 0 ∨ 690 ≤ (x1 + x4).toNatClampNeg then none else
      if (x3 + x4) < 0 ∨ 5520 ≤ (x3 + x4).toNatClampNeg then none else
      M_copy_43_44_L3 n x1 x3 (x4 + 1) (mg_up u 44 ((x3 + x4).toNatClampNeg) (u 43 ((x1 + x4).toNatClampNeg)))
set_option maxRecDepth 10000 in
set_option maxHeartbeats 4000000 in
theorem ev_M_copy_43_44_L3 {sc : mg_Sc} {c z : Nat} {fL : Nat → Int64} {fD : Nat → UInt64} : ∀ (n : Nat) (x1 : Int32) (x3 : Int32) (x4 : Int32) (u : mg_Rg) (res : mg_Rg), M_copy_43_44_L3 n x1 x3 x4 u = some res → ∀ r, (match res with | yu => mg_Ev sc 0 61 29 [none, none, none, none, none] [] (hp yu fL fD, c, z) r) → mg_Ev sc 0 61 3 [some (.ref 44), some (.int x1), some (.ref 45), some (.int x3), some (.int x4)] [] (hp u fL fD, c, z) r := by
  intro n
  induction n with
  | zero => intro x1 x3 x4 u res h; cases h
  | succ n ih =>
    intro x1 x3 x4 u res h r K
    unfold M_copy_43_44_L3 at h
    refine mg_Ev.go 2 (pc' := 8) (loc' := [some (.ref 44), some (.int x1), some (.ref 45), some (.int x3), some (.int x4)]) (st' := [.int 690, .int x4]) (w' := (hp u fL fD, c, z)) rfl ?_
    refine mg_Ev.br (P := 690 ≤ x4) (t := 29) (nx := 11) (st' := []) rfl rfl rfl rfl (fun hc2893 => ?_) (fun hc2893 => ?_)
    · rw [if_pos hc2893] at h
      cases h
      exact mg_Ev.more (loc := [none, none, none, none, none]) K trivial
    · rw [if_neg hc2893] at h
      refine mg_Ev.go 8 (pc' := 21) (loc' := [some (.ref 44), some (.int x1), some (.ref 45), some (.int x3), some (.int x4)]) (st' := [.int (x1 + x4), .ref 44, .int (x3 + x4), .ref 45]) (w' := (hp u fL fD, c, z)) rfl ?_
      by_cases hb2894 : (x1 + x4) < 0 ∨ 690 ≤ (x1 + x4).toNatClampNeg
      · rw [if_pos hb2894] at h
        cases h
      · rw [if_neg hb2894] at h
        refine mg_Ev.iald (a := 43) (n := 690) (f := u 43) rfl (hpg_43 _ _ _) rfl hb2894 ?_
        by_cases hb2895 : (x3 + x4) < 0 ∨ 5520 ≤ (x3 + x4).toNatClampNeg
        · rw [if_pos hb2895] at h
          cases h
        · rw [if_neg hb2895] at h
          refine mg_Ev.iast (a := 44) (n := 5520) rfl (hpg_44 _ _ _) rfl hb2895 (hpa_44 _ _ _ _ _ _ _) ?_
          refine mg_Ev.go 2 (pc' := 3) (loc' := [some (.ref 44), some (.int x1), some (.ref 45), some (.int x3), some (.int (x4 + 1))]) (st' := []) (w' := (hp (mg_up u 44 ((x3 + x4).toNatClampNeg) (u 43 ((x1 + x4).toNatClampNeg))) fL fD, c, z)) rfl ?_
          exact mg_Ev.more (loc := [some (.ref 44), some (.int x1), some (.ref 45), some (.int x3), some (.int (x4 + 1))]) (ih _ _ _ _ _ h _ K) ⟨rfl, ⟨rfl, ⟨rfl, ⟨rfl, ⟨rfl, trivial⟩⟩⟩⟩⟩

def M_copy_43_44 (a0 : Int32) (a1 : Int32) (u : mg_Rg) : Option (mg_Rg) :=
  (M_copy_43_44_L3 mg_F a0 a1 0 u).bind fun q2896 => match q2896 with
  | u793 =>
    some u793

set_option maxRecDepth 10000 in
set_option maxHeartbeats 4000000 in
theorem ev_M_copy_43_44 {sc : mg_Sc} {c z : Nat} {fL : Nat → Int64} {fD : Nat → UInt64} {a0 : Int32} {a1 : Int32} {u : mg_Rg} {v : mg_Rg} (h : M_copy_43_44 a0 a1 u = some v) : mg_Ev sc 0 61 0 (mg_entry 61 [.ref 44, .int a0, .ref 45, .int a1]) [] (hp u fL fD, c, z) (.inl none, (hp v fL fD, c, z)) := by
  unfold M_copy_43_44 at h
  show mg_Ev _ _ _ 0 [some (.ref 44), some (.int a0), some (.ref 45), some (.int a1), none] [] _ _
  refine mg_Ev.go 2 (pc' := 3) (loc' := [some (.ref 44), some (.int a0), some (.ref 45), some (.int a1), some (.int 0)]) (st' := []) (w' := (hp u fL fD, c, z)) rfl ?_
  obtain ⟨u793, hl2897, h⟩ := Option.bind_eq_some_iff.mp h
  try dsimp only at h
  refine mg_Ev.more (loc := [some (.ref 44), some (.int a0), some (.ref 45), some (.int a1), some (.int 0)]) (ev_M_copy_43_44_L3 _ _ _ _ _ _ hl2897 _ ?_) ⟨rfl, ⟨rfl, ⟨rfl, ⟨rfl, ⟨rfl, trivial⟩⟩⟩⟩⟩
  show mg_Ev _ _ _ 29 [none, none, none, none, none] [] (hp u793 fL fD, c, z) _
  cases h
  exact mg_Ev.fin rfl rfl rfl

def M_remembersRow_43_L11 : Nat → Int32 → mg_Rg → Option (mg_Rg)
  | 0, _, _ => none
  | n + 1, x2, u =>
    if 4830 ≤ x2 then
    some (u)
    else
    if (x2 + 690) < 0 ∨ 5520 ≤ (x2 + 690).toNatClampNeg then none else
      if x2 < 0 ∨ 5520 ≤ x2.toNatClampNeg then none else
      M_remembersRow_43_L11 n (x2 + 1) (mg_up u 44 x2.toNatClampNeg (u 44 ((x2 + 690).toNatClampNeg)))
set_option maxRecDepth 10000 in
set_option maxHeartbeats 4000000 in
theorem ev_M_remembersRow_43_L11 {sc : mg_Sc} {c z : Nat} {fL : Nat → Int64} {fD : Nat → UInt64} : ∀ (n : Nat) (x2 : Int32) (u : mg_Rg) (res : mg_Rg), M_remembersRow_43_L11 n x2 u = some res → ∀ r, (match res with | yu => mg_Ev sc 1 62 40 [some (.ref 43), some (.ref 44), none] [] (hp yu fL fD, c, z) r) → mg_Ev sc 1 62 11 [some (.ref 43), some (.ref 44), some (.int x2)] [] (hp u fL fD, c, z) r := by
  intro n
  induction n with
  | zero => intro x2 u res h; cases h
  | succ n ih =>
    intro x2 u res h r K
    unfold M_remembersRow_43_L11 at h
    refine mg_Ev.go 2 (pc' := 15) (loc' := [some (.ref 43), some (.ref 44), some (.int x2)]) (st' := [.int 4830, .int x2]) (w' := (hp u fL fD, c, z)) rfl ?_
    refine mg_Ev.br (P := 4830 ≤ x2) (t := 40) (nx := 18) (st' := []) rfl rfl rfl rfl (fun hc2898 => ?_) (fun hc2898 => ?_)
    · rw [if_pos hc2898] at h
      cases h
      exact mg_Ev.more (loc := [some (.ref 43), some (.ref 44), none]) K ⟨rfl, ⟨rfl, trivial⟩⟩
    · rw [if_neg hc2898] at h
      refine mg_Ev.go 8 (pc' := 32) (loc' := [some (.ref 43), some (.ref 44), some (.int x2)]) (st' := [.int (x2 + 690), .ref 45, .int x2, .ref 45]) (w' := (hp u fL fD, c, z)) rfl ?_
      by_cases hb2899 : (x2 + 690) < 0 ∨ 5520 ≤ (x2 + 690).toNatClampNeg
      · rw [if_pos hb2899] at h
        cases h
      · rw [if_neg hb2899] at h
        refine mg_Ev.iald (a := 44) (n := 5520) (f := u 44) rfl (hpg_44 _ _ _) rfl hb2899 ?_
        by_cases hb2900 : x2 < 0 ∨ 5520 ≤ x2.toNatClampNeg
        · rw [if_pos hb2900] at h
          cases h
        · rw [if_neg hb2900] at h
          refine mg_Ev.iast (a := 44) (n := 5520) rfl (hpg_44 _ _ _) rfl hb2900 (hpa_44 _ _ _ _ _ _ _) ?_
          refine mg_Ev.go 2 (pc' := 11) (loc' := [some (.ref 43), some (.ref 44), some (.int (x2 + 1))]) (st' := []) (w' := (hp (mg_up u 44 x2.toNatClampNeg (u 44 ((x2 + 690).toNatClampNeg))) fL fD, c, z)) rfl ?_
          exact mg_Ev.more (loc := [some (.ref 43), some (.ref 44), some (.int (x2 + 1))]) (ih _ _ _ h _ K) ⟨rfl, ⟨rfl, ⟨rfl, trivial⟩⟩⟩

def M_remembersRow_43 (u : mg_Rg) : Option (mg_Rg) :=
  if (u 42 3) = 8 then
  (M_remembersRow_43_L11 mg_F 0 u).bind fun q2901 => match q2901 with
    | u792 =>
      (M_copy_43_44 0 (((mg_up u792 42 3 ((u792 42 3) - 1)) 42 3) * 690) (mg_up u792 42 3 ((u792 42 3) - 1))).bind fun u794 =>
      some (mg_up u794 42 3 ((u794 42 3) + 1))
  else
  (M_copy_43_44 0 ((u 42 3) * 690) u).bind fun u795 =>
    some (mg_up u795 42 3 ((u795 42 3) + 1))

set_option maxRecDepth 10000 in
set_option maxHeartbeats 4000000 in
theorem ev_M_remembersRow_43 {sc : mg_Sc} {c z : Nat} {fL : Nat → Int64} {fD : Nat → UInt64} {u : mg_Rg} {v : mg_Rg} (h : M_remembersRow_43 u = some v) : mg_Ev sc 1 62 0 (mg_entry 62 [.ref 43, .ref 44]) [] (hp u fL fD, c, z) (.inl none, (hp v fL fD, c, z)) := by
  unfold M_remembersRow_43 at h
  show mg_Ev _ _ _ 0 [some (.ref 43), some (.ref 44), none] [] _ _
  refine mg_Ev.go 3 (pc' := 6) (loc' := [some (.ref 43), some (.ref 44), none]) (st' := [.int 8, .int (u 42 3)]) (w' := (hp u fL fD, c, z)) rfl ?_
  refine mg_Ev.br (P := (u 42 3) = 8) (t := 9) (nx := 50) (st' := []) rfl rfl rfl rfl (fun hc2902 => ?_) (fun hc2902 => ?_)
  · rw [if_pos hc2902] at h
    refine mg_Ev.go 2 (pc' := 11) (loc' := [some (.ref 43), some (.ref 44), some (.int 0)]) (st' := []) (w' := (hp u fL fD, c, z)) rfl ?_
    obtain ⟨u792, hl2903, h⟩ := Option.bind_eq_some_iff.mp h
    try dsimp only at h
    refine mg_Ev.more (loc := [some (.ref 43), some (.ref 44), some (.int 0)]) (ev_M_remembersRow_43_L11 _ _ _ _ hl2903 _ ?_) ⟨rfl, ⟨rfl, ⟨rfl, trivial⟩⟩⟩
    show mg_Ev _ _ _ 40 [some (.ref 43), some (.ref 44), none] [] (hp u792 fL fD, c, z) _
    refine mg_Ev.go 5 (pc' := 47) (loc' := [some (.ref 43), some (.ref 44), none]) (st' := [.int ((u792 42 3) - 1), .ref 43]) (w' := (hp u792 fL fD, c, z)) rfl ?_
    refine mg_Ev.put rfl (hpg_42 _ _ _) (Nat.le_of_ble_eq_true rfl) rfl (hpf_42_3 _ _ _ _ _ _) ?_
    refine mg_Ev.go 8 (pc' := 64) (loc' := [some (.ref 43), some (.ref 44), none]) (st' := [.int (((mg_up u792 42 3 ((u792 42 3) - 1)) 42 3) * 690), .ref 45, .int 0, .ref 44]) (w' := (hp (mg_up u792 42 3 ((u792 42 3) - 1)) fL fD, c, z)) rfl ?_
    obtain ⟨u794, hf2904, h⟩ := Option.bind_eq_some_iff.mp h
    refine mg_Ev.call (y := 61) (as := [.ref 44, .int 0, .ref 45, .int (((mg_up u792 42 3 ((u792 42 3) - 1)) 42 3) * 690)]) (rest := []) (v := none) (w1 := (hp u794 fL fD, c, z)) rfl rfl (Nat.le_of_ble_eq_true rfl) ((ev_M_copy_43_44 hf2904).deep (by decide)) ?_
    refine mg_Ev.go 5 (pc' := 74) (loc' := [some (.ref 43), some (.ref 44), none]) (st' := [.int ((u794 42 3) + 1), .ref 43]) (w' := (hp u794 fL fD, c, z)) rfl ?_
    refine mg_Ev.put rfl (hpg_42 _ _ _) (Nat.le_of_ble_eq_true rfl) rfl (hpf_42_3 _ _ _ _ _ _) ?_
    cases h
    exact mg_Ev.fin rfl rfl rfl
  · rw [if_neg hc2902] at h
    refine mg_Ev.go 8 (pc' := 64) (loc' := [some (.ref 43), some (.ref 44), none]) (st' := [.int ((u 42 3) * 690), .ref 45, .int 0, .ref 44]) (w' := (hp u fL fD, c, z)) rfl ?_
    obtain ⟨u795, hf2905, h⟩ := Option.bind_eq_some_iff.mp h
    refine mg_Ev.call (y := 61) (as := [.ref 44, .int 0, .ref 45, .int ((u 42 3) * 690)]) (rest := []) (v := none) (w1 := (hp u795 fL fD, c, z)) rfl rfl (Nat.le_of_ble_eq_true rfl) ((ev_M_copy_43_44 hf2905).deep (by decide)) ?_
    refine mg_Ev.go 5 (pc' := 74) (loc' := [some (.ref 43), some (.ref 44), none]) (st' := [.int ((u795 42 3) + 1), .ref 43]) (w' := (hp u795 fL fD, c, z)) rfl ?_
    refine mg_Ev.put rfl (hpg_42 _ _ _) (Nat.le_of_ble_eq_true rfl) rfl (hpf_42_3 _ _ _ _ _ _) ?_
    cases h
    exact mg_Ev.fin rfl rfl rfl

def M_remembers (u : mg_Rg) : Option (mg_Rg) :=
  if (u 42 7) = 0 then
  (M_remembersRow_43 u).bind fun u796 =>
    some u796
  else
  some u

set_option maxRecDepth 10000 in
set_option maxHeartbeats 4000000 in
theorem ev_M_remembers {sc : mg_Sc} {c z : Nat} {fL : Nat → Int64} {fD : Nat → UInt64} {u : mg_Rg} {v : mg_Rg} (h : M_remembers u = some v) : mg_Ev sc 2 63 0 (mg_entry 63 [.ref 43]) [] (hp u fL fD, c, z) (.inl none, (hp v fL fD, c, z)) := by
  unfold M_remembers at h
  show mg_Ev _ _ _ 0 [some (.ref 43)] [] _ _
  refine mg_Ev.go 2 (pc' := 4) (loc' := [some (.ref 43)]) (st' := [.int (u 42 7)]) (w' := (hp u fL fD, c, z)) rfl ?_
  refine mg_Ev.br (P := (u 42 7) = 0) (t := 7) (nx := 15) (st' := []) rfl rfl rfl rfl (fun hc2906 => ?_) (fun hc2906 => ?_)
  · rw [if_pos hc2906] at h
    refine mg_Ev.go 3 (pc' := 12) (loc' := [some (.ref 43)]) (st' := [.ref 44, .ref 43]) (w' := (hp u fL fD, c, z)) rfl ?_
    obtain ⟨u796, hf2907, h⟩ := Option.bind_eq_some_iff.mp h
    refine mg_Ev.call (y := 62) (as := [.ref 43, .ref 44]) (rest := []) (v := none) (w1 := (hp u796 fL fD, c, z)) rfl rfl (Nat.le_of_ble_eq_true rfl) ((ev_M_remembersRow_43 hf2907).deep (by decide)) ?_
    cases h
    exact mg_Ev.fin rfl rfl rfl
  · rw [if_neg hc2906] at h
    cases h
    exact mg_Ev.fin rfl rfl rfl

def M_in (a0 : Int32) (a1 : Int32) (a2 : Int32) (u : mg_Rg) : Option (Int32) :=
  if a0 < a1 then
  some 0
  else
  if a2 < a0 then
    some 0
    else
    some 1

set_option maxRecDepth 10000 in
set_option maxHeartbeats 4000000 in
theorem ev_M_in {sc : mg_Sc} {c z : Nat} {fL : Nat → Int64} {fD : Nat → UInt64} {a0 : Int32} {a1 : Int32} {a2 : Int32} {u : mg_Rg} {v : Int32} (h : M_in a0 a1 a2 u = some v) : mg_Ev sc 0 58 0 (mg_entry 58 [.int a0, .int a1, .int a2]) [] (hp u fL fD, c, z) (.inl (some (.int v)), (hp u fL fD, c, z)) := by
  unfold M_in at h
  show mg_Ev _ _ _ 0 [some (.int a0), some (.int a1), some (.int a2)] [] _ _
  refine mg_Ev.go 2 (pc' := 2) (loc' := [some (.int a0), some (.int a1), some (.int a2)]) (st' := [.int a1, .int a0]) (w' := (hp u fL fD, c, z)) rfl ?_
  refine mg_Ev.br (P := a0 < a1) (t := 14) (nx := 5) (st' := []) rfl rfl rfl rfl (fun hc2908 => ?_) (fun hc2908 => ?_)
  · rw [if_pos hc2908] at h
    refine mg_Ev.go 1 (pc' := 15) (loc' := [some (.int a0), some (.int a1), some (.int a2)]) (st' := [.int 0]) (w' := (hp u fL fD, c, z)) rfl ?_
    cases h
    exact mg_Ev.fin rfl rfl rfl
  · rw [if_neg hc2908] at h
    refine mg_Ev.go 2 (pc' := 7) (loc' := [some (.int a0), some (.int a1), some (.int a2)]) (st' := [.int a2, .int a0]) (w' := (hp u fL fD, c, z)) rfl ?_
    refine mg_Ev.br (P := a2 < a0) (t := 14) (nx := 10) (st' := []) rfl rfl rfl rfl (fun hc2909 => ?_) (fun hc2909 => ?_)
    · rw [if_pos hc2909] at h
      refine mg_Ev.go 1 (pc' := 15) (loc' := [some (.int a0), some (.int a1), some (.int a2)]) (st' := [.int 0]) (w' := (hp u fL fD, c, z)) rfl ?_
      cases h
      exact mg_Ev.fin rfl rfl rfl
    · rw [if_neg hc2909] at h
      refine mg_Ev.go 2 (pc' := 15) (loc' := [some (.int a0), some (.int a1), some (.int a2)]) (st' := [.int 1]) (w' := (hp u fL fD, c, z)) rfl ?_
      cases h
      exact mg_Ev.fin rfl rfl rfl

def M_isHead (a0 : Int32) (u : mg_Rg) : Option (Int32) :=
  (M_in a0 0 ((u 43 1) - 1) u).bind fun v797 =>
  if v797 = 0 ∨ v797 = 1 then some v797 else none

set_option maxRecDepth 10000 in
set_option maxHeartbeats 4000000 in
theorem ev_M_isHead {sc : mg_Sc} {c z : Nat} {fL : Nat → Int64} {fD : Nat → UInt64} {a0 : Int32} {u : mg_Rg} {v : Int32} (h : M_isHead a0 u = some v) : mg_Ev sc 1 64 0 (mg_entry 64 [.ref 43, .int a0]) [] (hp u fL fD, c, z) (.inl (some (.int v)), (hp u fL fD, c, z)) := by
  unfold M_isHead at h
  show mg_Ev _ _ _ 0 [some (.ref 43), some (.int a0)] [] _ _
  refine mg_Ev.go 5 (pc' := 7) (loc' := [some (.ref 43), some (.int a0)]) (st' := [.int 1, .ref 44, .int 0, .int a0]) (w' := (hp u fL fD, c, z)) rfl ?_
  refine mg_Ev.iald (a := 43) (n := 690) (f := u 43) (j := 1) rfl (hpg_43 _ _ _) (by decide) (by decide) ?_
  refine mg_Ev.go 2 (pc' := 10) (loc' := [some (.ref 43), some (.int a0)]) (st' := [.int ((u 43 1) - 1), .int 0, .int a0]) (w' := (hp u fL fD, c, z)) rfl ?_
  obtain ⟨v797, hf2910, h⟩ := Option.bind_eq_some_iff.mp h
  refine mg_Ev.call (y := 58) (as := [.int a0, .int 0, .int ((u 43 1) - 1)]) (rest := []) (v := some (.int v797)) (w1 := (hp u fL fD, c, z)) rfl rfl (Nat.le_of_ble_eq_true rfl) ((ev_M_in hf2910).deep (by decide)) ?_
  by_cases hz2911 : v797 = 0 ∨ v797 = 1
  · rw [if_pos hz2911] at h
    cases h
    exact mg_Ev.zret rfl rfl rfl hz2911
  · rw [if_neg hz2911] at h
    cases h

def M_headAt (a0 : Int32) (a1 : Int32) (u : mg_Rg) : Option (Int32) :=
  if ((20 + (3 * a0)) + a1) < 0 ∨ 690 ≤ ((20 + (3 * a0)) + a1).toNatClampNeg then none else
  some (u 43 (((20 + (3 * a0)) + a1).toNatClampNeg))

set_option maxRecDepth 10000 in
set_option maxHeartbeats 4000000 in
theorem ev_M_headAt {sc : mg_Sc} {c z : Nat} {fL : Nat → Int64} {fD : Nat → UInt64} {a0 : Int32} {a1 : Int32} {u : mg_Rg} {v : Int32} (h : M_headAt a0 a1 u = some v) : mg_Ev sc 0 66 0 (mg_entry 66 [.ref 43, .int a0, .int a1]) [] (hp u fL fD, c, z) (.inl (some (.int v)), (hp u fL fD, c, z)) := by
  unfold M_headAt at h
  show mg_Ev _ _ _ 0 [some (.ref 43), some (.int a0), some (.int a1)] [] _ _
  refine mg_Ev.go 9 (pc' := 12) (loc' := [some (.ref 43), some (.int a0), some (.int a1)]) (st' := [.int ((20 + (3 * a0)) + a1), .ref 44]) (w' := (hp u fL fD, c, z)) rfl ?_
  by_cases hb2912 : ((20 + (3 * a0)) + a1) < 0 ∨ 690 ≤ ((20 + (3 * a0)) + a1).toNatClampNeg
  · rw [if_pos hb2912] at h
    cases h
  · rw [if_neg hb2912] at h
    refine mg_Ev.iald (a := 43) (n := 690) (f := u 43) rfl (hpg_43 _ _ _) rfl hb2912 ?_
    cases h
    exact mg_Ev.fin rfl rfl rfl

def M_quotaAt (a0 : Int32) (a1 : Int32) (u : mg_Rg) : Option (Int32) :=
  if ((138 + (9 * a0)) + a1) < 0 ∨ 690 ≤ ((138 + (9 * a0)) + a1).toNatClampNeg then none else
  some (u 43 (((138 + (9 * a0)) + a1).toNatClampNeg))

set_option maxRecDepth 10000 in
set_option maxHeartbeats 4000000 in
theorem ev_M_quotaAt {sc : mg_Sc} {c z : Nat} {fL : Nat → Int64} {fD : Nat → UInt64} {a0 : Int32} {a1 : Int32} {u : mg_Rg} {v : Int32} (h : M_quotaAt a0 a1 u = some v) : mg_Ev sc 0 67 0 (mg_entry 67 [.ref 43, .int a0, .int a1]) [] (hp u fL fD, c, z) (.inl (some (.int v)), (hp u fL fD, c, z)) := by
  unfold M_quotaAt at h
  show mg_Ev _ _ _ 0 [some (.ref 43), some (.int a0), some (.int a1)] [] _ _
  refine mg_Ev.go 9 (pc' := 14) (loc' := [some (.ref 43), some (.int a0), some (.int a1)]) (st' := [.int ((138 + (9 * a0)) + a1), .ref 44]) (w' := (hp u fL fD, c, z)) rfl ?_
  by_cases hb2913 : ((138 + (9 * a0)) + a1) < 0 ∨ 690 ≤ ((138 + (9 * a0)) + a1).toNatClampNeg
  · rw [if_pos hb2913] at h
    cases h
  · rw [if_neg hb2913] at h
    refine mg_Ev.iald (a := 43) (n := 690) (f := u 43) rfl (hpg_43 _ _ _) rfl hb2913 ?_
    cases h
    exact mg_Ev.fin rfl rfl rfl

def M_declAt (a0 : Int32) (a1 : Int32) (u : mg_Rg) : Option (Int32) :=
  if ((208 + (16 * a0)) + a1) < 0 ∨ 690 ≤ ((208 + (16 * a0)) + a1).toNatClampNeg then none else
  some (u 43 (((208 + (16 * a0)) + a1).toNatClampNeg))

set_option maxRecDepth 10000 in
set_option maxHeartbeats 4000000 in
theorem ev_M_declAt {sc : mg_Sc} {c z : Nat} {fL : Nat → Int64} {fD : Nat → UInt64} {a0 : Int32} {a1 : Int32} {u : mg_Rg} {v : Int32} (h : M_declAt a0 a1 u = some v) : mg_Ev sc 0 68 0 (mg_entry 68 [.ref 43, .int a0, .int a1]) [] (hp u fL fD, c, z) (.inl (some (.int v)), (hp u fL fD, c, z)) := by
  unfold M_declAt at h
  show mg_Ev _ _ _ 0 [some (.ref 43), some (.int a0), some (.int a1)] [] _ _
  refine mg_Ev.go 9 (pc' := 14) (loc' := [some (.ref 43), some (.int a0), some (.int a1)]) (st' := [.int ((208 + (16 * a0)) + a1), .ref 44]) (w' := (hp u fL fD, c, z)) rfl ?_
  by_cases hb2914 : ((208 + (16 * a0)) + a1) < 0 ∨ 690 ≤ ((208 + (16 * a0)) + a1).toNatClampNeg
  · rw [if_pos hb2914] at h
    cases h
  · rw [if_neg hb2914] at h
    refine mg_Ev.iald (a := 43) (n := 690) (f := u 43) rfl (hpg_43 _ _ _) rfl hb2914 ?_
    cases h
    exact mg_Ev.fin rfl rfl rfl

def M_lengthOf_L4 : Nat → Int32 → Int32 → mg_Rg → Option (Int32)
  | 0, _, _, _ => none
  | n + 1, x2, x3, u =>
    if x3 = (-1) then
    some (x2)
    else
    (M_headAt x3 0 u).bind fun v798 =>
      M_lengthOf_L4 n (x2 + 1) v798 u
set_option maxRecDepth 10000 in
set_option maxHeartbeats 4000000 in
theorem ev_M_lengthOf_L4 {sc : mg_Sc} {c z : Nat} {fL : Nat → Int64} {fD : Nat → UInt64} : ∀ (n : Nat) (x2 : Int32) (x3 : Int32) (u : mg_Rg) (res : Int32), M_lengthOf_L4 n x2 x3 u = some res → ∀ r, (match res with | y2 => mg_Ev sc 1 69 22 [none, none, some (.int y2), none] [] (hp u fL fD, c, z) r) → mg_Ev sc 1 69 4 [some (.ref 43), none, some (.int x2), some (.int x3)] [] (hp u fL fD, c, z) r := by
  intro n
  induction n with
  | zero => intro x2 x3 u res h; cases h
  | succ n ih =>
    intro x2 x3 u res h r K
    unfold M_lengthOf_L4 at h
    refine mg_Ev.go 2 (pc' := 6) (loc' := [some (.ref 43), none, some (.int x2), some (.int x3)]) (st' := [.int (-1), .int x3]) (w' := (hp u fL fD, c, z)) rfl ?_
    refine mg_Ev.br (P := x3 = (-1)) (t := 22) (nx := 9) (st' := []) rfl rfl rfl rfl (fun hc2915 => ?_) (fun hc2915 => ?_)
    · rw [if_pos hc2915] at h
      cases h
      exact mg_Ev.more (loc := [none, none, some (.int x2), none]) K ⟨rfl, trivial⟩
    · rw [if_neg hc2915] at h
      refine mg_Ev.go 4 (pc' := 15) (loc' := [some (.ref 43), none, some (.int (x2 + 1)), some (.int x3)]) (st' := [.int 0, .int x3, .ref 43]) (w' := (hp u fL fD, c, z)) rfl ?_
      obtain ⟨v798, hf2916, h⟩ := Option.bind_eq_some_iff.mp h
      refine mg_Ev.call (y := 66) (as := [.ref 43, .int x3, .int 0]) (rest := []) (v := some (.int v798)) (w1 := (hp u fL fD, c, z)) rfl rfl (Nat.le_of_ble_eq_true rfl) ((ev_M_headAt hf2916).deep (by decide)) ?_
      refine mg_Ev.go 2 (pc' := 4) (loc' := [some (.ref 43), none, some (.int (x2 + 1)), some (.int v798)]) (st' := []) (w' := (hp u fL fD, c, z)) rfl ?_
      exact mg_Ev.more (loc := [some (.ref 43), none, some (.int (x2 + 1)), some (.int v798)]) (ih _ _ _ _ h _ K) ⟨rfl, ⟨rfl, ⟨rfl, trivial⟩⟩⟩

def M_lengthOf (a0 : Int32) (u : mg_Rg) : Option (Int32) :=
  (M_lengthOf_L4 mg_F 0 a0 u).bind fun q2917 => match q2917 with
  | x799 =>
    some x799

set_option maxRecDepth 10000 in
set_option maxHeartbeats 4000000 in
theorem ev_M_lengthOf {sc : mg_Sc} {c z : Nat} {fL : Nat → Int64} {fD : Nat → UInt64} {a0 : Int32} {u : mg_Rg} {v : Int32} (h : M_lengthOf a0 u = some v) : mg_Ev sc 1 69 0 (mg_entry 69 [.ref 43, .int a0]) [] (hp u fL fD, c, z) (.inl (some (.int v)), (hp u fL fD, c, z)) := by
  unfold M_lengthOf at h
  show mg_Ev _ _ _ 0 [some (.ref 43), some (.int a0), none, none] [] _ _
  refine mg_Ev.go 4 (pc' := 4) (loc' := [some (.ref 43), some (.int a0), some (.int 0), some (.int a0)]) (st' := []) (w' := (hp u fL fD, c, z)) rfl ?_
  obtain ⟨x799, hl2918, h⟩ := Option.bind_eq_some_iff.mp h
  try dsimp only at h
  refine mg_Ev.more (loc := [some (.ref 43), none, some (.int 0), some (.int a0)]) (ev_M_lengthOf_L4 _ _ _ _ _ hl2918 _ ?_) ⟨rfl, ⟨rfl, ⟨rfl, trivial⟩⟩⟩
  show mg_Ev _ _ _ 22 [none, none, some (.int x799), none] [] (hp u fL fD, c, z) _
  refine mg_Ev.go 1 (pc' := 23) (loc' := [none, none, some (.int x799), none]) (st' := [.int x799]) (w' := (hp u fL fD, c, z)) rfl ?_
  cases h
  exact mg_Ev.fin rfl rfl rfl

def M_isUnder_L2 : Nat → Int32 → Int32 → mg_Rg → Option (Int32)
  | 0, _, _, _ => none
  | n + 1, x2, x3, u =>
    if x3 = (-1) then
    some (x3)
    else
    if x3 = x2 then
      some (x3)
      else
      (M_headAt x3 0 u).bind fun v800 =>
        M_isUnder_L2 n x2 v800 u
set_option maxRecDepth 10000 in
set_option maxHeartbeats 4000000 in
theorem ev_M_isUnder_L2 {sc : mg_Sc} {c z : Nat} {fL : Nat → Int64} {fD : Nat → UInt64} : ∀ (n : Nat) (x2 : Int32) (x3 : Int32) (u : mg_Rg) (res : Int32), M_isUnder_L2 n x2 x3 u = some res → ∀ r, (match res with | y3 => mg_Ev sc 1 70 22 [none, none, some (.int x2), some (.int y3)] [] (hp u fL fD, c, z) r) → mg_Ev sc 1 70 2 [some (.ref 43), none, some (.int x2), some (.int x3)] [] (hp u fL fD, c, z) r := by
  intro n
  induction n with
  | zero => intro x2 x3 u res h; cases h
  | succ n ih =>
    intro x2 x3 u res h r K
    unfold M_isUnder_L2 at h
    refine mg_Ev.go 2 (pc' := 4) (loc' := [some (.ref 43), none, some (.int x2), some (.int x3)]) (st' := [.int (-1), .int x3]) (w' := (hp u fL fD, c, z)) rfl ?_
    refine mg_Ev.br (P := x3 = (-1)) (t := 22) (nx := 7) (st' := []) rfl rfl rfl rfl (fun hc2919 => ?_) (fun hc2919 => ?_)
    · rw [if_pos hc2919] at h
      cases h
      exact mg_Ev.more (loc := [none, none, some (.int x2), some (.int x3)]) K ⟨rfl, ⟨rfl, trivial⟩⟩
    · rw [if_neg hc2919] at h
      refine mg_Ev.go 2 (pc' := 9) (loc' := [some (.ref 43), none, some (.int x2), some (.int x3)]) (st' := [.int x2, .int x3]) (w' := (hp u fL fD, c, z)) rfl ?_
      refine mg_Ev.br (P := x3 = x2) (t := 22) (nx := 12) (st' := []) rfl rfl rfl rfl (fun hc2920 => ?_) (fun hc2920 => ?_)
      · rw [if_pos hc2920] at h
        cases h
        exact mg_Ev.more (loc := [none, none, some (.int x2), some (.int x3)]) K ⟨rfl, ⟨rfl, trivial⟩⟩
      · rw [if_neg hc2920] at h
        refine mg_Ev.go 3 (pc' := 15) (loc' := [some (.ref 43), none, some (.int x2), some (.int x3)]) (st' := [.int 0, .int x3, .ref 43]) (w' := (hp u fL fD, c, z)) rfl ?_
        obtain ⟨v800, hf2921, h⟩ := Option.bind_eq_some_iff.mp h
        refine mg_Ev.call (y := 66) (as := [.ref 43, .int x3, .int 0]) (rest := []) (v := some (.int v800)) (w1 := (hp u fL fD, c, z)) rfl rfl (Nat.le_of_ble_eq_true rfl) ((ev_M_headAt hf2921).deep (by decide)) ?_
        refine mg_Ev.go 2 (pc' := 2) (loc' := [some (.ref 43), none, some (.int x2), some (.int v800)]) (st' := []) (w' := (hp u fL fD, c, z)) rfl ?_
        exact mg_Ev.more (loc := [some (.ref 43), none, some (.int x2), some (.int v800)]) (ih _ _ _ _ h _ K) ⟨rfl, ⟨rfl, ⟨rfl, trivial⟩⟩⟩

def M_isUnder (a0 : Int32) (a1 : Int32) (u : mg_Rg) : Option (Int32) :=
  (M_isUnder_L2 mg_F a1 a0 u).bind fun q2922 => match q2922 with
  | x801 =>
    if x801 = a1 then
    some 1
    else
    some 0

set_option maxRecDepth 10000 in
set_option maxHeartbeats 4000000 in
theorem ev_M_isUnder {sc : mg_Sc} {c z : Nat} {fL : Nat → Int64} {fD : Nat → UInt64} {a0 : Int32} {a1 : Int32} {u : mg_Rg} {v : Int32} (h : M_isUnder a0 a1 u = some v) : mg_Ev sc 1 70 0 (mg_entry 70 [.ref 43, .int a0, .int a1]) [] (hp u fL fD, c, z) (.inl (some (.int v)), (hp u fL fD, c, z)) := by
  unfold M_isUnder at h
  show mg_Ev _ _ _ 0 [some (.ref 43), some (.int a0), some (.int a1), none] [] _ _
  refine mg_Ev.go 2 (pc' := 2) (loc' := [some (.ref 43), some (.int a0), some (.int a1), some (.int a0)]) (st' := []) (w' := (hp u fL fD, c, z)) rfl ?_
  obtain ⟨x801, hl2923, h⟩ := Option.bind_eq_some_iff.mp h
  try dsimp only at h
  refine mg_Ev.more (loc := [some (.ref 43), none, some (.int a1), some (.int a0)]) (ev_M_isUnder_L2 _ _ _ _ _ hl2923 _ ?_) ⟨rfl, ⟨rfl, ⟨rfl, trivial⟩⟩⟩
  show mg_Ev _ _ _ 22 [none, none, some (.int a1), some (.int x801)] [] (hp u fL fD, c, z) _
  refine mg_Ev.go 2 (pc' := 24) (loc' := [none, none, some (.int a1), some (.int x801)]) (st' := [.int a1, .int x801]) (w' := (hp u fL fD, c, z)) rfl ?_
  refine mg_Ev.br (P := x801 = a1) (t := 27) (nx := 31) (st' := []) rfl rfl rfl rfl (fun hc2924 => ?_) (fun hc2924 => ?_)
  · rw [if_pos hc2924] at h
    refine mg_Ev.go 2 (pc' := 32) (loc' := [none, none, some (.int a1), some (.int x801)]) (st' := [.int 1]) (w' := (hp u fL fD, c, z)) rfl ?_
    cases h
    exact mg_Ev.fin rfl rfl rfl
  · rw [if_neg hc2924] at h
    refine mg_Ev.go 1 (pc' := 32) (loc' := [none, none, some (.int a1), some (.int x801)]) (st' := [.int 0]) (w' := (hp u fL fD, c, z)) rfl ?_
    cases h
    exact mg_Ev.fin rfl rfl rfl

def M_rateAt_L2 : Nat → Int32 → mg_Rg → Option (Int32)
  | 0, _, _ => none
  | n + 1, x2, u =>
    if x2 = (-1) then
    some (x2)
    else
    (M_headAt x2 2 u).bind fun v802 =>
      if v802 = (-1) then
      (M_headAt x2 0 u).bind fun v803 =>
        M_rateAt_L2 n v803 u
      else
      some (x2)
set_option maxRecDepth 10000 in
set_option maxHeartbeats 4000000 in
theorem ev_M_rateAt_L2 {sc : mg_Sc} {c z : Nat} {fL : Nat → Int64} {fD : Nat → UInt64} : ∀ (n : Nat) (x2 : Int32) (u : mg_Rg) (res : Int32), M_rateAt_L2 n x2 u = some res → ∀ r, (match res with | y2 => mg_Ev sc 1 71 27 [some (.ref 43), none, some (.int y2)] [] (hp u fL fD, c, z) r) → mg_Ev sc 1 71 2 [some (.ref 43), none, some (.int x2)] [] (hp u fL fD, c, z) r := by
  intro n
  induction n with
  | zero => intro x2 u res h; cases h
  | succ n ih =>
    intro x2 u res h r K
    unfold M_rateAt_L2 at h
    refine mg_Ev.go 2 (pc' := 4) (loc' := [some (.ref 43), none, some (.int x2)]) (st' := [.int (-1), .int x2]) (w' := (hp u fL fD, c, z)) rfl ?_
    refine mg_Ev.br (P := x2 = (-1)) (t := 27) (nx := 7) (st' := []) rfl rfl rfl rfl (fun hc2925 => ?_) (fun hc2925 => ?_)
    · rw [if_pos hc2925] at h
      cases h
      exact mg_Ev.more (loc := [some (.ref 43), none, some (.int x2)]) K ⟨rfl, ⟨rfl, trivial⟩⟩
    · rw [if_neg hc2925] at h
      refine mg_Ev.go 3 (pc' := 10) (loc' := [some (.ref 43), none, some (.int x2)]) (st' := [.int 2, .int x2, .ref 43]) (w' := (hp u fL fD, c, z)) rfl ?_
      obtain ⟨v802, hf2926, h⟩ := Option.bind_eq_some_iff.mp h
      refine mg_Ev.call (y := 66) (as := [.ref 43, .int x2, .int 2]) (rest := []) (v := some (.int v802)) (w1 := (hp u fL fD, c, z)) rfl rfl (Nat.le_of_ble_eq_true rfl) ((ev_M_headAt hf2926).deep (by decide)) ?_
      refine mg_Ev.go 1 (pc' := 14) (loc' := [some (.ref 43), none, some (.int x2)]) (st' := [.int (-1), .int v802]) (w' := (hp u fL fD, c, z)) rfl ?_
      refine mg_Ev.br (P := v802 = (-1)) (t := 17) (nx := 27) (st' := []) rfl rfl rfl rfl (fun hc2927 => ?_) (fun hc2927 => ?_)
      · rw [if_pos hc2927] at h
        refine mg_Ev.go 3 (pc' := 20) (loc' := [some (.ref 43), none, some (.int x2)]) (st' := [.int 0, .int x2, .ref 43]) (w' := (hp u fL fD, c, z)) rfl ?_
        obtain ⟨v803, hf2928, h⟩ := Option.bind_eq_some_iff.mp h
        refine mg_Ev.call (y := 66) (as := [.ref 43, .int x2, .int 0]) (rest := []) (v := some (.int v803)) (w1 := (hp u fL fD, c, z)) rfl rfl (Nat.le_of_ble_eq_true rfl) ((ev_M_headAt hf2928).deep (by decide)) ?_
        refine mg_Ev.go 2 (pc' := 2) (loc' := [some (.ref 43), none, some (.int v803)]) (st' := []) (w' := (hp u fL fD, c, z)) rfl ?_
        exact mg_Ev.more (loc := [some (.ref 43), none, some (.int v803)]) (ih _ _ _ h _ K) ⟨rfl, ⟨rfl, trivial⟩⟩
      · rw [if_neg hc2927] at h
        cases h
        exact mg_Ev.more (loc := [some (.ref 43), none, some (.int x2)]) K ⟨rfl, ⟨rfl, trivial⟩⟩

def M_rateAt (a0 : Int32) (u : mg_Rg) : Option (Int32) :=
  (M_rateAt_L2 mg_F a0 u).bind fun q2929 => match q2929 with
  | x804 =>
    if x804 = (-1) then
    some 0
    else
    (M_headAt x804 2 u).bind fun v805 =>
      some v805

set_option maxRecDepth 10000 in
set_option maxHeartbeats 4000000 in
theorem ev_M_rateAt {sc : mg_Sc} {c z : Nat} {fL : Nat → Int64} {fD : Nat → UInt64} {a0 : Int32} {u : mg_Rg} {v : Int32} (h : M_rateAt a0 u = some v) : mg_Ev sc 1 71 0 (mg_entry 71 [.ref 43, .int a0]) [] (hp u fL fD, c, z) (.inl (some (.int v)), (hp u fL fD, c, z)) := by
  unfold M_rateAt at h
  show mg_Ev _ _ _ 0 [some (.ref 43), some (.int a0), none] [] _ _
  refine mg_Ev.go 2 (pc' := 2) (loc' := [some (.ref 43), some (.int a0), some (.int a0)]) (st' := []) (w' := (hp u fL fD, c, z)) rfl ?_
  obtain ⟨x804, hl2930, h⟩ := Option.bind_eq_some_iff.mp h
  try dsimp only at h
  refine mg_Ev.more (loc := [some (.ref 43), none, some (.int a0)]) (ev_M_rateAt_L2 _ _ _ _ hl2930 _ ?_) ⟨rfl, ⟨rfl, trivial⟩⟩
  show mg_Ev _ _ _ 27 [some (.ref 43), none, some (.int x804)] [] (hp u fL fD, c, z) _
  refine mg_Ev.go 2 (pc' := 29) (loc' := [some (.ref 43), none, some (.int x804)]) (st' := [.int (-1), .int x804]) (w' := (hp u fL fD, c, z)) rfl ?_
  refine mg_Ev.br (P := x804 = (-1)) (t := 32) (nx := 36) (st' := []) rfl rfl rfl rfl (fun hc2931 => ?_) (fun hc2931 => ?_)
  · rw [if_pos hc2931] at h
    refine mg_Ev.go 2 (pc' := 42) (loc' := [some (.ref 43), none, some (.int x804)]) (st' := [.int 0]) (w' := (hp u fL fD, c, z)) rfl ?_
    cases h
    exact mg_Ev.fin rfl rfl rfl
  · rw [if_neg hc2931] at h
    refine mg_Ev.go 3 (pc' := 39) (loc' := [some (.ref 43), none, some (.int x804)]) (st' := [.int 2, .int x804, .ref 43]) (w' := (hp u fL fD, c, z)) rfl ?_
    obtain ⟨v805, hf2932, h⟩ := Option.bind_eq_some_iff.mp h
    refine mg_Ev.call (y := 66) (as := [.ref 43, .int x804, .int 2]) (rest := []) (v := some (.int v805)) (w1 := (hp u fL fD, c, z)) rfl rfl (Nat.le_of_ble_eq_true rfl) ((ev_M_headAt hf2932).deep (by decide)) ?_
    cases h
    exact mg_Ev.fin rfl rfl rfl

def M_children_L4 : Nat → Int32 → Int32 → Int32 → mg_Rg → Option (Int32)
  | 0, _, _, _, _ => none
  | n + 1, x1, x2, x3, u =>
    if (u 43 1) ≤ x3 then
    some (x2)
    else
    (M_headAt x3 0 u).bind fun v806 =>
      if v806 = x1 then
      M_children_L4 n x1 (x2 + 1) (x3 + 1) u
      else
      M_children_L4 n x1 (x2 + 0) (x3 + 1) u
set_option maxRecDepth 10000 in
set_option maxHeartbeats 4000000 in
theorem ev_M_children_L4 {sc : mg_Sc} {c z : Nat} {fL : Nat → Int64} {fD : Nat → UInt64} : ∀ (n : Nat) (x1 : Int32) (x2 : Int32) (x3 : Int32) (u : mg_Rg) (res : Int32), M_children_L4 n x1 x2 x3 u = some res → ∀ r, (match res with | y2 => mg_Ev sc 1 72 38 [none, none, some (.int y2), none] [] (hp u fL fD, c, z) r) → mg_Ev sc 1 72 4 [some (.ref 43), some (.int x1), some (.int x2), some (.int x3)] [] (hp u fL fD, c, z) r := by
  intro n
  induction n with
  | zero => intro x1 x2 x3 u res h; cases h
  | succ n ih =>
    intro x1 x2 x3 u res h r K
    unfold M_children_L4 at h
    refine mg_Ev.go 4 (pc' := 10) (loc' := [some (.ref 43), some (.int x1), some (.int x2), some (.int x3)]) (st' := [.int 1, .ref 44, .int x3]) (w' := (hp u fL fD, c, z)) rfl ?_
    refine mg_Ev.iald (a := 43) (n := 690) (f := u 43) (j := 1) rfl (hpg_43 _ _ _) (by decide) (by decide) ?_
    refine mg_Ev.br (P := (u 43 1) ≤ x3) (t := 38) (nx := 14) (st' := []) rfl rfl rfl rfl (fun hc2933 => ?_) (fun hc2933 => ?_)
    · rw [if_pos hc2933] at h
      cases h
      exact mg_Ev.more (loc := [none, none, some (.int x2), none]) K ⟨rfl, trivial⟩
    · rw [if_neg hc2933] at h
      refine mg_Ev.go 4 (pc' := 18) (loc' := [some (.ref 43), some (.int x1), some (.int x2), some (.int x3)]) (st' := [.int 0, .int x3, .ref 43, .int x2]) (w' := (hp u fL fD, c, z)) rfl ?_
      obtain ⟨v806, hf2934, h⟩ := Option.bind_eq_some_iff.mp h
      refine mg_Ev.call (y := 66) (as := [.ref 43, .int x3, .int 0]) (rest := [.int x2]) (v := some (.int v806)) (w1 := (hp u fL fD, c, z)) rfl rfl (Nat.le_of_ble_eq_true rfl) ((ev_M_headAt hf2934).deep (by decide)) ?_
      refine mg_Ev.go 1 (pc' := 22) (loc' := [some (.ref 43), some (.int x1), some (.int x2), some (.int x3)]) (st' := [.int x1, .int v806, .int x2]) (w' := (hp u fL fD, c, z)) rfl ?_
      refine mg_Ev.br (P := v806 = x1) (t := 25) (nx := 29) (st' := [.int x2]) rfl rfl rfl rfl (fun hc2935 => ?_) (fun hc2935 => ?_)
      · rw [if_pos hc2935] at h
        refine mg_Ev.go 6 (pc' := 4) (loc' := [some (.ref 43), some (.int x1), some (.int (x2 + 1)), some (.int (x3 + 1))]) (st' := []) (w' := (hp u fL fD, c, z)) rfl ?_
        exact mg_Ev.more (loc := [some (.ref 43), some (.int x1), some (.int (x2 + 1)), some (.int (x3 + 1))]) (ih _ _ _ _ _ h _ K) ⟨rfl, ⟨rfl, ⟨rfl, ⟨rfl, trivial⟩⟩⟩⟩
      · rw [if_neg hc2935] at h
        refine mg_Ev.go 5 (pc' := 4) (loc' := [some (.ref 43), some (.int x1), some (.int (x2 + 0)), some (.int (x3 + 1))]) (st' := []) (w' := (hp u fL fD, c, z)) rfl ?_
        exact mg_Ev.more (loc := [some (.ref 43), some (.int x1), some (.int (x2 + 0)), some (.int (x3 + 1))]) (ih _ _ _ _ _ h _ K) ⟨rfl, ⟨rfl, ⟨rfl, ⟨rfl, trivial⟩⟩⟩⟩

def M_children (a0 : Int32) (u : mg_Rg) : Option (Int32) :=
  (M_children_L4 mg_F a0 0 0 u).bind fun q2936 => match q2936 with
  | x807 =>
    some x807

set_option maxRecDepth 10000 in
set_option maxHeartbeats 4000000 in
theorem ev_M_children {sc : mg_Sc} {c z : Nat} {fL : Nat → Int64} {fD : Nat → UInt64} {a0 : Int32} {u : mg_Rg} {v : Int32} (h : M_children a0 u = some v) : mg_Ev sc 1 72 0 (mg_entry 72 [.ref 43, .int a0]) [] (hp u fL fD, c, z) (.inl (some (.int v)), (hp u fL fD, c, z)) := by
  unfold M_children at h
  show mg_Ev _ _ _ 0 [some (.ref 43), some (.int a0), none, none] [] _ _
  refine mg_Ev.go 4 (pc' := 4) (loc' := [some (.ref 43), some (.int a0), some (.int 0), some (.int 0)]) (st' := []) (w' := (hp u fL fD, c, z)) rfl ?_
  obtain ⟨x807, hl2937, h⟩ := Option.bind_eq_some_iff.mp h
  try dsimp only at h
  refine mg_Ev.more (loc := [some (.ref 43), some (.int a0), some (.int 0), some (.int 0)]) (ev_M_children_L4 _ _ _ _ _ _ hl2937 _ ?_) ⟨rfl, ⟨rfl, ⟨rfl, ⟨rfl, trivial⟩⟩⟩⟩
  show mg_Ev _ _ _ 38 [none, none, some (.int x807), none] [] (hp u fL fD, c, z) _
  refine mg_Ev.go 1 (pc' := 39) (loc' := [none, none, some (.int x807), none]) (st' := [.int x807]) (w' := (hp u fL fD, c, z)) rfl ?_
  cases h
  exact mg_Ev.fin rfl rfl rfl

def M_codeOf_L7 : Nat → Int32 → Int32 → Int32 → mg_Rg → Option (Int32)
  | 0, _, _, _, _ => none
  | n + 1, x2, x3, x4, u =>
    if x4 = (-1) then
    some (x2)
    else
    (M_headAt x4 1 u).bind fun v808 =>
      (M_headAt x4 0 u).bind fun v809 =>
      M_codeOf_L7 n (x2 + (x3 * v808)) (x3 * 10) v809 u
set_option maxRecDepth 10000 in
set_option maxHeartbeats 4000000 in
theorem ev_M_codeOf_L7 {sc : mg_Sc} {c z : Nat} {fL : Nat → Int64} {fD : Nat → UInt64} : ∀ (n : Nat) (x2 : Int32) (x3 : Int32) (x4 : Int32) (u : mg_Rg) (res : Int32), M_codeOf_L7 n x2 x3 x4 u = some res → ∀ r, (match res with | y2 => mg_Ev sc 1 73 42 [none, none, some (.int y2), none, none] [] (hp u fL fD, c, z) r) → mg_Ev sc 1 73 7 [some (.ref 43), none, some (.int x2), some (.int x3), some (.int x4)] [] (hp u fL fD, c, z) r := by
  intro n
  induction n with
  | zero => intro x2 x3 x4 u res h; cases h
  | succ n ih =>
    intro x2 x3 x4 u res h r K
    unfold M_codeOf_L7 at h
    refine mg_Ev.go 2 (pc' := 10) (loc' := [some (.ref 43), none, some (.int x2), some (.int x3), some (.int x4)]) (st' := [.int (-1), .int x4]) (w' := (hp u fL fD, c, z)) rfl ?_
    refine mg_Ev.br (P := x4 = (-1)) (t := 42) (nx := 13) (st' := []) rfl rfl rfl rfl (fun hc2938 => ?_) (fun hc2938 => ?_)
    · rw [if_pos hc2938] at h
      cases h
      exact mg_Ev.more (loc := [none, none, some (.int x2), none, none]) K ⟨rfl, trivial⟩
    · rw [if_neg hc2938] at h
      refine mg_Ev.go 5 (pc' := 19) (loc' := [some (.ref 43), none, some (.int x2), some (.int x3), some (.int x4)]) (st' := [.int 1, .int x4, .ref 43, .int x3, .int x2]) (w' := (hp u fL fD, c, z)) rfl ?_
      obtain ⟨v808, hf2939, h⟩ := Option.bind_eq_some_iff.mp h
      refine mg_Ev.call (y := 66) (as := [.ref 43, .int x4, .int 1]) (rest := [.int x3, .int x2]) (v := some (.int v808)) (w1 := (hp u fL fD, c, z)) rfl rfl (Nat.le_of_ble_eq_true rfl) ((ev_M_headAt hf2939).deep (by decide)) ?_
      refine mg_Ev.go 10 (pc' := 34) (loc' := [some (.ref 43), none, some (.int (x2 + (x3 * v808))), some (.int (x3 * 10)), some (.int x4)]) (st' := [.int 0, .int x4, .ref 43]) (w' := (hp u fL fD, c, z)) rfl ?_
      obtain ⟨v809, hf2940, h⟩ := Option.bind_eq_some_iff.mp h
      refine mg_Ev.call (y := 66) (as := [.ref 43, .int x4, .int 0]) (rest := []) (v := some (.int v809)) (w1 := (hp u fL fD, c, z)) rfl rfl (Nat.le_of_ble_eq_true rfl) ((ev_M_headAt hf2940).deep (by decide)) ?_
      refine mg_Ev.go 2 (pc' := 7) (loc' := [some (.ref 43), none, some (.int (x2 + (x3 * v808))), some (.int (x3 * 10)), some (.int v809)]) (st' := []) (w' := (hp u fL fD, c, z)) rfl ?_
      exact mg_Ev.more (loc := [some (.ref 43), none, some (.int (x2 + (x3 * v808))), some (.int (x3 * 10)), some (.int v809)]) (ih _ _ _ _ _ h _ K) ⟨rfl, ⟨rfl, ⟨rfl, ⟨rfl, trivial⟩⟩⟩⟩

def M_codeOf (a0 : Int32) (u : mg_Rg) : Option (Int32) :=
  (M_codeOf_L7 mg_F 0 1 a0 u).bind fun q2941 => match q2941 with
  | x810 =>
    some x810

set_option maxRecDepth 10000 in
set_option maxHeartbeats 4000000 in
theorem ev_M_codeOf {sc : mg_Sc} {c z : Nat} {fL : Nat → Int64} {fD : Nat → UInt64} {a0 : Int32} {u : mg_Rg} {v : Int32} (h : M_codeOf a0 u = some v) : mg_Ev sc 1 73 0 (mg_entry 73 [.ref 43, .int a0]) [] (hp u fL fD, c, z) (.inl (some (.int v)), (hp u fL fD, c, z)) := by
  unfold M_codeOf at h
  show mg_Ev _ _ _ 0 [some (.ref 43), some (.int a0), none, none, none] [] _ _
  refine mg_Ev.go 6 (pc' := 7) (loc' := [some (.ref 43), some (.int a0), some (.int 0), some (.int 1), some (.int a0)]) (st' := []) (w' := (hp u fL fD, c, z)) rfl ?_
  obtain ⟨x810, hl2942, h⟩ := Option.bind_eq_some_iff.mp h
  try dsimp only at h
  refine mg_Ev.more (loc := [some (.ref 43), none, some (.int 0), some (.int 1), some (.int a0)]) (ev_M_codeOf_L7 _ _ _ _ _ _ hl2942 _ ?_) ⟨rfl, ⟨rfl, ⟨rfl, ⟨rfl, trivial⟩⟩⟩⟩
  show mg_Ev _ _ _ 42 [none, none, some (.int x810), none, none] [] (hp u fL fD, c, z) _
  refine mg_Ev.go 1 (pc' := 43) (loc' := [none, none, some (.int x810), none, none]) (st' := [.int x810]) (w' := (hp u fL fD, c, z)) rfl ?_
  cases h
  exact mg_Ev.fin rfl rfl rfl

def M_coded_L2 : Nat → Int32 → Int32 → mg_Rg → Option ((Unit) ⊕ (Int32))
  | 0, _, _, _ => none
  | n + 1, x1, x2, u =>
    if (u 43 1) ≤ x2 then
    some (.inl ())
    else
    (M_codeOf x2 u).bind fun v811 =>
      if v811 = x1 then
      some (.inr x2)
      else
      M_coded_L2 n x1 (x2 + 1) u
set_option maxRecDepth 10000 in
set_option maxHeartbeats 4000000 in
theorem ev_M_coded_L2 {sc : mg_Sc} {c z : Nat} {fL : Nat → Int64} {fD : Nat → UInt64} : ∀ (n : Nat) (x1 : Int32) (x2 : Int32) (u : mg_Rg) (res : (Unit) ⊕ (Int32)), M_coded_L2 n x1 x2 u = some res → ∀ r, (match res with | .inl _ => mg_Ev sc 2 74 29 [none, none, none] [] (hp u fL fD, c, z) r | .inr rv => r = (.inl (some (.int rv)), (hp u fL fD, c, z))) → mg_Ev sc 2 74 2 [some (.ref 43), some (.int x1), some (.int x2)] [] (hp u fL fD, c, z) r := by
  intro n
  induction n with
  | zero => intro x1 x2 u res h; cases h
  | succ n ih =>
    intro x1 x2 u res h r K
    unfold M_coded_L2 at h
    refine mg_Ev.go 4 (pc' := 8) (loc' := [some (.ref 43), some (.int x1), some (.int x2)]) (st' := [.int 1, .ref 44, .int x2]) (w' := (hp u fL fD, c, z)) rfl ?_
    refine mg_Ev.iald (a := 43) (n := 690) (f := u 43) (j := 1) rfl (hpg_43 _ _ _) (by decide) (by decide) ?_
    refine mg_Ev.br (P := (u 43 1) ≤ x2) (t := 29) (nx := 12) (st' := []) rfl rfl rfl rfl (fun hc2943 => ?_) (fun hc2943 => ?_)
    · rw [if_pos hc2943] at h
      cases h
      exact mg_Ev.more (loc := [none, none, none]) K trivial
    · rw [if_neg hc2943] at h
      refine mg_Ev.go 2 (pc' := 14) (loc' := [some (.ref 43), some (.int x1), some (.int x2)]) (st' := [.int x2, .ref 43]) (w' := (hp u fL fD, c, z)) rfl ?_
      obtain ⟨v811, hf2944, h⟩ := Option.bind_eq_some_iff.mp h
      refine mg_Ev.call (y := 73) (as := [.ref 43, .int x2]) (rest := []) (v := some (.int v811)) (w1 := (hp u fL fD, c, z)) rfl rfl (Nat.le_of_ble_eq_true rfl) ((ev_M_codeOf hf2944).deep (by decide)) ?_
      refine mg_Ev.go 1 (pc' := 18) (loc' := [some (.ref 43), some (.int x1), some (.int x2)]) (st' := [.int x1, .int v811]) (w' := (hp u fL fD, c, z)) rfl ?_
      refine mg_Ev.br (P := v811 = x1) (t := 21) (nx := 23) (st' := []) rfl rfl rfl rfl (fun hc2945 => ?_) (fun hc2945 => ?_)
      · rw [if_pos hc2945] at h
        refine mg_Ev.go 1 (pc' := 22) (loc' := [some (.ref 43), some (.int x1), some (.int x2)]) (st' := [.int x2]) (w' := (hp u fL fD, c, z)) rfl ?_
        cases h
        cases K
        exact mg_Ev.fin rfl rfl rfl
      · rw [if_neg hc2945] at h
        refine mg_Ev.go 2 (pc' := 2) (loc' := [some (.ref 43), some (.int x1), some (.int (x2 + 1))]) (st' := []) (w' := (hp u fL fD, c, z)) rfl ?_
        exact mg_Ev.more (loc := [some (.ref 43), some (.int x1), some (.int (x2 + 1))]) (ih _ _ _ _ h _ K) ⟨rfl, ⟨rfl, ⟨rfl, trivial⟩⟩⟩

def M_coded (a0 : Int32) (u : mg_Rg) : Option (Int32) :=
  (M_coded_L2 mg_F a0 0 u).bind fun q2946 => match q2946 with
  | .inl _ =>
    some (-1)
  | .inr v812 =>
    some v812

set_option maxRecDepth 10000 in
set_option maxHeartbeats 4000000 in
theorem ev_M_coded {sc : mg_Sc} {c z : Nat} {fL : Nat → Int64} {fD : Nat → UInt64} {a0 : Int32} {u : mg_Rg} {v : Int32} (h : M_coded a0 u = some v) : mg_Ev sc 2 74 0 (mg_entry 74 [.ref 43, .int a0]) [] (hp u fL fD, c, z) (.inl (some (.int v)), (hp u fL fD, c, z)) := by
  unfold M_coded at h
  show mg_Ev _ _ _ 0 [some (.ref 43), some (.int a0), none] [] _ _
  refine mg_Ev.go 2 (pc' := 2) (loc' := [some (.ref 43), some (.int a0), some (.int 0)]) (st' := []) (w' := (hp u fL fD, c, z)) rfl ?_
  obtain ⟨(⟨⟩ | v812), hl2947, h⟩ := Option.bind_eq_some_iff.mp h
  · try dsimp only at h
    refine mg_Ev.more (loc := [some (.ref 43), some (.int a0), some (.int 0)]) (ev_M_coded_L2 _ _ _ _ _ hl2947 _ ?_) ⟨rfl, ⟨rfl, ⟨rfl, trivial⟩⟩⟩
    show mg_Ev _ _ _ 29 [none, none, none] [] (hp u fL fD, c, z) _
    refine mg_Ev.go 1 (pc' := 30) (loc' := [none, none, none]) (st' := [.int (-1)]) (w' := (hp u fL fD, c, z)) rfl ?_
    cases h
    exact mg_Ev.fin rfl rfl rfl
  · try dsimp only at h
    cases h
    refine mg_Ev.more (loc := [some (.ref 43), some (.int a0), some (.int 0)]) (ev_M_coded_L2 _ _ _ _ _ hl2947 _ ?_) ⟨rfl, ⟨rfl, ⟨rfl, trivial⟩⟩⟩
    rfl

def M_heading_L30 : Nat → Int32 → Int32 → Int32 → Int32 → mg_Rg → Option (Int32 × mg_Rg)
  | 0, _, _, _, _, _ => none
  | n + 1, x1, x2, x3, x4, u =>
    if (u 43 1) ≤ x4 then
    some ((x3, u))
    else
    (M_headAt x4 0 u).bind fun v815 =>
      if v815 = x1 then
      (M_headAt x4 1 u).bind fun v816 =>
        if v816 = x2 then
        M_heading_L30 n x1 x2 (x3 &&& 0) (x4 + 1) u
        else
        M_heading_L30 n x1 x2 (x3 &&& 1) (x4 + 1) u
      else
      M_heading_L30 n x1 x2 (x3 &&& 1) (x4 + 1) u
set_option maxRecDepth 10000 in
set_option maxHeartbeats 4000000 in
theorem ev_M_heading_L30 {sc : mg_Sc} {c z : Nat} {fL : Nat → Int64} {fD : Nat → UInt64} : ∀ (n : Nat) (x1 : Int32) (x2 : Int32) (x3 : Int32) (x4 : Int32) (u : mg_Rg) (res : Int32 × mg_Rg), M_heading_L30 n x1 x2 x3 x4 u = some res → ∀ r, (match res with | (y3, yu) => mg_Ev sc 3 75 77 [some (.ref 43), some (.int x1), some (.int x2), some (.int y3), none] [] (hp yu fL fD, c, z) r) → mg_Ev sc 3 75 30 [some (.ref 43), some (.int x1), some (.int x2), some (.int x3), some (.int x4)] [] (hp u fL fD, c, z) r := by
  intro n
  induction n with
  | zero => intro x1 x2 x3 x4 u res h; cases h
  | succ n ih =>
    intro x1 x2 x3 x4 u res h r K
    unfold M_heading_L30 at h
    refine mg_Ev.go 4 (pc' := 37) (loc' := [some (.ref 43), some (.int x1), some (.int x2), some (.int x3), some (.int x4)]) (st' := [.int 1, .ref 44, .int x4]) (w' := (hp u fL fD, c, z)) rfl ?_
    refine mg_Ev.iald (a := 43) (n := 690) (f := u 43) (j := 1) rfl (hpg_43 _ _ _) (by decide) (by decide) ?_
    refine mg_Ev.br (P := (u 43 1) ≤ x4) (t := 77) (nx := 41) (st' := []) rfl rfl rfl rfl (fun hc2948 => ?_) (fun hc2948 => ?_)
    · rw [if_pos hc2948] at h
      cases h
      exact mg_Ev.more (loc := [some (.ref 43), some (.int x1), some (.int x2), some (.int x3), none]) K ⟨rfl, ⟨rfl, ⟨rfl, ⟨rfl, trivial⟩⟩⟩⟩
    · rw [if_neg hc2948] at h
      refine mg_Ev.go 4 (pc' := 46) (loc' := [some (.ref 43), some (.int x1), some (.int x2), some (.int x3), some (.int x4)]) (st' := [.int 0, .int x4, .ref 43, .int x3]) (w' := (hp u fL fD, c, z)) rfl ?_
      obtain ⟨v815, hf2949, h⟩ := Option.bind_eq_some_iff.mp h
      refine mg_Ev.call (y := 66) (as := [.ref 43, .int x4, .int 0]) (rest := [.int x3]) (v := some (.int v815)) (w1 := (hp u fL fD, c, z)) rfl rfl (Nat.le_of_ble_eq_true rfl) ((ev_M_headAt hf2949).deep (by decide)) ?_
      refine mg_Ev.go 1 (pc' := 50) (loc' := [some (.ref 43), some (.int x1), some (.int x2), some (.int x3), some (.int x4)]) (st' := [.int x1, .int v815, .int x3]) (w' := (hp u fL fD, c, z)) rfl ?_
      refine mg_Ev.br (P := v815 = x1) (t := 53) (nx := 64) (st' := [.int x3]) rfl rfl rfl rfl (fun hc2950 => ?_) (fun hc2950 => ?_)
      · rw [if_pos hc2950] at h
        refine mg_Ev.go 3 (pc' := 57) (loc' := [some (.ref 43), some (.int x1), some (.int x2), some (.int x3), some (.int x4)]) (st' := [.int 1, .int x4, .ref 43, .int x3]) (w' := (hp u fL fD, c, z)) rfl ?_
        obtain ⟨v816, hf2951, h⟩ := Option.bind_eq_some_iff.mp h
        refine mg_Ev.call (y := 66) (as := [.ref 43, .int x4, .int 1]) (rest := [.int x3]) (v := some (.int v816)) (w1 := (hp u fL fD, c, z)) rfl rfl (Nat.le_of_ble_eq_true rfl) ((ev_M_headAt hf2951).deep (by decide)) ?_
        refine mg_Ev.go 1 (pc' := 61) (loc' := [some (.ref 43), some (.int x1), some (.int x2), some (.int x3), some (.int x4)]) (st' := [.int x2, .int v816, .int x3]) (w' := (hp u fL fD, c, z)) rfl ?_
        refine mg_Ev.br (P := v816 = x2) (t := 68) (nx := 64) (st' := [.int x3]) rfl rfl rfl rfl (fun hc2952 => ?_) (fun hc2952 => ?_)
        · rw [if_pos hc2952] at h
          refine mg_Ev.go 5 (pc' := 30) (loc' := [some (.ref 43), some (.int x1), some (.int x2), some (.int (x3 &&& 0)), some (.int (x4 + 1))]) (st' := []) (w' := (hp u fL fD, c, z)) rfl ?_
          exact mg_Ev.more (loc := [some (.ref 43), some (.int x1), some (.int x2), some (.int (x3 &&& 0)), some (.int (x4 + 1))]) (ih _ _ _ _ _ _ h _ K) ⟨rfl, ⟨rfl, ⟨rfl, ⟨rfl, ⟨rfl, trivial⟩⟩⟩⟩⟩
        · rw [if_neg hc2952] at h
          refine mg_Ev.go 6 (pc' := 30) (loc' := [some (.ref 43), some (.int x1), some (.int x2), some (.int (x3 &&& 1)), some (.int (x4 + 1))]) (st' := []) (w' := (hp u fL fD, c, z)) rfl ?_
          exact mg_Ev.more (loc := [some (.ref 43), some (.int x1), some (.int x2), some (.int (x3 &&& 1)), some (.int (x4 + 1))]) (ih _ _ _ _ _ _ h _ K) ⟨rfl, ⟨rfl, ⟨rfl, ⟨rfl, ⟨rfl, trivial⟩⟩⟩⟩⟩
      · rw [if_neg hc2950] at h
        refine mg_Ev.go 6 (pc' := 30) (loc' := [some (.ref 43), some (.int x1), some (.int x2), some (.int (x3 &&& 1)), some (.int (x4 + 1))]) (st' := []) (w' := (hp u fL fD, c, z)) rfl ?_
        exact mg_Ev.more (loc := [some (.ref 43), some (.int x1), some (.int x2), some (.int (x3 &&& 1)), some (.int (x4 + 1))]) (ih _ _ _ _ _ _ h _ K) ⟨rfl, ⟨rfl, ⟨rfl, ⟨rfl, ⟨rfl, trivial⟩⟩⟩⟩⟩

def M_heading (a0 : Int32) (a1 : Int32) (u : mg_Rg) : Option (Int32 × mg_Rg) :=
  if a0 = (-1) then
  (M_in a1 1 9 u).bind fun v814 =>
    (M_heading_L30 mg_F a0 a1 v814 0 u).bind fun q2953 => match q2953 with
    | (x817, u818) =>
      if x817 = 0 then
      (M_fails 2 u818).bind fun p821 => match p821 with
        | (v819, u820) =>
          some (v819, u820)
      else
      if (u818 43 1) = 20 then
        (M_fails 3 u818).bind fun p824 => match p824 with
          | (v822, u823) =>
            some (v822, u823)
        else
        (M_lengthOf a0 u818).bind fun v825 =>
          if v825 = 4 then
          (M_fails 3 u818).bind fun p828 => match p828 with
            | (v826, u827) =>
              some (v826, u827)
          else
          (M_remembers u818).bind fun u829 =>
            if (20 + (3 * (u829 43 1))) < 0 ∨ 690 ≤ (20 + (3 * (u829 43 1))).toNatClampNeg then none else
            if ((20 + (3 * (u829 43 1))) + 1) < 0 ∨ 690 ≤ ((20 + (3 * (u829 43 1))) + 1).toNatClampNeg then none else
            if ((20 + (3 * (u829 43 1))) + 2) < 0 ∨ 690 ≤ ((20 + (3 * (u829 43 1))) + 2).toNatClampNeg then none else
            (M_done (((mg_up (mg_up (mg_up (mg_up u829 43 ((20 + (3 * (u829 43 1))).toNatClampNeg) a0) 43 (((20 + (3 * (u829 43 1))) + 1).toNatClampNeg) a1) 43 (((20 + (3 * (u829 43 1))) + 2).toNatClampNeg) (-1)) 43 1 (((mg_up (mg_up (mg_up u829 43 ((20 + (3 * (u829 43 1))).toNatClampNeg) a0) 43 (((20 + (3 * (u829 43 1))) + 1).toNatClampNeg) a1) 43 (((20 + (3 * (u829 43 1))) + 2).toNatClampNeg) (-1)) 43 1) + 1)) 43 1) - 1) (mg_up (mg_up (mg_up (mg_up u829 43 ((20 + (3 * (u829 43 1))).toNatClampNeg) a0) 43 (((20 + (3 * (u829 43 1))) + 1).toNatClampNeg) a1) 43 (((20 + (3 * (u829 43 1))) + 2).toNatClampNeg) (-1)) 43 1 (((mg_up (mg_up (mg_up u829 43 ((20 + (3 * (u829 43 1))).toNatClampNeg) a0) 43 (((20 + (3 * (u829 43 1))) + 1).toNatClampNeg) a1) 43 (((20 + (3 * (u829 43 1))) + 2).toNatClampNeg) (-1)) 43 1) + 1))).bind fun p832 => match p832 with
            | (v830, u831) =>
              some (v830, u831)
  else
  (M_isHead a0 u).bind fun v833 =>
    if v833 = 0 then
    (M_fails 1 u).bind fun p836 => match p836 with
      | (v834, u835) =>
        some (v834, u835)
    else
    (M_in a1 1 9 u).bind fun v837 =>
      (M_heading_L30 mg_F a0 a1 v837 0 u).bind fun q2954 => match q2954 with
      | (x838, u839) =>
        if x838 = 0 then
        (M_fails 2 u839).bind fun p842 => match p842 with
          | (v840, u841) =>
            some (v840, u841)
        else
        if (u839 43 1) = 20 then
          (M_fails 3 u839).bind fun p845 => match p845 with
            | (v843, u844) =>
              some (v843, u844)
          else
          (M_lengthOf a0 u839).bind fun v846 =>
            if v846 = 4 then
            (M_fails 3 u839).bind fun p849 => match p849 with
              | (v847, u848) =>
                some (v847, u848)
            else
            (M_remembers u839).bind fun u850 =>
              if (20 + (3 * (u850 43 1))) < 0 ∨ 690 ≤ (20 + (3 * (u850 43 1))).toNatClampNeg then none else
              if ((20 + (3 * (u850 43 1))) + 1) < 0 ∨ 690 ≤ ((20 + (3 * (u850 43 1))) + 1).toNatClampNeg then none else
              if ((20 + (3 * (u850 43 1))) + 2) < 0 ∨ 690 ≤ ((20 + (3 * (u850 43 1))) + 2).toNatClampNeg then none else
              (M_done (((mg_up (mg_up (mg_up (mg_up u850 43 ((20 + (3 * (u850 43 1))).toNatClampNeg) a0) 43 (((20 + (3 * (u850 43 1))) + 1).toNatClampNeg) a1) 43 (((20 + (3 * (u850 43 1))) + 2).toNatClampNeg) (-1)) 43 1 (((mg_up (mg_up (mg_up u850 43 ((20 + (3 * (u850 43 1))).toNatClampNeg) a0) 43 (((20 + (3 * (u850 43 1))) + 1).toNatClampNeg) a1) 43 (((20 + (3 * (u850 43 1))) + 2).toNatClampNeg) (-1)) 43 1) + 1)) 43 1) - 1) (mg_up (mg_up (mg_up (mg_up u850 43 ((20 + (3 * (u850 43 1))).toNatClampNeg) a0) 43 (((20 + (3 * (u850 43 1))) + 1).toNatClampNeg) a1) 43 (((20 + (3 * (u850 43 1))) + 2).toNatClampNeg) (-1)) 43 1 (((mg_up (mg_up (mg_up u850 43 ((20 + (3 * (u850 43 1))).toNatClampNeg) a0) 43 (((20 + (3 * (u850 43 1))) + 1).toNatClampNeg) a1) 43 (((20 + (3 * (u850 43 1))) + 2).toNatClampNeg) (-1)) 43 1) + 1))).bind fun p853 => match p853 with
              | (v851, u852) =>
                some (v851, u852)

set_option maxRecDepth 10000 in
set_option maxHeartbeats 4000000 in
theorem ev_M_heading {sc : mg_Sc} {c z : Nat} {fL : Nat → Int64} {fD : Nat → UInt64} {a0 : Int32} {a1 : Int32} {u : mg_Rg} {p : Int32 × mg_Rg} (h : M_heading a0 a1 u = some p) : mg_Ev sc 3 75 0 (mg_entry 75 [.ref 43, .int a0, .int a1]) [] (hp u fL fD, c, z) (.inl (some (.int p.1)), (hp p.2 fL fD, c, z)) := by
  unfold M_heading at h
  show mg_Ev _ _ _ 0 [some (.ref 43), some (.int a0), some (.int a1), none, none] [] _ _
  refine mg_Ev.go 2 (pc' := 2) (loc' := [some (.ref 43), some (.int a0), some (.int a1), none, none]) (st' := [.int (-1), .int a0]) (w' := (hp u fL fD, c, z)) rfl ?_
  refine mg_Ev.br (P := a0 = (-1)) (t := 19) (nx := 5) (st' := []) rfl rfl rfl rfl (fun hc2955 => ?_) (fun hc2955 => ?_)
  · rw [if_pos hc2955] at h
    refine mg_Ev.go 3 (pc' := 23) (loc' := [some (.ref 43), some (.int a0), some (.int a1), none, none]) (st' := [.int 9, .int 1, .int a1]) (w' := (hp u fL fD, c, z)) rfl ?_
    obtain ⟨v814, hf2956, h⟩ := Option.bind_eq_some_iff.mp h
    refine mg_Ev.call (y := 58) (as := [.int a1, .int 1, .int 9]) (rest := []) (v := some (.int v814)) (w1 := (hp u fL fD, c, z)) rfl rfl (Nat.le_of_ble_eq_true rfl) ((ev_M_in hf2956).deep (by decide)) ?_
    refine mg_Ev.go 3 (pc' := 30) (loc' := [some (.ref 43), some (.int a0), some (.int a1), some (.int v814), some (.int 0)]) (st' := []) (w' := (hp u fL fD, c, z)) rfl ?_
    obtain ⟨⟨x817, u818⟩, hl2957, h⟩ := Option.bind_eq_some_iff.mp h
    try dsimp only at h
    refine mg_Ev.more (loc := [some (.ref 43), some (.int a0), some (.int a1), some (.int v814), some (.int 0)]) (ev_M_heading_L30 _ _ _ _ _ _ _ hl2957 _ ?_) ⟨rfl, ⟨rfl, ⟨rfl, ⟨rfl, ⟨rfl, trivial⟩⟩⟩⟩⟩
    show mg_Ev _ _ _ 77 [some (.ref 43), some (.int a0), some (.int a1), some (.int x817), none] [] (hp u818 fL fD, c, z) _
    refine mg_Ev.go 1 (pc' := 78) (loc' := [some (.ref 43), some (.int a0), some (.int a1), some (.int x817), none]) (st' := [.int x817]) (w' := (hp u818 fL fD, c, z)) rfl ?_
    refine mg_Ev.br (P := x817 = 0) (t := 81) (nx := 87) (st' := []) rfl rfl rfl rfl (fun hc2958 => ?_) (fun hc2958 => ?_)
    · rw [if_pos hc2958] at h
      refine mg_Ev.go 2 (pc' := 83) (loc' := [some (.ref 43), some (.int a0), some (.int a1), some (.int x817), none]) (st' := [.int 2, .ref 43]) (w' := (hp u818 fL fD, c, z)) rfl ?_
      obtain ⟨⟨v819, u820⟩, hf2959, h⟩ := Option.bind_eq_some_iff.mp h
      try dsimp only at h
      refine mg_Ev.call (y := 59) (as := [.ref 43, .int 2]) (rest := []) (v := some (.int v819)) (w1 := (hp u820 fL fD, c, z)) rfl rfl (Nat.le_of_ble_eq_true rfl) ((ev_M_fails hf2959).deep (by decide)) ?_
      cases h
      exact mg_Ev.fin rfl rfl rfl
    · rw [if_neg hc2958] at h
      refine mg_Ev.go 3 (pc' := 92) (loc' := [some (.ref 43), some (.int a0), some (.int a1), some (.int x817), none]) (st' := [.int 1, .ref 44]) (w' := (hp u818 fL fD, c, z)) rfl ?_
      refine mg_Ev.iald (a := 43) (n := 690) (f := u818 43) (j := 1) rfl (hpg_43 _ _ _) (by decide) (by decide) ?_
      refine mg_Ev.go 1 (pc' := 95) (loc' := [some (.ref 43), some (.int a0), some (.int a1), some (.int x817), none]) (st' := [.int 20, .int (u818 43 1)]) (w' := (hp u818 fL fD, c, z)) rfl ?_
      refine mg_Ev.br (P := (u818 43 1) = 20) (t := 107) (nx := 98) (st' := []) rfl rfl rfl rfl (fun hc2960 => ?_) (fun hc2960 => ?_)
      · rw [if_pos hc2960] at h
        refine mg_Ev.go 2 (pc' := 109) (loc' := [some (.ref 43), some (.int a0), some (.int a1), some (.int x817), none]) (st' := [.int 3, .ref 43]) (w' := (hp u818 fL fD, c, z)) rfl ?_
        obtain ⟨⟨v822, u823⟩, hf2961, h⟩ := Option.bind_eq_some_iff.mp h
        try dsimp only at h
        refine mg_Ev.call (y := 59) (as := [.ref 43, .int 3]) (rest := []) (v := some (.int v822)) (w1 := (hp u823 fL fD, c, z)) rfl rfl (Nat.le_of_ble_eq_true rfl) ((ev_M_fails hf2961).deep (by decide)) ?_
        cases h
        exact mg_Ev.fin rfl rfl rfl
      · rw [if_neg hc2960] at h
        refine mg_Ev.go 2 (pc' := 100) (loc' := [some (.ref 43), some (.int a0), some (.int a1), some (.int x817), none]) (st' := [.int a0, .ref 43]) (w' := (hp u818 fL fD, c, z)) rfl ?_
        obtain ⟨v825, hf2962, h⟩ := Option.bind_eq_some_iff.mp h
        refine mg_Ev.call (y := 69) (as := [.ref 43, .int a0]) (rest := []) (v := some (.int v825)) (w1 := (hp u818 fL fD, c, z)) rfl rfl (Nat.le_of_ble_eq_true rfl) ((ev_M_lengthOf hf2962).deep (by decide)) ?_
        refine mg_Ev.go 1 (pc' := 104) (loc' := [some (.ref 43), some (.int a0), some (.int a1), some (.int x817), none]) (st' := [.int 4, .int v825]) (w' := (hp u818 fL fD, c, z)) rfl ?_
        refine mg_Ev.br (P := v825 = 4) (t := 107) (nx := 113) (st' := []) rfl rfl rfl rfl (fun hc2963 => ?_) (fun hc2963 => ?_)
        · rw [if_pos hc2963] at h
          refine mg_Ev.go 2 (pc' := 109) (loc' := [some (.ref 43), some (.int a0), some (.int a1), some (.int x817), none]) (st' := [.int 3, .ref 43]) (w' := (hp u818 fL fD, c, z)) rfl ?_
          obtain ⟨⟨v826, u827⟩, hf2964, h⟩ := Option.bind_eq_some_iff.mp h
          try dsimp only at h
          refine mg_Ev.call (y := 59) (as := [.ref 43, .int 3]) (rest := []) (v := some (.int v826)) (w1 := (hp u827 fL fD, c, z)) rfl rfl (Nat.le_of_ble_eq_true rfl) ((ev_M_fails hf2964).deep (by decide)) ?_
          cases h
          exact mg_Ev.fin rfl rfl rfl
        · rw [if_neg hc2963] at h
          refine mg_Ev.go 1 (pc' := 114) (loc' := [some (.ref 43), some (.int a0), some (.int a1), some (.int x817), none]) (st' := [.ref 43]) (w' := (hp u818 fL fD, c, z)) rfl ?_
          obtain ⟨u829, hf2965, h⟩ := Option.bind_eq_some_iff.mp h
          refine mg_Ev.call (y := 63) (as := [.ref 43]) (rest := []) (v := none) (w1 := (hp u829 fL fD, c, z)) rfl rfl (Nat.le_of_ble_eq_true rfl) ((ev_M_remembers hf2965).deep (by decide)) ?_
          refine mg_Ev.go 5 (pc' := 125) (loc' := [some (.ref 43), some (.int a0), some (.int a1), some (.int x817), none]) (st' := [.int 1, .ref 44, .int 3, .int 20]) (w' := (hp u829 fL fD, c, z)) rfl ?_
          refine mg_Ev.iald (a := 43) (n := 690) (f := u829 43) (j := 1) rfl (hpg_43 _ _ _) (by decide) (by decide) ?_
          refine mg_Ev.go 7 (pc' := 137) (loc' := [some (.ref 43), some (.int a0), some (.int a1), some (.int x817), some (.int (20 + (3 * (u829 43 1))))]) (st' := [.int a0, .int (20 + (3 * (u829 43 1))), .ref 44]) (w' := (hp u829 fL fD, c, z)) rfl ?_
          by_cases hb2966 : (20 + (3 * (u829 43 1))) < 0 ∨ 690 ≤ (20 + (3 * (u829 43 1))).toNatClampNeg
          · rw [if_pos hb2966] at h
            cases h
          · rw [if_neg hb2966] at h
            refine mg_Ev.iast (a := 43) (n := 690) rfl (hpg_43 _ _ _) rfl hb2966 (hpa_43 _ _ _ _ _ _ _) ?_
            refine mg_Ev.go 6 (pc' := 147) (loc' := [some (.ref 43), some (.int a0), some (.int a1), some (.int x817), some (.int (20 + (3 * (u829 43 1))))]) (st' := [.int a1, .int ((20 + (3 * (u829 43 1))) + 1), .ref 44]) (w' := (hp (mg_up u829 43 ((20 + (3 * (u829 43 1))).toNatClampNeg) a0) fL fD, c, z)) rfl ?_
            by_cases hb2967 : ((20 + (3 * (u829 43 1))) + 1) < 0 ∨ 690 ≤ ((20 + (3 * (u829 43 1))) + 1).toNatClampNeg
            · rw [if_pos hb2967] at h
              cases h
            · rw [if_neg hb2967] at h
              refine mg_Ev.iast (a := 43) (n := 690) rfl (hpg_43 _ _ _) rfl hb2967 (hpa_43 _ _ _ _ _ _ _) ?_
              refine mg_Ev.go 6 (pc' := 157) (loc' := [some (.ref 43), some (.int a0), some (.int a1), some (.int x817), some (.int (20 + (3 * (u829 43 1))))]) (st' := [.int (-1), .int ((20 + (3 * (u829 43 1))) + 2), .ref 44]) (w' := (hp (mg_up (mg_up u829 43 ((20 + (3 * (u829 43 1))).toNatClampNeg) a0) 43 (((20 + (3 * (u829 43 1))) + 1).toNatClampNeg) a1) fL fD, c, z)) rfl ?_
              by_cases hb2968 : ((20 + (3 * (u829 43 1))) + 2) < 0 ∨ 690 ≤ ((20 + (3 * (u829 43 1))) + 2).toNatClampNeg
              · rw [if_pos hb2968] at h
                cases h
              · rw [if_neg hb2968] at h
                refine mg_Ev.iast (a := 43) (n := 690) rfl (hpg_43 _ _ _) rfl hb2968 (hpa_43 _ _ _ _ _ _ _) ?_
                refine mg_Ev.go 4 (pc' := 164) (loc' := [some (.ref 43), some (.int a0), some (.int a1), some (.int x817), some (.int (20 + (3 * (u829 43 1))))]) (st' := [.int 1, .ref 44, .int 1, .ref 44]) (w' := (hp (mg_up (mg_up (mg_up u829 43 ((20 + (3 * (u829 43 1))).toNatClampNeg) a0) 43 (((20 + (3 * (u829 43 1))) + 1).toNatClampNeg) a1) 43 (((20 + (3 * (u829 43 1))) + 2).toNatClampNeg) (-1)) fL fD, c, z)) rfl ?_
                refine mg_Ev.iald (a := 43) (n := 690) (f := (mg_up (mg_up (mg_up u829 43 ((20 + (3 * (u829 43 1))).toNatClampNeg) a0) 43 (((20 + (3 * (u829 43 1))) + 1).toNatClampNeg) a1) 43 (((20 + (3 * (u829 43 1))) + 2).toNatClampNeg) (-1)) 43) (j := 1) rfl (hpg_43 _ _ _) (by decide) (by decide) ?_
                refine mg_Ev.go 2 (pc' := 167) (loc' := [some (.ref 43), some (.int a0), some (.int a1), some (.int x817), some (.int (20 + (3 * (u829 43 1))))]) (st' := [.int (((mg_up (mg_up (mg_up u829 43 ((20 + (3 * (u829 43 1))).toNatClampNeg) a0) 43 (((20 + (3 * (u829 43 1))) + 1).toNatClampNeg) a1) 43 (((20 + (3 * (u829 43 1))) + 2).toNatClampNeg) (-1)) 43 1) + 1), .int 1, .ref 44]) (w' := (hp (mg_up (mg_up (mg_up u829 43 ((20 + (3 * (u829 43 1))).toNatClampNeg) a0) 43 (((20 + (3 * (u829 43 1))) + 1).toNatClampNeg) a1) 43 (((20 + (3 * (u829 43 1))) + 2).toNatClampNeg) (-1)) fL fD, c, z)) rfl ?_
                refine mg_Ev.iast (a := 43) (n := 690) (j := 1) rfl (hpg_43 _ _ _) (by decide) (by decide) (hpa_43 _ _ _ _ _ _ _) ?_
                refine mg_Ev.go 4 (pc' := 174) (loc' := [some (.ref 43), some (.int a0), some (.int a1), some (.int x817), some (.int (20 + (3 * (u829 43 1))))]) (st' := [.int 1, .ref 44, .ref 43]) (w' := (hp (mg_up (mg_up (mg_up (mg_up u829 43 ((20 + (3 * (u829 43 1))).toNatClampNeg) a0) 43 (((20 + (3 * (u829 43 1))) + 1).toNatClampNeg) a1) 43 (((20 + (3 * (u829 43 1))) + 2).toNatClampNeg) (-1)) 43 1 (((mg_up (mg_up (mg_up u829 43 ((20 + (3 * (u829 43 1))).toNatClampNeg) a0) 43 (((20 + (3 * (u829 43 1))) + 1).toNatClampNeg) a1) 43 (((20 + (3 * (u829 43 1))) + 2).toNatClampNeg) (-1)) 43 1) + 1)) fL fD, c, z)) rfl ?_
                refine mg_Ev.iald (a := 43) (n := 690) (f := (mg_up (mg_up (mg_up (mg_up u829 43 ((20 + (3 * (u829 43 1))).toNatClampNeg) a0) 43 (((20 + (3 * (u829 43 1))) + 1).toNatClampNeg) a1) 43 (((20 + (3 * (u829 43 1))) + 2).toNatClampNeg) (-1)) 43 1 (((mg_up (mg_up (mg_up u829 43 ((20 + (3 * (u829 43 1))).toNatClampNeg) a0) 43 (((20 + (3 * (u829 43 1))) + 1).toNatClampNeg) a1) 43 (((20 + (3 * (u829 43 1))) + 2).toNatClampNeg) (-1)) 43 1) + 1)) 43) (j := 1) rfl (hpg_43 _ _ _) (by decide) (by decide) ?_
                refine mg_Ev.go 2 (pc' := 177) (loc' := [some (.ref 43), some (.int a0), some (.int a1), some (.int x817), some (.int (20 + (3 * (u829 43 1))))]) (st' := [.int (((mg_up (mg_up (mg_up (mg_up u829 43 ((20 + (3 * (u829 43 1))).toNatClampNeg) a0) 43 (((20 + (3 * (u829 43 1))) + 1).toNatClampNeg) a1) 43 (((20 + (3 * (u829 43 1))) + 2).toNatClampNeg) (-1)) 43 1 (((mg_up (mg_up (mg_up u829 43 ((20 + (3 * (u829 43 1))).toNatClampNeg) a0) 43 (((20 + (3 * (u829 43 1))) + 1).toNatClampNeg) a1) 43 (((20 + (3 * (u829 43 1))) + 2).toNatClampNeg) (-1)) 43 1) + 1)) 43 1) - 1), .ref 43]) (w' := (hp (mg_up (mg_up (mg_up (mg_up u829 43 ((20 + (3 * (u829 43 1))).toNatClampNeg) a0) 43 (((20 + (3 * (u829 43 1))) + 1).toNatClampNeg) a1) 43 (((20 + (3 * (u829 43 1))) + 2).toNatClampNeg) (-1)) 43 1 (((mg_up (mg_up (mg_up u829 43 ((20 + (3 * (u829 43 1))).toNatClampNeg) a0) 43 (((20 + (3 * (u829 43 1))) + 1).toNatClampNeg) a1) 43 (((20 + (3 * (u829 43 1))) + 2).toNatClampNeg) (-1)) 43 1) + 1)) fL fD, c, z)) rfl ?_
                obtain ⟨⟨v830, u831⟩, hf2969, h⟩ := Option.bind_eq_some_iff.mp h
                try dsimp only at h
                refine mg_Ev.call (y := 60) (as := [.ref 43, .int (((mg_up (mg_up (mg_up (mg_up u829 43 ((20 + (3 * (u829 43 1))).toNatClampNeg) a0) 43 (((20 + (3 * (u829 43 1))) + 1).toNatClampNeg) a1) 43 (((20 + (3 * (u829 43 1))) + 2).toNatClampNeg) (-1)) 43 1 (((mg_up (mg_up (mg_up u829 43 ((20 + (3 * (u829 43 1))).toNatClampNeg) a0) 43 (((20 + (3 * (u829 43 1))) + 1).toNatClampNeg) a1) 43 (((20 + (3 * (u829 43 1))) + 2).toNatClampNeg) (-1)) 43 1) + 1)) 43 1) - 1)]) (rest := []) (v := some (.int v830)) (w1 := (hp u831 fL fD, c, z)) rfl rfl (Nat.le_of_ble_eq_true rfl) ((ev_M_done hf2969).deep (by decide)) ?_
                cases h
                exact mg_Ev.fin rfl rfl rfl
  · rw [if_neg hc2955] at h
    refine mg_Ev.go 2 (pc' := 7) (loc' := [some (.ref 43), some (.int a0), some (.int a1), none, none]) (st' := [.int a0, .ref 43]) (w' := (hp u fL fD, c, z)) rfl ?_
    obtain ⟨v833, hf2970, h⟩ := Option.bind_eq_some_iff.mp h
    refine mg_Ev.call (y := 64) (as := [.ref 43, .int a0]) (rest := []) (v := some (.int v833)) (w1 := (hp u fL fD, c, z)) rfl rfl (Nat.le_of_ble_eq_true rfl) ((ev_M_isHead hf2970).deep (by decide)) ?_
    refine mg_Ev.br (P := v833 = 0) (t := 13) (nx := 19) (st' := []) rfl rfl rfl rfl (fun hc2971 => ?_) (fun hc2971 => ?_)
    · rw [if_pos hc2971] at h
      refine mg_Ev.go 2 (pc' := 15) (loc' := [some (.ref 43), some (.int a0), some (.int a1), none, none]) (st' := [.int 1, .ref 43]) (w' := (hp u fL fD, c, z)) rfl ?_
      obtain ⟨⟨v834, u835⟩, hf2972, h⟩ := Option.bind_eq_some_iff.mp h
      try dsimp only at h
      refine mg_Ev.call (y := 59) (as := [.ref 43, .int 1]) (rest := []) (v := some (.int v834)) (w1 := (hp u835 fL fD, c, z)) rfl rfl (Nat.le_of_ble_eq_true rfl) ((ev_M_fails hf2972).deep (by decide)) ?_
      cases h
      exact mg_Ev.fin rfl rfl rfl
    · rw [if_neg hc2971] at h
      refine mg_Ev.go 3 (pc' := 23) (loc' := [some (.ref 43), some (.int a0), some (.int a1), none, none]) (st' := [.int 9, .int 1, .int a1]) (w' := (hp u fL fD, c, z)) rfl ?_
      obtain ⟨v837, hf2973, h⟩ := Option.bind_eq_some_iff.mp h
      refine mg_Ev.call (y := 58) (as := [.int a1, .int 1, .int 9]) (rest := []) (v := some (.int v837)) (w1 := (hp u fL fD, c, z)) rfl rfl (Nat.le_of_ble_eq_true rfl) ((ev_M_in hf2973).deep (by decide)) ?_
      refine mg_Ev.go 3 (pc' := 30) (loc' := [some (.ref 43), some (.int a0), some (.int a1), some (.int v837), some (.int 0)]) (st' := []) (w' := (hp u fL fD, c, z)) rfl ?_
      obtain ⟨⟨x838, u839⟩, hl2974, h⟩ := Option.bind_eq_some_iff.mp h
      try dsimp only at h
      refine mg_Ev.more (loc := [some (.ref 43), some (.int a0), some (.int a1), some (.int v837), some (.int 0)]) (ev_M_heading_L30 _ _ _ _ _ _ _ hl2974 _ ?_) ⟨rfl, ⟨rfl, ⟨rfl, ⟨rfl, ⟨rfl, trivial⟩⟩⟩⟩⟩
      show mg_Ev _ _ _ 77 [some (.ref 43), some (.int a0), some (.int a1), some (.int x838), none] [] (hp u839 fL fD, c, z) _
      refine mg_Ev.go 1 (pc' := 78) (loc' := [some (.ref 43), some (.int a0), some (.int a1), some (.int x838), none]) (st' := [.int x838]) (w' := (hp u839 fL fD, c, z)) rfl ?_
      refine mg_Ev.br (P := x838 = 0) (t := 81) (nx := 87) (st' := []) rfl rfl rfl rfl (fun hc2975 => ?_) (fun hc2975 => ?_)
      · rw [if_pos hc2975] at h
        refine mg_Ev.go 2 (pc' := 83) (loc' := [some (.ref 43), some (.int a0), some (.int a1), some (.int x838), none]) (st' := [.int 2, .ref 43]) (w' := (hp u839 fL fD, c, z)) rfl ?_
        obtain ⟨⟨v840, u841⟩, hf2976, h⟩ := Option.bind_eq_some_iff.mp h
        try dsimp only at h
        refine mg_Ev.call (y := 59) (as := [.ref 43, .int 2]) (rest := []) (v := some (.int v840)) (w1 := (hp u841 fL fD, c, z)) rfl rfl (Nat.le_of_ble_eq_true rfl) ((ev_M_fails hf2976).deep (by decide)) ?_
        cases h
        exact mg_Ev.fin rfl rfl rfl
      · rw [if_neg hc2975] at h
        refine mg_Ev.go 3 (pc' := 92) (loc' := [some (.ref 43), some (.int a0), some (.int a1), some (.int x838), none]) (st' := [.int 1, .ref 44]) (w' := (hp u839 fL fD, c, z)) rfl ?_
        refine mg_Ev.iald (a := 43) (n := 690) (f := u839 43) (j := 1) rfl (hpg_43 _ _ _) (by decide) (by decide) ?_
        refine mg_Ev.go 1 (pc' := 95) (loc' := [some (.ref 43), some (.int a0), some (.int a1), some (.int x838), none]) (st' := [.int 20, .int (u839 43 1)]) (w' := (hp u839 fL fD, c, z)) rfl ?_
        refine mg_Ev.br (P := (u839 43 1) = 20) (t := 107) (nx := 98) (st' := []) rfl rfl rfl rfl (fun hc2977 => ?_) (fun hc2977 => ?_)
        · rw [if_pos hc2977] at h
          refine mg_Ev.go 2 (pc' := 109) (loc' := [some (.ref 43), some (.int a0), some (.int a1), some (.int x838), none]) (st' := [.int 3, .ref 43]) (w' := (hp u839 fL fD, c, z)) rfl ?_
          obtain ⟨⟨v843, u844⟩, hf2978, h⟩ := Option.bind_eq_some_iff.mp h
          try dsimp only at h
          refine mg_Ev.call (y := 59) (as := [.ref 43, .int 3]) (rest := []) (v := some (.int v843)) (w1 := (hp u844 fL fD, c, z)) rfl rfl (Nat.le_of_ble_eq_true rfl) ((ev_M_fails hf2978).deep (by decide)) ?_
          cases h
          exact mg_Ev.fin rfl rfl rfl
        · rw [if_neg hc2977] at h
          refine mg_Ev.go 2 (pc' := 100) (loc' := [some (.ref 43), some (.int a0), some (.int a1), some (.int x838), none]) (st' := [.int a0, .ref 43]) (w' := (hp u839 fL fD, c, z)) rfl ?_
          obtain ⟨v846, hf2979, h⟩ := Option.bind_eq_some_iff.mp h
          refine mg_Ev.call (y := 69) (as := [.ref 43, .int a0]) (rest := []) (v := some (.int v846)) (w1 := (hp u839 fL fD, c, z)) rfl rfl (Nat.le_of_ble_eq_true rfl) ((ev_M_lengthOf hf2979).deep (by decide)) ?_
          refine mg_Ev.go 1 (pc' := 104) (loc' := [some (.ref 43), some (.int a0), some (.int a1), some (.int x838), none]) (st' := [.int 4, .int v846]) (w' := (hp u839 fL fD, c, z)) rfl ?_
          refine mg_Ev.br (P := v846 = 4) (t := 107) (nx := 113) (st' := []) rfl rfl rfl rfl (fun hc2980 => ?_) (fun hc2980 => ?_)
          · rw [if_pos hc2980] at h
            refine mg_Ev.go 2 (pc' := 109) (loc' := [some (.ref 43), some (.int a0), some (.int a1), some (.int x838), none]) (st' := [.int 3, .ref 43]) (w' := (hp u839 fL fD, c, z)) rfl ?_
            obtain ⟨⟨v847, u848⟩, hf2981, h⟩ := Option.bind_eq_some_iff.mp h
            try dsimp only at h
            refine mg_Ev.call (y := 59) (as := [.ref 43, .int 3]) (rest := []) (v := some (.int v847)) (w1 := (hp u848 fL fD, c, z)) rfl rfl (Nat.le_of_ble_eq_true rfl) ((ev_M_fails hf2981).deep (by decide)) ?_
            cases h
            exact mg_Ev.fin rfl rfl rfl
          · rw [if_neg hc2980] at h
            refine mg_Ev.go 1 (pc' := 114) (loc' := [some (.ref 43), some (.int a0), some (.int a1), some (.int x838), none]) (st' := [.ref 43]) (w' := (hp u839 fL fD, c, z)) rfl ?_
            obtain ⟨u850, hf2982, h⟩ := Option.bind_eq_some_iff.mp h
            refine mg_Ev.call (y := 63) (as := [.ref 43]) (rest := []) (v := none) (w1 := (hp u850 fL fD, c, z)) rfl rfl (Nat.le_of_ble_eq_true rfl) ((ev_M_remembers hf2982).deep (by decide)) ?_
            refine mg_Ev.go 5 (pc' := 125) (loc' := [some (.ref 43), some (.int a0), some (.int a1), some (.int x838), none]) (st' := [.int 1, .ref 44, .int 3, .int 20]) (w' := (hp u850 fL fD, c, z)) rfl ?_
            refine mg_Ev.iald (a := 43) (n := 690) (f := u850 43) (j := 1) rfl (hpg_43 _ _ _) (by decide) (by decide) ?_
            refine mg_Ev.go 7 (pc' := 137) (loc' := [some (.ref 43), some (.int a0), some (.int a1), some (.int x838), some (.int (20 + (3 * (u850 43 1))))]) (st' := [.int a0, .int (20 + (3 * (u850 43 1))), .ref 44]) (w' := (hp u850 fL fD, c, z)) rfl ?_
            by_cases hb2983 : (20 + (3 * (u850 43 1))) < 0 ∨ 690 ≤ (20 + (3 * (u850 43 1))).toNatClampNeg
            · rw [if_pos hb2983] at h
              cases h
            · rw [if_neg hb2983] at h
              refine mg_Ev.iast (a := 43) (n := 690) rfl (hpg_43 _ _ _) rfl hb2983 (hpa_43 _ _ _ _ _ _ _) ?_
              refine mg_Ev.go 6 (pc' := 147) (loc' := [some (.ref 43), some (.int a0), some (.int a1), some (.int x838), some (.int (20 + (3 * (u850 43 1))))]) (st' := [.int a1, .int ((20 + (3 * (u850 43 1))) + 1), .ref 44]) (w' := (hp (mg_up u850 43 ((20 + (3 * (u850 43 1))).toNatClampNeg) a0) fL fD, c, z)) rfl ?_
              by_cases hb2984 : ((20 + (3 * (u850 43 1))) + 1) < 0 ∨ 690 ≤ ((20 + (3 * (u850 43 1))) + 1).toNatClampNeg
              · rw [if_pos hb2984] at h
                cases h
              · rw [if_neg hb2984] at h
                refine mg_Ev.iast (a := 43) (n := 690) rfl (hpg_43 _ _ _) rfl hb2984 (hpa_43 _ _ _ _ _ _ _) ?_
                refine mg_Ev.go 6 (pc' := 157) (loc' := [some (.ref 43), some (.int a0), some (.int a1), some (.int x838), some (.int (20 + (3 * (u850 43 1))))]) (st' := [.int (-1), .int ((20 + (3 * (u850 43 1))) + 2), .ref 44]) (w' := (hp (mg_up (mg_up u850 43 ((20 + (3 * (u850 43 1))).toNatClampNeg) a0) 43 (((20 + (3 * (u850 43 1))) + 1).toNatClampNeg) a1) fL fD, c, z)) rfl ?_
                by_cases hb2985 : ((20 + (3 * (u850 43 1))) + 2) < 0 ∨ 690 ≤ ((20 + (3 * (u850 43 1))) + 2).toNatClampNeg
                · rw [if_pos hb2985] at h
                  cases h
                · rw [if_neg hb2985] at h
                  refine mg_Ev.iast (a := 43) (n := 690) rfl (hpg_43 _ _ _) rfl hb2985 (hpa_43 _ _ _ _ _ _ _) ?_
                  refine mg_Ev.go 4 (pc' := 164) (loc' := [some (.ref 43), some (.int a0), some (.int a1), some (.int x838), some (.int (20 + (3 * (u850 43 1))))]) (st' := [.int 1, .ref 44, .int 1, .ref 44]) (w' := (hp (mg_up (mg_up (mg_up u850 43 ((20 + (3 * (u850 43 1))).toNatClampNeg) a0) 43 (((20 + (3 * (u850 43 1))) + 1).toNatClampNeg) a1) 43 (((20 + (3 * (u850 43 1))) + 2).toNatClampNeg) (-1)) fL fD, c, z)) rfl ?_
                  refine mg_Ev.iald (a := 43) (n := 690) (f := (mg_up (mg_up (mg_up u850 43 ((20 + (3 * (u850 43 1))).toNatClampNeg) a0) 43 (((20 + (3 * (u850 43 1))) + 1).toNatClampNeg) a1) 43 (((20 + (3 * (u850 43 1))) + 2).toNatClampNeg) (-1)) 43) (j := 1) rfl (hpg_43 _ _ _) (by decide) (by decide) ?_
                  refine mg_Ev.go 2 (pc' := 167) (loc' := [some (.ref 43), some (.int a0), some (.int a1), some (.int x838), some (.int (20 + (3 * (u850 43 1))))]) (st' := [.int (((mg_up (mg_up (mg_up u850 43 ((20 + (3 * (u850 43 1))).toNatClampNeg) a0) 43 (((20 + (3 * (u850 43 1))) + 1).toNatClampNeg) a1) 43 (((20 + (3 * (u850 43 1))) + 2).toNatClampNeg) (-1)) 43 1) + 1), .int 1, .ref 44]) (w' := (hp (mg_up (mg_up (mg_up u850 43 ((20 + (3 * (u850 43 1))).toNatClampNeg) a0) 43 (((20 + (3 * (u850 43 1))) + 1).toNatClampNeg) a1) 43 (((20 + (3 * (u850 43 1))) + 2).toNatClampNeg) (-1)) fL fD, c, z)) rfl ?_
                  refine mg_Ev.iast (a := 43) (n := 690) (j := 1) rfl (hpg_43 _ _ _) (by decide) (by decide) (hpa_43 _ _ _ _ _ _ _) ?_
                  refine mg_Ev.go 4 (pc' := 174) (loc' := [some (.ref 43), some (.int a0), some (.int a1), some (.int x838), some (.int (20 + (3 * (u850 43 1))))]) (st' := [.int 1, .ref 44, .ref 43]) (w' := (hp (mg_up (mg_up (mg_up (mg_up u850 43 ((20 + (3 * (u850 43 1))).toNatClampNeg) a0) 43 (((20 + (3 * (u850 43 1))) + 1).toNatClampNeg) a1) 43 (((20 + (3 * (u850 43 1))) + 2).toNatClampNeg) (-1)) 43 1 (((mg_up (mg_up (mg_up u850 43 ((20 + (3 * (u850 43 1))).toNatClampNeg) a0) 43 (((20 + (3 * (u850 43 1))) + 1).toNatClampNeg) a1) 43 (((20 + (3 * (u850 43 1))) + 2).toNatClampNeg) (-1)) 43 1) + 1)) fL fD, c, z)) rfl ?_
                  refine mg_Ev.iald (a := 43) (n := 690) (f := (mg_up (mg_up (mg_up (mg_up u850 43 ((20 + (3 * (u850 43 1))).toNatClampNeg) a0) 43 (((20 + (3 * (u850 43 1))) + 1).toNatClampNeg) a1) 43 (((20 + (3 * (u850 43 1))) + 2).toNatClampNeg) (-1)) 43 1 (((mg_up (mg_up (mg_up u850 43 ((20 + (3 * (u850 43 1))).toNatClampNeg) a0) 43 (((20 + (3 * (u850 43 1))) + 1).toNatClampNeg) a1) 43 (((20 + (3 * (u850 43 1))) + 2).toNatClampNeg) (-1)) 43 1) + 1)) 43) (j := 1) rfl (hpg_43 _ _ _) (by decide) (by decide) ?_
                  refine mg_Ev.go 2 (pc' := 177) (loc' := [some (.ref 43), some (.int a0), some (.int a1), some (.int x838), some (.int (20 + (3 * (u850 43 1))))]) (st' := [.int (((mg_up (mg_up (mg_up (mg_up u850 43 ((20 + (3 * (u850 43 1))).toNatClampNeg) a0) 43 (((20 + (3 * (u850 43 1))) + 1).toNatClampNeg) a1) 43 (((20 + (3 * (u850 43 1))) + 2).toNatClampNeg) (-1)) 43 1 (((mg_up (mg_up (mg_up u850 43 ((20 + (3 * (u850 43 1))).toNatClampNeg) a0) 43 (((20 + (3 * (u850 43 1))) + 1).toNatClampNeg) a1) 43 (((20 + (3 * (u850 43 1))) + 2).toNatClampNeg) (-1)) 43 1) + 1)) 43 1) - 1), .ref 43]) (w' := (hp (mg_up (mg_up (mg_up (mg_up u850 43 ((20 + (3 * (u850 43 1))).toNatClampNeg) a0) 43 (((20 + (3 * (u850 43 1))) + 1).toNatClampNeg) a1) 43 (((20 + (3 * (u850 43 1))) + 2).toNatClampNeg) (-1)) 43 1 (((mg_up (mg_up (mg_up u850 43 ((20 + (3 * (u850 43 1))).toNatClampNeg) a0) 43 (((20 + (3 * (u850 43 1))) + 1).toNatClampNeg) a1) 43 (((20 + (3 * (u850 43 1))) + 2).toNatClampNeg) (-1)) 43 1) + 1)) fL fD, c, z)) rfl ?_
                  obtain ⟨⟨v851, u852⟩, hf2986, h⟩ := Option.bind_eq_some_iff.mp h
                  try dsimp only at h
                  refine mg_Ev.call (y := 60) (as := [.ref 43, .int (((mg_up (mg_up (mg_up (mg_up u850 43 ((20 + (3 * (u850 43 1))).toNatClampNeg) a0) 43 (((20 + (3 * (u850 43 1))) + 1).toNatClampNeg) a1) 43 (((20 + (3 * (u850 43 1))) + 2).toNatClampNeg) (-1)) 43 1 (((mg_up (mg_up (mg_up u850 43 ((20 + (3 * (u850 43 1))).toNatClampNeg) a0) 43 (((20 + (3 * (u850 43 1))) + 1).toNatClampNeg) a1) 43 (((20 + (3 * (u850 43 1))) + 2).toNatClampNeg) (-1)) 43 1) + 1)) 43 1) - 1)]) (rest := []) (v := some (.int v851)) (w1 := (hp u852 fL fD, c, z)) rfl rfl (Nat.le_of_ble_eq_true rfl) ((ev_M_done hf2986).deep (by decide)) ?_
                  cases h
                  exact mg_Ev.fin rfl rfl rfl

