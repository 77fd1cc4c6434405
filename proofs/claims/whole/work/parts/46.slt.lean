/-! SLOTS -/
theorem ts_3 {s : Nat} (hs : s < 9) (u : mg_Rg) : T_hasSlot_3 (nN s) u = some 1 := by
  have e2 : (nN s + 1) * 61 = nN ((s + 1) * 61) := by
    show _ = Int32.ofNat ((s + 1) * 61)
    rw [Int32.ofNat_mul, Int32.ofNat_add]
    rfl
  unfold T_hasSlot_3
  have c1 : ¬ (9 : Int32) ≤ nN s := fun q => absurd ((z_le (a := 9) (by omega) (by omega)).mp q) (by omega)
  have c2 : ¬ (549 : Int32) < nN ((s + 1) * 61) := fun q => absurd ((z_lt (a := 549) (by omega) (by omega)).mp q) (by omega)
  rw [if_neg (z_nn (by omega)), if_neg c1, e2, if_neg c2]
theorem tk_3 {s : Nat} (hs : s < 9) (u : mg_Rg) : T_keepIn_3 (nN s) u = some (mg_rw u 5 (va_cpy (u 4) (u 5) 0 (s * 61) 61)) := by
  have e : nN s * 61 = nN (s * 61) := (Int32.ofNat_mul s 61).symm
  unfold T_keepIn_3
  rw [ts_3 hs]
  show (if ¬ (0 : Int32) < 0 ∧ ¬ (nN s * 61) < 0 ∧ ¬ (61 : Int32) < 0 ∧ (0 : Int32).toNatClampNeg + (61 : Int32).toNatClampNeg ≤ 61 ∧ (nN s * 61).toNatClampNeg + (61 : Int32).toNatClampNeg ≤ 549 then _ else _) = _
  rw [e, if_pos ⟨by decide, z_nn (by omega), by decide, by decide, by rw [z_nat (by omega)]; show s * 61 + 61 ≤ 549; omega⟩, z_nat (by omega)]
  rfl
theorem tb_3 {s : Nat} (hs : s < 9) (u : mg_Rg) : T_bringFrom_3 (nN s) u = some (mg_rw u 4 (va_cpy (u 5) (u 4) (s * 61) 0 61)) := by
  have e : nN s * 61 = nN (s * 61) := (Int32.ofNat_mul s 61).symm
  unfold T_bringFrom_3
  rw [ts_3 hs]
  show (if ¬ (nN s * 61) < 0 ∧ ¬ (0 : Int32) < 0 ∧ ¬ (61 : Int32) < 0 ∧ (nN s * 61).toNatClampNeg + (61 : Int32).toNatClampNeg ≤ 549 ∧ (0 : Int32).toNatClampNeg + (61 : Int32).toNatClampNeg ≤ 61 then _ else _) = _
  rw [e, if_pos ⟨z_nn (by omega), by decide, by decide, by rw [z_nat (by omega)]; show s * 61 + 61 ≤ 549; omega, by decide⟩, z_nat (by omega)]
  rfl
theorem ts_6 {s : Nat} (hs : s < 9) (u : mg_Rg) : T_hasSlot_6 (nN s) u = some 1 := by
  have e2 : (nN s + 1) * 41 = nN ((s + 1) * 41) := by
    show _ = Int32.ofNat ((s + 1) * 41)
    rw [Int32.ofNat_mul, Int32.ofNat_add]
    rfl
  unfold T_hasSlot_6
  have c1 : ¬ (9 : Int32) ≤ nN s := fun q => absurd ((z_le (a := 9) (by omega) (by omega)).mp q) (by omega)
  have c2 : ¬ (369 : Int32) < nN ((s + 1) * 41) := fun q => absurd ((z_lt (a := 369) (by omega) (by omega)).mp q) (by omega)
  rw [if_neg (z_nn (by omega)), if_neg c1, e2, if_neg c2]
theorem tk_6 {s : Nat} (hs : s < 9) (u : mg_Rg) : T_keepIn_6 (nN s) u = some (mg_rw u 8 (va_cpy (u 7) (u 8) 0 (s * 41) 41)) := by
  have e : nN s * 41 = nN (s * 41) := (Int32.ofNat_mul s 41).symm
  unfold T_keepIn_6
  rw [ts_6 hs]
  show (if ¬ (0 : Int32) < 0 ∧ ¬ (nN s * 41) < 0 ∧ ¬ (41 : Int32) < 0 ∧ (0 : Int32).toNatClampNeg + (41 : Int32).toNatClampNeg ≤ 41 ∧ (nN s * 41).toNatClampNeg + (41 : Int32).toNatClampNeg ≤ 369 then _ else _) = _
  rw [e, if_pos ⟨by decide, z_nn (by omega), by decide, by decide, by rw [z_nat (by omega)]; show s * 41 + 41 ≤ 369; omega⟩, z_nat (by omega)]
  rfl
theorem tb_6 {s : Nat} (hs : s < 9) (u : mg_Rg) : T_bringFrom_6 (nN s) u = some (mg_rw u 7 (va_cpy (u 8) (u 7) (s * 41) 0 41)) := by
  have e : nN s * 41 = nN (s * 41) := (Int32.ofNat_mul s 41).symm
  unfold T_bringFrom_6
  rw [ts_6 hs]
  show (if ¬ (nN s * 41) < 0 ∧ ¬ (0 : Int32) < 0 ∧ ¬ (41 : Int32) < 0 ∧ (nN s * 41).toNatClampNeg + (41 : Int32).toNatClampNeg ≤ 369 ∧ (0 : Int32).toNatClampNeg + (41 : Int32).toNatClampNeg ≤ 41 then _ else _) = _
  rw [e, if_pos ⟨z_nn (by omega), by decide, by decide, by rw [z_nat (by omega)]; show s * 41 + 41 ≤ 369; omega, by decide⟩, z_nat (by omega)]
  rfl
theorem ts_9 {s : Nat} (hs : s < 9) (u : mg_Rg) : T_hasSlot_9 (nN s) u = some 1 := by
  have e2 : (nN s + 1) * 19 = nN ((s + 1) * 19) := by
    show _ = Int32.ofNat ((s + 1) * 19)
    rw [Int32.ofNat_mul, Int32.ofNat_add]
    rfl
  unfold T_hasSlot_9
  have c1 : ¬ (9 : Int32) ≤ nN s := fun q => absurd ((z_le (a := 9) (by omega) (by omega)).mp q) (by omega)
  have c2 : ¬ (171 : Int32) < nN ((s + 1) * 19) := fun q => absurd ((z_lt (a := 171) (by omega) (by omega)).mp q) (by omega)
  rw [if_neg (z_nn (by omega)), if_neg c1, e2, if_neg c2]
theorem tk_9 {s : Nat} (hs : s < 9) (u : mg_Rg) : T_keepIn_9 (nN s) u = some (mg_rw u 11 (va_cpy (u 10) (u 11) 0 (s * 19) 19)) := by
  have e : nN s * 19 = nN (s * 19) := (Int32.ofNat_mul s 19).symm
  unfold T_keepIn_9
  rw [ts_9 hs]
  show (if ¬ (0 : Int32) < 0 ∧ ¬ (nN s * 19) < 0 ∧ ¬ (19 : Int32) < 0 ∧ (0 : Int32).toNatClampNeg + (19 : Int32).toNatClampNeg ≤ 19 ∧ (nN s * 19).toNatClampNeg + (19 : Int32).toNatClampNeg ≤ 171 then _ else _) = _
  rw [e, if_pos ⟨by decide, z_nn (by omega), by decide, by decide, by rw [z_nat (by omega)]; show s * 19 + 19 ≤ 171; omega⟩, z_nat (by omega)]
  rfl
theorem tb_9 {s : Nat} (hs : s < 9) (u : mg_Rg) : T_bringFrom_9 (nN s) u = some (mg_rw u 10 (va_cpy (u 11) (u 10) (s * 19) 0 19)) := by
  have e : nN s * 19 = nN (s * 19) := (Int32.ofNat_mul s 19).symm
  unfold T_bringFrom_9
  rw [ts_9 hs]
  show (if ¬ (nN s * 19) < 0 ∧ ¬ (0 : Int32) < 0 ∧ ¬ (19 : Int32) < 0 ∧ (nN s * 19).toNatClampNeg + (19 : Int32).toNatClampNeg ≤ 171 ∧ (0 : Int32).toNatClampNeg + (19 : Int32).toNatClampNeg ≤ 19 then _ else _) = _
  rw [e, if_pos ⟨z_nn (by omega), by decide, by decide, by rw [z_nat (by omega)]; show s * 19 + 19 ≤ 171; omega, by decide⟩, z_nat (by omega)]
  rfl
theorem ts_12 {s : Nat} (hs : s < 9) (u : mg_Rg) : T_hasSlot_12 (nN s) u = some 1 := by
  have e2 : (nN s + 1) * 4 = nN ((s + 1) * 4) := by
    show _ = Int32.ofNat ((s + 1) * 4)
    rw [Int32.ofNat_mul, Int32.ofNat_add]
    rfl
  unfold T_hasSlot_12
  have c1 : ¬ (9 : Int32) ≤ nN s := fun q => absurd ((z_le (a := 9) (by omega) (by omega)).mp q) (by omega)
  have c2 : ¬ (36 : Int32) < nN ((s + 1) * 4) := fun q => absurd ((z_lt (a := 36) (by omega) (by omega)).mp q) (by omega)
  rw [if_neg (z_nn (by omega)), if_neg c1, e2, if_neg c2]
theorem tk_12 {s : Nat} (hs : s < 9) (u : mg_Rg) : T_keepIn_12 (nN s) u = some (mg_rw u 14 (va_cpy (u 13) (u 14) 0 (s * 4) 4)) := by
  have e : nN s * 4 = nN (s * 4) := (Int32.ofNat_mul s 4).symm
  unfold T_keepIn_12
  rw [ts_12 hs]
  show (if ¬ (0 : Int32) < 0 ∧ ¬ (nN s * 4) < 0 ∧ ¬ (4 : Int32) < 0 ∧ (0 : Int32).toNatClampNeg + (4 : Int32).toNatClampNeg ≤ 4 ∧ (nN s * 4).toNatClampNeg + (4 : Int32).toNatClampNeg ≤ 36 then _ else _) = _
  rw [e, if_pos ⟨by decide, z_nn (by omega), by decide, by decide, by rw [z_nat (by omega)]; show s * 4 + 4 ≤ 36; omega⟩, z_nat (by omega)]
  rfl
theorem tb_12 {s : Nat} (hs : s < 9) (u : mg_Rg) : T_bringFrom_12 (nN s) u = some (mg_rw u 13 (va_cpy (u 14) (u 13) (s * 4) 0 4)) := by
  have e : nN s * 4 = nN (s * 4) := (Int32.ofNat_mul s 4).symm
  unfold T_bringFrom_12
  rw [ts_12 hs]
  show (if ¬ (nN s * 4) < 0 ∧ ¬ (0 : Int32) < 0 ∧ ¬ (4 : Int32) < 0 ∧ (nN s * 4).toNatClampNeg + (4 : Int32).toNatClampNeg ≤ 36 ∧ (0 : Int32).toNatClampNeg + (4 : Int32).toNatClampNeg ≤ 4 then _ else _) = _
  rw [e, if_pos ⟨z_nn (by omega), by decide, by decide, by rw [z_nat (by omega)]; show s * 4 + 4 ≤ 36; omega, by decide⟩, z_nat (by omega)]
  rfl
theorem ts_16 {s : Nat} (hs : s < 9) (u : mg_Rg) : T_hasSlot_16 (nN s) u = some 1 := by
  have e2 : (nN s + 1) * 4 = nN ((s + 1) * 4) := by
    show _ = Int32.ofNat ((s + 1) * 4)
    rw [Int32.ofNat_mul, Int32.ofNat_add]
    rfl
  unfold T_hasSlot_16
  have c1 : ¬ (9 : Int32) ≤ nN s := fun q => absurd ((z_le (a := 9) (by omega) (by omega)).mp q) (by omega)
  have c2 : ¬ (36 : Int32) < nN ((s + 1) * 4) := fun q => absurd ((z_lt (a := 36) (by omega) (by omega)).mp q) (by omega)
  rw [if_neg (z_nn (by omega)), if_neg c1, e2, if_neg c2]
theorem tk_16 {s : Nat} (hs : s < 9) (u : mg_Rg) : T_keepIn_16 (nN s) u = some (mg_rw u 18 (va_cpy (u 17) (u 18) 0 (s * 4) 4)) := by
  have e : nN s * 4 = nN (s * 4) := (Int32.ofNat_mul s 4).symm
  unfold T_keepIn_16
  rw [ts_16 hs]
  show (if ¬ (0 : Int32) < 0 ∧ ¬ (nN s * 4) < 0 ∧ ¬ (4 : Int32) < 0 ∧ (0 : Int32).toNatClampNeg + (4 : Int32).toNatClampNeg ≤ 4 ∧ (nN s * 4).toNatClampNeg + (4 : Int32).toNatClampNeg ≤ 36 then _ else _) = _
  rw [e, if_pos ⟨by decide, z_nn (by omega), by decide, by decide, by rw [z_nat (by omega)]; show s * 4 + 4 ≤ 36; omega⟩, z_nat (by omega)]
  rfl
theorem tb_16 {s : Nat} (hs : s < 9) (u : mg_Rg) : T_bringFrom_16 (nN s) u = some (mg_rw u 17 (va_cpy (u 18) (u 17) (s * 4) 0 4)) := by
  have e : nN s * 4 = nN (s * 4) := (Int32.ofNat_mul s 4).symm
  unfold T_bringFrom_16
  rw [ts_16 hs]
  show (if ¬ (nN s * 4) < 0 ∧ ¬ (0 : Int32) < 0 ∧ ¬ (4 : Int32) < 0 ∧ (nN s * 4).toNatClampNeg + (4 : Int32).toNatClampNeg ≤ 36 ∧ (0 : Int32).toNatClampNeg + (4 : Int32).toNatClampNeg ≤ 4 then _ else _) = _
  rw [e, if_pos ⟨z_nn (by omega), by decide, by decide, by rw [z_nat (by omega)]; show s * 4 + 4 ≤ 36; omega, by decide⟩, z_nat (by omega)]
  rfl
theorem ts_19 {s : Nat} (hs : s < 9) (u : mg_Rg) : T_hasSlot_19 (nN s) u = some 1 := by
  have e2 : (nN s + 1) * 9 = nN ((s + 1) * 9) := by
    show _ = Int32.ofNat ((s + 1) * 9)
    rw [Int32.ofNat_mul, Int32.ofNat_add]
    rfl
  unfold T_hasSlot_19
  have c1 : ¬ (9 : Int32) ≤ nN s := fun q => absurd ((z_le (a := 9) (by omega) (by omega)).mp q) (by omega)
  have c2 : ¬ (81 : Int32) < nN ((s + 1) * 9) := fun q => absurd ((z_lt (a := 81) (by omega) (by omega)).mp q) (by omega)
  rw [if_neg (z_nn (by omega)), if_neg c1, e2, if_neg c2]
theorem tk_19 {s : Nat} (hs : s < 9) (u : mg_Rg) : T_keepIn_19 (nN s) u = some (mg_rw u 21 (va_cpy (u 20) (u 21) 0 (s * 9) 9)) := by
  have e : nN s * 9 = nN (s * 9) := (Int32.ofNat_mul s 9).symm
  unfold T_keepIn_19
  rw [ts_19 hs]
  show (if ¬ (0 : Int32) < 0 ∧ ¬ (nN s * 9) < 0 ∧ ¬ (9 : Int32) < 0 ∧ (0 : Int32).toNatClampNeg + (9 : Int32).toNatClampNeg ≤ 9 ∧ (nN s * 9).toNatClampNeg + (9 : Int32).toNatClampNeg ≤ 81 then _ else _) = _
  rw [e, if_pos ⟨by decide, z_nn (by omega), by decide, by decide, by rw [z_nat (by omega)]; show s * 9 + 9 ≤ 81; omega⟩, z_nat (by omega)]
  rfl
theorem tb_19 {s : Nat} (hs : s < 9) (u : mg_Rg) : T_bringFrom_19 (nN s) u = some (mg_rw u 20 (va_cpy (u 21) (u 20) (s * 9) 0 9)) := by
  have e : nN s * 9 = nN (s * 9) := (Int32.ofNat_mul s 9).symm
  unfold T_bringFrom_19
  rw [ts_19 hs]
  show (if ¬ (nN s * 9) < 0 ∧ ¬ (0 : Int32) < 0 ∧ ¬ (9 : Int32) < 0 ∧ (nN s * 9).toNatClampNeg + (9 : Int32).toNatClampNeg ≤ 81 ∧ (0 : Int32).toNatClampNeg + (9 : Int32).toNatClampNeg ≤ 9 then _ else _) = _
  rw [e, if_pos ⟨z_nn (by omega), by decide, by decide, by rw [z_nat (by omega)]; show s * 9 + 9 ≤ 81; omega, by decide⟩, z_nat (by omega)]
  rfl
theorem ts_22 {s : Nat} (hs : s < 9) (u : mg_Rg) : T_hasSlot_22 (nN s) u = some 1 := by
  have e2 : (nN s + 1) * 55 = nN ((s + 1) * 55) := by
    show _ = Int32.ofNat ((s + 1) * 55)
    rw [Int32.ofNat_mul, Int32.ofNat_add]
    rfl
  unfold T_hasSlot_22
  have c1 : ¬ (9 : Int32) ≤ nN s := fun q => absurd ((z_le (a := 9) (by omega) (by omega)).mp q) (by omega)
  have c2 : ¬ (495 : Int32) < nN ((s + 1) * 55) := fun q => absurd ((z_lt (a := 495) (by omega) (by omega)).mp q) (by omega)
  rw [if_neg (z_nn (by omega)), if_neg c1, e2, if_neg c2]
theorem tk_22 {s : Nat} (hs : s < 9) (u : mg_Rg) : T_keepIn_22 (nN s) u = some (mg_rw u 24 (va_cpy (u 23) (u 24) 0 (s * 55) 55)) := by
  have e : nN s * 55 = nN (s * 55) := (Int32.ofNat_mul s 55).symm
  unfold T_keepIn_22
  rw [ts_22 hs]
  show (if ¬ (0 : Int32) < 0 ∧ ¬ (nN s * 55) < 0 ∧ ¬ (55 : Int32) < 0 ∧ (0 : Int32).toNatClampNeg + (55 : Int32).toNatClampNeg ≤ 55 ∧ (nN s * 55).toNatClampNeg + (55 : Int32).toNatClampNeg ≤ 495 then _ else _) = _
  rw [e, if_pos ⟨by decide, z_nn (by omega), by decide, by decide, by rw [z_nat (by omega)]; show s * 55 + 55 ≤ 495; omega⟩, z_nat (by omega)]
  rfl
theorem tb_22 {s : Nat} (hs : s < 9) (u : mg_Rg) : T_bringFrom_22 (nN s) u = some (mg_rw u 23 (va_cpy (u 24) (u 23) (s * 55) 0 55)) := by
  have e : nN s * 55 = nN (s * 55) := (Int32.ofNat_mul s 55).symm
  unfold T_bringFrom_22
  rw [ts_22 hs]
  show (if ¬ (nN s * 55) < 0 ∧ ¬ (0 : Int32) < 0 ∧ ¬ (55 : Int32) < 0 ∧ (nN s * 55).toNatClampNeg + (55 : Int32).toNatClampNeg ≤ 495 ∧ (0 : Int32).toNatClampNeg + (55 : Int32).toNatClampNeg ≤ 55 then _ else _) = _
  rw [e, if_pos ⟨z_nn (by omega), by decide, by decide, by rw [z_nat (by omega)]; show s * 55 + 55 ≤ 495; omega, by decide⟩, z_nat (by omega)]
  rfl
theorem ts_25 {s : Nat} (hs : s < 9) (u : mg_Rg) : T_hasSlot_25 (nN s) u = some 1 := by
  have e2 : (nN s + 1) * 451 = nN ((s + 1) * 451) := by
    show _ = Int32.ofNat ((s + 1) * 451)
    rw [Int32.ofNat_mul, Int32.ofNat_add]
    rfl
  unfold T_hasSlot_25
  have c1 : ¬ (9 : Int32) ≤ nN s := fun q => absurd ((z_le (a := 9) (by omega) (by omega)).mp q) (by omega)
  have c2 : ¬ (4059 : Int32) < nN ((s + 1) * 451) := fun q => absurd ((z_lt (a := 4059) (by omega) (by omega)).mp q) (by omega)
  rw [if_neg (z_nn (by omega)), if_neg c1, e2, if_neg c2]
theorem tk_25 {s : Nat} (hs : s < 9) (u : mg_Rg) : T_keepIn_25 (nN s) u = some (mg_rw u 27 (va_cpy (u 26) (u 27) 0 (s * 451) 451)) := by
  have e : nN s * 451 = nN (s * 451) := (Int32.ofNat_mul s 451).symm
  unfold T_keepIn_25
  rw [ts_25 hs]
  show (if ¬ (0 : Int32) < 0 ∧ ¬ (nN s * 451) < 0 ∧ ¬ (451 : Int32) < 0 ∧ (0 : Int32).toNatClampNeg + (451 : Int32).toNatClampNeg ≤ 451 ∧ (nN s * 451).toNatClampNeg + (451 : Int32).toNatClampNeg ≤ 4059 then _ else _) = _
  rw [e, if_pos ⟨by decide, z_nn (by omega), by decide, by decide, by rw [z_nat (by omega)]; show s * 451 + 451 ≤ 4059; omega⟩, z_nat (by omega)]
  rfl
theorem tb_25 {s : Nat} (hs : s < 9) (u : mg_Rg) : T_bringFrom_25 (nN s) u = some (mg_rw u 26 (va_cpy (u 27) (u 26) (s * 451) 0 451)) := by
  have e : nN s * 451 = nN (s * 451) := (Int32.ofNat_mul s 451).symm
  unfold T_bringFrom_25
  rw [ts_25 hs]
  show (if ¬ (nN s * 451) < 0 ∧ ¬ (0 : Int32) < 0 ∧ ¬ (451 : Int32) < 0 ∧ (nN s * 451).toNatClampNeg + (451 : Int32).toNatClampNeg ≤ 4059 ∧ (0 : Int32).toNatClampNeg + (451 : Int32).toNatClampNeg ≤ 451 then _ else _) = _
  rw [e, if_pos ⟨z_nn (by omega), by decide, by decide, by rw [z_nat (by omega)]; show s * 451 + 451 ≤ 4059; omega, by decide⟩, z_nat (by omega)]
  rfl
theorem ts_30 {s : Nat} (hs : s < 9) (u : mg_Rg) : T_hasSlot_30 (nN s) u = some 1 := by
  have e2 : (nN s + 1) * 9 = nN ((s + 1) * 9) := by
    show _ = Int32.ofNat ((s + 1) * 9)
    rw [Int32.ofNat_mul, Int32.ofNat_add]
    rfl
  unfold T_hasSlot_30
  have c1 : ¬ (9 : Int32) ≤ nN s := fun q => absurd ((z_le (a := 9) (by omega) (by omega)).mp q) (by omega)
  have c2 : ¬ (81 : Int32) < nN ((s + 1) * 9) := fun q => absurd ((z_lt (a := 81) (by omega) (by omega)).mp q) (by omega)
  rw [if_neg (z_nn (by omega)), if_neg c1, e2, if_neg c2]
theorem tk_30 {s : Nat} (hs : s < 9) (u : mg_Rg) : T_keepIn_30 (nN s) u = some (mg_rw u 32 (va_cpy (u 31) (u 32) 0 (s * 9) 9)) := by
  have e : nN s * 9 = nN (s * 9) := (Int32.ofNat_mul s 9).symm
  unfold T_keepIn_30
  rw [ts_30 hs]
  show (if ¬ (0 : Int32) < 0 ∧ ¬ (nN s * 9) < 0 ∧ ¬ (9 : Int32) < 0 ∧ (0 : Int32).toNatClampNeg + (9 : Int32).toNatClampNeg ≤ 9 ∧ (nN s * 9).toNatClampNeg + (9 : Int32).toNatClampNeg ≤ 81 then _ else _) = _
  rw [e, if_pos ⟨by decide, z_nn (by omega), by decide, by decide, by rw [z_nat (by omega)]; show s * 9 + 9 ≤ 81; omega⟩, z_nat (by omega)]
  rfl
theorem tb_30 {s : Nat} (hs : s < 9) (u : mg_Rg) : T_bringFrom_30 (nN s) u = some (mg_rw u 31 (va_cpy (u 32) (u 31) (s * 9) 0 9)) := by
  have e : nN s * 9 = nN (s * 9) := (Int32.ofNat_mul s 9).symm
  unfold T_bringFrom_30
  rw [ts_30 hs]
  show (if ¬ (nN s * 9) < 0 ∧ ¬ (0 : Int32) < 0 ∧ ¬ (9 : Int32) < 0 ∧ (nN s * 9).toNatClampNeg + (9 : Int32).toNatClampNeg ≤ 81 ∧ (0 : Int32).toNatClampNeg + (9 : Int32).toNatClampNeg ≤ 9 then _ else _) = _
  rw [e, if_pos ⟨z_nn (by omega), by decide, by decide, by rw [z_nat (by omega)]; show s * 9 + 9 ≤ 81; omega, by decide⟩, z_nat (by omega)]
  rfl
