/-! PHASE 2: SMALL NUMBERS -/
theorem z_lt {a b : Nat} (ha : a < 2147483648) (hb : b < 2147483648) : (Int32.ofNat a < Int32.ofNat b) ↔ a < b := by
  rw [Int32.lt_iff_toInt_lt, Int32.toInt_ofNat_of_lt ha, Int32.toInt_ofNat_of_lt hb]
  omega
theorem z_le {a b : Nat} (ha : a < 2147483648) (hb : b < 2147483648) : (Int32.ofNat a ≤ Int32.ofNat b) ↔ a ≤ b := by
  rw [Int32.le_iff_toInt_le, Int32.toInt_ofNat_of_lt ha, Int32.toInt_ofNat_of_lt hb]
  omega
theorem z_inj {a b : Nat} (ha : a < 2147483648) (hb : b < 2147483648) : (Int32.ofNat a = Int32.ofNat b) ↔ a = b := by
  rw [← Int32.toInt_inj, Int32.toInt_ofNat_of_lt ha, Int32.toInt_ofNat_of_lt hb]
  omega
theorem z_nn {a : Nat} (ha : a < 2147483648) : ¬ Int32.ofNat a < 0 := by
  rw [show (0 : Int32) = Int32.ofNat 0 from rfl, z_lt ha (by omega)]
  omega
theorem z_nat {a : Nat} (ha : a < 2147483648) : (Int32.ofNat a).toNatClampNeg = a := Int32.toNatClampNeg_ofNat_of_lt ha
theorem z_of {x : Int32} (h : ¬ x < 0) : ∃ n : Nat, n < 2147483648 ∧ x = Int32.ofNat n := by
  refine ⟨x.toNatClampNeg, Int32.toNatClampNeg_lt x, ?_⟩
  rw [Int32.lt_iff_toInt_lt] at h
  rw [← Int32.toInt_inj, Int32.toInt_ofNat_of_lt (Int32.toNatClampNeg_lt x)]
  have h0 : (0 : Int32).toInt = 0 := rfl
  rw [h0] at h
  show x.toInt = ((x.toInt.toNat : Nat) : Int)
  omega
theorem tg_3 {r j : Nat} (hr : r < 20) (hj : j < 3) (u : mg_Rg) : T_get_3 (Int32.ofNat r) (Int32.ofNat j) u = some (u 4 (1 + r * 3 + j)) := by
  have e : ((1 + (Int32.ofNat r * 3)) + Int32.ofNat j) = Int32.ofNat (1 + r * 3 + j) := by rw [Int32.ofNat_add, Int32.ofNat_add, Int32.ofNat_mul]; rfl
  have c1 : ¬ Int32.ofNat r < 0 := z_nn (by omega)
  have c2 : ¬ (20 : Int32) ≤ Int32.ofNat r := fun h => absurd ((z_le (a := 20) (by omega) (by omega)).mp h) (by omega)
  have c3 : ¬ Int32.ofNat j < 0 := z_nn (by omega)
  have c4 : Int32.ofNat j < (3 : Int32) := (z_lt (b := 3) (by omega) (by omega)).mpr hj
  have c5 : ¬ Int32.ofNat (1 + r * 3 + j) < 0 := z_nn (by omega)
  have c6 : ¬ (61 : Int32) ≤ Int32.ofNat (1 + r * 3 + j) := fun h => absurd ((z_le (a := 61) (by omega) (by omega)).mp h) (by omega)
  have c7 : ¬ (Int32.ofNat (1 + r * 3 + j) < 0 ∨ 61 ≤ (Int32.ofNat (1 + r * 3 + j)).toNatClampNeg) := by rw [z_nat (by omega)]; exact fun h => h.elim c5 (by omega)
  unfold T_get_3
  rw [if_neg c1, if_neg c2, if_neg c3, if_pos c4, e, if_neg c5, if_neg c6, if_neg c7, z_nat (by omega)]
theorem tp_3 {r j : Nat} (hr : r < 20) (hj : j < 3) (v : Int32) (u : mg_Rg) : T_put_3 (Int32.ofNat r) (Int32.ofNat j) v u = some (mg_up u 4 (1 + r * 3 + j) v) := by
  have e : ((1 + (Int32.ofNat r * 3)) + Int32.ofNat j) = Int32.ofNat (1 + r * 3 + j) := by rw [Int32.ofNat_add, Int32.ofNat_add, Int32.ofNat_mul]; rfl
  have c1 : ¬ Int32.ofNat r < 0 := z_nn (by omega)
  have c2 : ¬ (20 : Int32) ≤ Int32.ofNat r := fun h => absurd ((z_le (a := 20) (by omega) (by omega)).mp h) (by omega)
  have c3 : ¬ Int32.ofNat j < 0 := z_nn (by omega)
  have c4 : Int32.ofNat j < (3 : Int32) := (z_lt (b := 3) (by omega) (by omega)).mpr hj
  have c5 : ¬ Int32.ofNat (1 + r * 3 + j) < 0 := z_nn (by omega)
  have c6 : ¬ (61 : Int32) ≤ Int32.ofNat (1 + r * 3 + j) := fun h => absurd ((z_le (a := 61) (by omega) (by omega)).mp h) (by omega)
  have c7 : ¬ (Int32.ofNat (1 + r * 3 + j) < 0 ∨ 61 ≤ (Int32.ofNat (1 + r * 3 + j)).toNatClampNeg) := by rw [z_nat (by omega)]; exact fun h => h.elim c5 (by omega)
  unfold T_put_3
  rw [if_neg c1, if_neg c2, if_neg c3, if_pos c4, e, if_neg c5, if_neg c6, if_neg c7, z_nat (by omega)]
theorem tg_6 {r j : Nat} (hr : r < 10) (hj : j < 4) (u : mg_Rg) : T_get_6 (Int32.ofNat r) (Int32.ofNat j) u = some (u 7 (1 + r * 4 + j)) := by
  have e : ((1 + (Int32.ofNat r * 4)) + Int32.ofNat j) = Int32.ofNat (1 + r * 4 + j) := by rw [Int32.ofNat_add, Int32.ofNat_add, Int32.ofNat_mul]; rfl
  have c1 : ¬ Int32.ofNat r < 0 := z_nn (by omega)
  have c2 : ¬ (10 : Int32) ≤ Int32.ofNat r := fun h => absurd ((z_le (a := 10) (by omega) (by omega)).mp h) (by omega)
  have c3 : ¬ Int32.ofNat j < 0 := z_nn (by omega)
  have c4 : Int32.ofNat j < (4 : Int32) := (z_lt (b := 4) (by omega) (by omega)).mpr hj
  have c5 : ¬ Int32.ofNat (1 + r * 4 + j) < 0 := z_nn (by omega)
  have c6 : ¬ (41 : Int32) ≤ Int32.ofNat (1 + r * 4 + j) := fun h => absurd ((z_le (a := 41) (by omega) (by omega)).mp h) (by omega)
  have c7 : ¬ (Int32.ofNat (1 + r * 4 + j) < 0 ∨ 41 ≤ (Int32.ofNat (1 + r * 4 + j)).toNatClampNeg) := by rw [z_nat (by omega)]; exact fun h => h.elim c5 (by omega)
  unfold T_get_6
  rw [if_neg c1, if_neg c2, if_neg c3, if_pos c4, e, if_neg c5, if_neg c6, if_neg c7, z_nat (by omega)]
theorem tp_6 {r j : Nat} (hr : r < 10) (hj : j < 4) (v : Int32) (u : mg_Rg) : T_put_6 (Int32.ofNat r) (Int32.ofNat j) v u = some (mg_up u 7 (1 + r * 4 + j) v) := by
  have e : ((1 + (Int32.ofNat r * 4)) + Int32.ofNat j) = Int32.ofNat (1 + r * 4 + j) := by rw [Int32.ofNat_add, Int32.ofNat_add, Int32.ofNat_mul]; rfl
  have c1 : ¬ Int32.ofNat r < 0 := z_nn (by omega)
  have c2 : ¬ (10 : Int32) ≤ Int32.ofNat r := fun h => absurd ((z_le (a := 10) (by omega) (by omega)).mp h) (by omega)
  have c3 : ¬ Int32.ofNat j < 0 := z_nn (by omega)
  have c4 : Int32.ofNat j < (4 : Int32) := (z_lt (b := 4) (by omega) (by omega)).mpr hj
  have c5 : ¬ Int32.ofNat (1 + r * 4 + j) < 0 := z_nn (by omega)
  have c6 : ¬ (41 : Int32) ≤ Int32.ofNat (1 + r * 4 + j) := fun h => absurd ((z_le (a := 41) (by omega) (by omega)).mp h) (by omega)
  have c7 : ¬ (Int32.ofNat (1 + r * 4 + j) < 0 ∨ 41 ≤ (Int32.ofNat (1 + r * 4 + j)).toNatClampNeg) := by rw [z_nat (by omega)]; exact fun h => h.elim c5 (by omega)
  unfold T_put_6
  rw [if_neg c1, if_neg c2, if_neg c3, if_pos c4, e, if_neg c5, if_neg c6, if_neg c7, z_nat (by omega)]
theorem tg_9 {r j : Nat} (hr : r < 6) (hj : j < 3) (u : mg_Rg) : T_get_9 (Int32.ofNat r) (Int32.ofNat j) u = some (u 10 (1 + r * 3 + j)) := by
  have e : ((1 + (Int32.ofNat r * 3)) + Int32.ofNat j) = Int32.ofNat (1 + r * 3 + j) := by rw [Int32.ofNat_add, Int32.ofNat_add, Int32.ofNat_mul]; rfl
  have c1 : ¬ Int32.ofNat r < 0 := z_nn (by omega)
  have c2 : ¬ (6 : Int32) ≤ Int32.ofNat r := fun h => absurd ((z_le (a := 6) (by omega) (by omega)).mp h) (by omega)
  have c3 : ¬ Int32.ofNat j < 0 := z_nn (by omega)
  have c4 : Int32.ofNat j < (3 : Int32) := (z_lt (b := 3) (by omega) (by omega)).mpr hj
  have c5 : ¬ Int32.ofNat (1 + r * 3 + j) < 0 := z_nn (by omega)
  have c6 : ¬ (19 : Int32) ≤ Int32.ofNat (1 + r * 3 + j) := fun h => absurd ((z_le (a := 19) (by omega) (by omega)).mp h) (by omega)
  have c7 : ¬ (Int32.ofNat (1 + r * 3 + j) < 0 ∨ 19 ≤ (Int32.ofNat (1 + r * 3 + j)).toNatClampNeg) := by rw [z_nat (by omega)]; exact fun h => h.elim c5 (by omega)
  unfold T_get_9
  rw [if_neg c1, if_neg c2, if_neg c3, if_pos c4, e, if_neg c5, if_neg c6, if_neg c7, z_nat (by omega)]
theorem tp_9 {r j : Nat} (hr : r < 6) (hj : j < 3) (v : Int32) (u : mg_Rg) : T_put_9 (Int32.ofNat r) (Int32.ofNat j) v u = some (mg_up u 10 (1 + r * 3 + j) v) := by
  have e : ((1 + (Int32.ofNat r * 3)) + Int32.ofNat j) = Int32.ofNat (1 + r * 3 + j) := by rw [Int32.ofNat_add, Int32.ofNat_add, Int32.ofNat_mul]; rfl
  have c1 : ¬ Int32.ofNat r < 0 := z_nn (by omega)
  have c2 : ¬ (6 : Int32) ≤ Int32.ofNat r := fun h => absurd ((z_le (a := 6) (by omega) (by omega)).mp h) (by omega)
  have c3 : ¬ Int32.ofNat j < 0 := z_nn (by omega)
  have c4 : Int32.ofNat j < (3 : Int32) := (z_lt (b := 3) (by omega) (by omega)).mpr hj
  have c5 : ¬ Int32.ofNat (1 + r * 3 + j) < 0 := z_nn (by omega)
  have c6 : ¬ (19 : Int32) ≤ Int32.ofNat (1 + r * 3 + j) := fun h => absurd ((z_le (a := 19) (by omega) (by omega)).mp h) (by omega)
  have c7 : ¬ (Int32.ofNat (1 + r * 3 + j) < 0 ∨ 19 ≤ (Int32.ofNat (1 + r * 3 + j)).toNatClampNeg) := by rw [z_nat (by omega)]; exact fun h => h.elim c5 (by omega)
  unfold T_put_9
  rw [if_neg c1, if_neg c2, if_neg c3, if_pos c4, e, if_neg c5, if_neg c6, if_neg c7, z_nat (by omega)]
theorem tg_12 {r j : Nat} (hr : r < 3) (hj : j < 1) (u : mg_Rg) : T_get_12 (Int32.ofNat r) (Int32.ofNat j) u = some (u 13 (1 + r * 1 + j)) := by
  have e : ((1 + (Int32.ofNat r * 1)) + Int32.ofNat j) = Int32.ofNat (1 + r * 1 + j) := by rw [Int32.ofNat_add, Int32.ofNat_add, Int32.ofNat_mul]; rfl
  have c1 : ¬ Int32.ofNat r < 0 := z_nn (by omega)
  have c2 : ¬ (3 : Int32) ≤ Int32.ofNat r := fun h => absurd ((z_le (a := 3) (by omega) (by omega)).mp h) (by omega)
  have c3 : ¬ Int32.ofNat j < 0 := z_nn (by omega)
  have c4 : Int32.ofNat j < (1 : Int32) := (z_lt (b := 1) (by omega) (by omega)).mpr hj
  have c5 : ¬ Int32.ofNat (1 + r * 1 + j) < 0 := z_nn (by omega)
  have c6 : ¬ (4 : Int32) ≤ Int32.ofNat (1 + r * 1 + j) := fun h => absurd ((z_le (a := 4) (by omega) (by omega)).mp h) (by omega)
  have c7 : ¬ (Int32.ofNat (1 + r * 1 + j) < 0 ∨ 4 ≤ (Int32.ofNat (1 + r * 1 + j)).toNatClampNeg) := by rw [z_nat (by omega)]; exact fun h => h.elim c5 (by omega)
  unfold T_get_12
  rw [if_neg c1, if_neg c2, if_neg c3, if_pos c4, e, if_neg c5, if_neg c6, if_neg c7, z_nat (by omega)]
theorem tp_12 {r j : Nat} (hr : r < 3) (hj : j < 1) (v : Int32) (u : mg_Rg) : T_put_12 (Int32.ofNat r) (Int32.ofNat j) v u = some (mg_up u 13 (1 + r * 1 + j) v) := by
  have e : ((1 + (Int32.ofNat r * 1)) + Int32.ofNat j) = Int32.ofNat (1 + r * 1 + j) := by rw [Int32.ofNat_add, Int32.ofNat_add, Int32.ofNat_mul]; rfl
  have c1 : ¬ Int32.ofNat r < 0 := z_nn (by omega)
  have c2 : ¬ (3 : Int32) ≤ Int32.ofNat r := fun h => absurd ((z_le (a := 3) (by omega) (by omega)).mp h) (by omega)
  have c3 : ¬ Int32.ofNat j < 0 := z_nn (by omega)
  have c4 : Int32.ofNat j < (1 : Int32) := (z_lt (b := 1) (by omega) (by omega)).mpr hj
  have c5 : ¬ Int32.ofNat (1 + r * 1 + j) < 0 := z_nn (by omega)
  have c6 : ¬ (4 : Int32) ≤ Int32.ofNat (1 + r * 1 + j) := fun h => absurd ((z_le (a := 4) (by omega) (by omega)).mp h) (by omega)
  have c7 : ¬ (Int32.ofNat (1 + r * 1 + j) < 0 ∨ 4 ≤ (Int32.ofNat (1 + r * 1 + j)).toNatClampNeg) := by rw [z_nat (by omega)]; exact fun h => h.elim c5 (by omega)
  unfold T_put_12
  rw [if_neg c1, if_neg c2, if_neg c3, if_pos c4, e, if_neg c5, if_neg c6, if_neg c7, z_nat (by omega)]
theorem tg_16 {r j : Nat} (hr : r < 3) (hj : j < 1) (u : mg_Rg) : T_get_16 (Int32.ofNat r) (Int32.ofNat j) u = some (u 17 (1 + r * 1 + j)) := by
  have e : ((1 + (Int32.ofNat r * 1)) + Int32.ofNat j) = Int32.ofNat (1 + r * 1 + j) := by rw [Int32.ofNat_add, Int32.ofNat_add, Int32.ofNat_mul]; rfl
  have c1 : ¬ Int32.ofNat r < 0 := z_nn (by omega)
  have c2 : ¬ (3 : Int32) ≤ Int32.ofNat r := fun h => absurd ((z_le (a := 3) (by omega) (by omega)).mp h) (by omega)
  have c3 : ¬ Int32.ofNat j < 0 := z_nn (by omega)
  have c4 : Int32.ofNat j < (1 : Int32) := (z_lt (b := 1) (by omega) (by omega)).mpr hj
  have c5 : ¬ Int32.ofNat (1 + r * 1 + j) < 0 := z_nn (by omega)
  have c6 : ¬ (4 : Int32) ≤ Int32.ofNat (1 + r * 1 + j) := fun h => absurd ((z_le (a := 4) (by omega) (by omega)).mp h) (by omega)
  have c7 : ¬ (Int32.ofNat (1 + r * 1 + j) < 0 ∨ 4 ≤ (Int32.ofNat (1 + r * 1 + j)).toNatClampNeg) := by rw [z_nat (by omega)]; exact fun h => h.elim c5 (by omega)
  unfold T_get_16
  rw [if_neg c1, if_neg c2, if_neg c3, if_pos c4, e, if_neg c5, if_neg c6, if_neg c7, z_nat (by omega)]
theorem tp_16 {r j : Nat} (hr : r < 3) (hj : j < 1) (v : Int32) (u : mg_Rg) : T_put_16 (Int32.ofNat r) (Int32.ofNat j) v u = some (mg_up u 17 (1 + r * 1 + j) v) := by
  have e : ((1 + (Int32.ofNat r * 1)) + Int32.ofNat j) = Int32.ofNat (1 + r * 1 + j) := by rw [Int32.ofNat_add, Int32.ofNat_add, Int32.ofNat_mul]; rfl
  have c1 : ¬ Int32.ofNat r < 0 := z_nn (by omega)
  have c2 : ¬ (3 : Int32) ≤ Int32.ofNat r := fun h => absurd ((z_le (a := 3) (by omega) (by omega)).mp h) (by omega)
  have c3 : ¬ Int32.ofNat j < 0 := z_nn (by omega)
  have c4 : Int32.ofNat j < (1 : Int32) := (z_lt (b := 1) (by omega) (by omega)).mpr hj
  have c5 : ¬ Int32.ofNat (1 + r * 1 + j) < 0 := z_nn (by omega)
  have c6 : ¬ (4 : Int32) ≤ Int32.ofNat (1 + r * 1 + j) := fun h => absurd ((z_le (a := 4) (by omega) (by omega)).mp h) (by omega)
  have c7 : ¬ (Int32.ofNat (1 + r * 1 + j) < 0 ∨ 4 ≤ (Int32.ofNat (1 + r * 1 + j)).toNatClampNeg) := by rw [z_nat (by omega)]; exact fun h => h.elim c5 (by omega)
  unfold T_put_16
  rw [if_neg c1, if_neg c2, if_neg c3, if_pos c4, e, if_neg c5, if_neg c6, if_neg c7, z_nat (by omega)]
theorem tg_19 {r j : Nat} (hr : r < 8) (hj : j < 1) (u : mg_Rg) : T_get_19 (Int32.ofNat r) (Int32.ofNat j) u = some (u 20 (1 + r * 1 + j)) := by
  have e : ((1 + (Int32.ofNat r * 1)) + Int32.ofNat j) = Int32.ofNat (1 + r * 1 + j) := by rw [Int32.ofNat_add, Int32.ofNat_add, Int32.ofNat_mul]; rfl
  have c1 : ¬ Int32.ofNat r < 0 := z_nn (by omega)
  have c2 : ¬ (8 : Int32) ≤ Int32.ofNat r := fun h => absurd ((z_le (a := 8) (by omega) (by omega)).mp h) (by omega)
  have c3 : ¬ Int32.ofNat j < 0 := z_nn (by omega)
  have c4 : Int32.ofNat j < (1 : Int32) := (z_lt (b := 1) (by omega) (by omega)).mpr hj
  have c5 : ¬ Int32.ofNat (1 + r * 1 + j) < 0 := z_nn (by omega)
  have c6 : ¬ (9 : Int32) ≤ Int32.ofNat (1 + r * 1 + j) := fun h => absurd ((z_le (a := 9) (by omega) (by omega)).mp h) (by omega)
  have c7 : ¬ (Int32.ofNat (1 + r * 1 + j) < 0 ∨ 9 ≤ (Int32.ofNat (1 + r * 1 + j)).toNatClampNeg) := by rw [z_nat (by omega)]; exact fun h => h.elim c5 (by omega)
  unfold T_get_19
  rw [if_neg c1, if_neg c2, if_neg c3, if_pos c4, e, if_neg c5, if_neg c6, if_neg c7, z_nat (by omega)]
theorem tp_19 {r j : Nat} (hr : r < 8) (hj : j < 1) (v : Int32) (u : mg_Rg) : T_put_19 (Int32.ofNat r) (Int32.ofNat j) v u = some (mg_up u 20 (1 + r * 1 + j) v) := by
  have e : ((1 + (Int32.ofNat r * 1)) + Int32.ofNat j) = Int32.ofNat (1 + r * 1 + j) := by rw [Int32.ofNat_add, Int32.ofNat_add, Int32.ofNat_mul]; rfl
  have c1 : ¬ Int32.ofNat r < 0 := z_nn (by omega)
  have c2 : ¬ (8 : Int32) ≤ Int32.ofNat r := fun h => absurd ((z_le (a := 8) (by omega) (by omega)).mp h) (by omega)
  have c3 : ¬ Int32.ofNat j < 0 := z_nn (by omega)
  have c4 : Int32.ofNat j < (1 : Int32) := (z_lt (b := 1) (by omega) (by omega)).mpr hj
  have c5 : ¬ Int32.ofNat (1 + r * 1 + j) < 0 := z_nn (by omega)
  have c6 : ¬ (9 : Int32) ≤ Int32.ofNat (1 + r * 1 + j) := fun h => absurd ((z_le (a := 9) (by omega) (by omega)).mp h) (by omega)
  have c7 : ¬ (Int32.ofNat (1 + r * 1 + j) < 0 ∨ 9 ≤ (Int32.ofNat (1 + r * 1 + j)).toNatClampNeg) := by rw [z_nat (by omega)]; exact fun h => h.elim c5 (by omega)
  unfold T_put_19
  rw [if_neg c1, if_neg c2, if_neg c3, if_pos c4, e, if_neg c5, if_neg c6, if_neg c7, z_nat (by omega)]
theorem tg_22 {r j : Nat} (hr : r < 6) (hj : j < 9) (u : mg_Rg) : T_get_22 (Int32.ofNat r) (Int32.ofNat j) u = some (u 23 (1 + r * 9 + j)) := by
  have e : ((1 + (Int32.ofNat r * 9)) + Int32.ofNat j) = Int32.ofNat (1 + r * 9 + j) := by rw [Int32.ofNat_add, Int32.ofNat_add, Int32.ofNat_mul]; rfl
  have c1 : ¬ Int32.ofNat r < 0 := z_nn (by omega)
  have c2 : ¬ (6 : Int32) ≤ Int32.ofNat r := fun h => absurd ((z_le (a := 6) (by omega) (by omega)).mp h) (by omega)
  have c3 : ¬ Int32.ofNat j < 0 := z_nn (by omega)
  have c4 : Int32.ofNat j < (9 : Int32) := (z_lt (b := 9) (by omega) (by omega)).mpr hj
  have c5 : ¬ Int32.ofNat (1 + r * 9 + j) < 0 := z_nn (by omega)
  have c6 : ¬ (55 : Int32) ≤ Int32.ofNat (1 + r * 9 + j) := fun h => absurd ((z_le (a := 55) (by omega) (by omega)).mp h) (by omega)
  have c7 : ¬ (Int32.ofNat (1 + r * 9 + j) < 0 ∨ 55 ≤ (Int32.ofNat (1 + r * 9 + j)).toNatClampNeg) := by rw [z_nat (by omega)]; exact fun h => h.elim c5 (by omega)
  unfold T_get_22
  rw [if_neg c1, if_neg c2, if_neg c3, if_pos c4, e, if_neg c5, if_neg c6, if_neg c7, z_nat (by omega)]
theorem tp_22 {r j : Nat} (hr : r < 6) (hj : j < 9) (v : Int32) (u : mg_Rg) : T_put_22 (Int32.ofNat r) (Int32.ofNat j) v u = some (mg_up u 23 (1 + r * 9 + j) v) := by
  have e : ((1 + (Int32.ofNat r * 9)) + Int32.ofNat j) = Int32.ofNat (1 + r * 9 + j) := by rw [Int32.ofNat_add, Int32.ofNat_add, Int32.ofNat_mul]; rfl
  have c1 : ¬ Int32.ofNat r < 0 := z_nn (by omega)
  have c2 : ¬ (6 : Int32) ≤ Int32.ofNat r := fun h => absurd ((z_le (a := 6) (by omega) (by omega)).mp h) (by omega)
  have c3 : ¬ Int32.ofNat j < 0 := z_nn (by omega)
  have c4 : Int32.ofNat j < (9 : Int32) := (z_lt (b := 9) (by omega) (by omega)).mpr hj
  have c5 : ¬ Int32.ofNat (1 + r * 9 + j) < 0 := z_nn (by omega)
  have c6 : ¬ (55 : Int32) ≤ Int32.ofNat (1 + r * 9 + j) := fun h => absurd ((z_le (a := 55) (by omega) (by omega)).mp h) (by omega)
  have c7 : ¬ (Int32.ofNat (1 + r * 9 + j) < 0 ∨ 55 ≤ (Int32.ofNat (1 + r * 9 + j)).toNatClampNeg) := by rw [z_nat (by omega)]; exact fun h => h.elim c5 (by omega)
  unfold T_put_22
  rw [if_neg c1, if_neg c2, if_neg c3, if_pos c4, e, if_neg c5, if_neg c6, if_neg c7, z_nat (by omega)]
theorem tg_25 {r j : Nat} (hr : r < 30) (hj : j < 15) (u : mg_Rg) : T_get_25 (Int32.ofNat r) (Int32.ofNat j) u = some (u 26 (1 + r * 15 + j)) := by
  have e : ((1 + (Int32.ofNat r * 15)) + Int32.ofNat j) = Int32.ofNat (1 + r * 15 + j) := by rw [Int32.ofNat_add, Int32.ofNat_add, Int32.ofNat_mul]; rfl
  have c1 : ¬ Int32.ofNat r < 0 := z_nn (by omega)
  have c2 : ¬ (30 : Int32) ≤ Int32.ofNat r := fun h => absurd ((z_le (a := 30) (by omega) (by omega)).mp h) (by omega)
  have c3 : ¬ Int32.ofNat j < 0 := z_nn (by omega)
  have c4 : Int32.ofNat j < (15 : Int32) := (z_lt (b := 15) (by omega) (by omega)).mpr hj
  have c5 : ¬ Int32.ofNat (1 + r * 15 + j) < 0 := z_nn (by omega)
  have c6 : ¬ (451 : Int32) ≤ Int32.ofNat (1 + r * 15 + j) := fun h => absurd ((z_le (a := 451) (by omega) (by omega)).mp h) (by omega)
  have c7 : ¬ (Int32.ofNat (1 + r * 15 + j) < 0 ∨ 451 ≤ (Int32.ofNat (1 + r * 15 + j)).toNatClampNeg) := by rw [z_nat (by omega)]; exact fun h => h.elim c5 (by omega)
  unfold T_get_25
  rw [if_neg c1, if_neg c2, if_neg c3, if_pos c4, e, if_neg c5, if_neg c6, if_neg c7, z_nat (by omega)]
theorem tp_25 {r j : Nat} (hr : r < 30) (hj : j < 15) (v : Int32) (u : mg_Rg) : T_put_25 (Int32.ofNat r) (Int32.ofNat j) v u = some (mg_up u 26 (1 + r * 15 + j) v) := by
  have e : ((1 + (Int32.ofNat r * 15)) + Int32.ofNat j) = Int32.ofNat (1 + r * 15 + j) := by rw [Int32.ofNat_add, Int32.ofNat_add, Int32.ofNat_mul]; rfl
  have c1 : ¬ Int32.ofNat r < 0 := z_nn (by omega)
  have c2 : ¬ (30 : Int32) ≤ Int32.ofNat r := fun h => absurd ((z_le (a := 30) (by omega) (by omega)).mp h) (by omega)
  have c3 : ¬ Int32.ofNat j < 0 := z_nn (by omega)
  have c4 : Int32.ofNat j < (15 : Int32) := (z_lt (b := 15) (by omega) (by omega)).mpr hj
  have c5 : ¬ Int32.ofNat (1 + r * 15 + j) < 0 := z_nn (by omega)
  have c6 : ¬ (451 : Int32) ≤ Int32.ofNat (1 + r * 15 + j) := fun h => absurd ((z_le (a := 451) (by omega) (by omega)).mp h) (by omega)
  have c7 : ¬ (Int32.ofNat (1 + r * 15 + j) < 0 ∨ 451 ≤ (Int32.ofNat (1 + r * 15 + j)).toNatClampNeg) := by rw [z_nat (by omega)]; exact fun h => h.elim c5 (by omega)
  unfold T_put_25
  rw [if_neg c1, if_neg c2, if_neg c3, if_pos c4, e, if_neg c5, if_neg c6, if_neg c7, z_nat (by omega)]
theorem tg_30 {r j : Nat} (hr : r < 4) (hj : j < 2) (u : mg_Rg) : T_get_30 (Int32.ofNat r) (Int32.ofNat j) u = some (u 31 (1 + r * 2 + j)) := by
  have e : ((1 + (Int32.ofNat r * 2)) + Int32.ofNat j) = Int32.ofNat (1 + r * 2 + j) := by rw [Int32.ofNat_add, Int32.ofNat_add, Int32.ofNat_mul]; rfl
  have c1 : ¬ Int32.ofNat r < 0 := z_nn (by omega)
  have c2 : ¬ (4 : Int32) ≤ Int32.ofNat r := fun h => absurd ((z_le (a := 4) (by omega) (by omega)).mp h) (by omega)
  have c3 : ¬ Int32.ofNat j < 0 := z_nn (by omega)
  have c4 : Int32.ofNat j < (2 : Int32) := (z_lt (b := 2) (by omega) (by omega)).mpr hj
  have c5 : ¬ Int32.ofNat (1 + r * 2 + j) < 0 := z_nn (by omega)
  have c6 : ¬ (9 : Int32) ≤ Int32.ofNat (1 + r * 2 + j) := fun h => absurd ((z_le (a := 9) (by omega) (by omega)).mp h) (by omega)
  have c7 : ¬ (Int32.ofNat (1 + r * 2 + j) < 0 ∨ 9 ≤ (Int32.ofNat (1 + r * 2 + j)).toNatClampNeg) := by rw [z_nat (by omega)]; exact fun h => h.elim c5 (by omega)
  unfold T_get_30
  rw [if_neg c1, if_neg c2, if_neg c3, if_pos c4, e, if_neg c5, if_neg c6, if_neg c7, z_nat (by omega)]
theorem tp_30 {r j : Nat} (hr : r < 4) (hj : j < 2) (v : Int32) (u : mg_Rg) : T_put_30 (Int32.ofNat r) (Int32.ofNat j) v u = some (mg_up u 31 (1 + r * 2 + j) v) := by
  have e : ((1 + (Int32.ofNat r * 2)) + Int32.ofNat j) = Int32.ofNat (1 + r * 2 + j) := by rw [Int32.ofNat_add, Int32.ofNat_add, Int32.ofNat_mul]; rfl
  have c1 : ¬ Int32.ofNat r < 0 := z_nn (by omega)
  have c2 : ¬ (4 : Int32) ≤ Int32.ofNat r := fun h => absurd ((z_le (a := 4) (by omega) (by omega)).mp h) (by omega)
  have c3 : ¬ Int32.ofNat j < 0 := z_nn (by omega)
  have c4 : Int32.ofNat j < (2 : Int32) := (z_lt (b := 2) (by omega) (by omega)).mpr hj
  have c5 : ¬ Int32.ofNat (1 + r * 2 + j) < 0 := z_nn (by omega)
  have c6 : ¬ (9 : Int32) ≤ Int32.ofNat (1 + r * 2 + j) := fun h => absurd ((z_le (a := 9) (by omega) (by omega)).mp h) (by omega)
  have c7 : ¬ (Int32.ofNat (1 + r * 2 + j) < 0 ∨ 9 ≤ (Int32.ofNat (1 + r * 2 + j)).toNatClampNeg) := by rw [z_nat (by omega)]; exact fun h => h.elim c5 (by omega)
  unfold T_put_30
  rw [if_neg c1, if_neg c2, if_neg c3, if_pos c4, e, if_neg c5, if_neg c6, if_neg c7, z_nat (by omega)]
theorem tg_34 {r j : Nat} (hr : r < 4) (hj : j < 2) (u : mg_Rg) : T_get_34 (Int32.ofNat r) (Int32.ofNat j) u = some (u 35 (1 + r * 2 + j)) := by
  have e : ((1 + (Int32.ofNat r * 2)) + Int32.ofNat j) = Int32.ofNat (1 + r * 2 + j) := by rw [Int32.ofNat_add, Int32.ofNat_add, Int32.ofNat_mul]; rfl
  have c1 : ¬ Int32.ofNat r < 0 := z_nn (by omega)
  have c2 : ¬ (4 : Int32) ≤ Int32.ofNat r := fun h => absurd ((z_le (a := 4) (by omega) (by omega)).mp h) (by omega)
  have c3 : ¬ Int32.ofNat j < 0 := z_nn (by omega)
  have c4 : Int32.ofNat j < (2 : Int32) := (z_lt (b := 2) (by omega) (by omega)).mpr hj
  have c5 : ¬ Int32.ofNat (1 + r * 2 + j) < 0 := z_nn (by omega)
  have c6 : ¬ (9 : Int32) ≤ Int32.ofNat (1 + r * 2 + j) := fun h => absurd ((z_le (a := 9) (by omega) (by omega)).mp h) (by omega)
  have c7 : ¬ (Int32.ofNat (1 + r * 2 + j) < 0 ∨ 9 ≤ (Int32.ofNat (1 + r * 2 + j)).toNatClampNeg) := by rw [z_nat (by omega)]; exact fun h => h.elim c5 (by omega)
  unfold T_get_34
  rw [if_neg c1, if_neg c2, if_neg c3, if_pos c4, e, if_neg c5, if_neg c6, if_neg c7, z_nat (by omega)]
theorem tp_34 {r j : Nat} (hr : r < 4) (hj : j < 2) (v : Int32) (u : mg_Rg) : T_put_34 (Int32.ofNat r) (Int32.ofNat j) v u = some (mg_up u 35 (1 + r * 2 + j) v) := by
  have e : ((1 + (Int32.ofNat r * 2)) + Int32.ofNat j) = Int32.ofNat (1 + r * 2 + j) := by rw [Int32.ofNat_add, Int32.ofNat_add, Int32.ofNat_mul]; rfl
  have c1 : ¬ Int32.ofNat r < 0 := z_nn (by omega)
  have c2 : ¬ (4 : Int32) ≤ Int32.ofNat r := fun h => absurd ((z_le (a := 4) (by omega) (by omega)).mp h) (by omega)
  have c3 : ¬ Int32.ofNat j < 0 := z_nn (by omega)
  have c4 : Int32.ofNat j < (2 : Int32) := (z_lt (b := 2) (by omega) (by omega)).mpr hj
  have c5 : ¬ Int32.ofNat (1 + r * 2 + j) < 0 := z_nn (by omega)
  have c6 : ¬ (9 : Int32) ≤ Int32.ofNat (1 + r * 2 + j) := fun h => absurd ((z_le (a := 9) (by omega) (by omega)).mp h) (by omega)
  have c7 : ¬ (Int32.ofNat (1 + r * 2 + j) < 0 ∨ 9 ≤ (Int32.ofNat (1 + r * 2 + j)).toNatClampNeg) := by rw [z_nat (by omega)]; exact fun h => h.elim c5 (by omega)
  unfold T_put_34
  rw [if_neg c1, if_neg c2, if_neg c3, if_pos c4, e, if_neg c5, if_neg c6, if_neg c7, z_nat (by omega)]
theorem tg_39 {r j : Nat} (hr : r < 8) (hj : j < 13) (u : mg_Rg) : T_get_39 (Int32.ofNat r) (Int32.ofNat j) u = some (u 40 (1 + r * 13 + j)) := by
  have e : ((1 + (Int32.ofNat r * 13)) + Int32.ofNat j) = Int32.ofNat (1 + r * 13 + j) := by rw [Int32.ofNat_add, Int32.ofNat_add, Int32.ofNat_mul]; rfl
  have c1 : ¬ Int32.ofNat r < 0 := z_nn (by omega)
  have c2 : ¬ (8 : Int32) ≤ Int32.ofNat r := fun h => absurd ((z_le (a := 8) (by omega) (by omega)).mp h) (by omega)
  have c3 : ¬ Int32.ofNat j < 0 := z_nn (by omega)
  have c4 : Int32.ofNat j < (13 : Int32) := (z_lt (b := 13) (by omega) (by omega)).mpr hj
  have c5 : ¬ Int32.ofNat (1 + r * 13 + j) < 0 := z_nn (by omega)
  have c6 : ¬ (105 : Int32) ≤ Int32.ofNat (1 + r * 13 + j) := fun h => absurd ((z_le (a := 105) (by omega) (by omega)).mp h) (by omega)
  have c7 : ¬ (Int32.ofNat (1 + r * 13 + j) < 0 ∨ 105 ≤ (Int32.ofNat (1 + r * 13 + j)).toNatClampNeg) := by rw [z_nat (by omega)]; exact fun h => h.elim c5 (by omega)
  unfold T_get_39
  rw [if_neg c1, if_neg c2, if_neg c3, if_pos c4, e, if_neg c5, if_neg c6, if_neg c7, z_nat (by omega)]
theorem tp_39 {r j : Nat} (hr : r < 8) (hj : j < 13) (v : Int32) (u : mg_Rg) : T_put_39 (Int32.ofNat r) (Int32.ofNat j) v u = some (mg_up u 40 (1 + r * 13 + j) v) := by
  have e : ((1 + (Int32.ofNat r * 13)) + Int32.ofNat j) = Int32.ofNat (1 + r * 13 + j) := by rw [Int32.ofNat_add, Int32.ofNat_add, Int32.ofNat_mul]; rfl
  have c1 : ¬ Int32.ofNat r < 0 := z_nn (by omega)
  have c2 : ¬ (8 : Int32) ≤ Int32.ofNat r := fun h => absurd ((z_le (a := 8) (by omega) (by omega)).mp h) (by omega)
  have c3 : ¬ Int32.ofNat j < 0 := z_nn (by omega)
  have c4 : Int32.ofNat j < (13 : Int32) := (z_lt (b := 13) (by omega) (by omega)).mpr hj
  have c5 : ¬ Int32.ofNat (1 + r * 13 + j) < 0 := z_nn (by omega)
  have c6 : ¬ (105 : Int32) ≤ Int32.ofNat (1 + r * 13 + j) := fun h => absurd ((z_le (a := 105) (by omega) (by omega)).mp h) (by omega)
  have c7 : ¬ (Int32.ofNat (1 + r * 13 + j) < 0 ∨ 105 ≤ (Int32.ofNat (1 + r * 13 + j)).toNatClampNeg) := by rw [z_nat (by omega)]; exact fun h => h.elim c5 (by omega)
  unfold T_put_39
  rw [if_neg c1, if_neg c2, if_neg c3, if_pos c4, e, if_neg c5, if_neg c6, if_neg c7, z_nat (by omega)]
