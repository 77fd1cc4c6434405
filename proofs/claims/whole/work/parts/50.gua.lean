/-! GUARDS, INDICES, ROWS -/
theorem zz_10 : ((1 : Int32) = 0) = False := eq_false (by decide)
theorem zz_20 : ((2 : Int32) = 0) = False := eq_false (by decide)
theorem zo_0 (a : Nat) : nN a + 0 = nN a := (Int32.ofNat_add a 0).symm
theorem zg {α : Type} {k : Nat} {x y : α} (h : k < 690) : (if nN k < 0 ∨ 690 ≤ (nN k).toNatClampNeg then x else y) = y := by
  rw [if_neg]
  rw [z_nat (by omega)]
  exact fun q => q.elim (z_nn (by omega)) (by omega)
theorem zu_cell {u : mg_Rg} {k i j : Nat} {v : Int32} (h : j ≠ k) : mg_up u k i v j = u j := if_neg h
theorem zu_ne {u : mg_Rg} {k i j : Nat} {v : Int32} (h : j ≠ i) : mg_up u k i v k j = u k j := by rw [z_up_at, z_upd_ne h]
theorem zu_eq {u : mg_Rg} {k i : Nat} {v : Int32} : mg_up u k i v k i = v := by rw [z_up_at, z_upd_at]
theorem z_sub1 (n : Nat) : nN (n + 1) - 1 = nN n := by
  show Int32.ofNat (n + 1) - 1 = _
  rw [Int32.ofNat_add]
  exact Int32.add_sub_cancel _ _
theorem zb_10 (n : Nat) : (10 : Int32) + nN n = nN (10 + n) := (Int32.ofNat_add 10 n).symm
theorem zb_200 (n : Nat) : (200 : Int32) + nN n = nN (200 + n) := (Int32.ofNat_add 200 n).symm
theorem z_win_yes {a lo hi : Int32} {u : mg_Rg} (h : ¬ (a < lo ∨ hi < a)) : C_isWithin a lo hi u = some 1 := by rw [z_win, if_neg h]
theorem z_win_no {a lo hi : Int32} {u : mg_Rg} (h : a < lo ∨ hi < a) : C_isWithin a lo hi u = some 0 := by rw [z_win, if_pos h]
theorem z_min_yes {a lo hi : Int32} {u : mg_Rg} (h : ¬ (a < lo ∨ hi < a)) : M_in a lo hi u = some 1 := by rw [z_min, if_neg h]
theorem z_min_no {a lo hi : Int32} {u : mg_Rg} (h : a < lo ∨ hi < a) : M_in a lo hi u = some 0 := by rw [z_min, if_pos h]
theorem zo_1 (a : Nat) : nN a + 1 = nN (a + 1) := (Int32.ofNat_add a 1).symm
theorem zo_2 (a : Nat) : nN a + 2 = nN (a + 2) := (Int32.ofNat_add a 2).symm
theorem zo_3 (a : Nat) : nN a + 3 = nN (a + 3) := (Int32.ofNat_add a 3).symm
theorem zo_4 (a : Nat) : nN a + 4 = nN (a + 4) := (Int32.ofNat_add a 4).symm
theorem zo_5 (a : Nat) : nN a + 5 = nN (a + 5) := (Int32.ofNat_add a 5).symm
theorem zo_6 (a : Nat) : nN a + 6 = nN (a + 6) := (Int32.ofNat_add a 6).symm
theorem zo_7 (a : Nat) : nN a + 7 = nN (a + 7) := (Int32.ofNat_add a 7).symm
theorem zo_8 (a : Nat) : nN a + 8 = nN (a + 8) := (Int32.ofNat_add a 8).symm
theorem zo_9 (a : Nat) : nN a + 9 = nN (a + 9) := (Int32.ofNat_add a 9).symm
theorem zo_10 (a : Nat) : nN a + 10 = nN (a + 10) := (Int32.ofNat_add a 10).symm
theorem zo_11 (a : Nat) : nN a + 11 = nN (a + 11) := (Int32.ofNat_add a 11).symm
theorem zo_12 (a : Nat) : nN a + 12 = nN (a + 12) := (Int32.ofNat_add a 12).symm
theorem zo_13 (a : Nat) : nN a + 13 = nN (a + 13) := (Int32.ofNat_add a 13).symm
theorem zo_14 (a : Nat) : nN a + 14 = nN (a + 14) := (Int32.ofNat_add a 14).symm
theorem zo_15 (a : Nat) : nN a + 15 = nN (a + 15) := (Int32.ofNat_add a 15).symm
theorem zo_16 (a : Nat) : nN a + 16 = nN (a + 16) := (Int32.ofNat_add a 16).symm
theorem zb_20 (n : Nat) : (20 : Int32) + 3 * nN n = nN (20 + 3 * n) := by
  show _ = Int32.ofNat (20 + 3 * n)
  rw [Int32.ofNat_add, Int32.ofNat_mul]
  rfl
theorem zb_80 (n : Nat) : (80 : Int32) + 4 * nN n = nN (80 + 4 * n) := by
  show _ = Int32.ofNat (80 + 4 * n)
  rw [Int32.ofNat_add, Int32.ofNat_mul]
  rfl
theorem zb_120 (n : Nat) : (120 : Int32) + 3 * nN n = nN (120 + 3 * n) := by
  show _ = Int32.ofNat (120 + 3 * n)
  rw [Int32.ofNat_add, Int32.ofNat_mul]
  rfl
theorem zb_138 (n : Nat) : (138 : Int32) + 9 * nN n = nN (138 + 9 * n) := by
  show _ = Int32.ofNat (138 + 9 * n)
  rw [Int32.ofNat_add, Int32.ofNat_mul]
  rfl
theorem zb_192 (n : Nat) : (192 : Int32) + 2 * nN n = nN (192 + 2 * n) := by
  show _ = Int32.ofNat (192 + 2 * n)
  rw [Int32.ofNat_add, Int32.ofNat_mul]
  rfl
theorem zb_208 (n : Nat) : (208 : Int32) + 16 * nN n = nN (208 + 16 * n) := by
  show _ = Int32.ofNat (208 + 16 * n)
  rw [Int32.ofNat_add, Int32.ofNat_mul]
  rfl
theorem mheadAt_0 {n : Nat} (hn : n < 20) (u : mg_Rg) : M_headAt (nN n) 0 u = some (u 43 (20 + 3 * n)) := by
  unfold M_headAt
  rw [zb_20, zo_0, zg (by omega), z_nat (by omega)]
theorem mheadAt_1 {n : Nat} (hn : n < 20) (u : mg_Rg) : M_headAt (nN n) 1 u = some (u 43 (20 + 3 * n + 1)) := by
  unfold M_headAt
  rw [zb_20, zo_1, zg (by omega), z_nat (by omega)]
theorem mheadAt_2 {n : Nat} (hn : n < 20) (u : mg_Rg) : M_headAt (nN n) 2 u = some (u 43 (20 + 3 * n + 2)) := by
  unfold M_headAt
  rw [zb_20, zo_2, zg (by omega), z_nat (by omega)]
theorem mquotaAt_0 {n : Nat} (hn : n < 6) (u : mg_Rg) : M_quotaAt (nN n) 0 u = some (u 43 (138 + 9 * n)) := by
  unfold M_quotaAt
  rw [zb_138, zo_0, zg (by omega), z_nat (by omega)]
theorem mquotaAt_1 {n : Nat} (hn : n < 6) (u : mg_Rg) : M_quotaAt (nN n) 1 u = some (u 43 (138 + 9 * n + 1)) := by
  unfold M_quotaAt
  rw [zb_138, zo_1, zg (by omega), z_nat (by omega)]
theorem mquotaAt_2 {n : Nat} (hn : n < 6) (u : mg_Rg) : M_quotaAt (nN n) 2 u = some (u 43 (138 + 9 * n + 2)) := by
  unfold M_quotaAt
  rw [zb_138, zo_2, zg (by omega), z_nat (by omega)]
theorem mquotaAt_3 {n : Nat} (hn : n < 6) (u : mg_Rg) : M_quotaAt (nN n) 3 u = some (u 43 (138 + 9 * n + 3)) := by
  unfold M_quotaAt
  rw [zb_138, zo_3, zg (by omega), z_nat (by omega)]
theorem mquotaAt_4 {n : Nat} (hn : n < 6) (u : mg_Rg) : M_quotaAt (nN n) 4 u = some (u 43 (138 + 9 * n + 4)) := by
  unfold M_quotaAt
  rw [zb_138, zo_4, zg (by omega), z_nat (by omega)]
theorem mquotaAt_5 {n : Nat} (hn : n < 6) (u : mg_Rg) : M_quotaAt (nN n) 5 u = some (u 43 (138 + 9 * n + 5)) := by
  unfold M_quotaAt
  rw [zb_138, zo_5, zg (by omega), z_nat (by omega)]
theorem mquotaAt_6 {n : Nat} (hn : n < 6) (u : mg_Rg) : M_quotaAt (nN n) 6 u = some (u 43 (138 + 9 * n + 6)) := by
  unfold M_quotaAt
  rw [zb_138, zo_6, zg (by omega), z_nat (by omega)]
theorem mquotaAt_7 {n : Nat} (hn : n < 6) (u : mg_Rg) : M_quotaAt (nN n) 7 u = some (u 43 (138 + 9 * n + 7)) := by
  unfold M_quotaAt
  rw [zb_138, zo_7, zg (by omega), z_nat (by omega)]
theorem mquotaAt_8 {n : Nat} (hn : n < 6) (u : mg_Rg) : M_quotaAt (nN n) 8 u = some (u 43 (138 + 9 * n + 8)) := by
  unfold M_quotaAt
  rw [zb_138, zo_8, zg (by omega), z_nat (by omega)]
theorem mdeclAt_0 {n : Nat} (hn : n < 30) (u : mg_Rg) : M_declAt (nN n) 0 u = some (u 43 (208 + 16 * n)) := by
  unfold M_declAt
  rw [zb_208, zo_0, zg (by omega), z_nat (by omega)]
theorem mdeclAt_1 {n : Nat} (hn : n < 30) (u : mg_Rg) : M_declAt (nN n) 1 u = some (u 43 (208 + 16 * n + 1)) := by
  unfold M_declAt
  rw [zb_208, zo_1, zg (by omega), z_nat (by omega)]
theorem mdeclAt_2 {n : Nat} (hn : n < 30) (u : mg_Rg) : M_declAt (nN n) 2 u = some (u 43 (208 + 16 * n + 2)) := by
  unfold M_declAt
  rw [zb_208, zo_2, zg (by omega), z_nat (by omega)]
theorem mdeclAt_3 {n : Nat} (hn : n < 30) (u : mg_Rg) : M_declAt (nN n) 3 u = some (u 43 (208 + 16 * n + 3)) := by
  unfold M_declAt
  rw [zb_208, zo_3, zg (by omega), z_nat (by omega)]
theorem mdeclAt_4 {n : Nat} (hn : n < 30) (u : mg_Rg) : M_declAt (nN n) 4 u = some (u 43 (208 + 16 * n + 4)) := by
  unfold M_declAt
  rw [zb_208, zo_4, zg (by omega), z_nat (by omega)]
theorem mdeclAt_5 {n : Nat} (hn : n < 30) (u : mg_Rg) : M_declAt (nN n) 5 u = some (u 43 (208 + 16 * n + 5)) := by
  unfold M_declAt
  rw [zb_208, zo_5, zg (by omega), z_nat (by omega)]
theorem mdeclAt_6 {n : Nat} (hn : n < 30) (u : mg_Rg) : M_declAt (nN n) 6 u = some (u 43 (208 + 16 * n + 6)) := by
  unfold M_declAt
  rw [zb_208, zo_6, zg (by omega), z_nat (by omega)]
theorem mdeclAt_7 {n : Nat} (hn : n < 30) (u : mg_Rg) : M_declAt (nN n) 7 u = some (u 43 (208 + 16 * n + 7)) := by
  unfold M_declAt
  rw [zb_208, zo_7, zg (by omega), z_nat (by omega)]
theorem mdeclAt_8 {n : Nat} (hn : n < 30) (u : mg_Rg) : M_declAt (nN n) 8 u = some (u 43 (208 + 16 * n + 8)) := by
  unfold M_declAt
  rw [zb_208, zo_8, zg (by omega), z_nat (by omega)]
theorem mdeclAt_9 {n : Nat} (hn : n < 30) (u : mg_Rg) : M_declAt (nN n) 9 u = some (u 43 (208 + 16 * n + 9)) := by
  unfold M_declAt
  rw [zb_208, zo_9, zg (by omega), z_nat (by omega)]
theorem mdeclAt_10 {n : Nat} (hn : n < 30) (u : mg_Rg) : M_declAt (nN n) 10 u = some (u 43 (208 + 16 * n + 10)) := by
  unfold M_declAt
  rw [zb_208, zo_10, zg (by omega), z_nat (by omega)]
theorem mdeclAt_11 {n : Nat} (hn : n < 30) (u : mg_Rg) : M_declAt (nN n) 11 u = some (u 43 (208 + 16 * n + 11)) := by
  unfold M_declAt
  rw [zb_208, zo_11, zg (by omega), z_nat (by omega)]
theorem mdeclAt_12 {n : Nat} (hn : n < 30) (u : mg_Rg) : M_declAt (nN n) 12 u = some (u 43 (208 + 16 * n + 12)) := by
  unfold M_declAt
  rw [zb_208, zo_12, zg (by omega), z_nat (by omega)]
theorem mdeclAt_13 {n : Nat} (hn : n < 30) (u : mg_Rg) : M_declAt (nN n) 13 u = some (u 43 (208 + 16 * n + 13)) := by
  unfold M_declAt
  rw [zb_208, zo_13, zg (by omega), z_nat (by omega)]
theorem mdeclAt_14 {n : Nat} (hn : n < 30) (u : mg_Rg) : M_declAt (nN n) 14 u = some (u 43 (208 + 16 * n + 14)) := by
  unfold M_declAt
  rw [zb_208, zo_14, zg (by omega), z_nat (by omega)]
theorem rg_3_0 {r : Nat} (hr : r < 20) (u : mg_Rg) : T_get_3 (nN r) 0 u = some (u 4 (1 + r * 3)) := tg_3 (j := 0) hr (by omega) u
theorem rp_3_0 {r : Nat} (hr : r < 20) (v : Int32) (u : mg_Rg) : T_put_3 (nN r) 0 v u = some (mg_up u 4 (1 + r * 3) v) := tp_3 (j := 0) hr (by omega) v u
theorem rg_3_1 {r : Nat} (hr : r < 20) (u : mg_Rg) : T_get_3 (nN r) 1 u = some (u 4 (1 + r * 3 + 1)) := tg_3 (j := 1) hr (by omega) u
theorem rp_3_1 {r : Nat} (hr : r < 20) (v : Int32) (u : mg_Rg) : T_put_3 (nN r) 1 v u = some (mg_up u 4 (1 + r * 3 + 1) v) := tp_3 (j := 1) hr (by omega) v u
theorem rg_3_2 {r : Nat} (hr : r < 20) (u : mg_Rg) : T_get_3 (nN r) 2 u = some (u 4 (1 + r * 3 + 2)) := tg_3 (j := 2) hr (by omega) u
theorem rp_3_2 {r : Nat} (hr : r < 20) (v : Int32) (u : mg_Rg) : T_put_3 (nN r) 2 v u = some (mg_up u 4 (1 + r * 3 + 2) v) := tp_3 (j := 2) hr (by omega) v u
theorem rg_6_0 {r : Nat} (hr : r < 10) (u : mg_Rg) : T_get_6 (nN r) 0 u = some (u 7 (1 + r * 4)) := tg_6 (j := 0) hr (by omega) u
theorem rp_6_0 {r : Nat} (hr : r < 10) (v : Int32) (u : mg_Rg) : T_put_6 (nN r) 0 v u = some (mg_up u 7 (1 + r * 4) v) := tp_6 (j := 0) hr (by omega) v u
theorem rg_6_1 {r : Nat} (hr : r < 10) (u : mg_Rg) : T_get_6 (nN r) 1 u = some (u 7 (1 + r * 4 + 1)) := tg_6 (j := 1) hr (by omega) u
theorem rp_6_1 {r : Nat} (hr : r < 10) (v : Int32) (u : mg_Rg) : T_put_6 (nN r) 1 v u = some (mg_up u 7 (1 + r * 4 + 1) v) := tp_6 (j := 1) hr (by omega) v u
theorem rg_6_2 {r : Nat} (hr : r < 10) (u : mg_Rg) : T_get_6 (nN r) 2 u = some (u 7 (1 + r * 4 + 2)) := tg_6 (j := 2) hr (by omega) u
theorem rp_6_2 {r : Nat} (hr : r < 10) (v : Int32) (u : mg_Rg) : T_put_6 (nN r) 2 v u = some (mg_up u 7 (1 + r * 4 + 2) v) := tp_6 (j := 2) hr (by omega) v u
theorem rg_6_3 {r : Nat} (hr : r < 10) (u : mg_Rg) : T_get_6 (nN r) 3 u = some (u 7 (1 + r * 4 + 3)) := tg_6 (j := 3) hr (by omega) u
theorem rp_6_3 {r : Nat} (hr : r < 10) (v : Int32) (u : mg_Rg) : T_put_6 (nN r) 3 v u = some (mg_up u 7 (1 + r * 4 + 3) v) := tp_6 (j := 3) hr (by omega) v u
theorem rg_9_0 {r : Nat} (hr : r < 6) (u : mg_Rg) : T_get_9 (nN r) 0 u = some (u 10 (1 + r * 3)) := tg_9 (j := 0) hr (by omega) u
theorem rp_9_0 {r : Nat} (hr : r < 6) (v : Int32) (u : mg_Rg) : T_put_9 (nN r) 0 v u = some (mg_up u 10 (1 + r * 3) v) := tp_9 (j := 0) hr (by omega) v u
theorem rg_9_1 {r : Nat} (hr : r < 6) (u : mg_Rg) : T_get_9 (nN r) 1 u = some (u 10 (1 + r * 3 + 1)) := tg_9 (j := 1) hr (by omega) u
theorem rp_9_1 {r : Nat} (hr : r < 6) (v : Int32) (u : mg_Rg) : T_put_9 (nN r) 1 v u = some (mg_up u 10 (1 + r * 3 + 1) v) := tp_9 (j := 1) hr (by omega) v u
theorem rg_9_2 {r : Nat} (hr : r < 6) (u : mg_Rg) : T_get_9 (nN r) 2 u = some (u 10 (1 + r * 3 + 2)) := tg_9 (j := 2) hr (by omega) u
theorem rp_9_2 {r : Nat} (hr : r < 6) (v : Int32) (u : mg_Rg) : T_put_9 (nN r) 2 v u = some (mg_up u 10 (1 + r * 3 + 2) v) := tp_9 (j := 2) hr (by omega) v u
theorem rg_22_0 {r : Nat} (hr : r < 6) (u : mg_Rg) : T_get_22 (nN r) 0 u = some (u 23 (1 + r * 9)) := tg_22 (j := 0) hr (by omega) u
theorem rp_22_0 {r : Nat} (hr : r < 6) (v : Int32) (u : mg_Rg) : T_put_22 (nN r) 0 v u = some (mg_up u 23 (1 + r * 9) v) := tp_22 (j := 0) hr (by omega) v u
theorem rg_22_1 {r : Nat} (hr : r < 6) (u : mg_Rg) : T_get_22 (nN r) 1 u = some (u 23 (1 + r * 9 + 1)) := tg_22 (j := 1) hr (by omega) u
theorem rp_22_1 {r : Nat} (hr : r < 6) (v : Int32) (u : mg_Rg) : T_put_22 (nN r) 1 v u = some (mg_up u 23 (1 + r * 9 + 1) v) := tp_22 (j := 1) hr (by omega) v u
theorem rg_22_2 {r : Nat} (hr : r < 6) (u : mg_Rg) : T_get_22 (nN r) 2 u = some (u 23 (1 + r * 9 + 2)) := tg_22 (j := 2) hr (by omega) u
theorem rp_22_2 {r : Nat} (hr : r < 6) (v : Int32) (u : mg_Rg) : T_put_22 (nN r) 2 v u = some (mg_up u 23 (1 + r * 9 + 2) v) := tp_22 (j := 2) hr (by omega) v u
theorem rg_22_3 {r : Nat} (hr : r < 6) (u : mg_Rg) : T_get_22 (nN r) 3 u = some (u 23 (1 + r * 9 + 3)) := tg_22 (j := 3) hr (by omega) u
theorem rp_22_3 {r : Nat} (hr : r < 6) (v : Int32) (u : mg_Rg) : T_put_22 (nN r) 3 v u = some (mg_up u 23 (1 + r * 9 + 3) v) := tp_22 (j := 3) hr (by omega) v u
theorem rg_22_4 {r : Nat} (hr : r < 6) (u : mg_Rg) : T_get_22 (nN r) 4 u = some (u 23 (1 + r * 9 + 4)) := tg_22 (j := 4) hr (by omega) u
theorem rp_22_4 {r : Nat} (hr : r < 6) (v : Int32) (u : mg_Rg) : T_put_22 (nN r) 4 v u = some (mg_up u 23 (1 + r * 9 + 4) v) := tp_22 (j := 4) hr (by omega) v u
theorem rg_22_5 {r : Nat} (hr : r < 6) (u : mg_Rg) : T_get_22 (nN r) 5 u = some (u 23 (1 + r * 9 + 5)) := tg_22 (j := 5) hr (by omega) u
theorem rp_22_5 {r : Nat} (hr : r < 6) (v : Int32) (u : mg_Rg) : T_put_22 (nN r) 5 v u = some (mg_up u 23 (1 + r * 9 + 5) v) := tp_22 (j := 5) hr (by omega) v u
theorem rg_22_6 {r : Nat} (hr : r < 6) (u : mg_Rg) : T_get_22 (nN r) 6 u = some (u 23 (1 + r * 9 + 6)) := tg_22 (j := 6) hr (by omega) u
theorem rp_22_6 {r : Nat} (hr : r < 6) (v : Int32) (u : mg_Rg) : T_put_22 (nN r) 6 v u = some (mg_up u 23 (1 + r * 9 + 6) v) := tp_22 (j := 6) hr (by omega) v u
theorem rg_22_7 {r : Nat} (hr : r < 6) (u : mg_Rg) : T_get_22 (nN r) 7 u = some (u 23 (1 + r * 9 + 7)) := tg_22 (j := 7) hr (by omega) u
theorem rp_22_7 {r : Nat} (hr : r < 6) (v : Int32) (u : mg_Rg) : T_put_22 (nN r) 7 v u = some (mg_up u 23 (1 + r * 9 + 7) v) := tp_22 (j := 7) hr (by omega) v u
theorem rg_22_8 {r : Nat} (hr : r < 6) (u : mg_Rg) : T_get_22 (nN r) 8 u = some (u 23 (1 + r * 9 + 8)) := tg_22 (j := 8) hr (by omega) u
theorem rp_22_8 {r : Nat} (hr : r < 6) (v : Int32) (u : mg_Rg) : T_put_22 (nN r) 8 v u = some (mg_up u 23 (1 + r * 9 + 8) v) := tp_22 (j := 8) hr (by omega) v u
theorem rg_25_0 {r : Nat} (hr : r < 30) (u : mg_Rg) : T_get_25 (nN r) 0 u = some (u 26 (1 + r * 15)) := tg_25 (j := 0) hr (by omega) u
theorem rp_25_0 {r : Nat} (hr : r < 30) (v : Int32) (u : mg_Rg) : T_put_25 (nN r) 0 v u = some (mg_up u 26 (1 + r * 15) v) := tp_25 (j := 0) hr (by omega) v u
theorem rg_25_1 {r : Nat} (hr : r < 30) (u : mg_Rg) : T_get_25 (nN r) 1 u = some (u 26 (1 + r * 15 + 1)) := tg_25 (j := 1) hr (by omega) u
theorem rp_25_1 {r : Nat} (hr : r < 30) (v : Int32) (u : mg_Rg) : T_put_25 (nN r) 1 v u = some (mg_up u 26 (1 + r * 15 + 1) v) := tp_25 (j := 1) hr (by omega) v u
theorem rg_25_2 {r : Nat} (hr : r < 30) (u : mg_Rg) : T_get_25 (nN r) 2 u = some (u 26 (1 + r * 15 + 2)) := tg_25 (j := 2) hr (by omega) u
theorem rp_25_2 {r : Nat} (hr : r < 30) (v : Int32) (u : mg_Rg) : T_put_25 (nN r) 2 v u = some (mg_up u 26 (1 + r * 15 + 2) v) := tp_25 (j := 2) hr (by omega) v u
theorem rg_25_3 {r : Nat} (hr : r < 30) (u : mg_Rg) : T_get_25 (nN r) 3 u = some (u 26 (1 + r * 15 + 3)) := tg_25 (j := 3) hr (by omega) u
theorem rp_25_3 {r : Nat} (hr : r < 30) (v : Int32) (u : mg_Rg) : T_put_25 (nN r) 3 v u = some (mg_up u 26 (1 + r * 15 + 3) v) := tp_25 (j := 3) hr (by omega) v u
theorem rg_25_4 {r : Nat} (hr : r < 30) (u : mg_Rg) : T_get_25 (nN r) 4 u = some (u 26 (1 + r * 15 + 4)) := tg_25 (j := 4) hr (by omega) u
theorem rp_25_4 {r : Nat} (hr : r < 30) (v : Int32) (u : mg_Rg) : T_put_25 (nN r) 4 v u = some (mg_up u 26 (1 + r * 15 + 4) v) := tp_25 (j := 4) hr (by omega) v u
theorem rg_25_5 {r : Nat} (hr : r < 30) (u : mg_Rg) : T_get_25 (nN r) 5 u = some (u 26 (1 + r * 15 + 5)) := tg_25 (j := 5) hr (by omega) u
theorem rp_25_5 {r : Nat} (hr : r < 30) (v : Int32) (u : mg_Rg) : T_put_25 (nN r) 5 v u = some (mg_up u 26 (1 + r * 15 + 5) v) := tp_25 (j := 5) hr (by omega) v u
theorem rg_25_6 {r : Nat} (hr : r < 30) (u : mg_Rg) : T_get_25 (nN r) 6 u = some (u 26 (1 + r * 15 + 6)) := tg_25 (j := 6) hr (by omega) u
theorem rp_25_6 {r : Nat} (hr : r < 30) (v : Int32) (u : mg_Rg) : T_put_25 (nN r) 6 v u = some (mg_up u 26 (1 + r * 15 + 6) v) := tp_25 (j := 6) hr (by omega) v u
theorem rg_25_7 {r : Nat} (hr : r < 30) (u : mg_Rg) : T_get_25 (nN r) 7 u = some (u 26 (1 + r * 15 + 7)) := tg_25 (j := 7) hr (by omega) u
theorem rp_25_7 {r : Nat} (hr : r < 30) (v : Int32) (u : mg_Rg) : T_put_25 (nN r) 7 v u = some (mg_up u 26 (1 + r * 15 + 7) v) := tp_25 (j := 7) hr (by omega) v u
theorem rg_25_8 {r : Nat} (hr : r < 30) (u : mg_Rg) : T_get_25 (nN r) 8 u = some (u 26 (1 + r * 15 + 8)) := tg_25 (j := 8) hr (by omega) u
theorem rp_25_8 {r : Nat} (hr : r < 30) (v : Int32) (u : mg_Rg) : T_put_25 (nN r) 8 v u = some (mg_up u 26 (1 + r * 15 + 8) v) := tp_25 (j := 8) hr (by omega) v u
theorem rg_25_9 {r : Nat} (hr : r < 30) (u : mg_Rg) : T_get_25 (nN r) 9 u = some (u 26 (1 + r * 15 + 9)) := tg_25 (j := 9) hr (by omega) u
theorem rp_25_9 {r : Nat} (hr : r < 30) (v : Int32) (u : mg_Rg) : T_put_25 (nN r) 9 v u = some (mg_up u 26 (1 + r * 15 + 9) v) := tp_25 (j := 9) hr (by omega) v u
theorem rg_25_10 {r : Nat} (hr : r < 30) (u : mg_Rg) : T_get_25 (nN r) 10 u = some (u 26 (1 + r * 15 + 10)) := tg_25 (j := 10) hr (by omega) u
theorem rp_25_10 {r : Nat} (hr : r < 30) (v : Int32) (u : mg_Rg) : T_put_25 (nN r) 10 v u = some (mg_up u 26 (1 + r * 15 + 10) v) := tp_25 (j := 10) hr (by omega) v u
theorem rg_25_11 {r : Nat} (hr : r < 30) (u : mg_Rg) : T_get_25 (nN r) 11 u = some (u 26 (1 + r * 15 + 11)) := tg_25 (j := 11) hr (by omega) u
theorem rp_25_11 {r : Nat} (hr : r < 30) (v : Int32) (u : mg_Rg) : T_put_25 (nN r) 11 v u = some (mg_up u 26 (1 + r * 15 + 11) v) := tp_25 (j := 11) hr (by omega) v u
theorem rg_25_12 {r : Nat} (hr : r < 30) (u : mg_Rg) : T_get_25 (nN r) 12 u = some (u 26 (1 + r * 15 + 12)) := tg_25 (j := 12) hr (by omega) u
theorem rp_25_12 {r : Nat} (hr : r < 30) (v : Int32) (u : mg_Rg) : T_put_25 (nN r) 12 v u = some (mg_up u 26 (1 + r * 15 + 12) v) := tp_25 (j := 12) hr (by omega) v u
theorem rg_25_13 {r : Nat} (hr : r < 30) (u : mg_Rg) : T_get_25 (nN r) 13 u = some (u 26 (1 + r * 15 + 13)) := tg_25 (j := 13) hr (by omega) u
theorem rp_25_13 {r : Nat} (hr : r < 30) (v : Int32) (u : mg_Rg) : T_put_25 (nN r) 13 v u = some (mg_up u 26 (1 + r * 15 + 13) v) := tp_25 (j := 13) hr (by omega) v u
theorem rg_25_14 {r : Nat} (hr : r < 30) (u : mg_Rg) : T_get_25 (nN r) 14 u = some (u 26 (1 + r * 15 + 14)) := tg_25 (j := 14) hr (by omega) u
theorem rp_25_14 {r : Nat} (hr : r < 30) (v : Int32) (u : mg_Rg) : T_put_25 (nN r) 14 v u = some (mg_up u 26 (1 + r * 15 + 14) v) := tp_25 (j := 14) hr (by omega) v u
theorem rg_30_0 {r : Nat} (hr : r < 4) (u : mg_Rg) : T_get_30 (nN r) 0 u = some (u 31 (1 + r * 2)) := tg_30 (j := 0) hr (by omega) u
theorem rp_30_0 {r : Nat} (hr : r < 4) (v : Int32) (u : mg_Rg) : T_put_30 (nN r) 0 v u = some (mg_up u 31 (1 + r * 2) v) := tp_30 (j := 0) hr (by omega) v u
theorem rg_30_1 {r : Nat} (hr : r < 4) (u : mg_Rg) : T_get_30 (nN r) 1 u = some (u 31 (1 + r * 2 + 1)) := tg_30 (j := 1) hr (by omega) u
theorem rp_30_1 {r : Nat} (hr : r < 4) (v : Int32) (u : mg_Rg) : T_put_30 (nN r) 1 v u = some (mg_up u 31 (1 + r * 2 + 1) v) := tp_30 (j := 1) hr (by omega) v u
theorem rg_34_0 {r : Nat} (hr : r < 4) (u : mg_Rg) : T_get_34 (nN r) 0 u = some (u 35 (1 + r * 2)) := tg_34 (j := 0) hr (by omega) u
theorem rp_34_0 {r : Nat} (hr : r < 4) (v : Int32) (u : mg_Rg) : T_put_34 (nN r) 0 v u = some (mg_up u 35 (1 + r * 2) v) := tp_34 (j := 0) hr (by omega) v u
theorem rg_34_1 {r : Nat} (hr : r < 4) (u : mg_Rg) : T_get_34 (nN r) 1 u = some (u 35 (1 + r * 2 + 1)) := tg_34 (j := 1) hr (by omega) u
theorem rp_34_1 {r : Nat} (hr : r < 4) (v : Int32) (u : mg_Rg) : T_put_34 (nN r) 1 v u = some (mg_up u 35 (1 + r * 2 + 1) v) := tp_34 (j := 1) hr (by omega) v u
theorem rg_39_0 {r : Nat} (hr : r < 8) (u : mg_Rg) : T_get_39 (nN r) 0 u = some (u 40 (1 + r * 13)) := tg_39 (j := 0) hr (by omega) u
theorem rp_39_0 {r : Nat} (hr : r < 8) (v : Int32) (u : mg_Rg) : T_put_39 (nN r) 0 v u = some (mg_up u 40 (1 + r * 13) v) := tp_39 (j := 0) hr (by omega) v u
theorem rg_39_1 {r : Nat} (hr : r < 8) (u : mg_Rg) : T_get_39 (nN r) 1 u = some (u 40 (1 + r * 13 + 1)) := tg_39 (j := 1) hr (by omega) u
theorem rp_39_1 {r : Nat} (hr : r < 8) (v : Int32) (u : mg_Rg) : T_put_39 (nN r) 1 v u = some (mg_up u 40 (1 + r * 13 + 1) v) := tp_39 (j := 1) hr (by omega) v u
theorem rg_39_2 {r : Nat} (hr : r < 8) (u : mg_Rg) : T_get_39 (nN r) 2 u = some (u 40 (1 + r * 13 + 2)) := tg_39 (j := 2) hr (by omega) u
theorem rp_39_2 {r : Nat} (hr : r < 8) (v : Int32) (u : mg_Rg) : T_put_39 (nN r) 2 v u = some (mg_up u 40 (1 + r * 13 + 2) v) := tp_39 (j := 2) hr (by omega) v u
theorem rg_39_3 {r : Nat} (hr : r < 8) (u : mg_Rg) : T_get_39 (nN r) 3 u = some (u 40 (1 + r * 13 + 3)) := tg_39 (j := 3) hr (by omega) u
theorem rp_39_3 {r : Nat} (hr : r < 8) (v : Int32) (u : mg_Rg) : T_put_39 (nN r) 3 v u = some (mg_up u 40 (1 + r * 13 + 3) v) := tp_39 (j := 3) hr (by omega) v u
theorem rg_39_4 {r : Nat} (hr : r < 8) (u : mg_Rg) : T_get_39 (nN r) 4 u = some (u 40 (1 + r * 13 + 4)) := tg_39 (j := 4) hr (by omega) u
theorem rp_39_4 {r : Nat} (hr : r < 8) (v : Int32) (u : mg_Rg) : T_put_39 (nN r) 4 v u = some (mg_up u 40 (1 + r * 13 + 4) v) := tp_39 (j := 4) hr (by omega) v u
theorem rg_39_5 {r : Nat} (hr : r < 8) (u : mg_Rg) : T_get_39 (nN r) 5 u = some (u 40 (1 + r * 13 + 5)) := tg_39 (j := 5) hr (by omega) u
theorem rp_39_5 {r : Nat} (hr : r < 8) (v : Int32) (u : mg_Rg) : T_put_39 (nN r) 5 v u = some (mg_up u 40 (1 + r * 13 + 5) v) := tp_39 (j := 5) hr (by omega) v u
theorem rg_39_6 {r : Nat} (hr : r < 8) (u : mg_Rg) : T_get_39 (nN r) 6 u = some (u 40 (1 + r * 13 + 6)) := tg_39 (j := 6) hr (by omega) u
theorem rp_39_6 {r : Nat} (hr : r < 8) (v : Int32) (u : mg_Rg) : T_put_39 (nN r) 6 v u = some (mg_up u 40 (1 + r * 13 + 6) v) := tp_39 (j := 6) hr (by omega) v u
theorem rg_39_7 {r : Nat} (hr : r < 8) (u : mg_Rg) : T_get_39 (nN r) 7 u = some (u 40 (1 + r * 13 + 7)) := tg_39 (j := 7) hr (by omega) u
theorem rp_39_7 {r : Nat} (hr : r < 8) (v : Int32) (u : mg_Rg) : T_put_39 (nN r) 7 v u = some (mg_up u 40 (1 + r * 13 + 7) v) := tp_39 (j := 7) hr (by omega) v u
theorem rg_39_8 {r : Nat} (hr : r < 8) (u : mg_Rg) : T_get_39 (nN r) 8 u = some (u 40 (1 + r * 13 + 8)) := tg_39 (j := 8) hr (by omega) u
theorem rp_39_8 {r : Nat} (hr : r < 8) (v : Int32) (u : mg_Rg) : T_put_39 (nN r) 8 v u = some (mg_up u 40 (1 + r * 13 + 8) v) := tp_39 (j := 8) hr (by omega) v u
theorem rg_39_9 {r : Nat} (hr : r < 8) (u : mg_Rg) : T_get_39 (nN r) 9 u = some (u 40 (1 + r * 13 + 9)) := tg_39 (j := 9) hr (by omega) u
theorem rp_39_9 {r : Nat} (hr : r < 8) (v : Int32) (u : mg_Rg) : T_put_39 (nN r) 9 v u = some (mg_up u 40 (1 + r * 13 + 9) v) := tp_39 (j := 9) hr (by omega) v u
theorem rg_39_10 {r : Nat} (hr : r < 8) (u : mg_Rg) : T_get_39 (nN r) 10 u = some (u 40 (1 + r * 13 + 10)) := tg_39 (j := 10) hr (by omega) u
theorem rp_39_10 {r : Nat} (hr : r < 8) (v : Int32) (u : mg_Rg) : T_put_39 (nN r) 10 v u = some (mg_up u 40 (1 + r * 13 + 10) v) := tp_39 (j := 10) hr (by omega) v u
theorem rg_39_11 {r : Nat} (hr : r < 8) (u : mg_Rg) : T_get_39 (nN r) 11 u = some (u 40 (1 + r * 13 + 11)) := tg_39 (j := 11) hr (by omega) u
theorem rp_39_11 {r : Nat} (hr : r < 8) (v : Int32) (u : mg_Rg) : T_put_39 (nN r) 11 v u = some (mg_up u 40 (1 + r * 13 + 11) v) := tp_39 (j := 11) hr (by omega) v u
theorem rg_39_12 {r : Nat} (hr : r < 8) (u : mg_Rg) : T_get_39 (nN r) 12 u = some (u 40 (1 + r * 13 + 12)) := tg_39 (j := 12) hr (by omega) u
theorem rp_39_12 {r : Nat} (hr : r < 8) (v : Int32) (u : mg_Rg) : T_put_39 (nN r) 12 v u = some (mg_up u 40 (1 + r * 13 + 12) v) := tp_39 (j := 12) hr (by omega) v u
theorem rg_12_0 (u : mg_Rg) : T_get_12 0 0 u = some (u 13 1) := tg_12 (r := 0) (j := 0) (by omega) (by omega) u
theorem rp_12_0 (v : Int32) (u : mg_Rg) : T_put_12 0 0 v u = some (mg_up u 13 1 v) := tp_12 (r := 0) (j := 0) (by omega) (by omega) v u
theorem rg_12_1 (u : mg_Rg) : T_get_12 1 0 u = some (u 13 2) := tg_12 (r := 1) (j := 0) (by omega) (by omega) u
theorem rp_12_1 (v : Int32) (u : mg_Rg) : T_put_12 1 0 v u = some (mg_up u 13 2 v) := tp_12 (r := 1) (j := 0) (by omega) (by omega) v u
theorem rg_12_2 (u : mg_Rg) : T_get_12 2 0 u = some (u 13 3) := tg_12 (r := 2) (j := 0) (by omega) (by omega) u
theorem rp_12_2 (v : Int32) (u : mg_Rg) : T_put_12 2 0 v u = some (mg_up u 13 3 v) := tp_12 (r := 2) (j := 0) (by omega) (by omega) v u
theorem rg_16_0 (u : mg_Rg) : T_get_16 0 0 u = some (u 17 1) := tg_16 (r := 0) (j := 0) (by omega) (by omega) u
theorem rp_16_0 (v : Int32) (u : mg_Rg) : T_put_16 0 0 v u = some (mg_up u 17 1 v) := tp_16 (r := 0) (j := 0) (by omega) (by omega) v u
theorem rg_16_1 (u : mg_Rg) : T_get_16 1 0 u = some (u 17 2) := tg_16 (r := 1) (j := 0) (by omega) (by omega) u
theorem rp_16_1 (v : Int32) (u : mg_Rg) : T_put_16 1 0 v u = some (mg_up u 17 2 v) := tp_16 (r := 1) (j := 0) (by omega) (by omega) v u
theorem rg_16_2 (u : mg_Rg) : T_get_16 2 0 u = some (u 17 3) := tg_16 (r := 2) (j := 0) (by omega) (by omega) u
theorem rp_16_2 (v : Int32) (u : mg_Rg) : T_put_16 2 0 v u = some (mg_up u 17 3 v) := tp_16 (r := 2) (j := 0) (by omega) (by omega) v u
theorem rg_19 {r : Nat} (hr : r < 8) (u : mg_Rg) : T_get_19 (nN r) 0 u = some (u 20 (1 + r)) := by
  rw [show T_get_19 (nN r) 0 u = _ from tg_19 (r := r) (j := 0) hr (by omega) u, Nat.mul_one, Nat.add_zero]
theorem rp_19 {r : Nat} (hr : r < 8) (v : Int32) (u : mg_Rg) : T_put_19 (nN r) 0 v u = some (mg_up u 20 (1 + r) v) := by
  rw [show T_put_19 (nN r) 0 v u = _ from tp_19 (r := r) (j := 0) hr (by omega) v u, Nat.mul_one, Nat.add_zero]
theorem tH_at {n h j : Nat} {f g : z_Ro} (H : tH n f g) (hh : h < n) (hj : j < 3) : f (1 + h * 3 + j) = g (20 + 3 * h + j) := by
  have e := H.2.2.2.1 (3 * h + j) (by omega)
  rw [show 1 + h * 3 + j = 1 + (3 * h + j) by omega, e, Nat.add_assoc]
theorem cH_0 {n h : Nat} {g : z_Ro} {u : mg_Rg} (H : tH n (u 4) g) (hh : h < n) : T_get_3 (nN h) 0 u = some (g (20 + 3 * h)) := by
  have h1 := H.1
  rw [rg_3_0 (by omega)]
  exact congrArg some (tH_at (j := 0) H hh (by omega))
theorem cH_1 {n h : Nat} {g : z_Ro} {u : mg_Rg} (H : tH n (u 4) g) (hh : h < n) : T_get_3 (nN h) 1 u = some (g (20 + 3 * h + 1)) := by
  have h1 := H.1
  rw [rg_3_1 (by omega)]
  exact congrArg some (tH_at (j := 1) H hh (by omega))
theorem cH_2 {n h : Nat} {g : z_Ro} {u : mg_Rg} (H : tH n (u 4) g) (hh : h < n) : T_get_3 (nN h) 2 u = some (g (20 + 3 * h + 2)) := by
  have h1 := H.1
  rw [rg_3_2 (by omega)]
  exact congrArg some (tH_at (j := 2) H hh (by omega))
theorem tP_at {n h j : Nat} {f g : z_Ro} (H : tP n f g) (hh : h < n) (hj : j < 4) : f (1 + h * 4 + j) = g (80 + 4 * h + j) := by
  have e := H.2.2.2.1 (4 * h + j) (by omega)
  rw [show 1 + h * 4 + j = 1 + (4 * h + j) by omega, e, Nat.add_assoc]
theorem cP_0 {n h : Nat} {g : z_Ro} {u : mg_Rg} (H : tP n (u 7) g) (hh : h < n) : T_get_6 (nN h) 0 u = some (g (80 + 4 * h)) := by
  have h1 := H.1
  rw [rg_6_0 (by omega)]
  exact congrArg some (tP_at (j := 0) H hh (by omega))
theorem cP_1 {n h : Nat} {g : z_Ro} {u : mg_Rg} (H : tP n (u 7) g) (hh : h < n) : T_get_6 (nN h) 1 u = some (g (80 + 4 * h + 1)) := by
  have h1 := H.1
  rw [rg_6_1 (by omega)]
  exact congrArg some (tP_at (j := 1) H hh (by omega))
theorem cP_2 {n h : Nat} {g : z_Ro} {u : mg_Rg} (H : tP n (u 7) g) (hh : h < n) : T_get_6 (nN h) 2 u = some (g (80 + 4 * h + 2)) := by
  have h1 := H.1
  rw [rg_6_2 (by omega)]
  exact congrArg some (tP_at (j := 2) H hh (by omega))
theorem cP_3 {n h : Nat} {g : z_Ro} {u : mg_Rg} (H : tP n (u 7) g) (hh : h < n) : T_get_6 (nN h) 3 u = some (g (80 + 4 * h + 3)) := by
  have h1 := H.1
  rw [rg_6_3 (by omega)]
  exact congrArg some (tP_at (j := 3) H hh (by omega))
theorem tS_at {n h j : Nat} {f g : z_Ro} (H : tS n f g) (hh : h < n) (hj : j < 3) : f (1 + h * 3 + j) = g (120 + 3 * h + j) := by
  have e := H.2.2.2.1 (3 * h + j) (by omega)
  rw [show 1 + h * 3 + j = 1 + (3 * h + j) by omega, e, Nat.add_assoc]
theorem cS_0 {n h : Nat} {g : z_Ro} {u : mg_Rg} (H : tS n (u 10) g) (hh : h < n) : T_get_9 (nN h) 0 u = some (g (120 + 3 * h)) := by
  have h1 := H.1
  rw [rg_9_0 (by omega)]
  exact congrArg some (tS_at (j := 0) H hh (by omega))
theorem cS_1 {n h : Nat} {g : z_Ro} {u : mg_Rg} (H : tS n (u 10) g) (hh : h < n) : T_get_9 (nN h) 1 u = some (g (120 + 3 * h + 1)) := by
  have h1 := H.1
  rw [rg_9_1 (by omega)]
  exact congrArg some (tS_at (j := 1) H hh (by omega))
theorem cS_2 {n h : Nat} {g : z_Ro} {u : mg_Rg} (H : tS n (u 10) g) (hh : h < n) : T_get_9 (nN h) 2 u = some (g (120 + 3 * h + 2)) := by
  have h1 := H.1
  rw [rg_9_2 (by omega)]
  exact congrArg some (tS_at (j := 2) H hh (by omega))
theorem tA_at {n h j : Nat} {f g : z_Ro} (H : tA n f g) (hh : h < n) (hj : j < 2) : f (1 + h * 2 + j) = g (192 + 2 * h + j) := by
  have e := H.2.2.2.1 (2 * h + j) (by omega)
  rw [show 1 + h * 2 + j = 1 + (2 * h + j) by omega, e, Nat.add_assoc]
theorem cA_0 {n h : Nat} {g : z_Ro} {u : mg_Rg} (H : tA n (u 31) g) (hh : h < n) : T_get_30 (nN h) 0 u = some (g (192 + 2 * h)) := by
  have h1 := H.1
  rw [rg_30_0 (by omega)]
  exact congrArg some (tA_at (j := 0) H hh (by omega))
theorem cA_1 {n h : Nat} {g : z_Ro} {u : mg_Rg} (H : tA n (u 31) g) (hh : h < n) : T_get_30 (nN h) 1 u = some (g (192 + 2 * h + 1)) := by
  have h1 := H.1
  rw [rg_30_1 (by omega)]
  exact congrArg some (tA_at (j := 1) H hh (by omega))
theorem cQ_0 {n h : Nat} {g : z_Ro} {u : mg_Rg} (H : tQ n (u 23) g) (hh : h < n) : T_get_22 (nN h) 0 u = some (g (138 + 9 * h)) := by
  have h1 := H.1
  rw [rg_22_0 (by omega)]
  exact congrArg some ((H.2.2.2.1 h hh).1 0 (by omega))
theorem cQ_1 {n h : Nat} {g : z_Ro} {u : mg_Rg} (H : tQ n (u 23) g) (hh : h < n) : T_get_22 (nN h) 1 u = some (g (138 + 9 * h + 1)) := by
  have h1 := H.1
  rw [rg_22_1 (by omega)]
  exact congrArg some ((H.2.2.2.1 h hh).1 1 (by omega))
theorem cQ_2 {n h : Nat} {g : z_Ro} {u : mg_Rg} (H : tQ n (u 23) g) (hh : h < n) : T_get_22 (nN h) 2 u = some (g (138 + 9 * h + 2)) := by
  have h1 := H.1
  rw [rg_22_2 (by omega)]
  exact congrArg some ((H.2.2.2.1 h hh).1 2 (by omega))
theorem cQ_3 {n h : Nat} {g : z_Ro} {u : mg_Rg} (H : tQ n (u 23) g) (hh : h < n) : T_get_22 (nN h) 3 u = some (g (138 + 9 * h + 3)) := by
  have h1 := H.1
  rw [rg_22_3 (by omega)]
  exact congrArg some ((H.2.2.2.1 h hh).1 3 (by omega))
theorem cQ_4 {n h : Nat} {g : z_Ro} {u : mg_Rg} (H : tQ n (u 23) g) (hh : h < n) : T_get_22 (nN h) 4 u = some (g (138 + 9 * h + 4)) := by
  have h1 := H.1
  rw [rg_22_4 (by omega)]
  exact congrArg some ((H.2.2.2.1 h hh).1 4 (by omega))
theorem cQ_5 {n h : Nat} {g : z_Ro} {u : mg_Rg} (H : tQ n (u 23) g) (hh : h < n) : T_get_22 (nN h) 5 u = some (g (138 + 9 * h + 5)) := by
  have h1 := H.1
  rw [rg_22_5 (by omega)]
  exact congrArg some ((H.2.2.2.1 h hh).1 5 (by omega))
theorem cQ_6 {n h : Nat} {g : z_Ro} {u : mg_Rg} (H : tQ n (u 23) g) (hh : h < n) : T_get_22 (nN h) 6 u = some (g (138 + 9 * h + 6)) := by
  have h1 := H.1
  rw [rg_22_6 (by omega)]
  exact congrArg some ((H.2.2.2.1 h hh).1 6 (by omega))
theorem cD_0 {nh nq n h : Nat} {g : z_Ro} {u : mg_Rg} (H : tD nh nq n (u 26) g) (hh : h < n) : T_get_25 (nN h) 0 u = some (g (208 + 16 * h)) := by
  have h1 := H.1
  rw [rg_25_0 (by omega)]
  exact congrArg some (H.2.2.2.1 h hh 0 (by omega))
theorem cD_1 {nh nq n h : Nat} {g : z_Ro} {u : mg_Rg} (H : tD nh nq n (u 26) g) (hh : h < n) : T_get_25 (nN h) 1 u = some (g (208 + 16 * h + 1)) := by
  have h1 := H.1
  rw [rg_25_1 (by omega)]
  exact congrArg some (H.2.2.2.1 h hh 1 (by omega))
theorem cD_2 {nh nq n h : Nat} {g : z_Ro} {u : mg_Rg} (H : tD nh nq n (u 26) g) (hh : h < n) : T_get_25 (nN h) 2 u = some (g (208 + 16 * h + 2)) := by
  have h1 := H.1
  rw [rg_25_2 (by omega)]
  exact congrArg some (H.2.2.2.1 h hh 2 (by omega))
theorem cD_3 {nh nq n h : Nat} {g : z_Ro} {u : mg_Rg} (H : tD nh nq n (u 26) g) (hh : h < n) : T_get_25 (nN h) 3 u = some (g (208 + 16 * h + 3)) := by
  have h1 := H.1
  rw [rg_25_3 (by omega)]
  exact congrArg some (H.2.2.2.1 h hh 3 (by omega))
theorem cD_4 {nh nq n h : Nat} {g : z_Ro} {u : mg_Rg} (H : tD nh nq n (u 26) g) (hh : h < n) : T_get_25 (nN h) 4 u = some (g (208 + 16 * h + 4)) := by
  have h1 := H.1
  rw [rg_25_4 (by omega)]
  exact congrArg some (H.2.2.2.1 h hh 4 (by omega))
theorem cD_5 {nh nq n h : Nat} {g : z_Ro} {u : mg_Rg} (H : tD nh nq n (u 26) g) (hh : h < n) : T_get_25 (nN h) 5 u = some (g (208 + 16 * h + 5)) := by
  have h1 := H.1
  rw [rg_25_5 (by omega)]
  exact congrArg some (H.2.2.2.1 h hh 5 (by omega))
theorem cD_6 {nh nq n h : Nat} {g : z_Ro} {u : mg_Rg} (H : tD nh nq n (u 26) g) (hh : h < n) : T_get_25 (nN h) 6 u = some (g (208 + 16 * h + 6)) := by
  have h1 := H.1
  rw [rg_25_6 (by omega)]
  exact congrArg some (H.2.2.2.1 h hh 6 (by omega))
theorem cD_7 {nh nq n h : Nat} {g : z_Ro} {u : mg_Rg} (H : tD nh nq n (u 26) g) (hh : h < n) : T_get_25 (nN h) 7 u = some (g (208 + 16 * h + 7)) := by
  have h1 := H.1
  rw [rg_25_7 (by omega)]
  exact congrArg some (H.2.2.2.1 h hh 7 (by omega))
theorem cD_8 {nh nq n h : Nat} {g : z_Ro} {u : mg_Rg} (H : tD nh nq n (u 26) g) (hh : h < n) : T_get_25 (nN h) 8 u = some (g (208 + 16 * h + 8)) := by
  have h1 := H.1
  rw [rg_25_8 (by omega)]
  exact congrArg some (H.2.2.2.1 h hh 8 (by omega))
theorem cD_9 {nh nq n h : Nat} {g : z_Ro} {u : mg_Rg} (H : tD nh nq n (u 26) g) (hh : h < n) : T_get_25 (nN h) 9 u = some (g (208 + 16 * h + 9)) := by
  have h1 := H.1
  rw [rg_25_9 (by omega)]
  exact congrArg some (H.2.2.2.1 h hh 9 (by omega))
theorem cD_10 {nh nq n h : Nat} {g : z_Ro} {u : mg_Rg} (H : tD nh nq n (u 26) g) (hh : h < n) : T_get_25 (nN h) 10 u = some (g (208 + 16 * h + 10)) := by
  have h1 := H.1
  rw [rg_25_10 (by omega)]
  exact congrArg some (H.2.2.2.1 h hh 10 (by omega))
theorem cD_11 {nh nq n h : Nat} {g : z_Ro} {u : mg_Rg} (H : tD nh nq n (u 26) g) (hh : h < n) : T_get_25 (nN h) 11 u = some (g (208 + 16 * h + 11)) := by
  have h1 := H.1
  rw [rg_25_11 (by omega)]
  exact congrArg some (H.2.2.2.1 h hh 11 (by omega))
theorem cD_12 {nh nq n h : Nat} {g : z_Ro} {u : mg_Rg} (H : tD nh nq n (u 26) g) (hh : h < n) : T_get_25 (nN h) 12 u = some (g (208 + 16 * h + 12)) := by
  have h1 := H.1
  rw [rg_25_12 (by omega)]
  exact congrArg some (H.2.2.2.1 h hh 12 (by omega))
theorem cD_13 {nh nq n h : Nat} {g : z_Ro} {u : mg_Rg} (H : tD nh nq n (u 26) g) (hh : h < n) : T_get_25 (nN h) 13 u = some (g (208 + 16 * h + 13)) := by
  have h1 := H.1
  rw [rg_25_13 (by omega)]
  exact congrArg some (H.2.2.2.1 h hh 13 (by omega))
theorem cD_14 {nh nq n h : Nat} {g : z_Ro} {u : mg_Rg} (H : tD nh nq n (u 26) g) (hh : h < n) : T_get_25 (nN h) 14 u = some (g (208 + 16 * h + 14)) := by
  have h1 := H.1
  rw [rg_25_14 (by omega)]
  exact congrArg some (H.2.2.2.1 h hh 14 (by omega))
theorem zal_3 {n : Nat} (hn : n < 20) : ∀ (m j : Nat) (u : mg_Rg), j ≤ 3 → 3 < m + j → ∃ u', T_add_3_L17 m (nN n) (nN j) u = some u' ∧ (∀ i, i ≠ 4 → u' i = u i) ∧ ∀ i, u' 4 i = if 1 + n * 3 + j ≤ i ∧ i < 1 + n * 3 + 3 then 0 else u 4 i := by
  intro m
  induction m with
  | zero => intro j u h1 h2; omega
  | succ m ih =>
    intro j u h1 h2
    unfold T_add_3_L17
    by_cases hj : j = 3
    · subst hj
      refine ⟨u, if_pos (by decide), fun _ _ => rfl, fun i => ?_⟩
      rw [if_neg (by omega)]
    · have c1 : ¬ (3 : Int32) ≤ nN j := fun q => absurd ((z_le (a := 3) (by omega) (by omega)).mp q) (by omega)
      obtain ⟨u', h3, h4, h5⟩ := ih (j + 1) (mg_up u 4 (1 + n * 3 + j) 0) (by omega) (by omega)
      rw [if_neg c1, show T_put_3 (nN n) (nN j) 0 u = some _ from tp_3 hn (by omega) 0 u]
      refine ⟨u', ?_, fun i hi => (h4 i hi).trans (z_up_ne hi), fun i => ?_⟩
      · show T_add_3_L17 m (nN n) (nN j + 1) (mg_up u 4 (1 + n * 3 + j) 0) = some u'
        rw [zo_1]
        exact h3
      · rw [h5 i, z_up_at]
        by_cases hi : i = 1 + n * 3 + j
        · subst hi
          rw [if_neg (by omega), if_pos (by omega), z_upd_at]
        · rw [z_upd_ne hi]
          by_cases hi2 : 1 + n * 3 + (j + 1) ≤ i ∧ i < 1 + n * 3 + 3
          · rw [if_pos hi2, if_pos (by omega)]
          · rw [if_neg hi2, if_neg (by omega)]
theorem za_3 {n : Nat} (hn : n < 20) {u : mg_Rg} (h0 : u 4 0 = nN n) : ∃ u', T_add_3 u = some (nN n, u') ∧ (∀ j, j ≠ 4 → u' j = u j) ∧ u' 4 0 = nN (n + 1) ∧ (∀ i, i ≠ 0 → i < 1 + n * 3 ∨ 1 + n * 3 + 3 ≤ i → u' 4 i = u 4 i) ∧ ∀ i, 1 + n * 3 ≤ i → i < 1 + n * 3 + 3 → u' 4 i = 0 := by
  obtain ⟨v, h1, h2, h3⟩ := zal_3 hn mg_F 0 u (by omega) (by show 3 < 6000 + 0; omega)
  have c1 : nN n < (20 : Int32) := (z_lt (b := 20) (by omega) (by omega)).mpr hn
  have e : T_count_3 u = some (nN n) := by rw [← h0]; rfl
  refine ⟨mg_up v 4 0 (nN (n + 1)), ?_, fun j hj => by rw [z_up_ne hj, h2 j hj], by rw [zu_eq], fun i hi hi2 => ?_, fun i hi hi2 => ?_⟩
  · unfold T_add_3
    rw [e]
    show (if nN n < 20 then _ else _) = _
    rw [if_pos c1, show T_add_3_L17 mg_F (nN n) 0 u = some v from h1]
    rw [zo_1]
    rfl
  · rw [zu_ne hi, h3 i, if_neg (by omega)]
  · rw [zu_ne (by omega), h3 i, if_pos (by omega)]
theorem zf_3_no {n : Nat} {u : mg_Rg} (h0 : u 4 0 = nN n) (hn : n < 20) : T_isFull_3 u = some 0 := by
  have e : T_count_3 u = some (nN n) := by rw [← h0]; rfl
  unfold T_isFull_3
  rw [e]
  exact if_pos ((z_lt (b := 20) (by omega) (by omega)).mpr hn)
theorem zf_3_yes {n : Nat} {u : mg_Rg} (h0 : u 4 0 = nN n) (hn : n ≤ 20) (hm : ¬ n < 20) : T_isFull_3 u = some 1 := by
  have e : T_count_3 u = some (nN n) := by rw [← h0]; rfl
  have en : n = 20 := by omega
  subst en
  unfold T_isFull_3
  rw [e]
  rfl
theorem zal_6 {n : Nat} (hn : n < 10) : ∀ (m j : Nat) (u : mg_Rg), j ≤ 4 → 4 < m + j → ∃ u', T_add_6_L17 m (nN n) (nN j) u = some u' ∧ (∀ i, i ≠ 7 → u' i = u i) ∧ ∀ i, u' 7 i = if 1 + n * 4 + j ≤ i ∧ i < 1 + n * 4 + 4 then 0 else u 7 i := by
  intro m
  induction m with
  | zero => intro j u h1 h2; omega
  | succ m ih =>
    intro j u h1 h2
    unfold T_add_6_L17
    by_cases hj : j = 4
    · subst hj
      refine ⟨u, if_pos (by decide), fun _ _ => rfl, fun i => ?_⟩
      rw [if_neg (by omega)]
    · have c1 : ¬ (4 : Int32) ≤ nN j := fun q => absurd ((z_le (a := 4) (by omega) (by omega)).mp q) (by omega)
      obtain ⟨u', h3, h4, h5⟩ := ih (j + 1) (mg_up u 7 (1 + n * 4 + j) 0) (by omega) (by omega)
      rw [if_neg c1, show T_put_6 (nN n) (nN j) 0 u = some _ from tp_6 hn (by omega) 0 u]
      refine ⟨u', ?_, fun i hi => (h4 i hi).trans (z_up_ne hi), fun i => ?_⟩
      · show T_add_6_L17 m (nN n) (nN j + 1) (mg_up u 7 (1 + n * 4 + j) 0) = some u'
        rw [zo_1]
        exact h3
      · rw [h5 i, z_up_at]
        by_cases hi : i = 1 + n * 4 + j
        · subst hi
          rw [if_neg (by omega), if_pos (by omega), z_upd_at]
        · rw [z_upd_ne hi]
          by_cases hi2 : 1 + n * 4 + (j + 1) ≤ i ∧ i < 1 + n * 4 + 4
          · rw [if_pos hi2, if_pos (by omega)]
          · rw [if_neg hi2, if_neg (by omega)]
theorem za_6 {n : Nat} (hn : n < 10) {u : mg_Rg} (h0 : u 7 0 = nN n) : ∃ u', T_add_6 u = some (nN n, u') ∧ (∀ j, j ≠ 7 → u' j = u j) ∧ u' 7 0 = nN (n + 1) ∧ (∀ i, i ≠ 0 → i < 1 + n * 4 ∨ 1 + n * 4 + 4 ≤ i → u' 7 i = u 7 i) ∧ ∀ i, 1 + n * 4 ≤ i → i < 1 + n * 4 + 4 → u' 7 i = 0 := by
  obtain ⟨v, h1, h2, h3⟩ := zal_6 hn mg_F 0 u (by omega) (by show 4 < 6000 + 0; omega)
  have c1 : nN n < (10 : Int32) := (z_lt (b := 10) (by omega) (by omega)).mpr hn
  have e : T_count_6 u = some (nN n) := by rw [← h0]; rfl
  refine ⟨mg_up v 7 0 (nN (n + 1)), ?_, fun j hj => by rw [z_up_ne hj, h2 j hj], by rw [zu_eq], fun i hi hi2 => ?_, fun i hi hi2 => ?_⟩
  · unfold T_add_6
    rw [e]
    show (if nN n < 10 then _ else _) = _
    rw [if_pos c1, show T_add_6_L17 mg_F (nN n) 0 u = some v from h1]
    rw [zo_1]
    rfl
  · rw [zu_ne hi, h3 i, if_neg (by omega)]
  · rw [zu_ne (by omega), h3 i, if_pos (by omega)]
theorem zf_6_no {n : Nat} {u : mg_Rg} (h0 : u 7 0 = nN n) (hn : n < 10) : T_isFull_6 u = some 0 := by
  have e : T_count_6 u = some (nN n) := by rw [← h0]; rfl
  unfold T_isFull_6
  rw [e]
  exact if_pos ((z_lt (b := 10) (by omega) (by omega)).mpr hn)
theorem zf_6_yes {n : Nat} {u : mg_Rg} (h0 : u 7 0 = nN n) (hn : n ≤ 10) (hm : ¬ n < 10) : T_isFull_6 u = some 1 := by
  have e : T_count_6 u = some (nN n) := by rw [← h0]; rfl
  have en : n = 10 := by omega
  subst en
  unfold T_isFull_6
  rw [e]
  rfl
theorem zal_9 {n : Nat} (hn : n < 6) : ∀ (m j : Nat) (u : mg_Rg), j ≤ 3 → 3 < m + j → ∃ u', T_add_9_L17 m (nN n) (nN j) u = some u' ∧ (∀ i, i ≠ 10 → u' i = u i) ∧ ∀ i, u' 10 i = if 1 + n * 3 + j ≤ i ∧ i < 1 + n * 3 + 3 then 0 else u 10 i := by
  intro m
  induction m with
  | zero => intro j u h1 h2; omega
  | succ m ih =>
    intro j u h1 h2
    unfold T_add_9_L17
    by_cases hj : j = 3
    · subst hj
      refine ⟨u, if_pos (by decide), fun _ _ => rfl, fun i => ?_⟩
      rw [if_neg (by omega)]
    · have c1 : ¬ (3 : Int32) ≤ nN j := fun q => absurd ((z_le (a := 3) (by omega) (by omega)).mp q) (by omega)
      obtain ⟨u', h3, h4, h5⟩ := ih (j + 1) (mg_up u 10 (1 + n * 3 + j) 0) (by omega) (by omega)
      rw [if_neg c1, show T_put_9 (nN n) (nN j) 0 u = some _ from tp_9 hn (by omega) 0 u]
      refine ⟨u', ?_, fun i hi => (h4 i hi).trans (z_up_ne hi), fun i => ?_⟩
      · show T_add_9_L17 m (nN n) (nN j + 1) (mg_up u 10 (1 + n * 3 + j) 0) = some u'
        rw [zo_1]
        exact h3
      · rw [h5 i, z_up_at]
        by_cases hi : i = 1 + n * 3 + j
        · subst hi
          rw [if_neg (by omega), if_pos (by omega), z_upd_at]
        · rw [z_upd_ne hi]
          by_cases hi2 : 1 + n * 3 + (j + 1) ≤ i ∧ i < 1 + n * 3 + 3
          · rw [if_pos hi2, if_pos (by omega)]
          · rw [if_neg hi2, if_neg (by omega)]
theorem za_9 {n : Nat} (hn : n < 6) {u : mg_Rg} (h0 : u 10 0 = nN n) : ∃ u', T_add_9 u = some (nN n, u') ∧ (∀ j, j ≠ 10 → u' j = u j) ∧ u' 10 0 = nN (n + 1) ∧ (∀ i, i ≠ 0 → i < 1 + n * 3 ∨ 1 + n * 3 + 3 ≤ i → u' 10 i = u 10 i) ∧ ∀ i, 1 + n * 3 ≤ i → i < 1 + n * 3 + 3 → u' 10 i = 0 := by
  obtain ⟨v, h1, h2, h3⟩ := zal_9 hn mg_F 0 u (by omega) (by show 3 < 6000 + 0; omega)
  have c1 : nN n < (6 : Int32) := (z_lt (b := 6) (by omega) (by omega)).mpr hn
  have e : T_count_9 u = some (nN n) := by rw [← h0]; rfl
  refine ⟨mg_up v 10 0 (nN (n + 1)), ?_, fun j hj => by rw [z_up_ne hj, h2 j hj], by rw [zu_eq], fun i hi hi2 => ?_, fun i hi hi2 => ?_⟩
  · unfold T_add_9
    rw [e]
    show (if nN n < 6 then _ else _) = _
    rw [if_pos c1, show T_add_9_L17 mg_F (nN n) 0 u = some v from h1]
    rw [zo_1]
    rfl
  · rw [zu_ne hi, h3 i, if_neg (by omega)]
  · rw [zu_ne (by omega), h3 i, if_pos (by omega)]
theorem zf_9_no {n : Nat} {u : mg_Rg} (h0 : u 10 0 = nN n) (hn : n < 6) : T_isFull_9 u = some 0 := by
  have e : T_count_9 u = some (nN n) := by rw [← h0]; rfl
  unfold T_isFull_9
  rw [e]
  exact if_pos ((z_lt (b := 6) (by omega) (by omega)).mpr hn)
theorem zf_9_yes {n : Nat} {u : mg_Rg} (h0 : u 10 0 = nN n) (hn : n ≤ 6) (hm : ¬ n < 6) : T_isFull_9 u = some 1 := by
  have e : T_count_9 u = some (nN n) := by rw [← h0]; rfl
  have en : n = 6 := by omega
  subst en
  unfold T_isFull_9
  rw [e]
  rfl
theorem zal_22 {n : Nat} (hn : n < 6) : ∀ (m j : Nat) (u : mg_Rg), j ≤ 9 → 9 < m + j → ∃ u', T_add_22_L17 m (nN n) (nN j) u = some u' ∧ (∀ i, i ≠ 23 → u' i = u i) ∧ ∀ i, u' 23 i = if 1 + n * 9 + j ≤ i ∧ i < 1 + n * 9 + 9 then 0 else u 23 i := by
  intro m
  induction m with
  | zero => intro j u h1 h2; omega
  | succ m ih =>
    intro j u h1 h2
    unfold T_add_22_L17
    by_cases hj : j = 9
    · subst hj
      refine ⟨u, if_pos (by decide), fun _ _ => rfl, fun i => ?_⟩
      rw [if_neg (by omega)]
    · have c1 : ¬ (9 : Int32) ≤ nN j := fun q => absurd ((z_le (a := 9) (by omega) (by omega)).mp q) (by omega)
      obtain ⟨u', h3, h4, h5⟩ := ih (j + 1) (mg_up u 23 (1 + n * 9 + j) 0) (by omega) (by omega)
      rw [if_neg c1, show T_put_22 (nN n) (nN j) 0 u = some _ from tp_22 hn (by omega) 0 u]
      refine ⟨u', ?_, fun i hi => (h4 i hi).trans (z_up_ne hi), fun i => ?_⟩
      · show T_add_22_L17 m (nN n) (nN j + 1) (mg_up u 23 (1 + n * 9 + j) 0) = some u'
        rw [zo_1]
        exact h3
      · rw [h5 i, z_up_at]
        by_cases hi : i = 1 + n * 9 + j
        · subst hi
          rw [if_neg (by omega), if_pos (by omega), z_upd_at]
        · rw [z_upd_ne hi]
          by_cases hi2 : 1 + n * 9 + (j + 1) ≤ i ∧ i < 1 + n * 9 + 9
          · rw [if_pos hi2, if_pos (by omega)]
          · rw [if_neg hi2, if_neg (by omega)]
theorem za_22 {n : Nat} (hn : n < 6) {u : mg_Rg} (h0 : u 23 0 = nN n) : ∃ u', T_add_22 u = some (nN n, u') ∧ (∀ j, j ≠ 23 → u' j = u j) ∧ u' 23 0 = nN (n + 1) ∧ (∀ i, i ≠ 0 → i < 1 + n * 9 ∨ 1 + n * 9 + 9 ≤ i → u' 23 i = u 23 i) ∧ ∀ i, 1 + n * 9 ≤ i → i < 1 + n * 9 + 9 → u' 23 i = 0 := by
  obtain ⟨v, h1, h2, h3⟩ := zal_22 hn mg_F 0 u (by omega) (by show 9 < 6000 + 0; omega)
  have c1 : nN n < (6 : Int32) := (z_lt (b := 6) (by omega) (by omega)).mpr hn
  have e : T_count_22 u = some (nN n) := by rw [← h0]; rfl
  refine ⟨mg_up v 23 0 (nN (n + 1)), ?_, fun j hj => by rw [z_up_ne hj, h2 j hj], by rw [zu_eq], fun i hi hi2 => ?_, fun i hi hi2 => ?_⟩
  · unfold T_add_22
    rw [e]
    show (if nN n < 6 then _ else _) = _
    rw [if_pos c1, show T_add_22_L17 mg_F (nN n) 0 u = some v from h1]
    rw [zo_1]
    rfl
  · rw [zu_ne hi, h3 i, if_neg (by omega)]
  · rw [zu_ne (by omega), h3 i, if_pos (by omega)]
theorem zf_22_no {n : Nat} {u : mg_Rg} (h0 : u 23 0 = nN n) (hn : n < 6) : T_isFull_22 u = some 0 := by
  have e : T_count_22 u = some (nN n) := by rw [← h0]; rfl
  unfold T_isFull_22
  rw [e]
  exact if_pos ((z_lt (b := 6) (by omega) (by omega)).mpr hn)
theorem zf_22_yes {n : Nat} {u : mg_Rg} (h0 : u 23 0 = nN n) (hn : n ≤ 6) (hm : ¬ n < 6) : T_isFull_22 u = some 1 := by
  have e : T_count_22 u = some (nN n) := by rw [← h0]; rfl
  have en : n = 6 := by omega
  subst en
  unfold T_isFull_22
  rw [e]
  rfl
theorem zal_25 {n : Nat} (hn : n < 30) : ∀ (m j : Nat) (u : mg_Rg), j ≤ 15 → 15 < m + j → ∃ u', T_add_25_L17 m (nN n) (nN j) u = some u' ∧ (∀ i, i ≠ 26 → u' i = u i) ∧ ∀ i, u' 26 i = if 1 + n * 15 + j ≤ i ∧ i < 1 + n * 15 + 15 then 0 else u 26 i := by
  intro m
  induction m with
  | zero => intro j u h1 h2; omega
  | succ m ih =>
    intro j u h1 h2
    unfold T_add_25_L17
    by_cases hj : j = 15
    · subst hj
      refine ⟨u, if_pos (by decide), fun _ _ => rfl, fun i => ?_⟩
      rw [if_neg (by omega)]
    · have c1 : ¬ (15 : Int32) ≤ nN j := fun q => absurd ((z_le (a := 15) (by omega) (by omega)).mp q) (by omega)
      obtain ⟨u', h3, h4, h5⟩ := ih (j + 1) (mg_up u 26 (1 + n * 15 + j) 0) (by omega) (by omega)
      rw [if_neg c1, show T_put_25 (nN n) (nN j) 0 u = some _ from tp_25 hn (by omega) 0 u]
      refine ⟨u', ?_, fun i hi => (h4 i hi).trans (z_up_ne hi), fun i => ?_⟩
      · show T_add_25_L17 m (nN n) (nN j + 1) (mg_up u 26 (1 + n * 15 + j) 0) = some u'
        rw [zo_1]
        exact h3
      · rw [h5 i, z_up_at]
        by_cases hi : i = 1 + n * 15 + j
        · subst hi
          rw [if_neg (by omega), if_pos (by omega), z_upd_at]
        · rw [z_upd_ne hi]
          by_cases hi2 : 1 + n * 15 + (j + 1) ≤ i ∧ i < 1 + n * 15 + 15
          · rw [if_pos hi2, if_pos (by omega)]
          · rw [if_neg hi2, if_neg (by omega)]
theorem za_25 {n : Nat} (hn : n < 30) {u : mg_Rg} (h0 : u 26 0 = nN n) : ∃ u', T_add_25 u = some (nN n, u') ∧ (∀ j, j ≠ 26 → u' j = u j) ∧ u' 26 0 = nN (n + 1) ∧ (∀ i, i ≠ 0 → i < 1 + n * 15 ∨ 1 + n * 15 + 15 ≤ i → u' 26 i = u 26 i) ∧ ∀ i, 1 + n * 15 ≤ i → i < 1 + n * 15 + 15 → u' 26 i = 0 := by
  obtain ⟨v, h1, h2, h3⟩ := zal_25 hn mg_F 0 u (by omega) (by show 15 < 6000 + 0; omega)
  have c1 : nN n < (30 : Int32) := (z_lt (b := 30) (by omega) (by omega)).mpr hn
  have e : T_count_25 u = some (nN n) := by rw [← h0]; rfl
  refine ⟨mg_up v 26 0 (nN (n + 1)), ?_, fun j hj => by rw [z_up_ne hj, h2 j hj], by rw [zu_eq], fun i hi hi2 => ?_, fun i hi hi2 => ?_⟩
  · unfold T_add_25
    rw [e]
    show (if nN n < 30 then _ else _) = _
    rw [if_pos c1, show T_add_25_L17 mg_F (nN n) 0 u = some v from h1]
    rw [zo_1]
    rfl
  · rw [zu_ne hi, h3 i, if_neg (by omega)]
  · rw [zu_ne (by omega), h3 i, if_pos (by omega)]
theorem zf_25_no {n : Nat} {u : mg_Rg} (h0 : u 26 0 = nN n) (hn : n < 30) : T_isFull_25 u = some 0 := by
  have e : T_count_25 u = some (nN n) := by rw [← h0]; rfl
  unfold T_isFull_25
  rw [e]
  exact if_pos ((z_lt (b := 30) (by omega) (by omega)).mpr hn)
theorem zf_25_yes {n : Nat} {u : mg_Rg} (h0 : u 26 0 = nN n) (hn : n ≤ 30) (hm : ¬ n < 30) : T_isFull_25 u = some 1 := by
  have e : T_count_25 u = some (nN n) := by rw [← h0]; rfl
  have en : n = 30 := by omega
  subst en
  unfold T_isFull_25
  rw [e]
  rfl
theorem zal_30 {n : Nat} (hn : n < 4) : ∀ (m j : Nat) (u : mg_Rg), j ≤ 2 → 2 < m + j → ∃ u', T_add_30_L17 m (nN n) (nN j) u = some u' ∧ (∀ i, i ≠ 31 → u' i = u i) ∧ ∀ i, u' 31 i = if 1 + n * 2 + j ≤ i ∧ i < 1 + n * 2 + 2 then 0 else u 31 i := by
  intro m
  induction m with
  | zero => intro j u h1 h2; omega
  | succ m ih =>
    intro j u h1 h2
    unfold T_add_30_L17
    by_cases hj : j = 2
    · subst hj
      refine ⟨u, if_pos (by decide), fun _ _ => rfl, fun i => ?_⟩
      rw [if_neg (by omega)]
    · have c1 : ¬ (2 : Int32) ≤ nN j := fun q => absurd ((z_le (a := 2) (by omega) (by omega)).mp q) (by omega)
      obtain ⟨u', h3, h4, h5⟩ := ih (j + 1) (mg_up u 31 (1 + n * 2 + j) 0) (by omega) (by omega)
      rw [if_neg c1, show T_put_30 (nN n) (nN j) 0 u = some _ from tp_30 hn (by omega) 0 u]
      refine ⟨u', ?_, fun i hi => (h4 i hi).trans (z_up_ne hi), fun i => ?_⟩
      · show T_add_30_L17 m (nN n) (nN j + 1) (mg_up u 31 (1 + n * 2 + j) 0) = some u'
        rw [zo_1]
        exact h3
      · rw [h5 i, z_up_at]
        by_cases hi : i = 1 + n * 2 + j
        · subst hi
          rw [if_neg (by omega), if_pos (by omega), z_upd_at]
        · rw [z_upd_ne hi]
          by_cases hi2 : 1 + n * 2 + (j + 1) ≤ i ∧ i < 1 + n * 2 + 2
          · rw [if_pos hi2, if_pos (by omega)]
          · rw [if_neg hi2, if_neg (by omega)]
theorem za_30 {n : Nat} (hn : n < 4) {u : mg_Rg} (h0 : u 31 0 = nN n) : ∃ u', T_add_30 u = some (nN n, u') ∧ (∀ j, j ≠ 31 → u' j = u j) ∧ u' 31 0 = nN (n + 1) ∧ (∀ i, i ≠ 0 → i < 1 + n * 2 ∨ 1 + n * 2 + 2 ≤ i → u' 31 i = u 31 i) ∧ ∀ i, 1 + n * 2 ≤ i → i < 1 + n * 2 + 2 → u' 31 i = 0 := by
  obtain ⟨v, h1, h2, h3⟩ := zal_30 hn mg_F 0 u (by omega) (by show 2 < 6000 + 0; omega)
  have c1 : nN n < (4 : Int32) := (z_lt (b := 4) (by omega) (by omega)).mpr hn
  have e : T_count_30 u = some (nN n) := by rw [← h0]; rfl
  refine ⟨mg_up v 31 0 (nN (n + 1)), ?_, fun j hj => by rw [z_up_ne hj, h2 j hj], by rw [zu_eq], fun i hi hi2 => ?_, fun i hi hi2 => ?_⟩
  · unfold T_add_30
    rw [e]
    show (if nN n < 4 then _ else _) = _
    rw [if_pos c1, show T_add_30_L17 mg_F (nN n) 0 u = some v from h1]
    rw [zo_1]
    rfl
  · rw [zu_ne hi, h3 i, if_neg (by omega)]
  · rw [zu_ne (by omega), h3 i, if_pos (by omega)]
theorem zf_30_no {n : Nat} {u : mg_Rg} (h0 : u 31 0 = nN n) (hn : n < 4) : T_isFull_30 u = some 0 := by
  have e : T_count_30 u = some (nN n) := by rw [← h0]; rfl
  unfold T_isFull_30
  rw [e]
  exact if_pos ((z_lt (b := 4) (by omega) (by omega)).mpr hn)
theorem zf_30_yes {n : Nat} {u : mg_Rg} (h0 : u 31 0 = nN n) (hn : n ≤ 4) (hm : ¬ n < 4) : T_isFull_30 u = some 1 := by
  have e : T_count_30 u = some (nN n) := by rw [← h0]; rfl
  have en : n = 4 := by omega
  subst en
  unfold T_isFull_30
  rw [e]
  rfl
theorem zal_34 {n : Nat} (hn : n < 4) : ∀ (m j : Nat) (u : mg_Rg), j ≤ 2 → 2 < m + j → ∃ u', T_add_34_L17 m (nN n) (nN j) u = some u' ∧ (∀ i, i ≠ 35 → u' i = u i) ∧ ∀ i, u' 35 i = if 1 + n * 2 + j ≤ i ∧ i < 1 + n * 2 + 2 then 0 else u 35 i := by
  intro m
  induction m with
  | zero => intro j u h1 h2; omega
  | succ m ih =>
    intro j u h1 h2
    unfold T_add_34_L17
    by_cases hj : j = 2
    · subst hj
      refine ⟨u, if_pos (by decide), fun _ _ => rfl, fun i => ?_⟩
      rw [if_neg (by omega)]
    · have c1 : ¬ (2 : Int32) ≤ nN j := fun q => absurd ((z_le (a := 2) (by omega) (by omega)).mp q) (by omega)
      obtain ⟨u', h3, h4, h5⟩ := ih (j + 1) (mg_up u 35 (1 + n * 2 + j) 0) (by omega) (by omega)
      rw [if_neg c1, show T_put_34 (nN n) (nN j) 0 u = some _ from tp_34 hn (by omega) 0 u]
      refine ⟨u', ?_, fun i hi => (h4 i hi).trans (z_up_ne hi), fun i => ?_⟩
      · show T_add_34_L17 m (nN n) (nN j + 1) (mg_up u 35 (1 + n * 2 + j) 0) = some u'
        rw [zo_1]
        exact h3
      · rw [h5 i, z_up_at]
        by_cases hi : i = 1 + n * 2 + j
        · subst hi
          rw [if_neg (by omega), if_pos (by omega), z_upd_at]
        · rw [z_upd_ne hi]
          by_cases hi2 : 1 + n * 2 + (j + 1) ≤ i ∧ i < 1 + n * 2 + 2
          · rw [if_pos hi2, if_pos (by omega)]
          · rw [if_neg hi2, if_neg (by omega)]
theorem za_34 {n : Nat} (hn : n < 4) {u : mg_Rg} (h0 : u 35 0 = nN n) : ∃ u', T_add_34 u = some (nN n, u') ∧ (∀ j, j ≠ 35 → u' j = u j) ∧ u' 35 0 = nN (n + 1) ∧ (∀ i, i ≠ 0 → i < 1 + n * 2 ∨ 1 + n * 2 + 2 ≤ i → u' 35 i = u 35 i) ∧ ∀ i, 1 + n * 2 ≤ i → i < 1 + n * 2 + 2 → u' 35 i = 0 := by
  obtain ⟨v, h1, h2, h3⟩ := zal_34 hn mg_F 0 u (by omega) (by show 2 < 6000 + 0; omega)
  have c1 : nN n < (4 : Int32) := (z_lt (b := 4) (by omega) (by omega)).mpr hn
  have e : T_count_34 u = some (nN n) := by rw [← h0]; rfl
  refine ⟨mg_up v 35 0 (nN (n + 1)), ?_, fun j hj => by rw [z_up_ne hj, h2 j hj], by rw [zu_eq], fun i hi hi2 => ?_, fun i hi hi2 => ?_⟩
  · unfold T_add_34
    rw [e]
    show (if nN n < 4 then _ else _) = _
    rw [if_pos c1, show T_add_34_L17 mg_F (nN n) 0 u = some v from h1]
    rw [zo_1]
    rfl
  · rw [zu_ne hi, h3 i, if_neg (by omega)]
  · rw [zu_ne (by omega), h3 i, if_pos (by omega)]
theorem zal_39 {n : Nat} (hn : n < 8) : ∀ (m j : Nat) (u : mg_Rg), j ≤ 13 → 13 < m + j → ∃ u', T_add_39_L17 m (nN n) (nN j) u = some u' ∧ (∀ i, i ≠ 40 → u' i = u i) ∧ ∀ i, u' 40 i = if 1 + n * 13 + j ≤ i ∧ i < 1 + n * 13 + 13 then 0 else u 40 i := by
  intro m
  induction m with
  | zero => intro j u h1 h2; omega
  | succ m ih =>
    intro j u h1 h2
    unfold T_add_39_L17
    by_cases hj : j = 13
    · subst hj
      refine ⟨u, if_pos (by decide), fun _ _ => rfl, fun i => ?_⟩
      rw [if_neg (by omega)]
    · have c1 : ¬ (13 : Int32) ≤ nN j := fun q => absurd ((z_le (a := 13) (by omega) (by omega)).mp q) (by omega)
      obtain ⟨u', h3, h4, h5⟩ := ih (j + 1) (mg_up u 40 (1 + n * 13 + j) 0) (by omega) (by omega)
      rw [if_neg c1, show T_put_39 (nN n) (nN j) 0 u = some _ from tp_39 hn (by omega) 0 u]
      refine ⟨u', ?_, fun i hi => (h4 i hi).trans (z_up_ne hi), fun i => ?_⟩
      · show T_add_39_L17 m (nN n) (nN j + 1) (mg_up u 40 (1 + n * 13 + j) 0) = some u'
        rw [zo_1]
        exact h3
      · rw [h5 i, z_up_at]
        by_cases hi : i = 1 + n * 13 + j
        · subst hi
          rw [if_neg (by omega), if_pos (by omega), z_upd_at]
        · rw [z_upd_ne hi]
          by_cases hi2 : 1 + n * 13 + (j + 1) ≤ i ∧ i < 1 + n * 13 + 13
          · rw [if_pos hi2, if_pos (by omega)]
          · rw [if_neg hi2, if_neg (by omega)]
theorem za_39 {n : Nat} (hn : n < 8) {u : mg_Rg} (h0 : u 40 0 = nN n) : ∃ u', T_add_39 u = some (nN n, u') ∧ (∀ j, j ≠ 40 → u' j = u j) ∧ u' 40 0 = nN (n + 1) ∧ (∀ i, i ≠ 0 → i < 1 + n * 13 ∨ 1 + n * 13 + 13 ≤ i → u' 40 i = u 40 i) ∧ ∀ i, 1 + n * 13 ≤ i → i < 1 + n * 13 + 13 → u' 40 i = 0 := by
  obtain ⟨v, h1, h2, h3⟩ := zal_39 hn mg_F 0 u (by omega) (by show 13 < 6000 + 0; omega)
  have c1 : nN n < (8 : Int32) := (z_lt (b := 8) (by omega) (by omega)).mpr hn
  have e : T_count_39 u = some (nN n) := by rw [← h0]; rfl
  refine ⟨mg_up v 40 0 (nN (n + 1)), ?_, fun j hj => by rw [z_up_ne hj, h2 j hj], by rw [zu_eq], fun i hi hi2 => ?_, fun i hi hi2 => ?_⟩
  · unfold T_add_39
    rw [e]
    show (if nN n < 8 then _ else _) = _
    rw [if_pos c1, show T_add_39_L17 mg_F (nN n) 0 u = some v from h1]
    rw [zo_1]
    rfl
  · rw [zu_ne hi, h3 i, if_neg (by omega)]
  · rw [zu_ne (by omega), h3 i, if_pos (by omega)]
theorem z_row2 {n : Nat} (hn : n ≤ 100000) {a : Int32} (h : ∀ r < n, a ≠ nN r) : (a < 0 ∨ nN n ≤ a) ∧ (a < 0 ∨ nN n - 1 < a) := by
  rcases z_row hn a with ⟨r, hr, rfl, -⟩ | q
  · exact absurd rfl (h r hr)
  · exact q
theorem z_row1 {n r : Nat} (hn : n ≤ 100000) (hr : r < n) : ¬ nN r < 0 ∧ ¬ nN n ≤ nN r ∧ ¬ nN n - 1 < nN r := by
  rcases z_row hn (nN r) with ⟨r', hr', e, q⟩ | ⟨q1, q2⟩
  · exact q
  · exact absurd q1 (fun q => q.elim (z_nn (by omega)) (fun q => absurd ((z_le (by omega) (by omega)).mp q) (by omega)))
theorem miH_yes {n r : Nat} {u : mg_Rg} (hn : n ≤ 100) (h0 : u 43 1 = nN n) (hr : r < n) : M_in (nN r) 0 (u 43 1 - 1) u = some 1 := by
  obtain ⟨c1, -, c3⟩ := z_row1 (n := n) (by omega) hr
  rw [z_min, h0, if_neg (fun q => q.elim c1 c3)]
theorem miH_no {n : Nat} {a : Int32} {u : mg_Rg} (hn : n ≤ 100) (h0 : u 43 1 = nN n) (h : ∀ r < n, a ≠ nN r) : M_in a 0 (u 43 1 - 1) u = some 0 := by
  obtain ⟨-, c⟩ := z_row2 (n := n) (by omega) h
  rw [z_min, h0, if_pos c]
theorem chH_yes {n r : Nat} {u : mg_Rg} (hn : n ≤ 100) (h0 : u 4 0 = nN n) (hr : r < n) : T_has_3 (nN r) u = some 1 := by
  obtain ⟨c1, c2, -⟩ := z_row1 (n := n) (by omega) hr
  have e : T_count_3 u = some (nN n) := by rw [← h0]; rfl
  unfold T_has_3
  rw [if_neg c1, e]
  exact if_neg c2
theorem chH_no {n : Nat} {a : Int32} {u : mg_Rg} (hn : n ≤ 100) (h0 : u 4 0 = nN n) (h : ∀ r < n, a ≠ nN r) : T_has_3 a u = some 0 := by
  obtain ⟨c, -⟩ := z_row2 (n := n) (by omega) h
  have e : T_count_3 u = some (nN n) := by rw [← h0]; rfl
  unfold T_has_3
  rw [e]
  by_cases h1 : a < 0
  · rw [if_pos h1]
  · rw [if_neg h1]
    exact if_pos (c.resolve_left h1)
theorem miP_yes {n r : Nat} {u : mg_Rg} (hn : n ≤ 100) (h0 : u 43 2 = nN n) (hr : r < n) : M_in (nN r) 0 (u 43 2 - 1) u = some 1 := by
  obtain ⟨c1, -, c3⟩ := z_row1 (n := n) (by omega) hr
  rw [z_min, h0, if_neg (fun q => q.elim c1 c3)]
theorem miP_no {n : Nat} {a : Int32} {u : mg_Rg} (hn : n ≤ 100) (h0 : u 43 2 = nN n) (h : ∀ r < n, a ≠ nN r) : M_in a 0 (u 43 2 - 1) u = some 0 := by
  obtain ⟨-, c⟩ := z_row2 (n := n) (by omega) h
  rw [z_min, h0, if_pos c]
theorem chP_yes {n r : Nat} {u : mg_Rg} (hn : n ≤ 100) (h0 : u 7 0 = nN n) (hr : r < n) : T_has_6 (nN r) u = some 1 := by
  obtain ⟨c1, c2, -⟩ := z_row1 (n := n) (by omega) hr
  have e : T_count_6 u = some (nN n) := by rw [← h0]; rfl
  unfold T_has_6
  rw [if_neg c1, e]
  exact if_neg c2
theorem chP_no {n : Nat} {a : Int32} {u : mg_Rg} (hn : n ≤ 100) (h0 : u 7 0 = nN n) (h : ∀ r < n, a ≠ nN r) : T_has_6 a u = some 0 := by
  obtain ⟨c, -⟩ := z_row2 (n := n) (by omega) h
  have e : T_count_6 u = some (nN n) := by rw [← h0]; rfl
  unfold T_has_6
  rw [e]
  by_cases h1 : a < 0
  · rw [if_pos h1]
  · rw [if_neg h1]
    exact if_pos (c.resolve_left h1)
theorem miQ_yes {n r : Nat} {u : mg_Rg} (hn : n ≤ 100) (h0 : u 43 4 = nN n) (hr : r < n) : M_in (nN r) 0 (u 43 4 - 1) u = some 1 := by
  obtain ⟨c1, -, c3⟩ := z_row1 (n := n) (by omega) hr
  rw [z_min, h0, if_neg (fun q => q.elim c1 c3)]
theorem miQ_no {n : Nat} {a : Int32} {u : mg_Rg} (hn : n ≤ 100) (h0 : u 43 4 = nN n) (h : ∀ r < n, a ≠ nN r) : M_in a 0 (u 43 4 - 1) u = some 0 := by
  obtain ⟨-, c⟩ := z_row2 (n := n) (by omega) h
  rw [z_min, h0, if_pos c]
theorem chQ_yes {n r : Nat} {u : mg_Rg} (hn : n ≤ 100) (h0 : u 23 0 = nN n) (hr : r < n) : T_has_22 (nN r) u = some 1 := by
  obtain ⟨c1, c2, -⟩ := z_row1 (n := n) (by omega) hr
  have e : T_count_22 u = some (nN n) := by rw [← h0]; rfl
  unfold T_has_22
  rw [if_neg c1, e]
  exact if_neg c2
theorem chQ_no {n : Nat} {a : Int32} {u : mg_Rg} (hn : n ≤ 100) (h0 : u 23 0 = nN n) (h : ∀ r < n, a ≠ nN r) : T_has_22 a u = some 0 := by
  obtain ⟨c, -⟩ := z_row2 (n := n) (by omega) h
  have e : T_count_22 u = some (nN n) := by rw [← h0]; rfl
  unfold T_has_22
  rw [e]
  by_cases h1 : a < 0
  · rw [if_pos h1]
  · rw [if_neg h1]
    exact if_pos (c.resolve_left h1)
theorem miD_yes {n r : Nat} {u : mg_Rg} (hn : n ≤ 100) (h0 : u 43 5 = nN n) (hr : r < n) : M_in (nN r) 0 (u 43 5 - 1) u = some 1 := by
  obtain ⟨c1, -, c3⟩ := z_row1 (n := n) (by omega) hr
  rw [z_min, h0, if_neg (fun q => q.elim c1 c3)]
theorem miD_no {n : Nat} {a : Int32} {u : mg_Rg} (hn : n ≤ 100) (h0 : u 43 5 = nN n) (h : ∀ r < n, a ≠ nN r) : M_in a 0 (u 43 5 - 1) u = some 0 := by
  obtain ⟨-, c⟩ := z_row2 (n := n) (by omega) h
  rw [z_min, h0, if_pos c]
theorem chD_yes {n r : Nat} {u : mg_Rg} (hn : n ≤ 100) (h0 : u 26 0 = nN n) (hr : r < n) : T_has_25 (nN r) u = some 1 := by
  obtain ⟨c1, c2, -⟩ := z_row1 (n := n) (by omega) hr
  have e : T_count_25 u = some (nN n) := by rw [← h0]; rfl
  unfold T_has_25
  rw [if_neg c1, e]
  exact if_neg c2
theorem chD_no {n : Nat} {a : Int32} {u : mg_Rg} (hn : n ≤ 100) (h0 : u 26 0 = nN n) (h : ∀ r < n, a ≠ nN r) : T_has_25 a u = some 0 := by
  obtain ⟨c, -⟩ := z_row2 (n := n) (by omega) h
  have e : T_count_25 u = some (nN n) := by rw [← h0]; rfl
  unfold T_has_25
  rw [e]
  by_cases h1 : a < 0
  · rw [if_pos h1]
  · rw [if_neg h1]
    exact if_pos (c.resolve_left h1)
theorem crH_yes {n r : Nat} {u : mg_Rg} (hn : n ≤ 100) (h0 : u 4 0 = nN n) (hr : r < n) : C_requireHeading (nN r) u = some (.inl (), u) := by
  unfold C_requireHeading
  rw [chH_yes hn h0 hr]
  rfl
theorem crH_no {n : Nat} {a : Int32} {u : mg_Rg} (hn : n ≤ 100) (h0 : u 4 0 = nN n) (h : ∀ r < n, a ≠ nN r) : C_requireHeading a u = some (.inr 0, u) := by
  unfold C_requireHeading
  rw [chH_no hn h0 h]
  rfl
theorem crQ_yes {n r : Nat} {u : mg_Rg} (hn : n ≤ 100) (h0 : u 23 0 = nN n) (hr : r < n) : C_requireQuota (nN r) u = some (.inl (), u) := by
  unfold C_requireQuota
  rw [chQ_yes hn h0 hr]
  rfl
theorem crQ_no {n : Nat} {a : Int32} {u : mg_Rg} (hn : n ≤ 100) (h0 : u 23 0 = nN n) (h : ∀ r < n, a ≠ nN r) : C_requireQuota a u = some (.inr 0, u) := by
  unfold C_requireQuota
  rw [chQ_no hn h0 h]
  rfl
theorem crD_yes {n r : Nat} {u : mg_Rg} (hn : n ≤ 100) (h0 : u 26 0 = nN n) (hr : r < n) : C_requireDeclaration (nN r) u = some (.inl (), u) := by
  unfold C_requireDeclaration
  rw [chD_yes hn h0 hr]
  rfl
theorem crD_no {n : Nat} {a : Int32} {u : mg_Rg} (hn : n ≤ 100) (h0 : u 26 0 = nN n) (h : ∀ r < n, a ≠ nN r) : C_requireDeclaration a u = some (.inr 0, u) := by
  unfold C_requireDeclaration
  rw [chD_no hn h0 h]
  rfl
theorem mrH_yes {n r : Nat} {u : mg_Rg} (hn : n ≤ 100) (h0 : u 43 1 = nN n) (hr : r < n) : M_isHead (nN r) u = some 1 := by
  unfold M_isHead
  rw [miH_yes hn h0 hr]
  rfl
theorem mrH_no {n : Nat} {a : Int32} {u : mg_Rg} (hn : n ≤ 100) (h0 : u 43 1 = nN n) (h : ∀ r < n, a ≠ nN r) : M_isHead a u = some 0 := by
  unfold M_isHead
  rw [miH_no hn h0 h]
  rfl
theorem mrD_yes {n r : Nat} {u : mg_Rg} (hn : n ≤ 100) (h0 : u 43 5 = nN n) (hr : r < n) : M_isDecl (nN r) u = some 1 := by
  unfold M_isDecl
  rw [miD_yes hn h0 hr]
  rfl
theorem mrD_no {n : Nat} {a : Int32} {u : mg_Rg} (hn : n ≤ 100) (h0 : u 43 5 = nN n) (h : ∀ r < n, a ≠ nN r) : M_isDecl a u = some 0 := by
  unfold M_isDecl
  rw [miD_no hn h0 h]
  rfl
theorem ccy_yes {r : Nat} {u : mg_Rg} (hr : r < 8) : C_isCountry (nN r) u = some 1 ∧ C_requireCountry (nN r) u = some (.inl (), u) ∧ M_isCountry (nN r) u = some 1 := by
  rcases z_ctry (nN r) u with ⟨r', h, e, h1, h2⟩ | ⟨h1, h2⟩
  · refine ⟨h1, ?_, h2⟩
    unfold C_requireCountry
    rw [h1]
    rfl
  · obtain ⟨c1, -, c3⟩ := z_row1 (n := 8) (by omega) hr
    have c3 : ¬ (7 : Int32) < nN r := c3
    have q : C_isCountry (nN r) u = some 1 := by
      unfold C_isCountry
      rw [z_win_yes (fun q => q.elim c1 c3)]
      rfl
    rw [h1] at q
    exact absurd (Option.some.inj q) (by decide)
theorem ccy_no {a : Int32} {u : mg_Rg} (h : ∀ r < 8, a ≠ nN r) : C_isCountry a u = some 0 ∧ C_requireCountry a u = some (.inr 0, u) ∧ M_isCountry a u = some 0 := by
  rcases z_ctry a u with ⟨r', h', e, -⟩ | ⟨h1, h2⟩
  · exact absurd e (h r' h')
  · refine ⟨h1, ?_, h2⟩
    unfold C_requireCountry
    rw [h1]
    rfl
