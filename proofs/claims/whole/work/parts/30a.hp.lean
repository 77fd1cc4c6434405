theorem hpg_0 (u : mg_Rg) (fL : Nat → Int64) (fD : Nat → UInt64) : (hp u fL fD)[0]? = some (.inr (7, [.ref 2, .ref 3, .ref 16, .ref 30, .ref 34, .ref 38, .int (u 0 6), .int (u 0 7), .int (u 0 8), .int (u 0 9)])) := rfl
theorem hpf_0_6 (u : mg_Rg) (fL : Nat → Int64) (fD : Nat → UInt64) (c z : Nat) (v : Int32) : mg_upc (hp u fL fD, c, z) 0 (.inr (7, [.ref 2, .ref 3, .ref 16, .ref 30, .ref 34, .ref 38, .int (u 0 6), .int (u 0 7), .int (u 0 8), .int (u 0 9)].set 6 (.int v))) = (hp (mg_up u 0 6 v) fL fD, c, z) := rfl
theorem hpf_0_7 (u : mg_Rg) (fL : Nat → Int64) (fD : Nat → UInt64) (c z : Nat) (v : Int32) : mg_upc (hp u fL fD, c, z) 0 (.inr (7, [.ref 2, .ref 3, .ref 16, .ref 30, .ref 34, .ref 38, .int (u 0 6), .int (u 0 7), .int (u 0 8), .int (u 0 9)].set 7 (.int v))) = (hp (mg_up u 0 7 v) fL fD, c, z) := rfl
theorem hpf_0_8 (u : mg_Rg) (fL : Nat → Int64) (fD : Nat → UInt64) (c z : Nat) (v : Int32) : mg_upc (hp u fL fD, c, z) 0 (.inr (7, [.ref 2, .ref 3, .ref 16, .ref 30, .ref 34, .ref 38, .int (u 0 6), .int (u 0 7), .int (u 0 8), .int (u 0 9)].set 8 (.int v))) = (hp (mg_up u 0 8 v) fL fD, c, z) := rfl
theorem hpf_0_9 (u : mg_Rg) (fL : Nat → Int64) (fD : Nat → UInt64) (c z : Nat) (v : Int32) : mg_upc (hp u fL fD, c, z) 0 (.inr (7, [.ref 2, .ref 3, .ref 16, .ref 30, .ref 34, .ref 38, .int (u 0 6), .int (u 0 7), .int (u 0 8), .int (u 0 9)].set 9 (.int v))) = (hp (mg_up u 0 9 v) fL fD, c, z) := rfl
theorem hpg_1 (u : mg_Rg) (fL : Nat → Int64) (fD : Nat → UInt64) : (hp u fL fD)[1]? = some (.inr (2, [.ref 3, .ref 16, .ref 23, .ref 26, .ref 29])) := rfl
theorem hpg_2 (u : mg_Rg) (fL : Nat → Int64) (fD : Nat → UInt64) : (hp u fL fD)[2]? = some (.inr (5, [.ref 4, .ref 7, .ref 10, .ref 13])) := rfl
theorem hpg_3 (u : mg_Rg) (fL : Nat → Int64) (fD : Nat → UInt64) : (hp u fL fD)[3]? = some (.inr (4, [.int 20, .int 3, .ref 5, .ref 6])) := rfl
theorem hpg_4 (u : mg_Rg) (fL : Nat → Int64) (fD : Nat → UInt64) : (hp u fL fD)[4]? = some (.inl (0, 61, .inl (u 4))) := rfl
theorem hpa_4 (u : mg_Rg) (fL : Nat → Int64) (fD : Nat → UInt64) (c z i : Nat) (v : Int32) : mg_upc (hp u fL fD, c, z) 4 (.inl (0, 61, .inl (upd (u 4) i v))) = (hp (mg_up u 4 i v) fL fD, c, z) := rfl
theorem hpr_4 (u : mg_Rg) (fL : Nat → Int64) (fD : Nat → UInt64) (c z : Nat) (f : Nat → Int32) : mg_upc (hp u fL fD, c, z) 4 (.inl (0, 61, .inl f)) = (hp (mg_rw u 4 f) fL fD, c, z) := rfl
theorem hpg_5 (u : mg_Rg) (fL : Nat → Int64) (fD : Nat → UInt64) : (hp u fL fD)[5]? = some (.inl (0, 549, .inl (u 5))) := rfl
theorem hpa_5 (u : mg_Rg) (fL : Nat → Int64) (fD : Nat → UInt64) (c z i : Nat) (v : Int32) : mg_upc (hp u fL fD, c, z) 5 (.inl (0, 549, .inl (upd (u 5) i v))) = (hp (mg_up u 5 i v) fL fD, c, z) := rfl
theorem hpr_5 (u : mg_Rg) (fL : Nat → Int64) (fD : Nat → UInt64) (c z : Nat) (f : Nat → Int32) : mg_upc (hp u fL fD, c, z) 5 (.inl (0, 549, .inl f)) = (hp (mg_rw u 5 f) fL fD, c, z) := rfl
theorem hpg_6 (u : mg_Rg) (fL : Nat → Int64) (fD : Nat → UInt64) : (hp u fL fD)[6]? = some (.inr (4, [.int 10, .int 4, .ref 8, .ref 9])) := rfl
theorem hpg_7 (u : mg_Rg) (fL : Nat → Int64) (fD : Nat → UInt64) : (hp u fL fD)[7]? = some (.inl (0, 41, .inl (u 7))) := rfl
theorem hpa_7 (u : mg_Rg) (fL : Nat → Int64) (fD : Nat → UInt64) (c z i : Nat) (v : Int32) : mg_upc (hp u fL fD, c, z) 7 (.inl (0, 41, .inl (upd (u 7) i v))) = (hp (mg_up u 7 i v) fL fD, c, z) := rfl
theorem hpr_7 (u : mg_Rg) (fL : Nat → Int64) (fD : Nat → UInt64) (c z : Nat) (f : Nat → Int32) : mg_upc (hp u fL fD, c, z) 7 (.inl (0, 41, .inl f)) = (hp (mg_rw u 7 f) fL fD, c, z) := rfl
theorem hpg_8 (u : mg_Rg) (fL : Nat → Int64) (fD : Nat → UInt64) : (hp u fL fD)[8]? = some (.inl (0, 369, .inl (u 8))) := rfl
theorem hpa_8 (u : mg_Rg) (fL : Nat → Int64) (fD : Nat → UInt64) (c z i : Nat) (v : Int32) : mg_upc (hp u fL fD, c, z) 8 (.inl (0, 369, .inl (upd (u 8) i v))) = (hp (mg_up u 8 i v) fL fD, c, z) := rfl
theorem hpr_8 (u : mg_Rg) (fL : Nat → Int64) (fD : Nat → UInt64) (c z : Nat) (f : Nat → Int32) : mg_upc (hp u fL fD, c, z) 8 (.inl (0, 369, .inl f)) = (hp (mg_rw u 8 f) fL fD, c, z) := rfl
theorem hpg_9 (u : mg_Rg) (fL : Nat → Int64) (fD : Nat → UInt64) : (hp u fL fD)[9]? = some (.inr (4, [.int 6, .int 3, .ref 11, .ref 12])) := rfl
theorem hpg_10 (u : mg_Rg) (fL : Nat → Int64) (fD : Nat → UInt64) : (hp u fL fD)[10]? = some (.inl (0, 19, .inl (u 10))) := rfl
theorem hpa_10 (u : mg_Rg) (fL : Nat → Int64) (fD : Nat → UInt64) (c z i : Nat) (v : Int32) : mg_upc (hp u fL fD, c, z) 10 (.inl (0, 19, .inl (upd (u 10) i v))) = (hp (mg_up u 10 i v) fL fD, c, z) := rfl
theorem hpr_10 (u : mg_Rg) (fL : Nat → Int64) (fD : Nat → UInt64) (c z : Nat) (f : Nat → Int32) : mg_upc (hp u fL fD, c, z) 10 (.inl (0, 19, .inl f)) = (hp (mg_rw u 10 f) fL fD, c, z) := rfl
theorem hpg_11 (u : mg_Rg) (fL : Nat → Int64) (fD : Nat → UInt64) : (hp u fL fD)[11]? = some (.inl (0, 171, .inl (u 11))) := rfl
theorem hpa_11 (u : mg_Rg) (fL : Nat → Int64) (fD : Nat → UInt64) (c z i : Nat) (v : Int32) : mg_upc (hp u fL fD, c, z) 11 (.inl (0, 171, .inl (upd (u 11) i v))) = (hp (mg_up u 11 i v) fL fD, c, z) := rfl
theorem hpr_11 (u : mg_Rg) (fL : Nat → Int64) (fD : Nat → UInt64) (c z : Nat) (f : Nat → Int32) : mg_upc (hp u fL fD, c, z) 11 (.inl (0, 171, .inl f)) = (hp (mg_rw u 11 f) fL fD, c, z) := rfl
theorem hpg_12 (u : mg_Rg) (fL : Nat → Int64) (fD : Nat → UInt64) : (hp u fL fD)[12]? = some (.inr (4, [.int 3, .int 1, .ref 14, .ref 15])) := rfl
theorem hpg_13 (u : mg_Rg) (fL : Nat → Int64) (fD : Nat → UInt64) : (hp u fL fD)[13]? = some (.inl (0, 4, .inl (u 13))) := rfl
theorem hpa_13 (u : mg_Rg) (fL : Nat → Int64) (fD : Nat → UInt64) (c z i : Nat) (v : Int32) : mg_upc (hp u fL fD, c, z) 13 (.inl (0, 4, .inl (upd (u 13) i v))) = (hp (mg_up u 13 i v) fL fD, c, z) := rfl
theorem hpr_13 (u : mg_Rg) (fL : Nat → Int64) (fD : Nat → UInt64) (c z : Nat) (f : Nat → Int32) : mg_upc (hp u fL fD, c, z) 13 (.inl (0, 4, .inl f)) = (hp (mg_rw u 13 f) fL fD, c, z) := rfl
theorem hpg_14 (u : mg_Rg) (fL : Nat → Int64) (fD : Nat → UInt64) : (hp u fL fD)[14]? = some (.inl (0, 36, .inl (u 14))) := rfl
theorem hpa_14 (u : mg_Rg) (fL : Nat → Int64) (fD : Nat → UInt64) (c z i : Nat) (v : Int32) : mg_upc (hp u fL fD, c, z) 14 (.inl (0, 36, .inl (upd (u 14) i v))) = (hp (mg_up u 14 i v) fL fD, c, z) := rfl
theorem hpr_14 (u : mg_Rg) (fL : Nat → Int64) (fD : Nat → UInt64) (c z : Nat) (f : Nat → Int32) : mg_upc (hp u fL fD, c, z) 14 (.inl (0, 36, .inl f)) = (hp (mg_rw u 14 f) fL fD, c, z) := rfl
theorem hpg_15 (u : mg_Rg) (fL : Nat → Int64) (fD : Nat → UInt64) : (hp u fL fD)[15]? = some (.inr (1, [.ref 17, .ref 20])) := rfl
theorem hpg_16 (u : mg_Rg) (fL : Nat → Int64) (fD : Nat → UInt64) : (hp u fL fD)[16]? = some (.inr (4, [.int 3, .int 1, .ref 18, .ref 19])) := rfl
theorem hpg_17 (u : mg_Rg) (fL : Nat → Int64) (fD : Nat → UInt64) : (hp u fL fD)[17]? = some (.inl (0, 4, .inl (u 17))) := rfl
theorem hpa_17 (u : mg_Rg) (fL : Nat → Int64) (fD : Nat → UInt64) (c z i : Nat) (v : Int32) : mg_upc (hp u fL fD, c, z) 17 (.inl (0, 4, .inl (upd (u 17) i v))) = (hp (mg_up u 17 i v) fL fD, c, z) := rfl
theorem hpr_17 (u : mg_Rg) (fL : Nat → Int64) (fD : Nat → UInt64) (c z : Nat) (f : Nat → Int32) : mg_upc (hp u fL fD, c, z) 17 (.inl (0, 4, .inl f)) = (hp (mg_rw u 17 f) fL fD, c, z) := rfl
theorem hpg_18 (u : mg_Rg) (fL : Nat → Int64) (fD : Nat → UInt64) : (hp u fL fD)[18]? = some (.inl (0, 36, .inl (u 18))) := rfl
theorem hpa_18 (u : mg_Rg) (fL : Nat → Int64) (fD : Nat → UInt64) (c z i : Nat) (v : Int32) : mg_upc (hp u fL fD, c, z) 18 (.inl (0, 36, .inl (upd (u 18) i v))) = (hp (mg_up u 18 i v) fL fD, c, z) := rfl
theorem hpr_18 (u : mg_Rg) (fL : Nat → Int64) (fD : Nat → UInt64) (c z : Nat) (f : Nat → Int32) : mg_upc (hp u fL fD, c, z) 18 (.inl (0, 36, .inl f)) = (hp (mg_rw u 18 f) fL fD, c, z) := rfl
theorem hpg_19 (u : mg_Rg) (fL : Nat → Int64) (fD : Nat → UInt64) : (hp u fL fD)[19]? = some (.inr (4, [.int 8, .int 1, .ref 21, .ref 22])) := rfl
theorem hpg_20 (u : mg_Rg) (fL : Nat → Int64) (fD : Nat → UInt64) : (hp u fL fD)[20]? = some (.inl (0, 9, .inl (u 20))) := rfl
theorem hpa_20 (u : mg_Rg) (fL : Nat → Int64) (fD : Nat → UInt64) (c z i : Nat) (v : Int32) : mg_upc (hp u fL fD, c, z) 20 (.inl (0, 9, .inl (upd (u 20) i v))) = (hp (mg_up u 20 i v) fL fD, c, z) := rfl
theorem hpr_20 (u : mg_Rg) (fL : Nat → Int64) (fD : Nat → UInt64) (c z : Nat) (f : Nat → Int32) : mg_upc (hp u fL fD, c, z) 20 (.inl (0, 9, .inl f)) = (hp (mg_rw u 20 f) fL fD, c, z) := rfl
theorem hpg_21 (u : mg_Rg) (fL : Nat → Int64) (fD : Nat → UInt64) : (hp u fL fD)[21]? = some (.inl (0, 81, .inl (u 21))) := rfl
theorem hpa_21 (u : mg_Rg) (fL : Nat → Int64) (fD : Nat → UInt64) (c z i : Nat) (v : Int32) : mg_upc (hp u fL fD, c, z) 21 (.inl (0, 81, .inl (upd (u 21) i v))) = (hp (mg_up u 21 i v) fL fD, c, z) := rfl
theorem hpr_21 (u : mg_Rg) (fL : Nat → Int64) (fD : Nat → UInt64) (c z : Nat) (f : Nat → Int32) : mg_upc (hp u fL fD, c, z) 21 (.inl (0, 81, .inl f)) = (hp (mg_rw u 21 f) fL fD, c, z) := rfl
theorem hpg_22 (u : mg_Rg) (fL : Nat → Int64) (fD : Nat → UInt64) : (hp u fL fD)[22]? = some (.inr (4, [.int 6, .int 9, .ref 24, .ref 25])) := rfl
theorem hpg_23 (u : mg_Rg) (fL : Nat → Int64) (fD : Nat → UInt64) : (hp u fL fD)[23]? = some (.inl (0, 55, .inl (u 23))) := rfl
theorem hpa_23 (u : mg_Rg) (fL : Nat → Int64) (fD : Nat → UInt64) (c z i : Nat) (v : Int32) : mg_upc (hp u fL fD, c, z) 23 (.inl (0, 55, .inl (upd (u 23) i v))) = (hp (mg_up u 23 i v) fL fD, c, z) := rfl
theorem hpr_23 (u : mg_Rg) (fL : Nat → Int64) (fD : Nat → UInt64) (c z : Nat) (f : Nat → Int32) : mg_upc (hp u fL fD, c, z) 23 (.inl (0, 55, .inl f)) = (hp (mg_rw u 23 f) fL fD, c, z) := rfl
theorem hpg_24 (u : mg_Rg) (fL : Nat → Int64) (fD : Nat → UInt64) : (hp u fL fD)[24]? = some (.inl (0, 495, .inl (u 24))) := rfl
theorem hpa_24 (u : mg_Rg) (fL : Nat → Int64) (fD : Nat → UInt64) (c z i : Nat) (v : Int32) : mg_upc (hp u fL fD, c, z) 24 (.inl (0, 495, .inl (upd (u 24) i v))) = (hp (mg_up u 24 i v) fL fD, c, z) := rfl
theorem hpr_24 (u : mg_Rg) (fL : Nat → Int64) (fD : Nat → UInt64) (c z : Nat) (f : Nat → Int32) : mg_upc (hp u fL fD, c, z) 24 (.inl (0, 495, .inl f)) = (hp (mg_rw u 24 f) fL fD, c, z) := rfl
theorem hpg_25 (u : mg_Rg) (fL : Nat → Int64) (fD : Nat → UInt64) : (hp u fL fD)[25]? = some (.inr (4, [.int 30, .int 15, .ref 27, .ref 28])) := rfl
theorem hpg_26 (u : mg_Rg) (fL : Nat → Int64) (fD : Nat → UInt64) : (hp u fL fD)[26]? = some (.inl (0, 451, .inl (u 26))) := rfl
theorem hpa_26 (u : mg_Rg) (fL : Nat → Int64) (fD : Nat → UInt64) (c z i : Nat) (v : Int32) : mg_upc (hp u fL fD, c, z) 26 (.inl (0, 451, .inl (upd (u 26) i v))) = (hp (mg_up u 26 i v) fL fD, c, z) := rfl
theorem hpr_26 (u : mg_Rg) (fL : Nat → Int64) (fD : Nat → UInt64) (c z : Nat) (f : Nat → Int32) : mg_upc (hp u fL fD, c, z) 26 (.inl (0, 451, .inl f)) = (hp (mg_rw u 26 f) fL fD, c, z) := rfl
theorem hpg_27 (u : mg_Rg) (fL : Nat → Int64) (fD : Nat → UInt64) : (hp u fL fD)[27]? = some (.inl (0, 4059, .inl (u 27))) := rfl
theorem hpa_27 (u : mg_Rg) (fL : Nat → Int64) (fD : Nat → UInt64) (c z i : Nat) (v : Int32) : mg_upc (hp u fL fD, c, z) 27 (.inl (0, 4059, .inl (upd (u 27) i v))) = (hp (mg_up u 27 i v) fL fD, c, z) := rfl
theorem hpr_27 (u : mg_Rg) (fL : Nat → Int64) (fD : Nat → UInt64) (c z : Nat) (f : Nat → Int32) : mg_upc (hp u fL fD, c, z) 27 (.inl (0, 4059, .inl f)) = (hp (mg_rw u 27 f) fL fD, c, z) := rfl
theorem hpg_28 (u : mg_Rg) (fL : Nat → Int64) (fD : Nat → UInt64) : (hp u fL fD)[28]? = some (.inr (0, [.int (u 28 0), .int (u 28 1), .int (u 28 2), .int (u 28 3), .int (u 28 4)])) := rfl
theorem hpf_28_0 (u : mg_Rg) (fL : Nat → Int64) (fD : Nat → UInt64) (c z : Nat) (v : Int32) : mg_upc (hp u fL fD, c, z) 28 (.inr (0, [.int (u 28 0), .int (u 28 1), .int (u 28 2), .int (u 28 3), .int (u 28 4)].set 0 (.int v))) = (hp (mg_up u 28 0 v) fL fD, c, z) := rfl
theorem hpf_28_1 (u : mg_Rg) (fL : Nat → Int64) (fD : Nat → UInt64) (c z : Nat) (v : Int32) : mg_upc (hp u fL fD, c, z) 28 (.inr (0, [.int (u 28 0), .int (u 28 1), .int (u 28 2), .int (u 28 3), .int (u 28 4)].set 1 (.int v))) = (hp (mg_up u 28 1 v) fL fD, c, z) := rfl
theorem hpf_28_2 (u : mg_Rg) (fL : Nat → Int64) (fD : Nat → UInt64) (c z : Nat) (v : Int32) : mg_upc (hp u fL fD, c, z) 28 (.inr (0, [.int (u 28 0), .int (u 28 1), .int (u 28 2), .int (u 28 3), .int (u 28 4)].set 2 (.int v))) = (hp (mg_up u 28 2 v) fL fD, c, z) := rfl
theorem hpf_28_3 (u : mg_Rg) (fL : Nat → Int64) (fD : Nat → UInt64) (c z : Nat) (v : Int32) : mg_upc (hp u fL fD, c, z) 28 (.inr (0, [.int (u 28 0), .int (u 28 1), .int (u 28 2), .int (u 28 3), .int (u 28 4)].set 3 (.int v))) = (hp (mg_up u 28 3 v) fL fD, c, z) := rfl
theorem hpf_28_4 (u : mg_Rg) (fL : Nat → Int64) (fD : Nat → UInt64) (c z : Nat) (v : Int32) : mg_upc (hp u fL fD, c, z) 28 (.inr (0, [.int (u 28 0), .int (u 28 1), .int (u 28 2), .int (u 28 3), .int (u 28 4)].set 4 (.int v))) = (hp (mg_up u 28 4 v) fL fD, c, z) := rfl
theorem hpg_29 (u : mg_Rg) (fL : Nat → Int64) (fD : Nat → UInt64) : (hp u fL fD)[29]? = some (.inr (3, [.ref 31])) := rfl
theorem hpg_30 (u : mg_Rg) (fL : Nat → Int64) (fD : Nat → UInt64) : (hp u fL fD)[30]? = some (.inr (4, [.int 4, .int 2, .ref 32, .ref 33])) := rfl
theorem hpg_31 (u : mg_Rg) (fL : Nat → Int64) (fD : Nat → UInt64) : (hp u fL fD)[31]? = some (.inl (0, 9, .inl (u 31))) := rfl
theorem hpa_31 (u : mg_Rg) (fL : Nat → Int64) (fD : Nat → UInt64) (c z i : Nat) (v : Int32) : mg_upc (hp u fL fD, c, z) 31 (.inl (0, 9, .inl (upd (u 31) i v))) = (hp (mg_up u 31 i v) fL fD, c, z) := rfl
theorem hpr_31 (u : mg_Rg) (fL : Nat → Int64) (fD : Nat → UInt64) (c z : Nat) (f : Nat → Int32) : mg_upc (hp u fL fD, c, z) 31 (.inl (0, 9, .inl f)) = (hp (mg_rw u 31 f) fL fD, c, z) := rfl
theorem hpg_32 (u : mg_Rg) (fL : Nat → Int64) (fD : Nat → UInt64) : (hp u fL fD)[32]? = some (.inl (0, 81, .inl (u 32))) := rfl
theorem hpa_32 (u : mg_Rg) (fL : Nat → Int64) (fD : Nat → UInt64) (c z i : Nat) (v : Int32) : mg_upc (hp u fL fD, c, z) 32 (.inl (0, 81, .inl (upd (u 32) i v))) = (hp (mg_up u 32 i v) fL fD, c, z) := rfl
theorem hpr_32 (u : mg_Rg) (fL : Nat → Int64) (fD : Nat → UInt64) (c z : Nat) (f : Nat → Int32) : mg_upc (hp u fL fD, c, z) 32 (.inl (0, 81, .inl f)) = (hp (mg_rw u 32 f) fL fD, c, z) := rfl
theorem hpg_33 (u : mg_Rg) (fL : Nat → Int64) (fD : Nat → UInt64) : (hp u fL fD)[33]? = some (.inr (3, [.ref 35])) := rfl
theorem hpg_34 (u : mg_Rg) (fL : Nat → Int64) (fD : Nat → UInt64) : (hp u fL fD)[34]? = some (.inr (4, [.int 4, .int 2, .ref 36, .ref 37])) := rfl
theorem hpg_35 (u : mg_Rg) (fL : Nat → Int64) (fD : Nat → UInt64) : (hp u fL fD)[35]? = some (.inl (0, 9, .inl (u 35))) := rfl
theorem hpa_35 (u : mg_Rg) (fL : Nat → Int64) (fD : Nat → UInt64) (c z i : Nat) (v : Int32) : mg_upc (hp u fL fD, c, z) 35 (.inl (0, 9, .inl (upd (u 35) i v))) = (hp (mg_up u 35 i v) fL fD, c, z) := rfl
theorem hpr_35 (u : mg_Rg) (fL : Nat → Int64) (fD : Nat → UInt64) (c z : Nat) (f : Nat → Int32) : mg_upc (hp u fL fD, c, z) 35 (.inl (0, 9, .inl f)) = (hp (mg_rw u 35 f) fL fD, c, z) := rfl
theorem hpg_36 (u : mg_Rg) (fL : Nat → Int64) (fD : Nat → UInt64) : (hp u fL fD)[36]? = some (.inl (0, 0, .inl (u 36))) := rfl
theorem hpa_36 (u : mg_Rg) (fL : Nat → Int64) (fD : Nat → UInt64) (c z i : Nat) (v : Int32) : mg_upc (hp u fL fD, c, z) 36 (.inl (0, 0, .inl (upd (u 36) i v))) = (hp (mg_up u 36 i v) fL fD, c, z) := rfl
theorem hpr_36 (u : mg_Rg) (fL : Nat → Int64) (fD : Nat → UInt64) (c z : Nat) (f : Nat → Int32) : mg_upc (hp u fL fD, c, z) 36 (.inl (0, 0, .inl f)) = (hp (mg_rw u 36 f) fL fD, c, z) := rfl
theorem hpg_37 (u : mg_Rg) (fL : Nat → Int64) (fD : Nat → UInt64) : (hp u fL fD)[37]? = some (.inr (6, [.ref 39, .ref 40, .int (u 37 2), .int (u 37 3), .int (u 37 4)])) := rfl
theorem hpf_37_2 (u : mg_Rg) (fL : Nat → Int64) (fD : Nat → UInt64) (c z : Nat) (v : Int32) : mg_upc (hp u fL fD, c, z) 37 (.inr (6, [.ref 39, .ref 40, .int (u 37 2), .int (u 37 3), .int (u 37 4)].set 2 (.int v))) = (hp (mg_up u 37 2 v) fL fD, c, z) := rfl
theorem hpf_37_3 (u : mg_Rg) (fL : Nat → Int64) (fD : Nat → UInt64) (c z : Nat) (v : Int32) : mg_upc (hp u fL fD, c, z) 37 (.inr (6, [.ref 39, .ref 40, .int (u 37 2), .int (u 37 3), .int (u 37 4)].set 3 (.int v))) = (hp (mg_up u 37 3 v) fL fD, c, z) := rfl
theorem hpf_37_4 (u : mg_Rg) (fL : Nat → Int64) (fD : Nat → UInt64) (c z : Nat) (v : Int32) : mg_upc (hp u fL fD, c, z) 37 (.inr (6, [.ref 39, .ref 40, .int (u 37 2), .int (u 37 3), .int (u 37 4)].set 4 (.int v))) = (hp (mg_up u 37 4 v) fL fD, c, z) := rfl
theorem hpg_38 (u : mg_Rg) (fL : Nat → Int64) (fD : Nat → UInt64) : (hp u fL fD)[38]? = some (.inl (1, 60, .inl (u 38))) := rfl
theorem hpa_38 (u : mg_Rg) (fL : Nat → Int64) (fD : Nat → UInt64) (c z i : Nat) (v : Int32) : mg_upc (hp u fL fD, c, z) 38 (.inl (1, 60, .inl (upd (u 38) i v))) = (hp (mg_up u 38 i v) fL fD, c, z) := rfl
theorem hpg_39 (u : mg_Rg) (fL : Nat → Int64) (fD : Nat → UInt64) : (hp u fL fD)[39]? = some (.inr (4, [.int 8, .int 13, .ref 41, .ref 42])) := rfl
theorem hpg_40 (u : mg_Rg) (fL : Nat → Int64) (fD : Nat → UInt64) : (hp u fL fD)[40]? = some (.inl (0, 105, .inl (u 40))) := rfl
theorem hpa_40 (u : mg_Rg) (fL : Nat → Int64) (fD : Nat → UInt64) (c z i : Nat) (v : Int32) : mg_upc (hp u fL fD, c, z) 40 (.inl (0, 105, .inl (upd (u 40) i v))) = (hp (mg_up u 40 i v) fL fD, c, z) := rfl
theorem hpr_40 (u : mg_Rg) (fL : Nat → Int64) (fD : Nat → UInt64) (c z : Nat) (f : Nat → Int32) : mg_upc (hp u fL fD, c, z) 40 (.inl (0, 105, .inl f)) = (hp (mg_rw u 40 f) fL fD, c, z) := rfl
theorem hpg_41 (u : mg_Rg) (fL : Nat → Int64) (fD : Nat → UInt64) : (hp u fL fD)[41]? = some (.inl (0, 0, .inl (u 41))) := rfl
theorem hpa_41 (u : mg_Rg) (fL : Nat → Int64) (fD : Nat → UInt64) (c z i : Nat) (v : Int32) : mg_upc (hp u fL fD, c, z) 41 (.inl (0, 0, .inl (upd (u 41) i v))) = (hp (mg_up u 41 i v) fL fD, c, z) := rfl
theorem hpr_41 (u : mg_Rg) (fL : Nat → Int64) (fD : Nat → UInt64) (c z : Nat) (f : Nat → Int32) : mg_upc (hp u fL fD, c, z) 41 (.inl (0, 0, .inl f)) = (hp (mg_rw u 41 f) fL fD, c, z) := rfl
theorem hpg_42 (u : mg_Rg) (fL : Nat → Int64) (fD : Nat → UInt64) : (hp u fL fD)[42]? = some (.inr (8, [.int (u 42 0), .ref 44, .ref 45, .int (u 42 3), .ref 46, .int (u 42 5), .ref 47, .int (u 42 7), .int (u 42 8), .ref 48, .int (u 42 10), .int (u 42 11), .ref 49, .int (u 42 13), .int (u 42 14), .ref 50])) := rfl
theorem hpf_42_0 (u : mg_Rg) (fL : Nat → Int64) (fD : Nat → UInt64) (c z : Nat) (v : Int32) : mg_upc (hp u fL fD, c, z) 42 (.inr (8, [.int (u 42 0), .ref 44, .ref 45, .int (u 42 3), .ref 46, .int (u 42 5), .ref 47, .int (u 42 7), .int (u 42 8), .ref 48, .int (u 42 10), .int (u 42 11), .ref 49, .int (u 42 13), .int (u 42 14), .ref 50].set 0 (.int v))) = (hp (mg_up u 42 0 v) fL fD, c, z) := rfl
theorem hpf_42_3 (u : mg_Rg) (fL : Nat → Int64) (fD : Nat → UInt64) (c z : Nat) (v : Int32) : mg_upc (hp u fL fD, c, z) 42 (.inr (8, [.int (u 42 0), .ref 44, .ref 45, .int (u 42 3), .ref 46, .int (u 42 5), .ref 47, .int (u 42 7), .int (u 42 8), .ref 48, .int (u 42 10), .int (u 42 11), .ref 49, .int (u 42 13), .int (u 42 14), .ref 50].set 3 (.int v))) = (hp (mg_up u 42 3 v) fL fD, c, z) := rfl
theorem hpf_42_5 (u : mg_Rg) (fL : Nat → Int64) (fD : Nat → UInt64) (c z : Nat) (v : Int32) : mg_upc (hp u fL fD, c, z) 42 (.inr (8, [.int (u 42 0), .ref 44, .ref 45, .int (u 42 3), .ref 46, .int (u 42 5), .ref 47, .int (u 42 7), .int (u 42 8), .ref 48, .int (u 42 10), .int (u 42 11), .ref 49, .int (u 42 13), .int (u 42 14), .ref 50].set 5 (.int v))) = (hp (mg_up u 42 5 v) fL fD, c, z) := rfl
theorem hpf_42_7 (u : mg_Rg) (fL : Nat → Int64) (fD : Nat → UInt64) (c z : Nat) (v : Int32) : mg_upc (hp u fL fD, c, z) 42 (.inr (8, [.int (u 42 0), .ref 44, .ref 45, .int (u 42 3), .ref 46, .int (u 42 5), .ref 47, .int (u 42 7), .int (u 42 8), .ref 48, .int (u 42 10), .int (u 42 11), .ref 49, .int (u 42 13), .int (u 42 14), .ref 50].set 7 (.int v))) = (hp (mg_up u 42 7 v) fL fD, c, z) := rfl
theorem hpf_42_8 (u : mg_Rg) (fL : Nat → Int64) (fD : Nat → UInt64) (c z : Nat) (v : Int32) : mg_upc (hp u fL fD, c, z) 42 (.inr (8, [.int (u 42 0), .ref 44, .ref 45, .int (u 42 3), .ref 46, .int (u 42 5), .ref 47, .int (u 42 7), .int (u 42 8), .ref 48, .int (u 42 10), .int (u 42 11), .ref 49, .int (u 42 13), .int (u 42 14), .ref 50].set 8 (.int v))) = (hp (mg_up u 42 8 v) fL fD, c, z) := rfl
theorem hpf_42_10 (u : mg_Rg) (fL : Nat → Int64) (fD : Nat → UInt64) (c z : Nat) (v : Int32) : mg_upc (hp u fL fD, c, z) 42 (.inr (8, [.int (u 42 0), .ref 44, .ref 45, .int (u 42 3), .ref 46, .int (u 42 5), .ref 47, .int (u 42 7), .int (u 42 8), .ref 48, .int (u 42 10), .int (u 42 11), .ref 49, .int (u 42 13), .int (u 42 14), .ref 50].set 10 (.int v))) = (hp (mg_up u 42 10 v) fL fD, c, z) := rfl
theorem hpf_42_11 (u : mg_Rg) (fL : Nat → Int64) (fD : Nat → UInt64) (c z : Nat) (v : Int32) : mg_upc (hp u fL fD, c, z) 42 (.inr (8, [.int (u 42 0), .ref 44, .ref 45, .int (u 42 3), .ref 46, .int (u 42 5), .ref 47, .int (u 42 7), .int (u 42 8), .ref 48, .int (u 42 10), .int (u 42 11), .ref 49, .int (u 42 13), .int (u 42 14), .ref 50].set 11 (.int v))) = (hp (mg_up u 42 11 v) fL fD, c, z) := rfl
theorem hpf_42_13 (u : mg_Rg) (fL : Nat → Int64) (fD : Nat → UInt64) (c z : Nat) (v : Int32) : mg_upc (hp u fL fD, c, z) 42 (.inr (8, [.int (u 42 0), .ref 44, .ref 45, .int (u 42 3), .ref 46, .int (u 42 5), .ref 47, .int (u 42 7), .int (u 42 8), .ref 48, .int (u 42 10), .int (u 42 11), .ref 49, .int (u 42 13), .int (u 42 14), .ref 50].set 13 (.int v))) = (hp (mg_up u 42 13 v) fL fD, c, z) := rfl
theorem hpf_42_14 (u : mg_Rg) (fL : Nat → Int64) (fD : Nat → UInt64) (c z : Nat) (v : Int32) : mg_upc (hp u fL fD, c, z) 42 (.inr (8, [.int (u 42 0), .ref 44, .ref 45, .int (u 42 3), .ref 46, .int (u 42 5), .ref 47, .int (u 42 7), .int (u 42 8), .ref 48, .int (u 42 10), .int (u 42 11), .ref 49, .int (u 42 13), .int (u 42 14), .ref 50].set 14 (.int v))) = (hp (mg_up u 42 14 v) fL fD, c, z) := rfl
theorem hpg_43 (u : mg_Rg) (fL : Nat → Int64) (fD : Nat → UInt64) : (hp u fL fD)[43]? = some (.inl (0, 690, .inl (u 43))) := rfl
theorem hpa_43 (u : mg_Rg) (fL : Nat → Int64) (fD : Nat → UInt64) (c z i : Nat) (v : Int32) : mg_upc (hp u fL fD, c, z) 43 (.inl (0, 690, .inl (upd (u 43) i v))) = (hp (mg_up u 43 i v) fL fD, c, z) := rfl
theorem hpr_43 (u : mg_Rg) (fL : Nat → Int64) (fD : Nat → UInt64) (c z : Nat) (f : Nat → Int32) : mg_upc (hp u fL fD, c, z) 43 (.inl (0, 690, .inl f)) = (hp (mg_rw u 43 f) fL fD, c, z) := rfl
theorem hpg_44 (u : mg_Rg) (fL : Nat → Int64) (fD : Nat → UInt64) : (hp u fL fD)[44]? = some (.inl (0, 5520, .inl (u 44))) := rfl
theorem hpa_44 (u : mg_Rg) (fL : Nat → Int64) (fD : Nat → UInt64) (c z i : Nat) (v : Int32) : mg_upc (hp u fL fD, c, z) 44 (.inl (0, 5520, .inl (upd (u 44) i v))) = (hp (mg_up u 44 i v) fL fD, c, z) := rfl
theorem hpr_44 (u : mg_Rg) (fL : Nat → Int64) (fD : Nat → UInt64) (c z : Nat) (f : Nat → Int32) : mg_upc (hp u fL fD, c, z) 44 (.inl (0, 5520, .inl f)) = (hp (mg_rw u 44 f) fL fD, c, z) := rfl
theorem hpg_45 (u : mg_Rg) (fL : Nat → Int64) (fD : Nat → UInt64) : (hp u fL fD)[45]? = some (.inl (0, 690, .inl (u 45))) := rfl
theorem hpa_45 (u : mg_Rg) (fL : Nat → Int64) (fD : Nat → UInt64) (c z i : Nat) (v : Int32) : mg_upc (hp u fL fD, c, z) 45 (.inl (0, 690, .inl (upd (u 45) i v))) = (hp (mg_up u 45 i v) fL fD, c, z) := rfl
theorem hpr_45 (u : mg_Rg) (fL : Nat → Int64) (fD : Nat → UInt64) (c z : Nat) (f : Nat → Int32) : mg_upc (hp u fL fD, c, z) 45 (.inl (0, 690, .inl f)) = (hp (mg_rw u 45 f) fL fD, c, z) := rfl
theorem hpg_46 (u : mg_Rg) (fL : Nat → Int64) (fD : Nat → UInt64) : (hp u fL fD)[46]? = some (.inl (0, 690, .inl (u 46))) := rfl
theorem hpa_46 (u : mg_Rg) (fL : Nat → Int64) (fD : Nat → UInt64) (c z i : Nat) (v : Int32) : mg_upc (hp u fL fD, c, z) 46 (.inl (0, 690, .inl (upd (u 46) i v))) = (hp (mg_up u 46 i v) fL fD, c, z) := rfl
theorem hpr_46 (u : mg_Rg) (fL : Nat → Int64) (fD : Nat → UInt64) (c z : Nat) (f : Nat → Int32) : mg_upc (hp u fL fD, c, z) 46 (.inl (0, 690, .inl f)) = (hp (mg_rw u 46 f) fL fD, c, z) := rfl
theorem hpg_47 (u : mg_Rg) (fL : Nat → Int64) (fD : Nat → UInt64) : (hp u fL fD)[47]? = some (.inl (1, 60, .inl (u 47))) := rfl
theorem hpa_47 (u : mg_Rg) (fL : Nat → Int64) (fD : Nat → UInt64) (c z i : Nat) (v : Int32) : mg_upc (hp u fL fD, c, z) 47 (.inl (1, 60, .inl (upd (u 47) i v))) = (hp (mg_up u 47 i v) fL fD, c, z) := rfl
theorem hpg_48 (u : mg_Rg) (fL : Nat → Int64) (fD : Nat → UInt64) : (hp u fL fD)[48]? = some (.inl (0, 30, .inl (u 48))) := rfl
theorem hpa_48 (u : mg_Rg) (fL : Nat → Int64) (fD : Nat → UInt64) (c z i : Nat) (v : Int32) : mg_upc (hp u fL fD, c, z) 48 (.inl (0, 30, .inl (upd (u 48) i v))) = (hp (mg_up u 48 i v) fL fD, c, z) := rfl
theorem hpr_48 (u : mg_Rg) (fL : Nat → Int64) (fD : Nat → UInt64) (c z : Nat) (f : Nat → Int32) : mg_upc (hp u fL fD, c, z) 48 (.inl (0, 30, .inl f)) = (hp (mg_rw u 48 f) fL fD, c, z) := rfl
theorem hpg_49 (u : mg_Rg) (fL : Nat → Int64) (fD : Nat → UInt64) : (hp u fL fD)[49]? = some (.inl (0, 840, .inl (u 49))) := rfl
theorem hpa_49 (u : mg_Rg) (fL : Nat → Int64) (fD : Nat → UInt64) (c z i : Nat) (v : Int32) : mg_upc (hp u fL fD, c, z) 49 (.inl (0, 840, .inl (upd (u 49) i v))) = (hp (mg_up u 49 i v) fL fD, c, z) := rfl
theorem hpr_49 (u : mg_Rg) (fL : Nat → Int64) (fD : Nat → UInt64) (c z : Nat) (f : Nat → Int32) : mg_upc (hp u fL fD, c, z) 49 (.inl (0, 840, .inl f)) = (hp (mg_rw u 49 f) fL fD, c, z) := rfl
theorem hpg_50 (u : mg_Rg) (fL : Nat → Int64) (fD : Nat → UInt64) : (hp u fL fD)[50]? = some (.inl (2, 1, .inr (.inl fL))) := rfl
theorem hpa_50 (u : mg_Rg) (fL : Nat → Int64) (fD : Nat → UInt64) (c z i : Nat) (v : Int64) : mg_upc (hp u fL fD, c, z) 50 (.inl (2, 1, .inr (.inl (vp_updL fL i v)))) = (hp u (vp_updL fL i v) fD, c, z) := rfl
theorem hpg_51 (u : mg_Rg) (fL : Nat → Int64) (fD : Nat → UInt64) : (hp u fL fD)[51]? = some (.inl (3, 1, .inr (.inr (.inr (.inl fD))))) := rfl
theorem hpa_51 (u : mg_Rg) (fL : Nat → Int64) (fD : Nat → UInt64) (c z i : Nat) (v : UInt64) : mg_upc (hp u fL fD, c, z) 51 (.inl (3, 1, .inr (.inr (.inr (.inl (vf_upd fD i v)))))) = (hp u fL (vf_upd fD i v), c, z) := rfl
section RUP
variable {sc : mg_Sc} {d mi pc : Nat} {loc : mg_L} {w : mg_S} {r : mg_R} {st0 : List Value}
theorem mg_Ev.put {a ci k nest p idx len : Nat} {fs : List Value} {v : Value} {w' : mg_S} (he : mg_at mi pc = some (pc, .putfield idx, len, [ci, k, nest, p])) (hcell : w.1[a]? = some (.inr (ci, fs))) (hk : k < fs.length) (hf : mg_fit (mg_ty ci k) v = true) (hw : mg_upc w a (.inr (ci, fs.set k v)) = w') (h : mg_Ev sc d mi (pc + 3) loc st0 w' r) : mg_Ev sc d mi pc loc (v :: .ref (a + 1) :: st0) w r := by
  subst hw
  refine mg_Ev.one he rfl rfl ?_ h
  unfold mg_step
  simp only [hcell]
  exact if_pos ⟨trivial, hk, hf⟩
theorem mg_Ev.putb {a ci k nest p idx len : Nat} {fs : List Value} {v : Int32} {w' : mg_S} (he : mg_at mi pc = some (pc, .putfield idx, len, [ci, k, nest, p])) (hcell : w.1[a]? = some (.inr (ci, fs))) (hk : k < fs.length) (ht : mg_ty ci k = .boolean) (hv : v = 0 ∨ v = 1) (hw : mg_upc w a (.inr (ci, fs.set k (.int v))) = w') (h : mg_Ev sc d mi (pc + 3) loc st0 w' r) : mg_Ev sc d mi pc loc (.int v :: .ref (a + 1) :: st0) w r := by
  refine mg_Ev.put he hcell hk ?_ hw h
  rw [ht]
  rcases hv with rfl | rfl <;> rfl
end RUP
