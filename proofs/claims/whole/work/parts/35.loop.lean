/-! THE LOOP OF THE LAW -/
def Ob_all (I : mg_Rg → Prop) : Prop := Ob_0 I ∧ Ob_1 I ∧ Ob_2 I ∧ Ob_3 I ∧ Ob_4 I ∧ Ob_5 I ∧ Ob_6 I ∧ Ob_7 I ∧ Ob_8 I ∧ Ob_9 I ∧ Ob_10 I ∧ Ob_11 I ∧ Ob_12 I ∧ Ob_13 I ∧ Ob_14 I ∧ Ob_15 I ∧ Ob_16 I ∧ Ob_17 I ∧ Ob_18 I ∧ Ob_19 I ∧ Ob_20 I ∧ Ob_21 I ∧ Ob_22 I ∧ Ob_23 I ∧ Ob_24 I ∧ Ob_25 I ∧ Ob_26 I ∧ Ob_27 I ∧ Ob_28 I ∧ Ob_29 I ∧ Ob_30 I ∧ Ob_31 I ∧ Ob_32 I ∧ Ob_33 I ∧ Ob_34 I ∧ Ob_35 I ∧ Ob_36 I
set_option maxRecDepth 10000 in
set_option maxHeartbeats 4000000 in
theorem st_any {sc : mg_Sc} {c z : Nat} {fL : Nat → Int64} {fD : Nat → UInt64} {i x : Int32} {u : mg_Rg} {Q : mg_R → Prop} {I : mg_Rg → Prop} (O : Ob_all I) (hu : I u) (hb1 : ¬ ((i + 1) < 0 ∨ sc.1 ≤ (i + 1).toNatClampNeg)) (hb2 : ¬ ((i + 2) < 0 ∨ sc.1 ≤ (i + 2).toNatClampNeg)) (hb3 : ¬ ((i + 3) < 0 ∨ sc.1 ≤ (i + 3).toNatClampNeg)) (hb4 : ¬ ((i + 4) < 0 ∨ sc.1 ≤ (i + 4).toNatClampNeg)) (hb5 : ¬ ((i + 5) < 0 ∨ sc.1 ≤ (i + 5).toNatClampNeg)) (K : ∀ u2 fL fD c1 z1, I u2 → c1 ≤ c + 1 → z1 ≤ z + 6 → ∃ r, mg_Ev sc 11 258 2448 [some (.ref 0), some (.ref 1), some (.ref 43), some (.ref 51), some (.ref 52), some (.int i), none, none, none] [] (hp u2 fL fD, c1, z1) r ∧ Q r) : ∃ r, mg_Ev sc 11 258 45 [some (.ref 0), some (.ref 1), some (.ref 43), some (.ref 51), some (.ref 52), some (.int i), none, none, none] [.int x] (hp u fL fD, c, z) r ∧ Q r := by
  by_cases hs : x.toInt < 0 ∨ 36 < x.toInt
  · obtain ⟨r, hr, hQ⟩ := K u fL fD c z hu (Nat.le_succ _) (Nat.le_add_right _ _)
    exact ⟨r, mg_Ev.swD rfl hs hr, hQ⟩
  by_cases hk0 : x = 0
  · obtain ⟨r, hr, hQ⟩ := st_op_0 O.1 hu hb1 hb2 K
    exact ⟨r, mg_Ev.swK (k := 0) (t := 208) rfl hk0 (by decide) (by decide) rfl hr, hQ⟩
  by_cases hk1 : x = 1
  · obtain ⟨r, hr, hQ⟩ := st_op_1 O.2.1 hu hb1 hb2 K
    exact ⟨r, mg_Ev.swK (k := 1) (t := 276) rfl hk1 (by decide) (by decide) rfl hr, hQ⟩
  by_cases hk2 : x = 2
  · obtain ⟨r, hr, hQ⟩ := st_op_2 O.2.2.1 hu hb1 hb2 K
    exact ⟨r, mg_Ev.swK (k := 2) (t := 344) rfl hk2 (by decide) (by decide) rfl hr, hQ⟩
  by_cases hk3 : x = 3
  · obtain ⟨r, hr, hQ⟩ := st_op_3 O.2.2.2.1 hu hb1 K
    exact ⟨r, mg_Ev.swK (k := 3) (t := 412) rfl hk3 (by decide) (by decide) rfl hr, hQ⟩
  by_cases hk4 : x = 4
  · obtain ⟨r, hr, hQ⟩ := st_op_4 O.2.2.2.2.1 hu hb1 hb2 hb3 hb4 K
    exact ⟨r, mg_Ev.swK (k := 4) (t := 468) rfl hk4 (by decide) (by decide) rfl hr, hQ⟩
  by_cases hk5 : x = 5
  · obtain ⟨r, hr, hQ⟩ := st_op_5 O.2.2.2.2.2.1 hu hb1 K
    exact ⟨r, mg_Ev.swK (k := 5) (t := 560) rfl hk5 (by decide) (by decide) rfl hr, hQ⟩
  by_cases hk6 : x = 6
  · obtain ⟨r, hr, hQ⟩ := st_op_6 O.2.2.2.2.2.2.1 hu hb1 hb2 hb3 K
    exact ⟨r, mg_Ev.swK (k := 6) (t := 616) rfl hk6 (by decide) (by decide) rfl hr, hQ⟩
  by_cases hk7 : x = 7
  · obtain ⟨r, hr, hQ⟩ := st_op_7 O.2.2.2.2.2.2.2.1 hu hb1 hb2 hb3 hb4 hb5 K
    exact ⟨r, mg_Ev.swK (k := 7) (t := 696) rfl hk7 (by decide) (by decide) rfl hr, hQ⟩
  by_cases hk8 : x = 8
  · obtain ⟨r, hr, hQ⟩ := st_op_8 O.2.2.2.2.2.2.2.2.1 hu hb1 hb2 K
    exact ⟨r, mg_Ev.swK (k := 8) (t := 800) rfl hk8 (by decide) (by decide) rfl hr, hQ⟩
  by_cases hk9 : x = 9
  · obtain ⟨r, hr, hQ⟩ := st_op_9 O.2.2.2.2.2.2.2.2.2.1 hu hb1 hb2 K
    exact ⟨r, mg_Ev.swK (k := 9) (t := 868) rfl hk9 (by decide) (by decide) rfl hr, hQ⟩
  by_cases hk10 : x = 10
  · obtain ⟨r, hr, hQ⟩ := st_op_10 O.2.2.2.2.2.2.2.2.2.2.1 hu hb1 hb2 hb3 hb4 K
    exact ⟨r, mg_Ev.swK (k := 10) (t := 936) rfl hk10 (by decide) (by decide) rfl hr, hQ⟩
  by_cases hk11 : x = 11
  · obtain ⟨r, hr, hQ⟩ := st_op_11 O.2.2.2.2.2.2.2.2.2.2.2.1 hu hb1 hb2 hb3 hb4 K
    exact ⟨r, mg_Ev.swK (k := 11) (t := 1028) rfl hk11 (by decide) (by decide) rfl hr, hQ⟩
  by_cases hk12 : x = 12
  · obtain ⟨r, hr, hQ⟩ := st_op_12 O.2.2.2.2.2.2.2.2.2.2.2.2.1 hu hb1 hb2 hb3 hb4 K
    exact ⟨r, mg_Ev.swK (k := 12) (t := 1120) rfl hk12 (by decide) (by decide) rfl hr, hQ⟩
  by_cases hk13 : x = 13
  · obtain ⟨r, hr, hQ⟩ := st_op_13 O.2.2.2.2.2.2.2.2.2.2.2.2.2.1 hu hb1 hb2 K
    exact ⟨r, mg_Ev.swK (k := 13) (t := 1212) rfl hk13 (by decide) (by decide) rfl hr, hQ⟩
  by_cases hk14 : x = 14
  · obtain ⟨r, hr, hQ⟩ := st_op_14 O.2.2.2.2.2.2.2.2.2.2.2.2.2.2.1 hu K
    exact ⟨r, mg_Ev.swK (k := 14) (t := 1280) rfl hk14 (by decide) (by decide) rfl hr, hQ⟩
  by_cases hk15 : x = 15
  · obtain ⟨r, hr, hQ⟩ := st_op_15 O.2.2.2.2.2.2.2.2.2.2.2.2.2.2.2.1 hu K
    exact ⟨r, mg_Ev.swK (k := 15) (t := 1293) rfl hk15 (by decide) (by decide) rfl hr, hQ⟩
  by_cases hk16 : x = 16
  · obtain ⟨r, hr, hQ⟩ := st_op_16 O.2.2.2.2.2.2.2.2.2.2.2.2.2.2.2.2.1 hu hb1 hb2 hb3 hb4 K
    exact ⟨r, mg_Ev.swK (k := 16) (t := 1337) rfl hk16 (by decide) (by decide) rfl hr, hQ⟩
  by_cases hk17 : x = 17
  · obtain ⟨r, hr, hQ⟩ := st_op_17 O.2.2.2.2.2.2.2.2.2.2.2.2.2.2.2.2.2.1 hu hb1 hb2 K
    exact ⟨r, mg_Ev.swK (k := 17) (t := 1429) rfl hk17 (by decide) (by decide) rfl hr, hQ⟩
  by_cases hk18 : x = 18
  · obtain ⟨r, hr, hQ⟩ := st_op_18 O.2.2.2.2.2.2.2.2.2.2.2.2.2.2.2.2.2.2.1 hu hb1 K
    exact ⟨r, mg_Ev.swK (k := 18) (t := 1497) rfl hk18 (by decide) (by decide) rfl hr, hQ⟩
  by_cases hk19 : x = 19
  · obtain ⟨r, hr, hQ⟩ := st_op_19 O.2.2.2.2.2.2.2.2.2.2.2.2.2.2.2.2.2.2.2.1 hu hb1 K
    exact ⟨r, mg_Ev.swK (k := 19) (t := 1553) rfl hk19 (by decide) (by decide) rfl hr, hQ⟩
  by_cases hk20 : x = 20
  · obtain ⟨r, hr, hQ⟩ := st_op_20 O.2.2.2.2.2.2.2.2.2.2.2.2.2.2.2.2.2.2.2.2.1 hu hb1 K
    exact ⟨r, mg_Ev.swK (k := 20) (t := 1609) rfl hk20 (by decide) (by decide) rfl hr, hQ⟩
  by_cases hk21 : x = 21
  · obtain ⟨r, hr, hQ⟩ := st_op_21 O.2.2.2.2.2.2.2.2.2.2.2.2.2.2.2.2.2.2.2.2.2.1 hu hb1 K
    exact ⟨r, mg_Ev.swK (k := 21) (t := 1665) rfl hk21 (by decide) (by decide) rfl hr, hQ⟩
  by_cases hk22 : x = 22
  · obtain ⟨r, hr, hQ⟩ := st_op_22 O.2.2.2.2.2.2.2.2.2.2.2.2.2.2.2.2.2.2.2.2.2.2.1 hu hb1 hb2 K
    exact ⟨r, mg_Ev.swK (k := 22) (t := 1721) rfl hk22 (by decide) (by decide) rfl hr, hQ⟩
  by_cases hk23 : x = 23
  · obtain ⟨r, hr, hQ⟩ := st_op_23 O.2.2.2.2.2.2.2.2.2.2.2.2.2.2.2.2.2.2.2.2.2.2.2.1 hu K
    exact ⟨r, mg_Ev.swK (k := 23) (t := 1789) rfl hk23 (by decide) (by decide) rfl hr, hQ⟩
  by_cases hk24 : x = 24
  · obtain ⟨r, hr, hQ⟩ := st_op_24 O.2.2.2.2.2.2.2.2.2.2.2.2.2.2.2.2.2.2.2.2.2.2.2.2.1 hu hb1 K
    exact ⟨r, mg_Ev.swK (k := 24) (t := 1833) rfl hk24 (by decide) (by decide) rfl hr, hQ⟩
  by_cases hk25 : x = 25
  · obtain ⟨r, hr, hQ⟩ := st_op_25 O.2.2.2.2.2.2.2.2.2.2.2.2.2.2.2.2.2.2.2.2.2.2.2.2.2.1 hu hb1 K
    exact ⟨r, mg_Ev.swK (k := 25) (t := 1889) rfl hk25 (by decide) (by decide) rfl hr, hQ⟩
  by_cases hk26 : x = 26
  · obtain ⟨r, hr, hQ⟩ := st_op_26 O.2.2.2.2.2.2.2.2.2.2.2.2.2.2.2.2.2.2.2.2.2.2.2.2.2.2.1 hu hb1 K
    exact ⟨r, mg_Ev.swK (k := 26) (t := 1945) rfl hk26 (by decide) (by decide) rfl hr, hQ⟩
  by_cases hk27 : x = 27
  · obtain ⟨r, hr, hQ⟩ := st_op_27 O.2.2.2.2.2.2.2.2.2.2.2.2.2.2.2.2.2.2.2.2.2.2.2.2.2.2.2.1 hu hb1 K
    exact ⟨r, mg_Ev.swK (k := 27) (t := 2001) rfl hk27 (by decide) (by decide) rfl hr, hQ⟩
  by_cases hk28 : x = 28
  · obtain ⟨r, hr, hQ⟩ := st_op_28 O.2.2.2.2.2.2.2.2.2.2.2.2.2.2.2.2.2.2.2.2.2.2.2.2.2.2.2.2.1 hu K
    exact ⟨r, mg_Ev.swK (k := 28) (t := 2057) rfl hk28 (by decide) (by decide) rfl hr, hQ⟩
  by_cases hk29 : x = 29
  · obtain ⟨r, hr, hQ⟩ := st_op_29 O.2.2.2.2.2.2.2.2.2.2.2.2.2.2.2.2.2.2.2.2.2.2.2.2.2.2.2.2.2.1 hu K
    exact ⟨r, mg_Ev.swK (k := 29) (t := 2122) rfl hk29 (by decide) (by decide) rfl hr, hQ⟩
  by_cases hk30 : x = 30
  · obtain ⟨r, hr, hQ⟩ := st_op_30 O.2.2.2.2.2.2.2.2.2.2.2.2.2.2.2.2.2.2.2.2.2.2.2.2.2.2.2.2.2.2.1 hu hb1 K
    exact ⟨r, mg_Ev.swK (k := 30) (t := 2188) rfl hk30 (by decide) (by decide) rfl hr, hQ⟩
  by_cases hk31 : x = 31
  · obtain ⟨r, hr, hQ⟩ := st_op_31 O.2.2.2.2.2.2.2.2.2.2.2.2.2.2.2.2.2.2.2.2.2.2.2.2.2.2.2.2.2.2.2.1 hu K
    exact ⟨r, mg_Ev.swK (k := 31) (t := 2246) rfl hk31 (by decide) (by decide) rfl hr, hQ⟩
  by_cases hk32 : x = 32
  · obtain ⟨r, hr, hQ⟩ := st_op_32 O.2.2.2.2.2.2.2.2.2.2.2.2.2.2.2.2.2.2.2.2.2.2.2.2.2.2.2.2.2.2.2.2.1 hu K
    exact ⟨r, mg_Ev.swK (k := 32) (t := 2290) rfl hk32 (by decide) (by decide) rfl hr, hQ⟩
  by_cases hk33 : x = 33
  · obtain ⟨r, hr, hQ⟩ := st_op_33 O.2.2.2.2.2.2.2.2.2.2.2.2.2.2.2.2.2.2.2.2.2.2.2.2.2.2.2.2.2.2.2.2.2.1 hu K
    exact ⟨r, mg_Ev.swK (k := 33) (t := 2334) rfl hk33 (by decide) (by decide) rfl hr, hQ⟩
  by_cases hk34 : x = 34
  · obtain ⟨r, hr, hQ⟩ := st_op_34 O.2.2.2.2.2.2.2.2.2.2.2.2.2.2.2.2.2.2.2.2.2.2.2.2.2.2.2.2.2.2.2.2.2.2.1 hu K
    exact ⟨r, mg_Ev.swK (k := 34) (t := 2347) rfl hk34 (by decide) (by decide) rfl hr, hQ⟩
  by_cases hk35 : x = 35
  · obtain ⟨r, hr, hQ⟩ := st_op_35 O.2.2.2.2.2.2.2.2.2.2.2.2.2.2.2.2.2.2.2.2.2.2.2.2.2.2.2.2.2.2.2.2.2.2.2.1 hu K
    exact ⟨r, mg_Ev.swK (k := 35) (t := 2391) rfl hk35 (by decide) (by decide) rfl hr, hQ⟩
  by_cases hk36 : x = 36
  · obtain ⟨r, hr, hQ⟩ := st_op_36 O.2.2.2.2.2.2.2.2.2.2.2.2.2.2.2.2.2.2.2.2.2.2.2.2.2.2.2.2.2.2.2.2.2.2.2.2 hu K
    exact ⟨r, mg_Ev.swK (k := 36) (t := 2404) rfl hk36 (by decide) (by decide) rfl hr, hQ⟩
  have e0 : x.toInt ≠ 0 := fun e => hk0 (Int32.toInt_inj.mp (e.trans (show (0 : Int) = (0 : Int32).toInt from rfl)))
  have e1 : x.toInt ≠ 1 := fun e => hk1 (Int32.toInt_inj.mp (e.trans (show (1 : Int) = (1 : Int32).toInt from rfl)))
  have e2 : x.toInt ≠ 2 := fun e => hk2 (Int32.toInt_inj.mp (e.trans (show (2 : Int) = (2 : Int32).toInt from rfl)))
  have e3 : x.toInt ≠ 3 := fun e => hk3 (Int32.toInt_inj.mp (e.trans (show (3 : Int) = (3 : Int32).toInt from rfl)))
  have e4 : x.toInt ≠ 4 := fun e => hk4 (Int32.toInt_inj.mp (e.trans (show (4 : Int) = (4 : Int32).toInt from rfl)))
  have e5 : x.toInt ≠ 5 := fun e => hk5 (Int32.toInt_inj.mp (e.trans (show (5 : Int) = (5 : Int32).toInt from rfl)))
  have e6 : x.toInt ≠ 6 := fun e => hk6 (Int32.toInt_inj.mp (e.trans (show (6 : Int) = (6 : Int32).toInt from rfl)))
  have e7 : x.toInt ≠ 7 := fun e => hk7 (Int32.toInt_inj.mp (e.trans (show (7 : Int) = (7 : Int32).toInt from rfl)))
  have e8 : x.toInt ≠ 8 := fun e => hk8 (Int32.toInt_inj.mp (e.trans (show (8 : Int) = (8 : Int32).toInt from rfl)))
  have e9 : x.toInt ≠ 9 := fun e => hk9 (Int32.toInt_inj.mp (e.trans (show (9 : Int) = (9 : Int32).toInt from rfl)))
  have e10 : x.toInt ≠ 10 := fun e => hk10 (Int32.toInt_inj.mp (e.trans (show (10 : Int) = (10 : Int32).toInt from rfl)))
  have e11 : x.toInt ≠ 11 := fun e => hk11 (Int32.toInt_inj.mp (e.trans (show (11 : Int) = (11 : Int32).toInt from rfl)))
  have e12 : x.toInt ≠ 12 := fun e => hk12 (Int32.toInt_inj.mp (e.trans (show (12 : Int) = (12 : Int32).toInt from rfl)))
  have e13 : x.toInt ≠ 13 := fun e => hk13 (Int32.toInt_inj.mp (e.trans (show (13 : Int) = (13 : Int32).toInt from rfl)))
  have e14 : x.toInt ≠ 14 := fun e => hk14 (Int32.toInt_inj.mp (e.trans (show (14 : Int) = (14 : Int32).toInt from rfl)))
  have e15 : x.toInt ≠ 15 := fun e => hk15 (Int32.toInt_inj.mp (e.trans (show (15 : Int) = (15 : Int32).toInt from rfl)))
  have e16 : x.toInt ≠ 16 := fun e => hk16 (Int32.toInt_inj.mp (e.trans (show (16 : Int) = (16 : Int32).toInt from rfl)))
  have e17 : x.toInt ≠ 17 := fun e => hk17 (Int32.toInt_inj.mp (e.trans (show (17 : Int) = (17 : Int32).toInt from rfl)))
  have e18 : x.toInt ≠ 18 := fun e => hk18 (Int32.toInt_inj.mp (e.trans (show (18 : Int) = (18 : Int32).toInt from rfl)))
  have e19 : x.toInt ≠ 19 := fun e => hk19 (Int32.toInt_inj.mp (e.trans (show (19 : Int) = (19 : Int32).toInt from rfl)))
  have e20 : x.toInt ≠ 20 := fun e => hk20 (Int32.toInt_inj.mp (e.trans (show (20 : Int) = (20 : Int32).toInt from rfl)))
  have e21 : x.toInt ≠ 21 := fun e => hk21 (Int32.toInt_inj.mp (e.trans (show (21 : Int) = (21 : Int32).toInt from rfl)))
  have e22 : x.toInt ≠ 22 := fun e => hk22 (Int32.toInt_inj.mp (e.trans (show (22 : Int) = (22 : Int32).toInt from rfl)))
  have e23 : x.toInt ≠ 23 := fun e => hk23 (Int32.toInt_inj.mp (e.trans (show (23 : Int) = (23 : Int32).toInt from rfl)))
  have e24 : x.toInt ≠ 24 := fun e => hk24 (Int32.toInt_inj.mp (e.trans (show (24 : Int) = (24 : Int32).toInt from rfl)))
  have e25 : x.toInt ≠ 25 := fun e => hk25 (Int32.toInt_inj.mp (e.trans (show (25 : Int) = (25 : Int32).toInt from rfl)))
  have e26 : x.toInt ≠ 26 := fun e => hk26 (Int32.toInt_inj.mp (e.trans (show (26 : Int) = (26 : Int32).toInt from rfl)))
  have e27 : x.toInt ≠ 27 := fun e => hk27 (Int32.toInt_inj.mp (e.trans (show (27 : Int) = (27 : Int32).toInt from rfl)))
  have e28 : x.toInt ≠ 28 := fun e => hk28 (Int32.toInt_inj.mp (e.trans (show (28 : Int) = (28 : Int32).toInt from rfl)))
  have e29 : x.toInt ≠ 29 := fun e => hk29 (Int32.toInt_inj.mp (e.trans (show (29 : Int) = (29 : Int32).toInt from rfl)))
  have e30 : x.toInt ≠ 30 := fun e => hk30 (Int32.toInt_inj.mp (e.trans (show (30 : Int) = (30 : Int32).toInt from rfl)))
  have e31 : x.toInt ≠ 31 := fun e => hk31 (Int32.toInt_inj.mp (e.trans (show (31 : Int) = (31 : Int32).toInt from rfl)))
  have e32 : x.toInt ≠ 32 := fun e => hk32 (Int32.toInt_inj.mp (e.trans (show (32 : Int) = (32 : Int32).toInt from rfl)))
  have e33 : x.toInt ≠ 33 := fun e => hk33 (Int32.toInt_inj.mp (e.trans (show (33 : Int) = (33 : Int32).toInt from rfl)))
  have e34 : x.toInt ≠ 34 := fun e => hk34 (Int32.toInt_inj.mp (e.trans (show (34 : Int) = (34 : Int32).toInt from rfl)))
  have e35 : x.toInt ≠ 35 := fun e => hk35 (Int32.toInt_inj.mp (e.trans (show (35 : Int) = (35 : Int32).toInt from rfl)))
  have e36 : x.toInt ≠ 36 := fun e => hk36 (Int32.toInt_inj.mp (e.trans (show (36 : Int) = (36 : Int32).toInt from rfl)))
  exfalso
  omega
theorem mg_bmod {n : Int} (h1 : -2147483648 ≤ n) (h2 : n < 2147483648) : n.bmod (2 ^ 32) = n := by
  have e : (2 ^ 32 : Nat) = 4294967296 := rfl
  rw [e]
  unfold Int.bmod
  dsimp only
  split <;> omega
theorem mg_ixb {m len : Nat} (h : m < len) (hl : len ≤ 3072) {x : Int32} (e : x = Int32.ofNat m) : ¬ (x < 0 ∨ len ≤ x.toNatClampNeg) := by
  subst e
  rw [Int32.toNatClampNeg_ofNat_of_lt (by omega)]
  rintro (h0 | h0)
  · rw [Int32.lt_iff_toInt_lt, Int32.toInt_ofNat_of_lt (by omega)] at h0
    have h1 : (0 : Int32).toInt = 0 := rfl
    rw [h1] at h0
    omega
  · omega
theorem mg_lenle {m len : Nat} (hm : m ≤ 4000) (hl : len ≤ 3072) (h : ¬ Int32.ofNat len - 6 < Int32.ofNat m) : m + 6 ≤ len := by
  rw [Int32.lt_iff_toInt_lt, Int32.toInt_sub, Int32.toInt_ofNat_of_lt (by omega), Int32.toInt_ofNat_of_lt (by omega)] at h
  have h1 : (6 : Int32).toInt = 6 := rfl
  rw [h1, mg_bmod (by omega) (by omega)] at h
  omega
theorem mg_lengt {m len : Nat} (hm : m ≤ 4000) (hl : len ≤ 3072) (h : len < m) : Int32.ofNat len - 6 < Int32.ofNat m := by
  rw [Int32.lt_iff_toInt_lt, Int32.toInt_sub, Int32.toInt_ofNat_of_lt (by omega), Int32.toInt_ofNat_of_lt (by omega)]
  have h1 : (6 : Int32).toInt = 6 := rfl
  rw [h1, mg_bmod (by omega) (by omega)]
  omega
set_option maxRecDepth 10000 in
set_option maxHeartbeats 4000000 in
theorem law_loop {sc : mg_Sc} (hs : sc.1 ≤ 3072) {I : mg_Rg → Prop} (O : Ob_all I) : ∀ (n k : Nat) (u : mg_Rg) (fL : Nat → Int64) (fD : Nat → UInt64) (c z : Nat), I u → sc.1 < 6 * k + 6 * n → 6 * k ≤ sc.1 + 6 → ∃ r, mg_Ev sc 11 258 28 [some (.ref 0), some (.ref 1), some (.ref 43), some (.ref 51), some (.ref 52), some (.int (Int32.ofNat (6 * k))), none, none, none] [] (hp u fL fD, c, z) r ∧ (r.1 = .inl (some (.int 1)) ∧ r.2.2.1 ≤ c + n ∧ r.2.2.2 ≤ z + 6 * n) := by
  intro n
  induction n with
  | zero =>
    intro k u fL fD c z hu h1 h2
    have hP : Int32.ofNat sc.1 - 6 < Int32.ofNat (6 * k) := mg_lengt (by omega) hs (by omega)
    refine ⟨(.inl (some (.int 1)), (hp u fL fD, c, z)), ?_, rfl, Nat.le_add_right _ _, Nat.le_add_right _ _⟩
    refine mg_Ev.go 5 (pc' := 35) (loc' := [some (.ref 0), some (.ref 1), some (.ref 43), some (.ref 51), some (.ref 52), some (.int (Int32.ofNat (6 * k))), none, none, none]) (st' := [.int (Int32.ofNat sc.1 - 6), .int (Int32.ofNat (6 * k))]) (w' := (hp u fL fD, c, z)) rfl ?_
    refine mg_Ev.br (P := Int32.ofNat sc.1 - 6 < Int32.ofNat (6 * k)) (t := 2454) (nx := 38) (st' := []) rfl rfl rfl rfl (fun _ => ?_) (fun q => absurd hP q)
    refine mg_Ev.go 1 (pc' := 2455) (loc' := [some (.ref 0), some (.ref 1), some (.ref 43), some (.ref 51), some (.ref 52), some (.int (Int32.ofNat (6 * k))), none, none, none]) (st' := [.int 1]) (w' := (hp u fL fD, c, z)) rfl ?_
    exact mg_Ev.fin rfl rfl rfl
  | succ n ih =>
    intro k u fL fD c z hu h1 h2
    by_cases hP : Int32.ofNat sc.1 - 6 < Int32.ofNat (6 * k)
    · refine ⟨(.inl (some (.int 1)), (hp u fL fD, c, z)), ?_, rfl, Nat.le_add_right _ _, Nat.le_add_right _ _⟩
      refine mg_Ev.go 5 (pc' := 35) (loc' := [some (.ref 0), some (.ref 1), some (.ref 43), some (.ref 51), some (.ref 52), some (.int (Int32.ofNat (6 * k))), none, none, none]) (st' := [.int (Int32.ofNat sc.1 - 6), .int (Int32.ofNat (6 * k))]) (w' := (hp u fL fD, c, z)) rfl ?_
      refine mg_Ev.br (P := Int32.ofNat sc.1 - 6 < Int32.ofNat (6 * k)) (t := 2454) (nx := 38) (st' := []) rfl rfl rfl rfl (fun _ => ?_) (fun q => absurd hP q)
      refine mg_Ev.go 1 (pc' := 2455) (loc' := [some (.ref 0), some (.ref 1), some (.ref 43), some (.ref 51), some (.ref 52), some (.int (Int32.ofNat (6 * k))), none, none, none]) (st' := [.int 1]) (w' := (hp u fL fD, c, z)) rfl ?_
      exact mg_Ev.fin rfl rfl rfl
    · have h6 := mg_lenle (by omega) hs hP
      have hb0 := mg_ixb (m := 6 * k) (by omega) hs rfl
      have hb1 := mg_ixb (m := 6 * k + 1) (by omega) hs (x := Int32.ofNat (6 * k) + 1) (Int32.ofNat_add (6 * k) 1).symm
      have hb2 := mg_ixb (m := 6 * k + 2) (by omega) hs (x := Int32.ofNat (6 * k) + 2) (Int32.ofNat_add (6 * k) 2).symm
      have hb3 := mg_ixb (m := 6 * k + 3) (by omega) hs (x := Int32.ofNat (6 * k) + 3) (Int32.ofNat_add (6 * k) 3).symm
      have hb4 := mg_ixb (m := 6 * k + 4) (by omega) hs (x := Int32.ofNat (6 * k) + 4) (Int32.ofNat_add (6 * k) 4).symm
      have hb5 := mg_ixb (m := 6 * k + 5) (by omega) hs (x := Int32.ofNat (6 * k) + 5) (Int32.ofNat_add (6 * k) 5).symm
      have e6 : Int32.ofNat (6 * (k + 1)) = Int32.ofNat (6 * k) + 6 := Int32.ofNat_add (6 * k) 6
      obtain ⟨r, hr, hQ⟩ := st_any (sc := sc) (c := c) (z := z) (fL := fL) (fD := fD) (i := Int32.ofNat (6 * k)) (x := sc.2 (Int32.ofNat (6 * k)).toNatClampNeg &&& 63) (Q := fun r => r.1 = .inl (some (.int 1)) ∧ r.2.2.1 ≤ c + (n + 1) ∧ r.2.2.2 ≤ z + 6 * (n + 1)) O hu hb1 hb2 hb3 hb4 hb5 (fun u2 fL2 fD2 c1 z1 hI hc1 hz1 => by
        obtain ⟨r, hr, hq1, hq2, hq3⟩ := ih (k + 1) u2 fL2 fD2 c1 z1 hI (by omega) (by omega)
        rw [e6] at hr
        refine ⟨r, ?_, hq1, by omega, by omega⟩
        exact mg_Ev.go 2 (pc' := 28) (loc' := [some (.ref 0), some (.ref 1), some (.ref 43), some (.ref 51), some (.ref 52), some (.int (Int32.ofNat (6 * k) + 6)), none, none, none]) (st' := []) (w' := (hp u2 fL2 fD2, c1, z1)) rfl hr)
      refine ⟨r, ?_, hQ⟩
      refine mg_Ev.go 5 (pc' := 35) (loc' := [some (.ref 0), some (.ref 1), some (.ref 43), some (.ref 51), some (.ref 52), some (.int (Int32.ofNat (6 * k))), none, none, none]) (st' := [.int (Int32.ofNat sc.1 - 6), .int (Int32.ofNat (6 * k))]) (w' := (hp u fL fD, c, z)) rfl ?_
      refine mg_Ev.br (P := Int32.ofNat sc.1 - 6 < Int32.ofNat (6 * k)) (t := 2454) (nx := 38) (st' := []) rfl rfl rfl rfl (fun q => absurd q hP) (fun _ => ?_)
      refine mg_Ev.go 2 (pc' := 41) (loc' := [some (.ref 0), some (.ref 1), some (.ref 43), some (.ref 51), some (.ref 52), some (.int (Int32.ofNat (6 * k))), none, none, none]) (st' := [.int (Int32.ofNat (6 * k)), .ref 0]) (w' := (hp u fL fD, c, z)) rfl ?_
      refine mg_Ev.sld rfl hb0 ?_
      exact mg_Ev.go 2 (pc' := 45) (loc' := [some (.ref 0), some (.ref 1), some (.ref 43), some (.ref 51), some (.ref 52), some (.int (Int32.ofNat (6 * k))), none, none, none]) (st' := [.int (sc.2 (Int32.ofNat (6 * k)).toNatClampNeg &&& 63)]) (w' := (hp u fL fD, c, z)) rfl hr
theorem law_all {sc : mg_Sc} (hs : sc.1 ≤ 3072) {I : mg_Rg → Prop} (O : Ob_all I) (h0 : I u0) : ∃ r, mg_Ev sc 11 258 0 (mg_entry 258 [.ref 0]) [] ([], 0, 0) r ∧ (r.1 = .inl (some (.int 1)) ∧ r.2.2.1 ≤ 600 ∧ r.2.2.2 ≤ 20000) := by
  obtain ⟨r, hr, h1, h2, h3⟩ := law_loop hs O 513 0 u0 (fun _ => 0) (fun _ => 0) 52 15319 h0 (by omega) (by omega)
  exact ⟨r, ini_law hr, h1, by omega, by omega⟩
