/-! ROWS AND RANGES -/
theorem z_pred {n : Nat} (hn : n ≤ 100000) : (nN n - 1).toInt = n - 1 := by
  show (Int32.ofNat n - 1).toInt = _
  rw [Int32.toInt_sub, Int32.toInt_ofNat_of_lt (by omega)]
  have h1 : (1 : Int32).toInt = 1 := rfl
  rw [h1, mg_bmod (by omega) (by omega)]
theorem z_row {n : Nat} (hn : n ≤ 100000) (a : Int32) : (∃ r, r < n ∧ a = nN r ∧ ¬ a < 0 ∧ ¬ nN n ≤ a ∧ ¬ nN n - 1 < a) ∨ ((a < 0 ∨ nN n ≤ a) ∧ (a < 0 ∨ nN n - 1 < a)) := by
  by_cases h : a < 0
  · exact Or.inr ⟨Or.inl h, Or.inl h⟩
  · obtain ⟨r, hr, rfl⟩ := z_of h
    by_cases hrn : r < n
    · refine Or.inl ⟨r, hrn, rfl, h, fun q => ?_, fun q => ?_⟩
      · exact absurd ((z_le (by omega) hr).mp q) (by omega)
      · rw [Int32.lt_iff_toInt_lt, z_pred hn, Int32.toInt_ofNat_of_lt hr] at q
        omega
    · refine Or.inr ⟨Or.inr ((z_le (by omega) hr).mpr (by omega)), Or.inr ?_⟩
      rw [Int32.lt_iff_toInt_lt, z_pred hn, Int32.toInt_ofNat_of_lt hr]
      omega
theorem z_win (a lo hi : Int32) (u : mg_Rg) : C_isWithin a lo hi u = some (if a < lo ∨ hi < a then 0 else 1) := by
  unfold C_isWithin
  by_cases h1 : a < lo
  · rw [if_pos h1, if_pos (Or.inl h1)]
  · by_cases h2 : hi < a
    · rw [if_neg h1, if_pos h2, if_pos (Or.inr h2)]
    · rw [if_neg h1, if_neg h2, if_neg (fun q => q.elim h1 h2)]
theorem z_min (a lo hi : Int32) (u : mg_Rg) : M_in a lo hi u = some (if a < lo ∨ hi < a then 0 else 1) := by
  unfold M_in
  by_cases h1 : a < lo
  · rw [if_pos h1, if_pos (Or.inl h1)]
  · by_cases h2 : hi < a
    · rw [if_neg h1, if_pos h2, if_pos (Or.inr h2)]
    · rw [if_neg h1, if_neg h2, if_neg (fun q => q.elim h1 h2)]
theorem ob_32 : Ob_32 z_I := by
  intro u hu
  obtain ⟨n, -, -, -, -, h5⟩ := hu.2.2.2.1
  by_cases h : u 37 4 = -1
  · exact ⟨.inr 3, u, 0, mg_up u 42 0 1, 1, by unfold C_errorPosition; rw [if_pos h], by unfold M_errorPosition; rw [if_pos (h5 ▸ h)]; rfl, rfl, Or.inr ⟨rfl, rfl⟩, z_I_thrown 1 hu⟩
  · exact ⟨.inl (u 37 4), u, u 42 11, mg_up u 42 0 0, 0, by unfold C_errorPosition; rw [if_neg h], by unfold M_errorPosition; rw [if_neg (h5 ▸ h)]; rfl, rfl, Or.inl ⟨_, rfl, h5.symm, rfl⟩, z_I_thrown 0 hu⟩
/-- countries -/
theorem z_ctry (a : Int32) (u : mg_Rg) : (∃ r, r < 8 ∧ a = nN r ∧ C_isCountry a u = some 1 ∧ M_isCountry a u = some 1) ∨ (C_isCountry a u = some 0 ∧ M_isCountry a u = some 0) := by
  unfold C_isCountry M_isCountry
  rw [z_win, z_min]
  rcases z_row (n := 8) (by omega) a with ⟨r, hr, rfl, h1, h2, h3⟩ | ⟨-, h⟩
  · have h3 : ¬ (7 : Int32) < nN r := h3
    rw [if_neg (fun q => q.elim h1 h3)]
    exact Or.inl ⟨r, hr, rfl, rfl, rfl⟩
  · have h : a < 0 ∨ (7 : Int32) < a := h
    rw [if_pos h]
    exact Or.inr ⟨rfl, rfl⟩
theorem ob_25 : Ob_25 z_I := by
  intro u hu a
  obtain ⟨nh, np, ns, nq, nd, na, HH, HP, HS, HQ, HD, HC, HA, HT, HL⟩ := hu.1
  rcases z_ctry a u with ⟨r, hr, rfl, h1, h2⟩ | ⟨h1, h2⟩
  · have hB := HL.2.2.2 r hr
    have hg := tg_19 (r := r) (j := 0) hr (by omega) u
    have e : (200 + nN r) = nN (200 + r) := (Int32.ofNat_add 200 r).symm
    have c7 : ¬ (nN (200 + r) < 0 ∨ 690 ≤ (nN (200 + r)).toNatClampNeg) := by rw [z_nat (by omega)]; exact fun h => h.elim (z_nn (by omega)) (by omega)
    refine ⟨.inl (u 20 (1 + r * 1 + 0)), u, u 43 (200 + r), mg_up u 42 0 0, 0, ?_, ?_, rfl, Or.inl ⟨_, rfl, ?_, rfl⟩, z_I_thrown 0 hu⟩
    · unfold C_kept C_requireCountry
      rw [h1]
      show (T_get_19 (nN r) 0 u).bind _ = _
      rw [show T_get_19 (nN r) 0 u = some (u 20 (1 + r * 1 + 0)) from hg]
      rfl
    · unfold M_kept
      rw [h2]
      show (if (200 + nN r) < 0 ∨ 690 ≤ (200 + nN r).toNatClampNeg then none else _) = _
      rw [e, if_neg c7, z_nat (by omega)]
      rfl
    · rw [← hB, Nat.mul_one, Nat.add_zero]
  · refine ⟨.inr 0, u, 0, mg_up u 42 0 1, 1, ?_, ?_, rfl, Or.inr ⟨rfl, rfl⟩, z_I_thrown 1 hu⟩
    · unfold C_kept C_requireCountry
      rw [h1]
      rfl
    · unfold M_kept
      rw [h2]
      rfl
