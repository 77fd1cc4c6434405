theorem z_quo {n : Nat} (hn : n ≤ 6) {u : mg_Rg} (h1 : u 23 0 = nN n) (h2 : u 43 4 = nN n) (a : Int32) : (∃ r, r < n ∧ a = nN r ∧ T_has_22 a u = some 1 ∧ M_in a 0 ((u 43 4) - 1) u = some 1) ∨ (T_has_22 a u = some 0 ∧ M_in a 0 ((u 43 4) - 1) u = some 0) := by
  have hT : T_count_22 u = some (nN n) := by rw [← h1]; rfl
  unfold T_has_22
  rw [z_min, hT, h2]
  rcases z_row (n := n) (by omega) a with ⟨r, hr, rfl, c1, c2, c3⟩ | ⟨c1, c2⟩
  · rw [if_neg c1, if_neg (fun q => q.elim c1 c3)]
    exact Or.inl ⟨r, hr, rfl, by show (if nN n ≤ nN r then some (0 : Int32) else some 1) = _; rw [if_neg c2], rfl⟩
  · rw [if_pos c2]
    refine Or.inr ⟨?_, rfl⟩
    by_cases h0 : a < 0
    · rw [if_pos h0]
    · rw [if_neg h0]
      show (if nN n ≤ a then some (0 : Int32) else some 1) = _
      rw [if_pos (c1.resolve_left h0)]
theorem z_qAt {r j : Nat} (hr : r < 6) (hj : j < 9) (u : mg_Rg) : M_quotaAt (nN r) (nN j) u = some (u 43 (138 + 9 * r + j)) := by
  have e : ((138 + (9 * nN r)) + nN j) = nN (138 + 9 * r + j) := by
    show _ = Int32.ofNat (138 + 9 * r + j)
    rw [Int32.ofNat_add, Int32.ofNat_add, Int32.ofNat_mul]
    rfl
  have c7 : ¬ (nN (138 + 9 * r + j) < 0 ∨ 690 ≤ (nN (138 + 9 * r + j)).toNatClampNeg) := by rw [z_nat (by omega)]; exact fun h => h.elim (z_nn (by omega)) (by omega)
  unfold M_quotaAt
  rw [e, if_neg c7, z_nat (by omega)]
theorem ob_8 : Ob_8 z_I := by
  intro u hu a b
  obtain ⟨nh, np, ns, nq, nd, na, HH, HP, HS, HQ, HD, HC, HA, HT, HL⟩ := hu.1
  obtain ⟨hn, hF, hg, he, -⟩ := HQ
  rcases z_quo hn hF hg a with ⟨r, hr, rfl, h1, h2⟩ | ⟨h1, h2⟩
  · rcases z_row (n := 9) (by omega) b with ⟨j, hj, rfl, d1, d2, d3⟩ | ⟨-, d⟩
    · obtain ⟨hB, hB8, hB7⟩ := he r hr
      have d3 : ¬ (8 : Int32) < nN j := d3
      have hgt := tg_22 (r := r) (j := j) (by omega) hj u
      have hC : C_quotaTold (nN r) (nN j) u = some (.inl (u 23 (1 + r * 9 + j)), u) := by
        unfold C_quotaTold C_requireQuota
        rw [h1]
        show (C_isWithin (nN j) 0 8 u).bind _ = _
        rw [z_win, if_neg (fun q => q.elim d1 d3)]
        show (T_get_22 (nN r) (nN j) u).bind _ = _
        rw [show T_get_22 (nN r) (nN j) u = _ from hgt]
        rfl
      have hM : M_quotaTold (nN r) (nN j) u = some (u 23 (1 + r * 9 + j), mg_up u 42 0 0) := by
        unfold M_quotaTold
        rw [h2]
        show (M_in (nN j) 0 8 u).bind _ = _
        rw [z_min, if_neg (fun q => q.elim d1 d3)]
        show (if (7 : Int32) ≤ nN j then _ else _) = _
        by_cases h7 : j < 7
        · have q7 : ¬ (7 : Int32) ≤ nN j := fun q => absurd ((z_le (a := 7) (by omega) (by omega)).mp q) (by omega)
          rw [if_neg q7, z_qAt (by omega) hj, hB j h7]
          rfl
        · have q7 : (7 : Int32) ≤ nN j := (z_le (a := 7) (by omega) (by omega)).mpr (by omega)
          rw [if_pos q7]
          rcases (show j = 7 ∨ j = 8 by omega) with rfl | rfl
          · rw [if_neg (by decide)]
            rw [show M_quotaAt (nN r) 2 u = _ from z_qAt (j := 2) (by omega) (by omega) u, show M_quotaAt (nN r) 6 u = _ from z_qAt (j := 6) (by omega) (by omega) u, show M_quotaAt (nN r) 7 u = _ from z_qAt (j := 7) (by omega) (by omega) u, hB7]
            rfl
          · rw [if_pos (by decide), show M_quotaAt (nN r) 7 u = _ from z_qAt (j := 7) (by omega) (by omega) u, hB8]
            rfl
      exact ⟨_, _, _, _, 0, hC, hM, rfl, Or.inl ⟨_, rfl, rfl, rfl⟩, z_I_thrown 0 hu⟩
    · have d : b < 0 ∨ (8 : Int32) < b := d
      refine ⟨.inr 1, u, 0, mg_up u 42 0 2, 2, ?_, ?_, rfl, Or.inr (Or.inr ⟨rfl, rfl⟩), z_I_thrown 2 hu⟩
      · unfold C_quotaTold C_requireQuota
        rw [h1]
        show (C_isWithin b 0 8 u).bind _ = _
        rw [z_win, if_pos d]
        rfl
      · unfold M_quotaTold
        rw [h2]
        show (M_in b 0 8 u).bind _ = _
        rw [z_min, if_pos d]
        rfl
  · refine ⟨.inr 0, u, 0, mg_up u 42 0 1, 1, ?_, ?_, rfl, Or.inr (Or.inl ⟨rfl, rfl⟩), z_I_thrown 1 hu⟩
    · unfold C_quotaTold C_requireQuota
      rw [h1]
      rfl
    · unfold M_quotaTold
      rw [h2]
      rfl
