theorem z_decl {n : Nat} (hn : n ≤ 30) {u : mg_Rg} (h1 : u 26 0 = nN n) (h2 : u 43 5 = nN n) (a : Int32) : (∃ r, r < n ∧ a = nN r ∧ T_has_25 a u = some 1 ∧ M_isDecl a u = some 1) ∨ (T_has_25 a u = some 0 ∧ M_isDecl a u = some 0) := by
  have hT : T_count_25 u = some (nN n) := by rw [← h1]; rfl
  unfold T_has_25 M_isDecl
  rw [z_min, hT, h2]
  rcases z_row (n := n) (by omega) a with ⟨r, hr, rfl, c1, c2, c3⟩ | ⟨c1, c2⟩
  · rw [if_neg c1, if_neg (fun q => q.elim c1 c3)]
    exact Or.inl ⟨r, hr, rfl, by show (if nN n ≤ nN r then some (0 : Int32) else some 1) = _; rw [if_neg c2], rfl⟩
  · rw [if_pos c2]
    refine Or.inr ⟨?_, rfl⟩
    by_cases h0 : a < 0
    · rw [if_pos h0]
    · rw [if_neg h0]
      show (if nN n ≤ a then some (0 : Int32) else some 1) = _
      rw [if_pos (c1.resolve_left h0)]
theorem ob_17 : Ob_17 z_I := by
  intro u hu a b
  obtain ⟨nh, np, ns, nq, nd, na, HH, HP, HS, HQ, HD, HC, HA, HT, HL⟩ := hu.1
  obtain ⟨hn, hF, hg, he, -⟩ := HD
  rcases z_decl hn hF hg a with ⟨r, hr, rfl, h1, h2⟩ | ⟨h1, h2⟩
  · rcases z_row (n := 15) (by omega) b with ⟨j, hj, rfl, d1, d2, d3⟩ | ⟨-, d⟩
    · have hB := he r hr j hj
      have d3 : ¬ (14 : Int32) < nN j := d3
      have hgt := tg_25 (r := r) (j := j) (by omega) hj u
      have e : ((208 + (16 * nN r)) + nN j) = nN (208 + 16 * r + j) := by
        show _ = Int32.ofNat (208 + 16 * r + j)
        rw [Int32.ofNat_add, Int32.ofNat_add, Int32.ofNat_mul]
        rfl
      have c7 : ¬ (nN (208 + 16 * r + j) < 0 ∨ 690 ≤ (nN (208 + 16 * r + j)).toNatClampNeg) := by rw [z_nat (by omega)]; exact fun h => h.elim (z_nn (by omega)) (by omega)
      have hm : M_declAt (nN r) (nN j) u = some (u 43 (208 + 16 * r + j)) := by
        unfold M_declAt
        rw [e, if_neg c7, z_nat (by omega)]
      refine ⟨.inl (u 26 (1 + r * 15 + j)), u, u 43 (208 + 16 * r + j), mg_up u 42 0 0, 0, ?_, ?_, rfl, Or.inl ⟨_, rfl, hB.symm, rfl⟩, z_I_thrown 0 hu⟩
      · unfold C_declaration C_requireDeclaration
        rw [h1]
        show (C_isWithin (nN j) 0 14 u).bind _ = _
        rw [z_win, if_neg (fun q => q.elim d1 d3)]
        show (T_get_25 (nN r) (nN j) u).bind _ = _
        rw [show T_get_25 (nN r) (nN j) u = _ from hgt]
        rfl
      · unfold M_declaration
        rw [h2]
        show (M_in (nN j) 0 14 u).bind _ = _
        rw [z_min, if_neg (fun q => q.elim d1 d3)]
        show (M_declAt (nN r) (nN j) u).bind _ = _
        rw [hm]
        rfl
    · have d : b < 0 ∨ (14 : Int32) < b := d
      refine ⟨.inr 1, u, 0, mg_up u 42 0 2, 2, ?_, ?_, rfl, Or.inr (Or.inr ⟨rfl, rfl⟩), z_I_thrown 2 hu⟩
      · unfold C_declaration C_requireDeclaration
        rw [h1]
        show (C_isWithin b 0 14 u).bind _ = _
        rw [z_win, if_pos d]
        rfl
      · unfold M_declaration
        rw [h2]
        show (M_in b 0 14 u).bind _ = _
        rw [z_min, if_pos d]
        rfl
  · refine ⟨.inr 0, u, 0, mg_up u 42 0 1, 1, ?_, ?_, rfl, Or.inr (Or.inl ⟨rfl, rfl⟩), z_I_thrown 1 hu⟩
    · unfold C_declaration C_requireDeclaration
      rw [h1]
      rfl
    · unfold M_declaration
      rw [h2]
      rfl
