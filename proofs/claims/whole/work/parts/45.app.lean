/-- calls that touch the text alone -/
theorem z_I_text {u u' : mg_Rg} (h : ∀ k < 37, u' k = u k) (hg : u' 43 = u 43) (hh : u' 44 = u 44) (hk : u' 45 = u 45) (hf : ∀ i ∈ [3, 5, 7, 8], u' 42 i = u 42 i) (ht : z_text u') (hI : z_I u) : z_I u' := by
  obtain ⟨h1, ⟨s, m, a1, a2, a3, a4, a5, a6⟩, h3, -, h5, h6⟩ := hI
  have e0 := h 0 (by decide)
  have hs : ∀ s, ∀ k ∈ z_ks, z_slot u' s k = z_slot u s k := z_slot_congr (fun k hk => h _ (by
    simp only [z_ks, List.mem_cons, List.not_mem_nil, or_false] at hk
    omega))
  refine ⟨?_, ⟨s, m, a1, a2, by rw [e0]; exact a3, by rw [e0]; exact a4, (hf 3 (by decide)).trans a5, fun j hj => ?_⟩, ?_, ht, by rw [e0, hf 8 (by decide)]; exact h5, (hf 7 (by decide)).trans h6⟩
  · rw [hg]
    refine z_rel_congr (fun k hk => h k ?_) h1
    simp only [z_ks, List.mem_cons, List.not_mem_nil, or_false] at hk
    omega
  · rw [hh]
    exact z_rel_congr (hs _) (a6 j hj)
  · rcases h3 with ⟨c1, c2⟩ | ⟨c1, c2, c3⟩
    · exact Or.inl ⟨by rw [e0]; exact c1, (hf 5 (by decide)).trans c2⟩
    · exact Or.inr ⟨by rw [e0]; exact c1, (hf 5 (by decide)).trans c2, by rw [hk]; exact z_rel_congr (hs _) c3⟩
theorem z_nar {c : Int32} (h : z_in c 33 126) : vp_nar .char c = c := by
  have hb : ¬ c < 0 := by
    rw [Int32.lt_iff_toInt_lt]
    have h0 : (0 : Int32).toInt = 0 := rfl
    have := h.1
    omega
  obtain ⟨n, hn, rfl⟩ := z_of hb
  have h1 : (Int32.ofNat n).toInt = n := Int32.toInt_ofNat_of_lt hn
  have h2 := h.2
  rw [h1] at h2
  have h3 : n < 127 := by omega
  have : ∀ j : Fin 127, vp_nar .char (Int32.ofNat j.val) = Int32.ofNat j.val := by decide +kernel
  exact this ⟨n, h3⟩
theorem ob_30 : Ob_30 z_I := by
  intro u hu p1
  generalize ((p1.toUInt32 % 65536).toInt32) = c
  obtain ⟨hI1, hI2, hI3, ⟨n, b1, b2, b3, b4, b5⟩, hI5, hI6⟩ := id hu
  by_cases hc : c < 33 ∨ 126 < c
  · refine ⟨.inr 1, u, 0, mg_up u 42 0 1, 1, ?_, ?_, rfl, Or.inr (Or.inl ⟨rfl, rfl⟩), z_I_thrown 1 hu⟩
    · unfold C_append
      rw [z_win, if_pos hc]
      rfl
    · unfold M_append
      rw [z_min, if_pos hc]
      rfl
  · have hin : z_in c 33 126 := by
      rw [Int32.lt_iff_toInt_lt, Int32.lt_iff_toInt_lt] at hc
      have h1 : (33 : Int32).toInt = 33 := rfl
      have h2 : (126 : Int32).toInt = 126 := rfl
      rw [h1, h2] at hc
      exact ⟨by omega, by omega⟩
    by_cases hn : n = 60
    · subst hn
      refine ⟨.inr 2, u, 0, mg_up u 42 0 2, 2, ?_, ?_, rfl, Or.inr (Or.inr ⟨rfl, rfl⟩), z_I_thrown 2 hu⟩
      · unfold C_append
        rw [z_win, if_neg hc, b2]
        rfl
      · unfold M_append
        rw [z_min, if_neg hc, b3]
        rfl
    · have hn6 : n < 60 := by omega
      have l1 : nN n < (60 : Int32) := (z_lt (b := 60) (by omega) (by omega)).mpr hn6
      have l2 : ¬ nN n < 0 := z_nn (by omega)
      have l3 : ¬ (60 : Int32) ≤ nN n := fun q => absurd ((z_le (a := 60) (by omega) (by omega)).mp q) (by omega)
      have l4 : ¬ (nN n < 0 ∨ 60 ≤ (nN n).toNatClampNeg) := by rw [z_nat (by omega)]; exact fun h => h.elim l2 (by omega)
      have l5 : ¬ nN n = (60 : Int32) := fun q => absurd ((z_inj (b := 60) (by omega) (by omega)).mp q) (by omega)
      have e1 : nN n + 1 = nN (n + 1) := (Int32.ofNat_add n 1).symm
      have hC : C_append c u = some (.inl (nN (n + 1)), mg_up (mg_up u 38 n c) 37 2 (nN (n + 1))) := by
        unfold C_append X_addCharacter
        rw [z_win, if_neg hc]
        show (if u 37 2 < 60 then _ else _) = _
        rw [b2, if_pos l1, if_neg l2, if_neg l3, if_neg l4, z_nat (by omega), z_nar hin]
        have e2 : mg_up u 38 n c 37 2 = nN n := b2
        rw [e2, e1]
        rfl
      have hM : M_append c (mg_up (mg_up u 38 n c) 37 2 (nN (n + 1))) = some (nN (n + 1), mg_up (mg_up (mg_up (mg_up (mg_up u 38 n c) 37 2 (nN (n + 1))) 47 n c) 42 10 (nN (n + 1))) 42 0 0) := by
        unfold M_append
        rw [z_min, if_neg hc]
        have e3 : mg_up (mg_up u 38 n c) 37 2 (nN (n + 1)) 42 10 = nN n := b3
        show (if (mg_up (mg_up u 38 n c) 37 2 (nN (n + 1)) 42 10) = 60 then _ else _) = _
        rw [e3, if_neg l5, if_neg l4, z_nat (by omega), z_nar hin]
        have e4 : mg_up (mg_up (mg_up u 38 n c) 37 2 (nN (n + 1))) 47 n c 42 10 = nN n := b3
        rw [e4, e1]
        rfl
      refine ⟨_, _, _, _, 0, hC, hM, rfl, Or.inl ⟨_, rfl, rfl, rfl⟩, z_I_thrown 0 ?_⟩
      refine z_I_text (u := u) (fun k hk => ?_) rfl rfl rfl (fun i hi => ?_) ⟨n + 1, by omega, rfl, rfl, fun i hi => ?_, b5⟩ hu
      · rw [z_up_ne (by omega), z_up_ne (by omega), z_up_ne (by omega), z_up_ne (by omega)]
      · simp only [List.mem_cons, List.not_mem_nil, or_false] at hi
        rcases hi with rfl | rfl | rfl | rfl <;> rfl
      · show upd (u 38) n c i = upd (u 47) n c i ∧ z_in (upd (u 38) n c i) 33 126
        by_cases hin2 : i = n
        · subst hin2
          rw [z_upd_at, z_upd_at]
          exact ⟨rfl, hin⟩
        · rw [z_upd_ne hin2, z_upd_ne hin2]
          exact b4 i (by omega)
