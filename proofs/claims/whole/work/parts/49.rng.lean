/-! THE RING OF CHANGES -/
theorem z_cpy_at {f g : z_Ro} {s t n i : Nat} (hi : i < n) : va_cpy f g 0 (s * n) n (t * n + i) = if t = s then f i else g (t * n + i) := by
  unfold va_cpy
  by_cases h : t = s
  · subst h
    rw [if_pos ⟨Nat.le_add_right _ _, Nat.add_lt_add_left hi _⟩, if_pos rfl]
    congr 1
    omega
  · rw [if_neg h]
    refine if_neg ?_
    rintro ⟨h1, h2⟩
    rcases Nat.lt_or_gt_of_ne h with h3 | h3
    · have h4 : (t + 1) * n ≤ s * n := Nat.mul_le_mul_right n h3
      rw [Nat.add_mul, Nat.one_mul] at h4
      omega
    · have h4 : (s + 1) * n ≤ t * n := Nat.mul_le_mul_right n h3
      rw [Nat.add_mul, Nat.one_mul] at h4
      omega
theorem z_kfu {u : mg_Rg} {s m : Nat} (hs : s < 8) (hm : m ≤ 8) (h6 : u 0 6 = nN s) (h7 : u 0 7 = nN m) : ∃ u', C_keepForUndo u = some u' ∧ (∀ k ∈ z_ks, u' (k + 1) = va_cpy (u k) (u (k + 1)) 0 (s * z_len k) (z_len k)) ∧ (∀ j, j ∉ 0 :: z_ks.map (· + 1) → u' j = u j) ∧ (∀ i, i ≠ 6 → i ≠ 7 → u' 0 i = u 0 i) ∧ u' 0 6 = nN ((s + 1) % 8) ∧ u' 0 7 = nN (if m = 8 then 8 else m + 1) := by
  obtain ⟨v, h1, h2, h3⟩ := z_keepIn (s := s) (by omega) u
  have h0 : v 0 = u 0 := h3 0 (by decide)
  have e6 : v 0 6 = nN s := by rw [h0]; exact h6
  have e7 : v 0 7 = nN m := by rw [h0]; exact h7
  unfold C_keepForUndo
  rw [h6, h1]
  refine ⟨_, rfl, fun k hk => ?_, fun j hj => ?_, fun i hi hj => ?_, ?_, ?_⟩
  · rw [z_up_ne (Nat.succ_ne_zero k), z_up_ne (Nat.succ_ne_zero k)]
    exact h2 k hk
  · have hn : j ≠ 0 := fun e => hj (e ▸ List.mem_cons_self)
    rw [z_up_ne hn, z_up_ne hn]
    exact h3 j (fun q => hj (List.mem_cons_of_mem _ q))
  · rw [z_up_at, z_upd_ne hj, z_up_at, z_upd_ne hi, h0]
  · rw [z_up_at, z_upd_ne (by decide), z_up_at, z_upd_at, e6]
    have : ∀ s : Fin 8, nN s.val + 1 - (nN s.val + 1) / 8 * 8 = nN ((s.val + 1) % 8) := by decide
    exact this ⟨s, hs⟩
  · rw [z_up_at, z_upd_at, z_up_at, z_upd_ne (by decide), e7]
    have : ∀ m : Fin 9, (if nN m.val + 1 < 8 then nN m.val + 1 else 8) = nN (if m.val = 8 then 8 else m.val + 1) := by decide
    exact this ⟨m, by omega⟩
theorem z_ring_step {u u2 : mg_Rg} {g : z_Ro} {s m : Nat} (hs : s < 8) (hm : m ≤ 8) (hring : ∀ j < m, z_rel (z_slot u ((s + 8 - m + j) % 8)) (fun i => u 44 (690 * j + i))) (hr : z_rel u g)
    (hk : ∀ k ∈ z_ks, u2 (k + 1) = va_cpy (u k) (u (k + 1)) 0 (s * z_len k) (z_len k)) (h6 : u2 0 6 = nN ((s + 1) % 8)) (h7 : u2 0 7 = nN (if m = 8 then 8 else m + 1)) (h3 : u2 42 3 = nN (if m = 8 then 8 else m + 1))
    (hA : m < 8 → ∀ j, u2 44 j = if 690 * m ≤ j ∧ j < 690 * m + 690 then g (j - 690 * m) else u 44 j) (hB : m = 8 → ∀ j < 5520, u2 44 j = if 4830 ≤ j then g (j - 4830) else u 44 (j + 690)) : z_ring u2 := by
  have hS : ∀ t, ∀ k ∈ z_ks, ∀ i < z_len k, z_slot u2 t k i = if t = s then u k i else z_slot u t k i := by
    intro t k hk' i hi
    unfold z_slot
    rw [hk k hk']
    exact z_cpy_at hi
  by_cases h8 : m = 8
  · subst h8
    rw [if_pos rfl] at h7 h3
    refine ⟨(s + 1) % 8, 8, by omega, by omega, h6, h7, h3, fun j hj => ?_⟩
    by_cases h : j = 7
    · subst h
      have e : ((s + 1) % 8 + 8 - 8 + 7) % 8 = s := by omega
      rw [e]
      refine z_rel_cg (fun k hk i hi => by rw [hS s k hk i hi, if_pos rfl]) (fun i hi => ?_) hr
      show u2 44 (690 * 7 + i) = g i
      rw [hB rfl _ (by omega), if_pos (by omega)]
      exact congrArg g (by omega)
    · have e : ((s + 1) % 8 + 8 - 8 + j) % 8 = (s + 8 - 8 + (j + 1)) % 8 := by omega
      rw [e]
      refine z_rel_cg (fun k hk i hi => by rw [hS _ k hk i hi, if_neg (by omega)]) (fun i hi => ?_) (hring (j + 1) (by omega))
      show u2 44 (690 * j + i) = u 44 (690 * (j + 1) + i)
      rw [hB rfl _ (by omega), if_neg (by omega)]
      exact congrArg (u 44) (by omega)
  · rw [if_neg h8] at h7 h3
    refine ⟨(s + 1) % 8, m + 1, by omega, by omega, h6, h7, h3, fun j hj => ?_⟩
    have e : ((s + 1) % 8 + 8 - (m + 1) + j) % 8 = (s + 8 - m + j) % 8 := by omega
    rw [e]
    by_cases h : j = m
    · subst h
      have e2 : (s + 8 - j + j) % 8 = s := by omega
      rw [e2]
      refine z_rel_cg (fun k hk i hi => by rw [hS s k hk i hi, if_pos rfl]) (fun i hi => ?_) hr
      show u2 44 (690 * j + i) = g i
      rw [hA (by omega), if_pos (by omega)]
      exact congrArg g (by omega)
    · refine z_rel_cg (fun k hk i hi => by rw [hS _ k hk i hi, if_neg (by omega)]) (fun i hi => ?_) (hring j (by omega))
      show u2 44 (690 * j + i) = u 44 (690 * j + i)
      rw [hA (by omega), if_neg (by omega)]
theorem z_shift_43 : ∀ (n k : Nat) (u : mg_Rg), k ≤ 4830 → 4830 < n + k → ∃ u', M_remembersRow_43_L11 n (nN k) u = some u' ∧ (∀ j, j ≠ 44 → u' j = u j) ∧ ∀ j, u' 44 j = if k ≤ j ∧ j < 4830 then u 44 (j + 690) else u 44 j := by
  intro n
  induction n with
  | zero => intro k u h1 h2; omega
  | succ n ih =>
    intro k u h1 h2
    unfold M_remembersRow_43_L11
    by_cases hk : k = 4830
    · subst hk
      refine ⟨u, if_pos (by decide), fun _ _ => rfl, fun j => ?_⟩
      rw [if_neg (by omega)]
    · have c1 : ¬ (4830 : Int32) ≤ nN k := fun q => absurd ((z_le (a := 4830) (by omega) (by omega)).mp q) (by omega)
      obtain ⟨c2, e2⟩ := z_idx (a := k) (k := 690) (n := 5520) (by omega) (by omega)
      have c2 : ¬ ((nN k + 690) < 0 ∨ 5520 ≤ (nN k + 690).toNatClampNeg) := c2
      have e2 : (nN k + 690).toNatClampNeg = k + 690 := e2
      have c3 : ¬ (nN k < 0 ∨ 5520 ≤ (nN k).toNatClampNeg) := by rw [z_nat (by omega)]; exact fun h => h.elim (z_nn (by omega)) (by omega)
      rw [if_neg c1, if_neg c2, if_neg c3, e2, z_nat (by omega)]
      obtain ⟨u', h3, h4, h5⟩ := ih (k + 1) (mg_up u 44 k (u 44 (k + 690))) (by omega) (by omega)
      have e4 : nN k + 1 = nN (k + 1) := (Int32.ofNat_add k 1).symm
      rw [e4]
      refine ⟨u', h3, fun j hj => (h4 j hj).trans (z_up_ne hj), fun j => ?_⟩
      rw [h5 j, z_up_at]
      by_cases hj : j = k
      · subst hj
        rw [if_neg (by omega), if_pos (by omega), z_upd_at]
      · rw [z_upd_ne hj]
        by_cases hj2 : k + 1 ≤ j ∧ j < 4830
        · rw [if_pos hj2, if_pos (by omega), z_upd_ne (by omega)]
        · rw [if_neg hj2, if_neg (by omega)]
theorem z_rem_43 {u : mg_Rg} {m : Nat} (hm : m ≤ 8) (h3 : u 42 3 = nN m) : ∃ u2, M_remembersRow_43 u = some u2 ∧ (∀ k, k ≠ 44 → k ≠ 42 → u2 k = u k) ∧ (∀ i, i ≠ 3 → u2 42 i = u 42 i) ∧ u2 42 3 = nN (if m = 8 then 8 else m + 1) ∧
    (m < 8 → ∀ j, u2 44 j = if 690 * m ≤ j ∧ j < 690 * m + 690 then u 43 (j - 690 * m) else u 44 j) ∧ (m = 8 → ∀ j < 5520, u2 44 j = if 4830 ≤ j then u 43 (j - 4830) else u 44 (j + 690)) := by
  by_cases h8 : m = 8
  · subst h8
    obtain ⟨v, h4, h5, h6⟩ := z_shift_43 mg_F 0 u (by omega) (by show 4830 < 6000 + 0; omega)
    have e3 : v 42 3 = nN 8 := by rw [h5 42 (by decide)]; exact h3
    have e4 : mg_up v 42 3 (v 42 3 - 1) 42 3 = nN 7 := by rw [z_up_at, z_upd_at, e3]; rfl
    obtain ⟨w, c1, c2, c3⟩ := zc_43_44 (a := 0) (b := 4830) (by omega) (by omega) mg_F 0 (mg_up v 42 3 (v 42 3 - 1)) (by omega) (by show 690 < 6000 + 0; omega)
    have hC : M_copy_43_44 0 (mg_up v 42 3 (v 42 3 - 1) 42 3 * 690) (mg_up v 42 3 (v 42 3 - 1)) = some w := by
      rw [e4]
      unfold M_copy_43_44
      rw [show (nN 7 * 690 : Int32) = nN 4830 by decide, show M_copy_43_44_L3 mg_F 0 (nN 4830) 0 _ = some w from c1]
      rfl
    have hw : w 42 3 = nN 7 := by rw [c2 42 (by decide)]; exact e4
    refine ⟨mg_up w 42 3 (w 42 3 + 1), ?_, fun k hk1 hk2 => ?_, fun i hi => ?_, ?_, fun q => absurd q (by omega), fun _ j hj => ?_⟩
    · unfold M_remembersRow_43
      rw [if_pos (show u 42 3 = 8 from h3), show M_remembersRow_43_L11 mg_F 0 u = some v from h4]
      show (M_copy_43_44 0 (mg_up v 42 3 (v 42 3 - 1) 42 3 * 690) (mg_up v 42 3 (v 42 3 - 1))).bind _ = _
      rw [hC]
      rfl
    · rw [z_up_ne hk2, c2 k hk1, z_up_ne hk2, h5 k hk1]
    · rw [z_up_at, z_upd_ne hi, c2 42 (by decide), z_up_at, z_upd_ne hi, h5 42 (by decide)]
    · rw [z_up_at, z_upd_at, hw, if_pos rfl]
      decide
    · rw [z_up_ne (by decide), c3 j, z_up_ne (by decide), z_up_ne (by decide), h5 43 (by decide), h6 j]
      by_cases hj2 : 4830 ≤ j
      · rw [if_pos (by omega), if_pos hj2]
        exact congrArg (u 43) (by omega)
      · rw [if_neg (by omega), if_neg hj2, if_pos (by omega)]
  · have h9 : ¬ u 42 3 = 8 := by
      rw [h3]
      exact fun q => absurd ((z_inj (b := 8) (by omega) (by omega)).mp q) h8
    obtain ⟨w, c1, c2, c3⟩ := zc_43_44 (a := 0) (b := 690 * m) (by omega) (by omega) mg_F 0 u (by omega) (by show 690 < 6000 + 0; omega)
    have hC : M_copy_43_44 0 (u 42 3 * 690) u = some w := by
      rw [h3]
      unfold M_copy_43_44
      rw [show (nN m * 690 : Int32) = nN (690 * m) by rw [Nat.mul_comm]; exact (Int32.ofNat_mul m 690).symm, show M_copy_43_44_L3 mg_F 0 (nN (690 * m)) 0 _ = some w from c1]
      rfl
    have hw : w 42 3 = nN m := by rw [c2 42 (by decide)]; exact h3
    refine ⟨mg_up w 42 3 (w 42 3 + 1), ?_, fun k hk1 hk2 => ?_, fun i hi => ?_, ?_, fun _ j => ?_, fun q => absurd q h8⟩
    · unfold M_remembersRow_43
      rw [if_neg h9, hC]
      rfl
    · rw [z_up_ne hk2, c2 k hk1]
    · rw [z_up_at, z_upd_ne hi, c2 42 (by decide)]
    · rw [z_up_at, z_upd_at, hw, if_neg h8]
      exact (Int32.ofNat_add m 1).symm
    · rw [z_up_ne (by decide), c3 j]
      by_cases hj2 : 690 * m ≤ j ∧ j < 690 * m + 690
      · rw [if_pos (by omega), if_pos hj2]
        exact congrArg (u 43) (by omega)
      · rw [if_neg (by omega), if_neg hj2]
theorem z_shift_46 : ∀ (n k : Nat) (u : mg_Rg), k ≤ 4830 → 4830 < n + k → ∃ u', M_remembersRow_46_L11 n (nN k) u = some u' ∧ (∀ j, j ≠ 44 → u' j = u j) ∧ ∀ j, u' 44 j = if k ≤ j ∧ j < 4830 then u 44 (j + 690) else u 44 j := by
  intro n
  induction n with
  | zero => intro k u h1 h2; omega
  | succ n ih =>
    intro k u h1 h2
    unfold M_remembersRow_46_L11
    by_cases hk : k = 4830
    · subst hk
      refine ⟨u, if_pos (by decide), fun _ _ => rfl, fun j => ?_⟩
      rw [if_neg (by omega)]
    · have c1 : ¬ (4830 : Int32) ≤ nN k := fun q => absurd ((z_le (a := 4830) (by omega) (by omega)).mp q) (by omega)
      obtain ⟨c2, e2⟩ := z_idx (a := k) (k := 690) (n := 5520) (by omega) (by omega)
      have c2 : ¬ ((nN k + 690) < 0 ∨ 5520 ≤ (nN k + 690).toNatClampNeg) := c2
      have e2 : (nN k + 690).toNatClampNeg = k + 690 := e2
      have c3 : ¬ (nN k < 0 ∨ 5520 ≤ (nN k).toNatClampNeg) := by rw [z_nat (by omega)]; exact fun h => h.elim (z_nn (by omega)) (by omega)
      rw [if_neg c1, if_neg c2, if_neg c3, e2, z_nat (by omega)]
      obtain ⟨u', h3, h4, h5⟩ := ih (k + 1) (mg_up u 44 k (u 44 (k + 690))) (by omega) (by omega)
      have e4 : nN k + 1 = nN (k + 1) := (Int32.ofNat_add k 1).symm
      rw [e4]
      refine ⟨u', h3, fun j hj => (h4 j hj).trans (z_up_ne hj), fun j => ?_⟩
      rw [h5 j, z_up_at]
      by_cases hj : j = k
      · subst hj
        rw [if_neg (by omega), if_pos (by omega), z_upd_at]
      · rw [z_upd_ne hj]
        by_cases hj2 : k + 1 ≤ j ∧ j < 4830
        · rw [if_pos hj2, if_pos (by omega), z_upd_ne (by omega)]
        · rw [if_neg hj2, if_neg (by omega)]
theorem z_rem_46 {u : mg_Rg} {m : Nat} (hm : m ≤ 8) (h3 : u 42 3 = nN m) : ∃ u2, M_remembersRow_46 u = some u2 ∧ (∀ k, k ≠ 44 → k ≠ 42 → u2 k = u k) ∧ (∀ i, i ≠ 3 → u2 42 i = u 42 i) ∧ u2 42 3 = nN (if m = 8 then 8 else m + 1) ∧
    (m < 8 → ∀ j, u2 44 j = if 690 * m ≤ j ∧ j < 690 * m + 690 then u 46 (j - 690 * m) else u 44 j) ∧ (m = 8 → ∀ j < 5520, u2 44 j = if 4830 ≤ j then u 46 (j - 4830) else u 44 (j + 690)) := by
  by_cases h8 : m = 8
  · subst h8
    obtain ⟨v, h4, h5, h6⟩ := z_shift_46 mg_F 0 u (by omega) (by show 4830 < 6000 + 0; omega)
    have e3 : v 42 3 = nN 8 := by rw [h5 42 (by decide)]; exact h3
    have e4 : mg_up v 42 3 (v 42 3 - 1) 42 3 = nN 7 := by rw [z_up_at, z_upd_at, e3]; rfl
    obtain ⟨w, c1, c2, c3⟩ := zc_46_44 (a := 0) (b := 4830) (by omega) (by omega) mg_F 0 (mg_up v 42 3 (v 42 3 - 1)) (by omega) (by show 690 < 6000 + 0; omega)
    have hC : M_copy_46_44 0 (mg_up v 42 3 (v 42 3 - 1) 42 3 * 690) (mg_up v 42 3 (v 42 3 - 1)) = some w := by
      rw [e4]
      unfold M_copy_46_44
      rw [show (nN 7 * 690 : Int32) = nN 4830 by decide, show M_copy_46_44_L3 mg_F 0 (nN 4830) 0 _ = some w from c1]
      rfl
    have hw : w 42 3 = nN 7 := by rw [c2 42 (by decide)]; exact e4
    refine ⟨mg_up w 42 3 (w 42 3 + 1), ?_, fun k hk1 hk2 => ?_, fun i hi => ?_, ?_, fun q => absurd q (by omega), fun _ j hj => ?_⟩
    · unfold M_remembersRow_46
      rw [if_pos (show u 42 3 = 8 from h3), show M_remembersRow_46_L11 mg_F 0 u = some v from h4]
      show (M_copy_46_44 0 (mg_up v 42 3 (v 42 3 - 1) 42 3 * 690) (mg_up v 42 3 (v 42 3 - 1))).bind _ = _
      rw [hC]
      rfl
    · rw [z_up_ne hk2, c2 k hk1, z_up_ne hk2, h5 k hk1]
    · rw [z_up_at, z_upd_ne hi, c2 42 (by decide), z_up_at, z_upd_ne hi, h5 42 (by decide)]
    · rw [z_up_at, z_upd_at, hw, if_pos rfl]
      decide
    · rw [z_up_ne (by decide), c3 j, z_up_ne (by decide), z_up_ne (by decide), h5 46 (by decide), h6 j]
      by_cases hj2 : 4830 ≤ j
      · rw [if_pos (by omega), if_pos hj2]
        exact congrArg (u 46) (by omega)
      · rw [if_neg (by omega), if_neg hj2, if_pos (by omega)]
  · have h9 : ¬ u 42 3 = 8 := by
      rw [h3]
      exact fun q => absurd ((z_inj (b := 8) (by omega) (by omega)).mp q) h8
    obtain ⟨w, c1, c2, c3⟩ := zc_46_44 (a := 0) (b := 690 * m) (by omega) (by omega) mg_F 0 u (by omega) (by show 690 < 6000 + 0; omega)
    have hC : M_copy_46_44 0 (u 42 3 * 690) u = some w := by
      rw [h3]
      unfold M_copy_46_44
      rw [show (nN m * 690 : Int32) = nN (690 * m) by rw [Nat.mul_comm]; exact (Int32.ofNat_mul m 690).symm, show M_copy_46_44_L3 mg_F 0 (nN (690 * m)) 0 _ = some w from c1]
      rfl
    have hw : w 42 3 = nN m := by rw [c2 42 (by decide)]; exact h3
    refine ⟨mg_up w 42 3 (w 42 3 + 1), ?_, fun k hk1 hk2 => ?_, fun i hi => ?_, ?_, fun _ j => ?_, fun q => absurd q h8⟩
    · unfold M_remembersRow_46
      rw [if_neg h9, hC]
      rfl
    · rw [z_up_ne hk2, c2 k hk1]
    · rw [z_up_at, z_upd_ne hi, c2 42 (by decide)]
    · rw [z_up_at, z_upd_at, hw, if_neg h8]
      exact (Int32.ofNat_add m 1).symm
    · rw [z_up_ne (by decide), c3 j]
      by_cases hj2 : 690 * m ≤ j ∧ j < 690 * m + 690
      · rw [if_pos (by omega), if_pos hj2]
        exact congrArg (u 46) (by omega)
      · rw [if_neg (by omega), if_neg hj2]
/-- the cells that a call may write between keepForUndo and remembers -/
abbrev z_ws : List Nat := [5, 8, 11, 14, 18, 21, 24, 27, 32, 0, 37, 38, 42, 43, 44, 45, 47]
theorem z_write {u : mg_Rg} (hu : z_I u) : ∃ u0, C_keepForUndo u = some u0 ∧ (∀ k, k ∉ 0 :: z_ks.map (· + 1) → u0 k = u k) ∧ ∀ u1 : mg_Rg, (∀ k ∈ z_ws, u1 k = u0 k) → ∃ u2, M_remembers u1 = some u2 ∧ (∀ k, k ≠ 44 → k ≠ 42 → u2 k = u1 k) ∧ z_R u2 := by
  obtain ⟨hr, ⟨s, m, hs, hm, h6, h7, h3, hring⟩, hkp, htx, hrf, hq⟩ := hu
  obtain ⟨u0, k1, k2, k3, k4, k5, k6⟩ := z_kfu hs hm h6 h7
  have n0 : ∀ k ∈ [37, 38, 42, 43, 44, 45, 47], u0 k = u k := fun k hk => k3 k (by
    simp only [List.mem_cons, List.not_mem_nil, or_false] at hk
    rcases hk with rfl | rfl | rfl | rfl | rfl | rfl | rfl <;> decide)
  refine ⟨u0, k1, k3, fun u1 h1 => ?_⟩
  have n1 : ∀ k ∈ [37, 38, 42, 43, 44, 45, 47], u1 k = u k := fun k hk => (h1 k (by
    simp only [List.mem_cons, List.not_mem_nil, or_false] at hk
    rcases hk with rfl | rfl | rfl | rfl | rfl | rfl | rfl <;> decide)).trans (n0 k hk)
  have e42 := n1 42 (by decide)
  have e43 := n1 43 (by decide)
  have e44 := n1 44 (by decide)
  have g3 : u1 42 3 = nN m := by rw [e42]; exact h3
  obtain ⟨u2, r1, r2, r3, r4, r5, r6⟩ := z_rem_43 hm g3
  have hsl : ∀ k ∈ z_ks, u2 (k + 1) = va_cpy (u k) (u (k + 1)) 0 (s * z_len k) (z_len k) := by
    intro k hk
    have hk2 : k + 1 ∈ z_ws ∧ k + 1 ≠ 44 ∧ k + 1 ≠ 42 := by
      simp only [z_ks, List.mem_cons, List.not_mem_nil, or_false] at hk
      rcases hk with rfl | rfl | rfl | rfl | rfl | rfl | rfl | rfl | rfl <;> decide
    rw [r2 _ hk2.2.1 hk2.2.2, h1 _ hk2.1]
    exact k2 k hk
  have h20 : u2 0 = u0 0 := (r2 0 (by decide) (by decide)).trans (h1 0 (by decide))
  refine ⟨u2, ?_, r2, ?_, ?_, ?_, ?_, ?_⟩
  · unfold M_remembers
    rw [show u1 42 7 = 0 by rw [e42]; exact hq, if_pos rfl, r1]
    rfl
  · refine z_ring_step hs hm hring hr hsl (by rw [h20]; exact k5) (by rw [h20]; exact k6) r4 (fun h j => ?_) (fun h j hj => ?_)
    · rw [r5 h j, e43, e44]
    · rw [r6 h j hj, e43, e44]
  · have e8 : ∀ k ∈ z_ks, ∀ i < z_len k, z_slot u2 8 k i = z_slot u 8 k i := fun k hk i hi => by
      unfold z_slot
      rw [hsl k hk, z_cpy_at hi, if_neg (by omega)]
    have e5 : u2 42 5 = u 42 5 := by rw [r3 5 (by decide), e42]
    have e0 : u2 0 8 = u 0 8 := by rw [h20]; exact k4 8 (by decide) (by decide)
    rcases hkp with ⟨c1, c2⟩ | ⟨c1, c2, c3⟩
    · exact Or.inl ⟨e0.trans c1, e5.trans c2⟩
    · refine Or.inr ⟨e0.trans c1, e5.trans c2, ?_⟩
      rw [r2 45 (by decide) (by decide), n1 45 (by decide)]
      exact z_rel_cg e8 (fun _ _ => rfl) c3
  · obtain ⟨n, b1, b2, b3, b4, b5⟩ := htx
    have e37 : u2 37 = u 37 := (r2 37 (by decide) (by decide)).trans (n1 37 (by decide))
    have e38 : u2 38 = u 38 := (r2 38 (by decide) (by decide)).trans (n1 38 (by decide))
    have e47 : u2 47 = u 47 := (r2 47 (by decide) (by decide)).trans (n1 47 (by decide))
    exact ⟨n, b1, by rw [e37]; exact b2, by rw [r3 10 (by decide), e42]; exact b3, fun i hi => by rw [e38, e47]; exact b4 i hi, by rw [e37, r3 11 (by decide), e42]; exact b5⟩
  · rw [h20, k4 9 (by decide) (by decide), r3 8 (by decide), e42]
    exact hrf
  · rw [r3 7 (by decide), e42]
    exact hq
