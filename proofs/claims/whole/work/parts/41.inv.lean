/-! PHASE 2: THE INVARIANT. F k: what stands in the class's table whose cells are cell k; g: a row of the reference -/
abbrev nN : Nat → Int32 := Int32.ofNat
/-- a number from a to b -/
def z_in (x : Int32) (a b : Int) : Prop := a ≤ x.toInt ∧ x.toInt ≤ b
/-- how many: headings, preferences, suspensions, quotas, declarations, parts -/
abbrev z_Ns : Type := Nat × Nat × Nat × Nat × Nat × Nat
def z_cnt (N : z_Ns) (F : Nat → Nat → Int32) (g : Nat → Int32) : Prop :=
  (N.1 ≤ 20 ∧ F 4 0 = nN N.1 ∧ g 1 = nN N.1) ∧ (N.2.1 ≤ 10 ∧ F 7 0 = nN N.2.1 ∧ g 2 = nN N.2.1) ∧ (N.2.2.1 ≤ 6 ∧ F 10 0 = nN N.2.2.1 ∧ g 3 = nN N.2.2.1) ∧
  (N.2.2.2.1 ≤ 6 ∧ F 23 0 = nN N.2.2.2.1 ∧ g 4 = nN N.2.2.2.1) ∧ (N.2.2.2.2.1 ≤ 30 ∧ F 26 0 = nN N.2.2.2.2.1 ∧ g 5 = nN N.2.2.2.2.1) ∧ (N.2.2.2.2.2 ≤ 4 ∧ F 31 0 = nN N.2.2.2.2.2 ∧ g 6 = nN N.2.2.2.2.2)
def z_eqs (N : z_Ns) (F : Nat → Nat → Int32) (g : Nat → Int32) : Prop :=
  (∀ h < N.1, ∀ j < 3, F 4 (1 + h * 3 + j) = g (20 + 3 * h + j)) ∧ (∀ h < N.2.1, ∀ j < 4, F 7 (1 + h * 4 + j) = g (80 + 4 * h + j)) ∧ (∀ h < N.2.2.1, ∀ j < 3, F 10 (1 + h * 3 + j) = g (120 + 3 * h + j)) ∧
  (∀ h < N.2.2.2.1, (∀ j < 7, F 23 (1 + h * 9 + j) = g (138 + 9 * h + j)) ∧ F 23 (1 + h * 9 + 8) = g (138 + 9 * h + 7) ∧ F 23 (1 + h * 9 + 7) = g (138 + 9 * h + 2) - g (138 + 9 * h + 6) - g (138 + 9 * h + 7)) ∧
  (∀ h < N.2.2.2.2.1, ∀ j < 15, F 26 (1 + h * 15 + j) = g (208 + 16 * h + j)) ∧ (∀ h < N.2.2.2.2.2, ∀ j < 2, F 31 (1 + h * 2 + j) = g (192 + 2 * h + j)) ∧
  (∀ j < 3, F 13 (1 + j) = g (10 + j)) ∧ F 17 1 = g 0 ∧ F 17 2 = g 7 ∧ F 17 3 = g 8 ∧ ∀ j < 8, F 20 (1 + j) = g (200 + j)
/-- the levels of the headings: v h = 1 for a top one, the parent's + 1 else -/
def z_lev (n : Nat) (g : Nat → Int32) (v : Nat → Nat) : Prop := ∀ h < n, 1 ≤ v h ∧ v h ≤ 4 ∧ ((g (20 + 3 * h) = -1 ∧ v h = 1) ∨ ∃ p < h, g (20 + 3 * h) = nN p ∧ v h = v p + 1)
def z_wf (N : z_Ns) (g : Nat → Int32) : Prop :=
  (∃ v, z_lev N.1 g v) ∧ (∀ h < N.1, z_in (g (20 + 3 * h + 1)) 1 9 ∧ z_in (g (20 + 3 * h + 2)) (-1) 1000) ∧
  (∀ h < N.2.1, z_in (g (80 + 4 * h)) 0 (N.1 - 1) ∧ z_in (g (80 + 4 * h + 1)) 0 7 ∧ z_in (g (80 + 4 * h + 2)) 0 1000 ∧ z_in (g (80 + 4 * h + 3)) 0 2) ∧
  (∀ h < N.2.2.1, z_in (g (120 + 3 * h)) 0 (N.1 - 1) ∧ z_in (g (120 + 3 * h + 1)) 0 999 ∧ z_in (g (120 + 3 * h + 2)) 0 999) ∧
  (∀ h < N.2.2.2.1, z_in (g (138 + 9 * h)) 0 (N.1 - 1) ∧ z_in (g (138 + 9 * h + 1)) (-1) 7 ∧ z_in (g (138 + 9 * h + 2)) 1 9999 ∧ z_in (g (138 + 9 * h + 3)) 0 1000 ∧ z_in (g (138 + 9 * h + 4)) 0 999 ∧ z_in (g (138 + 9 * h + 5)) 0 999 ∧ z_in (g (138 + 9 * h + 6)) 0 9999 ∧ z_in (g (138 + 9 * h + 7)) 0 9999) ∧
  (∀ h < N.2.2.2.2.1, z_in (g (208 + 16 * h)) 0 (N.1 - 1) ∧ z_in (g (208 + 16 * h + 1)) 1 999 ∧ z_in (g (208 + 16 * h + 2)) 1 39996 ∧ z_in (g (208 + 16 * h + 3)) 0 7 ∧ z_in (g (208 + 16 * h + 4)) 0 2 ∧ z_in (g (208 + 16 * h + 5)) (-1) (N.2.2.2.1 - 1) ∧ z_in (g (208 + 16 * h + 6)) 0 999 ∧ z_in (g (208 + 16 * h + 7)) 0 2 ∧ z_in (g (208 + 16 * h + 8)) 0 999) ∧
  (∀ h < N.2.2.2.2.2, z_in (g (192 + 2 * h)) 0 7 ∧ z_in (g (192 + 2 * h + 1)) 1 9999) ∧ z_in (g 10) 30 100 ∧ z_in (g 11) 0 99 ∧ z_in (g 12) 0 99999 ∧ z_in (g 0) 0 999
def z_rel (F : Nat → Nat → Int32) (g : Nat → Int32) : Prop := ∃ N : z_Ns, z_cnt N F g ∧ z_eqs N F g ∧ z_wf N g
/-- how many places the table's cells have -/
def z_len (k : Nat) : Nat := match k with
  | 4 => 61 | 7 => 41 | 10 => 19 | 13 => 4 | 17 => 4 | 20 => 9 | 23 => 55 | 26 => 451 | 31 => 9 | _ => 0
/-- the tables as they stand in a slot -/
def z_slot (u : mg_Rg) (s : Nat) : Nat → Nat → Int32 := fun k i => u (k + 1) (s * z_len k + i)
def z_ring (u : mg_Rg) : Prop := ∃ s m : Nat, s < 8 ∧ m ≤ 8 ∧ u 0 6 = nN s ∧ u 0 7 = nN m ∧ u 42 3 = nN m ∧ ∀ j < m, z_rel (z_slot u ((s + 8 - m + j) % 8)) (fun i => u 44 (690 * j + i))
def z_kept (u : mg_Rg) : Prop := (u 0 8 = 0 ∧ u 42 5 = 0) ∨ (u 0 8 = 1 ∧ u 42 5 = 1 ∧ z_rel (z_slot u 8) (u 45))
def z_text (u : mg_Rg) : Prop := ∃ n : Nat, n ≤ 60 ∧ u 37 2 = nN n ∧ u 42 10 = nN n ∧ (∀ i < n, u 38 i = u 47 i ∧ z_in (u 38 i) 33 126) ∧ u 37 4 = u 42 11
def z_I (u : mg_Rg) : Prop := z_rel u (u 43) ∧ z_ring u ∧ z_kept u ∧ z_text u ∧ u 0 9 = u 42 8 ∧ u 42 7 = 0
theorem z_I_u0 : z_I u0 := by
  refine ⟨⟨(0, 0, 0, 0, 0, 0), ?_, ?_, ?_⟩, ⟨0, 0, by omega, by omega, rfl, rfl, rfl, fun j h => by omega⟩, Or.inl ⟨rfl, rfl⟩, ⟨0, by omega, rfl, rfl, fun i h => by omega, rfl⟩, rfl, rfl⟩
  · exact ⟨⟨Nat.zero_le _, rfl, rfl⟩, ⟨Nat.zero_le _, rfl, rfl⟩, ⟨Nat.zero_le _, rfl, rfl⟩, ⟨Nat.zero_le _, rfl, rfl⟩, ⟨Nat.zero_le _, rfl, rfl⟩, ⟨Nat.zero_le _, rfl, rfl⟩⟩
  · refine ⟨fun h hh => absurd hh (Nat.not_lt_zero h), fun h hh => absurd hh (Nat.not_lt_zero h), fun h hh => absurd hh (Nat.not_lt_zero h), fun h hh => absurd hh (Nat.not_lt_zero h), fun h hh => absurd hh (Nat.not_lt_zero h), fun h hh => absurd hh (Nat.not_lt_zero h), ?_, rfl, rfl, rfl, ?_⟩
    · intro j hj
      match j, hj with
      | 0, _ => rfl
      | 1, _ => rfl
      | 2, _ => rfl
    · intro j hj
      match j, hj with
      | 0, _ => rfl
      | 1, _ => rfl
      | 2, _ => rfl
      | 3, _ => rfl
      | 4, _ => rfl
      | 5, _ => rfl
      | 6, _ => rfl
      | 7, _ => rfl
  · refine ⟨⟨fun _ => 1, fun h hh => absurd hh (Nat.not_lt_zero h)⟩, fun h hh => absurd hh (Nat.not_lt_zero h), fun h hh => absurd hh (Nat.not_lt_zero h), fun h hh => absurd hh (Nat.not_lt_zero h), fun h hh => absurd hh (Nat.not_lt_zero h), fun h hh => absurd hh (Nat.not_lt_zero h), fun h hh => absurd hh (Nat.not_lt_zero h), ?_⟩
    unfold z_in
    decide
/-- what the invariant reads -/
theorem z_rel_congr {F F' : Nat → Nat → Int32} {g : Nat → Int32} (h : ∀ k ∈ [4, 7, 10, 13, 17, 20, 23, 26, 31], F' k = F k) (hr : z_rel F g) : z_rel F' g := by
  have h4 := h 4 (by decide)
  have h7 := h 7 (by decide)
  have h10 := h 10 (by decide)
  have h13 := h 13 (by decide)
  have h17 := h 17 (by decide)
  have h20 := h 20 (by decide)
  have h23 := h 23 (by decide)
  have h26 := h 26 (by decide)
  have h31 := h 31 (by decide)
  obtain ⟨N, h1, h2, h3⟩ := hr
  refine ⟨N, ?_, ?_, h3⟩
  · unfold z_cnt at h1 ⊢
    rw [h4, h7, h10, h23, h26, h31]
    exact h1
  · unfold z_eqs at h2 ⊢
    rw [h4, h7, h10, h23, h26, h31, h13, h17, h20]
    exact h2
theorem z_slot_congr {u u' : mg_Rg} (h : ∀ k < 42, u' k = u k) (s : Nat) : ∀ k ∈ [4, 7, 10, 13, 17, 20, 23, 26, 31], z_slot u' s k = z_slot u s k := by
  intro k hk
  have hk2 : k + 1 < 42 := by
    simp only [List.mem_cons, List.not_mem_nil, or_false] at hk
    omega
  unfold z_slot
  rw [h (k + 1) hk2]
theorem z_I_congr {u u' : mg_Rg} (h : ∀ k < 42, u' k = u k) (hg : u' 43 = u 43) (hh : u' 44 = u 44) (hk : u' 45 = u 45) (ht : u' 47 = u 47) (hf : ∀ i ∈ [3, 5, 7, 8, 10, 11], u' 42 i = u 42 i) (hI : z_I u) : z_I u' := by
  obtain ⟨h1, ⟨s, m, a1, a2, a3, a4, a5, a6⟩, h3, ⟨n, b1, b2, b3, b4, b5⟩, h5, h6⟩ := hI
  have f3 := hf 3 (by decide)
  have f5 := hf 5 (by decide)
  have f7 := hf 7 (by decide)
  have f8 := hf 8 (by decide)
  have f10 := hf 10 (by decide)
  have f11 := hf 11 (by decide)
  have e0 := h 0 (by decide)
  have e37 := h 37 (by decide)
  have e38 := h 38 (by decide)
  refine ⟨?_, ⟨s, m, a1, a2, by rw [e0]; exact a3, by rw [e0]; exact a4, by rw [f3]; exact a5, fun j hj => ?_⟩, ?_, ⟨n, b1, by rw [e37]; exact b2, by rw [f10]; exact b3, fun i hi => by rw [e38, ht]; exact b4 i hi, by rw [e37, f11]; exact b5⟩, by rw [e0, f8]; exact h5, by rw [f7]; exact h6⟩
  · rw [hg]
    refine z_rel_congr (fun k hk => h k ?_) h1
    simp only [List.mem_cons, List.not_mem_nil, or_false] at hk
    omega
  · rw [hh]
    exact z_rel_congr (z_slot_congr h _) (a6 j hj)
  · rcases h3 with ⟨c1, c2⟩ | ⟨c1, c2, c3⟩
    · exact Or.inl ⟨by rw [e0]; exact c1, by rw [f5]; exact c2⟩
    · exact Or.inr ⟨by rw [e0]; exact c1, by rw [f5]; exact c2, by rw [hk]; exact z_rel_congr (z_slot_congr h _) c3⟩
theorem z_up_ne {u : mg_Rg} {k i : Nat} {v : Int32} {j : Nat} (h : j ≠ k) : mg_up u k i v j = u j := if_neg h
theorem z_up_at {u : mg_Rg} {k i : Nat} {v : Int32} : mg_up u k i v k = upd (u k) i v := if_pos rfl
theorem z_upd_ne {f : Nat → Int32} {i : Nat} {v : Int32} {j : Nat} (h : j ≠ i) : upd f i v j = f j := by
  unfold upd
  exact if_neg h
theorem z_I_thrown {u : mg_Rg} (v : Int32) (hI : z_I u) : z_I (mg_up u 42 0 v) := by
  refine z_I_congr (fun k hk => z_up_ne (by omega)) (z_up_ne (by decide)) (z_up_ne (by decide)) (z_up_ne (by decide)) (z_up_ne (by decide)) (fun i hi => ?_) hI
  rw [z_up_at]
  refine z_upd_ne ?_
  rintro rfl
  revert hi
  decide
theorem z_done (x : Int32) (u : mg_Rg) : M_done x u = some (x, mg_up u 42 0 0) := rfl
theorem z_fails (x : Int32) (u : mg_Rg) : M_fails x u = some (0, mg_up u 42 0 x) := rfl
theorem z_thrown (u : mg_Rg) (v : Int32) : M_thrown (mg_up u 42 0 v) = some v := rfl
/-- two easy ones: changes, refusal -/
theorem ob_33 : Ob_33 z_I := by
  intro u hu
  have hI := z_I_thrown 0 hu
  obtain ⟨-, ⟨s, m, -, -, h6, h7, h3, -⟩, -⟩ := hu
  refine ⟨u 0 7, mg_up u 42 0 0, rfl, ?_, hI⟩
  unfold M_changes
  rw [h7, h3]
  rfl
theorem ob_23 : Ob_23 z_I := by
  intro u hu
  have h5 := hu.2.2.2.2.1
  by_cases h : u 0 9 = 0
  · exact ⟨.inr 3, u, 0, mg_up u 42 0 1, 1, by unfold C_refusal; rw [if_pos h], by unfold M_refusal; rw [if_pos (h5 ▸ h)]; rfl, rfl, Or.inr ⟨rfl, rfl⟩, z_I_thrown 1 hu⟩
  · exact ⟨.inl (u 0 9), u, u 42 8, mg_up u 42 0 0, 0, by unfold C_refusal; rw [if_neg h], by unfold M_refusal; rw [if_neg (h5 ▸ h)]; rfl, rfl, Or.inl ⟨_, rfl, h5.symm, rfl⟩, z_I_thrown 0 hu⟩
