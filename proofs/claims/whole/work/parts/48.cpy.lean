/-! THE REFERENCE'S COPIES -/
theorem z_idx {a k n : Nat} (h : a + k < n) (hn : n ≤ 100000) : ¬ ((nN a + nN k) < 0 ∨ n ≤ (nN a + nN k).toNatClampNeg) ∧ (nN a + nN k).toNatClampNeg = a + k := by
  have e : nN a + nN k = nN (a + k) := (Int32.ofNat_add a k).symm
  rw [e, z_nat (by omega)]
  exact ⟨fun q => q.elim (z_nn (by omega)) (by omega), rfl⟩
theorem zc_43_44 {a b : Nat} (ha : a + 690 ≤ 690) (hb : b + 690 ≤ 5520) : ∀ (n k : Nat) (u : mg_Rg), k ≤ 690 → 690 < n + k → ∃ u', M_copy_43_44_L3 n (nN a) (nN b) (nN k) u = some u' ∧ (∀ j, j ≠ 44 → u' j = u j) ∧ ∀ j, u' 44 j = if b + k ≤ j ∧ j < b + 690 then u 43 (a + (j - b)) else u 44 j := by
  intro n
  induction n with
  | zero => intro k u h1 h2; omega
  | succ n ih =>
    intro k u h1 h2
    unfold M_copy_43_44_L3
    by_cases hk : k = 690
    · subst hk
      refine ⟨u, if_pos (by decide), fun _ _ => rfl, fun j => ?_⟩
      rw [if_neg (by omega)]
    · have c1 : ¬ (690 : Int32) ≤ nN k := fun q => absurd ((z_le (a := 690) (by omega) (by omega)).mp q) (by omega)
      obtain ⟨c2, e2⟩ := z_idx (a := a) (k := k) (n := 690) (by omega) (by omega)
      obtain ⟨c3, e3⟩ := z_idx (a := b) (k := k) (n := 5520) (by omega) (by omega)
      rw [if_neg c1, if_neg c2, if_neg c3, e2, e3]
      obtain ⟨u', h3, h4, h5⟩ := ih (k + 1) (mg_up u 44 (b + k) (u 43 (a + k))) (by omega) (by omega)
      have e4 : nN k + 1 = nN (k + 1) := (Int32.ofNat_add k 1).symm
      rw [e4]
      refine ⟨u', h3, fun j hj => (h4 j hj).trans (z_up_ne hj), fun j => ?_⟩
      rw [h5 j, z_up_at, z_up_ne (by decide)]
      by_cases hj : j = b + k
      · subst hj
        rw [if_neg (by omega), if_pos (by omega), z_upd_at]
        congr 1
        omega
      · rw [z_upd_ne hj]
        by_cases hj2 : b + (k + 1) ≤ j ∧ j < b + 690
        · rw [if_pos hj2, if_pos (by omega)]
        · rw [if_neg hj2, if_neg (by omega)]
theorem zc_43_45 {a b : Nat} (ha : a + 690 ≤ 690) (hb : b + 690 ≤ 690) : ∀ (n k : Nat) (u : mg_Rg), k ≤ 690 → 690 < n + k → ∃ u', M_copy_43_45_L3 n (nN a) (nN b) (nN k) u = some u' ∧ (∀ j, j ≠ 45 → u' j = u j) ∧ ∀ j, u' 45 j = if b + k ≤ j ∧ j < b + 690 then u 43 (a + (j - b)) else u 45 j := by
  intro n
  induction n with
  | zero => intro k u h1 h2; omega
  | succ n ih =>
    intro k u h1 h2
    unfold M_copy_43_45_L3
    by_cases hk : k = 690
    · subst hk
      refine ⟨u, if_pos (by decide), fun _ _ => rfl, fun j => ?_⟩
      rw [if_neg (by omega)]
    · have c1 : ¬ (690 : Int32) ≤ nN k := fun q => absurd ((z_le (a := 690) (by omega) (by omega)).mp q) (by omega)
      obtain ⟨c2, e2⟩ := z_idx (a := a) (k := k) (n := 690) (by omega) (by omega)
      obtain ⟨c3, e3⟩ := z_idx (a := b) (k := k) (n := 690) (by omega) (by omega)
      rw [if_neg c1, if_neg c2, if_neg c3, e2, e3]
      obtain ⟨u', h3, h4, h5⟩ := ih (k + 1) (mg_up u 45 (b + k) (u 43 (a + k))) (by omega) (by omega)
      have e4 : nN k + 1 = nN (k + 1) := (Int32.ofNat_add k 1).symm
      rw [e4]
      refine ⟨u', h3, fun j hj => (h4 j hj).trans (z_up_ne hj), fun j => ?_⟩
      rw [h5 j, z_up_at, z_up_ne (by decide)]
      by_cases hj : j = b + k
      · subst hj
        rw [if_neg (by omega), if_pos (by omega), z_upd_at]
        congr 1
        omega
      · rw [z_upd_ne hj]
        by_cases hj2 : b + (k + 1) ≤ j ∧ j < b + 690
        · rw [if_pos hj2, if_pos (by omega)]
        · rw [if_neg hj2, if_neg (by omega)]
theorem zc_43_46 {a b : Nat} (ha : a + 690 ≤ 690) (hb : b + 690 ≤ 690) : ∀ (n k : Nat) (u : mg_Rg), k ≤ 690 → 690 < n + k → ∃ u', M_copy_43_46_L3 n (nN a) (nN b) (nN k) u = some u' ∧ (∀ j, j ≠ 46 → u' j = u j) ∧ ∀ j, u' 46 j = if b + k ≤ j ∧ j < b + 690 then u 43 (a + (j - b)) else u 46 j := by
  intro n
  induction n with
  | zero => intro k u h1 h2; omega
  | succ n ih =>
    intro k u h1 h2
    unfold M_copy_43_46_L3
    by_cases hk : k = 690
    · subst hk
      refine ⟨u, if_pos (by decide), fun _ _ => rfl, fun j => ?_⟩
      rw [if_neg (by omega)]
    · have c1 : ¬ (690 : Int32) ≤ nN k := fun q => absurd ((z_le (a := 690) (by omega) (by omega)).mp q) (by omega)
      obtain ⟨c2, e2⟩ := z_idx (a := a) (k := k) (n := 690) (by omega) (by omega)
      obtain ⟨c3, e3⟩ := z_idx (a := b) (k := k) (n := 690) (by omega) (by omega)
      rw [if_neg c1, if_neg c2, if_neg c3, e2, e3]
      obtain ⟨u', h3, h4, h5⟩ := ih (k + 1) (mg_up u 46 (b + k) (u 43 (a + k))) (by omega) (by omega)
      have e4 : nN k + 1 = nN (k + 1) := (Int32.ofNat_add k 1).symm
      rw [e4]
      refine ⟨u', h3, fun j hj => (h4 j hj).trans (z_up_ne hj), fun j => ?_⟩
      rw [h5 j, z_up_at, z_up_ne (by decide)]
      by_cases hj : j = b + k
      · subst hj
        rw [if_neg (by omega), if_pos (by omega), z_upd_at]
        congr 1
        omega
      · rw [z_upd_ne hj]
        by_cases hj2 : b + (k + 1) ≤ j ∧ j < b + 690
        · rw [if_pos hj2, if_pos (by omega)]
        · rw [if_neg hj2, if_neg (by omega)]
theorem zc_44_43 {a b : Nat} (ha : a + 690 ≤ 5520) (hb : b + 690 ≤ 690) : ∀ (n k : Nat) (u : mg_Rg), k ≤ 690 → 690 < n + k → ∃ u', M_copy_44_43_L3 n (nN a) (nN b) (nN k) u = some u' ∧ (∀ j, j ≠ 43 → u' j = u j) ∧ ∀ j, u' 43 j = if b + k ≤ j ∧ j < b + 690 then u 44 (a + (j - b)) else u 43 j := by
  intro n
  induction n with
  | zero => intro k u h1 h2; omega
  | succ n ih =>
    intro k u h1 h2
    unfold M_copy_44_43_L3
    by_cases hk : k = 690
    · subst hk
      refine ⟨u, if_pos (by decide), fun _ _ => rfl, fun j => ?_⟩
      rw [if_neg (by omega)]
    · have c1 : ¬ (690 : Int32) ≤ nN k := fun q => absurd ((z_le (a := 690) (by omega) (by omega)).mp q) (by omega)
      obtain ⟨c2, e2⟩ := z_idx (a := a) (k := k) (n := 5520) (by omega) (by omega)
      obtain ⟨c3, e3⟩ := z_idx (a := b) (k := k) (n := 690) (by omega) (by omega)
      rw [if_neg c1, if_neg c2, if_neg c3, e2, e3]
      obtain ⟨u', h3, h4, h5⟩ := ih (k + 1) (mg_up u 43 (b + k) (u 44 (a + k))) (by omega) (by omega)
      have e4 : nN k + 1 = nN (k + 1) := (Int32.ofNat_add k 1).symm
      rw [e4]
      refine ⟨u', h3, fun j hj => (h4 j hj).trans (z_up_ne hj), fun j => ?_⟩
      rw [h5 j, z_up_at, z_up_ne (by decide)]
      by_cases hj : j = b + k
      · subst hj
        rw [if_neg (by omega), if_pos (by omega), z_upd_at]
        congr 1
        omega
      · rw [z_upd_ne hj]
        by_cases hj2 : b + (k + 1) ≤ j ∧ j < b + 690
        · rw [if_pos hj2, if_pos (by omega)]
        · rw [if_neg hj2, if_neg (by omega)]
theorem zc_45_43 {a b : Nat} (ha : a + 690 ≤ 690) (hb : b + 690 ≤ 690) : ∀ (n k : Nat) (u : mg_Rg), k ≤ 690 → 690 < n + k → ∃ u', M_copy_45_43_L3 n (nN a) (nN b) (nN k) u = some u' ∧ (∀ j, j ≠ 43 → u' j = u j) ∧ ∀ j, u' 43 j = if b + k ≤ j ∧ j < b + 690 then u 45 (a + (j - b)) else u 43 j := by
  intro n
  induction n with
  | zero => intro k u h1 h2; omega
  | succ n ih =>
    intro k u h1 h2
    unfold M_copy_45_43_L3
    by_cases hk : k = 690
    · subst hk
      refine ⟨u, if_pos (by decide), fun _ _ => rfl, fun j => ?_⟩
      rw [if_neg (by omega)]
    · have c1 : ¬ (690 : Int32) ≤ nN k := fun q => absurd ((z_le (a := 690) (by omega) (by omega)).mp q) (by omega)
      obtain ⟨c2, e2⟩ := z_idx (a := a) (k := k) (n := 690) (by omega) (by omega)
      obtain ⟨c3, e3⟩ := z_idx (a := b) (k := k) (n := 690) (by omega) (by omega)
      rw [if_neg c1, if_neg c2, if_neg c3, e2, e3]
      obtain ⟨u', h3, h4, h5⟩ := ih (k + 1) (mg_up u 43 (b + k) (u 45 (a + k))) (by omega) (by omega)
      have e4 : nN k + 1 = nN (k + 1) := (Int32.ofNat_add k 1).symm
      rw [e4]
      refine ⟨u', h3, fun j hj => (h4 j hj).trans (z_up_ne hj), fun j => ?_⟩
      rw [h5 j, z_up_at, z_up_ne (by decide)]
      by_cases hj : j = b + k
      · subst hj
        rw [if_neg (by omega), if_pos (by omega), z_upd_at]
        congr 1
        omega
      · rw [z_upd_ne hj]
        by_cases hj2 : b + (k + 1) ≤ j ∧ j < b + 690
        · rw [if_pos hj2, if_pos (by omega)]
        · rw [if_neg hj2, if_neg (by omega)]
theorem zc_46_43 {a b : Nat} (ha : a + 690 ≤ 690) (hb : b + 690 ≤ 690) : ∀ (n k : Nat) (u : mg_Rg), k ≤ 690 → 690 < n + k → ∃ u', M_copy_46_43_L3 n (nN a) (nN b) (nN k) u = some u' ∧ (∀ j, j ≠ 43 → u' j = u j) ∧ ∀ j, u' 43 j = if b + k ≤ j ∧ j < b + 690 then u 46 (a + (j - b)) else u 43 j := by
  intro n
  induction n with
  | zero => intro k u h1 h2; omega
  | succ n ih =>
    intro k u h1 h2
    unfold M_copy_46_43_L3
    by_cases hk : k = 690
    · subst hk
      refine ⟨u, if_pos (by decide), fun _ _ => rfl, fun j => ?_⟩
      rw [if_neg (by omega)]
    · have c1 : ¬ (690 : Int32) ≤ nN k := fun q => absurd ((z_le (a := 690) (by omega) (by omega)).mp q) (by omega)
      obtain ⟨c2, e2⟩ := z_idx (a := a) (k := k) (n := 690) (by omega) (by omega)
      obtain ⟨c3, e3⟩ := z_idx (a := b) (k := k) (n := 690) (by omega) (by omega)
      rw [if_neg c1, if_neg c2, if_neg c3, e2, e3]
      obtain ⟨u', h3, h4, h5⟩ := ih (k + 1) (mg_up u 43 (b + k) (u 46 (a + k))) (by omega) (by omega)
      have e4 : nN k + 1 = nN (k + 1) := (Int32.ofNat_add k 1).symm
      rw [e4]
      refine ⟨u', h3, fun j hj => (h4 j hj).trans (z_up_ne hj), fun j => ?_⟩
      rw [h5 j, z_up_at, z_up_ne (by decide)]
      by_cases hj : j = b + k
      · subst hj
        rw [if_neg (by omega), if_pos (by omega), z_upd_at]
        congr 1
        omega
      · rw [z_upd_ne hj]
        by_cases hj2 : b + (k + 1) ≤ j ∧ j < b + 690
        · rw [if_pos hj2, if_pos (by omega)]
        · rw [if_neg hj2, if_neg (by omega)]
theorem zc_46_44 {a b : Nat} (ha : a + 690 ≤ 690) (hb : b + 690 ≤ 5520) : ∀ (n k : Nat) (u : mg_Rg), k ≤ 690 → 690 < n + k → ∃ u', M_copy_46_44_L3 n (nN a) (nN b) (nN k) u = some u' ∧ (∀ j, j ≠ 44 → u' j = u j) ∧ ∀ j, u' 44 j = if b + k ≤ j ∧ j < b + 690 then u 46 (a + (j - b)) else u 44 j := by
  intro n
  induction n with
  | zero => intro k u h1 h2; omega
  | succ n ih =>
    intro k u h1 h2
    unfold M_copy_46_44_L3
    by_cases hk : k = 690
    · subst hk
      refine ⟨u, if_pos (by decide), fun _ _ => rfl, fun j => ?_⟩
      rw [if_neg (by omega)]
    · have c1 : ¬ (690 : Int32) ≤ nN k := fun q => absurd ((z_le (a := 690) (by omega) (by omega)).mp q) (by omega)
      obtain ⟨c2, e2⟩ := z_idx (a := a) (k := k) (n := 690) (by omega) (by omega)
      obtain ⟨c3, e3⟩ := z_idx (a := b) (k := k) (n := 5520) (by omega) (by omega)
      rw [if_neg c1, if_neg c2, if_neg c3, e2, e3]
      obtain ⟨u', h3, h4, h5⟩ := ih (k + 1) (mg_up u 44 (b + k) (u 46 (a + k))) (by omega) (by omega)
      have e4 : nN k + 1 = nN (k + 1) := (Int32.ofNat_add k 1).symm
      rw [e4]
      refine ⟨u', h3, fun j hj => (h4 j hj).trans (z_up_ne hj), fun j => ?_⟩
      rw [h5 j, z_up_at, z_up_ne (by decide)]
      by_cases hj : j = b + k
      · subst hj
        rw [if_neg (by omega), if_pos (by omega), z_upd_at]
        congr 1
        omega
      · rw [z_upd_ne hj]
        by_cases hj2 : b + (k + 1) ≤ j ∧ j < b + 690
        · rw [if_pos hj2, if_pos (by omega)]
        · rw [if_neg hj2, if_neg (by omega)]
