/-! PARTS, ORIGIN, ENTERING A DECLARATION -/
def s_pval (g : z_Ro) : Int32 := s_fold (fun k a => a + g (192 + 2 * k + 1)) (g 6).toNatClampNeg 0 0
def s_amt (g : z_Ro) (c : Int32) : Int32 := s_fold (fun k a => if g (192 + 2 * k) = c then a + g (192 + 2 * k + 1) else a) (g 6).toNatClampNeg 0 0
def s_ostep (g : z_Ro) (c : Nat) (a : Int32 × Int32) : Int32 × Int32 := if a.2 < s_amt g (nN c) ∧ ¬ s_amt g (nN c) * 100 < g 10 * s_pval g then (nN c, s_amt g (nN c)) else a
def s_last (g : z_Ro) : Int32 := g (192 + 2 * ((g 6).toNatClampNeg - 1))
def s_pori (g : z_Ro) : Int32 := (s_fold (s_ostep g) 8 0 (s_last g, 0)).1
theorem s_pval_cg {g g' : z_Ro} {n : Nat} (hn : n ≤ 4) (h6 : g 6 = nN n) (h : ∀ i, i = 6 ∨ i = 10 ∨ (192 ≤ i ∧ i < 200) → g' i = g i) : s_pval g' = s_pval g := by
  unfold s_pval
  rw [h 6 (by omega), h6, z_nat (by omega)]
  refine s_fold_cg _ _ _ (fun i h1 h2 b => ?_)
  rw [h _ (by omega)]
theorem s_amt_cg {g g' : z_Ro} {n : Nat} (hn : n ≤ 4) (h6 : g 6 = nN n) (h : ∀ i, i = 6 ∨ i = 10 ∨ (192 ≤ i ∧ i < 200) → g' i = g i) (c : Int32) : s_amt g' c = s_amt g c := by
  unfold s_amt
  rw [h 6 (by omega), h6, z_nat (by omega)]
  refine s_fold_cg _ _ _ (fun i h1 h2 b => ?_)
  rw [h (192 + 2 * i) (by omega), h (192 + 2 * i + 1) (by omega)]
theorem s_pori_cg {g g' : z_Ro} {n : Nat} (hn : n ≤ 4) (h6 : g 6 = nN n) (h : ∀ i, i = 6 ∨ i = 10 ∨ (192 ≤ i ∧ i < 200) → g' i = g i) : s_pori g' = s_pori g := by
  unfold s_pori s_last
  rw [h 6 (by omega), h6, z_nat (by omega), h _ (by omega)]
  refine congrArg Prod.fst (s_fold_cg _ _ _ (fun i h1 h2 b => ?_))
  unfold s_ostep
  rw [s_amt_cg hn h6 h, s_pval_cg hn h6 h, h 10 (by omega)]
theorem s_ori2 (g : z_Ro) (x y : Int32) : ∀ r k m, k + r ≤ 8 → (s_fold (s_ostep g) r k (x, m)).2 = (s_fold (s_ostep g) r k (y, m)).2 ∧ (((s_fold (s_ostep g) r k (x, m)).1 = x ∧ (s_fold (s_ostep g) r k (y, m)).1 = y) ∨ ∃ c < 8, (s_fold (s_ostep g) r k (x, m)).1 = nN c ∧ (s_fold (s_ostep g) r k (y, m)).1 = nN c) := by
  have same : ∀ r k m z, (∃ c < 8, z = nN c) → k + r ≤ 8 → ∃ c < 8, (s_fold (s_ostep g) r k (z, m)).1 = nN c := by
    intro r
    induction r with
    | zero => exact fun k m z hz _ => hz
    | succ r ih =>
      intro k m z hz hk
      unfold s_fold
      by_cases h : m < s_amt g (nN k) ∧ ¬ s_amt g (nN k) * 100 < g 10 * s_pval g
      · rw [show s_ostep g k (z, m) = (nN k, s_amt g (nN k)) from if_pos h]
        exact ih (k + 1) _ _ ⟨k, by omega, rfl⟩ (by omega)
      · rw [show s_ostep g k (z, m) = (z, m) from if_neg h]
        exact ih (k + 1) _ _ hz (by omega)
  intro r
  induction r with
  | zero => exact fun k m _ => ⟨rfl, Or.inl ⟨rfl, rfl⟩⟩
  | succ r ih =>
    intro k m hk
    unfold s_fold
    by_cases h : m < s_amt g (nN k) ∧ ¬ s_amt g (nN k) * 100 < g 10 * s_pval g
    · rw [show s_ostep g k (x, m) = (nN k, s_amt g (nN k)) from if_pos h, show s_ostep g k (y, m) = (nN k, s_amt g (nN k)) from if_pos h]
      obtain ⟨c, c1, c2⟩ := same r (k + 1) (s_amt g (nN k)) (nN k) ⟨k, by omega, rfl⟩ (by omega)
      exact ⟨rfl, Or.inr ⟨c, c1, c2, c2⟩⟩
    · rw [show s_ostep g k (x, m) = (x, m) from if_neg h, show s_ostep g k (y, m) = (y, m) from if_neg h]
      exact ih (k + 1) m (by omega)
theorem s_last_at {n : Nat} {f g : z_Ro} (HA : tA n f g) (hn : 0 < n) : ∃ c < 8, s_last g = nN c := by
  have h4 := HA.1
  unfold s_last
  rw [HA.2.2.1, z_nat (by omega)]
  exact HA.2.2.2.2 (n - 1) (by omega)
theorem s_pori_at {n : Nat} {f g : z_Ro} (HA : tA n f g) (hn : 0 < n) : ∃ c < 8, s_pori g = nN c := by
  obtain ⟨c, c1, c2⟩ := s_last_at HA hn
  unfold s_pori
  rcases (s_ori2 g (s_last g) (s_last g) 8 0 0 (by omega)).2 with ⟨h, -⟩ | ⟨c', h1, h2, -⟩
  · exact ⟨c, c1, h.trans c2⟩
  · exact ⟨c', h1, h2⟩
theorem m_pval {n : Nat} {u : mg_Rg} (hn : n ≤ 4) (h6 : u 43 6 = nN n) : M_partsValue u = some (s_pval (u 43)) := by
  have hl : ∀ r m k a, k + r = n → r < m → M_partsValue_L4 m a (nN k) u = some (s_fold (fun k a => a + u 43 (192 + 2 * k + 1)) r k a) := by
    intro r
    induction r with
    | zero =>
      intro m k a hk hm
      cases m with
      | zero => omega
      | succ m =>
        unfold M_partsValue_L4
        rw [h6, if_pos ((z_le (by omega) (by omega)).mpr (by omega))]
        rfl
    | succ r ih =>
      intro m k a hk hm
      cases m with
      | zero => omega
      | succ m =>
        unfold M_partsValue_L4 s_fold
        rw [h6, if_neg (z_nle (by omega) (by omega) (by omega)), zb_192, zo_1, zg (by omega), z_nat (by omega), zo_1]
        exact ih m (k + 1) _ (by omega) (by omega)
  unfold M_partsValue s_pval
  rw [h6, z_nat (by omega), show M_partsValue_L4 mg_F 0 0 u = _ from hl n mg_F 0 0 (by omega) (by show n < 6000; omega)]
  rfl
theorem m_pori {n : Nat} {f : z_Ro} {u : mg_Rg} (HA : tA n f (u 43)) (hn : 0 < n) : M_partsOrigin u = some (s_pori (u 43)) := by
  have h4 := HA.1
  have h6 := HA.2.2.1
  have ha : ∀ x1 x2 c r m k a, k + r = n → r < m → M_partsOrigin_L18 m x1 x2 c a (nN k) u = some (s_fold (fun k a => if u 43 (192 + 2 * k) = c then a + u 43 (192 + 2 * k + 1) else a) r k a) := by
    intro x1 x2 c r
    induction r with
    | zero =>
      intro m k a hk hm
      cases m with
      | zero => omega
      | succ m =>
        unfold M_partsOrigin_L18
        rw [h6, if_pos ((z_le (by omega) (by omega)).mpr (by omega))]
        rfl
    | succ r ih =>
      intro m k a hk hm
      cases m with
      | zero => omega
      | succ m =>
        unfold M_partsOrigin_L18 s_fold
        rw [h6, if_neg (z_nle (by omega) (by omega) (by omega)), zb_192, zo_1, zg (by omega), zg (by omega), z_nat (by omega), z_nat (by omega), zo_1, Int32.add_zero, ih m (k + 1) _ (by omega) (by omega), ih m (k + 1) _ (by omega) (by omega)]
        by_cases h : u 43 (192 + 2 * k) = c
        · rw [if_pos h, if_pos h]
        · rw [if_neg h, if_neg h]
  have hl : ∀ r m k b l, k + r = 8 → r < m → M_partsOrigin_L6 m b l (nN k) u = some (s_fold (s_ostep (u 43)) r k (b, l)).1 := by
    intro r
    induction r with
    | zero =>
      intro m k b l hk hm
      cases m with
      | zero => omega
      | succ m =>
        have e : k = 8 := by omega
        subst e
        unfold M_partsOrigin_L6
        exact if_pos (by decide)
    | succ r ih =>
      intro m k b l hk hm
      cases m with
      | zero => omega
      | succ m =>
        have e8 : ¬ (8 : Int32) ≤ nN k := z_nle (a := 8) (by omega) (by omega) (by omega)
        have ea : M_partsOrigin_L18 mg_F b l (nN k) 0 0 u = some (s_amt (u 43) (nN k)) := by
          unfold s_amt
          rw [h6, z_nat (by omega)]
          exact ha b l (nN k) n mg_F 0 0 (by omega) (by show n < 6000; omega)
        unfold M_partsOrigin_L6 s_fold
        rw [if_neg e8, ea, m_pval h4 h6]
        simp only [Option.bind_some, zo_1]
        rw [ih m (k + 1) b l (by omega) (by omega), ih m (k + 1) (nN k) _ (by omega) (by omega)]
        by_cases h1 : l < s_amt (u 43) (nN k)
        · rw [if_neg (Int32.not_le.mpr h1)]
          by_cases h2 : s_amt (u 43) (nN k) * 100 < u 43 10 * s_pval (u 43)
          · rw [if_pos h2, show s_ostep (u 43) k (b, l) = (b, l) from if_neg (fun q => q.2 h2)]
          · rw [if_neg h2, show s_ostep (u 43) k (b, l) = (nN k, s_amt (u 43) (nN k)) from if_pos ⟨h1, h2⟩]
        · rw [if_pos (Int32.not_lt.mp h1), show s_ostep (u 43) k (b, l) = (b, l) from if_neg (fun q => h1 q.1)]
  unfold M_partsOrigin s_pori
  rw [show M_partsOrigin_L6 mg_F (-1) 0 0 u = _ from hl 8 mg_F 0 (-1) 0 (by omega) (by show 8 < 6000; omega)]
  simp only [Option.bind_some]
  obtain ⟨k, rfl⟩ : ∃ k, n = k + 1 := ⟨n - 1, by omega⟩
  rw [h6, z_sub1, zb_192, zg (by omega), z_nat (by omega)]
  rcases (s_ori2 (u 43) (-1) (s_last (u 43)) 8 0 0 (by omega)).2 with ⟨e1, e2⟩ | ⟨c, c1, e1, e2⟩
  · rw [e1, e2, if_pos rfl]
    unfold s_last
    rw [h6, z_nat (by omega)]
    rfl
  · rw [e1, e2, if_neg (z_ne1 (by omega))]
theorem c_pval_29 {n : Nat} {g : z_Ro} {u : mg_Rg} (HA : tA n (u 31) g) : P_wholeValue_29 u = some (s_pval g) := by
  have h4 := HA.1
  have h1 : T_count_30 u = some (nN n) := by rw [← HA.2.1]; rfl
  have hl : ∀ r m k a, k + r = n → r < m → P_wholeValue_29_L4 m a (nN k) u = some (s_fold (fun k a => a + g (192 + 2 * k + 1)) r k a) := by
    intro r
    induction r with
    | zero =>
      intro m k a hk hm
      cases m with
      | zero => omega
      | succ m =>
        unfold P_wholeValue_29_L4
        rw [h1]
        simp only [Option.bind_some]
        rw [if_pos ((z_le (by omega) (by omega)).mpr (by omega))]
        rfl
    | succ r ih =>
      intro m k a hk hm
      cases m with
      | zero => omega
      | succ m =>
        unfold P_wholeValue_29_L4 s_fold
        rw [h1]
        simp only [Option.bind_some]
        rw [if_neg (z_nle (by omega) (by omega) (by omega)), rg_30_1 (by omega), tA_at (j := 1) HA (by omega) (by omega), zo_1]
        exact ih m (k + 1) _ (by omega) (by omega)
  unfold P_wholeValue_29 s_pval
  rw [HA.2.2.1, z_nat (by omega), show P_wholeValue_29_L4 mg_F 0 0 u = _ from hl n mg_F 0 0 (by omega) (by show n < 6000; omega)]
  rfl
theorem c_amt_29 {n : Nat} {g : z_Ro} {u : mg_Rg} (HA : tA n (u 31) g) (c : Int32) : P_amountOf_29 c u = some (s_amt g c) := by
  have h4 := HA.1
  have h1 : T_count_30 u = some (nN n) := by rw [← HA.2.1]; rfl
  have hl : ∀ r m k a, k + r = n → r < m → P_amountOf_29_L4 m c a (nN k) u = some (s_fold (fun k a => if g (192 + 2 * k) = c then a + g (192 + 2 * k + 1) else a) r k a) := by
    intro r
    induction r with
    | zero =>
      intro m k a hk hm
      cases m with
      | zero => omega
      | succ m =>
        unfold P_amountOf_29_L4
        rw [h1]
        simp only [Option.bind_some]
        rw [if_pos ((z_le (by omega) (by omega)).mpr (by omega))]
        rfl
    | succ r ih =>
      intro m k a hk hm
      cases m with
      | zero => omega
      | succ m =>
        unfold P_amountOf_29_L4 s_fold
        rw [h1]
        simp only [Option.bind_some]
        rw [if_neg (z_nle (by omega) (by omega) (by omega)), rg_30_0 (by omega), rg_30_1 (by omega), tA_at (j := 1) HA (by omega) (by omega), show u 31 (1 + k * 2) = g (192 + 2 * k) from tA_at (j := 0) HA (by omega) (by omega), zo_1]
        simp only [Option.bind_some]
        rw [ih m (k + 1) _ (by omega) (by omega), ih m (k + 1) _ (by omega) (by omega)]
        by_cases h : g (192 + 2 * k) = c
        · rw [if_pos h, if_pos h]
        · rw [if_neg h, if_neg h]
  unfold P_amountOf_29 s_amt
  rw [HA.2.2.1, z_nat (by omega), show P_amountOf_29_L4 mg_F c 0 0 u = _ from hl n mg_F 0 0 (by omega) (by show n < 6000; omega)]
  rfl
theorem c_pori_29 {n : Nat} {g : z_Ro} {u : mg_Rg} (HA : tA n (u 31) g) (hn : 0 < n) : P_originBy_29 (g 10) u = some (s_pori g) := by
  have h4 := HA.1
  have h1 : T_count_30 u = some (nN n) := by rw [← HA.2.1]; rfl
  have hl : ∀ r m k b l, k + r = 8 → r < m → P_originBy_29_L31 m (g 10 * s_pval g) l b (nN k) u = some (s_fold (s_ostep g) r k (b, l)).1 := by
    intro r
    induction r with
    | zero =>
      intro m k b l hk hm
      cases m with
      | zero => omega
      | succ m =>
        have e : k = 8 := by omega
        subst e
        unfold P_originBy_29_L31
        exact if_pos (by decide)
    | succ r ih =>
      intro m k b l hk hm
      cases m with
      | zero => omega
      | succ m =>
        have e8 : ¬ (8 : Int32) ≤ nN k := z_nle (a := 8) (by omega) (by omega) (by omega)
        unfold P_originBy_29_L31 s_fold
        rw [if_neg e8, c_amt_29 HA]
        simp only [Option.bind_some, zo_1]
        rw [ih m (k + 1) b l (by omega) (by omega), ih m (k + 1) (nN k) _ (by omega) (by omega)]
        by_cases h1 : l < s_amt g (nN k)
        · rw [if_neg (Int32.not_le.mpr h1)]
          by_cases h2 : s_amt g (nN k) * 100 < g 10 * s_pval g
          · rw [if_pos h2, show s_ostep g k (b, l) = (b, l) from if_neg (fun q => q.2 h2)]
          · rw [if_neg h2, show s_ostep g k (b, l) = (nN k, s_amt g (nN k)) from if_pos ⟨h1, h2⟩]
        · rw [if_pos (Int32.not_lt.mp h1), show s_ostep g k (b, l) = (b, l) from if_neg (fun q => h1 q.1)]
  obtain ⟨k, rfl⟩ : ∃ k, n = k + 1 := ⟨n - 1, by omega⟩
  have el : s_last g = g (192 + 2 * k) := by
    unfold s_last
    rw [HA.2.2.1, z_nat (by omega)]
    rfl
  unfold P_originBy_29 s_pori
  rw [c_pval_29 HA, h1]
  simp only [Option.bind_some, z_sub1]
  rw [rg_30_0 (by omega), show u 31 (1 + k * 2) = g (192 + 2 * k) from tA_at (j := 0) HA (by omega) (by omega), el]
  simp only [Option.bind_some]
  rw [show P_originBy_29_L31 mg_F (g 10 * s_pval g) 0 (g (192 + 2 * k)) 0 u = _ from hl 8 mg_F 0 _ 0 (by omega) (by show 8 < 6000; omega)]
  rfl
theorem c_pval_33 {n : Nat} {g : z_Ro} {u : mg_Rg} (HA : tA n (u 35) g) : P_wholeValue_33 u = some (s_pval g) := by
  have h4 := HA.1
  have h1 : T_count_34 u = some (nN n) := by rw [← HA.2.1]; rfl
  have hl : ∀ r m k a, k + r = n → r < m → P_wholeValue_33_L4 m a (nN k) u = some (s_fold (fun k a => a + g (192 + 2 * k + 1)) r k a) := by
    intro r
    induction r with
    | zero =>
      intro m k a hk hm
      cases m with
      | zero => omega
      | succ m =>
        unfold P_wholeValue_33_L4
        rw [h1]
        simp only [Option.bind_some]
        rw [if_pos ((z_le (by omega) (by omega)).mpr (by omega))]
        rfl
    | succ r ih =>
      intro m k a hk hm
      cases m with
      | zero => omega
      | succ m =>
        unfold P_wholeValue_33_L4 s_fold
        rw [h1]
        simp only [Option.bind_some]
        rw [if_neg (z_nle (by omega) (by omega) (by omega)), rg_34_1 (by omega), tA_at (j := 1) HA (by omega) (by omega), zo_1]
        exact ih m (k + 1) _ (by omega) (by omega)
  unfold P_wholeValue_33 s_pval
  rw [HA.2.2.1, z_nat (by omega), show P_wholeValue_33_L4 mg_F 0 0 u = _ from hl n mg_F 0 0 (by omega) (by show n < 6000; omega)]
  rfl
theorem c_amt_33 {n : Nat} {g : z_Ro} {u : mg_Rg} (HA : tA n (u 35) g) (c : Int32) : P_amountOf_33 c u = some (s_amt g c) := by
  have h4 := HA.1
  have h1 : T_count_34 u = some (nN n) := by rw [← HA.2.1]; rfl
  have hl : ∀ r m k a, k + r = n → r < m → P_amountOf_33_L4 m c a (nN k) u = some (s_fold (fun k a => if g (192 + 2 * k) = c then a + g (192 + 2 * k + 1) else a) r k a) := by
    intro r
    induction r with
    | zero =>
      intro m k a hk hm
      cases m with
      | zero => omega
      | succ m =>
        unfold P_amountOf_33_L4
        rw [h1]
        simp only [Option.bind_some]
        rw [if_pos ((z_le (by omega) (by omega)).mpr (by omega))]
        rfl
    | succ r ih =>
      intro m k a hk hm
      cases m with
      | zero => omega
      | succ m =>
        unfold P_amountOf_33_L4 s_fold
        rw [h1]
        simp only [Option.bind_some]
        rw [if_neg (z_nle (by omega) (by omega) (by omega)), rg_34_0 (by omega), rg_34_1 (by omega), tA_at (j := 1) HA (by omega) (by omega), show u 35 (1 + k * 2) = g (192 + 2 * k) from tA_at (j := 0) HA (by omega) (by omega), zo_1]
        simp only [Option.bind_some]
        rw [ih m (k + 1) _ (by omega) (by omega), ih m (k + 1) _ (by omega) (by omega)]
        by_cases h : g (192 + 2 * k) = c
        · rw [if_pos h, if_pos h]
        · rw [if_neg h, if_neg h]
  unfold P_amountOf_33 s_amt
  rw [HA.2.2.1, z_nat (by omega), show P_amountOf_33_L4 mg_F c 0 0 u = _ from hl n mg_F 0 0 (by omega) (by show n < 6000; omega)]
  rfl
theorem c_pori_33 {n : Nat} {g : z_Ro} {u : mg_Rg} (HA : tA n (u 35) g) (hn : 0 < n) : P_originBy_33 (g 10) u = some (s_pori g) := by
  have h4 := HA.1
  have h1 : T_count_34 u = some (nN n) := by rw [← HA.2.1]; rfl
  have hl : ∀ r m k b l, k + r = 8 → r < m → P_originBy_33_L31 m (g 10 * s_pval g) l b (nN k) u = some (s_fold (s_ostep g) r k (b, l)).1 := by
    intro r
    induction r with
    | zero =>
      intro m k b l hk hm
      cases m with
      | zero => omega
      | succ m =>
        have e : k = 8 := by omega
        subst e
        unfold P_originBy_33_L31
        exact if_pos (by decide)
    | succ r ih =>
      intro m k b l hk hm
      cases m with
      | zero => omega
      | succ m =>
        have e8 : ¬ (8 : Int32) ≤ nN k := z_nle (a := 8) (by omega) (by omega) (by omega)
        unfold P_originBy_33_L31 s_fold
        rw [if_neg e8, c_amt_33 HA]
        simp only [Option.bind_some, zo_1]
        rw [ih m (k + 1) b l (by omega) (by omega), ih m (k + 1) (nN k) _ (by omega) (by omega)]
        by_cases h1 : l < s_amt g (nN k)
        · rw [if_neg (Int32.not_le.mpr h1)]
          by_cases h2 : s_amt g (nN k) * 100 < g 10 * s_pval g
          · rw [if_pos h2, show s_ostep g k (b, l) = (b, l) from if_neg (fun q => q.2 h2)]
          · rw [if_neg h2, show s_ostep g k (b, l) = (nN k, s_amt g (nN k)) from if_pos ⟨h1, h2⟩]
        · rw [if_pos (Int32.not_lt.mp h1), show s_ostep g k (b, l) = (b, l) from if_neg (fun q => h1 q.1)]
  obtain ⟨k, rfl⟩ : ∃ k, n = k + 1 := ⟨n - 1, by omega⟩
  have el : s_last g = g (192 + 2 * k) := by
    unfold s_last
    rw [HA.2.2.1, z_nat (by omega)]
    rfl
  unfold P_originBy_33 s_pori
  rw [c_pval_33 HA, h1]
  simp only [Option.bind_some, z_sub1]
  rw [rg_34_0 (by omega), show u 35 (1 + k * 2) = g (192 + 2 * k) from tA_at (j := 0) HA (by omega) (by omega), el]
  simp only [Option.bind_some]
  rw [show P_originBy_33_L31 mg_F (g 10 * s_pval g) 0 (g (192 + 2 * k)) 0 u = _ from hl 8 mg_F 0 _ 0 (by omega) (by show 8 < 6000; omega)]
  rfl
theorem e_thr {u : mg_Rg} {g : z_Ro} (HT : tT (u 13) g) : Tf_setting 0 u = some (g 10) := by
  unfold Tf_setting
  rw [rg_12_0, show u 13 (0 + 1) = g 10 from HT 0 (by omega)]
  rfl
theorem ob_15 : Ob_15 z_I := by
  intro u hu
  obtain ⟨nh, np, ns, nq, nd, na, HH, HP, HS, HQ, HD, HC, HA, HT, HL⟩ := hu.1
  have h4 := HA.1
  by_cases h0 : na = 0
  · refine ⟨.inr 3, u, 0, mg_up u 42 0 1, 1, ?_, ?_, rfl, Or.inr ⟨rfl, rfl⟩, z_I_thrown 1 hu⟩
    · unfold C_origin
      rw [T_count_30, HA.2.1, h0]
      rfl
    · unfold M_origin
      rw [HA.2.2.1, h0]
      rfl
  · have hz : ¬ nN na = 0 := z_nne (b := 0) (by omega) (by omega) h0
    refine ⟨.inl (s_pori (u 43)), u, s_pori (u 43), mg_up u 42 0 0, 0, ?_, ?_, rfl, Or.inl ⟨_, rfl, rfl, rfl⟩, z_I_thrown 0 hu⟩
    · unfold C_origin
      rw [T_count_30, HA.2.1]
      simp only [Option.bind_some]
      rw [if_neg hz, e_thr HT]
      simp only [Option.bind_some]
      rw [c_pori_29 HA (by omega)]
      rfl
    · unfold M_origin
      rw [HA.2.2.1, if_neg hz, m_pori HA (by omega)]
      rfl
theorem c_enter_29 {n nd : Nat} {g : z_Ro} {u : mg_Rg} (HA : tA n (u 31) g) (hn : 0 < n) (HT : tT (u 13) g) (HL : u 17 1 = g 0) (hd : nd < 30) (h0 : u 26 0 = nN nd) (a b c d : Int32) : ∃ u', O_enter_29 a b c d u = some (nN nd, u') ∧ (∀ q, q ≠ 26 → u' q = u q) ∧ u' 26 0 = nN (nd + 1) ∧ (∀ i, i ≠ 0 → i < 1 + nd * 15 → u' 26 i = u 26 i) ∧
    u' 26 (1 + nd * 15) = a ∧ u' 26 (1 + nd * 15 + 1) = b ∧ u' 26 (1 + nd * 15 + 2) = s_pval g ∧ u' 26 (1 + nd * 15 + 3) = s_pori g ∧ u' 26 (1 + nd * 15 + 4) = c ∧ u' 26 (1 + nd * 15 + 5) = d ∧ u' 26 (1 + nd * 15 + 6) = g 0 ∧ u' 26 (1 + nd * 15 + 7) = 0 ∧ u' 26 (1 + nd * 15 + 8) = 0 ∧ u' 26 (1 + nd * 15 + 9) = 0 ∧ u' 26 (1 + nd * 15 + 10) = 0 ∧ u' 26 (1 + nd * 15 + 11) = 0 ∧ u' 26 (1 + nd * 15 + 12) = -1 ∧ u' 26 (1 + nd * 15 + 13) = -1 ∧ u' 26 (1 + nd * 15 + 14) = -1 := by
  obtain ⟨v, a1, a2, a3, a4, a5⟩ := za_25 hd (u := u) h0
  obtain ⟨w, hw⟩ : ∃ w, w = mg_up (mg_up (mg_up (mg_up (mg_up (mg_up (mg_up (mg_up (mg_up (mg_up (mg_up v 26 (1 + nd * 15) (a)) 26 (1 + nd * 15 + 1) (b)) 26 (1 + nd * 15 + 2) (s_pval g)) 26 (1 + nd * 15 + 3) (s_pori g)) 26 (1 + nd * 15 + 4) (c)) 26 (1 + nd * 15 + 5) (d)) 26 (1 + nd * 15 + 6) (g 0)) 26 (1 + nd * 15 + 7) (0)) 26 (1 + nd * 15 + 12) (-1)) 26 (1 + nd * 15 + 13) (-1)) 26 (1 + nd * 15 + 14) (-1) := ⟨_, rfl⟩
  have HA1 : tA n ((mg_up (mg_up v 26 (1 + nd * 15) (a)) 26 (1 + nd * 15 + 1) (b)) 31) g := by
    rw [z_up_ne (by decide), z_up_ne (by decide), a2 31 (by decide)]
    exact HA
  have HA2 : tA n ((mg_up (mg_up (mg_up v 26 (1 + nd * 15) (a)) 26 (1 + nd * 15 + 1) (b)) 26 (1 + nd * 15 + 2) (s_pval g)) 31) g := by
    rw [z_up_ne (by decide), z_up_ne (by decide), z_up_ne (by decide), a2 31 (by decide)]
    exact HA
  have HT2 : tT ((mg_up (mg_up (mg_up v 26 (1 + nd * 15) (a)) 26 (1 + nd * 15 + 1) (b)) 26 (1 + nd * 15 + 2) (s_pval g)) 13) g := by
    rw [z_up_ne (by decide), z_up_ne (by decide), z_up_ne (by decide), a2 13 (by decide)]
    exact HT
  have ed : Lg_day (mg_up (mg_up (mg_up (mg_up (mg_up (mg_up v 26 (1 + nd * 15) (a)) 26 (1 + nd * 15 + 1) (b)) 26 (1 + nd * 15 + 2) (s_pval g)) 26 (1 + nd * 15 + 3) (s_pori g)) 26 (1 + nd * 15 + 4) (c)) 26 (1 + nd * 15 + 5) (d)) = some (g 0) := by
    unfold Lg_day
    rw [rg_16_0, z_up_ne (by decide), z_up_ne (by decide), z_up_ne (by decide), z_up_ne (by decide), z_up_ne (by decide), z_up_ne (by decide), a2 17 (by decide), show u 17 (0 + 1) = g 0 from HL]
    rfl
  refine ⟨w, ?_, fun q hq => ?_, ?_, fun i i1 i2 => ?_, ?_⟩
  · simp only [O_enter_29, a1, rp_25_0 hd, rp_25_1 hd, c_pval_29 HA1, rp_25_2 hd, e_thr HT2, c_pori_29 HA2 hn, rp_25_3 hd, rp_25_4 hd, rp_25_5 hd, ed, rp_25_6 hd, rp_25_7 hd, rp_25_12 hd, rp_25_13 hd, rp_25_14 hd, Option.bind_some]
    rw [hw]
  · rw [hw, z_up_ne hq, z_up_ne hq, z_up_ne hq, z_up_ne hq, z_up_ne hq, z_up_ne hq, z_up_ne hq, z_up_ne hq, z_up_ne hq, z_up_ne hq, z_up_ne hq, a2 q hq]
  · rw [hw, zu_ne (by omega), zu_ne (by omega), zu_ne (by omega), zu_ne (by omega), zu_ne (by omega), zu_ne (by omega), zu_ne (by omega), zu_ne (by omega), zu_ne (by omega), zu_ne (by omega), zu_ne (by omega), a3]
  · rw [hw, zu_ne (by omega), zu_ne (by omega), zu_ne (by omega), zu_ne (by omega), zu_ne (by omega), zu_ne (by omega), zu_ne (by omega), zu_ne (by omega), zu_ne (by omega), zu_ne (by omega), zu_ne (by omega), a4 i i1 (by omega)]
  · rw [hw]
    refine ⟨by rw [zu_ne (by omega), zu_ne (by omega), zu_ne (by omega), zu_ne (by omega), zu_ne (by omega), zu_ne (by omega), zu_ne (by omega), zu_ne (by omega), zu_ne (by omega), zu_ne (by omega), zu_eq], by rw [zu_ne (by omega), zu_ne (by omega), zu_ne (by omega), zu_ne (by omega), zu_ne (by omega), zu_ne (by omega), zu_ne (by omega), zu_ne (by omega), zu_ne (by omega), zu_eq], by rw [zu_ne (by omega), zu_ne (by omega), zu_ne (by omega), zu_ne (by omega), zu_ne (by omega), zu_ne (by omega), zu_ne (by omega), zu_ne (by omega), zu_eq], by rw [zu_ne (by omega), zu_ne (by omega), zu_ne (by omega), zu_ne (by omega), zu_ne (by omega), zu_ne (by omega), zu_ne (by omega), zu_eq], by rw [zu_ne (by omega), zu_ne (by omega), zu_ne (by omega), zu_ne (by omega), zu_ne (by omega), zu_ne (by omega), zu_eq], by rw [zu_ne (by omega), zu_ne (by omega), zu_ne (by omega), zu_ne (by omega), zu_ne (by omega), zu_eq], by rw [zu_ne (by omega), zu_ne (by omega), zu_ne (by omega), zu_ne (by omega), zu_eq], by rw [zu_ne (by omega), zu_ne (by omega), zu_ne (by omega), zu_eq], by rw [zu_ne (by omega), zu_ne (by omega), zu_ne (by omega), zu_ne (by omega), zu_ne (by omega), zu_ne (by omega), zu_ne (by omega), zu_ne (by omega), zu_ne (by omega), zu_ne (by omega), zu_ne (by omega), a5 _ (by omega) (by omega)], by rw [zu_ne (by omega), zu_ne (by omega), zu_ne (by omega), zu_ne (by omega), zu_ne (by omega), zu_ne (by omega), zu_ne (by omega), zu_ne (by omega), zu_ne (by omega), zu_ne (by omega), zu_ne (by omega), a5 _ (by omega) (by omega)], by rw [zu_ne (by omega), zu_ne (by omega), zu_ne (by omega), zu_ne (by omega), zu_ne (by omega), zu_ne (by omega), zu_ne (by omega), zu_ne (by omega), zu_ne (by omega), zu_ne (by omega), zu_ne (by omega), a5 _ (by omega) (by omega)], by rw [zu_ne (by omega), zu_ne (by omega), zu_ne (by omega), zu_ne (by omega), zu_ne (by omega), zu_ne (by omega), zu_ne (by omega), zu_ne (by omega), zu_ne (by omega), zu_ne (by omega), zu_ne (by omega), a5 _ (by omega) (by omega)], by rw [zu_ne (by omega), zu_ne (by omega), zu_eq], by rw [zu_ne (by omega), zu_eq], by rw [zu_eq]⟩
theorem c_enter_33 {n nd : Nat} {g : z_Ro} {u : mg_Rg} (HA : tA n (u 35) g) (hn : 0 < n) (HT : tT (u 13) g) (HL : u 17 1 = g 0) (hd : nd < 30) (h0 : u 26 0 = nN nd) (a b c d : Int32) : ∃ u', O_enter_33 a b c d u = some (nN nd, u') ∧ (∀ q, q ≠ 26 → u' q = u q) ∧ u' 26 0 = nN (nd + 1) ∧ (∀ i, i ≠ 0 → i < 1 + nd * 15 → u' 26 i = u 26 i) ∧
    u' 26 (1 + nd * 15) = a ∧ u' 26 (1 + nd * 15 + 1) = b ∧ u' 26 (1 + nd * 15 + 2) = s_pval g ∧ u' 26 (1 + nd * 15 + 3) = s_pori g ∧ u' 26 (1 + nd * 15 + 4) = c ∧ u' 26 (1 + nd * 15 + 5) = d ∧ u' 26 (1 + nd * 15 + 6) = g 0 ∧ u' 26 (1 + nd * 15 + 7) = 0 ∧ u' 26 (1 + nd * 15 + 8) = 0 ∧ u' 26 (1 + nd * 15 + 9) = 0 ∧ u' 26 (1 + nd * 15 + 10) = 0 ∧ u' 26 (1 + nd * 15 + 11) = 0 ∧ u' 26 (1 + nd * 15 + 12) = -1 ∧ u' 26 (1 + nd * 15 + 13) = -1 ∧ u' 26 (1 + nd * 15 + 14) = -1 := by
  obtain ⟨v, a1, a2, a3, a4, a5⟩ := za_25 hd (u := u) h0
  obtain ⟨w, hw⟩ : ∃ w, w = mg_up (mg_up (mg_up (mg_up (mg_up (mg_up (mg_up (mg_up (mg_up (mg_up (mg_up v 26 (1 + nd * 15) (a)) 26 (1 + nd * 15 + 1) (b)) 26 (1 + nd * 15 + 2) (s_pval g)) 26 (1 + nd * 15 + 3) (s_pori g)) 26 (1 + nd * 15 + 4) (c)) 26 (1 + nd * 15 + 5) (d)) 26 (1 + nd * 15 + 6) (g 0)) 26 (1 + nd * 15 + 7) (0)) 26 (1 + nd * 15 + 12) (-1)) 26 (1 + nd * 15 + 13) (-1)) 26 (1 + nd * 15 + 14) (-1) := ⟨_, rfl⟩
  have HA1 : tA n ((mg_up (mg_up v 26 (1 + nd * 15) (a)) 26 (1 + nd * 15 + 1) (b)) 35) g := by
    rw [z_up_ne (by decide), z_up_ne (by decide), a2 35 (by decide)]
    exact HA
  have HA2 : tA n ((mg_up (mg_up (mg_up v 26 (1 + nd * 15) (a)) 26 (1 + nd * 15 + 1) (b)) 26 (1 + nd * 15 + 2) (s_pval g)) 35) g := by
    rw [z_up_ne (by decide), z_up_ne (by decide), z_up_ne (by decide), a2 35 (by decide)]
    exact HA
  have HT2 : tT ((mg_up (mg_up (mg_up v 26 (1 + nd * 15) (a)) 26 (1 + nd * 15 + 1) (b)) 26 (1 + nd * 15 + 2) (s_pval g)) 13) g := by
    rw [z_up_ne (by decide), z_up_ne (by decide), z_up_ne (by decide), a2 13 (by decide)]
    exact HT
  have ed : Lg_day (mg_up (mg_up (mg_up (mg_up (mg_up (mg_up v 26 (1 + nd * 15) (a)) 26 (1 + nd * 15 + 1) (b)) 26 (1 + nd * 15 + 2) (s_pval g)) 26 (1 + nd * 15 + 3) (s_pori g)) 26 (1 + nd * 15 + 4) (c)) 26 (1 + nd * 15 + 5) (d)) = some (g 0) := by
    unfold Lg_day
    rw [rg_16_0, z_up_ne (by decide), z_up_ne (by decide), z_up_ne (by decide), z_up_ne (by decide), z_up_ne (by decide), z_up_ne (by decide), a2 17 (by decide), show u 17 (0 + 1) = g 0 from HL]
    rfl
  refine ⟨w, ?_, fun q hq => ?_, ?_, fun i i1 i2 => ?_, ?_⟩
  · simp only [O_enter_33, a1, rp_25_0 hd, rp_25_1 hd, c_pval_33 HA1, rp_25_2 hd, e_thr HT2, c_pori_33 HA2 hn, rp_25_3 hd, rp_25_4 hd, rp_25_5 hd, ed, rp_25_6 hd, rp_25_7 hd, rp_25_12 hd, rp_25_13 hd, rp_25_14 hd, Option.bind_some]
    rw [hw]
  · rw [hw, z_up_ne hq, z_up_ne hq, z_up_ne hq, z_up_ne hq, z_up_ne hq, z_up_ne hq, z_up_ne hq, z_up_ne hq, z_up_ne hq, z_up_ne hq, z_up_ne hq, a2 q hq]
  · rw [hw, zu_ne (by omega), zu_ne (by omega), zu_ne (by omega), zu_ne (by omega), zu_ne (by omega), zu_ne (by omega), zu_ne (by omega), zu_ne (by omega), zu_ne (by omega), zu_ne (by omega), zu_ne (by omega), a3]
  · rw [hw, zu_ne (by omega), zu_ne (by omega), zu_ne (by omega), zu_ne (by omega), zu_ne (by omega), zu_ne (by omega), zu_ne (by omega), zu_ne (by omega), zu_ne (by omega), zu_ne (by omega), zu_ne (by omega), a4 i i1 (by omega)]
  · rw [hw]
    refine ⟨by rw [zu_ne (by omega), zu_ne (by omega), zu_ne (by omega), zu_ne (by omega), zu_ne (by omega), zu_ne (by omega), zu_ne (by omega), zu_ne (by omega), zu_ne (by omega), zu_ne (by omega), zu_eq], by rw [zu_ne (by omega), zu_ne (by omega), zu_ne (by omega), zu_ne (by omega), zu_ne (by omega), zu_ne (by omega), zu_ne (by omega), zu_ne (by omega), zu_ne (by omega), zu_eq], by rw [zu_ne (by omega), zu_ne (by omega), zu_ne (by omega), zu_ne (by omega), zu_ne (by omega), zu_ne (by omega), zu_ne (by omega), zu_ne (by omega), zu_eq], by rw [zu_ne (by omega), zu_ne (by omega), zu_ne (by omega), zu_ne (by omega), zu_ne (by omega), zu_ne (by omega), zu_ne (by omega), zu_eq], by rw [zu_ne (by omega), zu_ne (by omega), zu_ne (by omega), zu_ne (by omega), zu_ne (by omega), zu_ne (by omega), zu_eq], by rw [zu_ne (by omega), zu_ne (by omega), zu_ne (by omega), zu_ne (by omega), zu_ne (by omega), zu_eq], by rw [zu_ne (by omega), zu_ne (by omega), zu_ne (by omega), zu_ne (by omega), zu_eq], by rw [zu_ne (by omega), zu_ne (by omega), zu_ne (by omega), zu_eq], by rw [zu_ne (by omega), zu_ne (by omega), zu_ne (by omega), zu_ne (by omega), zu_ne (by omega), zu_ne (by omega), zu_ne (by omega), zu_ne (by omega), zu_ne (by omega), zu_ne (by omega), zu_ne (by omega), a5 _ (by omega) (by omega)], by rw [zu_ne (by omega), zu_ne (by omega), zu_ne (by omega), zu_ne (by omega), zu_ne (by omega), zu_ne (by omega), zu_ne (by omega), zu_ne (by omega), zu_ne (by omega), zu_ne (by omega), zu_ne (by omega), a5 _ (by omega) (by omega)], by rw [zu_ne (by omega), zu_ne (by omega), zu_ne (by omega), zu_ne (by omega), zu_ne (by omega), zu_ne (by omega), zu_ne (by omega), zu_ne (by omega), zu_ne (by omega), zu_ne (by omega), zu_ne (by omega), a5 _ (by omega) (by omega)], by rw [zu_ne (by omega), zu_ne (by omega), zu_ne (by omega), zu_ne (by omega), zu_ne (by omega), zu_ne (by omega), zu_ne (by omega), zu_ne (by omega), zu_ne (by omega), zu_ne (by omega), zu_ne (by omega), a5 _ (by omega) (by omega)], by rw [zu_ne (by omega), zu_ne (by omega), zu_eq], by rw [zu_ne (by omega), zu_eq], by rw [zu_eq]⟩
theorem m_zero {a b c d : Int32} {p : Nat} (hp : p + 16 ≤ 690) : ∀ (m k : Nat) (u : mg_Rg), k ≤ 16 → 16 < m + k → ∃ u', M_declare_L120 m a b c d (nN p) (nN k) u = some u' ∧ (∀ q, q ≠ 43 → u' q = u q) ∧ ∀ i, u' 43 i = if p + k ≤ i ∧ i < p + 16 then 0 else u 43 i := by
  intro m
  induction m with
  | zero => intro k u h1 h2; omega
  | succ m ih =>
    intro k u h1 h2
    unfold M_declare_L120
    by_cases hk : k = 16
    · subst hk
      refine ⟨u, if_pos (by decide), fun _ _ => rfl, fun i => ?_⟩
      rw [if_neg (by omega)]
    · have c1 : ¬ (16 : Int32) ≤ nN k := z_nle (a := 16) (by omega) (by omega) (by omega)
      have e : nN p + nN k = nN (p + k) := (Int32.ofNat_add p k).symm
      obtain ⟨u', h3, h4, h5⟩ := ih (k + 1) (mg_up u 43 (p + k) 0) (by omega) (by omega)
      rw [if_neg c1, e, zg (by omega), z_nat (by omega), zo_1]
      refine ⟨u', h3, fun q hq => (h4 q hq).trans (z_up_ne hq), fun i => ?_⟩
      rw [h5 i]
      by_cases hi : i = p + k
      · subst hi
        rw [if_neg (by omega), if_pos (by omega), zu_eq]
      · rw [zu_ne hi]
        by_cases hi2 : p + (k + 1) ≤ i ∧ i < p + 16
        · rw [if_pos hi2, if_pos (by omega)]
        · rw [if_neg hi2, if_neg (by omega)]
/-- declare, when nothing hinders -/
theorem md_ok {nh nq nd na x : Nat} {b c d : Int32} {f f2 : z_Ro} {u1 u2 : mg_Rg} (HH : tH nh f (u1 43)) (hx : x < nh) (hq : nq ≤ 6) (h4 : u1 43 4 = nN nq) (hd : d = -1 ∨ ∃ q < nq, d = nN q) (hb : ¬ (b < 1 ∨ 999 < b)) (hc : ¬ (c < 0 ∨ 2 < c)) (hch : ¬ 0 < s_children (u1 43) (nN x))
    (HA : tA na f2 (u1 43)) (hna : 0 < na) (hnd : nd < 30) (h5 : u1 43 5 = nN nd) (hM : M_remembers u1 = some u2) (h2 : u2 43 = u1 43) : ∃ W, M_declare (nN x) b c d u1 = some (nN nd, mg_up W 42 0 0) ∧ (∀ q, q ≠ 43 → W q = u2 q) ∧ W 43 5 = nN (nd + 1) ∧ W 43 6 = 0 ∧ (∀ i, i ≠ 5 → i ≠ 6 → i < 208 + 16 * nd ∨ 208 + 16 * nd + 16 ≤ i → W 43 i = u1 43 i) ∧
    W 43 (208 + 16 * nd) = nN x ∧ W 43 (208 + 16 * nd + 1) = b ∧ W 43 (208 + 16 * nd + 2) = s_pval (u1 43) ∧ W 43 (208 + 16 * nd + 3) = s_pori (u1 43) ∧ W 43 (208 + 16 * nd + 4) = c ∧ W 43 (208 + 16 * nd + 5) = d ∧ W 43 (208 + 16 * nd + 6) = u1 43 0 ∧ W 43 (208 + 16 * nd + 7) = 0 ∧ W 43 (208 + 16 * nd + 8) = 0 ∧ W 43 (208 + 16 * nd + 9) = 0 ∧ W 43 (208 + 16 * nd + 10) = 0 ∧ W 43 (208 + 16 * nd + 11) = 0 ∧ W 43 (208 + 16 * nd + 12) = -1 ∧ W 43 (208 + 16 * nd + 13) = -1 ∧ W 43 (208 + 16 * nd + 14) = -1 := by
  have hN := HH.1
  have hA4 := HA.1
  have h6 := HA.2.2.1
  have n6 : ¬ u1 43 6 = 0 := by rw [h6]; exact z_nne (b := 0) (by omega) (by omega) (by omega)
  have n5 : ¬ u1 43 5 = 30 := by rw [h5]; exact z_nne (b := 30) (by omega) (by omega) (by omega)
  have e5 : u2 43 5 = nN nd := by rw [h2]; exact h5
  obtain ⟨z, z1, z2, z3⟩ := m_zero (a := nN x) (b := b) (c := c) (d := d) (p := 208 + 16 * nd) (by omega) mg_F 0 u2 (by omega) (by show 16 < 6000 + 0; omega)
  have z1 : M_declare_L120 mg_F (nN x) b c d (nN (208 + 16 * nd)) 0 u2 = some z := z1
  have zo : ∀ i, i < 208 + 16 * nd ∨ 208 + 16 * nd + 16 ≤ i → z 43 i = u1 43 i := fun i hi => by rw [z3 i, if_neg (by omega), h2]
  have zi : ∀ i, 208 + 16 * nd ≤ i → i < 208 + 16 * nd + 16 → z 43 i = 0 := fun i i1 i2 => by rw [z3 i, if_pos (by omega)]
  have z0 : z 43 0 = u1 43 0 := zo 0 (by omega)
  have z5 : z 43 5 = nN nd := by rw [zo 5 (by omega), h5]
  have g2 : ∀ i, i < 208 → (mg_up (mg_up z 43 (208 + 16 * nd) (nN x)) 43 (208 + 16 * nd + 1) (b)) 43 i = u1 43 i := fun i hi => by rw [zu_ne (by omega), zu_ne (by omega), zo i (by omega)]
  have g3 : ∀ i, i < 208 → (mg_up (mg_up (mg_up z 43 (208 + 16 * nd) (nN x)) 43 (208 + 16 * nd + 1) (b)) 43 (208 + 16 * nd + 2) (s_pval (u1 43))) 43 i = u1 43 i := fun i hi => by rw [zu_ne (by omega), zu_ne (by omega), zu_ne (by omega), zo i (by omega)]
  have pv : M_partsValue (mg_up (mg_up z 43 (208 + 16 * nd) (nN x)) 43 (208 + 16 * nd + 1) (b)) = some (s_pval (u1 43)) := by
    rw [m_pval (n := na) hA4 (by rw [g2 6 (by omega)]; exact h6), s_pval_cg hA4 h6 (fun i hi => g2 i (by omega))]
  have po : M_partsOrigin (mg_up (mg_up (mg_up z 43 (208 + 16 * nd) (nN x)) 43 (208 + 16 * nd + 1) (b)) 43 (208 + 16 * nd + 2) (s_pval (u1 43))) = some (s_pori (u1 43)) := by
    rw [m_pori (n := na) (f := f2) (tA_cg (fun _ _ => rfl) (fun i hi => g3 i (by omega)) HA) hna, s_pori_cg hA4 h6 (fun i hi => g3 i (by omega))]
  obtain ⟨W, hW⟩ : ∃ W, W = mg_up (mg_up (mg_up (mg_up (mg_up (mg_up (mg_up (mg_up (mg_up (mg_up (mg_up (mg_up z 43 (208 + 16 * nd) (nN x)) 43 (208 + 16 * nd + 1) (b)) 43 (208 + 16 * nd + 2) (s_pval (u1 43))) 43 (208 + 16 * nd + 3) (s_pori (u1 43))) 43 (208 + 16 * nd + 4) (c)) 43 (208 + 16 * nd + 5) (d)) 43 (208 + 16 * nd + 6) (u1 43 0)) 43 (208 + 16 * nd + 12) (-1)) 43 (208 + 16 * nd + 13) (-1)) 43 (208 + 16 * nd + 14) (-1)) 43 (6) (0)) 43 (5) (nN (nd + 1)) := ⟨_, rfl⟩
  have hM2 : M_declare (nN x) b c d u1 = some (nN nd, mg_up W 42 0 0) := by
    rcases hd with rfl | ⟨q, hq1, rfl⟩
    · simp only [M_declare, mrH_yes (by omega) HH.2.2.1 hx, z_min_yes hb, z_min_yes hc, m_children HH, hch, n6, n5, hM, Option.bind_some, zz_10, ↓reduceIte, e5, zb_208, z1, zo_0, zo_1, zo_2, zo_3, zo_4, zo_5, zo_6, zo_12, zo_13, zo_14]
      simp (disch := omega) only [z_nat, z_n0, z_690, or_self, pv, po, zu_ne, zu_eq, z0, z5, zo_1, z_sub1, z_done, Option.bind_some, zz_10, ↓reduceIte]
      rw [hW]
    · simp only [M_declare, mrH_yes (by omega) HH.2.2.1 hx, z_ne1 (show q < 2147483648 by omega), miQ_yes (by omega) h4 hq1, z_min_yes hb, z_min_yes hc, m_children HH, hch, n6, n5, hM, Option.bind_some, zz_10, ↓reduceIte, e5, zb_208, z1, zo_0, zo_1, zo_2, zo_3, zo_4, zo_5, zo_6, zo_12, zo_13, zo_14]
      simp (disch := omega) only [z_nat, z_n0, z_690, or_self, pv, po, zu_ne, zu_eq, z0, z5, zo_1, z_sub1, z_done, Option.bind_some, zz_10, ↓reduceIte]
      rw [hW]
  refine ⟨W, hM2, fun q hq => by rw [hW, z_up_ne hq, z_up_ne hq, z_up_ne hq, z_up_ne hq, z_up_ne hq, z_up_ne hq, z_up_ne hq, z_up_ne hq, z_up_ne hq, z_up_ne hq, z_up_ne hq, z_up_ne hq, z2 q hq], by rw [hW, zu_eq], by rw [hW, zu_ne (by omega), zu_eq], fun i i1 i2 i3 => by rw [hW, zu_ne (by omega), zu_ne (by omega), zu_ne (by omega), zu_ne (by omega), zu_ne (by omega), zu_ne (by omega), zu_ne (by omega), zu_ne (by omega), zu_ne (by omega), zu_ne (by omega), zu_ne (by omega), zu_ne (by omega), zo i i3], ?_⟩
  rw [hW]
  exact ⟨by rw [zu_ne (by omega), zu_ne (by omega), zu_ne (by omega), zu_ne (by omega), zu_ne (by omega), zu_ne (by omega), zu_ne (by omega), zu_ne (by omega), zu_ne (by omega), zu_ne (by omega), zu_ne (by omega), zu_eq], by rw [zu_ne (by omega), zu_ne (by omega), zu_ne (by omega), zu_ne (by omega), zu_ne (by omega), zu_ne (by omega), zu_ne (by omega), zu_ne (by omega), zu_ne (by omega), zu_ne (by omega), zu_eq], by rw [zu_ne (by omega), zu_ne (by omega), zu_ne (by omega), zu_ne (by omega), zu_ne (by omega), zu_ne (by omega), zu_ne (by omega), zu_ne (by omega), zu_ne (by omega), zu_eq], by rw [zu_ne (by omega), zu_ne (by omega), zu_ne (by omega), zu_ne (by omega), zu_ne (by omega), zu_ne (by omega), zu_ne (by omega), zu_ne (by omega), zu_eq], by rw [zu_ne (by omega), zu_ne (by omega), zu_ne (by omega), zu_ne (by omega), zu_ne (by omega), zu_ne (by omega), zu_ne (by omega), zu_eq], by rw [zu_ne (by omega), zu_ne (by omega), zu_ne (by omega), zu_ne (by omega), zu_ne (by omega), zu_ne (by omega), zu_eq], by rw [zu_ne (by omega), zu_ne (by omega), zu_ne (by omega), zu_ne (by omega), zu_ne (by omega), zu_eq], by rw [zu_ne (by omega), zu_ne (by omega), zu_ne (by omega), zu_ne (by omega), zu_ne (by omega), zu_ne (by omega), zu_ne (by omega), zu_ne (by omega), zu_ne (by omega), zu_ne (by omega), zu_ne (by omega), zu_ne (by omega), zi _ (by omega) (by omega)], by rw [zu_ne (by omega), zu_ne (by omega), zu_ne (by omega), zu_ne (by omega), zu_ne (by omega), zu_ne (by omega), zu_ne (by omega), zu_ne (by omega), zu_ne (by omega), zu_ne (by omega), zu_ne (by omega), zu_ne (by omega), zi _ (by omega) (by omega)], by rw [zu_ne (by omega), zu_ne (by omega), zu_ne (by omega), zu_ne (by omega), zu_ne (by omega), zu_ne (by omega), zu_ne (by omega), zu_ne (by omega), zu_ne (by omega), zu_ne (by omega), zu_ne (by omega), zu_ne (by omega), zi _ (by omega) (by omega)], by rw [zu_ne (by omega), zu_ne (by omega), zu_ne (by omega), zu_ne (by omega), zu_ne (by omega), zu_ne (by omega), zu_ne (by omega), zu_ne (by omega), zu_ne (by omega), zu_ne (by omega), zu_ne (by omega), zu_ne (by omega), zi _ (by omega) (by omega)], by rw [zu_ne (by omega), zu_ne (by omega), zu_ne (by omega), zu_ne (by omega), zu_ne (by omega), zu_ne (by omega), zu_ne (by omega), zu_ne (by omega), zu_ne (by omega), zu_ne (by omega), zu_ne (by omega), zu_ne (by omega), zi _ (by omega) (by omega)], by rw [zu_ne (by omega), zu_ne (by omega), zu_ne (by omega), zu_ne (by omega), zu_eq], by rw [zu_ne (by omega), zu_ne (by omega), zu_ne (by omega), zu_eq], by rw [zu_ne (by omega), zu_ne (by omega), zu_eq]⟩
