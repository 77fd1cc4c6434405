/-! forget, rate, set, drop, undo, save, restore -/
theorem ob_14 : Ob_14 z_I := by
  intro u hu
  obtain ⟨nh, np, ns, nq, nd, na, HH, HP, HS, HQ, HD, HC, HA, HT, HL⟩ := hu.1
  obtain ⟨u0, k1, k2, k3⟩ := z_write hu
  obtain ⟨u1, hu1⟩ : ∃ u1, u1 = mg_up u0 31 0 0 := ⟨_, rfl⟩
  have hq : ∀ q, q ≠ 31 → u1 q = u0 q := fun q q1 => by rw [hu1, z_up_ne q1]
  have hu1q : ∀ q, q ≠ 31 → q ∉ 0 :: z_ks.map (· + 1) → u1 q = u q := fun q q1 q2 => (hq q q1).trans (k2 q q2)
  obtain ⟨u2, m1, m2, m3⟩ := k3 u1 (fun q hq2 => hq q (by rintro rfl; revert hq2; decide))
  have g43 : u1 43 = u 43 := hu1q 43 (by decide) (by decide)
  have g2 : u2 43 = u 43 := (m2 43 (by decide) (by decide)).trans g43
  obtain ⟨W, hW⟩ : ∃ W, W = mg_up u2 43 6 0 := ⟨_, rfl⟩
  have hWq : ∀ q, q ≠ 43 → W q = u2 q := fun q q1 => by rw [hW, z_up_ne q1]
  have hWo : ∀ i, i ≠ 6 → W 43 i = u 43 i := fun i i1 => by rw [hW, zu_ne (by omega), g2]
  have hC : C_forget u = some (nN na, u1) := by
    simp only [C_forget, k1, T_count_30, T_clear_30, T_setCount_30, Option.bind_some]
    rw [k2 31 (by decide), HA.2.1, hu1]
  have hM : M_forget u1 = some (nN na, mg_up W 42 0 0) := by
    simp only [M_forget, m1, z_done, Option.bind_some]
    rw [g2, HA.2.2.1, hW]
  refine ⟨_, _, _, hC, hM, z_fin m3 m2 hWq ?_⟩
  refine ⟨nh, np, ns, nq, nd, 0, tH_cg (fun i _ => by rw [hu1q 4 (by decide) (by decide)]) (fun i hi => hWo i (by omega)) HH, tP_cg (fun i _ => by rw [hu1q 7 (by decide) (by decide)]) (fun i hi => hWo i (by omega)) HP, tS_cg (fun i _ => by rw [hu1q 10 (by decide) (by decide)]) (fun i hi => hWo i (by omega)) HS, tQ_cg (fun i _ => by rw [hu1q 23 (by decide) (by decide)]) (fun i hi => hWo i (by omega)) HQ, tD_cg (fun i _ => by rw [hu1q 26 (by decide) (by decide)]) (fun i hi => hWo i (by omega)) HD, tC_cg HQ.1 HD.1 (fun i hi => hWo i (by omega)) HC, ?_, tT_cg (fun i _ => by rw [hu1q 13 (by decide) (by decide)]) (fun i hi => hWo i (by omega)) HT, tL_cg (fun i _ => by rw [hu1q 17 (by decide) (by decide)]) (fun i _ => by rw [hu1q 20 (by decide) (by decide)]) (fun i hi => hWo i (by omega)) HL⟩
  exact ⟨by omega, by rw [hu1, zu_eq]; rfl, by rw [hW, zu_eq]; rfl, fun i h => absurd h (by omega), fun k h => absurd h (by omega)⟩
theorem tH_rate {n x : Nat} {f g f' g' : z_Ro} (H : tH n f g) (hx : x < n) (hf : ∀ i, i ≠ 1 + x * 3 + 2 → f' i = f i) (hg : ∀ i, i ≠ 20 + 3 * x + 2 → g' i = g i) (he : f' (1 + x * 3 + 2) = g' (20 + 3 * x + 2)) : tH n f' g' := by
  obtain ⟨h1, h2, h3, h4, v, hv⟩ := H
  refine ⟨h1, by rw [hf 0 (by omega)]; exact h2, by rw [hg 1 (by omega)]; exact h3, fun i hi => ?_, v, fun h hh => by rw [hg (20 + 3 * h) (by omega)]; exact hv h hh⟩
  by_cases e : i = 3 * x + 2
  · subst e
    rw [show 1 + (3 * x + 2) = 1 + x * 3 + 2 by omega, show 20 + (3 * x + 2) = 20 + 3 * x + 2 by omega]
    exact he
  · rw [hf _ (by omega), hg _ (by omega)]
    exact h4 i hi
theorem ob_1 : Ob_1 z_I := by
  intro u hu a b
  obtain ⟨nh, np, ns, nq, nd, na, HH, HP, HS, HQ, HD, HC, HA, HT, HL⟩ := hu.1
  have hN := HH.1
  by_cases hx : ∃ x, x < nh ∧ a = nN x
  case neg =>
    have hx' : ∀ x < nh, a ≠ nN x := fun x hl e => hx ⟨x, hl, e⟩
    refine ⟨.inr 0, u, 0, mg_up u 42 0 1, 1, ?_, ?_, rfl, Or.inr (Or.inl ⟨rfl, rfl⟩), z_I_thrown 1 hu⟩
    · simp only [C_rate, crH_no (by omega) HH.2.1 hx', Option.bind_some, zz_10, ↓reduceIte]
    · simp only [M_rate, mrH_no (by omega) HH.2.2.1 hx', Option.bind_some, zz_10, ↓reduceIte, z_fails]
  obtain ⟨x, hxl, rfl⟩ := hx
  by_cases hb : b < -1 ∨ 1000 < b
  case pos =>
    refine ⟨.inr 1, u, 0, mg_up u 42 0 2, 2, ?_, ?_, rfl, Or.inr (Or.inr ⟨rfl, rfl⟩), z_I_thrown 2 hu⟩
    · simp only [C_rate, crH_yes (by omega) HH.2.1 hxl, z_win_no hb, Option.bind_some, zz_10, ↓reduceIte]
    · simp only [M_rate, mrH_yes (by omega) HH.2.2.1 hxl, z_min_no hb, Option.bind_some, zz_10, ↓reduceIte, z_fails]
  obtain ⟨u0, k1, k2, k3⟩ := z_write hu
  obtain ⟨u1, hu1⟩ : ∃ u1, u1 = mg_up u0 4 (1 + x * 3 + 2) b := ⟨_, rfl⟩
  have hq : ∀ q, q ≠ 4 → u1 q = u0 q := fun q q1 => by rw [hu1, z_up_ne q1]
  have hu1q : ∀ q, q ≠ 4 → q ∉ 0 :: z_ks.map (· + 1) → u1 q = u q := fun q q1 q2 => (hq q q1).trans (k2 q q2)
  obtain ⟨u2, m1, m2, m3⟩ := k3 u1 (fun q hq2 => hq q (by rintro rfl; revert hq2; decide))
  have g43 : u1 43 = u 43 := hu1q 43 (by decide) (by decide)
  have g2 : u2 43 = u 43 := (m2 43 (by decide) (by decide)).trans g43
  obtain ⟨W, hW⟩ : ∃ W, W = mg_up u2 43 (20 + 3 * x + 2) b := ⟨_, rfl⟩
  have hWq : ∀ q, q ≠ 43 → W q = u2 q := fun q q1 => by rw [hW, z_up_ne q1]
  have hWo : ∀ i, i ≠ 20 + 3 * x + 2 → W 43 i = u 43 i := fun i i1 => by rw [hW, zu_ne (by omega), g2]
  have hC : C_rate (nN x) b u = some (.inl (u 43 (20 + 3 * x + 2)), u1) := by
    simp only [C_rate, crH_yes (by omega) HH.2.1 hxl, z_win_yes hb, k1, rg_3_2 (show x < 20 by omega), rp_3_2 (show x < 20 by omega), Option.bind_some, zz_10, ↓reduceIte]
    rw [k2 4 (by decide), tH_at (j := 2) HH hxl (by omega), hu1]
  have hM : M_rate (nN x) b u1 = some (u 43 (20 + 3 * x + 2), mg_up W 42 0 0) := by
    simp (disch := omega) only [M_rate, mrH_yes (by omega) (show u1 43 1 = nN nh by rw [g43]; exact HH.2.2.1) hxl, z_min_yes hb, m1, mheadAt_2 (show x < 20 by omega), zb_20, zo_2, z_nat, z_n0, z_690, or_self, z_done, Option.bind_some, zz_10, ↓reduceIte]
    rw [hW, g2]
  refine ⟨_, _, _, _, 0, hC, hM, rfl, Or.inl ⟨_, rfl, rfl, rfl⟩, z_fin m3 m2 hWq ?_⟩
  refine ⟨nh, np, ns, nq, nd, na, ?_, tP_cg (fun i _ => by rw [hu1q 7 (by decide) (by decide)]) (fun i hi => hWo i (by omega)) HP, tS_cg (fun i _ => by rw [hu1q 10 (by decide) (by decide)]) (fun i hi => hWo i (by omega)) HS, tQ_cg (fun i _ => by rw [hu1q 23 (by decide) (by decide)]) (fun i hi => hWo i (by omega)) HQ, tD_cg (fun i _ => by rw [hu1q 26 (by decide) (by decide)]) (fun i hi => hWo i (by omega)) HD, tC_cg HQ.1 HD.1 (fun i hi => hWo i (by omega)) HC, tA_cg (fun i _ => by rw [hu1q 31 (by decide) (by decide)]) (fun i hi => hWo i (by omega)) HA, tT_cg (fun i _ => by rw [hu1q 13 (by decide) (by decide)]) (fun i hi => hWo i (by omega)) HT, tL_cg (fun i _ => by rw [hu1q 17 (by decide) (by decide)]) (fun i _ => by rw [hu1q 20 (by decide) (by decide)]) (fun i hi => hWo i (by omega)) HL⟩
  exact tH_rate HH hxl (fun i hi => by rw [hu1, zu_ne hi, k2 4 (by decide)]) hWo (by rw [hu1, hW, zu_eq, zu_eq])
theorem sv_0 (b : Int32) (u : mg_Rg) : C_isSettingValue 0 b u = some (if b < 30 ∨ 100 < b then 0 else 1) := by
  unfold C_isSettingValue
  rw [if_neg (by decide), if_pos rfl, z_win]
  by_cases h : b < 30 ∨ 100 < b
  · rw [if_pos h]
    rfl
  · rw [if_neg h]
    rfl
theorem sv_1 (b : Int32) (u : mg_Rg) : C_isSettingValue 1 b u = some (if b < 0 ∨ 99 < b then 0 else 1) := by
  unfold C_isSettingValue
  rw [if_neg (by decide), if_neg (by decide), if_pos rfl, z_win]
  by_cases h : b < 0 ∨ 99 < b
  · rw [if_pos h]
    rfl
  · rw [if_neg h]
    rfl
theorem sv_2 (b : Int32) (u : mg_Rg) : C_isSettingValue 2 b u = some (if b < 0 ∨ 99999 < b then 0 else 1) := by
  unfold C_isSettingValue
  rw [if_neg (by decide), if_neg (by decide), if_neg (by decide), if_pos rfl, z_win]
  by_cases h : b < 0 ∨ 99999 < b
  · rw [if_pos h]
    rfl
  · rw [if_neg h]
    rfl
theorem sv_other {a : Int32} (b : Int32) (u : mg_Rg) (h0 : ¬ a = 0) (h1 : ¬ a = 1) (h2 : ¬ a = 2) : C_isSettingValue a b u = some 0 := by
  unfold C_isSettingValue
  rcases z_row (n := 3) (by omega) a with ⟨r, hr, rfl, -⟩ | ⟨-, d⟩
  · rcases (show r = 0 ∨ r = 1 ∨ r = 2 by omega) with rfl | rfl | rfl
    · exact absurd rfl h0
    · exact absurd rfl h1
    · exact absurd rfl h2
  · have d : a < 0 ∨ (2 : Int32) < a := d
    rw [Int32.lt_iff_toInt_lt, Int32.lt_iff_toInt_lt] at d
    exact if_pos d
theorem ob_9 : Ob_9 z_I := by
  intro u hu a b
  obtain ⟨nh, np, ns, nq, nd, na, HH, HP, HS, HQ, HD, HC, HA, HT, HL⟩ := hu.1
  by_cases ha0 : a = 0
  · subst ha0
    by_cases hb : b < 30 ∨ 100 < b
    case pos =>
      refine ⟨.inr 1, u, 0, mg_up u 42 0 1, 1, ?_, ?_, rfl, Or.inr ⟨rfl, rfl⟩, z_I_thrown 1 hu⟩
      · unfold C_set
        rw [sv_0, if_pos hb]
        rfl
      · unfold M_set
        rw [if_pos rfl, z_min_no hb]
        rfl
    obtain ⟨u0, k1, k2, k3⟩ := z_write hu
    obtain ⟨u1, hu1⟩ : ∃ u1, u1 = mg_up u0 13 1 b := ⟨_, rfl⟩
    have hq : ∀ q, q ≠ 13 → u1 q = u0 q := fun q q1 => by rw [hu1, z_up_ne q1]
    have hu1q : ∀ q, q ≠ 13 → q ∉ 0 :: z_ks.map (· + 1) → u1 q = u q := fun q q1 q2 => (hq q q1).trans (k2 q q2)
    obtain ⟨u2, m1, m2, m3⟩ := k3 u1 (fun q hq2 => hq q (by rintro rfl; revert hq2; decide))
    have g43 : u1 43 = u 43 := hu1q 43 (by decide) (by decide)
    have g2 : u2 43 = u 43 := (m2 43 (by decide) (by decide)).trans g43
    obtain ⟨W, hW⟩ : ∃ W, W = mg_up u2 43 10 b := ⟨_, rfl⟩
    have hWq : ∀ q, q ≠ 43 → W q = u2 q := fun q q1 => by rw [hW, z_up_ne q1]
    have hWo : ∀ i, i ≠ 10 → W 43 i = u 43 i := fun i i1 => by rw [hW, zu_ne (by omega), g2]
    have hC : C_set 0 b u = some (.inl (u 43 10), u1) := by
      unfold C_set
      rw [sv_0, if_neg hb]
      simp only [Tf_setting, k1, rg_12_0, rp_12_0, Option.bind_some, zz_10, ↓reduceIte]
      rw [k2 13 (by decide), show u 13 (0 + 1) = u 43 (10 + 0) by rw [Nat.add_comm 0 1]; exact HT 0 (by omega), hu1]
    have hM : M_set 0 b u1 = some (u 43 10, mg_up W 42 0 0) := by
      unfold M_set
      rw [if_pos rfl, z_min_yes hb]
      simp only [Option.bind_some, zz_10, ↓reduceIte]
      rw [m1]
      simp only [Option.bind_some, zz_10, ↓reduceIte]
      rw [if_neg (by decide), show ((10 : Int32) + 0).toNatClampNeg = 10 by decide, g2, hW]
      rfl
    refine ⟨_, _, _, _, 0, hC, hM, rfl, Or.inl ⟨_, rfl, rfl, rfl⟩, z_fin m3 m2 hWq ?_⟩
    refine ⟨nh, np, ns, nq, nd, na, tH_cg (fun i _ => by rw [hu1q 4 (by decide) (by decide)]) (fun i hi => hWo i (by omega)) HH, tP_cg (fun i _ => by rw [hu1q 7 (by decide) (by decide)]) (fun i hi => hWo i (by omega)) HP, tS_cg (fun i _ => by rw [hu1q 10 (by decide) (by decide)]) (fun i hi => hWo i (by omega)) HS, tQ_cg (fun i _ => by rw [hu1q 23 (by decide) (by decide)]) (fun i hi => hWo i (by omega)) HQ, tD_cg (fun i _ => by rw [hu1q 26 (by decide) (by decide)]) (fun i hi => hWo i (by omega)) HD, tC_cg HQ.1 HD.1 (fun i hi => hWo i (by omega)) HC, tA_cg (fun i _ => by rw [hu1q 31 (by decide) (by decide)]) (fun i hi => hWo i (by omega)) HA, ?_, tL_cg (fun i _ => by rw [hu1q 17 (by decide) (by decide)]) (fun i _ => by rw [hu1q 20 (by decide) (by decide)]) (fun i hi => hWo i (by omega)) HL⟩
    intro j hj
    by_cases e : j = 0
    · subst e
      rw [hu1, hW, zu_eq, zu_eq]
    · rw [hu1, zu_ne (by omega), k2 13 (by decide), hWo _ (by omega)]
      exact HT j hj
  by_cases ha1 : a = 1
  · subst ha1
    by_cases hb : b < 0 ∨ 99 < b
    case pos =>
      refine ⟨.inr 1, u, 0, mg_up u 42 0 1, 1, ?_, ?_, rfl, Or.inr ⟨rfl, rfl⟩, z_I_thrown 1 hu⟩
      · unfold C_set
        rw [sv_1, if_pos hb]
        rfl
      · unfold M_set
        rw [if_neg (by decide), if_pos rfl, z_min_no hb]
        rfl
    obtain ⟨u0, k1, k2, k3⟩ := z_write hu
    obtain ⟨u1, hu1⟩ : ∃ u1, u1 = mg_up u0 13 2 b := ⟨_, rfl⟩
    have hq : ∀ q, q ≠ 13 → u1 q = u0 q := fun q q1 => by rw [hu1, z_up_ne q1]
    have hu1q : ∀ q, q ≠ 13 → q ∉ 0 :: z_ks.map (· + 1) → u1 q = u q := fun q q1 q2 => (hq q q1).trans (k2 q q2)
    obtain ⟨u2, m1, m2, m3⟩ := k3 u1 (fun q hq2 => hq q (by rintro rfl; revert hq2; decide))
    have g43 : u1 43 = u 43 := hu1q 43 (by decide) (by decide)
    have g2 : u2 43 = u 43 := (m2 43 (by decide) (by decide)).trans g43
    obtain ⟨W, hW⟩ : ∃ W, W = mg_up u2 43 11 b := ⟨_, rfl⟩
    have hWq : ∀ q, q ≠ 43 → W q = u2 q := fun q q1 => by rw [hW, z_up_ne q1]
    have hWo : ∀ i, i ≠ 11 → W 43 i = u 43 i := fun i i1 => by rw [hW, zu_ne (by omega), g2]
    have hC : C_set 1 b u = some (.inl (u 43 11), u1) := by
      unfold C_set
      rw [sv_1, if_neg hb]
      simp only [Tf_setting, k1, rg_12_1, rp_12_1, Option.bind_some, zz_10, ↓reduceIte]
      rw [k2 13 (by decide), show u 13 (1 + 1) = u 43 (10 + 1) by rw [Nat.add_comm 1 1]; exact HT 1 (by omega), hu1]
    have hM : M_set 1 b u1 = some (u 43 11, mg_up W 42 0 0) := by
      unfold M_set
      rw [if_neg (by decide), if_pos rfl, z_min_yes hb]
      simp only [Option.bind_some, zz_10, ↓reduceIte]
      rw [m1]
      simp only [Option.bind_some, zz_10, ↓reduceIte]
      rw [if_neg (by decide), show ((10 : Int32) + 1).toNatClampNeg = 11 by decide, g2, hW]
      rfl
    refine ⟨_, _, _, _, 0, hC, hM, rfl, Or.inl ⟨_, rfl, rfl, rfl⟩, z_fin m3 m2 hWq ?_⟩
    refine ⟨nh, np, ns, nq, nd, na, tH_cg (fun i _ => by rw [hu1q 4 (by decide) (by decide)]) (fun i hi => hWo i (by omega)) HH, tP_cg (fun i _ => by rw [hu1q 7 (by decide) (by decide)]) (fun i hi => hWo i (by omega)) HP, tS_cg (fun i _ => by rw [hu1q 10 (by decide) (by decide)]) (fun i hi => hWo i (by omega)) HS, tQ_cg (fun i _ => by rw [hu1q 23 (by decide) (by decide)]) (fun i hi => hWo i (by omega)) HQ, tD_cg (fun i _ => by rw [hu1q 26 (by decide) (by decide)]) (fun i hi => hWo i (by omega)) HD, tC_cg HQ.1 HD.1 (fun i hi => hWo i (by omega)) HC, tA_cg (fun i _ => by rw [hu1q 31 (by decide) (by decide)]) (fun i hi => hWo i (by omega)) HA, ?_, tL_cg (fun i _ => by rw [hu1q 17 (by decide) (by decide)]) (fun i _ => by rw [hu1q 20 (by decide) (by decide)]) (fun i hi => hWo i (by omega)) HL⟩
    intro j hj
    by_cases e : j = 1
    · subst e
      rw [hu1, hW, zu_eq, zu_eq]
    · rw [hu1, zu_ne (by omega), k2 13 (by decide), hWo _ (by omega)]
      exact HT j hj
  by_cases ha2 : a = 2
  · subst ha2
    by_cases hb : b < 0 ∨ 99999 < b
    case pos =>
      refine ⟨.inr 1, u, 0, mg_up u 42 0 1, 1, ?_, ?_, rfl, Or.inr ⟨rfl, rfl⟩, z_I_thrown 1 hu⟩
      · unfold C_set
        rw [sv_2, if_pos hb]
        rfl
      · unfold M_set
        rw [if_neg (by decide), if_neg (by decide), if_pos rfl, z_min_no hb]
        rfl
    obtain ⟨u0, k1, k2, k3⟩ := z_write hu
    obtain ⟨u1, hu1⟩ : ∃ u1, u1 = mg_up u0 13 3 b := ⟨_, rfl⟩
    have hq : ∀ q, q ≠ 13 → u1 q = u0 q := fun q q1 => by rw [hu1, z_up_ne q1]
    have hu1q : ∀ q, q ≠ 13 → q ∉ 0 :: z_ks.map (· + 1) → u1 q = u q := fun q q1 q2 => (hq q q1).trans (k2 q q2)
    obtain ⟨u2, m1, m2, m3⟩ := k3 u1 (fun q hq2 => hq q (by rintro rfl; revert hq2; decide))
    have g43 : u1 43 = u 43 := hu1q 43 (by decide) (by decide)
    have g2 : u2 43 = u 43 := (m2 43 (by decide) (by decide)).trans g43
    obtain ⟨W, hW⟩ : ∃ W, W = mg_up u2 43 12 b := ⟨_, rfl⟩
    have hWq : ∀ q, q ≠ 43 → W q = u2 q := fun q q1 => by rw [hW, z_up_ne q1]
    have hWo : ∀ i, i ≠ 12 → W 43 i = u 43 i := fun i i1 => by rw [hW, zu_ne (by omega), g2]
    have hC : C_set 2 b u = some (.inl (u 43 12), u1) := by
      unfold C_set
      rw [sv_2, if_neg hb]
      simp only [Tf_setting, k1, rg_12_2, rp_12_2, Option.bind_some, zz_10, ↓reduceIte]
      rw [k2 13 (by decide), show u 13 (2 + 1) = u 43 (10 + 2) by rw [Nat.add_comm 2 1]; exact HT 2 (by omega), hu1]
    have hM : M_set 2 b u1 = some (u 43 12, mg_up W 42 0 0) := by
      unfold M_set
      rw [if_neg (by decide), if_neg (by decide), if_pos rfl, z_min_yes hb]
      simp only [Option.bind_some, zz_10, ↓reduceIte]
      rw [m1]
      simp only [Option.bind_some, zz_10, ↓reduceIte]
      rw [if_neg (by decide), show ((10 : Int32) + 2).toNatClampNeg = 12 by decide, g2, hW]
      rfl
    refine ⟨_, _, _, _, 0, hC, hM, rfl, Or.inl ⟨_, rfl, rfl, rfl⟩, z_fin m3 m2 hWq ?_⟩
    refine ⟨nh, np, ns, nq, nd, na, tH_cg (fun i _ => by rw [hu1q 4 (by decide) (by decide)]) (fun i hi => hWo i (by omega)) HH, tP_cg (fun i _ => by rw [hu1q 7 (by decide) (by decide)]) (fun i hi => hWo i (by omega)) HP, tS_cg (fun i _ => by rw [hu1q 10 (by decide) (by decide)]) (fun i hi => hWo i (by omega)) HS, tQ_cg (fun i _ => by rw [hu1q 23 (by decide) (by decide)]) (fun i hi => hWo i (by omega)) HQ, tD_cg (fun i _ => by rw [hu1q 26 (by decide) (by decide)]) (fun i hi => hWo i (by omega)) HD, tC_cg HQ.1 HD.1 (fun i hi => hWo i (by omega)) HC, tA_cg (fun i _ => by rw [hu1q 31 (by decide) (by decide)]) (fun i hi => hWo i (by omega)) HA, ?_, tL_cg (fun i _ => by rw [hu1q 17 (by decide) (by decide)]) (fun i _ => by rw [hu1q 20 (by decide) (by decide)]) (fun i hi => hWo i (by omega)) HL⟩
    intro j hj
    by_cases e : j = 2
    · subst e
      rw [hu1, hW, zu_eq, zu_eq]
    · rw [hu1, zu_ne (by omega), k2 13 (by decide), hWo _ (by omega)]
      exact HT j hj
  · refine ⟨.inr 1, u, 0, mg_up u 42 0 1, 1, ?_, ?_, rfl, Or.inr ⟨rfl, rfl⟩, z_I_thrown 1 hu⟩
    · unfold C_set
      rw [sv_other b u ha0 ha1 ha2]
      rfl
    · unfold M_set
      rw [if_neg ha0, if_neg ha1, if_neg ha2]
      rfl
theorem zr_row {r : Nat} (x : Int32) (hr : r + 1 < 10) : ∀ (m j : Nat) (u : mg_Rg), j ≤ 4 → 4 < m + j → ∃ u', T_remove_6_L27 m x (nN r) (nN j) u = some u' ∧ (∀ i, i ≠ 7 → u' i = u i) ∧ ∀ i, u' 7 i = if 1 + r * 4 + j ≤ i ∧ i < 1 + r * 4 + 4 then u 7 (i + 4) else u 7 i := by
  intro m
  induction m with
  | zero => intro j u h1 h2; omega
  | succ m ih =>
    intro j u h1 h2
    unfold T_remove_6_L27
    by_cases hj : j = 4
    · subst hj
      refine ⟨u, if_pos (by decide), fun _ _ => rfl, fun i => ?_⟩
      rw [if_neg (by omega)]
    · rw [if_neg (z_n4 (by omega)), zo_1, show T_get_6 (nN (r + 1)) (nN j) u = some _ from tg_6 (by omega) (by omega) u]
      simp only [Option.bind_some]
      rw [show T_put_6 (nN r) (nN j) (u 7 (1 + (r + 1) * 4 + j)) u = some _ from tp_6 (by omega) (by omega) _ u]
      simp only [Option.bind_some]
      obtain ⟨u', h3, h4, h5⟩ := ih (j + 1) (mg_up u 7 (1 + r * 4 + j) (u 7 (1 + (r + 1) * 4 + j))) (by omega) (by omega)
      rw [zo_1]
      refine ⟨u', h3, fun i hi => (h4 i hi).trans (z_up_ne hi), fun i => ?_⟩
      rw [h5 i, z_up_at]
      by_cases hi : i = 1 + r * 4 + j
      · subst hi
        rw [if_neg (by omega), if_pos (by omega), z_upd_at]
        exact congrArg (u 7) (by omega)
      · rw [z_upd_ne hi]
        by_cases hi2 : 1 + r * 4 + (j + 1) ≤ i ∧ i < 1 + r * 4 + 4
        · rw [if_pos hi2, if_pos (by omega), z_upd_ne (by omega)]
        · rw [if_neg hi2, if_neg (by omega)]
theorem zr_rows {l : Nat} (hl : l < 10) : ∀ (m r : Nat) (u : mg_Rg), r ≤ l → l < m + r → ∃ u', T_remove_6_L19 m (nN l) (nN r) u = some u' ∧ (∀ i, i ≠ 7 → u' i = u i) ∧ ∀ i, u' 7 i = if 1 + r * 4 ≤ i ∧ i < 1 + l * 4 then u 7 (i + 4) else u 7 i := by
  intro m
  induction m with
  | zero => intro j u h1 h2; omega
  | succ m ih =>
    intro r u h1 h2
    unfold T_remove_6_L19
    by_cases hr : r = l
    · subst hr
      refine ⟨u, if_pos ((z_le (by omega) (by omega)).mpr (by omega)), fun _ _ => rfl, fun i => ?_⟩
      rw [if_neg (by omega)]
    · obtain ⟨v, q1, q2, q3⟩ := zr_row (r := r) (nN l) (by omega) mg_F 0 u (by omega) (by show 4 < 6000 + 0; omega)
      obtain ⟨u', h3, h4, h5⟩ := ih (r + 1) v (by omega) (by omega)
      rw [if_neg (z_nle (by omega) (by omega) (by omega)), show T_remove_6_L27 mg_F (nN l) (nN r) 0 u = some v from q1]
      refine ⟨u', ?_, fun i hi => (h4 i hi).trans (q2 i hi), fun i => ?_⟩
      · show T_remove_6_L19 m (nN l) (nN r + 1) v = some u'
        rw [zo_1]
        exact h3
      · rw [h5 i, q3 i, q3 (i + 4)]
        by_cases hi : 1 + (r + 1) * 4 ≤ i ∧ i < 1 + l * 4
        · rw [if_pos hi, if_neg (by omega), if_pos (by omega)]
        · rw [if_neg hi]
          by_cases hi2 : 1 + r * 4 + 0 ≤ i ∧ i < 1 + r * 4 + 4
          · rw [if_pos hi2, if_pos (by omega)]
          · rw [if_neg hi2, if_neg (by omega)]
theorem zr_ref {l : Nat} (hl : l < 10) : ∀ (m k : Nat) (u : mg_Rg), u 43 2 = nN (l + 1) → 80 ≤ k → k ≤ 80 + 4 * l → 80 + 4 * l < m + k → ∃ u', M_drop_L33 m (nN k) u = some u' ∧ (∀ i, i ≠ 43 → u' i = u i) ∧ ∀ i, u' 43 i = if k ≤ i ∧ i < 80 + 4 * l then u 43 (i + 4) else u 43 i := by
  intro m
  induction m with
  | zero => intro k u h0 h1 h2 h3; omega
  | succ m ih =>
    intro k u h0 h1 h2 h3
    unfold M_drop_L33
    rw [h0, z_sub1, zb_80]
    by_cases hk : k = 80 + 4 * l
    · subst hk
      refine ⟨u, if_pos ((z_le (by omega) (by omega)).mpr (by omega)), fun _ _ => rfl, fun i => ?_⟩
      rw [if_neg (by omega)]
    · obtain ⟨u', h4, h5, h6⟩ := ih (k + 1) (mg_up u 43 k (u 43 (k + 4))) (by rw [zu_ne (by omega)]; exact h0) (by omega) (by omega) (by omega)
      rw [if_neg (z_nle (by omega) (by omega) (by omega)), zo_4, zg (by omega), zg (by omega), z_nat (by omega), z_nat (by omega), zo_1]
      refine ⟨u', h4, fun i hi => (h5 i hi).trans (z_up_ne hi), fun i => ?_⟩
      rw [h6 i, z_up_at]
      by_cases hi : i = k
      · subst hi
        rw [if_neg (by omega), if_pos (by omega), z_upd_at]
      · rw [z_upd_ne hi]
        by_cases hi2 : k + 1 ≤ i ∧ i < 80 + 4 * l
        · rw [if_pos hi2, if_pos (by omega), z_upd_ne (by omega)]
        · rw [if_neg hi2, if_neg (by omega)]
theorem ob_5 : Ob_5 z_I := by
  intro u hu a
  obtain ⟨nh, np, ns, nq, nd, na, HH, HP, HS, HQ, HD, HC, HA, HT, HL⟩ := hu.1
  have hN := HP.1
  by_cases hx : ∃ x, x < np ∧ a = nN x
  case neg =>
    have hx' : ∀ x < np, a ≠ nN x := fun x hl e => hx ⟨x, hl, e⟩
    refine ⟨.inr 0, u, 0, mg_up u 42 0 1, 1, ?_, ?_, rfl, Or.inr ⟨rfl, rfl⟩, z_I_thrown 1 hu⟩
    · simp only [C_drop, chP_no (by omega) HP.2.1 hx', Option.bind_some, zz_10, ↓reduceIte]
    · simp only [M_drop, miP_no (by omega) HP.2.2.1 hx', Option.bind_some, zz_10, ↓reduceIte, z_fails]
  obtain ⟨x, hxl, rfl⟩ := hx
  obtain ⟨l, rfl⟩ : ∃ l, np = l + 1 := ⟨np - 1, by omega⟩
  obtain ⟨u0, k1, k2, k3⟩ := z_write hu
  have e7 : u0 7 = u 7 := k2 7 (by decide)
  obtain ⟨v, q1, q2, q3⟩ := zr_rows (l := l) (by omega) mg_F x u0 (by omega) (by show l < 6000 + x; omega)
  obtain ⟨u1, hu1⟩ : ∃ u1, u1 = mg_up v 7 0 (nN l) := ⟨_, rfl⟩
  have hq : ∀ q, q ≠ 7 → u1 q = u0 q := fun q q1 => by rw [hu1, z_up_ne q1, q2 q q1]
  have hu1q : ∀ q, q ≠ 7 → q ∉ 0 :: z_ks.map (· + 1) → u1 q = u q := fun q q1 q2 => (hq q q1).trans (k2 q q2)
  obtain ⟨u2, m1, m2, m3⟩ := k3 u1 (fun q hq2 => hq q (by rintro rfl; revert hq2; decide))
  have g43 : u1 43 = u 43 := hu1q 43 (by decide) (by decide)
  have g2 : u2 43 = u 43 := (m2 43 (by decide) (by decide)).trans g43
  have gn : u2 43 2 = nN (l + 1) := by rw [g2]; exact HP.2.2.1
  obtain ⟨w, r1, r2, r3⟩ := zr_ref (l := l) (by omega) mg_F (80 + 4 * x) u2 gn (by omega) (by omega) (by show 80 + 4 * l < 6000 + (80 + 4 * x); omega)
  have wn : w 43 2 = nN (l + 1) := by rw [r3 2, if_neg (by omega)]; exact gn
  obtain ⟨W, hW⟩ : ∃ W, W = mg_up w 43 2 (nN l) := ⟨_, rfl⟩
  have hWq : ∀ q, q ≠ 43 → W q = u2 q := fun q q1 => by rw [hW, z_up_ne q1, r2 q q1]
  have hWo : ∀ i, (i < 80 + 4 * x ∨ 80 + 4 * l ≤ i) ∧ i ≠ 2 → W 43 i = u 43 i := fun i i1 => by rw [hW, zu_ne (by omega), r3 i, if_neg (by omega), g2]
  have hWs : ∀ i, 80 + 4 * x ≤ i ∧ i < 80 + 4 * l → W 43 i = u 43 (i + 4) := fun i i1 => by rw [hW, zu_ne (by omega), r3 i, if_pos (by omega), g2]
  have hC : C_drop (nN x) u = some (.inl (nN l), u1) := by
    have hR : T_remove_6 (nN x) u0 = some u1 := by
      have ec : T_count_6 u0 = some (nN (l + 1)) := by rw [← HP.2.1, ← e7]; rfl
      unfold T_remove_6
      rw [ec]
      simp only [Option.bind_some, z_sub1]
      rw [if_neg (z_nn (by omega)), if_pos ((z_le (by omega) (by omega)).mpr (by omega)), q1, hu1]
      rfl
    simp only [C_drop, chP_yes (by omega) HP.2.1 hxl, k1, hR, T_count_6, Option.bind_some, zz_10, ↓reduceIte]
    rw [hu1, zu_eq]
  have hM : M_drop (nN x) u1 = some (nN l, mg_up W 42 0 0) := by
    simp only [M_drop, miP_yes (u := u1) (by omega) (show u1 43 2 = nN (l + 1) by rw [g43]; exact HP.2.2.1) hxl, m1, zb_80, r1, zu_eq, wn, z_sub1, z_done, Option.bind_some, zz_10, ↓reduceIte]
    rw [hW]
  refine ⟨_, _, _, _, 0, hC, hM, rfl, Or.inl ⟨_, rfl, rfl, rfl⟩, z_fin m3 m2 hWq ?_⟩
  refine ⟨nh, l, ns, nq, nd, na, tH_cg (fun i _ => by rw [hu1q 4 (by decide) (by decide)]) (fun i hi => hWo i (by omega)) HH, ?_, tS_cg (fun i _ => by rw [hu1q 10 (by decide) (by decide)]) (fun i hi => hWo i (by omega)) HS, tQ_cg (fun i _ => by rw [hu1q 23 (by decide) (by decide)]) (fun i hi => hWo i (by omega)) HQ, tD_cg (fun i _ => by rw [hu1q 26 (by decide) (by decide)]) (fun i hi => hWo i (by omega)) HD, tC_cg HQ.1 HD.1 (fun i hi => hWo i (by omega)) HC, tA_cg (fun i _ => by rw [hu1q 31 (by decide) (by decide)]) (fun i hi => hWo i (by omega)) HA, tT_cg (fun i _ => by rw [hu1q 13 (by decide) (by decide)]) (fun i hi => hWo i (by omega)) HT, tL_cg (fun i _ => by rw [hu1q 17 (by decide) (by decide)]) (fun i _ => by rw [hu1q 20 (by decide) (by decide)]) (fun i hi => hWo i (by omega)) HL⟩
  have f1 : ∀ i, i ≠ 0 → (i < 1 + x * 4 ∨ 1 + l * 4 ≤ i) → u1 7 i = u 7 i := fun i i1 i2 => by rw [hu1, zu_ne i1, q3 i, if_neg (by omega), e7]
  have f2 : ∀ i, 1 + x * 4 ≤ i → i < 1 + l * 4 → u1 7 i = u 7 (i + 4) := fun i i1 i2 => by rw [hu1, zu_ne (by omega), q3 i, if_pos (by omega), e7]
  obtain ⟨h1, h2, h3, h4, h5⟩ := HP
  refine ⟨by omega, by rw [hu1, zu_eq], by rw [hW, zu_eq], fun i hi => ?_, fun h hh => ?_⟩
  · by_cases e : i < 4 * x
    · rw [f1 _ (by omega) (by omega), hWo _ (by omega)]
      exact h4 i (by omega)
    · rw [f2 _ (by omega) (by omega), hWs _ (by omega)]
      exact h4 (i + 4) (by omega)
  · by_cases e : h < x
    · rw [hWo _ (by omega)]
      exact h5 h (by omega)
    · rw [hWs _ (by omega)]
      exact h5 (h + 1) (by omega)
theorem z_slot_at {u : mg_Rg} {w : mg_Rg} {s k i : Nat} (h : w k = va_cpy (u (k + 1)) (u k) (s * z_len k) 0 (z_len k)) (hi : i < z_len k) : w k i = z_slot u s k i := by
  rw [h]
  unfold va_cpy z_slot
  rw [if_pos (by omega)]
  rfl
theorem ob_34 : Ob_34 z_I := by
  intro u hu
  obtain ⟨hr, ⟨s, m, hs, hm, h6, h7, h3, hring⟩, hkp, htx, hrf, hqt⟩ := id hu
  by_cases h0 : m = 0
  · subst h0
    refine ⟨.inr 2, u, 0, mg_up u 42 0 1, 1, ?_, ?_, rfl, Or.inr ⟨rfl, rfl⟩, z_I_thrown 1 hu⟩
    · unfold C_undo
      exact if_pos h7
    · unfold M_undo
      rw [if_pos (show u 42 3 = 0 from h3)]
      rfl
  obtain ⟨m, rfl⟩ : ∃ k, m = k + 1 := ⟨m - 1, by omega⟩
  have n7 : ¬ u 0 7 = 0 := by rw [h7]; exact z_nne (b := 0) (by omega) (by omega) (by omega)
  have n3 : ¬ u 42 3 = 0 := by rw [h3]; exact z_nne (b := 0) (by omega) (by omega) (by omega)
  have es : ((nN s + 8) - 1) - ((nN s + 8) - 1) / 8 * 8 = nN ((s + 7) % 8) := by
    have : ∀ s : Fin 8, ((nN s.val + 8) - 1) - ((nN s.val + 8) - 1) / 8 * 8 = nN ((s.val + 7) % 8) := by decide
    exact this ⟨s, hs⟩
  obtain ⟨w, hw⟩ : ∃ w, w = mg_up (mg_up u 0 6 (nN ((s + 7) % 8))) 0 7 (nN m) := ⟨_, rfl⟩
  have hwq : ∀ q, q ≠ 0 → w q = u q := fun q q1 => by rw [hw, z_up_ne q1, z_up_ne q1]
  have hw6 : w 0 6 = nN ((s + 7) % 8) := by rw [hw, zu_ne (by decide), zu_eq]
  have hw7 : w 0 7 = nN m := by rw [hw, zu_eq]
  have hwo : ∀ i, i ≠ 6 → i ≠ 7 → w 0 i = u 0 i := fun i i1 i2 => by rw [hw, zu_ne i2, zu_ne i1]
  obtain ⟨u1, b1, b2, b3⟩ := z_bringFrom (s := (s + 7) % 8) (by omega) w
  have b0 : u1 0 = w 0 := b3 0 (by decide)
  have hC : C_undo u = some (.inl (nN m), u1) := by
    unfold C_undo
    rw [if_neg n7, h6, es, show mg_up u 0 6 (nN ((s + 7) % 8)) 0 7 = nN (m + 1) by rw [zu_ne (by decide)]; exact h7, z_sub1, ← hw, hw6, b1]
    simp only [Option.bind_some]
    rw [b0, hw7]
  have e42 : u1 42 = u 42 := (b3 42 (by decide)).trans (hwq 42 (by decide))
  have e44 : u1 44 = u 44 := (b3 44 (by decide)).trans (hwq 44 (by decide))
  obtain ⟨x, c1, c2, c3⟩ := zc_44_43 (a := 690 * m) (b := 0) (by omega) (by omega) mg_F 0 (mg_up u1 42 3 (nN m)) (by omega) (by show 690 < 6000 + 0; omega)
  have x3 : x 42 3 = nN m := by rw [c2 42 (by decide), zu_eq]
  have hM : M_undo u1 = some (nN m, mg_up x 42 0 0) := by
    unfold M_undo
    rw [if_neg (by rw [e42]; exact n3), show u1 42 3 - 1 = nN m by rw [e42, h3, z_sub1], zu_eq]
    unfold M_copy_44_43
    rw [show (nN m * 690 : Int32) = nN (690 * m) by rw [Nat.mul_comm]; exact (Int32.ofNat_mul m 690).symm, show M_copy_44_43_L3 mg_F (nN (690 * m)) 0 0 _ = some x from c1]
    simp only [Option.bind_some, z_done, x3]
  have xq : ∀ q, q ≠ 43 → q ≠ 42 → x q = u1 q := fun q q1 q2 => by rw [c2 q q1, z_up_ne q2]
  have x42 : ∀ i, i ≠ 3 → x 42 i = u 42 i := fun i i1 => by rw [c2 42 (by decide), zu_ne i1, e42]
  have hsl : ∀ k ∈ z_ks, x (k + 1) = u (k + 1) := fun k hk => by
    have : k + 1 ∉ z_ks ∧ k + 1 ≠ 0 ∧ k + 1 ≠ 43 ∧ k + 1 ≠ 42 := by
      simp only [z_ks, List.mem_cons, List.not_mem_nil, or_false] at hk ⊢
      omega
    rw [xq _ this.2.2.1 this.2.2.2, b3 _ this.1, hwq _ this.2.1]
  refine ⟨_, _, _, _, 0, hC, hM, rfl, Or.inl ⟨_, rfl, rfl, rfl⟩, z_I_thrown 0 ⟨?_, ⟨(s + 7) % 8, m, by omega, by omega, ?_, ?_, x3, fun j hj => ?_⟩, ?_, ?_, ?_, ?_⟩⟩
  · refine z_rel_cg (fun k hk i hi => ?_) (fun i hi => ?_) (hring m (by omega))
    · have : k ≠ 43 ∧ k ≠ 42 := by
        simp only [z_ks, List.mem_cons, List.not_mem_nil, or_false] at hk
        omega
      rw [xq k this.1 this.2, z_slot_at (b2 k hk) hi]
      unfold z_slot
      rw [hwq _ (Nat.succ_ne_zero k), show (s + 8 - (m + 1) + m) % 8 = (s + 7) % 8 by omega]
    · rw [c3 i, if_pos (by omega), z_up_ne (by decide), e44]
      exact congrArg (u 44) (by omega)
  · rw [xq 0 (by decide) (by decide), b0, hw6]
  · rw [xq 0 (by decide) (by decide), b0, hw7]
  · rw [show ((s + 7) % 8 + 8 - m + j) % 8 = (s + 8 - (m + 1) + j) % 8 by omega, xq 44 (by decide) (by decide), e44]
    exact z_rel_congr (z_slot_congr hsl _) (hring j (by omega))
  · have e0 : x 0 8 = u 0 8 := by rw [xq 0 (by decide) (by decide), b0, hwo 8 (by decide) (by decide)]
    have e45 : x 45 = u 45 := by rw [xq 45 (by decide) (by decide), b3 45 (by decide), hwq 45 (by decide)]
    rcases hkp with ⟨d1, d2⟩ | ⟨d1, d2, d3⟩
    · exact Or.inl ⟨e0.trans d1, (x42 5 (by decide)).trans d2⟩
    · refine Or.inr ⟨e0.trans d1, (x42 5 (by decide)).trans d2, ?_⟩
      rw [e45]
      exact z_rel_congr (z_slot_congr hsl _) d3
  · obtain ⟨n, t1, t2, t3, t4, t5⟩ := htx
    have e37 : x 37 = u 37 := by rw [xq 37 (by decide) (by decide), b3 37 (by decide), hwq 37 (by decide)]
    have e38 : x 38 = u 38 := by rw [xq 38 (by decide) (by decide), b3 38 (by decide), hwq 38 (by decide)]
    have e47 : x 47 = u 47 := by rw [xq 47 (by decide) (by decide), b3 47 (by decide), hwq 47 (by decide)]
    exact ⟨n, t1, by rw [e37]; exact t2, (x42 10 (by decide)).trans t3, fun i hi => by rw [e38, e47]; exact t4 i hi, by rw [e37, x42 11 (by decide)]; exact t5⟩
  · rw [xq 0 (by decide) (by decide), b0, hwo 9 (by decide) (by decide), x42 8 (by decide)]
    exact hrf
  · exact (x42 7 (by decide)).trans hqt
theorem ob_35 : Ob_35 z_I := by
  intro u hu
  obtain ⟨hr, ⟨s, m, hs, hm, h6, h7, h3, hring⟩, hkp, htx, hrf, hqt⟩ := id hu
  obtain ⟨nh, np, ns, nq, nd, na, HH, HP, HS, HQ, HD, HC, HA, HT, HL⟩ := hu.1
  obtain ⟨v, b1, b2, b3⟩ := z_keepIn (s := 8) (by omega) u
  obtain ⟨u1, hu1⟩ : ∃ u1, u1 = mg_up v 0 8 1 := ⟨_, rfl⟩
  have hq : ∀ q, q ≠ 0 → u1 q = v q := fun q q1 => by rw [hu1, z_up_ne q1]
  have hC : C_save u = some (nN nd, u1) := by
    unfold C_save
    rw [show C_keepIn 8 u = some v from b1]
    simp only [Option.bind_some, T_count_25]
    rw [← hu1, hq 26 (by decide), b3 26 (by decide), HD.2.1]
  obtain ⟨x, c1, c2, c3⟩ := zc_43_45 (a := 0) (b := 0) (by omega) (by omega) mg_F 0 u1 (by omega) (by show 690 < 6000 + 0; omega)
  obtain ⟨y, hy⟩ : ∃ y, y = mg_up x 42 5 1 := ⟨_, rfl⟩
  have y43 : y 43 = u 43 := by rw [hy, z_up_ne (by decide), c2 43 (by decide), hq 43 (by decide), b3 43 (by decide)]
  have hM : M_save u1 = some (nN nd, mg_up y 42 0 0) := by
    unfold M_save M_copy_43_45
    rw [show M_copy_43_45_L3 mg_F 0 0 0 u1 = some x from c1]
    simp only [Option.bind_some, z_done]
    rw [← hy, y43, HD.2.2.1]
  have yq : ∀ q, q ≠ 45 → q ≠ 42 → q ≠ 0 → y q = v q := fun q q1 q2 q3 => by rw [hy, z_up_ne q2, c2 q q1, hq q q3]
  have y0 : ∀ i, i ≠ 8 → y 0 i = u 0 i := fun i i1 => by rw [hy, z_up_ne (by decide), c2 0 (by decide), hu1, zu_ne i1, b3 0 (by decide)]
  have y42 : ∀ i, i ≠ 5 → y 42 i = u 42 i := fun i i1 => by rw [hy, zu_ne i1, c2 42 (by decide), hq 42 (by decide), b3 42 (by decide)]
  have hsl : ∀ t, ∀ k ∈ z_ks, ∀ i < z_len k, z_slot y t k i = if t = 8 then u k i else z_slot u t k i := fun t k hk i hi => by
    have : k + 1 ≠ 45 ∧ k + 1 ≠ 42 ∧ k + 1 ≠ 0 := by
      simp only [z_ks, List.mem_cons, List.not_mem_nil, or_false] at hk
      omega
    unfold z_slot
    rw [yq _ this.1 this.2.1 this.2.2, b2 k hk]
    exact z_cpy_at hi
  refine ⟨_, _, _, hC, hM, z_I_thrown 0 ⟨?_, ⟨s, m, hs, hm, (y0 6 (by decide)).trans h6, (y0 7 (by decide)).trans h7, (y42 3 (by decide)).trans h3, fun j hj => ?_⟩, ?_, ?_, ?_, (y42 7 (by decide)).trans hqt⟩⟩
  · rw [y43]
    refine z_rel_congr (fun k hk => ?_) hr
    have : k ∉ z_ks.map (· + 1) ∧ k ≠ 45 ∧ k ≠ 42 ∧ k ≠ 0 := by
      simp only [z_ks, List.map, List.mem_cons, List.not_mem_nil, or_false] at hk ⊢
      omega
    rw [yq k this.2.1 this.2.2.1 this.2.2.2, b3 k this.1]
  · rw [yq 44 (by decide) (by decide) (by decide), b3 44 (by decide)]
    exact z_rel_cg (fun k hk i hi => by rw [hsl _ k hk i hi, if_neg (by omega)]) (fun _ _ => rfl) (hring j hj)
  · refine Or.inr ⟨by rw [hy, z_up_ne (by decide), c2 0 (by decide), hu1, zu_eq], by rw [hy, zu_eq], ?_⟩
    refine z_rel_cg (fun k hk i hi => by rw [hsl _ k hk i hi, if_pos rfl]) (fun i hi => ?_) hr
    rw [hy, z_up_ne (by decide), c3 i, if_pos (by omega), hq 43 (by decide), b3 43 (by decide)]
    exact congrArg (u 43) (by omega)
  · obtain ⟨n, t1, t2, t3, t4, t5⟩ := htx
    have e37 : y 37 = u 37 := by rw [yq 37 (by decide) (by decide) (by decide), b3 37 (by decide)]
    have e38 : y 38 = u 38 := by rw [yq 38 (by decide) (by decide) (by decide), b3 38 (by decide)]
    have e47 : y 47 = u 47 := by rw [yq 47 (by decide) (by decide) (by decide), b3 47 (by decide)]
    exact ⟨n, t1, by rw [e37]; exact t2, (y42 10 (by decide)).trans t3, fun i hi => by rw [e38, e47]; exact t4 i hi, by rw [e37, y42 11 (by decide)]; exact t5⟩
  · rw [y0 9 (by decide), y42 8 (by decide)]
    exact hrf
theorem z_kfu0 {u u0 : mg_Rg} (hu : z_I u) (h : C_keepForUndo u = some u0) : ∀ i, i ≠ 6 → i ≠ 7 → u0 0 i = u 0 i := by
  obtain ⟨-, ⟨s, m, hs, hm, h6, h7, -, -⟩, -⟩ := hu
  obtain ⟨u', k1, -, -, k4, -⟩ := z_kfu hs hm h6 h7
  rw [h] at k1
  cases k1
  exact k4
theorem ob_36 : Ob_36 z_I := by
  intro u hu
  obtain ⟨hr, -, hkp, -⟩ := id hu
  rcases hkp with ⟨d1, d2⟩ | ⟨d1, d2, d3⟩
  · refine ⟨.inr 2, u, 0, mg_up u 42 0 1, 1, ?_, ?_, rfl, Or.inr ⟨rfl, rfl⟩, z_I_thrown 1 hu⟩
    · unfold C_restore
      exact if_pos d1
    · unfold M_restore
      rw [if_pos d2]
      rfl
  obtain ⟨u0, k1, k2, k3⟩ := z_write hu
  have k0 := z_kfu0 hu k1
  obtain ⟨u1, b1, b2, b3⟩ := z_bringFrom (s := 8) (by omega) u0
  obtain ⟨u2, m1, m2, m3⟩ := k3 u1 (fun q hq2 => b3 q (by
    simp only [z_ws, z_ks, List.mem_cons, List.not_mem_nil, or_false] at hq2 ⊢
    omega))
  obtain ⟨x, c1, c2, c3⟩ := zc_45_43 (a := 0) (b := 0) (by omega) (by omega) mg_F 0 u2 (by omega) (by show 690 < 6000 + 0; omega)
  have e08 : u2 0 8 = 1 := by rw [m2 0 (by decide) (by decide), b3 0 (by decide), k0 8 (by decide) (by decide)]; exact d1
  have hK : z_rel (z_slot u2 8) (u2 45) := by
    rcases m3.2.1 with ⟨q, -⟩ | ⟨-, -, q⟩
    · rw [e08] at q
      exact absurd q (by decide)
    · exact q
  have hrel : z_rel u1 (x 43) := by
    refine z_rel_cg (fun k hk i hi => ?_) (fun i hi => ?_) hK
    · have : k + 1 ≠ 44 ∧ k + 1 ≠ 42 ∧ k + 1 ∉ z_ks := by
        simp only [z_ks, List.mem_cons, List.not_mem_nil, or_false] at hk ⊢
        omega
      rw [z_slot_at (b2 k hk) hi]
      unfold z_slot
      rw [m2 _ this.1 this.2.1, b3 _ this.2.2]
    · rw [c3 i, if_pos (by omega)]
      exact congrArg (u2 45) (by omega)
  obtain ⟨nh, np, ns, nq, nd, na, -, -, -, -, HD, -⟩ := id hrel
  have hC : C_restore u = some (.inl (nN nd), u1) := by
    unfold C_restore
    rw [if_neg (by rw [d1]; decide), k1]
    simp only [Option.bind_some]
    rw [show C_bringFrom 8 u0 = some u1 from b1]
    simp only [Option.bind_some, T_count_25]
    rw [HD.2.1]
  have e42 : u1 42 5 = 1 := by rw [b3 42 (by decide), k2 42 (by decide)]; exact d2
  have hM : M_restore u1 = some (nN nd, mg_up x 42 0 0) := by
    unfold M_restore M_copy_45_43
    rw [if_neg (by rw [e42]; decide), m1]
    simp only [Option.bind_some]
    rw [show M_copy_45_43_L3 mg_F 0 0 0 u2 = some x from c1]
    simp only [Option.bind_some, z_done]
    rw [HD.2.2.1]
  exact ⟨_, _, _, _, 0, hC, hM, rfl, Or.inl ⟨_, rfl, rfl, rfl⟩, z_fin m3 m2 (fun q q1 => c2 q q1) hrel⟩
