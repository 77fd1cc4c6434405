/-! prove -/
theorem z_pos {q : Nat} (h1 : 1 ≤ q) (h2 : q ≤ 999) : ¬ nN q ≤ 0 ∧ ¬ nN q = 0 :=
  ⟨z_nle (b := 0) (by omega) (by omega) (by omega), z_nne (b := 0) (by omega) (by omega) (by omega)⟩
theorem c_scal (a b : Int32) {q : Nat} (h1 : 1 ≤ q) (h2 : q ≤ 999) (u : mg_Rg) : C_scaled a b (nN q) u = some (a * b / nN q) := by
  obtain ⟨a1, a2⟩ := z_pos h1 h2
  unfold C_scaled
  rw [if_neg a1, if_neg a2]
theorem c_inq {d q : Nat} (hd : d < 30) (h1 : 1 ≤ q) (h2 : q ≤ 999) {u : mg_Rg} (e1 : u 26 (1 + d * 15 + 1) = nN q) : O_valueInQuota (nN d) u = some (u 26 (1 + d * 15 + 2) * u 26 (1 + d * 15 + 8) / nN q) := by
  unfold O_valueInQuota
  rw [rg_25_2 hd, rg_25_8 hd, rg_25_1 hd, e1]
  simp only [Option.bind_some]
  rw [c_scal _ _ h1 h2]
  rfl
theorem c_sec {d q : Nat} (hd : d < 30) (h1 : 1 ≤ q) (h2 : q ≤ 999) {u : mg_Rg} (e1 : u 26 (1 + d * 15 + 1) = nN q) (r : Int32) : O_secondPart (nN d) r u = some ((u 26 (1 + d * 15 + 2) - u 26 (1 + d * 15 + 2) * u 26 (1 + d * 15 + 8) / nN q) * r / 1000) := by
  unfold O_secondPart
  rw [rg_25_2 hd, c_inq hd h1 h2 e1]
  rfl
theorem m_inq {d q : Nat} (hd : d < 30) (h1 : 1 ≤ q) (h2 : q ≤ 999) {u : mg_Rg} (e1 : u 43 (208 + 16 * d + 1) = nN q) : M_inQuota (nN d) u = some (u 43 (208 + 16 * d + 2) * u 43 (208 + 16 * d + 8) / nN q) := by
  obtain ⟨a1, a2⟩ := z_pos h1 h2
  unfold M_inQuota
  rw [mdeclAt_2 hd, mdeclAt_8 hd, mdeclAt_1 hd, e1]
  simp only [Option.bind_some]
  rw [if_neg a2]
theorem ob_22 : Ob_22 z_I := by
  intro u hu a p
  obtain ⟨nh, np, ns, nq, nd, na, HH, HP, HS, HQ, HD, HC, HA, HT, HL⟩ := hu.1
  have hD30 := HD.1
  have hQ6 := HQ.1
  by_cases hx : ∃ x, x < nd ∧ a = nN x
  case neg =>
    have hx' : ∀ x < nd, a ≠ nN x := fun x hl e => hx ⟨x, hl, e⟩
    refine ⟨.inr 0, u, 0, mg_up u 42 0 1, 1, ?_, ?_, rfl, Or.inr (Or.inl ⟨rfl, rfl⟩), z_I_thrown 1 hu⟩
    · simp only [C_prove, crD_no (by omega) HD.2.1 hx', Option.bind_some, zz_10, ↓reduceIte]
    · simp only [M_prove, mrD_no (by omega) HD.2.2.1 hx', Option.bind_some, zz_10, ↓reduceIte, z_fails]
  obtain ⟨x, hxl, rfl⟩ := hx
  have hx30 : x < 30 := by omega
  by_cases hp : p < 1 ∨ 2 < p
  case pos =>
    refine ⟨.inr 1, u, 0, mg_up u 42 0 2, 2, ?_, ?_, rfl, Or.inr (Or.inr (Or.inl ⟨rfl, rfl⟩)), z_I_thrown 2 hu⟩
    · simp only [C_prove, crD_yes (by omega) HD.2.1 hxl, z_win_no hp, Option.bind_some, zz_10, ↓reduceIte]
    · simp only [M_prove, mrD_yes (by omega) HD.2.2.1 hxl, z_min_no hp, Option.bind_some, zz_10, ↓reduceIte, z_fails]
  obtain ⟨w0, ⟨qq, qq1, qq2, qq3⟩, ⟨oc, oc1, oc2⟩, w5, w7, w6, w8⟩ := HD.2.2.2.2 x hxl
  by_cases hh : s_hind (u 43) x = 0
  case neg =>
    refine ⟨.inr 4, mg_up u 0 9 (s_hind (u 43) x), 0, mg_up (mg_up (mg_up u 0 9 (s_hind (u 43) x)) 42 8 (s_hind (u 43) x)) 42 0 3, 3, ?_, ?_, rfl, Or.inr (Or.inr (Or.inr ⟨rfl, rfl⟩)), z_I_thrown 3 (z_I_ref _ hu)⟩
    · simp only [C_prove, crD_yes (by omega) HD.2.1 hxl, z_win_yes hp, C_requireNoRefusal, c_hind HD HT HL hxl, hh, Option.bind_some, zz_10, ↓reduceIte]
    · have e43 : mg_up u 0 9 (s_hind (u 43) x) 43 = u 43 := z_up_ne (by decide)
      simp only [M_prove, mrD_yes (u := mg_up u 0 9 (s_hind (u 43) x)) (by omega) (show mg_up u 0 9 (s_hind (u 43) x) 43 5 = nN nd by rw [e43]; exact HD.2.2.1) hxl, z_min_yes hp, m_hind hx30, e43, hh, Option.bind_some, zz_10, ↓reduceIte, z_fails]
  obtain ⟨u0, k1, k2, k3⟩ := z_write hu
  obtain ⟨g1, hg1⟩ : ∃ g1, g1 = upd (u 43) (208 + 16 * x + 4) p := ⟨_, rfl⟩
  have gn : ∀ i, i ≠ 208 + 16 * x + 4 → g1 i = u 43 i := fun i hi => by rw [hg1, z_upd_ne hi]
  have g4 : g1 (208 + 16 * x + 4) = p := by rw [hg1, z_upd_at]
  obtain ⟨e1, he1⟩ : ∃ e1, e1 = mg_up u0 26 (1 + x * 15 + 4) p := ⟨_, rfl⟩
  have e1q : ∀ q, q ≠ 26 → e1 q = u0 q := fun q q1 => by rw [he1, z_up_ne q1]
  have e1u : ∀ q, q ≠ 26 → q ∉ 0 :: z_ks.map (· + 1) → e1 q = u q := fun q q1 q2 => (e1q q q1).trans (k2 q q2)
  have e126 : ∀ i, i ≠ 1 + x * 15 + 4 → e1 26 i = u 26 i := fun i hi => by rw [he1, zu_ne hi, k2 26 (by decide)]
  have e14 : e1 26 (1 + x * 15 + 4) = p := by rw [he1, zu_eq]
  have HH1 : tH nh (e1 4) g1 := tH_cg (fun i _ => by rw [e1u 4 (by decide) (by decide)]) (fun i hi => gn i (by omega)) HH
  have HP1 : tP np (e1 7) g1 := tP_cg (fun i _ => by rw [e1u 7 (by decide) (by decide)]) (fun i hi => gn i (by omega)) HP
  have HS1 : tS ns (e1 10) g1 := tS_cg (fun i _ => by rw [e1u 10 (by decide) (by decide)]) (fun i hi => gn i (by omega)) HS
  have HT1 : tT (e1 13) g1 := tT_cg (fun i _ => by rw [e1u 13 (by decide) (by decide)]) (fun i hi => gn i (by omega)) HT
  have R8 : z_row8 e1 g1 x := ⟨hx30, fun j hj => by
    by_cases h : j = 4
    · subst h
      rw [e14, g4]
    · rw [e126 _ (by omega), gn _ (by omega)]
      exact HD.2.2.2.1 x hxl j (by omega)⟩
  have w01 : ∃ p < nh, g1 (208 + 16 * x) = nN p := by rw [gn _ (by omega)]; exact w0
  obtain ⟨rate, hrate⟩ : ∃ rate, rate = s_grD g1 x := ⟨_, rfl⟩
  obtain ⟨e2, he2⟩ : ∃ e2, e2 = z_gd e1 g1 x := ⟨_, rfl⟩
  have e2q : ∀ q, q ≠ 28 → e2 q = e1 q := fun q q1 => by rw [he2, z_gd_ne q1]
  have hr : Tf_leastRate_28 e2 = some rate := by rw [he2, c_grD HH1 HP1 HS1 HT1 w01, hrate]
  have hld : O_loadGoods (nN x) e1 = some e2 := by rw [c_load R8, he2]
  obtain ⟨second, hsec⟩ : ∃ second, second = (u 43 (208 + 16 * x + 2) - u 43 (208 + 16 * x + 2) * u 43 (208 + 16 * x + 8) / nN qq) * rate / 1000 := ⟨_, rfl⟩
  have r26 : ∀ j < 15, j ≠ 4 → e2 26 (1 + x * 15 + j) = u 43 (208 + 16 * x + j) := fun j hj h => by
    rw [e2q 26 (by decide), e126 _ (by omega)]
    exact HD.2.2.2.1 x hxl j hj
  have hse : O_secondPart (nN x) rate e2 = some second := by
    rw [c_sec hx30 qq1 qq2 (by rw [r26 1 (by omega) (by omega)]; exact qq3), r26 2 (by omega) (by omega), r26 8 (by omega) (by omega), hsec]
  have h10 : T_get_25 (nN x) 10 e2 = some (u 43 (208 + 16 * x + 10)) := by rw [rg_25_10 hx30, r26 10 (by omega) (by omega)]
  obtain ⟨less, hless⟩ : ∃ less, less = u 43 (208 + 16 * x + 10) - second := ⟨_, rfl⟩
  -- the reference's side, from any state with the same row
  have hMs : ∀ w : mg_Rg, w 43 = g1 → M_rateNow (nN x) w = some rate ∧ M_declAt (nN x) 2 w = some (u 43 (208 + 16 * x + 2)) ∧ M_inQuota (nN x) w = some (u 43 (208 + 16 * x + 2) * u 43 (208 + 16 * x + 8) / nN qq) ∧ M_declAt (nN x) 10 w = some (u 43 (208 + 16 * x + 10)) ∧ M_fromNow (nN x) w = some (s_gfD g1 rate x) := by
    intro w hw
    refine ⟨?_, ?_, ?_, ?_, ?_⟩
    · rw [m_grD (f := e1 4) (f2 := e1 7) (f3 := e1 10) (by rw [hw]; exact HH1) (by rw [hw]; exact HP1) (by rw [hw]; exact HS1) hx30 (by rw [hw]; exact w01), hw, hrate]
    · rw [mdeclAt_2 hx30, hw, gn _ (by omega)]
    · rw [m_inq hx30 qq1 qq2 (by rw [hw, gn _ (by omega)]; exact qq3), hw, gn _ (by omega), gn _ (by omega)]
    · rw [mdeclAt_10 hx30, hw, gn _ (by omega)]
    · rw [m_gfD (f := e1 4) (f2 := e1 7) (f3 := e1 10) (by rw [hw]; exact HH1) (by rw [hw]; exact HP1) (by rw [hw]; exact HS1) hx30 (by rw [hw]; exact w01), hw, hrate]
  by_cases hl : 0 < less
  · obtain ⟨src, hsrc⟩ : ∃ src, src = s_gfD g1 rate x := ⟨_, rfl⟩
    obtain ⟨e3, he3⟩ : ∃ e3, e3 = mg_up (mg_up e2 26 (1 + x * 15 + 10) second) 26 (1 + x * 15 + 12) rate := ⟨_, rfl⟩
    have e3q : ∀ q, q ≠ 26 → e3 q = e2 q := fun q q1 => by rw [he3, z_up_ne q1, z_up_ne q1]
    have hso : Tf_sourceOf_28 rate e3 = some src := by
      rw [c_gfD (u := e3) (g := g1) (nh := nh) (np := np) (d := x) (by rw [e3q 4 (by decide), e2q 4 (by decide)]; exact HH1) (by rw [e3q 7 (by decide), e2q 7 (by decide)]; exact HP1) (by rw [e3q 13 (by decide), e2q 13 (by decide)]; exact HT1) w01 rate (by rw [e3q 28 (by decide), he2]; rfl) (by rw [e3q 28 (by decide), he2]; rfl) (by rw [e3q 28 (by decide), he2]; rfl) (by rw [e3q 28 (by decide), he2]; rfl), hsrc]
    obtain ⟨e4, he4⟩ : ∃ e4, e4 = mg_up e3 26 (1 + x * 15 + 13) src := ⟨_, rfl⟩
    have e4q : ∀ q, q ≠ 26 → q ≠ 28 → e4 q = e1 q := fun q q1 q2 => by rw [he4, z_up_ne q1, e3q q q1, e2q q q2]
    have e426 : ∀ i, i ≠ 1 + x * 15 + 10 → i ≠ 1 + x * 15 + 12 → i ≠ 1 + x * 15 + 13 → e4 26 i = e1 26 i := fun i i1 i2 i3 => by rw [he4, zu_ne i3, he3, zu_ne i2, zu_ne i1, e2q 26 (by decide)]
    have e410 : e4 26 (1 + x * 15 + 10) = second := by rw [he4, zu_ne (by omega), he3, zu_ne (by omega), zu_eq]
    have e412 : e4 26 (1 + x * 15 + 12) = rate := by rw [he4, zu_ne (by omega), he3, zu_eq]
    have e413 : e4 26 (1 + x * 15 + 13) = src := by rw [he4, zu_eq]
    have h43 : e4 26 (1 + x * 15 + 3) = nN oc := by rw [e426 _ (by omega) (by omega) (by omega), e126 _ (by omega), HD.2.2.2.1 x hxl 3 (by omega)]; exact oc2
    obtain ⟨u1, hu1⟩ : ∃ u1, u1 = mg_up (mg_up (mg_up e4 26 (1 + x * 15 + 11) (e4 26 (1 + x * 15 + 11) + less)) 17 3 (e4 17 3 + less)) 20 (1 + oc) (e4 20 (1 + oc) - less) := ⟨_, rfl⟩
    have hC : C_prove (nN x) p u = some (.inl less, u1) := by
      simp only [C_prove, crD_yes (by omega) HD.2.1 hxl, z_win_yes hp, C_requireNoRefusal, c_hind HD HT HL hxl, hh, k1, O_takeProof, rp_25_4 hx30, Option.bind_some, zz_10, ↓reduceIte]
      rw [← he1, hld]
      simp only [Option.bind_some]
      rw [hr]
      simp only [Option.bind_some]
      rw [hse, h10]
      simp only [Option.bind_some]
      rw [← hless, if_pos hl, rp_25_10 hx30]
      simp only [Option.bind_some]
      rw [rp_25_12 hx30]
      simp only [Option.bind_some]
      rw [← he3, hso]
      simp only [Option.bind_some]
      rw [rp_25_13 hx30]
      simp only [Option.bind_some]
      rw [← he4, c_gives hx30 oc1 h43, ← hu1]
      rfl
    have hq1 : ∀ q', q' ≠ 26 → q' ≠ 28 → q' ≠ 17 → q' ≠ 20 → u1 q' = u0 q' := fun q' q1 q2 q3 q4 => by rw [hu1, z_up_ne q4, z_up_ne q3, z_up_ne q1, e4q q' q1 q2, e1q q' q1]
    have hu1q : ∀ q', q' ≠ 26 → q' ≠ 28 → q' ≠ 17 → q' ≠ 20 → q' ∉ 0 :: z_ks.map (· + 1) → u1 q' = u q' := fun q' q1 q2 q3 q4 q5 => (hq1 q' q1 q2 q3 q4).trans (k2 q' q5)
    obtain ⟨u2, m1, m2, m3⟩ := k3 u1 (fun q' hq2 => hq1 q' (by rintro rfl; revert hq2; decide) (by rintro rfl; revert hq2; decide) (by rintro rfl; revert hq2; decide) (by rintro rfl; revert hq2; decide))
    have g43 : u1 43 = u 43 := hu1q 43 (by decide) (by decide) (by decide) (by decide) (by decide)
    have g2 : u2 43 = u 43 := (m2 43 (by decide) (by decide)).trans g43
    obtain ⟨w1, hw1⟩ : ∃ w1, w1 = mg_up u2 43 (208 + 16 * x + 4) p := ⟨_, rfl⟩
    have w143 : w1 43 = g1 := by rw [hw1, z_up_at, g2, hg1]
    have w1q : ∀ q', q' ≠ 43 → w1 q' = u2 q' := fun q' q1 => by rw [hw1, z_up_ne q1]
    obtain ⟨s1, s2, s3, s4, s5⟩ := hMs w1 w143
    obtain ⟨y, hy⟩ : ∃ y, y = mg_up (mg_up (mg_up w1 43 (208 + 16 * x + 13) src) 43 (208 + 16 * x + 12) rate) 43 (208 + 16 * x + 10) second := ⟨_, rfl⟩
    have yo : ∀ i, i ≠ 208 + 16 * x + 13 → i ≠ 208 + 16 * x + 12 → i ≠ 208 + 16 * x + 10 → y 43 i = g1 i := fun i i1 i2 i3 => by rw [hy, zu_ne i3, zu_ne i2, zu_ne i1, w143]
    have y10 : y 43 (208 + 16 * x + 10) = second := by rw [hy, zu_eq]
    have y12 : y 43 (208 + 16 * x + 12) = rate := by rw [hy, zu_ne (by omega), zu_eq]
    have y13 : y 43 (208 + 16 * x + 13) = src := by rw [hy, zu_ne (by omega), zu_ne (by omega), zu_eq]
    have y3 : y 43 (208 + 16 * x + 3) = nN oc := by rw [yo _ (by omega) (by omega) (by omega), gn _ (by omega)]; exact oc2
    obtain ⟨W, hW⟩ : ∃ W, W = mg_up (mg_up (mg_up y 43 (208 + 16 * x + 11) (y 43 (208 + 16 * x + 11) + less)) 43 8 (y 43 8 + less)) 43 (200 + oc) (y 43 (200 + oc) - less) := ⟨_, rfl⟩
    have hgv : M_givesBack (nN x) less y = some (less, W) := by rw [m_gives hx30 oc1 y3, hW]
    have hWq : ∀ q', q' ≠ 43 → W q' = u2 q' := fun q' q1 => by rw [hW, z_up_ne q1, z_up_ne q1, z_up_ne q1, hy, z_up_ne q1, z_up_ne q1, z_up_ne q1, w1q q' q1]
    have Wy : ∀ i, i ≠ 208 + 16 * x + 11 → i ≠ 8 → i ≠ 200 + oc → W 43 i = y 43 i := fun i i1 i2 i3 => by rw [hW, zu_ne i3, zu_ne i2, zu_ne i1]
    have hM : M_prove (nN x) p u1 = some (less, mg_up W 42 0 0) := by
      simp only [M_prove, mrD_yes (u := u1) (by omega) (show u1 43 5 = nN nd by rw [g43]; exact HD.2.2.1) hxl, z_min_yes hp, m_hind hx30, g43, hh, m1, Option.bind_some, zz_10, ↓reduceIte, zb_208, zo_4, zo_13, zo_12, zo_10]
      rw [zg (by omega), z_nat (by omega), ← hw1, s1]
      simp only [Option.bind_some]
      rw [s2]
      simp only [Option.bind_some]
      rw [s3]
      simp only [Option.bind_some]
      rw [s4]
      simp only [Option.bind_some]
      rw [← hsec, ← hless, if_pos hl, s5]
      simp only [Option.bind_some]
      rw [zg (by omega), zg (by omega), zg (by omega), z_nat (by omega), z_nat (by omega), z_nat (by omega), ← hsrc, ← hy, hgv]
      rfl
    refine ⟨_, _, _, _, 0, hC, hM, rfl, Or.inl ⟨_, rfl, rfl, rfl⟩, z_fin m3 m2 hWq ?_⟩
    have go : ∀ i, (i < 208 + 16 * x ∨ 208 + 16 * x + 16 ≤ i) → i ≠ 8 → i ≠ 200 + oc → W 43 i = u 43 i := fun i i1 i2 i3 => by rw [Wy i (by omega) i2 i3, yo i (by omega) (by omega) (by omega), gn i (by omega)]
    have gr : ∀ j < 15, j ≠ 4 → j ≠ 10 → j ≠ 11 → j ≠ 12 → j ≠ 13 → W 43 (208 + 16 * x + j) = u 43 (208 + 16 * x + j) := fun j hj j1 j2 j3 j4 j5 => by rw [Wy _ (by omega) (by omega) (by omega), yo _ (by omega) (by omega) (by omega), gn _ (by omega)]
    have fr : ∀ c', c' ≠ 26 → c' ≠ 28 → c' ≠ 17 → c' ≠ 20 → c' ∉ 0 :: z_ks.map (· + 1) → ∀ i, u1 c' i = u c' i := fun c' a1 a2 a3 a4 a5 i => by rw [hu1q c' a1 a2 a3 a4 a5]
    have n26 : ∀ i, i ≠ 1 + x * 15 + 11 → u1 26 i = e4 26 i := fun i i1 => by rw [hu1, z_up_ne (by decide), z_up_ne (by decide), zu_ne i1]
    refine ⟨nh, np, ns, nq, nd, na, tH_cg (fun i _ => fr 4 (by decide) (by decide) (by decide) (by decide) (by decide) i) (fun i hi => go i (by omega) (by omega) (by omega)) HH, tP_cg (fun i _ => fr 7 (by decide) (by decide) (by decide) (by decide) (by decide) i) (fun i hi => go i (by omega) (by omega) (by omega)) HP, tS_cg (fun i _ => fr 10 (by decide) (by decide) (by decide) (by decide) (by decide) i) (fun i hi => go i (by omega) (by omega) (by omega)) HS, tQ_cg (fun i _ => fr 23 (by decide) (by decide) (by decide) (by decide) (by decide) i) (fun i hi => go i (by omega) (by omega) (by omega)) HQ, ?_, ?_, tA_cg (fun i _ => fr 31 (by decide) (by decide) (by decide) (by decide) (by decide) i) (fun i hi => go i (by omega) (by omega) (by omega)) HA, tT_cg (fun i _ => fr 13 (by decide) (by decide) (by decide) (by decide) (by decide) i) (fun i hi => go i (by omega) (by omega) (by omega)) HT, ?_⟩
    · refine tD_row HD hxl (by rw [n26 _ (by omega), e426 _ (by omega) (by omega) (by omega), e126 _ (by omega)]) (go 5 (by omega) (by omega) (by omega)) (fun h hh hne j hj => by rw [n26 _ (by omega), e426 _ (by omega) (by omega) (by omega), e126 _ (by omega)]) (fun h hh hne j hj => go _ (by omega) (by omega) (by omega)) (fun j hj => ?_) ⟨by rw [show W 43 (208 + 16 * x) = u 43 (208 + 16 * x) from gr 0 (by omega) (by omega) (by omega) (by omega) (by omega) (by omega)]; exact w0, ⟨qq, qq1, qq2, by rw [gr 1 (by omega) (by omega) (by omega) (by omega) (by omega) (by omega)]; exact qq3⟩, ⟨oc, oc1, by rw [gr 3 (by omega) (by omega) (by omega) (by omega) (by omega) (by omega)]; exact oc2⟩, by rw [gr 5 (by omega) (by omega) (by omega) (by omega) (by omega) (by omega)]; exact w5, by rw [gr 7 (by omega) (by omega) (by omega) (by omega) (by omega) (by omega)]; exact w7, by rw [gr 8 (by omega) (by omega) (by omega) (by omega) (by omega) (by omega)]; exact w6, by rw [gr 7 (by omega) (by omega) (by omega) (by omega) (by omega) (by omega), gr 5 (by omega) (by omega) (by omega) (by omega) (by omega) (by omega), gr 8 (by omega) (by omega) (by omega) (by omega) (by omega) (by omega)]; exact w8⟩
      by_cases j11 : j = 11
      · subst j11
        rw [hu1, z_up_ne (by decide), z_up_ne (by decide), zu_eq, hW, zu_ne (by omega), zu_ne (by omega), zu_eq, e426 _ (by omega) (by omega) (by omega), e126 _ (by omega), yo _ (by omega) (by omega) (by omega), gn _ (by omega), HD.2.2.2.1 x hxl 11 (by omega)]
      · rw [n26 _ (by omega), Wy _ (by omega) (by omega) (by omega)]
        by_cases j10 : j = 10
        · subst j10
          rw [e410, y10]
        · by_cases j12 : j = 12
          · subst j12
            rw [e412, y12]
          · by_cases j13 : j = 13
            · subst j13
              rw [e413, y13]
            · rw [e426 _ (by omega) (by omega) (by omega), yo _ (by omega) (by omega) (by omega)]
              by_cases j4 : j = 4
              · subst j4
                rw [e14, g4]
              · rw [e126 _ (by omega), gn _ (by omega)]
                exact HD.2.2.2.1 x hxl j hj
    · intro q' hq'
      rw [go _ (by omega) (by omega) (by omega), go (138 + 9 * q' + 7) (by omega) (by omega) (by omega), z_sum_cg2 (g := u 43) (g' := W 43) (fun d hd => ?_)]
      · exact HC q' hq'
      · by_cases h : d = x
        · subst h
          exact ⟨gr 5 (by omega) (by omega) (by omega) (by omega) (by omega) (by omega), gr 8 (by omega) (by omega) (by omega) (by omega) (by omega) (by omega)⟩
        · exact ⟨go _ (by omega) (by omega) (by omega), go _ (by omega) (by omega) (by omega)⟩
    · have n17 : ∀ i, i ≠ 3 → u1 17 i = u 17 i := fun i i1 => by rw [hu1, z_up_ne (by decide), zu_ne i1, z_up_ne (by decide), e4q 17 (by decide) (by decide), e1u 17 (by decide) (by decide)]
      refine tL_back oc1 HL less (n17 1 (by omega)) (n17 2 (by omega)) ?_ (fun j hj => ?_) (go 0 (by omega) (by omega) (by omega)) (go 7 (by omega) (by omega) (by omega)) ?_ (fun j hj => ?_)
      · rw [hu1, z_up_ne (by decide), zu_eq, e4q 17 (by decide) (by decide), e1u 17 (by decide) (by decide)]
      · by_cases h : j = oc
        · subst h
          rw [if_pos rfl, hu1, zu_eq, e4q 20 (by decide) (by decide), e1u 20 (by decide) (by decide)]
        · rw [if_neg h, hu1, zu_ne (by omega), z_up_ne (by decide), z_up_ne (by decide), e4q 20 (by decide) (by decide), e1u 20 (by decide) (by decide)]
      · rw [hW, zu_ne (by omega), zu_eq, yo _ (by omega) (by omega) (by omega), gn _ (by omega)]
      · by_cases h : j = oc
        · subst h
          rw [if_pos rfl, hW, zu_eq, yo _ (by omega) (by omega) (by omega), gn _ (by omega)]
        · rw [if_neg h, hW, zu_ne (by omega), zu_ne (by omega), zu_ne (by omega), yo _ (by omega) (by omega) (by omega), gn _ (by omega)]
  · have hC : C_prove (nN x) p u = some (.inl 0, e2) := by
      simp only [C_prove, crD_yes (by omega) HD.2.1 hxl, z_win_yes hp, C_requireNoRefusal, c_hind HD HT HL hxl, hh, k1, O_takeProof, rp_25_4 hx30, Option.bind_some, zz_10, ↓reduceIte]
      rw [← he1, hld]
      simp only [Option.bind_some]
      rw [hr]
      simp only [Option.bind_some]
      rw [hse, h10]
      simp only [Option.bind_some]
      rw [← hless, if_neg hl]
      rfl
    have hq1 : ∀ q', q' ≠ 26 → q' ≠ 28 → e2 q' = u0 q' := fun q' q1 q2 => by rw [e2q q' q2, e1q q' q1]
    have hu1q : ∀ q', q' ≠ 26 → q' ≠ 28 → q' ∉ 0 :: z_ks.map (· + 1) → e2 q' = u q' := fun q' q1 q2 q5 => (hq1 q' q1 q2).trans (k2 q' q5)
    obtain ⟨u2, m1, m2, m3⟩ := k3 e2 (fun q' hq2 => hq1 q' (by rintro rfl; revert hq2; decide) (by rintro rfl; revert hq2; decide))
    have g43 : e2 43 = u 43 := hu1q 43 (by decide) (by decide) (by decide)
    have g2 : u2 43 = u 43 := (m2 43 (by decide) (by decide)).trans g43
    obtain ⟨w1, hw1⟩ : ∃ w1, w1 = mg_up u2 43 (208 + 16 * x + 4) p := ⟨_, rfl⟩
    have w143 : w1 43 = g1 := by rw [hw1, z_up_at, g2, hg1]
    have w1q : ∀ q', q' ≠ 43 → w1 q' = u2 q' := fun q' q1 => by rw [hw1, z_up_ne q1]
    obtain ⟨s1, s2, s3, s4, s5⟩ := hMs w1 w143
    have hM : M_prove (nN x) p e2 = some (0, mg_up w1 42 0 0) := by
      simp only [M_prove, mrD_yes (u := e2) (by omega) (show e2 43 5 = nN nd by rw [g43]; exact HD.2.2.1) hxl, z_min_yes hp, m_hind hx30, g43, hh, m1, Option.bind_some, zz_10, ↓reduceIte, zb_208, zo_4, zo_13, zo_12, zo_10]
      rw [zg (by omega), z_nat (by omega), ← hw1, s1]
      simp only [Option.bind_some]
      rw [s2]
      simp only [Option.bind_some]
      rw [s3]
      simp only [Option.bind_some]
      rw [s4]
      simp only [Option.bind_some]
      rw [← hsec, ← hless, if_neg hl]
      rfl
    refine ⟨_, _, _, _, 0, hC, hM, rfl, Or.inl ⟨_, rfl, rfl, rfl⟩, z_fin m3 m2 w1q ?_⟩
    rw [w143]
    have fr : ∀ c', c' ≠ 26 → c' ≠ 28 → c' ∉ 0 :: z_ks.map (· + 1) → ∀ i, e2 c' i = u c' i := fun c' a1 a2 a5 i => by rw [hu1q c' a1 a2 a5]
    refine ⟨nh, np, ns, nq, nd, na, tH_cg (fun i _ => fr 4 (by decide) (by decide) (by decide) i) (fun i hi => gn i (by omega)) HH, tP_cg (fun i _ => fr 7 (by decide) (by decide) (by decide) i) (fun i hi => gn i (by omega)) HP, tS_cg (fun i _ => fr 10 (by decide) (by decide) (by decide) i) (fun i hi => gn i (by omega)) HS, tQ_cg (fun i _ => fr 23 (by decide) (by decide) (by decide) i) (fun i hi => gn i (by omega)) HQ, ?_, ?_, tA_cg (fun i _ => fr 31 (by decide) (by decide) (by decide) i) (fun i hi => gn i (by omega)) HA, tT_cg (fun i _ => fr 13 (by decide) (by decide) (by decide) i) (fun i hi => gn i (by omega)) HT, tL_cg (fun i _ => fr 17 (by decide) (by decide) (by decide) i) (fun i _ => fr 20 (by decide) (by decide) (by decide) i) (fun i hi => gn i (by omega)) HL⟩
    · refine tD_row HD hxl (by rw [e2q 26 (by decide), e126 _ (by omega)]) (gn 5 (by omega)) (fun h hh hne j hj => by rw [e2q 26 (by decide), e126 _ (by omega)]) (fun h hh hne j hj => gn _ (by omega)) (fun j hj => ?_) ⟨by rw [gn _ (by omega)]; exact w0, ⟨qq, qq1, qq2, by rw [gn _ (by omega)]; exact qq3⟩, ⟨oc, oc1, by rw [gn _ (by omega)]; exact oc2⟩, by rw [gn _ (by omega)]; exact w5, by rw [gn _ (by omega)]; exact w7, by rw [gn _ (by omega)]; exact w6, by rw [gn (208 + 16 * x + 7) (by omega), gn (208 + 16 * x + 5) (by omega), gn (208 + 16 * x + 8) (by omega)]; exact w8⟩
      by_cases j4 : j = 4
      · subst j4
        rw [e2q 26 (by decide), e14, g4]
      · rw [r26 j hj j4, gn _ (by omega)]
    · intro q' hq'
      rw [gn _ (by omega), gn (138 + 9 * q' + 7) (by omega), z_sum_cg2 (g := u 43) (g' := g1) (fun d hd => ⟨gn _ (by omega), gn _ (by omega)⟩)]
      exact HC q' hq'
