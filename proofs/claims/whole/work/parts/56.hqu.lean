/-! heading, quota -/
theorem tD_mono {nh nq nh' nq' n : Nat} {f g : z_Ro} (h1 : nh ≤ nh') (h2 : nq ≤ nq') (H : tD nh nq n f g) : tD nh' nq' n f g := by
  obtain ⟨a1, a2, a3, a4, a5⟩ := H
  refine ⟨a1, a2, a3, a4, fun d hd => ?_⟩
  obtain ⟨⟨p, b1, b2⟩, c2, c3, c4, c5⟩ := a5 d hd
  exact ⟨⟨p, by omega, b2⟩, c2, c3, c4.imp id (fun ⟨q, q1, q2⟩ => ⟨q, by omega, q2⟩), c5⟩
theorem z_winN {c : Int32} {lo hi : Nat} (hlo : lo < 2147483648) (hhi : hi < 2147483648) (h : ¬ (c < nN lo ∨ nN hi < c)) : ∃ l, lo ≤ l ∧ l ≤ hi ∧ c = nN l := by
  have h0 : ¬ c < 0 := by
    intro q
    refine h (Or.inl ?_)
    rw [Int32.lt_iff_toInt_lt] at q ⊢
    have e0 : (0 : Int32).toInt = 0 := rfl
    rw [Int32.toInt_ofNat_of_lt hlo]
    omega
  obtain ⟨l, hl, rfl⟩ := z_of h0
  refine ⟨l, ?_, ?_, rfl⟩
  · refine Nat.le_of_not_lt (fun q => h (Or.inl ((z_lt hl hlo).mpr q)))
  · refine Nat.le_of_not_lt (fun q => h (Or.inr ((z_lt hhi hl).mpr q)))
theorem z_sum_zero {g : z_Ro} {q : Nat} : ∀ n, (∀ d < n, ¬ g (208 + 16 * d + 5) = nN q) → z_sum g q n = 0 := by
  intro n
  induction n with
  | zero => exact fun _ => rfl
  | succ n ih =>
    intro h
    unfold z_sum
    rw [ih (fun d hd => h d (by omega)), if_neg (h n (by omega))]
theorem c_taken {N : Nat} {g : z_Ro} {u : mg_Rg} (HH : tH N (u 4) g) (p d : Int32) : Tf_isTaken p d u = some (if s_taken g p d = true then 1 else 0) := by
  have hN := HH.1
  have h1 : T_count_3 u = some (nN N) := by rw [← HH.2.1]; rfl
  have hl : ∀ r n k, k + r = N → r < n → ∃ q, Tf_isTaken_L2 n p d (nN k) u = some q ∧ q.elim (fun _ => (0 : Int32)) id = if s_or (fun k => decide (g (20 + 3 * k) = p) && decide (g (20 + 3 * k + 1) = d)) r k = true then 1 else 0 := by
    intro r
    induction r with
    | zero =>
      intro n k hk hn
      cases n with
      | zero => omega
      | succ n =>
        unfold Tf_isTaken_L2
        rw [h1]
        simp only [Option.bind_some]
        rw [if_pos ((z_le (by omega) (by omega)).mpr (by omega))]
        exact ⟨_, rfl, rfl⟩
    | succ r ih =>
      intro n k hk hn
      cases n with
      | zero => omega
      | succ n =>
        have i1 := ih n (k + 1) (by omega) (by omega)
        unfold Tf_isTaken_L2 s_or
        rw [h1]
        simp only [Option.bind_some]
        rw [if_neg (z_nle (by omega) (by omega) (by omega)), cH_0 HH (by omega), cH_1 HH (by omega)]
        simp only [Option.bind_some, zo_1]
        by_cases e1 : g (20 + 3 * k) = p
        · rw [if_pos e1, decide_eq_true e1]
          by_cases e2 : g (20 + 3 * k + 1) = d
          · rw [if_pos e2, decide_eq_true e2]
            exact ⟨_, rfl, rfl⟩
          · rw [if_neg e2, decide_eq_false e2]
            exact i1
        · rw [if_neg e1, decide_eq_false e1]
          exact i1
  obtain ⟨q, h3, h4⟩ := hl N mg_F 0 (by omega) (by show N < 6000; omega)
  unfold Tf_isTaken s_taken
  rw [HH.2.2.1, z_nat (by omega), show Tf_isTaken_L2 mg_F p d 0 u = _ from h3, ← h4]
  cases q <;> rfl
theorem m_taken {N : Nat} {f : z_Ro} {u : mg_Rg} (HH : tH N f (u 43)) (p d : Int32) (b : Bool) : M_heading_L30 mg_F p d (if b = true then 1 else 0) 0 u = some (if (b && !s_taken (u 43) p d) = true then 1 else 0, u) := by
  have hN := HH.1
  have h0 := HH.2.2.1
  have hl : ∀ r n k (b : Bool), k + r = N → r < n → M_heading_L30 n p d (if b = true then 1 else 0) (nN k) u = some (if (b && !s_or (fun k => decide (u 43 (20 + 3 * k) = p) && decide (u 43 (20 + 3 * k + 1) = d)) r k) = true then 1 else 0, u) := by
    intro r
    induction r with
    | zero =>
      intro n k b hk hn
      cases n with
      | zero => omega
      | succ n =>
        unfold M_heading_L30
        rw [h0, if_pos ((z_le (by omega) (by omega)).mpr (by omega))]
        cases b <;> rfl
    | succ r ih =>
      intro n k b hk hn
      cases n with
      | zero => omega
      | succ n =>
        have i1 := ih n (k + 1) b (by omega) (by omega)
        have i2 := ih n (k + 1) false (by omega) (by omega)
        unfold M_heading_L30 s_or
        rw [h0, if_neg (z_nle (by omega) (by omega) (by omega)), mheadAt_0 (by omega), mheadAt_1 (by omega)]
        simp only [Option.bind_some, zo_1]
        have a1 : (if b = true then (1 : Int32) else 0) &&& 1 = if b = true then 1 else 0 := by cases b <;> rfl
        have a0 : (if b = true then (1 : Int32) else 0) &&& 0 = if false = true then 1 else 0 := by cases b <;> rfl
        rw [a1, a0]
        by_cases e1 : u 43 (20 + 3 * k) = p
        · rw [if_pos e1, decide_eq_true e1]
          by_cases e2 : u 43 (20 + 3 * k + 1) = d
          · rw [if_pos e2, decide_eq_true e2, i2]
            cases b <;> rfl
          · rw [if_neg e2, decide_eq_false e2]
            exact i1
        · rw [if_neg e1, decide_eq_false e1]
          exact i1
  have h3 := hl N mg_F 0 b (by omega) (by show N < 6000; omega)
  unfold s_taken
  rw [h0, z_nat (by omega)]
  exact h3
theorem m_taken1 {N : Nat} {f : z_Ro} {u : mg_Rg} (HH : tH N f (u 43)) (p d : Int32) : M_heading_L30 mg_F p d 1 0 u = some (if s_taken (u 43) p d = true then 0 else 1, u) := by
  have h := m_taken HH p d true
  cases e : s_taken (u 43) p d <;> rw [e] at h <;> exact h
theorem m_taken0 {N : Nat} {f : z_Ro} {u : mg_Rg} (HH : tH N f (u 43)) (p d : Int32) : M_heading_L30 mg_F p d 0 0 u = some (0, u) := m_taken HH p d false
theorem s_level_top (g : z_Ro) : s_level g (-1) = 0 := by
  unfold s_level s_W
  rw [s_way_top]
  rfl
theorem m_level_top (u : mg_Rg) : M_lengthOf (-1) u = some (s_level (u 43) (-1)) := by
  rw [s_level_top]
  rfl
theorem c_level_top (g : z_Ro) (u : mg_Rg) : Tf_levelOf (-1) u = some (s_level g (-1)) := by
  rw [s_level_top]
  rfl
theorem z_lev4 {N h : Nat} {f g : z_Ro} (H : tH N f g) (hh : h < N) : (s_level g (nN h) < 4 ∧ ¬ s_level g (nN h) = 4) ∨ (¬ s_level g (nN h) < 4 ∧ s_level g (nN h) = 4) := by
  obtain ⟨-, h2⟩ := s_W_ok H hh
  unfold s_level
  by_cases e : (s_W g (nN h)).length = 4
  · rw [e]
    exact Or.inr ⟨by decide, rfl⟩
  · exact Or.inl ⟨(z_lt (b := 4) (by omega) (by omega)).mpr (by omega), z_nne (b := 4) (by omega) (by omega) e⟩
theorem e_day {u : mg_Rg} (HL : tL (u 17) (u 20) (u 43)) : Lg_day u = some (u 43 0) := by
  unfold Lg_day
  rw [rg_16_0, show u 17 (0 + 1) = u 43 0 from HL.1]
  rfl
theorem ob_0 : Ob_0 z_I := by
  intro u hu a b
  obtain ⟨nh, np, ns, nq, nd, na, HH, HP, HS, HQ, HD, HC, HA, HT, HL⟩ := hu.1
  have hN := HH.1
  by_cases ha : a = -1
  · subst ha
    have hl4 : (s_level (u 43) (-1) < 4 ∧ ¬ s_level (u 43) (-1) = 4) ∨ (¬ s_level (u 43) (-1) < 4 ∧ s_level (u 43) (-1) = 4) := by
      rw [s_level_top]
      exact Or.inl ⟨by decide, by decide⟩
    by_cases hb : b < 1 ∨ 9 < b
    case pos =>
      refine ⟨.inr 1, u, 0, mg_up u 42 0 2, 2, ?_, ?_, rfl, Or.inr (Or.inr (Or.inl ⟨rfl, rfl⟩)), z_I_thrown 2 hu⟩
      · simp only [C_heading, z_win_no hb, Option.bind_some, zz_10, ↓reduceIte]
      · simp only [M_heading, z_min_no hb, m_taken0 HH, Option.bind_some, zz_10, ↓reduceIte, z_fails]
    cases ht : s_taken (u 43) (-1) b with
    | true =>
      refine ⟨.inr 1, u, 0, mg_up u 42 0 2, 2, ?_, ?_, rfl, Or.inr (Or.inr (Or.inl ⟨rfl, rfl⟩)), z_I_thrown 2 hu⟩
      · simp only [C_heading, z_win_yes hb, c_taken HH, ht, Option.bind_some, zz_10, ↓reduceIte]
      · simp only [M_heading, z_min_yes hb, m_taken1 HH, ht, Option.bind_some, zz_10, ↓reduceIte, z_fails]
    | false =>
      by_cases hf : nh < 20
      case neg =>
        have e9 : nh = 20 := by omega
        have e8 : u 43 1 = 20 := by rw [HH.2.2.1, e9]; rfl
        refine ⟨.inr 2, u, 0, mg_up u 42 0 3, 3, ?_, ?_, rfl, Or.inr (Or.inr (Or.inr ⟨rfl, rfl⟩)), z_I_thrown 3 hu⟩
        · simp only [C_heading, z_win_yes hb, c_taken HH, ht, zf_3_yes HH.2.1 HH.1 hf, Bool.false_eq_true, Option.bind_some, zz_10, ↓reduceIte]
        · simp only [M_heading, z_min_yes hb, m_taken1 HH, ht, e8, Bool.false_eq_true, Option.bind_some, zz_10, ↓reduceIte, z_fails]
      have hfn : ¬ u 43 1 = 20 := by rw [HH.2.2.1]; exact z_nne (b := 20) (by omega) (by omega) (by omega)
      rcases hl4 with ⟨l1, l2⟩ | ⟨l1, l2⟩
      case inr =>
        refine ⟨.inr 2, u, 0, mg_up u 42 0 3, 3, ?_, ?_, rfl, Or.inr (Or.inr (Or.inr ⟨rfl, rfl⟩)), z_I_thrown 3 hu⟩
        · simp only [C_heading, z_win_yes hb, c_taken HH, ht, zf_3_no HH.2.1 hf, c_level_top (u 43), l1, Bool.false_eq_true, Option.bind_some, zz_10, ↓reduceIte]
        · simp only [M_heading, z_min_yes hb, m_taken1 HH, ht, hfn, m_level_top, l2, Bool.false_eq_true, Option.bind_some, zz_10, ↓reduceIte, z_fails]
      obtain ⟨u0, k1, k2, k3⟩ := z_write hu
      obtain ⟨v, a1, a2, a3, a4, a5⟩ := za_3 hf (u := u0) (by rw [k2 4 (by decide)]; exact HH.2.1)
      obtain ⟨u1, hu1⟩ : ∃ u1, u1 = mg_up (mg_up (mg_up v 4 (1 + nh * 3) (-1)) 4 (1 + nh * 3 + 1) (b)) 4 (1 + nh * 3 + 2) (-1) := ⟨_, rfl⟩
      have hq : ∀ q, q ≠ 4 → u1 q = u0 q := fun q q1 => by rw [hu1, z_up_ne q1, z_up_ne q1, z_up_ne q1, a2 q q1]
      have hu1q : ∀ q, q ≠ 4 → q ∉ 0 :: z_ks.map (· + 1) → u1 q = u q := fun q q1 q2 => (hq q q1).trans (k2 q q2)
      obtain ⟨u2, m1, m2, m3⟩ := k3 u1 (fun q hq2 => hq q (by rintro rfl; revert hq2; decide))
      have g43 : u1 43 = u 43 := hu1q 43 (by decide) (by decide)
      have g2 : u2 43 = u 43 := (m2 43 (by decide) (by decide)).trans g43
      have gn : u2 43 1 = nN nh := by rw [g2]; exact HH.2.2.1
      obtain ⟨W, hW⟩ : ∃ W, W = mg_up (mg_up (mg_up (mg_up u2 43 (20 + 3 * nh) (-1)) 43 (20 + 3 * nh + 1) (b)) 43 (20 + 3 * nh + 2) (-1)) 43 (1) (nN (nh + 1)) := ⟨_, rfl⟩
      have hWq : ∀ q, q ≠ 43 → W q = u2 q := fun q q1 => by rw [hW, z_up_ne q1, z_up_ne q1, z_up_ne q1, z_up_ne q1]
      have hWo : ∀ i, i ≠ 1 → i < 20 + 3 * nh ∨ 20 + 3 * nh + 3 ≤ i → W 43 i = u 43 i := fun i i1 i2 => by
        rw [hW, zu_ne (by omega), zu_ne (by omega), zu_ne (by omega), zu_ne (by omega), g2]
      have hWn : W 43 1 = nN (nh + 1) := by rw [hW, zu_eq]
      have hW0 : W 43 (20 + 3 * nh) = -1 := by rw [hW, zu_ne (by omega), zu_ne (by omega), zu_ne (by omega), zu_eq]
      have hW1 : W 43 (20 + 3 * nh + 1) = b := by rw [hW, zu_ne (by omega), zu_ne (by omega), zu_eq]
      have hW2 : W 43 (20 + 3 * nh + 2) = -1 := by rw [hW, zu_ne (by omega), zu_eq]
      have hU0 : u1 4 (1 + nh * 3) = -1 := by rw [hu1, zu_ne (by omega), zu_ne (by omega), zu_eq]
      have hU1 : u1 4 (1 + nh * 3 + 1) = b := by rw [hu1, zu_ne (by omega), zu_eq]
      have hU2 : u1 4 (1 + nh * 3 + 2) = -1 := by rw [hu1, zu_eq]
      have hUn : u1 4 0 = nN (nh + 1) := by rw [hu1, zu_ne (by omega), zu_ne (by omega), zu_ne (by omega), a3]
      have hUo : ∀ i, i ≠ 0 → i < 1 + nh * 3 → u1 4 i = u 4 i := fun i i1 i2 => by rw [hu1, zu_ne (by omega), zu_ne (by omega), zu_ne (by omega), a4 i i1 (by omega), k2 4 (by decide)]
      have HH1 : tH nh (u 4) (u1 43) := by rw [g43]; exact HH
      have ht1 : s_taken (u1 43) (-1) b = false := by rw [g43]; exact ht
      have hfn1 : ¬ u1 43 1 = 20 := by rw [g43]; exact hfn
      have l21 : ¬ s_level (u1 43) (-1) = 4 := by rw [g43]; exact l2
      have hC : C_heading (-1) b u = some (.inl (nN nh), u1) := by
        simp only [C_heading, z_tf, z_win_yes hb, c_taken HH, ht, Bool.false_eq_true, zf_3_no HH.2.1 hf, c_level_top (u 43), l1, k1, a1, rp_3_0 hf, rp_3_1 hf, rp_3_2 hf, Option.bind_some, zz_10, ↓reduceIte]
        rw [hu1]
      have hM : M_heading (-1) b u1 = some (nN nh, mg_up W 42 0 0) := by
        simp (disch := omega) only [M_heading, z_tf, z_min_yes hb, m_taken1 HH1, ht1, Bool.false_eq_true, hfn1, m_level_top, l21, m1, gn, zb_20, zo_1, zo_2, z_nat, z_n0, z_690, or_self, zu_ne, zu_eq, z_sub1, z_done, Option.bind_some, zz_10, ↓reduceIte]
        rw [hW]
      refine ⟨_, _, _, _, 0, hC, hM, rfl, Or.inl ⟨_, rfl, rfl, rfl⟩, z_fin m3 m2 hWq ?_⟩
      refine ⟨nh + 1, np, ns, nq, nd, na, ?_, tP_cg (fun i _ => by rw [hu1q 7 (by decide) (by decide)]) (fun i hi => hWo i (by omega) (by omega)) HP, tS_cg (fun i _ => by rw [hu1q 10 (by decide) (by decide)]) (fun i hi => hWo i (by omega) (by omega)) HS, tQ_cg (fun i _ => by rw [hu1q 23 (by decide) (by decide)]) (fun i hi => hWo i (by omega) (by omega)) HQ, tD_cg (fun i _ => by rw [hu1q 26 (by decide) (by decide)]) (fun i hi => hWo i (by omega) (by omega)) (tD_mono (Nat.le_succ nh) (Nat.le_refl nq) HD), tC_cg HQ.1 HD.1 (fun i hi => hWo i (by omega) (by omega)) HC, tA_cg (fun i _ => by rw [hu1q 31 (by decide) (by decide)]) (fun i hi => hWo i (by omega) (by omega)) HA, tT_cg (fun i _ => by rw [hu1q 13 (by decide) (by decide)]) (fun i hi => hWo i (by omega) (by omega)) HT, tL_cg (fun i _ => by rw [hu1q 17 (by decide) (by decide)]) (fun i _ => by rw [hu1q 20 (by decide) (by decide)]) (fun i hi => hWo i (by omega) (by omega)) HL⟩
      exact tH_add HH hf hUn hWn (fun i hi => hUo _ (by omega) (by omega)) (fun i hi => hWo _ (by omega) (by omega)) (hU0.trans hW0.symm) (hU1.trans hW1.symm) (hU2.trans hW2.symm) (Or.inl hW0)
  · by_cases hx : ∃ x, x < nh ∧ a = nN x
    case neg =>
      have hx' : ∀ x < nh, a ≠ nN x := fun x hl e => hx ⟨x, hl, e⟩
      refine ⟨.inr 0, u, 0, mg_up u 42 0 1, 1, ?_, ?_, rfl, Or.inr (Or.inl ⟨rfl, rfl⟩), z_I_thrown 1 hu⟩
      · simp only [C_heading, ha, chH_no (by omega) HH.2.1 hx', Option.bind_some, zz_10, ↓reduceIte]
      · simp only [M_heading, ha, mrH_no (by omega) HH.2.2.1 hx', Option.bind_some, zz_10, ↓reduceIte, z_fails]
    obtain ⟨x, hxl, rfl⟩ := hx
    have hl4 := z_lev4 HH hxl
    by_cases hb : b < 1 ∨ 9 < b
    case pos =>
      refine ⟨.inr 1, u, 0, mg_up u 42 0 2, 2, ?_, ?_, rfl, Or.inr (Or.inr (Or.inl ⟨rfl, rfl⟩)), z_I_thrown 2 hu⟩
      · simp only [C_heading, ha, chH_yes (by omega) HH.2.1 hxl, z_win_no hb, Option.bind_some, zz_10, ↓reduceIte]
      · simp only [M_heading, ha, mrH_yes (by omega) HH.2.2.1 hxl, z_min_no hb, m_taken0 HH, Option.bind_some, zz_10, ↓reduceIte, z_fails]
    cases ht : s_taken (u 43) (nN x) b with
    | true =>
      refine ⟨.inr 1, u, 0, mg_up u 42 0 2, 2, ?_, ?_, rfl, Or.inr (Or.inr (Or.inl ⟨rfl, rfl⟩)), z_I_thrown 2 hu⟩
      · simp only [C_heading, ha, chH_yes (by omega) HH.2.1 hxl, z_win_yes hb, c_taken HH, ht, Option.bind_some, zz_10, ↓reduceIte]
      · simp only [M_heading, ha, mrH_yes (by omega) HH.2.2.1 hxl, z_min_yes hb, m_taken1 HH, ht, Option.bind_some, zz_10, ↓reduceIte, z_fails]
    | false =>
      by_cases hf : nh < 20
      case neg =>
        have e9 : nh = 20 := by omega
        have e8 : u 43 1 = 20 := by rw [HH.2.2.1, e9]; rfl
        refine ⟨.inr 2, u, 0, mg_up u 42 0 3, 3, ?_, ?_, rfl, Or.inr (Or.inr (Or.inr ⟨rfl, rfl⟩)), z_I_thrown 3 hu⟩
        · simp only [C_heading, ha, chH_yes (by omega) HH.2.1 hxl, z_win_yes hb, c_taken HH, ht, zf_3_yes HH.2.1 HH.1 hf, Bool.false_eq_true, Option.bind_some, zz_10, ↓reduceIte]
        · simp only [M_heading, ha, mrH_yes (by omega) HH.2.2.1 hxl, z_min_yes hb, m_taken1 HH, ht, e8, Bool.false_eq_true, Option.bind_some, zz_10, ↓reduceIte, z_fails]
      have hfn : ¬ u 43 1 = 20 := by rw [HH.2.2.1]; exact z_nne (b := 20) (by omega) (by omega) (by omega)
      rcases hl4 with ⟨l1, l2⟩ | ⟨l1, l2⟩
      case inr =>
        refine ⟨.inr 2, u, 0, mg_up u 42 0 3, 3, ?_, ?_, rfl, Or.inr (Or.inr (Or.inr ⟨rfl, rfl⟩)), z_I_thrown 3 hu⟩
        · simp only [C_heading, ha, chH_yes (by omega) HH.2.1 hxl, z_win_yes hb, c_taken HH, ht, zf_3_no HH.2.1 hf, c_level HH hxl, l1, Bool.false_eq_true, Option.bind_some, zz_10, ↓reduceIte]
        · simp only [M_heading, ha, mrH_yes (by omega) HH.2.2.1 hxl, z_min_yes hb, m_taken1 HH, ht, hfn, m_level HH hxl, l2, Bool.false_eq_true, Option.bind_some, zz_10, ↓reduceIte, z_fails]
      obtain ⟨u0, k1, k2, k3⟩ := z_write hu
      obtain ⟨v, a1, a2, a3, a4, a5⟩ := za_3 hf (u := u0) (by rw [k2 4 (by decide)]; exact HH.2.1)
      obtain ⟨u1, hu1⟩ : ∃ u1, u1 = mg_up (mg_up (mg_up v 4 (1 + nh * 3) (nN x)) 4 (1 + nh * 3 + 1) (b)) 4 (1 + nh * 3 + 2) (-1) := ⟨_, rfl⟩
      have hq : ∀ q, q ≠ 4 → u1 q = u0 q := fun q q1 => by rw [hu1, z_up_ne q1, z_up_ne q1, z_up_ne q1, a2 q q1]
      have hu1q : ∀ q, q ≠ 4 → q ∉ 0 :: z_ks.map (· + 1) → u1 q = u q := fun q q1 q2 => (hq q q1).trans (k2 q q2)
      obtain ⟨u2, m1, m2, m3⟩ := k3 u1 (fun q hq2 => hq q (by rintro rfl; revert hq2; decide))
      have g43 : u1 43 = u 43 := hu1q 43 (by decide) (by decide)
      have g2 : u2 43 = u 43 := (m2 43 (by decide) (by decide)).trans g43
      have gn : u2 43 1 = nN nh := by rw [g2]; exact HH.2.2.1
      obtain ⟨W, hW⟩ : ∃ W, W = mg_up (mg_up (mg_up (mg_up u2 43 (20 + 3 * nh) (nN x)) 43 (20 + 3 * nh + 1) (b)) 43 (20 + 3 * nh + 2) (-1)) 43 (1) (nN (nh + 1)) := ⟨_, rfl⟩
      have hWq : ∀ q, q ≠ 43 → W q = u2 q := fun q q1 => by rw [hW, z_up_ne q1, z_up_ne q1, z_up_ne q1, z_up_ne q1]
      have hWo : ∀ i, i ≠ 1 → i < 20 + 3 * nh ∨ 20 + 3 * nh + 3 ≤ i → W 43 i = u 43 i := fun i i1 i2 => by
        rw [hW, zu_ne (by omega), zu_ne (by omega), zu_ne (by omega), zu_ne (by omega), g2]
      have hWn : W 43 1 = nN (nh + 1) := by rw [hW, zu_eq]
      have hW0 : W 43 (20 + 3 * nh) = nN x := by rw [hW, zu_ne (by omega), zu_ne (by omega), zu_ne (by omega), zu_eq]
      have hW1 : W 43 (20 + 3 * nh + 1) = b := by rw [hW, zu_ne (by omega), zu_ne (by omega), zu_eq]
      have hW2 : W 43 (20 + 3 * nh + 2) = -1 := by rw [hW, zu_ne (by omega), zu_eq]
      have hU0 : u1 4 (1 + nh * 3) = nN x := by rw [hu1, zu_ne (by omega), zu_ne (by omega), zu_eq]
      have hU1 : u1 4 (1 + nh * 3 + 1) = b := by rw [hu1, zu_ne (by omega), zu_eq]
      have hU2 : u1 4 (1 + nh * 3 + 2) = -1 := by rw [hu1, zu_eq]
      have hUn : u1 4 0 = nN (nh + 1) := by rw [hu1, zu_ne (by omega), zu_ne (by omega), zu_ne (by omega), a3]
      have hUo : ∀ i, i ≠ 0 → i < 1 + nh * 3 → u1 4 i = u 4 i := fun i i1 i2 => by rw [hu1, zu_ne (by omega), zu_ne (by omega), zu_ne (by omega), a4 i i1 (by omega), k2 4 (by decide)]
      have HH1 : tH nh (u 4) (u1 43) := by rw [g43]; exact HH
      have ht1 : s_taken (u1 43) (nN x) b = false := by rw [g43]; exact ht
      have hfn1 : ¬ u1 43 1 = 20 := by rw [g43]; exact hfn
      have l21 : ¬ s_level (u1 43) (nN x) = 4 := by rw [g43]; exact l2
      have hC : C_heading (nN x) b u = some (.inl (nN nh), u1) := by
        simp only [C_heading, ha, chH_yes (by omega) HH.2.1 hxl, z_win_yes hb, c_taken HH, ht, Bool.false_eq_true, zf_3_no HH.2.1 hf, c_level HH hxl, l1, k1, a1, rp_3_0 hf, rp_3_1 hf, rp_3_2 hf, Option.bind_some, zz_10, ↓reduceIte]
        rw [hu1]
      have hM : M_heading (nN x) b u1 = some (nN nh, mg_up W 42 0 0) := by
        simp (disch := omega) only [M_heading, ha, mrH_yes (u := u1) (by omega) (show u1 43 1 = nN nh by rw [g43]; exact HH.2.2.1) hxl, z_min_yes hb, m_taken1 HH1, ht1, Bool.false_eq_true, hfn1, m_level HH1 hxl, l21, m1, gn, zb_20, zo_1, zo_2, z_nat, z_n0, z_690, or_self, zu_ne, zu_eq, z_sub1, z_done, Option.bind_some, zz_10, ↓reduceIte]
        rw [hW]
      refine ⟨_, _, _, _, 0, hC, hM, rfl, Or.inl ⟨_, rfl, rfl, rfl⟩, z_fin m3 m2 hWq ?_⟩
      refine ⟨nh + 1, np, ns, nq, nd, na, ?_, tP_cg (fun i _ => by rw [hu1q 7 (by decide) (by decide)]) (fun i hi => hWo i (by omega) (by omega)) HP, tS_cg (fun i _ => by rw [hu1q 10 (by decide) (by decide)]) (fun i hi => hWo i (by omega) (by omega)) HS, tQ_cg (fun i _ => by rw [hu1q 23 (by decide) (by decide)]) (fun i hi => hWo i (by omega) (by omega)) HQ, tD_cg (fun i _ => by rw [hu1q 26 (by decide) (by decide)]) (fun i hi => hWo i (by omega) (by omega)) (tD_mono (Nat.le_succ nh) (Nat.le_refl nq) HD), tC_cg HQ.1 HD.1 (fun i hi => hWo i (by omega) (by omega)) HC, tA_cg (fun i _ => by rw [hu1q 31 (by decide) (by decide)]) (fun i hi => hWo i (by omega) (by omega)) HA, tT_cg (fun i _ => by rw [hu1q 13 (by decide) (by decide)]) (fun i hi => hWo i (by omega) (by omega)) HT, tL_cg (fun i _ => by rw [hu1q 17 (by decide) (by decide)]) (fun i _ => by rw [hu1q 20 (by decide) (by decide)]) (fun i hi => hWo i (by omega) (by omega)) HL⟩
      exact tH_add HH hf hUn hWn (fun i hi => hUo _ (by omega) (by omega)) (fun i hi => hWo _ (by omega) (by omega)) (hU0.trans hW0.symm) (hU1.trans hW1.symm) (hU2.trans hW2.symm) (Or.inr ⟨x, hxl, hW0, l2⟩)
theorem ob_7 : Ob_7 z_I := by
  intro u hu a b c d e
  obtain ⟨nh, np, ns, nq, nd, na, HH, HP, HS, HQ, HD, HC, HA, HT, HL⟩ := hu.1
  have hN := HH.1
  by_cases hx : ∃ x, x < nh ∧ a = nN x
  case neg =>
    have hx' : ∀ x < nh, a ≠ nN x := fun x hl e => hx ⟨x, hl, e⟩
    refine ⟨.inr 0, u, 0, mg_up u 42 0 1, 1, ?_, ?_, rfl, Or.inr (Or.inl ⟨rfl, rfl⟩), z_I_thrown 1 hu⟩
    · simp only [C_quota, crH_no (by omega) HH.2.1 hx', Option.bind_some, zz_10, ↓reduceIte]
    · simp only [M_quota, mrH_no (by omega) HH.2.2.1 hx', Option.bind_some, zz_10, ↓reduceIte, z_fails]
  obtain ⟨x, hxl, rfl⟩ := hx
  by_cases hb : b = -1
  · subst hb
    by_cases hc : c < 1 ∨ 9999 < c
    case pos =>
      refine ⟨.inr 1, u, 0, mg_up u 42 0 2, 2, ?_, ?_, rfl, Or.inr (Or.inr (Or.inl ⟨rfl, rfl⟩)), z_I_thrown 2 hu⟩
      · simp only [C_quota, crH_yes (by omega) HH.2.1 hxl, e_day HL, z_win_no hc, Option.bind_some, zz_10, ↓reduceIte]
      · simp only [M_quota, mrH_yes (by omega) HH.2.2.1 hxl, z_min_no hc, Option.bind_some, zz_10, ↓reduceIte, z_fails]
    by_cases hd : d < 0 ∨ 1000 < d
    case pos =>
      refine ⟨.inr 1, u, 0, mg_up u 42 0 2, 2, ?_, ?_, rfl, Or.inr (Or.inr (Or.inl ⟨rfl, rfl⟩)), z_I_thrown 2 hu⟩
      · simp only [C_quota, crH_yes (by omega) HH.2.1 hxl, e_day HL, z_win_yes hc, z_win_no hd, Option.bind_some, zz_10, ↓reduceIte]
      · simp only [M_quota, mrH_yes (by omega) HH.2.2.1 hxl, z_min_yes hc, z_min_no hd, Option.bind_some, zz_10, ↓reduceIte, z_fails]
    by_cases he : e < u 43 0 ∨ 999 < e
    case pos =>
      refine ⟨.inr 1, u, 0, mg_up u 42 0 2, 2, ?_, ?_, rfl, Or.inr (Or.inr (Or.inl ⟨rfl, rfl⟩)), z_I_thrown 2 hu⟩
      · simp only [C_quota, crH_yes (by omega) HH.2.1 hxl, e_day HL, z_win_yes hc, z_win_yes hd, z_win_no he, Option.bind_some, zz_10, ↓reduceIte]
      · simp only [M_quota, mrH_yes (by omega) HH.2.2.1 hxl, z_min_yes hc, z_min_yes hd, z_min_no he, Option.bind_some, zz_10, ↓reduceIte, z_fails]
    by_cases hf : nq < 6
    case neg =>
      have e9 : nq = 6 := by have := HQ.1; omega
      have e8 : u 43 4 = 6 := by rw [HQ.2.2.1, e9]; rfl
      refine ⟨.inr 2, u, 0, mg_up u 42 0 3, 3, ?_, ?_, rfl, Or.inr (Or.inr (Or.inr ⟨rfl, rfl⟩)), z_I_thrown 3 hu⟩
      · simp only [C_quota, crH_yes (by omega) HH.2.1 hxl, e_day HL, z_win_yes hc, z_win_yes hd, z_win_yes he, zf_22_yes HQ.2.1 HQ.1 hf, Option.bind_some, zz_10, ↓reduceIte]
      · simp only [M_quota, mrH_yes (by omega) HH.2.2.1 hxl, z_min_yes hc, z_min_yes hd, z_min_yes he, e8, Option.bind_some, zz_10, ↓reduceIte, z_fails]
    have hfn : ¬ u 43 4 = 6 := by rw [HQ.2.2.1]; exact z_nne (b := 6) (by omega) (by omega) (by omega)
    obtain ⟨l, hl1, hl2, el⟩ := z_winN (lo := 1) (hi := 9999) (by omega) (by omega) hc
    obtain ⟨u0, k1, k2, k3⟩ := z_write hu
    obtain ⟨v, a1, a2, a3, a4, a5⟩ := za_22 hf (u := u0) (by rw [k2 23 (by decide)]; exact HQ.2.1)
    obtain ⟨u1, hu1⟩ : ∃ u1, u1 = mg_up (mg_up (mg_up (mg_up (mg_up (mg_up (mg_up v 23 (1 + nq * 9) (nN x)) 23 (1 + nq * 9 + 1) (-1)) 23 (1 + nq * 9 + 2) (c)) 23 (1 + nq * 9 + 3) (d)) 23 (1 + nq * 9 + 4) (u 43 0)) 23 (1 + nq * 9 + 5) (e)) 23 (1 + nq * 9 + 6) (c) := ⟨_, rfl⟩
    have hq : ∀ q, q ≠ 23 → u1 q = u0 q := fun q q1 => by rw [hu1, z_up_ne q1, z_up_ne q1, z_up_ne q1, z_up_ne q1, z_up_ne q1, z_up_ne q1, z_up_ne q1, a2 q q1]
    have hu1q : ∀ q, q ≠ 23 → q ∉ 0 :: z_ks.map (· + 1) → u1 q = u q := fun q q1 q2 => (hq q q1).trans (k2 q q2)
    obtain ⟨u2, m1, m2, m3⟩ := k3 u1 (fun q hq2 => hq q (by rintro rfl; revert hq2; decide))
    have g43 : u1 43 = u 43 := hu1q 43 (by decide) (by decide)
    have g2 : u2 43 = u 43 := (m2 43 (by decide) (by decide)).trans g43
    have gn : u2 43 4 = nN nq := by rw [g2]; exact HQ.2.2.1
    obtain ⟨W, hW⟩ : ∃ W, W = mg_up (mg_up (mg_up (mg_up (mg_up (mg_up (mg_up (mg_up (mg_up u2 43 (138 + 9 * nq) (nN x)) 43 (138 + 9 * nq + 1) (-1)) 43 (138 + 9 * nq + 2) (c)) 43 (138 + 9 * nq + 3) (d)) 43 (138 + 9 * nq + 4) (u 43 0)) 43 (138 + 9 * nq + 5) (e)) 43 (138 + 9 * nq + 6) (c)) 43 (138 + 9 * nq + 7) (0)) 43 (4) (nN (nq + 1)) := ⟨_, rfl⟩
    have hWq : ∀ q, q ≠ 43 → W q = u2 q := fun q q1 => by rw [hW, z_up_ne q1, z_up_ne q1, z_up_ne q1, z_up_ne q1, z_up_ne q1, z_up_ne q1, z_up_ne q1, z_up_ne q1, z_up_ne q1]
    have hWo : ∀ i, i ≠ 4 → i < 138 + 9 * nq ∨ 138 + 9 * nq + 9 ≤ i → W 43 i = u 43 i := fun i i1 i2 => by
      rw [hW, zu_ne (by omega), zu_ne (by omega), zu_ne (by omega), zu_ne (by omega), zu_ne (by omega), zu_ne (by omega), zu_ne (by omega), zu_ne (by omega), zu_ne (by omega), g2]
    have hWn : W 43 4 = nN (nq + 1) := by rw [hW, zu_eq]
    have hW0 : W 43 (138 + 9 * nq) = nN x := by rw [hW, zu_ne (by omega), zu_ne (by omega), zu_ne (by omega), zu_ne (by omega), zu_ne (by omega), zu_ne (by omega), zu_ne (by omega), zu_ne (by omega), zu_eq]
    have hW1 : W 43 (138 + 9 * nq + 1) = -1 := by rw [hW, zu_ne (by omega), zu_ne (by omega), zu_ne (by omega), zu_ne (by omega), zu_ne (by omega), zu_ne (by omega), zu_ne (by omega), zu_eq]
    have hW2 : W 43 (138 + 9 * nq + 2) = c := by rw [hW, zu_ne (by omega), zu_ne (by omega), zu_ne (by omega), zu_ne (by omega), zu_ne (by omega), zu_ne (by omega), zu_eq]
    have hW3 : W 43 (138 + 9 * nq + 3) = d := by rw [hW, zu_ne (by omega), zu_ne (by omega), zu_ne (by omega), zu_ne (by omega), zu_ne (by omega), zu_eq]
    have hW4 : W 43 (138 + 9 * nq + 4) = u 43 0 := by rw [hW, zu_ne (by omega), zu_ne (by omega), zu_ne (by omega), zu_ne (by omega), zu_eq]
    have hW5 : W 43 (138 + 9 * nq + 5) = e := by rw [hW, zu_ne (by omega), zu_ne (by omega), zu_ne (by omega), zu_eq]
    have hW6 : W 43 (138 + 9 * nq + 6) = c := by rw [hW, zu_ne (by omega), zu_ne (by omega), zu_eq]
    have hW7 : W 43 (138 + 9 * nq + 7) = 0 := by rw [hW, zu_ne (by omega), zu_eq]
    have hU0 : u1 23 (1 + nq * 9) = nN x := by rw [hu1, zu_ne (by omega), zu_ne (by omega), zu_ne (by omega), zu_ne (by omega), zu_ne (by omega), zu_ne (by omega), zu_eq]
    have hU1 : u1 23 (1 + nq * 9 + 1) = -1 := by rw [hu1, zu_ne (by omega), zu_ne (by omega), zu_ne (by omega), zu_ne (by omega), zu_ne (by omega), zu_eq]
    have hU2 : u1 23 (1 + nq * 9 + 2) = c := by rw [hu1, zu_ne (by omega), zu_ne (by omega), zu_ne (by omega), zu_ne (by omega), zu_eq]
    have hU3 : u1 23 (1 + nq * 9 + 3) = d := by rw [hu1, zu_ne (by omega), zu_ne (by omega), zu_ne (by omega), zu_eq]
    have hU4 : u1 23 (1 + nq * 9 + 4) = u 43 0 := by rw [hu1, zu_ne (by omega), zu_ne (by omega), zu_eq]
    have hU5 : u1 23 (1 + nq * 9 + 5) = e := by rw [hu1, zu_ne (by omega), zu_eq]
    have hU6 : u1 23 (1 + nq * 9 + 6) = c := by rw [hu1, zu_eq]
    have hUn : u1 23 0 = nN (nq + 1) := by rw [hu1, zu_ne (by omega), zu_ne (by omega), zu_ne (by omega), zu_ne (by omega), zu_ne (by omega), zu_ne (by omega), zu_ne (by omega), a3]
    have hUo : ∀ i, i ≠ 0 → i < 1 + nq * 9 → u1 23 i = u 23 i := fun i i1 i2 => by rw [hu1, zu_ne (by omega), zu_ne (by omega), zu_ne (by omega), zu_ne (by omega), zu_ne (by omega), zu_ne (by omega), zu_ne (by omega), a4 i i1 (by omega), k2 23 (by decide)]
    have he1 : ¬ (e < u1 43 0 ∨ 999 < e) := by rw [g43]; exact he
    have hfn1 : ¬ u1 43 4 = 6 := by rw [g43]; exact hfn
    have gd : u2 43 0 = u 43 0 := by rw [g2]
    have hC : C_quota (nN x) (-1) c d e u = some (.inl (nN nq), u1) := by
      simp only [C_quota, crH_yes (by omega) HH.2.1 hxl, e_day HL, z_win_yes hc, z_win_yes hd, z_win_yes he, zf_22_no HQ.2.1 hf, k1, a1, rp_22_0 hf, rp_22_1 hf, rp_22_2 hf, rp_22_3 hf, rp_22_4 hf, rp_22_5 hf, rp_22_6 hf, Option.bind_some, zz_10, ↓reduceIte]
      rw [hu1]
    have hM : M_quota (nN x) (-1) c d e u1 = some (nN nq, mg_up W 42 0 0) := by
      simp (disch := omega) only [M_quota, mrH_yes (u := u1) (by omega) (show u1 43 1 = nN nh by rw [g43]; exact HH.2.2.1) hxl, z_min_yes hc, z_min_yes hd, z_min_yes he1, hfn1, m1, gn, gd, zb_138, zo_0, zo_1, zo_2, zo_3, zo_4, zo_5, zo_6, zo_7, z_nat, z_n0, z_690, or_self, zu_ne, zu_eq, z_sub1, z_done, Option.bind_some, zz_10, ↓reduceIte]
      rw [hW]
    refine ⟨_, _, _, _, 0, hC, hM, rfl, Or.inl ⟨_, rfl, rfl, rfl⟩, z_fin m3 m2 hWq ?_⟩
    refine ⟨nh, np, ns, nq + 1, nd, na, tH_cg (fun i _ => by rw [hu1q 4 (by decide) (by decide)]) (fun i hi => hWo i (by omega) (by omega)) HH, tP_cg (fun i _ => by rw [hu1q 7 (by decide) (by decide)]) (fun i hi => hWo i (by omega) (by omega)) HP, tS_cg (fun i _ => by rw [hu1q 10 (by decide) (by decide)]) (fun i hi => hWo i (by omega) (by omega)) HS, ?_, tD_cg (fun i _ => by rw [hu1q 26 (by decide) (by decide)]) (fun i hi => hWo i (by omega) (by omega)) (tD_mono (Nat.le_refl nh) (Nat.le_succ nq) HD), ?_, tA_cg (fun i _ => by rw [hu1q 31 (by decide) (by decide)]) (fun i hi => hWo i (by omega) (by omega)) HA, tT_cg (fun i _ => by rw [hu1q 13 (by decide) (by decide)]) (fun i hi => hWo i (by omega) (by omega)) HT, tL_cg (fun i _ => by rw [hu1q 17 (by decide) (by decide)]) (fun i _ => by rw [hu1q 20 (by decide) (by decide)]) (fun i hi => hWo i (by omega) (by omega)) HL⟩
    · refine tQ_add HQ hf hUn hWn (fun i hi => hUo _ (by omega) (by omega)) (fun i hi => hWo _ (by omega) (by omega)) (fun j hj => ?_) ?_ ?_ ⟨⟨x, by omega, hW0⟩, ⟨l, hl2, by rw [hW6]; exact el⟩, ⟨0, by omega, hW7⟩⟩
      · rcases (show j = 0 ∨ j = 1 ∨ j = 2 ∨ j = 3 ∨ j = 4 ∨ j = 5 ∨ j = 6 by omega) with rfl | rfl | rfl | rfl | rfl | rfl | rfl
        · exact hU0.trans hW0.symm
        · exact hU1.trans hW1.symm
        · exact hU2.trans hW2.symm
        · exact hU3.trans hW3.symm
        · exact hU4.trans hW4.symm
        · exact hU5.trans hW5.symm
        · exact hU6.trans hW6.symm
      · rw [hu1, zu_ne (by omega), zu_ne (by omega), zu_ne (by omega), zu_ne (by omega), zu_ne (by omega), zu_ne (by omega), zu_ne (by omega), a5 _ (by omega) (by omega), hW7]
      · rw [hu1, zu_ne (by omega), zu_ne (by omega), zu_ne (by omega), zu_ne (by omega), zu_ne (by omega), zu_ne (by omega), zu_ne (by omega), a5 _ (by omega) (by omega), hW2, hW6, hW7, Int32.sub_self, Int32.sub_zero]
    · intro q hq3
      have hs : ∀ q, z_sum (W 43) q nd = z_sum (u 43) q nd := fun q => z_sum_cg (fun i hi => hWo i (by omega) (by omega))
      have hq6 := HQ.1
      by_cases e2 : q < nq
      · rw [hWo _ (by omega) (by omega), hWo (138 + 9 * q + 7) (by omega) (by omega), hs q]
        exact HC q e2
      · have e3 : q = nq := by omega
        subst e3
        rw [hW6, hW7, el, z_nat (by omega), hs q, z_sum_zero nd (fun d' hd' => ?_)]
        · show l + 0 + 0 ≤ 9999
          omega
        · rcases (HD.2.2.2.2 d' hd').2.2.2.1 with r | ⟨q', r1, r2⟩
          · rw [r]
            exact fun q => z_ne1 (by omega) q.symm
          · rw [r2]
            exact z_nne (by omega) (by omega) (by omega)
  · by_cases hy : ∃ y, y < 8 ∧ b = nN y
    case neg =>
      have hy' : ∀ y < 8, b ≠ nN y := fun y hl e => hy ⟨y, hl, e⟩
      refine ⟨.inr 0, u, 0, mg_up u 42 0 1, 1, ?_, ?_, rfl, Or.inr (Or.inl ⟨rfl, rfl⟩), z_I_thrown 1 hu⟩
      · simp only [C_quota, crH_yes (by omega) HH.2.1 hxl, hb, (ccy_no hy').2.1, Option.bind_some, zz_10, ↓reduceIte]
      · simp only [M_quota, mrH_yes (by omega) HH.2.2.1 hxl, hb, (ccy_no hy').2.2, Option.bind_some, zz_10, ↓reduceIte, z_fails]
    obtain ⟨y, hyl, rfl⟩ := hy
    by_cases hc : c < 1 ∨ 9999 < c
    case pos =>
      refine ⟨.inr 1, u, 0, mg_up u 42 0 2, 2, ?_, ?_, rfl, Or.inr (Or.inr (Or.inl ⟨rfl, rfl⟩)), z_I_thrown 2 hu⟩
      · simp only [C_quota, crH_yes (by omega) HH.2.1 hxl, hb, (ccy_yes hyl).2.1, e_day HL, z_win_no hc, Option.bind_some, zz_10, ↓reduceIte]
      · simp only [M_quota, mrH_yes (by omega) HH.2.2.1 hxl, hb, (ccy_yes hyl).2.2, z_min_no hc, Option.bind_some, zz_10, ↓reduceIte, z_fails]
    by_cases hd : d < 0 ∨ 1000 < d
    case pos =>
      refine ⟨.inr 1, u, 0, mg_up u 42 0 2, 2, ?_, ?_, rfl, Or.inr (Or.inr (Or.inl ⟨rfl, rfl⟩)), z_I_thrown 2 hu⟩
      · simp only [C_quota, crH_yes (by omega) HH.2.1 hxl, hb, (ccy_yes hyl).2.1, e_day HL, z_win_yes hc, z_win_no hd, Option.bind_some, zz_10, ↓reduceIte]
      · simp only [M_quota, mrH_yes (by omega) HH.2.2.1 hxl, hb, (ccy_yes hyl).2.2, z_min_yes hc, z_min_no hd, Option.bind_some, zz_10, ↓reduceIte, z_fails]
    by_cases he : e < u 43 0 ∨ 999 < e
    case pos =>
      refine ⟨.inr 1, u, 0, mg_up u 42 0 2, 2, ?_, ?_, rfl, Or.inr (Or.inr (Or.inl ⟨rfl, rfl⟩)), z_I_thrown 2 hu⟩
      · simp only [C_quota, crH_yes (by omega) HH.2.1 hxl, hb, (ccy_yes hyl).2.1, e_day HL, z_win_yes hc, z_win_yes hd, z_win_no he, Option.bind_some, zz_10, ↓reduceIte]
      · simp only [M_quota, mrH_yes (by omega) HH.2.2.1 hxl, hb, (ccy_yes hyl).2.2, z_min_yes hc, z_min_yes hd, z_min_no he, Option.bind_some, zz_10, ↓reduceIte, z_fails]
    by_cases hf : nq < 6
    case neg =>
      have e9 : nq = 6 := by have := HQ.1; omega
      have e8 : u 43 4 = 6 := by rw [HQ.2.2.1, e9]; rfl
      refine ⟨.inr 2, u, 0, mg_up u 42 0 3, 3, ?_, ?_, rfl, Or.inr (Or.inr (Or.inr ⟨rfl, rfl⟩)), z_I_thrown 3 hu⟩
      · simp only [C_quota, crH_yes (by omega) HH.2.1 hxl, hb, (ccy_yes hyl).2.1, e_day HL, z_win_yes hc, z_win_yes hd, z_win_yes he, zf_22_yes HQ.2.1 HQ.1 hf, Option.bind_some, zz_10, ↓reduceIte]
      · simp only [M_quota, mrH_yes (by omega) HH.2.2.1 hxl, hb, (ccy_yes hyl).2.2, z_min_yes hc, z_min_yes hd, z_min_yes he, e8, Option.bind_some, zz_10, ↓reduceIte, z_fails]
    have hfn : ¬ u 43 4 = 6 := by rw [HQ.2.2.1]; exact z_nne (b := 6) (by omega) (by omega) (by omega)
    obtain ⟨l, hl1, hl2, el⟩ := z_winN (lo := 1) (hi := 9999) (by omega) (by omega) hc
    obtain ⟨u0, k1, k2, k3⟩ := z_write hu
    obtain ⟨v, a1, a2, a3, a4, a5⟩ := za_22 hf (u := u0) (by rw [k2 23 (by decide)]; exact HQ.2.1)
    obtain ⟨u1, hu1⟩ : ∃ u1, u1 = mg_up (mg_up (mg_up (mg_up (mg_up (mg_up (mg_up v 23 (1 + nq * 9) (nN x)) 23 (1 + nq * 9 + 1) (nN y)) 23 (1 + nq * 9 + 2) (c)) 23 (1 + nq * 9 + 3) (d)) 23 (1 + nq * 9 + 4) (u 43 0)) 23 (1 + nq * 9 + 5) (e)) 23 (1 + nq * 9 + 6) (c) := ⟨_, rfl⟩
    have hq : ∀ q, q ≠ 23 → u1 q = u0 q := fun q q1 => by rw [hu1, z_up_ne q1, z_up_ne q1, z_up_ne q1, z_up_ne q1, z_up_ne q1, z_up_ne q1, z_up_ne q1, a2 q q1]
    have hu1q : ∀ q, q ≠ 23 → q ∉ 0 :: z_ks.map (· + 1) → u1 q = u q := fun q q1 q2 => (hq q q1).trans (k2 q q2)
    obtain ⟨u2, m1, m2, m3⟩ := k3 u1 (fun q hq2 => hq q (by rintro rfl; revert hq2; decide))
    have g43 : u1 43 = u 43 := hu1q 43 (by decide) (by decide)
    have g2 : u2 43 = u 43 := (m2 43 (by decide) (by decide)).trans g43
    have gn : u2 43 4 = nN nq := by rw [g2]; exact HQ.2.2.1
    obtain ⟨W, hW⟩ : ∃ W, W = mg_up (mg_up (mg_up (mg_up (mg_up (mg_up (mg_up (mg_up (mg_up u2 43 (138 + 9 * nq) (nN x)) 43 (138 + 9 * nq + 1) (nN y)) 43 (138 + 9 * nq + 2) (c)) 43 (138 + 9 * nq + 3) (d)) 43 (138 + 9 * nq + 4) (u 43 0)) 43 (138 + 9 * nq + 5) (e)) 43 (138 + 9 * nq + 6) (c)) 43 (138 + 9 * nq + 7) (0)) 43 (4) (nN (nq + 1)) := ⟨_, rfl⟩
    have hWq : ∀ q, q ≠ 43 → W q = u2 q := fun q q1 => by rw [hW, z_up_ne q1, z_up_ne q1, z_up_ne q1, z_up_ne q1, z_up_ne q1, z_up_ne q1, z_up_ne q1, z_up_ne q1, z_up_ne q1]
    have hWo : ∀ i, i ≠ 4 → i < 138 + 9 * nq ∨ 138 + 9 * nq + 9 ≤ i → W 43 i = u 43 i := fun i i1 i2 => by
      rw [hW, zu_ne (by omega), zu_ne (by omega), zu_ne (by omega), zu_ne (by omega), zu_ne (by omega), zu_ne (by omega), zu_ne (by omega), zu_ne (by omega), zu_ne (by omega), g2]
    have hWn : W 43 4 = nN (nq + 1) := by rw [hW, zu_eq]
    have hW0 : W 43 (138 + 9 * nq) = nN x := by rw [hW, zu_ne (by omega), zu_ne (by omega), zu_ne (by omega), zu_ne (by omega), zu_ne (by omega), zu_ne (by omega), zu_ne (by omega), zu_ne (by omega), zu_eq]
    have hW1 : W 43 (138 + 9 * nq + 1) = nN y := by rw [hW, zu_ne (by omega), zu_ne (by omega), zu_ne (by omega), zu_ne (by omega), zu_ne (by omega), zu_ne (by omega), zu_ne (by omega), zu_eq]
    have hW2 : W 43 (138 + 9 * nq + 2) = c := by rw [hW, zu_ne (by omega), zu_ne (by omega), zu_ne (by omega), zu_ne (by omega), zu_ne (by omega), zu_ne (by omega), zu_eq]
    have hW3 : W 43 (138 + 9 * nq + 3) = d := by rw [hW, zu_ne (by omega), zu_ne (by omega), zu_ne (by omega), zu_ne (by omega), zu_ne (by omega), zu_eq]
    have hW4 : W 43 (138 + 9 * nq + 4) = u 43 0 := by rw [hW, zu_ne (by omega), zu_ne (by omega), zu_ne (by omega), zu_ne (by omega), zu_eq]
    have hW5 : W 43 (138 + 9 * nq + 5) = e := by rw [hW, zu_ne (by omega), zu_ne (by omega), zu_ne (by omega), zu_eq]
    have hW6 : W 43 (138 + 9 * nq + 6) = c := by rw [hW, zu_ne (by omega), zu_ne (by omega), zu_eq]
    have hW7 : W 43 (138 + 9 * nq + 7) = 0 := by rw [hW, zu_ne (by omega), zu_eq]
    have hU0 : u1 23 (1 + nq * 9) = nN x := by rw [hu1, zu_ne (by omega), zu_ne (by omega), zu_ne (by omega), zu_ne (by omega), zu_ne (by omega), zu_ne (by omega), zu_eq]
    have hU1 : u1 23 (1 + nq * 9 + 1) = nN y := by rw [hu1, zu_ne (by omega), zu_ne (by omega), zu_ne (by omega), zu_ne (by omega), zu_ne (by omega), zu_eq]
    have hU2 : u1 23 (1 + nq * 9 + 2) = c := by rw [hu1, zu_ne (by omega), zu_ne (by omega), zu_ne (by omega), zu_ne (by omega), zu_eq]
    have hU3 : u1 23 (1 + nq * 9 + 3) = d := by rw [hu1, zu_ne (by omega), zu_ne (by omega), zu_ne (by omega), zu_eq]
    have hU4 : u1 23 (1 + nq * 9 + 4) = u 43 0 := by rw [hu1, zu_ne (by omega), zu_ne (by omega), zu_eq]
    have hU5 : u1 23 (1 + nq * 9 + 5) = e := by rw [hu1, zu_ne (by omega), zu_eq]
    have hU6 : u1 23 (1 + nq * 9 + 6) = c := by rw [hu1, zu_eq]
    have hUn : u1 23 0 = nN (nq + 1) := by rw [hu1, zu_ne (by omega), zu_ne (by omega), zu_ne (by omega), zu_ne (by omega), zu_ne (by omega), zu_ne (by omega), zu_ne (by omega), a3]
    have hUo : ∀ i, i ≠ 0 → i < 1 + nq * 9 → u1 23 i = u 23 i := fun i i1 i2 => by rw [hu1, zu_ne (by omega), zu_ne (by omega), zu_ne (by omega), zu_ne (by omega), zu_ne (by omega), zu_ne (by omega), zu_ne (by omega), a4 i i1 (by omega), k2 23 (by decide)]
    have he1 : ¬ (e < u1 43 0 ∨ 999 < e) := by rw [g43]; exact he
    have hfn1 : ¬ u1 43 4 = 6 := by rw [g43]; exact hfn
    have gd : u2 43 0 = u 43 0 := by rw [g2]
    have hC : C_quota (nN x) (nN y) c d e u = some (.inl (nN nq), u1) := by
      simp only [C_quota, crH_yes (by omega) HH.2.1 hxl, hb, (ccy_yes hyl).2.1, e_day HL, z_win_yes hc, z_win_yes hd, z_win_yes he, zf_22_no HQ.2.1 hf, k1, a1, rp_22_0 hf, rp_22_1 hf, rp_22_2 hf, rp_22_3 hf, rp_22_4 hf, rp_22_5 hf, rp_22_6 hf, Option.bind_some, zz_10, ↓reduceIte]
      rw [hu1]
    have hM : M_quota (nN x) (nN y) c d e u1 = some (nN nq, mg_up W 42 0 0) := by
      simp (disch := omega) only [M_quota, mrH_yes (u := u1) (by omega) (show u1 43 1 = nN nh by rw [g43]; exact HH.2.2.1) hxl, hb, (ccy_yes hyl).2.2, z_min_yes hc, z_min_yes hd, z_min_yes he1, hfn1, m1, gn, gd, zb_138, zo_0, zo_1, zo_2, zo_3, zo_4, zo_5, zo_6, zo_7, z_nat, z_n0, z_690, or_self, zu_ne, zu_eq, z_sub1, z_done, Option.bind_some, zz_10, ↓reduceIte]
      rw [hW]
    refine ⟨_, _, _, _, 0, hC, hM, rfl, Or.inl ⟨_, rfl, rfl, rfl⟩, z_fin m3 m2 hWq ?_⟩
    refine ⟨nh, np, ns, nq + 1, nd, na, tH_cg (fun i _ => by rw [hu1q 4 (by decide) (by decide)]) (fun i hi => hWo i (by omega) (by omega)) HH, tP_cg (fun i _ => by rw [hu1q 7 (by decide) (by decide)]) (fun i hi => hWo i (by omega) (by omega)) HP, tS_cg (fun i _ => by rw [hu1q 10 (by decide) (by decide)]) (fun i hi => hWo i (by omega) (by omega)) HS, ?_, tD_cg (fun i _ => by rw [hu1q 26 (by decide) (by decide)]) (fun i hi => hWo i (by omega) (by omega)) (tD_mono (Nat.le_refl nh) (Nat.le_succ nq) HD), ?_, tA_cg (fun i _ => by rw [hu1q 31 (by decide) (by decide)]) (fun i hi => hWo i (by omega) (by omega)) HA, tT_cg (fun i _ => by rw [hu1q 13 (by decide) (by decide)]) (fun i hi => hWo i (by omega) (by omega)) HT, tL_cg (fun i _ => by rw [hu1q 17 (by decide) (by decide)]) (fun i _ => by rw [hu1q 20 (by decide) (by decide)]) (fun i hi => hWo i (by omega) (by omega)) HL⟩
    · refine tQ_add HQ hf hUn hWn (fun i hi => hUo _ (by omega) (by omega)) (fun i hi => hWo _ (by omega) (by omega)) (fun j hj => ?_) ?_ ?_ ⟨⟨x, by omega, hW0⟩, ⟨l, hl2, by rw [hW6]; exact el⟩, ⟨0, by omega, hW7⟩⟩
      · rcases (show j = 0 ∨ j = 1 ∨ j = 2 ∨ j = 3 ∨ j = 4 ∨ j = 5 ∨ j = 6 by omega) with rfl | rfl | rfl | rfl | rfl | rfl | rfl
        · exact hU0.trans hW0.symm
        · exact hU1.trans hW1.symm
        · exact hU2.trans hW2.symm
        · exact hU3.trans hW3.symm
        · exact hU4.trans hW4.symm
        · exact hU5.trans hW5.symm
        · exact hU6.trans hW6.symm
      · rw [hu1, zu_ne (by omega), zu_ne (by omega), zu_ne (by omega), zu_ne (by omega), zu_ne (by omega), zu_ne (by omega), zu_ne (by omega), a5 _ (by omega) (by omega), hW7]
      · rw [hu1, zu_ne (by omega), zu_ne (by omega), zu_ne (by omega), zu_ne (by omega), zu_ne (by omega), zu_ne (by omega), zu_ne (by omega), a5 _ (by omega) (by omega), hW2, hW6, hW7, Int32.sub_self, Int32.sub_zero]
    · intro q hq3
      have hs : ∀ q, z_sum (W 43) q nd = z_sum (u 43) q nd := fun q => z_sum_cg (fun i hi => hWo i (by omega) (by omega))
      have hq6 := HQ.1
      by_cases e2 : q < nq
      · rw [hWo _ (by omega) (by omega), hWo (138 + 9 * q + 7) (by omega) (by omega), hs q]
        exact HC q e2
      · have e3 : q = nq := by omega
        subst e3
        rw [hW6, hW7, el, z_nat (by omega), hs q, z_sum_zero nd (fun d' hd' => ?_)]
        · show l + 0 + 0 ≤ 9999
          omega
        · rcases (HD.2.2.2.2 d' hd').2.2.2.1 with r | ⟨q', r1, r2⟩
          · rw [r]
            exact fun q => z_ne1 (by omega) q.symm
          · rw [r2]
            exact z_nne (by omega) (by omega) (by omega)
