/-! declare -/
theorem tD_add {nh nq n : Nat} {f g f' g' : z_Ro} (H : tD nh nq n f g) (hn : n < 30) (f0 : f' 0 = nN (n + 1)) (g0 : g' 5 = nN (n + 1)) (fo : ∀ i < 15 * n, f' (1 + i) = f (1 + i)) (go : ∀ i < 16 * n, g' (208 + i) = g (208 + i))
    (e : ∀ j < 15, f' (1 + n * 15 + j) = g' (208 + 16 * n + j)) (hc : z_dw nh nq g' n) : tD nh nq (n + 1) f' g' := by
  obtain ⟨h1, h2, h3, h4, h5⟩ := H
  refine ⟨by omega, f0, g0, fun h hh j hj => ?_, fun h hh => ?_⟩
  · by_cases q : h < n
    · rw [show 1 + h * 15 + j = 1 + (15 * h + j) by omega, fo _ (by omega), show 208 + 16 * h + j = 208 + (16 * h + j) by omega, go _ (by omega), show 1 + (15 * h + j) = 1 + h * 15 + j by omega, show 208 + (16 * h + j) = 208 + 16 * h + j by omega]
      exact h4 h q j hj
    · have e2 : h = n := by omega
      subst e2
      exact e j hj
  · by_cases q : h < n
    · exact z_dw_cg (fun i hi => by rw [show i = 208 + (i - 208) by omega]; exact go _ (by omega)) (h5 h q)
    · have e2 : h = n := by omega
      subst e2
      exact hc
theorem tC_add {nq nd : Nat} {g g' : z_Ro} (hq : nq ≤ 6) (H : tC nq nd g) (hl : ∀ i, 138 ≤ i ∧ i < 192 → g' i = g i) (go : ∀ i < 16 * nd, g' (208 + i) = g (208 + i)) (h8 : g' (208 + 16 * nd + 8) = 0) : tC nq (nd + 1) g' := by
  intro q hqn
  unfold z_sum
  rw [hl (138 + 9 * q + 6) (by omega), hl (138 + 9 * q + 7) (by omega), z_sum_cg (g := g) (g' := g') (n := nd) (fun i hi => by rw [show i = 208 + (i - 208) by omega]; exact go _ (by omega)), h8]
  have := H q hqn
  have e : (0 : Int32).toNatClampNeg = 0 := rfl
  rw [e]
  by_cases hh : g' (208 + 16 * nd + 5) = nN q
  · rw [if_pos hh]
    exact this
  · rw [if_neg hh]
    exact this
theorem ob_16 : Ob_16 z_I := by
  intro u hu a b c d
  obtain ⟨nh, np, ns, nq, nd, na, HH, HP, HS, HQ, HD, HC, HA, HT, HL⟩ := hu.1
  have hN := HH.1
  have hQ6 := HQ.1
  have hA4 := HA.1
  by_cases hx : ∃ x, x < nh ∧ a = nN x
  case neg =>
    have hx' : ∀ x < nh, a ≠ nN x := fun x hl e => hx ⟨x, hl, e⟩
    refine ⟨.inr 0, u, 0, mg_up u 42 0 1, 1, ?_, ?_, rfl, Or.inr (Or.inl ⟨rfl, rfl⟩), z_I_thrown 1 hu⟩
    · simp only [C_declare, crH_no (by omega) HH.2.1 hx', Option.bind_some, zz_10, ↓reduceIte]
    · simp only [M_declare, mrH_no (by omega) HH.2.2.1 hx', Option.bind_some, zz_10, ↓reduceIte, z_fails]
  obtain ⟨x, hxl, rfl⟩ := hx
  by_cases hd : d = -1 ∨ ∃ q, q < nq ∧ d = nN q
  case neg =>
    have hd1 : ¬ d = -1 := fun e => hd (Or.inl e)
    have hd' : ∀ q < nq, d ≠ nN q := fun q hl e => hd (Or.inr ⟨q, hl, e⟩)
    refine ⟨.inr 0, u, 0, mg_up u 42 0 1, 1, ?_, ?_, rfl, Or.inr (Or.inl ⟨rfl, rfl⟩), z_I_thrown 1 hu⟩
    · simp only [C_declare, crH_yes (by omega) HH.2.1 hxl, hd1, crQ_no (by omega) HQ.2.1 hd', Option.bind_some, zz_10, ↓reduceIte]
    · simp only [M_declare, mrH_yes (by omega) HH.2.2.1 hxl, hd1, miQ_no (by omega) HQ.2.2.1 hd', Option.bind_some, zz_10, ↓reduceIte, z_fails]
  by_cases hb : b < 1 ∨ 999 < b
  case pos =>
    refine ⟨.inr 1, u, 0, mg_up u 42 0 2, 2, ?_, ?_, rfl, Or.inr (Or.inr (Or.inl ⟨rfl, rfl⟩)), z_I_thrown 2 hu⟩
    · rcases hd with rfl | ⟨q, hq1, rfl⟩
      · simp only [C_declare, crH_yes (by omega) HH.2.1 hxl, z_win_no hb, Option.bind_some, zz_10, ↓reduceIte]
      · simp only [C_declare, z_ne1 (show q < 2147483648 by omega), crQ_yes (by omega) HQ.2.1 hq1, crH_yes (by omega) HH.2.1 hxl, z_win_no hb, Option.bind_some, zz_10, ↓reduceIte]
    · rcases hd with rfl | ⟨q, hq1, rfl⟩
      · simp only [M_declare, mrH_yes (by omega) HH.2.2.1 hxl, z_min_no hb, Option.bind_some, zz_10, ↓reduceIte, z_fails]
      · simp only [M_declare, z_ne1 (show q < 2147483648 by omega), miQ_yes (by omega) HQ.2.2.1 hq1, mrH_yes (by omega) HH.2.2.1 hxl, z_min_no hb, Option.bind_some, zz_10, ↓reduceIte, z_fails]
  by_cases hc : c < 0 ∨ 2 < c
  case pos =>
    refine ⟨.inr 1, u, 0, mg_up u 42 0 2, 2, ?_, ?_, rfl, Or.inr (Or.inr (Or.inl ⟨rfl, rfl⟩)), z_I_thrown 2 hu⟩
    · rcases hd with rfl | ⟨q, hq1, rfl⟩
      · simp only [C_declare, crH_yes (by omega) HH.2.1 hxl, z_win_yes hb, z_win_no hc, Option.bind_some, zz_10, ↓reduceIte]
      · simp only [C_declare, z_ne1 (show q < 2147483648 by omega), crQ_yes (by omega) HQ.2.1 hq1, crH_yes (by omega) HH.2.1 hxl, z_win_yes hb, z_win_no hc, Option.bind_some, zz_10, ↓reduceIte]
    · rcases hd with rfl | ⟨q, hq1, rfl⟩
      · simp only [M_declare, mrH_yes (by omega) HH.2.2.1 hxl, z_min_yes hb, z_min_no hc, Option.bind_some, zz_10, ↓reduceIte, z_fails]
      · simp only [M_declare, z_ne1 (show q < 2147483648 by omega), miQ_yes (by omega) HQ.2.2.1 hq1, mrH_yes (by omega) HH.2.2.1 hxl, z_min_yes hb, z_min_no hc, Option.bind_some, zz_10, ↓reduceIte, z_fails]
  by_cases hch : 0 < s_children (u 43) (nN x)
  case pos =>
    refine ⟨.inr 2, u, 0, mg_up u 42 0 3, 3, ?_, ?_, rfl, Or.inr (Or.inr (Or.inr ⟨rfl, rfl⟩)), z_I_thrown 3 hu⟩
    · rcases hd with rfl | ⟨q, hq1, rfl⟩
      · simp only [C_declare, crH_yes (by omega) HH.2.1 hxl, z_win_yes hb, z_win_yes hc, c_children HH, hch, Option.bind_some, zz_10, ↓reduceIte]
      · simp only [C_declare, z_ne1 (show q < 2147483648 by omega), crQ_yes (by omega) HQ.2.1 hq1, crH_yes (by omega) HH.2.1 hxl, z_win_yes hb, z_win_yes hc, c_children HH, hch, Option.bind_some, zz_10, ↓reduceIte]
    · rcases hd with rfl | ⟨q, hq1, rfl⟩
      · simp only [M_declare, mrH_yes (by omega) HH.2.2.1 hxl, z_min_yes hb, z_min_yes hc, m_children HH, hch, Option.bind_some, zz_10, ↓reduceIte, z_fails]
      · simp only [M_declare, z_ne1 (show q < 2147483648 by omega), miQ_yes (by omega) HQ.2.2.1 hq1, mrH_yes (by omega) HH.2.2.1 hxl, z_min_yes hb, z_min_yes hc, m_children HH, hch, Option.bind_some, zz_10, ↓reduceIte, z_fails]
  by_cases h0 : na = 0
  case pos =>
    have z0 : T_count_30 u = some 0 := by rw [T_count_30, HA.2.1, h0]; rfl
    have z6 : u 43 6 = 0 := by rw [HA.2.2.1, h0]; rfl
    refine ⟨.inr 2, u, 0, mg_up u 42 0 3, 3, ?_, ?_, rfl, Or.inr (Or.inr (Or.inr ⟨rfl, rfl⟩)), z_I_thrown 3 hu⟩
    · rcases hd with rfl | ⟨q, hq1, rfl⟩
      · simp only [C_declare, crH_yes (by omega) HH.2.1 hxl, z_win_yes hb, z_win_yes hc, c_children HH, hch, z0, Option.bind_some, zz_10, ↓reduceIte]
      · simp only [C_declare, z_ne1 (show q < 2147483648 by omega), crQ_yes (by omega) HQ.2.1 hq1, crH_yes (by omega) HH.2.1 hxl, z_win_yes hb, z_win_yes hc, c_children HH, hch, z0, Option.bind_some, zz_10, ↓reduceIte]
    · rcases hd with rfl | ⟨q, hq1, rfl⟩
      · simp only [M_declare, mrH_yes (by omega) HH.2.2.1 hxl, z_min_yes hb, z_min_yes hc, m_children HH, hch, z6, Option.bind_some, zz_10, ↓reduceIte, z_fails]
      · simp only [M_declare, z_ne1 (show q < 2147483648 by omega), miQ_yes (by omega) HQ.2.2.1 hq1, mrH_yes (by omega) HH.2.2.1 hxl, z_min_yes hb, z_min_yes hc, m_children HH, hch, z6, Option.bind_some, zz_10, ↓reduceIte, z_fails]
  have c30 : T_count_30 u = some (nN na) := by rw [T_count_30, HA.2.1]
  have n0 : ¬ nN na = 0 := z_nne (b := 0) (by omega) (by omega) h0
  have n6 : ¬ u 43 6 = 0 := by rw [HA.2.2.1]; exact n0
  by_cases hf : nd < 30
  case neg =>
    have e9 : nd = 30 := by have := HD.1; omega
    have e8 : u 43 5 = 30 := by rw [HD.2.2.1, e9]; rfl
    refine ⟨.inr 2, u, 0, mg_up u 42 0 3, 3, ?_, ?_, rfl, Or.inr (Or.inr (Or.inr ⟨rfl, rfl⟩)), z_I_thrown 3 hu⟩
    · rcases hd with rfl | ⟨q, hq1, rfl⟩
      · simp only [C_declare, crH_yes (by omega) HH.2.1 hxl, z_win_yes hb, z_win_yes hc, c_children HH, hch, c30, n0, zf_25_yes HD.2.1 HD.1 hf, Option.bind_some, zz_10, ↓reduceIte]
      · simp only [C_declare, z_ne1 (show q < 2147483648 by omega), crQ_yes (by omega) HQ.2.1 hq1, crH_yes (by omega) HH.2.1 hxl, z_win_yes hb, z_win_yes hc, c_children HH, hch, c30, n0, zf_25_yes HD.2.1 HD.1 hf, Option.bind_some, zz_10, ↓reduceIte]
    · rcases hd with rfl | ⟨q, hq1, rfl⟩
      · simp only [M_declare, mrH_yes (by omega) HH.2.2.1 hxl, z_min_yes hb, z_min_yes hc, m_children HH, hch, n6, e8, Option.bind_some, zz_10, ↓reduceIte, z_fails]
      · simp only [M_declare, z_ne1 (show q < 2147483648 by omega), miQ_yes (by omega) HQ.2.2.1 hq1, mrH_yes (by omega) HH.2.2.1 hxl, z_min_yes hb, z_min_yes hc, m_children HH, hch, n6, e8, Option.bind_some, zz_10, ↓reduceIte, z_fails]
  obtain ⟨u0, k1, k2, k3⟩ := z_write hu
  obtain ⟨v, a1, a2, a3, a4, cc⟩ := c_enter_29 (n := na) (nd := nd) (g := u 43) (u := u0) (by rw [k2 31 (by decide)]; exact HA) (by omega) (by rw [k2 13 (by decide)]; exact HT) (by rw [k2 17 (by decide)]; exact HL.1) hf (by rw [k2 26 (by decide)]; exact HD.2.1) (nN x) b c d
  obtain ⟨u1, hu1⟩ : ∃ u1, u1 = mg_up v 31 0 0 := ⟨_, rfl⟩
  have hq : ∀ q, q ≠ 26 → q ≠ 31 → u1 q = u0 q := fun q q1 q2 => by rw [hu1, z_up_ne q2, a2 q q1]
  have hu1q : ∀ q, q ≠ 26 → q ≠ 31 → q ∉ 0 :: z_ks.map (· + 1) → u1 q = u q := fun q q1 q2 q3 => (hq q q1 q2).trans (k2 q q3)
  have h26 : u1 26 = v 26 := by rw [hu1, z_up_ne (by decide)]
  obtain ⟨u2, m1, m2, m3⟩ := k3 u1 (fun q hq2 => hq q (by rintro rfl; revert hq2; decide) (by rintro rfl; revert hq2; decide))
  have g43 : u1 43 = u 43 := hu1q 43 (by decide) (by decide) (by decide)
  have g2 : u2 43 = u1 43 := m2 43 (by decide) (by decide)
  obtain ⟨W, hM, w1, w2, w3, w4, ww⟩ := md_ok (nh := nh) (nq := nq) (nd := nd) (na := na) (x := x) (b := b) (c := c) (d := d) (f := u 4) (f2 := u 31) (u1 := u1) (u2 := u2) (by rw [g43]; exact HH) hxl hQ6 (by rw [g43]; exact HQ.2.2.1) hd hb hc (by rw [g43]; exact hch) (by rw [g43]; exact HA) (by omega) hf (by rw [g43]; exact HD.2.2.1) m1 g2
  rw [g43] at w4 ww
  have hC : C_declare (nN x) b c d u = some (.inl (nN nd), u1) := by
    rcases hd with rfl | ⟨q, hq1, rfl⟩
    · simp only [C_declare, crH_yes (by omega) HH.2.1 hxl, z_win_yes hb, z_win_yes hc, c_children HH, hch, c30, n0, zf_25_no HD.2.1 hf, k1, a1, T_clear_30, T_setCount_30, Option.bind_some, zz_10, ↓reduceIte]
      rw [hu1]
    · simp only [C_declare, crH_yes (by omega) HH.2.1 hxl, z_ne1 (show q < 2147483648 by omega), crQ_yes (by omega) HQ.2.1 hq1, z_win_yes hb, z_win_yes hc, c_children HH, hch, c30, n0, zf_25_no HD.2.1 hf, k1, a1, T_clear_30, T_setCount_30, Option.bind_some, zz_10, ↓reduceIte]
      rw [hu1]
  refine ⟨_, _, _, _, 0, hC, hM, rfl, Or.inl ⟨_, rfl, rfl, rfl⟩, z_fin m3 m2 w1 ?_⟩
  obtain ⟨c0, c1, c2, c3, c4, c5, c6, c7, c8, c9, c10, c11, c12, c13, c14⟩ := cc
  obtain ⟨e0, e1, e2, e3, e4, e5, e6, e7, e8, e9, e10, e11, e12, e13, e14⟩ := ww
  obtain ⟨l, hl1, hl2, el⟩ := z_winN (lo := 1) (hi := 999) (by omega) (by omega) hb
  obtain ⟨oc, oc1, oc2⟩ := s_pori_at HA (by omega)
  refine ⟨nh, np, ns, nq, nd + 1, 0, tH_cg (fun i _ => by rw [hu1q 4 (by decide) (by decide) (by decide)]) (fun i hi => w4 i (by omega) (by omega) (by omega)) HH, tP_cg (fun i _ => by rw [hu1q 7 (by decide) (by decide) (by decide)]) (fun i hi => w4 i (by omega) (by omega) (by omega)) HP, tS_cg (fun i _ => by rw [hu1q 10 (by decide) (by decide) (by decide)]) (fun i hi => w4 i (by omega) (by omega) (by omega)) HS, tQ_cg (fun i _ => by rw [hu1q 23 (by decide) (by decide) (by decide)]) (fun i hi => w4 i (by omega) (by omega) (by omega)) HQ, ?_, tC_add hQ6 HC (fun i hi => w4 i (by omega) (by omega) (by omega)) (fun i hi => w4 _ (by omega) (by omega) (by omega)) e8, ⟨by omega, by rw [hu1, zu_eq]; rfl, w3, fun i h => absurd h (by omega), fun k h => absurd h (by omega)⟩, tT_cg (fun i _ => by rw [hu1q 13 (by decide) (by decide) (by decide)]) (fun i hi => w4 i (by omega) (by omega) (by omega)) HT, tL_cg (fun i _ => by rw [hu1q 17 (by decide) (by decide) (by decide)]) (fun i _ => by rw [hu1q 20 (by decide) (by decide) (by decide)]) (fun i hi => w4 i (by omega) (by omega) (by omega)) HL⟩
  refine tD_add HD hf (by rw [h26]; exact a3) w2 (fun i hi => by rw [h26, a4 _ (by omega) (by omega), k2 26 (by decide)]) (fun i hi => w4 _ (by omega) (by omega) (by omega)) (fun j hj => ?_) ⟨⟨x, hxl, e0⟩, ⟨l, hl1, hl2, e1.trans el⟩, ⟨oc, oc1, e3.trans oc2⟩, ?_, ⟨0, by omega, e7⟩, ⟨0, by omega, e8⟩, fun _ => e8⟩
  · rw [h26]
    rcases (show j = 0 ∨ j = 1 ∨ j = 2 ∨ j = 3 ∨ j = 4 ∨ j = 5 ∨ j = 6 ∨ j = 7 ∨ j = 8 ∨ j = 9 ∨ j = 10 ∨ j = 11 ∨ j = 12 ∨ j = 13 ∨ j = 14 by omega) with rfl | rfl | rfl | rfl | rfl | rfl | rfl | rfl | rfl | rfl | rfl | rfl | rfl | rfl | rfl
    · exact c0.trans e0.symm
    · exact c1.trans e1.symm
    · exact c2.trans e2.symm
    · exact c3.trans e3.symm
    · exact c4.trans e4.symm
    · exact c5.trans e5.symm
    · exact c6.trans e6.symm
    · exact c7.trans e7.symm
    · exact c8.trans e8.symm
    · exact c9.trans e9.symm
    · exact c10.trans e10.symm
    · exact c11.trans e11.symm
    · exact c12.trans e12.symm
    · exact c13.trans e13.symm
    · exact c14.trans e14.symm
  · rw [e5]
    exact hd
/-! claim -/
def s_grD (g : z_Ro) (d : Nat) : Int32 := s_gr g (g (208 + 16 * d)) (g (208 + 16 * d + 3)) (g (208 + 16 * d + 2)) (g (208 + 16 * d + 4)) (g (208 + 16 * d + 6))
def s_gfD (g : z_Ro) (r : Int32) (d : Nat) : Int32 := s_gf g r (g (208 + 16 * d)) (g (208 + 16 * d + 3)) (g (208 + 16 * d + 2)) (g (208 + 16 * d + 4))
def s_claims (g : z_Ro) (d q : Nat) (left : Int32) : Int32 :=
  if s_under g (g (208 + 16 * d)) (g (138 + 9 * q)) = false then 1 else
  if ¬ g (138 + 9 * q + 1) = -1 ∧ ¬ g (138 + 9 * q + 1) = g (208 + 16 * d + 3) then 2 else
  if g (208 + 16 * d + 6) < g (138 + 9 * q + 4) ∨ g (138 + 9 * q + 5) < g (208 + 16 * d + 6) then 3 else
  if g (138 + 9 * q + 3) < s_grD g d then (if left = 0 then 5 else 0) else 4
def z_gd (u : mg_Rg) (g : z_Ro) (d : Nat) : mg_Rg := mg_up (mg_up (mg_up (mg_up (mg_up u 28 0 (g (208 + 16 * d))) 28 1 (g (208 + 16 * d + 3))) 28 2 (g (208 + 16 * d + 2))) 28 3 (g (208 + 16 * d + 4))) 28 4 (g (208 + 16 * d + 6))
theorem z_gd_ne {u : mg_Rg} {g : z_Ro} {d q : Nat} (hq : q ≠ 28) : z_gd u g d q = u q := by
  unfold z_gd
  rw [z_up_ne hq, z_up_ne hq, z_up_ne hq, z_up_ne hq, z_up_ne hq]
theorem z_gd_0 (u : mg_Rg) (g : z_Ro) (d : Nat) : z_gd u g d 28 0 = g (208 + 16 * d) := rfl
theorem z_gd_1 (u : mg_Rg) (g : z_Ro) (d : Nat) : z_gd u g d 28 1 = g (208 + 16 * d + 3) := rfl
theorem z_gd_2 (u : mg_Rg) (g : z_Ro) (d : Nat) : z_gd u g d 28 2 = g (208 + 16 * d + 2) := rfl
theorem z_gd_3 (u : mg_Rg) (g : z_Ro) (d : Nat) : z_gd u g d 28 3 = g (208 + 16 * d + 4) := rfl
theorem z_gd_4 (u : mg_Rg) (g : z_Ro) (d : Nat) : z_gd u g d 28 4 = g (208 + 16 * d + 6) := rfl
/-- the first columns of a row -/
def z_row8 (u : mg_Rg) (g : z_Ro) (d : Nat) : Prop := d < 30 ∧ ∀ j < 8, u 26 (1 + d * 15 + j) = g (208 + 16 * d + j)
theorem c8_0 {d : Nat} {u : mg_Rg} {g : z_Ro} (H : z_row8 u g d) : T_get_25 (nN d) 0 u = some (g (208 + 16 * d)) := by rw [rg_25_0 H.1]; exact congrArg some (H.2 0 (by omega))
theorem c8_1 {d : Nat} {u : mg_Rg} {g : z_Ro} (H : z_row8 u g d) : T_get_25 (nN d) 1 u = some (g (208 + 16 * d + 1)) := by rw [rg_25_1 H.1]; exact congrArg some (H.2 1 (by omega))
theorem c8_2 {d : Nat} {u : mg_Rg} {g : z_Ro} (H : z_row8 u g d) : T_get_25 (nN d) 2 u = some (g (208 + 16 * d + 2)) := by rw [rg_25_2 H.1]; exact congrArg some (H.2 2 (by omega))
theorem c8_3 {d : Nat} {u : mg_Rg} {g : z_Ro} (H : z_row8 u g d) : T_get_25 (nN d) 3 u = some (g (208 + 16 * d + 3)) := by rw [rg_25_3 H.1]; exact congrArg some (H.2 3 (by omega))
theorem c8_4 {d : Nat} {u : mg_Rg} {g : z_Ro} (H : z_row8 u g d) : T_get_25 (nN d) 4 u = some (g (208 + 16 * d + 4)) := by rw [rg_25_4 H.1]; exact congrArg some (H.2 4 (by omega))
theorem c8_5 {d : Nat} {u : mg_Rg} {g : z_Ro} (H : z_row8 u g d) : T_get_25 (nN d) 5 u = some (g (208 + 16 * d + 5)) := by rw [rg_25_5 H.1]; exact congrArg some (H.2 5 (by omega))
theorem c8_6 {d : Nat} {u : mg_Rg} {g : z_Ro} (H : z_row8 u g d) : T_get_25 (nN d) 6 u = some (g (208 + 16 * d + 6)) := by rw [rg_25_6 H.1]; exact congrArg some (H.2 6 (by omega))
theorem c8_7 {d : Nat} {u : mg_Rg} {g : z_Ro} (H : z_row8 u g d) : T_get_25 (nN d) 7 u = some (g (208 + 16 * d + 7)) := by rw [rg_25_7 H.1]; exact congrArg some (H.2 7 (by omega))
theorem c_load {d : Nat} {u : mg_Rg} {g : z_Ro} (H : z_row8 u g d) : O_loadGoods (nN d) u = some (z_gd u g d) := by
  unfold O_loadGoods
  rw [c8_0 H, c8_3 H, c8_2 H, c8_4 H, c8_6 H]
  rfl
theorem c_grD {nh np ns d : Nat} {g : z_Ro} {u : mg_Rg} (HH : tH nh (u 4) g) (HP : tP np (u 7) g) (HS : tS ns (u 10) g) (HT : tT (u 13) g) (hx : ∃ p < nh, g (208 + 16 * d) = nN p) : Tf_leastRate_28 (z_gd u g d) = some (s_grD g d) := by
  obtain ⟨p, hp, e⟩ := hx
  have h := c_gr (u := z_gd u g d) (g := g) (nh := nh) (np := np) (ns := ns) (x := p) (by rw [z_gd_ne (by decide)]; exact HH) (by rw [z_gd_ne (by decide)]; exact HP) (by rw [z_gd_ne (by decide)]; exact HS) (by rw [z_gd_ne (by decide)]; exact HT) hp e
  rw [h, z_gd_1, z_gd_2, z_gd_3, z_gd_4, ← e]
  rfl
theorem c_gfD {nh np d : Nat} {g : z_Ro} {u : mg_Rg} (HH : tH nh (u 4) g) (HP : tP np (u 7) g) (HT : tT (u 13) g) (hx : ∃ p < nh, g (208 + 16 * d) = nN p) (r : Int32) (e0 : u 28 0 = g (208 + 16 * d)) (e1 : u 28 1 = g (208 + 16 * d + 3)) (e2 : u 28 2 = g (208 + 16 * d + 2)) (e3 : u 28 3 = g (208 + 16 * d + 4)) : Tf_sourceOf_28 r u = some (s_gfD g r d) := by
  obtain ⟨p, hp, e⟩ := hx
  rw [c_gf (u := u) (g := g) HH HP HT hp (e0.trans e), e1, e2, e3, ← e]
  rfl
theorem m_grD {nh np ns d : Nat} {f f2 f3 : z_Ro} {u : mg_Rg} (HH : tH nh f (u 43)) (HP : tP np f2 (u 43)) (HS : tS ns f3 (u 43)) (hd : d < 30) (hx : ∃ p < nh, u 43 (208 + 16 * d) = nN p) : M_rateNow (nN d) u = some (s_grD (u 43) d) := by
  obtain ⟨p, hp, e⟩ := hx
  unfold M_rateNow s_grD
  rw [mdeclAt_0 hd, mdeclAt_3 hd, mdeclAt_2 hd, mdeclAt_4 hd, mdeclAt_6 hd, e]
  simp only [Option.bind_some]
  rw [m_gr HH HP HS hp]
  rfl
theorem m_gfD {nh np ns d : Nat} {f f2 f3 : z_Ro} {u : mg_Rg} (HH : tH nh f (u 43)) (HP : tP np f2 (u 43)) (HS : tS ns f3 (u 43)) (hd : d < 30) (hx : ∃ p < nh, u 43 (208 + 16 * d) = nN p) : M_fromNow (nN d) u = some (s_gfD (u 43) (s_grD (u 43) d) d) := by
  obtain ⟨p, hp, e⟩ := hx
  unfold M_fromNow s_gfD s_grD
  rw [mdeclAt_0 hd, mdeclAt_3 hd, mdeclAt_2 hd, mdeclAt_4 hd, mdeclAt_6 hd, e]
  simp only [Option.bind_some]
  rw [m_gf HH HP HS hp]
  rfl
theorem c_claims {nh np ns nq d q : Nat} {g : z_Ro} {u : mg_Rg} (HH : tH nh (u 4) g) (HP : tP np (u 7) g) (HS : tS ns (u 10) g) (HT : tT (u 13) g) (HQ : tQ nq (u 23) g) (H : z_row8 u g d) (hx : ∃ p < nh, g (208 + 16 * d) = nN p) (hq : q < nq) (h5 : g (208 + 16 * d + 5) = nN q) : O_claimReason (nN d) u = some (s_claims g d q (g (138 + 9 * q + 6)), z_gd u g d) := by
  have hg := c_grD (d := d) HH HP HS HT hx
  have HQ' : tQ nq (z_gd u g d 23) g := by rw [z_gd_ne (by decide)]; exact HQ
  obtain ⟨p, hp, e⟩ := hx
  have hun := c_under (u := z_gd u g d) (g := g) (N := nh) (h := p) (by rw [z_gd_ne (by decide)]; exact HH) hp (g (138 + 9 * q))
  unfold O_claimReason s_claims
  rw [c8_5 H, h5]
  simp only [Option.bind_some]
  rw [cQ_1 HQ hq, c_load H]
  simp only [Option.bind_some]
  rw [cQ_0 HQ' hq, z_gd_0, z_gd_1, z_gd_4, cQ_3 HQ' hq, cQ_4 HQ' hq, cQ_5 HQ' hq, cQ_6 HQ' hq, hg, e]
  simp only [Option.bind_some]
  rw [hun]
  simp only [Option.bind_some, z_bz]
  cases s_under g (nN p) (g (138 + 9 * q)) with
  | false => rfl
  | true =>
    rw [if_neg z_tf, if_neg z_tf]
    by_cases h1 : g (138 + 9 * q + 1) = -1
    · rw [if_pos h1, if_neg (show ¬ (¬ g (138 + 9 * q + 1) = -1 ∧ ¬ g (138 + 9 * q + 1) = g (208 + 16 * d + 3)) from fun r => r.1 h1)]
      by_cases h3 : g (208 + 16 * d + 6) < g (138 + 9 * q + 4) ∨ g (138 + 9 * q + 5) < g (208 + 16 * d + 6)
      · rw [z_win_no h3, if_pos h3]
        rfl
      · rw [z_win_yes h3, if_neg h3]
        simp only [Option.bind_some]
        rw [if_neg (by decide)]
        by_cases h4 : g (138 + 9 * q + 3) < s_grD g d
        · rw [if_pos h4, if_pos h4]
          by_cases h6 : g (138 + 9 * q + 6) = 0
          · rw [if_pos h6, if_pos h6]
          · rw [if_neg h6, if_neg h6]
        · rw [if_neg h4, if_neg h4]
    · rw [if_neg h1]
      by_cases h2 : g (138 + 9 * q + 1) = g (208 + 16 * d + 3)
      · rw [if_pos h2, if_neg (show ¬ (¬ g (138 + 9 * q + 1) = -1 ∧ ¬ g (138 + 9 * q + 1) = g (208 + 16 * d + 3)) from fun r => r.2 h2)]
        by_cases h3 : g (208 + 16 * d + 6) < g (138 + 9 * q + 4) ∨ g (138 + 9 * q + 5) < g (208 + 16 * d + 6)
        · rw [z_win_no h3, if_pos h3]
          rfl
        · rw [z_win_yes h3, if_neg h3]
          simp only [Option.bind_some]
          rw [if_neg (by decide)]
          by_cases h4 : g (138 + 9 * q + 3) < s_grD g d
          · rw [if_pos h4, if_pos h4]
            by_cases h6 : g (138 + 9 * q + 6) = 0
            · rw [if_pos h6, if_pos h6]
            · rw [if_neg h6, if_neg h6]
          · rw [if_neg h4, if_neg h4]
      · rw [if_neg h2, if_pos ⟨h1, h2⟩]
theorem m_claims {nh np ns d q : Nat} {f f2 f3 : z_Ro} {u : mg_Rg} (HH : tH nh f (u 43)) (HP : tP np f2 (u 43)) (HS : tS ns f3 (u 43)) (hd : d < 30) (hx : ∃ p < nh, u 43 (208 + 16 * d) = nN p) (hq : q < 6) (hqp : ∃ p < 20, u 43 (138 + 9 * q) = nN p) (h5 : u 43 (208 + 16 * d + 5) = nN q) (left : Int32) : M_claims (nN d) left u = some (s_claims (u 43) d q left) := by
  have hg := m_grD (d := d) HH HP HS hd hx
  obtain ⟨p, hp, e⟩ := hx
  obtain ⟨p', hp', e'⟩ := hqp
  have hun := m_under (u := u) HH hp (o := u 43 (138 + 9 * q)) (by rw [e']; exact z_ne1 (by omega))
  unfold M_claims s_claims
  rw [mdeclAt_5 hd, h5, mdeclAt_0 hd, mdeclAt_6 hd, mdeclAt_3 hd, hg, e]
  simp only [Option.bind_some]
  rw [mquotaAt_0 hq, mquotaAt_1 hq, mquotaAt_4 hq, mquotaAt_5 hq, mquotaAt_3 hq]
  simp only [Option.bind_some]
  rw [hun]
  simp only [Option.bind_some, z_bz]
  cases s_under (u 43) (nN p) (u 43 (138 + 9 * q)) with
  | false => rfl
  | true =>
    rw [if_neg z_tf, if_neg z_tf]
    by_cases h1 : u 43 (138 + 9 * q + 1) = -1
    · rw [if_pos h1, if_neg (show ¬ (¬ u 43 (138 + 9 * q + 1) = -1 ∧ ¬ u 43 (138 + 9 * q + 1) = u 43 (208 + 16 * d + 3)) from fun r => r.1 h1)]
      by_cases h3 : u 43 (208 + 16 * d + 6) < u 43 (138 + 9 * q + 4) ∨ u 43 (138 + 9 * q + 5) < u 43 (208 + 16 * d + 6)
      · rw [z_min_no h3, if_pos h3]
        rfl
      · rw [z_min_yes h3, if_neg h3]
        simp only [Option.bind_some]
        rw [if_neg (by decide)]
        by_cases h4 : u 43 (138 + 9 * q + 3) < s_grD (u 43) d
        · rw [if_pos h4, if_pos h4]
          by_cases h6 : left = 0
          · rw [if_pos h6, if_pos h6]
          · rw [if_neg h6, if_neg h6]
        · rw [if_neg h4, if_neg h4]
    · rw [if_neg h1]
      by_cases h2 : u 43 (138 + 9 * q + 1) = u 43 (208 + 16 * d + 3)
      · rw [if_pos h2, if_neg (show ¬ (¬ u 43 (138 + 9 * q + 1) = -1 ∧ ¬ u 43 (138 + 9 * q + 1) = u 43 (208 + 16 * d + 3)) from fun r => r.2 h2)]
        by_cases h3 : u 43 (208 + 16 * d + 6) < u 43 (138 + 9 * q + 4) ∨ u 43 (138 + 9 * q + 5) < u 43 (208 + 16 * d + 6)
        · rw [z_min_no h3, if_pos h3]
          rfl
        · rw [z_min_yes h3, if_neg h3]
          simp only [Option.bind_some]
          rw [if_neg (by decide)]
          by_cases h4 : u 43 (138 + 9 * q + 3) < s_grD (u 43) d
          · rw [if_pos h4, if_pos h4]
            by_cases h6 : left = 0
            · rw [if_pos h6, if_pos h6]
            · rw [if_neg h6, if_neg h6]
          · rw [if_neg h4, if_neg h4]
      · rw [if_neg h2, if_pos ⟨h1, h2⟩]
theorem tD_row8 {nh nq nd d : Nat} {u : mg_Rg} {g : z_Ro} (HD : tD nh nq nd (u 26) g) (hd : d < nd) : z_row8 u g d := ⟨by have := HD.1; omega, fun j hj => HD.2.2.2.1 d hd j (by omega)⟩
theorem ob_18 : Ob_18 z_I := by
  intro u hu a
  obtain ⟨nh, np, ns, nq, nd, na, HH, HP, HS, HQ, HD, HC, HA, HT, HL⟩ := hu.1
  have hD30 := HD.1
  have hQ6 := HQ.1
  by_cases hx : ∃ x, x < nd ∧ a = nN x
  case neg =>
    have hx' : ∀ x < nd, a ≠ nN x := fun x hl e => hx ⟨x, hl, e⟩
    refine ⟨.inr 0, u, 0, mg_up u 42 0 1, 1, ?_, ?_, rfl, Or.inr (Or.inl ⟨rfl, rfl⟩), z_I_thrown 1 hu⟩
    · simp only [C_claim, crD_no (by omega) HD.2.1 hx', Option.bind_some, zz_10, ↓reduceIte]
    · simp only [M_claim, mrD_no (by omega) HD.2.2.1 hx', Option.bind_some, zz_10, ↓reduceIte, z_fails]
  obtain ⟨x, hxl, rfl⟩ := hx
  have hw := HD.2.2.2.2 x hxl
  have H8 := tD_row8 HD hxl
  by_cases h7 : u 43 (208 + 16 * x + 7) = 0
  case neg =>
    refine ⟨.inr 2, u, 0, mg_up u 42 0 2, 2, ?_, ?_, rfl, Or.inr (Or.inr ⟨rfl, rfl⟩), z_I_thrown 2 hu⟩
    · simp only [C_claim, crD_yes (by omega) HD.2.1 hxl, c_stat HD hxl, z_bz, decide_eq_false h7, Option.bind_some, zz_10, ↓reduceIte]
    · simp only [M_claim, mrD_yes (by omega) HD.2.2.1 hxl, mdeclAt_5 (show x < 30 by omega), mdeclAt_7 (show x < 30 by omega), h7, Option.bind_some, zz_10, ↓reduceIte, z_fails]
  rcases hw.2.2.2.1 with h5 | ⟨q, hq, h5⟩
  · refine ⟨.inr 2, u, 0, mg_up u 42 0 2, 2, ?_, ?_, rfl, Or.inr (Or.inr ⟨rfl, rfl⟩), z_I_thrown 2 hu⟩
    · simp only [C_claim, crD_yes (by omega) HD.2.1 hxl, c_stat HD hxl, z_bz, decide_eq_true h7, c8_5 H8, h5, z_tf, Option.bind_some, zz_10, ↓reduceIte]
    · simp only [M_claim, mrD_yes (by omega) HD.2.2.1 hxl, mdeclAt_5 (show x < 30 by omega), mdeclAt_7 (show x < 30 by omega), h7, h5, Option.bind_some, zz_10, ↓reduceIte, z_fails]
  · have hcl := c_claims HH HP HS HT HQ H8 hw.1 hq h5
    have hml := m_claims (u := z_gd u (u 43) x) (f := u 4) (f2 := u 7) (f3 := u 10) (nh := nh) (np := np) (ns := ns) (d := x) (q := q) (by rw [z_gd_ne (by decide)]; exact HH) (by rw [z_gd_ne (by decide)]; exact HP) (by rw [z_gd_ne (by decide)]; exact HS) (by omega) (by rw [z_gd_ne (by decide)]; exact hw.1) (by omega) (by rw [z_gd_ne (by decide)]; exact (HQ.2.2.2.2 q hq).1) (by rw [z_gd_ne (by decide)]; exact h5) (u 43 (138 + 9 * q + 6))
    have e43 : z_gd u (u 43) x 43 = u 43 := z_gd_ne (by decide)
    rw [e43] at hml
    have hn := z_ne1 (show q < 2147483648 by omega)
    refine ⟨.inl (s_claims (u 43) x q (u 43 (138 + 9 * q + 6))), z_gd u (u 43) x, s_claims (u 43) x q (u 43 (138 + 9 * q + 6)), mg_up (z_gd u (u 43) x) 42 0 0, 0, ?_, ?_, rfl, Or.inl ⟨_, rfl, rfl, rfl⟩, z_I_thrown 0 (z_I_goods (fun k hk => z_gd_ne hk) hu)⟩
    · simp only [C_claim, crD_yes (by omega) HD.2.1 hxl, c_stat HD hxl, z_bz, decide_eq_true h7, c8_5 H8, h5, hn, hcl, z_tf, Option.bind_some, zz_10, ↓reduceIte]
    · simp only [M_claim, mrD_yes (u := z_gd u (u 43) x) (by omega) (show z_gd u (u 43) x 43 5 = nN nd by rw [e43]; exact HD.2.2.1) hxl, mdeclAt_5 (show x < 30 by omega), mdeclAt_7 (show x < 30 by omega), e43, h7, h5, hn, mquotaAt_6 (show q < 6 by omega), hml, Option.bind_some, zz_10, ↓reduceIte, z_done]
