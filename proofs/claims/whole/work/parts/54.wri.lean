/-! CALLS THAT WRITE -/
theorem z_n0 {k : Nat} (h : k < 2147483648) : (nN k < 0) = False := eq_false (z_nn h)
theorem z_690 {k : Nat} (h : k < 690) : (690 ≤ k) = False := eq_false (by omega)
theorem z_nne {a b : Nat} (ha : a < 2147483648) (hb : b < 2147483648) (h : a ≠ b) : ¬ nN a = nN b := fun q => h ((z_inj ha hb).mp q)
/-- the end of a call that writes -/
theorem z_fin {u1 u2 w : mg_Rg} (hR : z_R u2) (h12 : ∀ k, k ≠ 44 → k ≠ 42 → u2 k = u1 k) (hw : ∀ k, k ≠ 43 → w k = u2 k) (hrel : z_rel u1 (w 43)) : z_I (mg_up w 42 0 0) := by
  refine z_I_thrown 0 ⟨z_rel_congr (fun k hk => ?_) hrel, z_R_congr (fun k hk => hw k ?_) (fun i _ => by rw [hw 0 (by decide)]) (fun i _ => by rw [hw 42 (by decide)]) hR⟩
  · have : k ≠ 43 ∧ k ≠ 44 ∧ k ≠ 42 := by
      simp only [z_ks, List.mem_cons, List.not_mem_nil, or_false] at hk
      omega
    rw [hw k this.1, h12 k this.2.1 this.2.2]
  · rintro rfl
    revert hk
    decide
theorem tA_add {n : Nat} {f g f' g' : z_Ro} (H : tA n f g) (hn : n < 4) (f0 : f' 0 = nN (n + 1)) (g0 : g' 6 = nN (n + 1)) (fo : ∀ i < 2 * n, f' (1 + i) = f (1 + i)) (go : ∀ i < 2 * n, g' (192 + i) = g (192 + i)) (e0 : f' (1 + n * 2) = g' (192 + 2 * n)) (e1 : f' (1 + n * 2 + 1) = g' (192 + 2 * n + 1)) (hc : ∃ c < 8, g' (192 + 2 * n) = nN c) : tA (n + 1) f' g' := by
  obtain ⟨h1, h2, h3, h4, h5⟩ := H
  refine ⟨by omega, f0, g0, fun i hi => ?_, fun k hk => ?_⟩
  · by_cases h : i < 2 * n
    · rw [fo i h, go i h]
      exact h4 i h
    · rcases (show i = 2 * n + 0 ∨ i = 2 * n + 1 by omega) with e | e
      · subst e
        rw [show 1 + (2 * n + 0) = 1 + n * 2 by omega, show 192 + (2 * n + 0) = 192 + 2 * n by omega]
        exact e0
      · subst e
        rw [show 1 + (2 * n + 1) = 1 + n * 2 + 1 by omega, show 192 + (2 * n + 1) = 192 + 2 * n + 1 by omega]
        exact e1
  · by_cases h : k < n
    · rw [go (2 * k) (by omega)]
      exact h5 k h
    · have e : k = n := by omega
      subst e
      exact hc
theorem tP_add {n : Nat} {f g f' g' : z_Ro} (H : tP n f g) (hn : n < 10) (f0 : f' 0 = nN (n + 1)) (g0 : g' 2 = nN (n + 1)) (fo : ∀ i < 4 * n, f' (1 + i) = f (1 + i)) (go : ∀ i < 4 * n, g' (80 + i) = g (80 + i)) (e0 : f' (1 + n * 4) = g' (80 + 4 * n)) (e1 : f' (1 + n * 4 + 1) = g' (80 + 4 * n + 1)) (e2 : f' (1 + n * 4 + 2) = g' (80 + 4 * n + 2)) (e3 : f' (1 + n * 4 + 3) = g' (80 + 4 * n + 3)) (hc : ∃ c < 20, g' (80 + 4 * n) = nN c) : tP (n + 1) f' g' := by
  obtain ⟨h1, h2, h3, h4, h5⟩ := H
  refine ⟨by omega, f0, g0, fun i hi => ?_, fun k hk => ?_⟩
  · by_cases h : i < 4 * n
    · rw [fo i h, go i h]
      exact h4 i h
    · rcases (show i = 4 * n + 0 ∨ i = 4 * n + 1 ∨ i = 4 * n + 2 ∨ i = 4 * n + 3 by omega) with e | e | e | e
      · subst e
        rw [show 1 + (4 * n + 0) = 1 + n * 4 by omega, show 80 + (4 * n + 0) = 80 + 4 * n by omega]
        exact e0
      · subst e
        rw [show 1 + (4 * n + 1) = 1 + n * 4 + 1 by omega, show 80 + (4 * n + 1) = 80 + 4 * n + 1 by omega]
        exact e1
      · subst e
        rw [show 1 + (4 * n + 2) = 1 + n * 4 + 2 by omega, show 80 + (4 * n + 2) = 80 + 4 * n + 2 by omega]
        exact e2
      · subst e
        rw [show 1 + (4 * n + 3) = 1 + n * 4 + 3 by omega, show 80 + (4 * n + 3) = 80 + 4 * n + 3 by omega]
        exact e3
  · by_cases h : k < n
    · rw [go (4 * k) (by omega)]
      exact h5 k h
    · have e : k = n := by omega
      subst e
      exact hc
theorem tS_add {n : Nat} {f g f' g' : z_Ro} (H : tS n f g) (hn : n < 6) (f0 : f' 0 = nN (n + 1)) (g0 : g' 3 = nN (n + 1)) (fo : ∀ i < 3 * n, f' (1 + i) = f (1 + i)) (go : ∀ i < 3 * n, g' (120 + i) = g (120 + i)) (e0 : f' (1 + n * 3) = g' (120 + 3 * n)) (e1 : f' (1 + n * 3 + 1) = g' (120 + 3 * n + 1)) (e2 : f' (1 + n * 3 + 2) = g' (120 + 3 * n + 2)) (hc : ∃ c < 20, g' (120 + 3 * n) = nN c) : tS (n + 1) f' g' := by
  obtain ⟨h1, h2, h3, h4, h5⟩ := H
  refine ⟨by omega, f0, g0, fun i hi => ?_, fun k hk => ?_⟩
  · by_cases h : i < 3 * n
    · rw [fo i h, go i h]
      exact h4 i h
    · rcases (show i = 3 * n + 0 ∨ i = 3 * n + 1 ∨ i = 3 * n + 2 by omega) with e | e | e
      · subst e
        rw [show 1 + (3 * n + 0) = 1 + n * 3 by omega, show 120 + (3 * n + 0) = 120 + 3 * n by omega]
        exact e0
      · subst e
        rw [show 1 + (3 * n + 1) = 1 + n * 3 + 1 by omega, show 120 + (3 * n + 1) = 120 + 3 * n + 1 by omega]
        exact e1
      · subst e
        rw [show 1 + (3 * n + 2) = 1 + n * 3 + 2 by omega, show 120 + (3 * n + 2) = 120 + 3 * n + 2 by omega]
        exact e2
  · by_cases h : k < n
    · rw [go (3 * k) (by omega)]
      exact h5 k h
    · have e : k = n := by omega
      subst e
      exact hc
theorem tH_add {n : Nat} {f g f' g' : z_Ro} (H : tH n f g) (hn : n < 20) (f0 : f' 0 = nN (n + 1)) (g0 : g' 1 = nN (n + 1)) (fo : ∀ i < 3 * n, f' (1 + i) = f (1 + i)) (go : ∀ i < 3 * n, g' (20 + i) = g (20 + i))
    (e0 : f' (1 + n * 3) = g' (20 + 3 * n)) (e1 : f' (1 + n * 3 + 1) = g' (20 + 3 * n + 1)) (e2 : f' (1 + n * 3 + 2) = g' (20 + 3 * n + 2))
    (hc : g' (20 + 3 * n) = -1 ∨ ∃ p < n, g' (20 + 3 * n) = nN p ∧ ¬ s_level g (nN p) = 4) : tH (n + 1) f' g' := by
  obtain ⟨h1, h2, h3, h4, v, hv⟩ := id H
  refine ⟨by omega, f0, g0, fun i hi => ?_, fun h => if h < n then v h else if g' (20 + 3 * n) = -1 then 1 else v (g' (20 + 3 * n)).toNatClampNeg + 1, fun h' hh => ?_⟩
  · by_cases h : i < 3 * n
    · rw [fo i h, go i h]
      exact h4 i h
    · rcases (show i = 3 * n + 0 ∨ i = 3 * n + 1 ∨ i = 3 * n + 2 by omega) with e | e | e
      · subst e
        rw [show 1 + (3 * n + 0) = 1 + n * 3 by omega, show 20 + (3 * n + 0) = 20 + 3 * n by omega]
        exact e0
      · subst e
        rw [show 1 + (3 * n + 1) = 1 + n * 3 + 1 by omega, show 20 + (3 * n + 1) = 20 + 3 * n + 1 by omega]
        exact e1
      · subst e
        rw [show 1 + (3 * n + 2) = 1 + n * 3 + 2 by omega, show 20 + (3 * n + 2) = 20 + 3 * n + 2 by omega]
        exact e2
  · dsimp only
    by_cases h : h' < n
    · obtain ⟨a1, a2, a3⟩ := hv _ h
      rw [if_pos h, go _ (by omega)]
      refine ⟨a1, a2, a3.imp id (fun ⟨p, p1, p2, p3⟩ => ⟨p, p1, p2, ?_⟩)⟩
      rw [if_pos (by omega)]
      exact p3
    · rw [if_neg h]
      have e : h' = n := by omega
      subst e
      rcases hc with q | ⟨p, q1, q2, q3⟩
      · rw [if_pos q]
        exact ⟨by omega, by omega, Or.inl ⟨q, rfl⟩⟩
      · have q5 : ¬ g' (20 + 3 * h') = -1 := by rw [q2]; exact z_ne1 (by omega)
        rw [if_neg q5, q2, z_nat (by omega)]
        obtain ⟨b1, b2, b3⟩ := hv p q1
        have q4 : v p ≠ 4 := by
          intro q
          refine q3 ?_
          have := (s_way_ok h1 hv 4 p q1 b2).2
          unfold s_level s_W
          rw [this, q]
          rfl
        refine ⟨by omega, by omega, Or.inr ⟨p, q1, rfl, ?_⟩⟩
        rw [if_pos q1]
theorem tQ_add {n : Nat} {f g f' g' : z_Ro} (H : tQ n f g) (hn : n < 6) (f0 : f' 0 = nN (n + 1)) (g0 : g' 4 = nN (n + 1)) (fo : ∀ i < 9 * n, f' (1 + i) = f (1 + i)) (go : ∀ i < 9 * n, g' (138 + i) = g (138 + i))
    (e : ∀ j < 7, f' (1 + n * 9 + j) = g' (138 + 9 * n + j)) (e8 : f' (1 + n * 9 + 8) = g' (138 + 9 * n + 7)) (e7 : f' (1 + n * 9 + 7) = g' (138 + 9 * n + 2) - g' (138 + 9 * n + 6) - g' (138 + 9 * n + 7))
    (hc : (∃ p < 20, g' (138 + 9 * n) = nN p) ∧ (∃ l ≤ 9999, g' (138 + 9 * n + 6) = nN l) ∧ ∃ l ≤ 9999, g' (138 + 9 * n + 7) = nN l) : tQ (n + 1) f' g' := by
  obtain ⟨h1, h2, h3, h4, h5⟩ := H
  have fo' : ∀ h < n, ∀ j < 9, f' (1 + h * 9 + j) = f (1 + h * 9 + j) := fun h hh j hj => by
    rw [show 1 + h * 9 + j = 1 + (9 * h + j) by omega]
    exact fo _ (by omega)
  have go' : ∀ h < n, ∀ j < 9, g' (138 + 9 * h + j) = g (138 + 9 * h + j) := fun h hh j hj => by
    rw [show 138 + 9 * h + j = 138 + (9 * h + j) by omega]
    exact go _ (by omega)
  refine ⟨by omega, f0, g0, fun h hh => ?_, fun h hh => ?_⟩
  · by_cases q : h < n
    · obtain ⟨a, b, c⟩ := h4 h q
      refine ⟨fun j hj => by rw [fo' h q j (by omega), go' h q j (by omega)]; exact a j hj, by rw [fo' h q 8 (by omega), go' h q 7 (by omega)]; exact b, ?_⟩
      rw [fo' h q 7 (by omega), go' h q 2 (by omega), go' h q 6 (by omega), go' h q 7 (by omega)]
      exact c
    · have e2 : h = n := by omega
      subst e2
      exact ⟨e, e8, e7⟩
  · by_cases q : h < n
    · rw [show g' (138 + 9 * h) = g (138 + 9 * h) from go' h q 0 (by omega), go' h q 6 (by omega), go' h q 7 (by omega)]
      exact h5 h q
    · have e2 : h = n := by omega
      subst e2
      exact hc
theorem ob_13 : Ob_13 z_I := by
  intro u hu a b
  obtain ⟨nh, np, ns, nq, nd, na, HH, HP, HS, HQ, HD, HC, HA, HT, HL⟩ := hu.1
  have hN := HH.1
  by_cases hy : ∃ y, y < 8 ∧ a = nN y
  case neg =>
    have hy' : ∀ y < 8, a ≠ nN y := fun y hl9 e => hy ⟨y, hl9, e⟩
    refine ⟨.inr 0, u, 0, mg_up u 42 0 1, 1, ?_, ?_, rfl, Or.inr (Or.inl ⟨rfl, rfl⟩), z_I_thrown 1 hu⟩
    · simp only [C_part, (ccy_no hy').2.1, Option.bind_some, zz_10, ↓reduceIte]
    · simp only [M_part, (ccy_no hy').2.2, Option.bind_some, zz_10, ↓reduceIte, z_fails]
  obtain ⟨y, hyl, rfl⟩ := hy
  by_cases hb : b < 1 ∨ 9999 < b
  case pos =>
    refine ⟨.inr 1, u, 0, mg_up u 42 0 2, 2, ?_, ?_, rfl, Or.inr (Or.inr (Or.inl ⟨rfl, rfl⟩)), z_I_thrown 2 hu⟩
    · simp only [C_part, (ccy_yes hyl).2.1, z_win_no hb, Option.bind_some, zz_10, ↓reduceIte]
    · simp only [M_part, (ccy_yes hyl).2.2, z_min_no hb, Option.bind_some, zz_10, ↓reduceIte, z_fails]
  by_cases hf : na < 4
  case neg =>
    have e9 : na = 4 := by have := HA.1; omega
    have e8 : u 43 6 = 4 := by rw [HA.2.2.1, e9]; rfl
    refine ⟨.inr 2, u, 0, mg_up u 42 0 3, 3, ?_, ?_, rfl, Or.inr (Or.inr (Or.inr ⟨rfl, rfl⟩)), z_I_thrown 3 hu⟩
    · simp only [C_part, (ccy_yes hyl).2.1, z_win_yes hb, zf_30_yes HA.2.1 HA.1 hf, Option.bind_some, zz_10, ↓reduceIte]
    · simp only [M_part, (ccy_yes hyl).2.2, z_min_yes hb, e8, Option.bind_some, zz_10, ↓reduceIte, z_fails]
  obtain ⟨u0, k1, k2, k3⟩ := z_write hu
  have k30 : ∀ j, j ∉ 0 :: z_ks.map (· + 1) → u0 j = u j := k2
  obtain ⟨v, a1, a2, a3, a4, a5⟩ := za_30 hf (u := u0) (by rw [k2 31 (by decide)]; exact HA.2.1)
  have hv : ∀ q, q ≠ 31 → q ∉ 0 :: z_ks.map (· + 1) → v q = u q := fun q q1 q2 => (a2 q q1).trans (k2 q q2)
  obtain ⟨u1, hu1⟩ : ∃ u1, u1 = mg_up (mg_up v 31 (1 + na * 2) (nN y)) 31 (1 + na * 2 + 1) b := ⟨_, rfl⟩
  have hq : ∀ q, q ≠ 31 → u1 q = v q := fun q q1 => by rw [hu1, z_up_ne q1, z_up_ne q1]
  obtain ⟨u2, m1, m2, m3⟩ := k3 u1 (fun q hq2 => by
    have q1 : q ≠ 31 := by rintro rfl; revert hq2; decide
    rw [hq q q1, a2 q q1])
  have g43 : u1 43 = u 43 := by rw [hq 43 (by decide), hv 43 (by decide) (by decide)]
  have g2 : u2 43 = u 43 := by rw [m2 43 (by decide) (by decide), g43]
  have gn : u2 43 6 = nN na := by rw [g2]; exact HA.2.2.1
  obtain ⟨W, hW⟩ : ∃ W, W = mg_up (mg_up (mg_up u2 43 (192 + 2 * na) (nN y)) 43 (192 + 2 * na + 1) b) 43 (6) (nN (na + 1)) := ⟨_, rfl⟩
  have hWq : ∀ q, q ≠ 43 → W q = u2 q := fun q q1 => by rw [hW, z_up_ne q1, z_up_ne q1, z_up_ne q1]
  have hWo : ∀ i, i ≠ 6 → i < 192 + 2 * na ∨ 192 + 2 * na + 2 ≤ i → W 43 i = u 43 i := fun i i1 i2 => by
    rw [hW, zu_ne (by omega), zu_ne (by omega), zu_ne (by omega), g2]
  have hWn : W 43 6 = nN (na + 1) := by rw [hW, zu_eq]
  have hW0 : W 43 (192 + 2 * na) = (nN y) := by rw [hW, zu_ne (by omega), zu_ne (by omega), zu_eq]
  have hW1 : W 43 (192 + 2 * na + 1) = b := by rw [hW, zu_ne (by omega), zu_eq]
  have hC : C_part (nN y) b u = some (.inl (nN (na + 1)), u1) := by
    simp only [C_part, (ccy_yes hyl).2.1, z_win_yes hb, zf_30_no HA.2.1 hf, k1, a1, P_addPart_29, rp_30_0 hf, rp_30_1 hf, Option.bind_some, zz_10, ↓reduceIte]
    rw [hu1, T_count_30]
    simp (disch := omega) only [Option.bind_some, zu_ne, a3]
  have hfn : ¬ u1 43 6 = 4 := by rw [g43, HA.2.2.1]; exact z_nne (b := 4) (by omega) (by omega) (by omega)
  have hM : M_part (nN y) b u1 = some (nN (na + 1), mg_up W 42 0 0) := by
    simp (disch := omega) only [M_part, (ccy_yes hyl).2.2, z_min_yes hb, hfn, m1, gn, zb_192, zo_1, z_nat, z_n0, z_690, or_self, zu_ne, zu_eq, z_sub1, z_done, Option.bind_some, zz_10, ↓reduceIte]
    rw [hW]
  refine ⟨_, _, _, _, 0, hC, hM, rfl, Or.inl ⟨_, rfl, rfl, rfl⟩, z_fin m3 m2 hWq ?_⟩
  refine ⟨nh, np, ns, nq, nd, na + 1, tH_cg (fun i _ => by rw [hq 4 (by decide), hv 4 (by decide) (by decide)]) (fun i hi => hWo i (by omega) (by omega)) HH, tP_cg (fun i _ => by rw [hq 7 (by decide), hv 7 (by decide) (by decide)]) (fun i hi => hWo i (by omega) (by omega)) HP, tS_cg (fun i _ => by rw [hq 10 (by decide), hv 10 (by decide) (by decide)]) (fun i hi => hWo i (by omega) (by omega)) HS, tQ_cg (fun i _ => by rw [hq 23 (by decide), hv 23 (by decide) (by decide)]) (fun i hi => hWo i (by omega) (by omega)) HQ, tD_cg (fun i _ => by rw [hq 26 (by decide), hv 26 (by decide) (by decide)]) (fun i hi => hWo i (by omega) (by omega)) HD, tC_cg HQ.1 HD.1 (fun i hi => hWo i (by omega) (by omega)) HC, ?_, tT_cg (fun i _ => by rw [hq 13 (by decide), hv 13 (by decide) (by decide)]) (fun i hi => hWo i (by omega) (by omega)) HT, tL_cg (fun i _ => by rw [hq 17 (by decide), hv 17 (by decide) (by decide)]) (fun i _ => by rw [hq 20 (by decide), hv 20 (by decide) (by decide)]) (fun i hi => hWo i (by omega) (by omega)) HL⟩
  refine tA_add HA hf (by rw [hu1, zu_ne (by omega), zu_ne (by omega), a3]) hWn (fun i hi => by rw [hu1, zu_ne (by omega), zu_ne (by omega), a4 (1 + i) (by omega) (by omega), k2 31 (by decide)]) (fun i hi => hWo _ (by omega) (by omega)) (by rw [hW0, hu1, zu_ne (by omega), zu_eq]) (by rw [hW1, hu1, zu_eq]) ⟨y, hyl, hW0⟩
theorem ob_4 : Ob_4 z_I := by
  intro u hu a b c d
  obtain ⟨nh, np, ns, nq, nd, na, HH, HP, HS, HQ, HD, HC, HA, HT, HL⟩ := hu.1
  have hN := HH.1
  by_cases hx : ∃ x, x < nh ∧ a = nN x
  case neg =>
    have hx' : ∀ x < nh, a ≠ nN x := fun x hl9 e => hx ⟨x, hl9, e⟩
    refine ⟨.inr 0, u, 0, mg_up u 42 0 1, 1, ?_, ?_, rfl, Or.inr (Or.inl ⟨rfl, rfl⟩), z_I_thrown 1 hu⟩
    · simp only [C_prefer, crH_no (by omega) HH.2.1 hx', Option.bind_some, zz_10, ↓reduceIte]
    · simp only [M_prefer, mrH_no (by omega) HH.2.2.1 hx', Option.bind_some, zz_10, ↓reduceIte, z_fails]
  obtain ⟨x, hxl, rfl⟩ := hx
  by_cases hy : ∃ y, y < 8 ∧ b = nN y
  case neg =>
    have hy' : ∀ y < 8, b ≠ nN y := fun y hl9 e => hy ⟨y, hl9, e⟩
    refine ⟨.inr 0, u, 0, mg_up u 42 0 1, 1, ?_, ?_, rfl, Or.inr (Or.inl ⟨rfl, rfl⟩), z_I_thrown 1 hu⟩
    · simp only [C_prefer, crH_yes (by omega) HH.2.1 hxl, (ccy_no hy').2.1, Option.bind_some, zz_10, ↓reduceIte]
    · simp only [M_prefer, mrH_yes (by omega) HH.2.2.1 hxl, (ccy_no hy').2.2, Option.bind_some, zz_10, ↓reduceIte, z_fails]
  obtain ⟨y, hyl, rfl⟩ := hy
  by_cases hc : c < 0 ∨ 1000 < c
  case pos =>
    refine ⟨.inr 1, u, 0, mg_up u 42 0 2, 2, ?_, ?_, rfl, Or.inr (Or.inr (Or.inl ⟨rfl, rfl⟩)), z_I_thrown 2 hu⟩
    · simp only [C_prefer, crH_yes (by omega) HH.2.1 hxl, (ccy_yes hyl).2.1, z_win_no hc, Option.bind_some, zz_10, ↓reduceIte]
    · simp only [M_prefer, mrH_yes (by omega) HH.2.2.1 hxl, (ccy_yes hyl).2.2, z_min_no hc, Option.bind_some, zz_10, ↓reduceIte, z_fails]
  by_cases hd : d < 0 ∨ 2 < d
  case pos =>
    refine ⟨.inr 1, u, 0, mg_up u 42 0 2, 2, ?_, ?_, rfl, Or.inr (Or.inr (Or.inl ⟨rfl, rfl⟩)), z_I_thrown 2 hu⟩
    · simp only [C_prefer, crH_yes (by omega) HH.2.1 hxl, (ccy_yes hyl).2.1, z_win_yes hc, z_win_no hd, Option.bind_some, zz_10, ↓reduceIte]
    · simp only [M_prefer, mrH_yes (by omega) HH.2.2.1 hxl, (ccy_yes hyl).2.2, z_min_yes hc, z_min_no hd, Option.bind_some, zz_10, ↓reduceIte, z_fails]
  by_cases hf : np < 10
  case neg =>
    have e9 : np = 10 := by have := HP.1; omega
    have e8 : u 43 2 = 10 := by rw [HP.2.2.1, e9]; rfl
    refine ⟨.inr 2, u, 0, mg_up u 42 0 3, 3, ?_, ?_, rfl, Or.inr (Or.inr (Or.inr ⟨rfl, rfl⟩)), z_I_thrown 3 hu⟩
    · simp only [C_prefer, crH_yes (by omega) HH.2.1 hxl, (ccy_yes hyl).2.1, z_win_yes hc, z_win_yes hd, zf_6_yes HP.2.1 HP.1 hf, Option.bind_some, zz_10, ↓reduceIte]
    · simp only [M_prefer, mrH_yes (by omega) HH.2.2.1 hxl, (ccy_yes hyl).2.2, z_min_yes hc, z_min_yes hd, e8, Option.bind_some, zz_10, ↓reduceIte, z_fails]
  obtain ⟨u0, k1, k2, k3⟩ := z_write hu
  have k30 : ∀ j, j ∉ 0 :: z_ks.map (· + 1) → u0 j = u j := k2
  obtain ⟨v, a1, a2, a3, a4, a5⟩ := za_6 hf (u := u0) (by rw [k2 7 (by decide)]; exact HP.2.1)
  have hv : ∀ q, q ≠ 7 → q ∉ 0 :: z_ks.map (· + 1) → v q = u q := fun q q1 q2 => (a2 q q1).trans (k2 q q2)
  obtain ⟨u1, hu1⟩ : ∃ u1, u1 = mg_up (mg_up (mg_up (mg_up v 7 (1 + np * 4) (nN x)) 7 (1 + np * 4 + 1) (nN y)) 7 (1 + np * 4 + 2) c) 7 (1 + np * 4 + 3) d := ⟨_, rfl⟩
  have hq : ∀ q, q ≠ 7 → u1 q = v q := fun q q1 => by rw [hu1, z_up_ne q1, z_up_ne q1, z_up_ne q1, z_up_ne q1]
  obtain ⟨u2, m1, m2, m3⟩ := k3 u1 (fun q hq2 => by
    have q1 : q ≠ 7 := by rintro rfl; revert hq2; decide
    rw [hq q q1, a2 q q1])
  have g43 : u1 43 = u 43 := by rw [hq 43 (by decide), hv 43 (by decide) (by decide)]
  have g2 : u2 43 = u 43 := by rw [m2 43 (by decide) (by decide), g43]
  have gn : u2 43 2 = nN np := by rw [g2]; exact HP.2.2.1
  obtain ⟨W, hW⟩ : ∃ W, W = mg_up (mg_up (mg_up (mg_up (mg_up u2 43 (80 + 4 * np) (nN x)) 43 (80 + 4 * np + 1) (nN y)) 43 (80 + 4 * np + 2) c) 43 (80 + 4 * np + 3) d) 43 (2) (nN (np + 1)) := ⟨_, rfl⟩
  have hWq : ∀ q, q ≠ 43 → W q = u2 q := fun q q1 => by rw [hW, z_up_ne q1, z_up_ne q1, z_up_ne q1, z_up_ne q1, z_up_ne q1]
  have hWo : ∀ i, i ≠ 2 → i < 80 + 4 * np ∨ 80 + 4 * np + 4 ≤ i → W 43 i = u 43 i := fun i i1 i2 => by
    rw [hW, zu_ne (by omega), zu_ne (by omega), zu_ne (by omega), zu_ne (by omega), zu_ne (by omega), g2]
  have hWn : W 43 2 = nN (np + 1) := by rw [hW, zu_eq]
  have hW0 : W 43 (80 + 4 * np) = (nN x) := by rw [hW, zu_ne (by omega), zu_ne (by omega), zu_ne (by omega), zu_ne (by omega), zu_eq]
  have hW1 : W 43 (80 + 4 * np + 1) = (nN y) := by rw [hW, zu_ne (by omega), zu_ne (by omega), zu_ne (by omega), zu_eq]
  have hW2 : W 43 (80 + 4 * np + 2) = c := by rw [hW, zu_ne (by omega), zu_ne (by omega), zu_eq]
  have hW3 : W 43 (80 + 4 * np + 3) = d := by rw [hW, zu_ne (by omega), zu_eq]
  have hC : C_prefer (nN x) (nN y) c d u = some (.inl (nN np), u1) := by
    simp only [C_prefer, crH_yes (by omega) HH.2.1 hxl, (ccy_yes hyl).2.1, z_win_yes hc, z_win_yes hd, zf_6_no HP.2.1 hf, k1, a1, rp_6_0 hf, rp_6_1 hf, rp_6_2 hf, rp_6_3 hf, Option.bind_some, zz_10, ↓reduceIte]
    rw [hu1]
  have hfn : ¬ u1 43 2 = 10 := by rw [g43, HP.2.2.1]; exact z_nne (b := 10) (by omega) (by omega) (by omega)
  have hM : M_prefer (nN x) (nN y) c d u1 = some (nN np, mg_up W 42 0 0) := by
    simp (disch := omega) only [M_prefer, mrH_yes (u := u1) (by omega) (show u1 43 1 = nN nh by rw [g43]; exact HH.2.2.1) hxl, (ccy_yes hyl).2.2, z_min_yes hc, z_min_yes hd, hfn, m1, gn, zb_80, zo_1, zo_2, zo_3, z_nat, z_n0, z_690, or_self, zu_ne, zu_eq, z_sub1, z_done, Option.bind_some, zz_10, ↓reduceIte]
    rw [hW]
  refine ⟨_, _, _, _, 0, hC, hM, rfl, Or.inl ⟨_, rfl, rfl, rfl⟩, z_fin m3 m2 hWq ?_⟩
  refine ⟨nh, np + 1, ns, nq, nd, na, tH_cg (fun i _ => by rw [hq 4 (by decide), hv 4 (by decide) (by decide)]) (fun i hi => hWo i (by omega) (by omega)) HH, ?_, tS_cg (fun i _ => by rw [hq 10 (by decide), hv 10 (by decide) (by decide)]) (fun i hi => hWo i (by omega) (by omega)) HS, tQ_cg (fun i _ => by rw [hq 23 (by decide), hv 23 (by decide) (by decide)]) (fun i hi => hWo i (by omega) (by omega)) HQ, tD_cg (fun i _ => by rw [hq 26 (by decide), hv 26 (by decide) (by decide)]) (fun i hi => hWo i (by omega) (by omega)) HD, tC_cg HQ.1 HD.1 (fun i hi => hWo i (by omega) (by omega)) HC, tA_cg (fun i _ => by rw [hq 31 (by decide), hv 31 (by decide) (by decide)]) (fun i hi => hWo i (by omega) (by omega)) HA, tT_cg (fun i _ => by rw [hq 13 (by decide), hv 13 (by decide) (by decide)]) (fun i hi => hWo i (by omega) (by omega)) HT, tL_cg (fun i _ => by rw [hq 17 (by decide), hv 17 (by decide) (by decide)]) (fun i _ => by rw [hq 20 (by decide), hv 20 (by decide) (by decide)]) (fun i hi => hWo i (by omega) (by omega)) HL⟩
  refine tP_add HP hf (by rw [hu1, zu_ne (by omega), zu_ne (by omega), zu_ne (by omega), zu_ne (by omega), a3]) hWn (fun i hi => by rw [hu1, zu_ne (by omega), zu_ne (by omega), zu_ne (by omega), zu_ne (by omega), a4 (1 + i) (by omega) (by omega), k2 7 (by decide)]) (fun i hi => hWo _ (by omega) (by omega)) (by rw [hW0, hu1, zu_ne (by omega), zu_ne (by omega), zu_ne (by omega), zu_eq]) (by rw [hW1, hu1, zu_ne (by omega), zu_ne (by omega), zu_eq]) (by rw [hW2, hu1, zu_ne (by omega), zu_eq]) (by rw [hW3, hu1, zu_eq]) ⟨x, by omega, hW0⟩
theorem ob_6 : Ob_6 z_I := by
  intro u hu a b c
  obtain ⟨nh, np, ns, nq, nd, na, HH, HP, HS, HQ, HD, HC, HA, HT, HL⟩ := hu.1
  have hN := HH.1
  by_cases hx : ∃ x, x < nh ∧ a = nN x
  case neg =>
    have hx' : ∀ x < nh, a ≠ nN x := fun x hl9 e => hx ⟨x, hl9, e⟩
    refine ⟨.inr 0, u, 0, mg_up u 42 0 1, 1, ?_, ?_, rfl, Or.inr (Or.inl ⟨rfl, rfl⟩), z_I_thrown 1 hu⟩
    · simp only [C_suspend, crH_no (by omega) HH.2.1 hx', Option.bind_some, zz_10, ↓reduceIte]
    · simp only [M_suspend, mrH_no (by omega) HH.2.2.1 hx', Option.bind_some, zz_10, ↓reduceIte, z_fails]
  obtain ⟨x, hxl, rfl⟩ := hx
  by_cases hb : b < 0 ∨ 999 < b
  case pos =>
    refine ⟨.inr 1, u, 0, mg_up u 42 0 2, 2, ?_, ?_, rfl, Or.inr (Or.inr (Or.inl ⟨rfl, rfl⟩)), z_I_thrown 2 hu⟩
    · simp only [C_suspend, crH_yes (by omega) HH.2.1 hxl, z_win_no hb, Option.bind_some, zz_10, ↓reduceIte]
    · simp only [M_suspend, mrH_yes (by omega) HH.2.2.1 hxl, z_min_no hb, Option.bind_some, zz_10, ↓reduceIte, z_fails]
  by_cases hc : c < b ∨ 999 < c
  case pos =>
    refine ⟨.inr 1, u, 0, mg_up u 42 0 2, 2, ?_, ?_, rfl, Or.inr (Or.inr (Or.inl ⟨rfl, rfl⟩)), z_I_thrown 2 hu⟩
    · simp only [C_suspend, crH_yes (by omega) HH.2.1 hxl, z_win_yes hb, z_win_no hc, Option.bind_some, zz_10, ↓reduceIte]
    · simp only [M_suspend, mrH_yes (by omega) HH.2.2.1 hxl, z_min_yes hb, z_min_no hc, Option.bind_some, zz_10, ↓reduceIte, z_fails]
  by_cases hf : ns < 6
  case neg =>
    have e9 : ns = 6 := by have := HS.1; omega
    have e8 : u 43 3 = 6 := by rw [HS.2.2.1, e9]; rfl
    refine ⟨.inr 2, u, 0, mg_up u 42 0 3, 3, ?_, ?_, rfl, Or.inr (Or.inr (Or.inr ⟨rfl, rfl⟩)), z_I_thrown 3 hu⟩
    · simp only [C_suspend, crH_yes (by omega) HH.2.1 hxl, z_win_yes hb, z_win_yes hc, zf_9_yes HS.2.1 HS.1 hf, Option.bind_some, zz_10, ↓reduceIte]
    · simp only [M_suspend, mrH_yes (by omega) HH.2.2.1 hxl, z_min_yes hb, z_min_yes hc, e8, Option.bind_some, zz_10, ↓reduceIte, z_fails]
  obtain ⟨u0, k1, k2, k3⟩ := z_write hu
  have k30 : ∀ j, j ∉ 0 :: z_ks.map (· + 1) → u0 j = u j := k2
  obtain ⟨v, a1, a2, a3, a4, a5⟩ := za_9 hf (u := u0) (by rw [k2 10 (by decide)]; exact HS.2.1)
  have hv : ∀ q, q ≠ 10 → q ∉ 0 :: z_ks.map (· + 1) → v q = u q := fun q q1 q2 => (a2 q q1).trans (k2 q q2)
  obtain ⟨u1, hu1⟩ : ∃ u1, u1 = mg_up (mg_up (mg_up v 10 (1 + ns * 3) (nN x)) 10 (1 + ns * 3 + 1) b) 10 (1 + ns * 3 + 2) c := ⟨_, rfl⟩
  have hq : ∀ q, q ≠ 10 → u1 q = v q := fun q q1 => by rw [hu1, z_up_ne q1, z_up_ne q1, z_up_ne q1]
  obtain ⟨u2, m1, m2, m3⟩ := k3 u1 (fun q hq2 => by
    have q1 : q ≠ 10 := by rintro rfl; revert hq2; decide
    rw [hq q q1, a2 q q1])
  have g43 : u1 43 = u 43 := by rw [hq 43 (by decide), hv 43 (by decide) (by decide)]
  have g2 : u2 43 = u 43 := by rw [m2 43 (by decide) (by decide), g43]
  have gn : u2 43 3 = nN ns := by rw [g2]; exact HS.2.2.1
  obtain ⟨W, hW⟩ : ∃ W, W = mg_up (mg_up (mg_up (mg_up u2 43 (120 + 3 * ns) (nN x)) 43 (120 + 3 * ns + 1) b) 43 (120 + 3 * ns + 2) c) 43 (3) (nN (ns + 1)) := ⟨_, rfl⟩
  have hWq : ∀ q, q ≠ 43 → W q = u2 q := fun q q1 => by rw [hW, z_up_ne q1, z_up_ne q1, z_up_ne q1, z_up_ne q1]
  have hWo : ∀ i, i ≠ 3 → i < 120 + 3 * ns ∨ 120 + 3 * ns + 3 ≤ i → W 43 i = u 43 i := fun i i1 i2 => by
    rw [hW, zu_ne (by omega), zu_ne (by omega), zu_ne (by omega), zu_ne (by omega), g2]
  have hWn : W 43 3 = nN (ns + 1) := by rw [hW, zu_eq]
  have hW0 : W 43 (120 + 3 * ns) = (nN x) := by rw [hW, zu_ne (by omega), zu_ne (by omega), zu_ne (by omega), zu_eq]
  have hW1 : W 43 (120 + 3 * ns + 1) = b := by rw [hW, zu_ne (by omega), zu_ne (by omega), zu_eq]
  have hW2 : W 43 (120 + 3 * ns + 2) = c := by rw [hW, zu_ne (by omega), zu_eq]
  have hC : C_suspend (nN x) b c u = some (.inl (nN ns), u1) := by
    simp only [C_suspend, crH_yes (by omega) HH.2.1 hxl, z_win_yes hb, z_win_yes hc, zf_9_no HS.2.1 hf, k1, a1, rp_9_0 hf, rp_9_1 hf, rp_9_2 hf, Option.bind_some, zz_10, ↓reduceIte]
    rw [hu1]
  have hfn : ¬ u1 43 3 = 6 := by rw [g43, HS.2.2.1]; exact z_nne (b := 6) (by omega) (by omega) (by omega)
  have hM : M_suspend (nN x) b c u1 = some (nN ns, mg_up W 42 0 0) := by
    simp (disch := omega) only [M_suspend, mrH_yes (u := u1) (by omega) (show u1 43 1 = nN nh by rw [g43]; exact HH.2.2.1) hxl, z_min_yes hb, z_min_yes hc, hfn, m1, gn, zb_120, zo_1, zo_2, z_nat, z_n0, z_690, or_self, zu_ne, zu_eq, z_sub1, z_done, Option.bind_some, zz_10, ↓reduceIte]
    rw [hW]
  refine ⟨_, _, _, _, 0, hC, hM, rfl, Or.inl ⟨_, rfl, rfl, rfl⟩, z_fin m3 m2 hWq ?_⟩
  refine ⟨nh, np, ns + 1, nq, nd, na, tH_cg (fun i _ => by rw [hq 4 (by decide), hv 4 (by decide) (by decide)]) (fun i hi => hWo i (by omega) (by omega)) HH, tP_cg (fun i _ => by rw [hq 7 (by decide), hv 7 (by decide) (by decide)]) (fun i hi => hWo i (by omega) (by omega)) HP, ?_, tQ_cg (fun i _ => by rw [hq 23 (by decide), hv 23 (by decide) (by decide)]) (fun i hi => hWo i (by omega) (by omega)) HQ, tD_cg (fun i _ => by rw [hq 26 (by decide), hv 26 (by decide) (by decide)]) (fun i hi => hWo i (by omega) (by omega)) HD, tC_cg HQ.1 HD.1 (fun i hi => hWo i (by omega) (by omega)) HC, tA_cg (fun i _ => by rw [hq 31 (by decide), hv 31 (by decide) (by decide)]) (fun i hi => hWo i (by omega) (by omega)) HA, tT_cg (fun i _ => by rw [hq 13 (by decide), hv 13 (by decide) (by decide)]) (fun i hi => hWo i (by omega) (by omega)) HT, tL_cg (fun i _ => by rw [hq 17 (by decide), hv 17 (by decide) (by decide)]) (fun i _ => by rw [hq 20 (by decide), hv 20 (by decide) (by decide)]) (fun i hi => hWo i (by omega) (by omega)) HL⟩
  refine tS_add HS hf (by rw [hu1, zu_ne (by omega), zu_ne (by omega), zu_ne (by omega), a3]) hWn (fun i hi => by rw [hu1, zu_ne (by omega), zu_ne (by omega), zu_ne (by omega), a4 (1 + i) (by omega) (by omega), k2 10 (by decide)]) (fun i hi => hWo _ (by omega) (by omega)) (by rw [hW0, hu1, zu_ne (by omega), zu_ne (by omega), zu_eq]) (by rw [hW1, hu1, zu_ne (by omega), zu_eq]) (by rw [hW2, hu1, zu_eq]) ⟨x, by omega, hW0⟩
