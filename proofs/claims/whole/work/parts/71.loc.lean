/-! AN ENTRY TRIED BY THE REFERENCE, AND DECLARED BY THE CLASS -/
theorem z_h840 {k : Nat} (h : k < 840) : (840 ≤ k) = False := eq_false (by omega)
theorem s_or_f {P : Nat → Bool} : ∀ r k, s_or P r k = false → ∀ i, k ≤ i → i < k + r → P i = false := by
  intro r
  induction r with
  | zero => exact fun k _ i h1 h2 => absurd h1 (by omega)
  | succ r ih =>
    intro k h i h1 h2
    have h' : (P k || s_or P r (k + 1)) = false := h
    rw [Bool.or_eq_false_iff] at h'
    by_cases e : i = k
    · rw [e]
      exact h'.1
    · exact ih (k + 1) h'.2 i (by omega) (by omega)
theorem s_pbad_f {t : z_Ro} {b i : Nat} (h : s_pbad t b i = false) : ∃ c < 8, t (b + 2 + 2 * i) = nN c := by
  refine s_cty_at ?_
  have h' : (!(s_cty (t (b + 2 + 2 * i)) && s_in (t (b + 3 + 2 * i)) 1 9999)) = false := h
  cases q : s_cty (t (b + 2 + 2 * i)) with
  | true => rfl
  | false =>
    rw [q, Bool.false_and] at h'
    cases h'
theorem m_lodges {nh nq nd x b K : Nat} {f : z_Ro} {w : mg_Rg} (HH : tH nh f (w 43)) (hx : x < nh) (hcd : s_coded (w 43) (w 49 b) = nN x) (hq : nq ≤ 6) (h4 : w 43 4 = nN nq) (h5 : w 43 5 = nN nd) (hnd : nd ≤ 30) (h7 : w 42 7 = 1) (hb : b + 14 ≤ 840) (k1 : 1 ≤ K) (k4 : K ≤ 4) (h12 : w 49 (b + 12) = nN K) :
    (∃ W, M_lodgesEntry (nN b) w = some (0, W) ∧ QF W w ∧ ¬ (s_can (w 43) (w 49) b = true ∧ nd < 30)) ∨
    (∃ (g : z_Ro) (W : mg_Rg), M_lodgesEntry (nN b) w = some (1, W) ∧ QF W w ∧ s_can (w 43) (w 49) b = true ∧ nd < 30 ∧ (∀ i, i ≠ 6 → i < 192 ∨ 200 ≤ i → g i = w 43 i) ∧ g 6 = nN K ∧ (∀ j < K, g (192 + 2 * j) = w 49 (b + 2 + 2 * j) ∧ g (192 + 2 * j + 1) = w 49 (b + 3 + 2 * j) ∧ ∃ c < 8, w 49 (b + 2 + 2 * j) = nN c) ∧
      W 43 5 = nN (nd + 1) ∧ (∀ i, i ≠ 5 → i ≠ 6 → i < 192 ∨ 200 ≤ i → i < 208 + 16 * nd ∨ 208 + 16 * nd + 16 ≤ i → W 43 i = w 43 i) ∧
      W 43 (208 + 16 * nd) = nN x ∧ W 43 (208 + 16 * nd + 1) = w 49 (b + 1) ∧ W 43 (208 + 16 * nd + 2) = s_pval g ∧ W 43 (208 + 16 * nd + 3) = s_pori g ∧ W 43 (208 + 16 * nd + 4) = w 49 (b + 10) ∧ W 43 (208 + 16 * nd + 5) = w 49 (b + 11) ∧ W 43 (208 + 16 * nd + 6) = g 0 ∧ W 43 (208 + 16 * nd + 7) = 0 ∧ W 43 (208 + 16 * nd + 8) = 0 ∧ W 43 (208 + 16 * nd + 9) = 0 ∧ W 43 (208 + 16 * nd + 10) = 0 ∧ W 43 (208 + 16 * nd + 11) = 0 ∧ W 43 (208 + 16 * nd + 12) = -1 ∧ W 43 (208 + 16 * nd + 13) = -1 ∧ W 43 (208 + 16 * nd + 14) = -1) := by
  have hN := HH.1
  obtain ⟨W1, e1, e2, e3, e4⟩ := m_parts (b := b) (K := K) hb k4 K mg_F 0 true 0 (mg_up w 43 6 0) (by omega) (by show K < 6000; omega) (by rw [z_up_ne (by decide)]; exact h12) (by rw [z_up_ne (by decide)]; exact h7) (Nat.le_refl 0) (by rw [zu_eq]; rfl) (fun _ => rfl)
  have w49 : (mg_up w 43 6 0) 49 = w 49 := z_up_ne (by decide)
  rw [w49, Bool.true_and] at e1 e4
  have hkp : s_kp (w 49) b = K := by
    unfold s_kp
    rw [h12, z_nat (by omega)]
  have h6K : QF W1 w := e2.trans (QF_g w 6 0)
  have W1o : ∀ i, i ≠ 6 → i < 192 ∨ 200 ≤ i → W1 43 i = w 43 i := fun i i1 i2 => by rw [e3 i i1 i2, zu_ne i1]
  have HH1 : tH nh f (W1 43) := tH_cg (fun _ _ => rfl) (fun i hi => W1o i (by omega) (by omega)) HH
  have e49 : W1 49 = w 49 := h6K.1 49 (by decide) (by decide)
  have W17 : W1 42 7 = 1 := (h6K.2 7 (by decide)).trans h7
  by_cases hp : s_or (s_pbad (w 49) b) K 0 = true
  · left
    rw [hp] at e1
    have e1 : M_lodgesEntry_L12 mg_F (nN b) 1 0 (mg_up w 43 6 0) = some (0, W1) := e1
    refine ⟨W1, ?_, h6K, fun h => ?_⟩
    · simp only [M_lodgesEntry, e1, Option.bind_some, ↓reduceIte]
    · have h1 := ((s_can_iff HH hq h4 b).mp h.1).2
      rw [hkp, hp] at h1
      cases h1
  have hp0 : s_or (s_pbad (w 49) b) K 0 = false := by
    cases q : s_or (s_pbad (w 49) b) K 0 with
    | false => rfl
    | true => exact absurd q hp
  rw [hp0] at e1 e4
  have e1 : M_lodgesEntry_L12 mg_F (nN b) 1 0 (mg_up w 43 6 0) = some (1, W1) := e1
  obtain ⟨f1, -, f3⟩ := e4 rfl
  have hct : ∀ j < K, ∃ c < 8, w 49 (b + 2 + 2 * j) = nN c := fun j hj => s_pbad_f (s_or_f K 0 hp0 j (by omega) (by omega))
  have hco : M_coded (w 49 b) W1 = some (nN x) := by rw [m_coded HH1, s_coded_cg HH (fun i hi => W1o i (by omega) (by omega)), hcd]
  have HA : tA K (fun i => if i = 0 then nN K else W1 43 (191 + i)) (W1 43) := by
    refine ⟨k4, rfl, f1, fun i hi => ?_, fun k hk => ?_⟩
    · show (if 1 + i = 0 then nN K else W1 43 (191 + (1 + i))) = _
      rw [if_neg (by omega), show 191 + (1 + i) = 192 + i by omega]
    · obtain ⟨c, c1, c2⟩ := hct k hk
      exact ⟨c, c1, (f3 k hk (Nat.zero_le k)).1.trans c2⟩
  have ech : s_children (W1 43) (nN x) = s_children (w 43) (nN x) := s_children_cg HH (fun i hi => W1o i (by omega) (by omega)) _
  by_cases hm : s_may (w 43) nq (nN x) (w 49 (b + 1)) (w 49 (b + 10)) (w 49 (b + 11)) ∧ nd < 30
  · right
    obtain ⟨hm1, hlt⟩ := hm
    obtain ⟨hd, hb1, hc1, hch⟩ := id hm1
    obtain ⟨Z, d1, d2, d3, d4, d5, dd⟩ := md_ok (nh := nh) (nq := nq) (nd := nd) (na := K) (x := x) (b := w 49 (b + 1)) (c := w 49 (b + 10)) (d := w 49 (b + 11)) (f := f) (f2 := fun i => if i = 0 then nN K else W1 43 (191 + i)) (u1 := W1) (u2 := W1) HH1 hx hq (by rw [W1o 4 (by omega) (by omega)]; exact h4) hd hb1 hc1 (by rw [ech]; exact hch) HA (by omega) hlt (by rw [W1o 5 (by omega) (by omega)]; exact h5) (m_quiet W17) rfl
    refine ⟨W1 43, mg_up Z 42 0 0, ?_, QF.trans (QF_t Z 0) (QF.trans ⟨fun k _ k43 => d2 k k43, fun i _ => by rw [d2 42 (by decide)]⟩ h6K), (s_can_iff HH hq h4 b).mpr ?_, hlt, W1o, f1, fun j hj => ⟨(f3 j hj (Nat.zero_le j)).1, (f3 j hj (Nat.zero_le j)).2, hct j hj⟩, by rw [z_up_ne (by decide)]; exact d3, fun i i1 i2 i3 i4 => by rw [z_up_ne (by decide), d5 i i1 i2 i4, W1o i i2 i3], ?_⟩
    · simp (disch := omega) only [M_lodgesEntry, e1, Option.bind_some, zz_10, zo_1, zo_10, zo_11, z_nat, z_n0, z_h840, or_self, e49, hco, d1, zu_eq, ↓reduceIte]
    · rw [hcd, hkp]
      exact ⟨hm1, hp0⟩
    · rw [z_up_ne (by decide)]
      exact dd
  · left
    obtain ⟨T, d1, d2⟩ := md_bad (nh := nh) (nq := nq) (nd := nd) (na := K) (x := x) (b := w 49 (b + 1)) (c := w 49 (b + 10)) (d := w 49 (b + 11)) (f := f) (w := W1) HH1 hx hq (by rw [W1o 4 (by omega) (by omega)]; exact h4) f1 (by omega) k4 (by rw [W1o 5 (by omega) (by omega)]; exact h5) hnd (fun h => hm ⟨by
      have h1 := h.1
      unfold s_may at h1 ⊢
      rw [ech] at h1
      exact h1, h.2⟩)
    refine ⟨mg_up W1 42 0 T, ?_, (QF_t W1 T).trans h6K, fun h => hm ?_⟩
    · simp (disch := omega) only [M_lodgesEntry, e1, Option.bind_some, zz_10, zo_1, zo_10, zo_11, z_nat, z_n0, z_h840, or_self, e49, hco, d1, zu_eq, d2, ↓reduceIte]
    · have h1 := ((s_can_iff HH hq h4 b).mp h.1).1
      rw [hcd] at h1
      exact ⟨h1, h.2⟩
theorem EC_cg {e b : Nat} {u u' : mg_Rg} {t : z_Ro} (h : u' 40 = u 40) (H : EC e b u t) : EC e b u' t := by
  unfold EC at H ⊢
  rw [h]
  exact H
theorem c_eparts {e b K : Nat} {t : z_Ro} (he : e < 8) (hK : t (b + 12) = nN K) (k4 : K ≤ 4) : ∀ r m i (u : mg_Rg), i + r = K → r < m → EC e b u t → u 35 0 = nN i → (∀ j < i, u 35 (1 + 2 * j) = t (b + 2 + 2 * j) ∧ u 35 (1 + 2 * j + 1) = t (b + 3 + 2 * j)) →
    ∃ u', C_declareEntry_L12 m (nN e) (nN i) u = some u' ∧ (∀ q, q ≠ 35 → u' q = u q) ∧ u' 35 0 = nN K ∧ ∀ j < K, u' 35 (1 + 2 * j) = t (b + 2 + 2 * j) ∧ u' 35 (1 + 2 * j + 1) = t (b + 3 + 2 * j) := by
  intro r
  induction r with
  | zero =>
    intro m i u hi hm hE h0 hj
    obtain ⟨-, -, -, -, K', -, q4, q1, q2, -⟩ := hE
    have e1 : K' = K := by
      have := q2.symm.trans hK
      exact (z_inj (by omega) (by omega)).mp this
    cases m with
    | zero => omega
    | succ m =>
      refine ⟨u, ?_, fun _ _ => rfl, by rw [h0, show i = K by omega], fun j h => hj j (by omega)⟩
      unfold C_declareEntry_L12
      rw [rg_39_4 he, q1, e1]
      simp only [Option.bind_some]
      rw [if_pos ((z_le (by omega) (by omega)).mpr (by omega))]
  | succ r ih =>
    intro m i u hi hm hE h0 hj
    obtain ⟨-, -, -, -, K', -, q4, q1, q2, q3⟩ := id hE
    have e1 : K' = K := by
      have := q2.symm.trans hK
      exact (z_inj (by omega) (by omega)).mp this
    subst e1
    cases m with
    | zero => omega
    | succ m =>
      have hi4 : i < 4 := by omega
      obtain ⟨v, a1, a2, a3, a4, a5⟩ := za_34 hi4 h0
      obtain ⟨p0, p1⟩ := c_partnum (k := 0) (c := 0) (u := u) he hi4
      obtain ⟨x0, x1⟩ := q3 i (by omega)
      obtain ⟨V, hV⟩ : ∃ V, V = mg_up (mg_up v 35 (1 + i * 2) (t (b + 2 + 2 * i))) 35 (1 + i * 2 + 1) (t (b + 3 + 2 * i)) := ⟨_, rfl⟩
      have ap : P_addPart_33 (t (b + 2 + 2 * i)) (t (b + 3 + 2 * i)) u = some V := by
        simp only [P_addPart_33, a1, rp_34_0 hi4, rp_34_1 hi4, Option.bind_some]
        rw [hV]
      have Vq : ∀ q, q ≠ 35 → V q = u q := fun q hq => by rw [hV, z_up_ne hq, z_up_ne hq, a2 q hq]
      obtain ⟨u', y1, y2, y3, y4⟩ := ih m (i + 1) V (by omega) (by omega) (EC_cg (Vq 40 (by decide)) hE) (by rw [hV, zu_ne (by omega), zu_ne (by omega), a3]) (fun j hj2 => by
        by_cases h : j = i
        · subst h
          exact ⟨by rw [hV, show 1 + 2 * j = 1 + j * 2 by omega, zu_ne (by omega), zu_eq], by rw [hV, show 1 + 2 * j + 1 = 1 + j * 2 + 1 by omega, zu_eq]⟩
        · obtain ⟨z1, z2⟩ := hj j (by omega)
          exact ⟨by rw [hV, zu_ne (by omega), zu_ne (by omega), a4 _ (by omega) (by omega), z1], by rw [hV, zu_ne (by omega), zu_ne (by omega), a4 _ (by omega) (by omega), z2]⟩)
      refine ⟨u', ?_, fun q hq => (y2 q hq).trans (Vq q hq), y3, y4⟩
      unfold C_declareEntry_L12
      rw [rg_39_4 he, q1]
      simp only [Option.bind_some]
      rw [if_neg (z_nle (by omega) (by omega) (by omega)), p0, x0]
      simp only [Option.bind_some]
      rw [p1, x1]
      simp only [Option.bind_some]
      rw [ap]
      simp only [Option.bind_some, zo_1]
      exact y1
theorem c_entry {nh nd x e b K : Nat} {g t : z_Ro} {u : mg_Rg} (HH : tH nh (u 4) g) (hcd : s_coded g (t b) = nN x) (he : e < 8) (hE : EC e b u t) (hK : t (b + 12) = nN K) (k1 : 1 ≤ K) (k4 : K ≤ 4) (g6 : g 6 = nN K) (gp : ∀ j < K, g (192 + 2 * j) = t (b + 2 + 2 * j) ∧ g (192 + 2 * j + 1) = t (b + 3 + 2 * j) ∧ ∃ c < 8, t (b + 2 + 2 * j) = nN c)
    (HT : tT (u 13) g) (HL : u 17 1 = g 0) (hd : nd < 30) (h0 : u 26 0 = nN nd) :
    ∃ u', C_declareEntry (nN e) u = some u' ∧ (∀ q, q ≠ 26 → q ≠ 35 → u' q = u q) ∧ u' 26 0 = nN (nd + 1) ∧ (∀ i, i ≠ 0 → i < 1 + nd * 15 → u' 26 i = u 26 i) ∧ (∃ f, tA K f g) ∧
    u' 26 (1 + nd * 15) = nN x ∧ u' 26 (1 + nd * 15 + 1) = t (b + 1) ∧ u' 26 (1 + nd * 15 + 2) = s_pval g ∧ u' 26 (1 + nd * 15 + 3) = s_pori g ∧ u' 26 (1 + nd * 15 + 4) = t (b + 10) ∧ u' 26 (1 + nd * 15 + 5) = t (b + 11) ∧ u' 26 (1 + nd * 15 + 6) = g 0 ∧ u' 26 (1 + nd * 15 + 7) = 0 ∧ u' 26 (1 + nd * 15 + 8) = 0 ∧ u' 26 (1 + nd * 15 + 9) = 0 ∧ u' 26 (1 + nd * 15 + 10) = 0 ∧ u' 26 (1 + nd * 15 + 11) = 0 ∧ u' 26 (1 + nd * 15 + 12) = -1 ∧ u' 26 (1 + nd * 15 + 13) = -1 ∧ u' 26 (1 + nd * 15 + 14) = -1 := by
  obtain ⟨v, hv⟩ : ∃ v, v = mg_up u 35 0 0 := ⟨_, rfl⟩
  have vq : ∀ q, q ≠ 35 → v q = u q := fun q hq => by rw [hv, z_up_ne hq]
  obtain ⟨y, y1, y2, y3, y4⟩ := c_eparts (e := e) (b := b) (K := K) (t := t) he hK k4 K mg_F 0 v (by omega) (by show K < 6000; omega) (EC_cg (vq 40 (by decide)) hE) (by rw [hv, zu_eq]; rfl) (fun j h => absurd h (by omega))
  have y1 : C_declareEntry_L12 mg_F (nN e) 0 v = some y := y1
  have yq : ∀ q, q ≠ 35 → y q = u q := fun q hq => (y2 q hq).trans (vq q hq)
  have HA : tA K (y 35) g := by
    refine ⟨k4, y3, g6, fun i hi => ?_, fun k hk => ?_⟩
    · obtain ⟨j, hj | hj⟩ : ∃ j, i = 2 * j ∨ i = 2 * j + 1 := ⟨i / 2, by omega⟩
      · subst hj
        rw [(y4 j (by omega)).1, (gp j (by omega)).1]
      · subst hj
        rw [show 1 + (2 * j + 1) = 1 + 2 * j + 1 by omega, show 192 + (2 * j + 1) = 192 + 2 * j + 1 by omega, (y4 j (by omega)).2, (gp j (by omega)).2.1]
    · obtain ⟨c, c1, c2⟩ := (gp k hk).2.2
      exact ⟨c, c1, (gp k hk).1.trans c2⟩
  obtain ⟨e0, e1, e2, e3, -⟩ := hE
  obtain ⟨u', a1, a2, a3, a4, aa⟩ := c_enter_33 (n := K) (nd := nd) (g := g) (u := y) HA (by omega) (by rw [yq 13 (by decide)]; exact HT) (by rw [yq 17 (by decide)]; exact HL) hd (by rw [yq 26 (by decide)]; exact h0) (nN x) (t (b + 1)) (t (b + 10)) (t (b + 11))
  refine ⟨u', ?_, fun q q1 q2 => (a2 q q1).trans (yq q q2), a3, fun i i1 i2 => by rw [a4 i i1 i2, yq 26 (by decide)], ⟨_, HA⟩, aa⟩
  have hcl : T_clear_34 u = some v := by
    rw [hv]
    rfl
  have hcd' : Tf_headingWithCode (t b) y = some (nN x) := by rw [c_coded (N := nh) (g := g) (by rw [yq 4 (by decide)]; exact HH), hcd]
  unfold C_declareEntry
  rw [hcl]
  simp only [Option.bind_some]
  rw [y1]
  simp only [Option.bind_some]
  rw [rg_39_0 he, yq 40 (by decide), e0]
  simp only [Option.bind_some]
  rw [hcd']
  simp only [Option.bind_some]
  rw [rg_39_1 he, yq 40 (by decide), e1]
  simp only [Option.bind_some]
  rw [rg_39_2 he, yq 40 (by decide), e2]
  simp only [Option.bind_some]
  rw [rg_39_3 he, yq 40 (by decide), e3]
  simp only [Option.bind_some]
  rw [a1]
  rfl
/-- what both hold while entries are declared -/
def z_LS (nh np ns nq nd : Nat) (u w : mg_Rg) : Prop := tH nh (u 4) (w 43) ∧ tP np (u 7) (w 43) ∧ tS ns (u 10) (w 43) ∧ tQ nq (u 23) (w 43) ∧ tD nh nq nd (u 26) (w 43) ∧ tC nq nd (w 43) ∧ tT (u 13) (w 43) ∧ tL (u 17) (u 20) (w 43)
theorem l181_0 (m : Nat) (x1 x4 : Int32) (w : mg_Rg) : M_lodge_L181 (m + 1) x1 0 x4 w = some (0, w) := by
  unfold M_lodge_L181
  by_cases h : x1 ≤ x4
  · rw [if_pos h]
  · rw [if_neg h, if_pos rfl]
theorem l_all {nh np ns nq N : Nat} {t : z_Ro} (hN : N ≤ 7) : ∀ r m m' k nd, ∀ u w : mg_Rg, k + r = N → r < m → r < m' → z_LS nh np ns nq nd u w → w 49 = t → w 42 7 = 1 → (∀ j < N, ∃ x < nh, s_coded (w 43) (t (14 * j)) = nN x) → (∀ j < N, EC j (14 * j) u t) →
    (∃ W, M_lodge_L181 m (nN N) 1 (nN k) w = some (0, W) ∧ QF W w ∧ ¬ (nd + r ≤ 30 ∧ s_or (fun j => !(s_can (w 43) t (14 * j))) r k = false)) ∨
    (∃ W u', M_lodge_L181 m (nN N) 1 (nN k) w = some (1, W) ∧ QF W w ∧ (nd + r ≤ 30 ∧ s_or (fun j => !(s_can (w 43) t (14 * j))) r k = false) ∧ C_lodge_L74 m' (nN N) (nN k) u = some u' ∧ (∀ q, q ≠ 26 → q ≠ 35 → u' q = u q) ∧ z_LS nh np ns nq (nd + r) u' W) := by
  intro r
  induction r with
  | zero =>
    intro m m' k nd u w hk hm hm' S h49 h7 hcd hE
    obtain ⟨m, rfl⟩ : ∃ q, m = q + 1 := ⟨m - 1, by omega⟩
    obtain ⟨m', rfl⟩ : ∃ q, m' = q + 1 := ⟨m' - 1, by omega⟩
    right
    have hle : nN N ≤ nN k := (z_le (by omega) (by omega)).mpr (by omega)
    refine ⟨w, u, ?_, QF.refl w, ⟨S.2.2.2.2.1.1, rfl⟩, ?_, fun _ _ _ => rfl, S⟩
    · unfold M_lodge_L181
      rw [if_pos hle]
    · unfold C_lodge_L74
      rw [if_pos hle]
  | succ r ih =>
    intro m m' k nd u w hk hm hm' S h49 h7 hcd hE
    obtain ⟨m, rfl⟩ : ∃ q, m = q + 1 := ⟨m - 1, by omega⟩
    obtain ⟨m', rfl⟩ : ∃ q, m' = q + 1 := ⟨m' - 1, by omega⟩
    have hnle : ¬ nN N ≤ nN k := z_nle (by omega) (by omega) (by omega)
    obtain ⟨HH, HP, HS, HQ, HD, HC, HT, HL⟩ := id S
    obtain ⟨x, hx, hcx⟩ := hcd k (by omega)
    obtain ⟨-, -, -, -, K, k1, k4, -, hK, -⟩ := id (hE k (by omega))
    have eb : (14 : Int32) * nN k = nN (14 * k) := z_mulN 14 k
    have hml : M_lodge_L181 (m + 1) (nN N) 1 (nN k) w = (M_lodgesEntry (nN (14 * k)) w).bind fun p => M_lodge_L181 m (nN N) p.1 (nN (k + 1)) p.2 := by
      conv => lhs; unfold M_lodge_L181
      rw [if_neg hnle, if_neg (by decide), eb, zo_1]
    have hcons : s_or (fun j => !(s_can (w 43) t (14 * j))) (r + 1) k = (!(s_can (w 43) t (14 * k)) || s_or (fun j => !(s_can (w 43) t (14 * j))) r (k + 1)) := rfl
    rcases m_lodges (nh := nh) (nq := nq) (nd := nd) (x := x) (b := 14 * k) (K := K) (f := u 4) (w := w) HH hx (by rw [h49]; exact hcx) HQ.1 HQ.2.2.1 HD.2.2.1 HD.1 h7 (by omega) k1 k4 (by rw [h49]; exact hK) with ⟨W, e1, e2, e3⟩ | ⟨g, W, e1, e2, e3, e4, e5, e6, e7, e8, e9, ee⟩
    · left
      obtain ⟨m, rfl⟩ : ∃ q, m = q + 1 := ⟨m - 1, by omega⟩
      refine ⟨W, ?_, e2, fun h => e3 ?_⟩
      · rw [hml, e1]
        exact l181_0 m _ _ _
      · obtain ⟨h1, h2⟩ := h
        rw [hcons, Bool.or_eq_false_iff] at h2
        rw [h49]
        refine ⟨?_, by omega⟩
        cases q : s_can (w 43) t (14 * k) with
        | true => rfl
        | false =>
          rw [q] at h2
          cases h2.1
    · rw [h49] at e3 e7 ee
      obtain ⟨⟨hd, hb1, hc1, hch⟩, hpb⟩ := (s_can_iff HH HQ.1 HQ.2.2.1 (14 * k)).mp e3
      have HHg : tH nh (u 4) g := tH_cg (fun _ _ => rfl) (fun i hi => e5 i (by omega) (by omega)) HH
      obtain ⟨u1, c1, c2, c3, c4, ⟨f, HA⟩, cc⟩ := c_entry (nh := nh) (nd := nd) (x := x) (e := k) (b := 14 * k) (K := K) (g := g) (t := t) (u := u) HHg (by rw [s_coded_cg HH (fun i hi => e5 i (by omega) (by omega))]; exact hcx) (by omega) (hE k (by omega)) hK k1 k4 e6 e7 (tT_cg (fun _ _ => rfl) (fun i hi => e5 i (by omega) (by omega)) HT) (by rw [e5 0 (by omega) (by omega)]; exact HL.1) e4 HD.2.1
      obtain ⟨c0, c1', c2', c3', c4', c5', c6', c7', c8', c9', c10', c11', c12', c13', c14'⟩ := cc
      obtain ⟨d0, d1, d2, d3, d4, d5, d6, d7, d8, d9, d10, d11, d12, d13, d14⟩ := ee
      obtain ⟨l, hl1, hl2, el⟩ := z_winN (lo := 1) (hi := 999) (by omega) (by omega) hb1
      obtain ⟨oc, oc1, oc2⟩ := s_pori_at HA (by omega)
      have hq6 := HQ.1
      have S1 : z_LS nh np ns nq (nd + 1) u1 W := by
        refine ⟨tH_cg (fun i _ => by rw [c2 4 (by decide) (by decide)]) (fun i hi => e9 i (by omega) (by omega) (by omega) (by omega)) HH, tP_cg (fun i _ => by rw [c2 7 (by decide) (by decide)]) (fun i hi => e9 i (by omega) (by omega) (by omega) (by omega)) HP, tS_cg (fun i _ => by rw [c2 10 (by decide) (by decide)]) (fun i hi => e9 i (by omega) (by omega) (by omega) (by omega)) HS, tQ_cg (fun i _ => by rw [c2 23 (by decide) (by decide)]) (fun i hi => e9 i (by omega) (by omega) (by omega) (by omega)) HQ, ?_, tC_add hq6 HC (fun i hi => e9 i (by omega) (by omega) (by omega) (by omega)) (fun i hi => e9 _ (by omega) (by omega) (by omega) (by omega)) d8, tT_cg (fun i _ => by rw [c2 13 (by decide) (by decide)]) (fun i hi => e9 i (by omega) (by omega) (by omega) (by omega)) HT, tL_cg (fun i _ => by rw [c2 17 (by decide) (by decide)]) (fun i _ => by rw [c2 20 (by decide) (by decide)]) (fun i hi => e9 i (by omega) (by omega) (by omega) (by omega)) HL⟩
        refine tD_add HD e4 c3 e8 (fun i hi => c4 _ (by omega) (by omega)) (fun i hi => e9 _ (by omega) (by omega) (by omega) (by omega)) (fun j hj => ?_) ⟨⟨x, hx, d0⟩, ⟨l, hl1, hl2, d1.trans el⟩, ⟨oc, oc1, d3.trans oc2⟩, ?_, ⟨0, by omega, d7⟩, ⟨0, by omega, d8⟩, fun _ => d8⟩
        · rcases (show j = 0 ∨ j = 1 ∨ j = 2 ∨ j = 3 ∨ j = 4 ∨ j = 5 ∨ j = 6 ∨ j = 7 ∨ j = 8 ∨ j = 9 ∨ j = 10 ∨ j = 11 ∨ j = 12 ∨ j = 13 ∨ j = 14 by omega) with rfl | rfl | rfl | rfl | rfl | rfl | rfl | rfl | rfl | rfl | rfl | rfl | rfl | rfl | rfl
          · exact c0.trans d0.symm
          · exact c1'.trans d1.symm
          · exact c2'.trans d2.symm
          · exact c3'.trans d3.symm
          · exact c4'.trans d4.symm
          · exact c5'.trans d5.symm
          · exact c6'.trans d6.symm
          · exact c7'.trans d7.symm
          · exact c8'.trans d8.symm
          · exact c9'.trans d9.symm
          · exact c10'.trans d10.symm
          · exact c11'.trans d11.symm
          · exact c12'.trans d12.symm
          · exact c13'.trans d13.symm
          · exact c14'.trans d14.symm
        · rw [d5]
          exact hd
      have gW : ∀ i, i = 1 ∨ i = 4 ∨ (20 ≤ i ∧ i < 80) → W 43 i = w 43 i := fun i hi => e9 i (by omega) (by omega) (by omega) (by omega)
      have hfun : (fun j => !(s_can (W 43) t (14 * j))) = fun j => !(s_can (w 43) t (14 * j)) := funext (fun j => by rw [s_can_cg HH gW])
      have hml2 : M_lodge_L181 (m + 1) (nN N) 1 (nN k) w = M_lodge_L181 m (nN N) 1 (nN (k + 1)) W := by
        rw [hml, e1]
        rfl
      have hcl2 : C_lodge_L74 (m' + 1) (nN N) (nN k) u = C_lodge_L74 m' (nN N) (nN (k + 1)) u1 := by
        conv => lhs; unfold C_lodge_L74
        rw [if_neg hnle, c1]
        simp only [Option.bind_some, zo_1]
      have hor : s_or (fun j => !(s_can (w 43) t (14 * j))) (r + 1) k = s_or (fun j => !(s_can (w 43) t (14 * j))) r (k + 1) := by
        rw [hcons, e3]
        rfl
      have ih := ih m m' (k + 1) (nd + 1) u1 W (by omega) (by omega) (by omega) S1 ((e2.1 49 (by decide) (by decide)).trans h49) ((e2.2 7 (by decide)).trans h7) (fun j hj => by
        obtain ⟨y, y1, y2⟩ := hcd j hj
        exact ⟨y, y1, by rw [s_coded_cg HH (fun i hi => gW i (by omega))]; exact y2⟩) (fun j hj => EC_cg (c2 40 (by decide) (by decide)) (hE j hj))
      rw [hfun, show nd + 1 + r = nd + (r + 1) by omega] at ih
      rw [hml2, hcl2, hor]
      rcases ih with ⟨V, v1, v2, v3⟩ | ⟨V, u', v1, v2, v3, v4, v5, v6⟩
      · exact Or.inl ⟨V, v1, v2.trans e2, v3⟩
      · exact Or.inr ⟨V, u', v1, v2.trans e2, v3, v4, fun q q1 q2 => (v5 q q1 q2).trans (c2 q q1 q2), v6⟩
