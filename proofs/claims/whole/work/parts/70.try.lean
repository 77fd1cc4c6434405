/-! THE REFERENCE TRIES AN ENTRY -/
theorem s_cod_cg {n : Nat} {g g' : z_Ro} (hn : n ≤ 20) (hg : ∀ i, 20 ≤ i ∧ i < 80 → g' i = g i) : ∀ L x c w, z_way g n L x → s_cod g' L c w = s_cod g L c w := by
  intro L
  induction L with
  | nil => exact fun _ _ _ _ => rfl
  | cons h L ih =>
    intro x c w hw
    obtain ⟨h1, -, h3⟩ := hw
    unfold s_cod
    rw [hg _ (by omega), ih _ _ _ h3]
theorem s_code_cg {n h : Nat} {f g g' : z_Ro} (H : tH n f g) (hg : ∀ i, 20 ≤ i ∧ i < 80 → g' i = g i) (hh : h < n) : s_code g' (nN h) = s_code g (nN h) := by
  unfold s_code
  rw [s_W_cg H hg hh, s_cod_cg H.1 hg _ _ _ _ (s_W_ok H hh).1]
theorem s_first_cg {P Q : Nat → Bool} : ∀ r k, (∀ i, k ≤ i → i < k + r → P i = Q i) → s_first P r k = s_first Q r k := by
  intro r
  induction r with
  | zero => exact fun _ _ => rfl
  | succ r ih =>
    intro k h
    unfold s_first
    rw [h k (by omega) (by omega), ih (k + 1) (fun i h1 h2 => h i (by omega) (by omega))]
theorem s_coded_cg {n : Nat} {f g g' : z_Ro} (H : tH n f g) (hg : ∀ i, i = 1 ∨ (20 ≤ i ∧ i < 80) → g' i = g i) (c : Int32) : s_coded g' c = s_coded g c := by
  have hn := H.1
  unfold s_coded
  rw [hg 1 (by omega), H.2.2.1, z_nat (by omega)]
  refine s_first_cg _ _ (fun i h1 h2 => ?_)
  rw [s_code_cg H (fun j hj => hg j (Or.inr hj)) (by omega)]
theorem s_children_cg {n : Nat} {f g g' : z_Ro} (H : tH n f g) (hg : ∀ i, i = 1 ∨ (20 ≤ i ∧ i < 80) → g' i = g i) (x : Int32) : s_children g' x = s_children g x := by
  have hn := H.1
  unfold s_children
  rw [hg 1 (by omega), H.2.2.1, z_nat (by omega)]
  refine s_fold_cg _ _ _ (fun i h1 h2 b => ?_)
  rw [hg (20 + 3 * i) (by omega)]
theorem s_can_cg {n : Nat} {f g g' t : z_Ro} (H : tH n f g) (hg : ∀ i, i = 1 ∨ i = 4 ∨ (20 ≤ i ∧ i < 80) → g' i = g i) (b : Nat) : s_can g' t b = s_can g t b := by
  have e : ∀ i, i = 1 ∨ (20 ≤ i ∧ i < 80) → g' i = g i := fun i hi => hg i (hi.elim Or.inl (fun q => Or.inr (Or.inr q)))
  unfold s_can
  rw [s_coded_cg H e, s_children_cg H e, hg 4 (by omega)]
theorem s_fold_nn (P : Nat → Prop) [DecidablePred P] : ∀ r k a, ∃ c, a ≤ c ∧ c ≤ a + r ∧ s_fold (fun k (x : Int32) => if P k then x + 1 else x) r k (nN a) = nN c := by
  intro r
  induction r with
  | zero => exact fun k a => ⟨a, by omega, by omega, rfl⟩
  | succ r ih =>
    intro k a
    unfold s_fold
    by_cases h : P k
    · obtain ⟨c, c1, c2, c3⟩ := ih (k + 1) (a + 1)
      refine ⟨c, by omega, by omega, ?_⟩
      rw [if_pos h, zo_1]
      exact c3
    · obtain ⟨c, c1, c2, c3⟩ := ih (k + 1) a
      refine ⟨c, by omega, by omega, ?_⟩
      rw [if_neg h]
      exact c3
theorem s_children_0 {n : Nat} {f g : z_Ro} (H : tH n f g) (x : Int32) : s_children g x = 0 ↔ ¬ 0 < s_children g x := by
  have hn := H.1
  obtain ⟨c, -, c2, c3⟩ := s_fold_nn (fun k => g (20 + 3 * k) = x) (g 1).toNatClampNeg 0 0
  have e : s_children g x = nN c := c3
  rw [H.2.2.1, z_nat (by omega)] at c2
  rw [e]
  constructor
  · intro h
    rw [h]
    decide
  · intro h
    by_cases h0 : c = 0
    · rw [h0]
      rfl
    · exact absurd ((z_lt (a := 0) (by omega) (by omega)).mpr (by omega)) h
theorem s_quo {nq : Nat} {g : z_Ro} (hq : nq ≤ 6) (h4 : g 4 = nN nq) (d : Int32) : (decide (d = -1) || s_in d 0 (g 4 - 1)) = true ↔ (d = -1 ∨ ∃ q, q < nq ∧ d = nN q) := by
  constructor
  · intro h
    by_cases h1 : d = -1
    · exact Or.inl h1
    · rw [decide_eq_false h1, Bool.false_or] at h
      have h2 := s_in_yes h
      rw [h4] at h2
      by_cases h3 : ∃ q, q < nq ∧ d = nN q
      · exact Or.inr h3
      · exact absurd (z_row2 (n := nq) (by omega) (fun r hr e => h3 ⟨r, hr, e⟩)).2 h2
  · rintro (h | ⟨q, hq1, rfl⟩)
    · rw [decide_eq_true h, Bool.true_or]
    · obtain ⟨c1, -, c3⟩ := z_row1 (n := nq) (by omega) hq1
      rw [show s_in (nN q) 0 (g 4 - 1) = true by
        unfold s_in
        rw [h4, decide_eq_false c1, decide_eq_false c3]
        rfl, Bool.or_true]
/-- what a declaration asks -/
def s_may (g : z_Ro) (nq : Nat) (x b c d : Int32) : Prop := (d = -1 ∨ ∃ q, q < nq ∧ d = nN q) ∧ ¬ (b < 1 ∨ 999 < b) ∧ ¬ (c < 0 ∨ 2 < c) ∧ ¬ 0 < s_children g x
theorem s_can_iff {nh nq : Nat} {f g t : z_Ro} (HH : tH nh f g) (hq : nq ≤ 6) (h4 : g 4 = nN nq) (b : Nat) : s_can g t b = true ↔ (s_may g nq (s_coded g (t b)) (t (b + 1)) (t (b + 10)) (t (b + 11)) ∧ s_or (s_pbad t b) (s_kp t b) 0 = false) := by
  have e : ∀ v lo hi, s_in v lo hi = true ↔ ¬ (v < lo ∨ hi < v) := fun v lo hi => ⟨s_in_yes, fun h => by
    cases q : s_in v lo hi with
    | false => exact absurd (s_in_no q) h
    | true => rfl⟩
  have e2 : (!(s_or (s_pbad t b) (s_kp t b) 0)) = true ↔ s_or (s_pbad t b) (s_kp t b) 0 = false := by
    cases s_or (s_pbad t b) (s_kp t b) 0 <;> decide
  unfold s_can s_may
  rw [Bool.and_eq_true, Bool.and_eq_true, Bool.and_eq_true, Bool.and_eq_true, decide_eq_true_iff, s_children_0 HH, e, e, s_quo hq h4, e2]
  constructor
  · rintro ⟨h1, h2, h3, h4, h5⟩
    exact ⟨⟨h4, h2, h3, h1⟩, h5⟩
  · rintro ⟨⟨h4, h2, h3, h1⟩, h5⟩
    exact ⟨h1, h2, h3, h4, h5⟩
/-- what a try changes: the current row, and whether something was thrown -/
def QF (w w0 : mg_Rg) : Prop := (∀ k, k ≠ 42 → k ≠ 43 → w k = w0 k) ∧ ∀ i, i ≠ 0 → w 42 i = w0 42 i
theorem QF.refl (w : mg_Rg) : QF w w := ⟨fun _ _ _ => rfl, fun _ _ => rfl⟩
theorem QF.trans {a b c : mg_Rg} (h1 : QF a b) (h2 : QF b c) : QF a c := ⟨fun k k1 k2 => (h1.1 k k1 k2).trans (h2.1 k k1 k2), fun i hi => (h1.2 i hi).trans (h2.2 i hi)⟩
theorem QF_t (w : mg_Rg) (v : Int32) : QF (mg_up w 42 0 v) w := ⟨fun k k1 k2 => z_up_ne k1, fun i hi => zu_ne hi⟩
theorem QF_g (w : mg_Rg) (i : Nat) (v : Int32) : QF (mg_up w 43 i v) w := ⟨fun k k1 k2 => z_up_ne k2, fun j _ => by rw [z_up_ne (by decide)]⟩
theorem m_quiet {w : mg_Rg} (h : w 42 7 = 1) : M_remembers w = some w := by
  unfold M_remembers
  rw [h, if_neg (by decide)]
theorem m_part_q {n : Nat} {a b : Int32} {w : mg_Rg} (hn : n < 4) (h6 : w 43 6 = nN n) (h7 : w 42 7 = 1) : ∃ v W, M_part a b w = some (v, W) ∧ QF W w ∧ (∀ i, i ≠ 6 → i < 192 ∨ 200 ≤ i → W 43 i = w 43 i) ∧
    (((s_cty a && s_in b 1 9999) = true ∧ W 42 0 = 0 ∧ W 43 6 = nN (n + 1) ∧ W 43 (192 + 2 * n) = a ∧ W 43 (192 + 2 * n + 1) = b ∧ ∀ i < 2 * n, W 43 (192 + i) = w 43 (192 + i)) ∨ ((s_cty a && s_in b 1 9999) = false ∧ ¬ W 42 0 = 0 ∧ W 43 6 = nN n)) := by
  by_cases h1 : s_cty a = false
  · refine ⟨0, mg_up w 42 0 1, ?_, QF_t w 1, fun i _ _ => by rw [z_up_ne (by decide)], Or.inr ⟨by rw [h1]; rfl, by rw [zu_eq]; decide, by rw [z_up_ne (by decide)]; exact h6⟩⟩
    unfold M_part
    rw [m_cty]
    simp only [Option.bind_some, z_bz]
    rw [if_pos h1]
    rfl
  by_cases h2 : s_in b 1 9999 = false
  · refine ⟨0, mg_up w 42 0 2, ?_, QF_t w 2, fun i _ _ => by rw [z_up_ne (by decide)], Or.inr ⟨by rw [h2, Bool.and_false], by rw [zu_eq]; decide, by rw [z_up_ne (by decide)]; exact h6⟩⟩
    unfold M_part
    rw [m_cty]
    simp only [Option.bind_some, z_bz]
    rw [if_neg h1, z_min_s]
    simp only [Option.bind_some, z_bz]
    rw [if_pos h2]
    rfl
  have h1' : s_cty a = true := by
    cases q : s_cty a with
    | false => exact absurd q h1
    | true => rfl
  have h2' : s_in b 1 9999 = true := by
    cases q : s_in b 1 9999 with
    | false => exact absurd q h2
    | true => rfl
  have e1 : M_isCountry a w = some 1 := by
    rw [m_cty, h1']
    rfl
  have e2 : M_in b 1 9999 w = some 1 := z_min_yes (s_in_yes h2')
  have n4 : ¬ w 43 6 = 4 := by rw [h6]; exact z_nne (b := 4) (by omega) (by omega) (by omega)
  obtain ⟨W, hW⟩ : ∃ W, W = mg_up (mg_up (mg_up w 43 (192 + 2 * n) a) 43 (192 + 2 * n + 1) b) 43 6 (nN (n + 1)) := ⟨_, rfl⟩
  refine ⟨nN (n + 1), mg_up W 42 0 0, ?_, (QF_t W 0).trans ?_, fun i i1 i2 => by rw [z_up_ne (by decide), hW, zu_ne i1, zu_ne (by omega), zu_ne (by omega)], Or.inl ⟨by rw [h1', h2']; rfl, by rw [zu_eq], by rw [z_up_ne (by decide), hW, zu_eq], by rw [z_up_ne (by decide), hW, zu_ne (by omega), zu_ne (by omega), zu_eq], by rw [z_up_ne (by decide), hW, zu_ne (by omega), zu_eq], fun i hi => by rw [z_up_ne (by decide), hW, zu_ne (by omega), zu_ne (by omega), zu_ne (by omega)]⟩⟩
  · unfold M_part
    rw [e1]
    simp only [Option.bind_some]
    rw [if_neg (by decide), e2]
    simp only [Option.bind_some]
    rw [if_neg (by decide), if_neg n4, m_quiet h7]
    simp (disch := omega) only [h6, zb_192, zo_1, z_nat, z_n0, z_690, or_self, zu_ne, zu_eq, z_done, Option.bind_some, ↓reduceIte]
    rw [hW]
  · rw [hW]
    exact ((QF_g _ _ _).trans (QF_g _ _ _)).trans (QF_g _ _ _)
theorem m_parts {b K : Nat} (hb : b + 14 ≤ 840) (hK : K ≤ 4) : ∀ r m i (acc : Bool) (c : Nat) (w : mg_Rg), i + r = K → r < m → w 49 (b + 12) = nN K → w 42 7 = 1 → c ≤ i → w 43 6 = nN c → (acc = true → c = i) →
    ∃ W, M_lodgesEntry_L12 m (nN b) (if acc = true then 1 else 0) (nN i) w = some (if (acc && !(s_or (s_pbad (w 49) b) r i)) = true then 1 else 0, W) ∧ QF W w ∧ (∀ j, j ≠ 6 → j < 192 ∨ 200 ≤ j → W 43 j = w 43 j) ∧
      ((acc && !(s_or (s_pbad (w 49) b) r i)) = true → W 43 6 = nN K ∧ (∀ j < 2 * i, W 43 (192 + j) = w 43 (192 + j)) ∧ ∀ j < K, i ≤ j → W 43 (192 + 2 * j) = w 49 (b + 2 + 2 * j) ∧ W 43 (192 + 2 * j + 1) = w 49 (b + 3 + 2 * j)) := by
  intro r
  induction r with
  | zero =>
    intro m i acc c w hi hm h12 h7 hc h6 hac
    cases m with
    | zero => omega
    | succ m =>
      refine ⟨w, ?_, QF.refl w, fun _ _ _ => rfl, fun h => ?_⟩
      · unfold M_lodgesEntry_L12
        rw [zo_12, z_g840 (by omega), z_nat (by omega), h12, if_pos ((z_le (by omega) (by omega)).mpr (by omega))]
        cases acc <;> rfl
      · have ha : acc = true := by
          cases acc with
          | false => exact h
          | true => rfl
        have hci := hac ha
        exact ⟨by rw [h6, show c = K by omega], fun j hj => rfl, fun j h1 h2 => absurd h1 (by omega)⟩
  | succ r ih =>
    intro m i acc c w hi hm h12 h7 hc h6 hac
    cases m with
    | zero => omega
    | succ m =>
      obtain ⟨v, W, e1, e2, e3, e4⟩ := m_part_q (a := w 49 (b + 2 + 2 * i)) (b := w 49 (b + 3 + 2 * i)) (n := c) (w := w) (by omega) h6 h7
      have e49 : W 49 = w 49 := e2.1 49 (by decide) (by decide)
      have hW12 : W 49 (b + 12) = nN K := by rw [e49]; exact h12
      have hW7 : W 42 7 = 1 := (e2.2 7 (by decide)).trans h7
      have es : s_or (s_pbad (w 49) b) (r + 1) i = (s_pbad (w 49) b i || s_or (s_pbad (w 49) b) r (i + 1)) := rfl
      have e2i : (2 : Int32) * nN i = nN (2 * i) := z_mulN 2 i
      have ia : nN b + 2 + 2 * nN i = nN (b + 2 + 2 * i) := by
        rw [zo_2, e2i]
        exact (Int32.ofNat_add _ _).symm
      have ib : nN b + 3 + 2 * nN i = nN (b + 3 + 2 * i) := by
        rw [zo_3, e2i]
        exact (Int32.ofNat_add _ _).symm
      have step : ∀ x, M_lodgesEntry_L12 (m + 1) (nN b) x (nN i) w = if W 42 0 = 0 then M_lodgesEntry_L12 m (nN b) (x &&& 1) (nN (i + 1)) W else M_lodgesEntry_L12 m (nN b) (x &&& 0) (nN (i + 1)) W := by
        intro x
        conv => lhs; unfold M_lodgesEntry_L12
        rw [zo_12, z_g840 (by omega), z_nat (by omega), h12, if_neg (z_nle (by omega) (by omega) (by omega)), ia, ib, z_g840 (by omega), z_g840 (by omega), z_nat (by omega), z_nat (by omega), e1]
        simp only [Option.bind_some, zo_1]
      rcases e4 with ⟨g1, g2, g3, g4, g5, g6⟩ | ⟨g1, g2, g3⟩
      · have hp : s_pbad (w 49) b i = false := by
          show (!(s_cty (w 49 (b + 2 + 2 * i)) && s_in (w 49 (b + 3 + 2 * i)) 1 9999)) = false
          rw [g1]
          rfl
        obtain ⟨V, v1, v2, v3, v4⟩ := ih m (i + 1) acc (c + 1) W (by omega) (by omega) hW12 hW7 (by omega) g3 (fun h => by rw [hac h])
        rw [e49] at v1 v4
        rw [es, hp, Bool.false_or]
        refine ⟨V, ?_, v2.trans e2, fun j j1 j2 => (v3 j j1 j2).trans (e3 j j1 j2), fun h => ?_⟩
        · have ea : (if acc = true then (1 : Int32) else 0) &&& 1 = if acc = true then 1 else 0 := by cases acc <;> rfl
          rw [step, if_pos g2, ea]
          exact v1
        · obtain ⟨x1, x2, x3⟩ := v4 h
          have ha : acc = true := by
            cases acc with
            | false => exact h
            | true => rfl
          have hci := hac ha
          refine ⟨x1, fun j hj => (x2 j (by omega)).trans (g6 j (by omega)), fun j j1 j2 => ?_⟩
          by_cases hj : j = i
          · subst hj
            rw [hci] at g4 g5
            exact ⟨(x2 (2 * j) (by omega)).trans g4, (x2 (2 * j + 1) (by omega)).trans g5⟩
          · exact x3 j j1 (by omega)
      · have hp : s_pbad (w 49) b i = true := by
          show (!(s_cty (w 49 (b + 2 + 2 * i)) && s_in (w 49 (b + 3 + 2 * i)) 1 9999)) = true
          rw [g1]
          rfl
        obtain ⟨V, v1, v2, v3, v4⟩ := ih m (i + 1) false c W (by omega) (by omega) hW12 hW7 (by omega) g3 (fun h => by cases h)
        have v1' : M_lodgesEntry_L12 m (nN b) 0 (nN (i + 1)) W = some (0, V) := v1
        have hz : (acc && !true) = false := by cases acc <;> rfl
        rw [es, hp, Bool.true_or, hz]
        refine ⟨V, ?_, v2.trans e2, fun j j1 j2 => (v3 j j1 j2).trans (e3 j j1 j2), fun h => by cases h⟩
        have ea : (if acc = true then (1 : Int32) else 0) &&& 0 = 0 := by cases acc <;> rfl
        rw [step, if_neg g2, ea, v1']
        rfl
theorem md_bad {nh nq nd na x : Nat} {b c d : Int32} {f : z_Ro} {w : mg_Rg} (HH : tH nh f (w 43)) (hx : x < nh) (hq : nq ≤ 6) (h4 : w 43 4 = nN nq) (h6 : w 43 6 = nN na) (hna : 0 < na) (hn4 : na ≤ 4) (h5 : w 43 5 = nN nd) (hnd : nd ≤ 30) (hbad : ¬ (s_may (w 43) nq (nN x) b c d ∧ nd < 30)) : ∃ T, M_declare (nN x) b c d w = some (0, mg_up w 42 0 T) ∧ ¬ T = 0 := by
  have hN := HH.1
  by_cases hd : d = -1 ∨ ∃ q, q < nq ∧ d = nN q
  case neg =>
    have hd1 : ¬ d = -1 := fun e => hd (Or.inl e)
    have hd' : ∀ q < nq, d ≠ nN q := fun q hl e => hd (Or.inr ⟨q, hl, e⟩)
    refine ⟨1, ?_, by decide⟩
    simp only [M_declare, mrH_yes (by omega) HH.2.2.1 hx, hd1, miQ_no (by omega) h4 hd', Option.bind_some, zz_10, ↓reduceIte, z_fails]
  by_cases hb : b < 1 ∨ 999 < b
  case pos =>
    refine ⟨2, ?_, by decide⟩
    rcases hd with rfl | ⟨q, hq1, rfl⟩
    · simp only [M_declare, mrH_yes (by omega) HH.2.2.1 hx, z_min_no hb, Option.bind_some, zz_10, ↓reduceIte, z_fails]
    · simp only [M_declare, z_ne1 (show q < 2147483648 by omega), miQ_yes (by omega) h4 hq1, mrH_yes (by omega) HH.2.2.1 hx, z_min_no hb, Option.bind_some, zz_10, ↓reduceIte, z_fails]
  by_cases hc : c < 0 ∨ 2 < c
  case pos =>
    refine ⟨2, ?_, by decide⟩
    rcases hd with rfl | ⟨q, hq1, rfl⟩
    · simp only [M_declare, mrH_yes (by omega) HH.2.2.1 hx, z_min_yes hb, z_min_no hc, Option.bind_some, zz_10, ↓reduceIte, z_fails]
    · simp only [M_declare, z_ne1 (show q < 2147483648 by omega), miQ_yes (by omega) h4 hq1, mrH_yes (by omega) HH.2.2.1 hx, z_min_yes hb, z_min_no hc, Option.bind_some, zz_10, ↓reduceIte, z_fails]
  by_cases hch : 0 < s_children (w 43) (nN x)
  case pos =>
    refine ⟨3, ?_, by decide⟩
    rcases hd with rfl | ⟨q, hq1, rfl⟩
    · simp only [M_declare, mrH_yes (by omega) HH.2.2.1 hx, z_min_yes hb, z_min_yes hc, m_children HH, hch, Option.bind_some, zz_10, ↓reduceIte, z_fails]
    · simp only [M_declare, z_ne1 (show q < 2147483648 by omega), miQ_yes (by omega) h4 hq1, mrH_yes (by omega) HH.2.2.1 hx, z_min_yes hb, z_min_yes hc, m_children HH, hch, Option.bind_some, zz_10, ↓reduceIte, z_fails]
  have n6 : ¬ w 43 6 = 0 := by rw [h6]; exact z_nne (b := 0) (by omega) (by omega) (by omega)
  have e30 : nd = 30 := by
    by_cases h : nd < 30
    · exact absurd ⟨⟨hd, hb, hc, hch⟩, h⟩ hbad
    · omega
  have e8 : w 43 5 = 30 := by rw [h5, e30]; rfl
  refine ⟨3, ?_, by decide⟩
  rcases hd with rfl | ⟨q, hq1, rfl⟩
  · simp only [M_declare, mrH_yes (by omega) HH.2.2.1 hx, z_min_yes hb, z_min_yes hc, m_children HH, hch, n6, e8, Option.bind_some, zz_10, ↓reduceIte, z_fails]
  · simp only [M_declare, z_ne1 (show q < 2147483648 by omega), miQ_yes (by omega) h4 hq1, mrH_yes (by omega) HH.2.2.1 hx, z_min_yes hb, z_min_yes hc, m_children HH, hch, n6, e8, Option.bind_some, zz_10, ↓reduceIte, z_fails]
