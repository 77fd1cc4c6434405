/-! WHAT THE RATES READ -/
theorem s_way_cg {n : Nat} {f g g' : z_Ro} (H : tH n f g) (hg : ∀ i, 20 ≤ i ∧ i < 80 → g' i = g i) : ∀ k x, (x = -1 ∨ ∃ h < n, x = nN h) → s_way g' k x = s_way g k x := by
  obtain ⟨hn, -, -, -, v, hv⟩ := H
  intro k
  induction k with
  | zero => exact fun _ _ => rfl
  | succ k ih =>
    intro x hx
    unfold s_way
    rcases hx with rfl | ⟨h, hh, rfl⟩
    · rw [if_pos rfl, if_pos rfl]
    · rw [if_neg (z_ne1 (by omega)), if_neg (z_ne1 (by omega)), z_nat (by omega), hg _ (by omega), ih _ ?_]
      rcases (hv h hh).2.2 with ⟨e, -⟩ | ⟨p, hp, e, -⟩
      · exact Or.inl e
      · exact Or.inr ⟨p, by omega, e⟩
theorem s_W_cg {n h : Nat} {f g g' : z_Ro} (H : tH n f g) (hg : ∀ i, 20 ≤ i ∧ i < 80 → g' i = g i) (hh : h < n) : s_W g' (nN h) = s_W g (nN h) := s_way_cg H hg 4 _ (Or.inr ⟨h, hh, rfl⟩)
theorem s_rat_cg {n : Nat} {g g' : z_Ro} (hn : n ≤ 20) (hg : ∀ i, 20 ≤ i ∧ i < 80 → g' i = g i) : ∀ L x, z_way g n L x → s_rat g' L = s_rat g L := by
  intro L
  induction L with
  | nil => exact fun _ _ => rfl
  | cons h L ih =>
    intro x hw
    obtain ⟨h1, -, h3⟩ := hw
    unfold s_rat
    rw [hg _ (by omega), ih _ h3]
theorem s_under_cg {n h : Nat} {f g g' : z_Ro} (H : tH n f g) (hg : ∀ i, 20 ≤ i ∧ i < 80 → g' i = g i) (hh : h < n) (o : Int32) : s_under g' (nN h) o = s_under g (nN h) o := by
  unfold s_under
  rw [s_W_cg H hg hh]
theorem s_rate_cg {n h : Nat} {f g g' : z_Ro} (H : tH n f g) (hg : ∀ i, 20 ≤ i ∧ i < 80 → g' i = g i) (hh : h < n) : s_rate g' (nN h) = s_rate g (nN h) := by
  unfold s_rate
  rw [s_W_cg H hg hh, s_rat_cg H.1 hg _ _ (s_W_ok H hh).1]
theorem s_or_cg {P Q : Nat → Bool} : ∀ r k, (∀ i, k ≤ i → i < k + r → P i = Q i) → s_or P r k = s_or Q r k := by
  intro r
  induction r with
  | zero => exact fun _ _ => rfl
  | succ r ih =>
    intro k h
    unfold s_or
    rw [h k (by omega) (by omega), ih (k + 1) (fun i h1 h2 => h i (by omega) (by omega))]
theorem s_pref_cg {n m h : Nat} {f f2 g g' : z_Ro} (H : tH n f g) (HP : tP m f2 g) (hg : ∀ i, i < 138 → g' i = g i) (hh : h < n) (c v pr : Int32) : s_pref g' (nN h) c v pr = s_pref g (nN h) c v pr := by
  have h10 := HP.1
  unfold s_pref
  rw [hg 2 (by omega), HP.2.2.1, z_nat (by omega)]
  refine s_fold_cg _ _ _ (fun i h1 h2 b => ?_)
  unfold s_pstep s_for s_meets
  rw [s_under_cg H (fun i hi => hg i (by omega)) hh, hg (80 + 4 * i) (by omega), hg (80 + 4 * i + 1) (by omega), hg (80 + 4 * i + 2) (by omega), hg (80 + 4 * i + 3) (by omega), hg 12 (by omega)]
theorem s_susp_cg {n m h : Nat} {f f2 g g' : z_Ro} (H : tH n f g) (HS : tS m f2 g) (hg : ∀ i, i < 138 → g' i = g i) (hh : h < n) (day : Int32) : s_susp g' (nN h) day = s_susp g (nN h) day := by
  have h10 := HS.1
  unfold s_susp
  rw [hg 3 (by omega), HS.2.2.1, z_nat (by omega)]
  refine s_or_cg _ _ (fun i h1 h2 => ?_)
  unfold s_insus
  rw [s_under_cg H (fun i hi => hg i (by omega)) hh, hg (120 + 3 * i) (by omega), hg (120 + 3 * i + 1) (by omega), hg (120 + 3 * i + 2) (by omega)]
theorem s_gr_cg {n m k h : Nat} {f f2 f3 g g' : z_Ro} (H : tH n f g) (HP : tP m f2 g) (HS : tS k f3 g) (hg : ∀ i, i < 138 → g' i = g i) (hh : h < n) (c v pr day : Int32) : s_gr g' (nN h) c v pr day = s_gr g (nN h) c v pr day := by
  unfold s_gr
  rw [s_susp_cg H HS hg hh, s_pref_cg H HP hg hh, s_rate_cg H (fun i hi => hg i (by omega)) hh]
theorem s_grD_cg {n m k d : Nat} {f f2 f3 g g' : z_Ro} (H : tH n f g) (HP : tP m f2 g) (HS : tS k f3 g) (hg : ∀ i, i < 138 → g' i = g i) (hr : ∀ j < 7, g' (208 + 16 * d + j) = g (208 + 16 * d + j)) (hx : ∃ p < n, g (208 + 16 * d) = nN p) : s_grD g' d = s_grD g d := by
  obtain ⟨p, hp, e⟩ := hx
  unfold s_grD
  rw [show g' (208 + 16 * d) = g (208 + 16 * d) from hr 0 (by omega), hr 3 (by omega), hr 2 (by omega), hr 4 (by omega), hr 6 (by omega), e]
  exact s_gr_cg H HP HS hg hp _ _ _ _
theorem s_gfD_cg {n m d : Nat} {f f2 g g' : z_Ro} (H : tH n f g) (HP : tP m f2 g) (hg : ∀ i, i < 138 → g' i = g i) (hr : ∀ j < 7, g' (208 + 16 * d + j) = g (208 + 16 * d + j)) (hx : ∃ p < n, g (208 + 16 * d) = nN p) (r : Int32) : s_gfD g' r d = s_gfD g r d := by
  obtain ⟨p, hp, e⟩ := hx
  unfold s_gfD s_gf
  rw [show g' (208 + 16 * d) = g (208 + 16 * d) from hr 0 (by omega), hr 3 (by omega), hr 2 (by omega), hr 4 (by omega), e, s_rate_cg H (fun i hi => hg i (by omega)) hp, s_pref_cg H HP hg hp]
theorem s_claims_cg {n m k d q : Nat} {f f2 f3 g g' : z_Ro} (H : tH n f g) (HP : tP m f2 g) (HS : tS k f3 g) (hg : ∀ i, i < 138 → g' i = g i) (hr : ∀ j < 7, g' (208 + 16 * d + j) = g (208 + 16 * d + j)) (hx : ∃ p < n, g (208 + 16 * d) = nN p) (hq : ∀ j < 6, g' (138 + 9 * q + j) = g (138 + 9 * q + j)) (left : Int32) : s_claims g' d q left = s_claims g d q left := by
  have h1 := s_grD_cg H HP HS hg hr hx
  obtain ⟨p, hp, e⟩ := hx
  unfold s_claims
  rw [h1, show g' (208 + 16 * d) = g (208 + 16 * d) from hr 0 (by omega), hr 3 (by omega), hr 6 (by omega), e, s_under_cg H (fun i hi => hg i (by omega)) hp, show g' (138 + 9 * q) = g (138 + 9 * q) from hq 0 (by omega), hq 1 (by omega), hq 3 (by omega), hq 4 (by omega), hq 5 (by omega)]
/-! SHARES -/
def v_sum (good : Nat → Bool) (f : Nat → Nat) : Nat → Nat
  | 0 => 0
  | n + 1 => v_sum good f n + if good n = true then f n else 0
def v_sh (qty : Nat → Nat) (l all : Nat) (d : Nat) : Nat := if l < all then qty d * l / all else qty d
theorem z_eq0 {a : Nat} (h : 0 < a) (ha : a < 2147483648) : ¬ nN a = 0 := z_nne (b := 0) ha (by omega) (by omega)
theorem z_le0 {a : Nat} (h : a = 0) : nN a ≤ 0 := by
  subst h
  decide
theorem z_nle0 {a : Nat} (h : 0 < a) (ha : a < 2147483648) : ¬ nN a ≤ 0 := z_nle (b := 0) ha (by omega) h
theorem z_subm1 (n : Nat) : nN (n + 1) + (-1) = nN n := by
  rw [← Int32.sub_eq_add_neg]
  exact z_sub1 n
theorem v_mono (good : Nat → Bool) (f : Nat → Nat) {k n : Nat} (h : k ≤ n) : v_sum good f k ≤ v_sum good f n := by
  induction n with
  | zero =>
    have : k = 0 := by omega
    subst this
    exact Nat.le_refl _
  | succ n ih =>
    by_cases e : k = n + 1
    · subst e
      exact Nat.le_refl _
    · have h1 := ih (by omega)
      have h2 : v_sum good f (n + 1) = v_sum good f n + if good n = true then f n else 0 := rfl
      omega
theorem v_cg {good good' : Nat → Bool} {f f' : Nat → Nat} : ∀ {n : Nat}, (∀ d < n, good' d = good d ∧ (good d = true → f' d = f d)) → v_sum good' f' n = v_sum good f n := by
  intro n
  induction n with
  | zero => exact fun _ => rfl
  | succ n ih =>
    intro h
    unfold v_sum
    rw [ih (fun d hd => h d (by omega)), (h n (by omega)).1]
    by_cases g : good n = true
    · rw [if_pos g, if_pos g, (h n (by omega)).2 g]
    · rw [if_neg g, if_neg g]
theorem v_le (good : Nat → Bool) (f : Nat → Nat) (b : Nat) : ∀ n, (∀ d < n, f d ≤ b) → v_sum good f n ≤ b * n := by
  intro n
  induction n with
  | zero => exact fun _ => Nat.zero_le _
  | succ n ih =>
    intro h
    have h1 := ih (fun d hd => h d (by omega))
    have h2 := h n (by omega)
    unfold v_sum
    rw [Nat.mul_succ]
    by_cases g : good n = true
    · rw [if_pos g]
      omega
    · rw [if_neg g]
      omega
theorem v_one (good : Nat → Bool) (f : Nat → Nat) {n d : Nat} (hd : d < n) (g : good d = true) : f d ≤ v_sum good f n := by
  have h1 := v_mono good f (k := d + 1) (n := n) hd
  have h2 : v_sum good f (d + 1) = v_sum good f d + f d := by
    show v_sum good f d + (if good d = true then f d else 0) = _
    rw [if_pos g]
  omega
theorem v_lo (good : Nat → Bool) (qty : Nat → Nat) (l all : Nat) : ∀ k, v_sum good (fun d => qty d * l / all) k * all ≤ v_sum good qty k * l := by
  intro k
  induction k with
  | zero => exact Nat.le_of_eq (by show 0 * all = 0 * l; rw [Nat.zero_mul, Nat.zero_mul])
  | succ k ih =>
    unfold v_sum
    rw [Nat.add_mul, Nat.add_mul]
    by_cases g : good k = true
    · rw [if_pos g, if_pos g]
      exact Nat.add_le_add ih (Nat.div_mul_le_self _ _)
    · rw [if_neg g, if_neg g, Nat.zero_mul, Nat.zero_mul]
      exact ih
theorem v_hi (good : Nat → Bool) (qty : Nat → Nat) (l all : Nat) (ha : 0 < all) : ∀ k, v_sum good qty k * l ≤ (v_sum good (fun d => qty d * l / all) k + v_sum good (fun _ => 1) k) * all := by
  intro k
  induction k with
  | zero => exact Nat.le_of_eq (by show 0 * l = (0 + 0) * all; rw [Nat.zero_mul, Nat.zero_mul])
  | succ k ih =>
    unfold v_sum
    by_cases g : good k = true
    · rw [if_pos g, if_pos g, if_pos g, Nat.add_mul]
      have h1 : qty k * l < (qty k * l / all + 1) * all := (Nat.div_lt_iff_lt_mul ha).mp (Nat.lt_succ_self _)
      rw [show v_sum good (fun d => qty d * l / all) k + qty k * l / all + (v_sum good (fun _ => 1) k + 1) = (v_sum good (fun d => qty d * l / all) k + v_sum good (fun _ => 1) k) + (qty k * l / all + 1) by omega, Nat.add_mul]
      omega
    · rw [if_neg g, if_neg g, if_neg g]
      exact ih
/-- the shares together are at most what is left -/
theorem v_fit (good : Nat → Bool) (qty : Nat → Nat) (l n : Nat) : v_sum good (v_sh qty l (v_sum good qty n)) n ≤ l ∧ (l < v_sum good qty n → l ≤ v_sum good (v_sh qty l (v_sum good qty n)) n + v_sum good (fun _ => 1) n) ∧ (¬ l < v_sum good qty n → v_sum good (v_sh qty l (v_sum good qty n)) n = v_sum good qty n) := by
  by_cases h : l < v_sum good qty n
  · have e : v_sum good (v_sh qty l (v_sum good qty n)) n = v_sum good (fun d => qty d * l / v_sum good qty n) n := v_cg (fun d hd => ⟨rfl, fun _ => if_pos h⟩)
    rw [e]
    have ha : 0 < v_sum good qty n := by omega
    refine ⟨?_, fun _ => ?_, fun q => absurd h q⟩
    · have := v_lo good qty l (v_sum good qty n) n
      rw [Nat.mul_comm (v_sum good qty n) l] at this
      exact Nat.le_of_mul_le_mul_right this ha
    · have := v_hi good qty l (v_sum good qty n) ha n
      rw [Nat.mul_comm (v_sum good qty n) l] at this
      exact Nat.le_of_mul_le_mul_right this ha
  · have e : v_sum good (v_sh qty l (v_sum good qty n)) n = v_sum good qty n := v_cg (fun d hd => ⟨rfl, fun _ => if_neg h⟩)
    rw [e]
    exact ⟨by omega, fun q => absurd q h, fun _ => rfl⟩
/-- what each gets: its share, and one of what is over -/
def v_got (good : Nat → Bool) (qty : Nat → Nat) (l n d : Nat) : Nat := v_sh qty l (v_sum good qty n) d + if v_sum good (fun _ => 1) d < min l (v_sum good qty n) - v_sum good (v_sh qty l (v_sum good qty n)) n then 1 else 0
theorem v_extra (good : Nat → Bool) (r : Nat) : ∀ k, v_sum good (fun d => if v_sum good (fun _ => 1) d < r then 1 else 0) k = min (v_sum good (fun _ => 1) k) r := by
  intro k
  induction k with
  | zero =>
    show 0 = min 0 r
    omega
  | succ k ih =>
    have e1 : v_sum good (fun d => if v_sum good (fun _ => 1) d < r then 1 else 0) (k + 1) = v_sum good (fun d => if v_sum good (fun _ => 1) d < r then 1 else 0) k + (if good k = true then (if v_sum good (fun _ => 1) k < r then 1 else 0) else 0) := rfl
    have e2 : v_sum good (fun _ => 1) (k + 1) = v_sum good (fun _ => 1) k + (if good k = true then 1 else 0) := rfl
    rw [e1, e2, ih]
    by_cases g : good k = true
    · rw [if_pos g, if_pos g]
      by_cases h : v_sum good (fun _ => 1) k < r
      · rw [if_pos h]
        omega
      · rw [if_neg h]
        omega
    · rw [if_neg g, if_neg g]
      omega
theorem v_add (good : Nat → Bool) (f f' : Nat → Nat) : ∀ k, v_sum good (fun d => f d + f' d) k = v_sum good f k + v_sum good f' k := by
  intro k
  induction k with
  | zero => rfl
  | succ k ih =>
    unfold v_sum
    rw [ih]
    by_cases g : good k = true
    · rw [if_pos g, if_pos g, if_pos g]
      omega
    · rw [if_neg g, if_neg g, if_neg g]
      omega
/-- together they get what is given -/
theorem v_got_sum (good : Nat → Bool) (qty : Nat → Nat) (l n : Nat) : v_sum good (v_got good qty l n) n = min l (v_sum good qty n) := by
  obtain ⟨h1, h2, h3⟩ := v_fit good qty l n
  have e : v_sum good (v_got good qty l n) n = v_sum good (v_sh qty l (v_sum good qty n)) n + min (v_sum good (fun _ => 1) n) (min l (v_sum good qty n) - v_sum good (v_sh qty l (v_sum good qty n)) n) := by
    rw [← v_extra, ← v_add]
    rfl
  rw [e]
  by_cases h : l < v_sum good qty n
  · have := h2 h
    omega
  · have := h3 h
    omega
theorem v_got_le (good : Nat → Bool) (qty : Nat → Nat) (l n d : Nat) (hq : 1 ≤ qty d) : v_got good qty l n d ≤ qty d := by
  obtain ⟨h1, h2, h3⟩ := v_fit good qty l n
  unfold v_got
  by_cases h : l < v_sum good qty n
  · have e : v_sh qty l (v_sum good qty n) d < qty d := by
      unfold v_sh
      rw [if_pos h]
      exact (Nat.div_lt_iff_lt_mul (by omega)).mpr (Nat.mul_lt_mul_of_pos_left h hq)
    split <;> omega
  · have e : v_sh qty l (v_sum good qty n) d = qty d := if_neg h
    have := h3 h
    rw [e, if_neg (by omega)]
    omega
theorem z_subN {a b : Nat} (h : b ≤ a) : nN a - nN b = nN (a - b) := (Int32.ofNat_sub a b h).symm
theorem z_mulN (a b : Nat) : nN a * nN b = nN (a * b) := (Int32.ofNat_mul a b).symm
theorem z_divN {a b : Nat} (ha : a < 2147483648) (hb : b < 2147483648) : nN a / nN b = nN (a / b) := (Int32.ofNat_div ha hb).symm
theorem z_addN (a b : Nat) : nN a + nN b = nN (a + b) := (Int32.ofNat_add a b).symm
theorem z_sh {qty : Nat → Nat} {l all d : Nat} (hl : l ≤ 9999) (hq : qty d ≤ 999) (ha : all < 2147483648) (h : l < all) : nN (qty d) * nN l / nN all = nN (v_sh qty l all d) := by
  have : qty d * l ≤ 999 * 9999 := Nat.mul_le_mul hq hl
  unfold v_sh
  rw [z_mulN, z_divN (by omega) ha, if_pos h]
/-! THE REFERENCE SERVES -/
def s_con (g : z_Ro) (q d : Nat) : Bool := decide (g (208 + 16 * d + 7) = 0) && decide (g (208 + 16 * d + 5) = nN q)
def s_good (g : z_Ro) (q d : Nat) : Bool := s_con g q d && decide (s_claims g d q (g (138 + 9 * q + 6)) = 0)
def s_qty (g : z_Ro) (d : Nat) : Nat := (g (208 + 16 * d + 1)).toNatClampNeg
theorem m_good {nh np ns nq nd d q : Nat} {f4 f7 f10 f23 : z_Ro} {w : mg_Rg} (HH : tH nh f4 (w 43)) (HP : tP np f7 (w 43)) (HS : tS ns f10 (w 43)) (HQ : tQ nq f23 (w 43)) (hnd : nd ≤ 30) (hdw : ∀ d < nd, z_dw nh nq (w 43) d) (hd : d < nd) (hq : q < nq) : M_isGood (nN d) (nN q) w = some (if s_good (w 43) q d = true then 1 else 0) := by
  have hQ6 := HQ.1
  unfold M_isGood s_good s_con
  rw [mdeclAt_7 (by omega), mdeclAt_5 (by omega), mquotaAt_6 (by omega)]
  simp only [Option.bind_some]
  by_cases h1 : w 43 (208 + 16 * d + 7) = 0
  · rw [if_pos h1, decide_eq_true h1]
    by_cases h2 : w 43 (208 + 16 * d + 5) = nN q
    · rw [if_pos h2, decide_eq_true h2, m_claims HH HP HS (by omega) (hdw d hd).1 (by omega) (HQ.2.2.2.2 q hq).1 h2]
      simp only [Option.bind_some]
      by_cases h3 : s_claims (w 43) d q (w 43 (138 + 9 * q + 6)) = 0
      · rw [if_pos h3, decide_eq_true h3]
        rfl
      · rw [if_neg h3, decide_eq_false h3]
        rfl
    · rw [if_neg h2, decide_eq_false h2]
      rfl
  · rw [if_neg h1, decide_eq_false h1]
    rfl
theorem ms_13 {q nd : Nat} {x2 : Int32} {good : Nat → Bool} {qty : Nat → Nat} {w : mg_Rg} (hnd : nd ≤ 30) (h5 : w 43 5 = nN nd) (hg : ∀ d < nd, M_isGood (nN d) (nN q) w = some (if good d = true then 1 else 0)) (hq : ∀ d < nd, w 43 (208 + 16 * d + 1) = nN (qty d)) :
    ∀ r m k, k + r = nd → r < m → M_serves_L13 m (nN q) x2 (nN (v_sum good qty k)) (nN k) w = some (nN (v_sum good qty nd), w) := by
  intro r
  induction r with
  | zero =>
    intro m k hk hm
    cases m with
    | zero => omega
    | succ m =>
      have e : k = nd := by omega
      subst e
      unfold M_serves_L13
      rw [h5, if_pos ((z_le (by omega) (by omega)).mpr (by omega))]
  | succ r ih =>
    intro m k hk hm
    cases m with
    | zero => omega
    | succ m =>
      have i1 := ih m (k + 1) (by omega) (by omega)
      have e : v_sum good qty (k + 1) = v_sum good qty k + if good k = true then qty k else 0 := rfl
      unfold M_serves_L13
      rw [h5, if_neg (z_nle (by omega) (by omega) (by omega)), hg k (by omega), mdeclAt_1 (by omega), hq k (by omega)]
      simp only [Option.bind_some, z_bz, zo_1, Int32.add_zero]
      cases hgk : good k with
      | false =>
        rw [hgk] at e
        rw [if_pos (rfl : false = false), ← i1, e]
        rfl
      | true =>
        rw [hgk] at e
        rw [if_neg z_tf, z_addN, ← i1, e]
        rfl
theorem z_g30 {α : Type} {k : Nat} {x y : α} (h : k < 30) : (if nN k < 0 ∨ 30 ≤ (nN k).toNatClampNeg then x else y) = y := by
  rw [if_neg]
  rw [z_nat (by omega)]
  exact fun q => q.elim (z_nn (by omega)) (by omega)
theorem ms_60 {q nd l : Nat} {g : z_Ro} {good : Nat → Bool} {qty : Nat → Nat} (hnd : nd ≤ 30) (hl : l ≤ 9999) (h5 : g 5 = nN nd) (hg : ∀ d < nd, ∀ w : mg_Rg, w 43 = g → M_isGood (nN d) (nN q) w = some (if good d = true then 1 else 0)) (hq : ∀ d < nd, g (208 + 16 * d + 1) = nN (qty d) ∧ qty d ≤ 999) (hall : v_sum good qty nd < 2147483648) :
    ∀ r m k, ∀ w : mg_Rg, w 43 = g → k + r = nd → r < m → ∃ w', M_serves_L60 m (nN q) (nN l) (nN (v_sum good qty nd)) (nN (l - v_sum good (v_sh qty l (v_sum good qty nd)) k)) (nN k) w = some (nN (l - v_sum good (v_sh qty l (v_sum good qty nd)) nd), w') ∧ (∀ j, j ≠ 48 → w' j = w j) ∧ ∀ d, w' 48 d = if k ≤ d ∧ d < nd ∧ good d = true then nN (v_sh qty l (v_sum good qty nd) d) else w 48 d := by
  obtain ⟨hfit, -, -⟩ := v_fit good qty l nd
  intro r
  induction r with
  | zero =>
    intro m k w hw hk hm
    cases m with
    | zero => omega
    | succ m =>
      have e : k = nd := by omega
      subst e
      refine ⟨w, ?_, fun _ _ => rfl, fun d => by rw [if_neg (by omega)]⟩
      unfold M_serves_L60
      rw [hw, h5, if_pos ((z_le (by omega) (by omega)).mpr (by omega))]
  | succ r ih =>
    intro m k w hw hk hm
    cases m with
    | zero => omega
    | succ m =>
      have e : v_sum good (v_sh qty l (v_sum good qty nd)) (k + 1) = v_sum good (v_sh qty l (v_sum good qty nd)) k + if good k = true then v_sh qty l (v_sum good qty nd) k else 0 := rfl
      have hm1 := v_mono good (v_sh qty l (v_sum good qty nd)) (k := k + 1) (n := nd) (by omega)
      obtain ⟨hqk, hqk9⟩ := hq k (by omega)
      unfold M_serves_L60
      rw [hw, h5, if_neg (z_nle (by omega) (by omega) (by omega)), hg k (by omega) w hw, mdeclAt_1 (by omega), hw, hqk]
      simp only [Option.bind_some, z_bz, zo_1]
      cases hgk : good k with
      | false =>
        obtain ⟨w', a1, a2, a3⟩ := ih m (k + 1) w hw (by omega) (by omega)
        rw [hgk] at e
        rw [if_pos (rfl : false = false)]
        refine ⟨w', ?_, a2, fun d => ?_⟩
        · rw [e] at a1
          exact a1
        · rw [a3 d]
          by_cases hd : d = k
          · subst hd
            rw [if_neg (by omega), if_neg (fun h => by rw [hgk] at h; exact absurd h.2.2 (by decide))]
          · by_cases h2 : k + 1 ≤ d ∧ d < nd ∧ good d = true
            · rw [if_pos h2, if_pos ⟨by omega, h2.2.1, h2.2.2⟩]
            · rw [if_neg h2, if_neg (fun h => h2 ⟨by omega, h.2.1, h.2.2⟩)]
      | true =>
        rw [hgk, if_pos rfl] at e
        rw [if_neg z_tf, z_g30 (by omega), z_g30 (by omega), z_g30 (by omega), z_g30 (by omega), z_nat (by omega)]
        obtain ⟨w', a1, a2, a3⟩ := ih m (k + 1) (mg_up w 48 k (nN (v_sh qty l (v_sum good qty nd) k))) (by rw [z_up_ne (by decide)]; exact hw) (by omega) (by omega)
        rw [show l - v_sum good (v_sh qty l (v_sum good qty nd)) (k + 1) = l - v_sum good (v_sh qty l (v_sum good qty nd)) k - v_sh qty l (v_sum good qty nd) k by omega, ← z_subN (by omega)] at a1
        refine ⟨w', ?_, fun j hj => (a2 j hj).trans (z_up_ne hj), fun d => ?_⟩
        · rw [← a1]
          by_cases hla : l < v_sum good qty nd
          · rw [if_pos ((z_lt (by omega) (by omega)).mpr hla), if_neg (z_eq0 (by omega) (by omega)), z_sh hl hqk9 hall hla, zu_eq]
          · rw [if_neg (fun h => hla ((z_lt (by omega) (by omega)).mp h)), zu_eq, show v_sh qty l (v_sum good qty nd) k = qty k from if_neg hla]
        · rw [a3 d]
          by_cases hd : d = k
          · subst hd
            rw [if_neg (by omega), if_pos ⟨by omega, by omega, hgk⟩, zu_eq]
          · rw [zu_ne hd]
            by_cases h2 : k + 1 ≤ d ∧ d < nd ∧ good d = true
            · rw [if_pos h2, if_pos ⟨by omega, h2.2.1, h2.2.2⟩]
            · rw [if_neg h2, if_neg (fun h => h2 ⟨by omega, h.2.1, h.2.2⟩)]
theorem ms_135 {q nd l all r0 : Nat} {g : z_Ro} {good : Nat → Bool} (hnd : nd ≤ 30) (hl : l < 2147483648) (hall : all < 2147483648) (hla : l < all) (hr0 : r0 < 2147483648) (h5 : g 5 = nN nd) (hg : ∀ d < nd, ∀ w : mg_Rg, w 43 = g → M_isGood (nN d) (nN q) w = some (if good d = true then 1 else 0)) :
    ∀ r m k, ∀ w : mg_Rg, w 43 = g → k + r = nd → r < m → ∃ w', M_serves_L135 m (nN q) (nN l) (nN all) (nN (r0 - v_sum good (fun _ => 1) k)) (nN k) w = some (nN (r0 - v_sum good (fun _ => 1) nd), w') ∧ (∀ j, j ≠ 48 → w' j = w j) ∧ ∀ d, w' 48 d = if k ≤ d ∧ d < nd ∧ good d = true ∧ v_sum good (fun _ => 1) d < r0 then w 48 d + 1 else w 48 d := by
  intro r
  induction r with
  | zero =>
    intro m k w hw hk hm
    cases m with
    | zero => omega
    | succ m =>
      have e : k = nd := by omega
      subst e
      refine ⟨w, ?_, fun _ _ => rfl, fun d => by rw [if_neg (by omega)]⟩
      unfold M_serves_L135
      rw [hw, h5, if_pos ((z_le (by omega) (by omega)).mpr (by omega))]
  | succ r ih =>
    intro m k w hw hk hm
    cases m with
    | zero => omega
    | succ m =>
      have e : v_sum good (fun _ => 1) (k + 1) = v_sum good (fun _ => 1) k + if good k = true then 1 else 0 := rfl
      unfold M_serves_L135
      rw [hw, h5, if_neg (z_nle (by omega) (by omega) (by omega)), if_neg (z_nle (by omega) (by omega) (by omega)), hg k (by omega) w hw]
      simp only [Option.bind_some, z_bz, zo_1]
      cases hgk : good k with
      | false =>
        obtain ⟨w', a1, a2, a3⟩ := ih m (k + 1) w hw (by omega) (by omega)
        rw [hgk] at e
        rw [if_pos (rfl : false = false)]
        refine ⟨w', ?_, a2, fun d => ?_⟩
        · rw [e] at a1
          exact a1
        · rw [a3 d]
          by_cases hd : d = k
          · subst hd
            rw [if_neg (by omega), if_neg (fun h => by rw [hgk] at h; exact absurd h.2.2.1 (by decide))]
          · by_cases h2 : k + 1 ≤ d ∧ d < nd ∧ good d = true ∧ v_sum good (fun _ => 1) d < r0
            · rw [if_pos h2, if_pos ⟨by omega, h2.2.1, h2.2.2⟩]
            · rw [if_neg h2, if_neg (fun h => h2 ⟨by omega, h.2.1, h.2.2⟩)]
      | true =>
        rw [hgk, if_pos rfl] at e
        rw [if_neg z_tf]
        by_cases hz : r0 ≤ v_sum good (fun _ => 1) k
        · obtain ⟨w', a1, a2, a3⟩ := ih m (k + 1) w hw (by omega) (by omega)
          rw [if_pos (z_le0 (by omega))]
          refine ⟨w', ?_, a2, fun d => ?_⟩
          · rw [show r0 - v_sum good (fun _ => 1) k = r0 - v_sum good (fun _ => 1) (k + 1) by omega]
            exact a1
          · rw [a3 d]
            by_cases hd : d = k
            · subst hd
              rw [if_neg (by omega), if_neg (by omega)]
            · by_cases h2 : k + 1 ≤ d ∧ d < nd ∧ good d = true ∧ v_sum good (fun _ => 1) d < r0
              · rw [if_pos h2, if_pos ⟨by omega, h2.2.1, h2.2.2⟩]
              · rw [if_neg h2, if_neg (fun h => h2 ⟨by omega, h.2.1, h.2.2⟩)]
        · obtain ⟨w', a1, a2, a3⟩ := ih m (k + 1) (mg_up w 48 k (w 48 k + 1)) (by rw [z_up_ne (by decide)]; exact hw) (by omega) (by omega)
          rw [if_neg (z_nle0 (by omega) (by omega)), z_g30 (by omega), z_g30 (by omega), z_nat (by omega)]
          have em : nN (r0 - v_sum good (fun _ => 1) k) + (-1) = nN (r0 - v_sum good (fun _ => 1) (k + 1)) := by
            rw [show r0 - v_sum good (fun _ => 1) k = (r0 - v_sum good (fun _ => 1) (k + 1)) + 1 by omega]
            exact z_subm1 _
          rw [em]
          refine ⟨w', a1, fun j hj => (a2 j hj).trans (z_up_ne hj), fun d => ?_⟩
          rw [a3 d]
          by_cases hd : d = k
          · subst hd
            rw [if_neg (by omega), if_pos ⟨by omega, by omega, hgk, by omega⟩, zu_eq]
          · rw [zu_ne hd]
            by_cases h2 : k + 1 ≤ d ∧ d < nd ∧ good d = true ∧ v_sum good (fun _ => 1) d < r0
            · rw [if_pos h2, if_pos ⟨by omega, h2.2.1, h2.2.2⟩]
            · rw [if_neg h2, if_neg (fun h => h2 ⟨by omega, h.2.1, h.2.2⟩)]
/-- the whole of it -/
theorem m_serves {q nd l : Nat} {good : Nat → Bool} {qty : Nat → Nat} {w : mg_Rg} (hq6 : q < 6) (hnd : nd ≤ 30) (hl : l ≤ 9999) (h5 : w 43 5 = nN nd) (hlw : w 43 (138 + 9 * q + 6) = nN l) (hg : ∀ d < nd, ∀ w' : mg_Rg, w' 43 = w 43 → M_isGood (nN d) (nN q) w' = some (if good d = true then 1 else 0)) (hq : ∀ d < nd, w 43 (208 + 16 * d + 1) = nN (qty d) ∧ qty d ≤ 999) :
    ∃ w', M_serves (nN q) w = some (nN (l - min l (v_sum good qty nd)), w') ∧ (∀ j, j ≠ 48 → w' j = w j) ∧ ∀ d, w' 48 d = if d < nd ∧ good d = true then nN (v_got good qty l nd d) else w 48 d := by
  have hall : v_sum good qty nd ≤ 999 * nd := v_le good qty 999 nd (fun d hd => (hq d hd).2)
  have h999 : 999 * nd ≤ 29970 := by omega
  obtain ⟨f1, f2, f3⟩ := v_fit good qty l nd
  obtain ⟨w1, a1, a2, a3⟩ := ms_60 (q := q) hnd hl h5 hg hq (by omega) nd mg_F 0 w rfl (by omega) (by show nd < 6000; omega)
  have s13 := ms_13 (q := q) (x2 := nN l) hnd h5 (fun d hd => hg d hd w rfl) (fun d hd => (hq d hd).1) nd mg_F 0 (by omega) (by show nd < 6000; omega)
  have e43 : w1 43 = w 43 := a2 43 (by decide)
  by_cases hla : l < v_sum good qty nd
  · obtain ⟨w2, b1, b2, b3⟩ := ms_135 (q := q) (l := l) (all := v_sum good qty nd) (r0 := l - v_sum good (v_sh qty l (v_sum good qty nd)) nd) hnd (by omega) (by omega) hla (by omega) h5 hg nd mg_F 0 w1 e43 (by omega) (by show nd < 6000; omega)
    refine ⟨w2, ?_, fun j hj => (b2 j hj).trans (a2 j hj), fun d => ?_⟩
    · unfold M_serves
      rw [mquotaAt_6 hq6, hlw]
      simp only [Option.bind_some]
      rw [show M_serves_L13 mg_F (nN q) (nN l) 0 0 w = _ from s13]
      simp only [Option.bind_some]
      rw [show M_serves_L60 mg_F (nN q) (nN l) (nN (v_sum good qty nd)) (nN l) 0 w = _ from a1]
      simp only [Option.bind_some]
      rw [show M_serves_L135 mg_F (nN q) (nN l) (nN (v_sum good qty nd)) (nN (l - v_sum good (v_sh qty l (v_sum good qty nd)) nd)) 0 w1 = _ from b1]
      have := f2 hla
      rw [show l - v_sum good (v_sh qty l (v_sum good qty nd)) nd - v_sum good (fun _ => 1) nd = l - min l (v_sum good qty nd) by omega]
      rfl
    · rw [b3 d, a3 d]
      unfold v_got
      by_cases h2 : d < nd ∧ good d = true
      · rw [if_pos (show 0 ≤ d ∧ d < nd ∧ good d = true from ⟨by omega, h2.1, h2.2⟩), if_pos h2, show min l (v_sum good qty nd) = l by omega]
        by_cases h3 : v_sum good (fun _ => 1) d < l - v_sum good (v_sh qty l (v_sum good qty nd)) nd
        · rw [if_pos ⟨by omega, h2.1, h2.2, h3⟩, if_pos h3]
          exact zo_1 _
        · rw [if_neg (fun h => h3 h.2.2.2), if_neg h3]
          rfl
      · rw [if_neg (fun h => h2 ⟨h.2.1, h.2.2.1⟩), if_neg (fun h => h2 ⟨h.2.1, h.2.2⟩), if_neg h2]
  · refine ⟨w1, ?_, a2, fun d => ?_⟩
    · unfold M_serves
      rw [mquotaAt_6 hq6, hlw]
      simp only [Option.bind_some]
      rw [show M_serves_L13 mg_F (nN q) (nN l) 0 0 w = _ from s13]
      simp only [Option.bind_some]
      rw [show M_serves_L60 mg_F (nN q) (nN l) (nN (v_sum good qty nd)) (nN l) 0 w = _ from a1]
      simp only [Option.bind_some]
      have hs : M_serves_L135 mg_F (nN q) (nN l) (nN (v_sum good qty nd)) (nN (l - v_sum good (v_sh qty l (v_sum good qty nd)) nd)) 0 w1 = some (nN (l - v_sum good (v_sh qty l (v_sum good qty nd)) nd), w1) := by
        show M_serves_L135 (5999 + 1) _ _ _ _ _ _ = _
        unfold M_serves_L135
        rw [if_pos (show nN (v_sum good qty nd) ≤ nN l from (z_le (by omega) (by omega)).mpr (by omega))]
        split <;> rfl
      rw [hs]
      have := f3 hla
      rw [show l - v_sum good (v_sh qty l (v_sum good qty nd)) nd = l - min l (v_sum good qty nd) by omega]
      rfl
    · rw [a3 d]
      unfold v_got
      by_cases h2 : d < nd ∧ good d = true
      · have := f3 hla
        rw [if_pos (show 0 ≤ d ∧ d < nd ∧ good d = true from ⟨by omega, h2.1, h2.2⟩), if_pos h2, if_neg (by omega)]
        rfl
      · rw [if_neg (fun h => h2 ⟨h.2.1, h.2.2⟩), if_neg h2]
