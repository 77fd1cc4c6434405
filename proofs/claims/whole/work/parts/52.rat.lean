/-! RATES OF GOODS -/
def s_meets (g : z_Ro) (pr need v : Int32) : Bool := decide (need = 0) || decide (pr = 1) || (decide (pr = 2) && decide (need = 2) && !decide (g 12 < v))
def s_for (g : z_Ro) (p : Nat) (x c : Int32) : Bool := s_under g x (g (80 + 4 * p)) && decide (g (80 + 4 * p + 1) = c)
def s_insus (g : z_Ro) (x day : Int32) (s : Nat) : Bool := s_under g x (g (120 + 3 * s)) && !(decide (day < g (120 + 3 * s + 1)) || decide (g (120 + 3 * s + 2) < day))
def s_susp (g : z_Ro) (x day : Int32) : Bool := s_or (s_insus g x day) (g 3).toNatClampNeg 0
def s_pstep (g : z_Ro) (x c v pr : Int32) (p : Nat) (a : Int32) : Int32 := if (s_for g p x c && s_meets g pr (g (80 + 4 * p + 3)) v) = true then (if g (80 + 4 * p + 2) < a then g (80 + 4 * p + 2) else a) else a
def s_pref (g : z_Ro) (x c v pr : Int32) : Int32 := s_fold (s_pstep g x c v pr) (g 2).toNatClampNeg 0 1001
def s_gr (g : z_Ro) (x c v pr day : Int32) : Int32 := if s_susp g x day = true then 0 else if s_pref g x c v pr < s_rate g x then s_pref g x c v pr else s_rate g x
def s_gf (g : z_Ro) (r x c v pr : Int32) : Int32 := if s_rate g x = r then 0 else if s_pref g x c v pr = r then 1 else 2
def s_mstep (g : z_Ro) (x c v pr : Int32) (p : Nat) (a : Int32 × Int32) : Int32 × Int32 := if (s_for g p x c && !s_meets g pr (g (80 + 4 * p + 3)) v && decide (g (80 + 4 * p + 2) < a.2)) = true then (nN p, g (80 + 4 * p + 2)) else a
def s_miss (g : z_Ro) (x c v pr day : Int32) : Int32 := (s_fold (s_mstep g x c v pr) (g 2).toNatClampNeg 0 (-1, s_gr g x c v pr day)).1
theorem z_tf : ¬ (true = false) := by decide
theorem z_ft : ¬ (false = true) := by decide
theorem m_meets (pr need v : Int32) (u : mg_Rg) : M_meets pr need v u = some (if s_meets (u 43) pr need v = true then 1 else 0) := by
  unfold M_meets s_meets
  by_cases h1 : need = 0
  · rw [if_pos h1, decide_eq_true h1]
    rfl
  rw [if_neg h1, decide_eq_false h1]
  by_cases h2 : pr = 1
  · rw [if_pos h2, decide_eq_true h2]
    rfl
  rw [if_neg h2, decide_eq_false h2]
  by_cases h3 : pr = 2
  · rw [if_pos h3, decide_eq_true h3]
    by_cases h4 : need = 2
    · rw [if_pos h4, decide_eq_true h4]
      by_cases h5 : u 43 12 < v
      · rw [if_pos h5, decide_eq_true h5]
        rfl
      · rw [if_neg h5, decide_eq_false h5]
        rfl
    · rw [if_neg h4, decide_eq_false h4]
      rfl
  · rw [if_neg h3, decide_eq_false h3]
    rfl
theorem c_meets {np p : Nat} {g : z_Ro} {u : mg_Rg} (HP : tP np (u 7) g) (HT : tT (u 13) g) (hp : p < np) : Tf_meetsNeed_28 (nN p) u = some (if s_meets g (u 28 3) (g (80 + 4 * p + 3)) (u 28 2) = true then 1 else 0) := by
  have e12 : T_get_12 2 0 u = some (g 12) := (rg_12_2 u).trans (congrArg some (HT 2 (by omega)))
  unfold Tf_meetsNeed_28 s_meets
  rw [cP_3 HP hp, e12]
  simp only [Option.bind_some]
  by_cases h1 : g (80 + 4 * p + 3) = 0
  · rw [if_pos h1, decide_eq_true h1]
    rfl
  rw [if_neg h1, decide_eq_false h1]
  by_cases h2 : u 28 3 = 1
  · rw [if_pos h2, decide_eq_true h2]
    rfl
  rw [if_neg h2, decide_eq_false h2]
  by_cases h3 : u 28 3 = 2
  · rw [if_pos h3, decide_eq_true h3]
    by_cases h4 : g (80 + 4 * p + 3) = 2
    · rw [if_pos h4, decide_eq_true h4]
      by_cases h5 : g 12 < u 28 2
      · rw [if_pos h5, decide_eq_true h5]
        rfl
      · rw [if_neg h5, decide_eq_false h5]
        rfl
    · rw [if_neg h4, decide_eq_false h4]
      rfl
  · rw [if_neg h3, decide_eq_false h3]
    by_cases h4 : g (80 + 4 * p + 3) = 2
    · rw [if_pos h4]
      rfl
    · rw [if_neg h4]
      rfl
theorem m_for {np nh p x : Nat} {f f2 : z_Ro} {u : mg_Rg} (HH : tH nh f (u 43)) (HP : tP np f2 (u 43)) (hp : p < np) (hx : x < nh) (c : Int32) : M_isFor (nN p) (nN x) c u = some (if s_for (u 43) p (nN x) c = true then 1 else 0) := by
  have h10 := HP.1
  obtain ⟨q, hq, e⟩ := HP.2.2.2.2 p hp
  unfold M_isFor s_for
  rw [zb_80, zo_1, zg (by omega), zg (by omega), z_nat (by omega), z_nat (by omega), m_under HH hx (by rw [e]; exact z_ne1 (by omega))]
  simp only [Option.bind_some]
  cases s_under (u 43) (nN x) (u 43 (80 + 4 * p)) with
  | false => rfl
  | true =>
    by_cases h : u 43 (80 + 4 * p + 1) = c
    · rw [if_pos h, decide_eq_true h]
      rfl
    · rw [if_neg h, decide_eq_false h]
      rfl
theorem z_or0 (b : Bool) : ((if b = true then (1 : Int32) else 0) ||| 0) = if b = true then (1 : Int32) else 0 := by cases b <;> rfl
theorem z_or1 (b : Bool) : ((if b = true then (1 : Int32) else 0) ||| 1) = 1 := by cases b <;> rfl
theorem z_win_b {a lo hi : Int32} {u : mg_Rg} : C_isWithin a lo hi u = some (if (!(decide (a < lo) || decide (hi < a))) = true then 1 else 0) := by
  rw [z_win]
  by_cases h1 : a < lo
  · rw [if_pos (Or.inl h1), decide_eq_true h1]
    rfl
  · by_cases h2 : hi < a
    · rw [if_pos (Or.inr h2), decide_eq_true h2, decide_eq_false h1]
      rfl
    · rw [if_neg (fun q => q.elim h1 h2), decide_eq_false h1, decide_eq_false h2]
      rfl
theorem z_min_b {a lo hi : Int32} {u : mg_Rg} : M_in a lo hi u = some (if (!(decide (a < lo) || decide (hi < a))) = true then 1 else 0) := by
  rw [z_min, ← z_win (u := u), z_win_b]
theorem c_susp {nh ns x : Nat} {g : z_Ro} {u : mg_Rg} (HH : tH nh (u 4) g) (HS : tS ns (u 10) g) (hx : x < nh) (e0 : u 28 0 = nN x) : Tf_isSuspended_28 u = some (if s_susp g (nN x) (u 28 4) = true then 1 else 0) := by
  have hN := HS.1
  have h1 : T_count_9 u = some (nN ns) := by rw [← HS.2.1]; rfl
  have hl : ∀ r n k, k + r = ns → r < n → ∃ q, Tf_isSuspended_28_L2 n (nN k) u = some q ∧ q.elim (fun _ => (0 : Int32)) id = if s_or (s_insus g (nN x) (u 28 4)) r k = true then 1 else 0 := by
    intro r
    induction r with
    | zero =>
      intro n k hk hn
      cases n with
      | zero => omega
      | succ n =>
        unfold Tf_isSuspended_28_L2
        rw [h1]
        simp only [Option.bind_some]
        rw [if_pos ((z_le (by omega) (by omega)).mpr (by omega))]
        exact ⟨_, rfl, rfl⟩
    | succ r ih =>
      intro n k hk hn
      cases n with
      | zero => omega
      | succ n =>
        have i1 := ih n (k + 1) (by omega) (by omega)
        unfold Tf_isSuspended_28_L2 s_or
        rw [h1]
        simp only [Option.bind_some]
        rw [if_neg (z_nle (by omega) (by omega) (by omega)), cS_1 HS (by omega), cS_2 HS (by omega), cS_0 HS (by omega), e0]
        simp only [Option.bind_some, z_win_b, zo_1, z_bz, c_under HH hx]
        unfold s_insus at i1 ⊢
        cases (!(decide (u 28 4 < g (120 + 3 * k + 1)) || decide (g (120 + 3 * k + 2) < u 28 4))) with
        | false =>
          rw [if_pos rfl, Bool.and_false, Bool.false_or]
          exact i1
        | true =>
          rw [if_neg (by decide), Bool.and_true]
          cases s_under g (nN x) (g (120 + 3 * k)) with
          | false =>
            rw [if_pos rfl, Bool.false_or]
            exact i1
          | true =>
            rw [if_neg (by decide)]
            exact ⟨_, rfl, rfl⟩
  obtain ⟨q, h3, h4⟩ := hl ns mg_F 0 (by omega) (by show ns < 6000; omega)
  unfold Tf_isSuspended_28 s_susp
  rw [HS.2.2.1, z_nat (by omega), show Tf_isSuspended_28_L2 mg_F 0 u = _ from h3, ← h4]
  cases q <;> rfl
theorem m_susp {nh ns x : Nat} {f f2 : z_Ro} {u : mg_Rg} (HH : tH nh f (u 43)) (HS : tS ns f2 (u 43)) (hx : x < nh) (day : Int32) : M_isSuspended (nN x) day u = some (if s_susp (u 43) (nN x) day = true then 1 else 0) := by
  have hN := HS.1
  have h0 := HS.2.2.1
  have hl : ∀ r n k (b : Bool), k + r = ns → r < n → M_isSuspended_L5 n (nN x) day (if b = true then 1 else 0) (nN k) u = some (if (b || s_or (s_insus (u 43) (nN x) day) r k) = true then 1 else 0) := by
    intro r
    induction r with
    | zero =>
      intro n k b hk hn
      cases n with
      | zero => omega
      | succ n =>
        unfold M_isSuspended_L5
        rw [h0, if_pos ((z_le (by omega) (by omega)).mpr (by omega))]
        cases b <;> rfl
    | succ r ih =>
      intro n k b hk hn
      cases n with
      | zero => omega
      | succ n =>
        obtain ⟨p, hp, ep⟩ := HS.2.2.2.2 k (by omega)
        have i1 := ih n (k + 1) b (by omega) (by omega)
        have i2 := ih n (k + 1) true (by omega) (by omega)
        rw [if_pos rfl] at i2
        unfold M_isSuspended_L5 s_or
        rw [h0, if_neg (z_nle (by omega) (by omega) (by omega)), zb_120, zo_1, zo_2, zo_1, zg (by omega), zg (by omega), zg (by omega), z_nat (by omega), z_nat (by omega), z_nat (by omega), m_under HH hx (by rw [ep]; exact z_ne1 (by omega))]
        simp only [Option.bind_some, z_min_b, z_bz, z_or0, z_or1]
        unfold s_insus at i1 i2 ⊢
        cases s_under (u 43) (nN x) (u 43 (120 + 3 * k)) with
        | false =>
          rw [if_pos rfl, Bool.false_and, Bool.false_or]
          exact i1
        | true =>
          rw [if_neg (by decide), Bool.true_and]
          cases (!(decide (day < u 43 (120 + 3 * k + 1)) || decide (u 43 (120 + 3 * k + 2) < day))) with
          | false =>
            rw [if_pos rfl, Bool.false_or]
            exact i1
          | true =>
            rw [if_neg (by decide), Bool.true_or, Bool.or_true]
            rw [Bool.true_or] at i2
            exact i2
  have h3 := hl ns mg_F 0 false (by omega) (by show ns < 6000; omega)
  unfold M_isSuspended s_susp
  rw [h0, z_nat (by omega), show M_isSuspended_L5 mg_F (nN x) day 0 0 u = _ from h3, Bool.false_or]
  cases s_or (s_insus (u 43) (nN x) day) ns 0 <;> rfl
theorem c_pref {nh np x : Nat} {g : z_Ro} {u : mg_Rg} (HH : tH nh (u 4) g) (HP : tP np (u 7) g) (HT : tT (u 13) g) (hx : x < nh) (e0 : u 28 0 = nN x) : Tf_preferredRate_28 u = some (s_pref g (nN x) (u 28 1) (u 28 2) (u 28 3)) := by
  have hN := HP.1
  have h1 : T_count_6 u = some (nN np) := by rw [← HP.2.1]; rfl
  have hl : ∀ r n k a, k + r = np → r < n → Tf_preferredRate_28_L6 n a (nN k) u = some (s_fold (s_pstep g (nN x) (u 28 1) (u 28 2) (u 28 3)) r k a) := by
    intro r
    induction r with
    | zero =>
      intro n k a hk hn
      cases n with
      | zero => omega
      | succ n =>
        unfold Tf_preferredRate_28_L6
        rw [h1]
        simp only [Option.bind_some]
        rw [if_pos ((z_le (by omega) (by omega)).mpr (by omega))]
        rfl
    | succ r ih =>
      intro n k a hk hn
      cases n with
      | zero => omega
      | succ n =>
        unfold Tf_preferredRate_28_L6 s_fold
        rw [h1]
        simp only [Option.bind_some]
        rw [if_neg (z_nle (by omega) (by omega) (by omega)), cP_1 HP (by omega), cP_0 HP (by omega), cP_2 HP (by omega), c_meets HP HT (by omega), e0]
        simp only [Option.bind_some, zo_1, z_bz, c_under HH hx]
        rw [ih n (k + 1) a (by omega) (by omega), ih n (k + 1) _ (by omega) (by omega)]
        by_cases h2 : g (80 + 4 * k + 1) = u 28 1
        · rw [if_pos h2]
          cases h3 : s_under g (nN x) (g (80 + 4 * k)) with
          | false =>
            rw [if_pos (rfl : false = false), show s_pstep g (nN x) (u 28 1) (u 28 2) (u 28 3) k a = a by unfold s_pstep s_for; rw [h3]; rfl]
          | true =>
            rw [if_neg z_tf]
            cases h4 : s_meets g (u 28 3) (g (80 + 4 * k + 3)) (u 28 2) with
            | false =>
              rw [if_pos (rfl : false = false), show s_pstep g (nN x) (u 28 1) (u 28 2) (u 28 3) k a = a by unfold s_pstep s_for; rw [h3, h4, decide_eq_true h2]; rfl]
            | true =>
              rw [if_neg z_tf, show s_pstep g (nN x) (u 28 1) (u 28 2) (u 28 3) k a = (if g (80 + 4 * k + 2) < a then g (80 + 4 * k + 2) else a) by unfold s_pstep s_for; rw [h3, h4, decide_eq_true h2]; rfl]
        · rw [if_neg h2, show s_pstep g (nN x) (u 28 1) (u 28 2) (u 28 3) k a = a by unfold s_pstep s_for; rw [decide_eq_false h2, Bool.and_false]; rfl]
  unfold Tf_preferredRate_28 s_pref
  rw [HP.2.2.1, z_nat (by omega), show Tf_preferredRate_28_L6 mg_F 1001 0 u = _ from hl np mg_F 0 1001 (by omega) (by show np < 6000; omega)]
  rfl
theorem m_pref {nh np x : Nat} {f f2 : z_Ro} {u : mg_Rg} (HH : tH nh f (u 43)) (HP : tP np f2 (u 43)) (hx : x < nh) (c v pr : Int32) : M_preferred (nN x) c v pr u = some (s_pref (u 43) (nN x) c v pr) := by
  have hN := HP.1
  have h0 := HP.2.2.1
  have hl : ∀ r n k a, k + r = np → r < n → M_preferred_L8 n (nN x) c v pr a (nN k) u = some (s_fold (s_pstep (u 43) (nN x) c v pr) r k a) := by
    intro r
    induction r with
    | zero =>
      intro n k a hk hn
      cases n with
      | zero => omega
      | succ n =>
        unfold M_preferred_L8
        rw [h0, if_pos ((z_le (by omega) (by omega)).mpr (by omega))]
        rfl
    | succ r ih =>
      intro n k a hk hn
      cases n with
      | zero => omega
      | succ n =>
        unfold M_preferred_L8 s_fold
        rw [h0, if_neg (z_nle (by omega) (by omega) (by omega)), m_for HH HP (by omega) hx, zb_80, zo_3, zo_2, zo_1]
        simp only [Option.bind_some, m_meets, z_bz]
        rw [zg (by omega), zg (by omega), zg (by omega), z_nat (by omega), z_nat (by omega), ih n (k + 1) a (by omega) (by omega), ih n (k + 1) _ (by omega) (by omega)]
        cases h3 : s_for (u 43) k (nN x) c with
        | false =>
          rw [if_pos (rfl : false = false), show s_pstep (u 43) (nN x) c v pr k a = a by unfold s_pstep; rw [h3]; rfl]
        | true =>
          rw [if_neg z_tf]
          cases h4 : s_meets (u 43) pr (u 43 (80 + 4 * k + 3)) v with
          | false =>
            rw [if_pos (rfl : false = false), show s_pstep (u 43) (nN x) c v pr k a = a by unfold s_pstep; rw [h3, h4]; rfl]
          | true =>
            rw [if_neg z_tf, show s_pstep (u 43) (nN x) c v pr k a = (if u 43 (80 + 4 * k + 2) < a then u 43 (80 + 4 * k + 2) else a) by unfold s_pstep; rw [h3, h4]; rfl]
            by_cases h2 : u 43 (80 + 4 * k + 2) < a
            · rw [if_neg (Int32.not_le.mpr h2), if_pos h2]
            · rw [if_pos (Int32.not_lt.mp h2), if_neg h2]
  unfold M_preferred s_pref
  rw [h0, z_nat (by omega), show M_preferred_L8 mg_F (nN x) c v pr 1001 0 u = _ from hl np mg_F 0 1001 (by omega) (by show np < 6000; omega)]
  rfl
theorem c_gr {nh np ns x : Nat} {g : z_Ro} {u : mg_Rg} (HH : tH nh (u 4) g) (HP : tP np (u 7) g) (HS : tS ns (u 10) g) (HT : tT (u 13) g) (hx : x < nh) (e0 : u 28 0 = nN x) : Tf_leastRate_28 u = some (s_gr g (nN x) (u 28 1) (u 28 2) (u 28 3) (u 28 4)) := by
  unfold Tf_leastRate_28 s_gr
  rw [c_susp HH HS hx e0, c_pref HH HP HT hx e0, e0, c_rate HH hx]
  simp only [Option.bind_some, z_bz]
  cases s_susp g (nN x) (u 28 4) <;> rfl
theorem m_gr {nh np ns x : Nat} {f f2 f3 : z_Ro} {u : mg_Rg} (HH : tH nh f (u 43)) (HP : tP np f2 (u 43)) (HS : tS ns f3 (u 43)) (hx : x < nh) (c v pr day : Int32) : M_goodsRate (nN x) c v pr day u = some (s_gr (u 43) (nN x) c v pr day) := by
  unfold M_goodsRate s_gr
  rw [m_susp HH HS hx, m_pref HH HP hx, m_rate HH hx]
  simp only [Option.bind_some, z_bz]
  cases s_susp (u 43) (nN x) day with
  | true => rfl
  | false =>
    rw [if_pos (rfl : false = false), if_neg z_ft]
    by_cases h : s_pref (u 43) (nN x) c v pr < s_rate (u 43) (nN x)
    · rw [if_neg (Int32.not_le.mpr h), if_pos h]
    · rw [if_pos (Int32.not_lt.mp h), if_neg h]
theorem c_gf {nh np x : Nat} {g : z_Ro} {u : mg_Rg} (HH : tH nh (u 4) g) (HP : tP np (u 7) g) (HT : tT (u 13) g) (hx : x < nh) (e0 : u 28 0 = nN x) (r : Int32) : Tf_sourceOf_28 r u = some (s_gf g r (nN x) (u 28 1) (u 28 2) (u 28 3)) := by
  unfold Tf_sourceOf_28 s_gf
  rw [c_pref HH HP HT hx e0, e0, c_rate HH hx]
  simp only [Option.bind_some]
  by_cases h1 : s_rate g (nN x) = r
  · rw [if_pos h1, if_pos h1]
  · rw [if_neg h1, if_neg h1]
    by_cases h2 : s_pref g (nN x) (u 28 1) (u 28 2) (u 28 3) = r
    · rw [if_pos h2, if_pos h2]
    · rw [if_neg h2, if_neg h2]
theorem m_gf {nh np ns x : Nat} {f f2 f3 : z_Ro} {u : mg_Rg} (HH : tH nh f (u 43)) (HP : tP np f2 (u 43)) (HS : tS ns f3 (u 43)) (hx : x < nh) (c v pr day : Int32) : M_goodsFrom (nN x) c v pr day u = some (s_gf (u 43) (s_gr (u 43) (nN x) c v pr day) (nN x) c v pr) := by
  unfold M_goodsFrom s_gf
  rw [m_gr HH HP HS hx, m_rate HH hx, m_pref HH HP hx]
  simp only [Option.bind_some]
  by_cases h1 : s_rate (u 43) (nN x) = s_gr (u 43) (nN x) c v pr day
  · rw [if_pos h1, if_pos h1]
  · rw [if_neg h1, if_neg h1]
    by_cases h2 : s_pref (u 43) (nN x) c v pr = s_gr (u 43) (nN x) c v pr day
    · rw [if_pos h2, if_pos h2]
    · rw [if_neg h2, if_neg h2]
theorem c_miss {nh np ns x : Nat} {g : z_Ro} {u : mg_Rg} (HH : tH nh (u 4) g) (HP : tP np (u 7) g) (HS : tS ns (u 10) g) (HT : tT (u 13) g) (hx : x < nh) (e0 : u 28 0 = nN x) : Tf_bestMissed_28 u = some (s_miss g (nN x) (u 28 1) (u 28 2) (u 28 3) (u 28 4)) := by
  have hN := HP.1
  have h1 : T_count_6 u = some (nN np) := by rw [← HP.2.1]; rfl
  have hl : ∀ r n k b l, k + r = np → r < n → Tf_bestMissed_28_L11 n b l (nN k) u = some (s_fold (s_mstep g (nN x) (u 28 1) (u 28 2) (u 28 3)) r k (b, l)).1 := by
    intro r
    induction r with
    | zero =>
      intro n k b l hk hn
      cases n with
      | zero => omega
      | succ n =>
        unfold Tf_bestMissed_28_L11
        rw [h1]
        simp only [Option.bind_some]
        rw [if_pos ((z_le (by omega) (by omega)).mpr (by omega))]
        rfl
    | succ r ih =>
      intro n k b l hk hn
      cases n with
      | zero => omega
      | succ n =>
        unfold Tf_bestMissed_28_L11 s_fold
        rw [h1]
        simp only [Option.bind_some]
        rw [if_neg (z_nle (by omega) (by omega) (by omega)), cP_1 HP (by omega), cP_0 HP (by omega), cP_2 HP (by omega), c_meets HP HT (by omega), e0]
        simp only [Option.bind_some, zo_1, z_bz, c_under HH hx]
        rw [ih n (k + 1) b l (by omega) (by omega), ih n (k + 1) (nN k) _ (by omega) (by omega)]
        by_cases h3 : g (80 + 4 * k + 2) < l
        · rw [if_neg (Int32.not_le.mpr h3)]
          by_cases h2 : g (80 + 4 * k + 1) = u 28 1
          · rw [if_pos h2]
            cases h4 : s_under g (nN x) (g (80 + 4 * k)) with
            | false =>
              rw [if_pos (rfl : false = false), show s_mstep g (nN x) (u 28 1) (u 28 2) (u 28 3) k (b, l) = (b, l) by unfold s_mstep s_for; rw [h4]; rfl]
            | true =>
              rw [if_neg z_tf]
              cases h5 : s_meets g (u 28 3) (g (80 + 4 * k + 3)) (u 28 2) with
              | false =>
                rw [if_pos (rfl : false = false), show s_mstep g (nN x) (u 28 1) (u 28 2) (u 28 3) k (b, l) = (nN k, g (80 + 4 * k + 2)) by unfold s_mstep s_for; rw [h4, h5, decide_eq_true h2, show decide (g (80 + 4 * k + 2) < (b, l).2) = true from decide_eq_true h3]; rfl]
              | true =>
                rw [if_neg z_tf, show s_mstep g (nN x) (u 28 1) (u 28 2) (u 28 3) k (b, l) = (b, l) by unfold s_mstep s_for; rw [h4, h5, decide_eq_true h2]; rfl]
          · rw [if_neg h2, show s_mstep g (nN x) (u 28 1) (u 28 2) (u 28 3) k (b, l) = (b, l) by unfold s_mstep s_for; rw [decide_eq_false h2, Bool.and_false]; rfl]
        · rw [if_pos (Int32.not_lt.mp h3), show s_mstep g (nN x) (u 28 1) (u 28 2) (u 28 3) k (b, l) = (b, l) by unfold s_mstep; rw [show decide (g (80 + 4 * k + 2) < (b, l).2) = false from decide_eq_false h3, Bool.and_false]; rfl]
  unfold Tf_bestMissed_28 s_miss
  rw [c_gr HH HP HS HT hx e0, HP.2.2.1, z_nat (by omega)]
  simp only [Option.bind_some]
  rw [show Tf_bestMissed_28_L11 mg_F (-1) (s_gr g (nN x) (u 28 1) (u 28 2) (u 28 3) (u 28 4)) 0 u = _ from hl np mg_F 0 (-1) _ (by omega) (by show np < 6000; omega)]
  rfl
theorem m_miss {nh np ns x : Nat} {f f2 f3 : z_Ro} {u : mg_Rg} (HH : tH nh f (u 43)) (HP : tP np f2 (u 43)) (HS : tS ns f3 (u 43)) (hx : x < nh) (c v pr day : Int32) : M_missed_L46 mg_F (nN x) c v pr (-1) (s_gr (u 43) (nN x) c v pr day) 0 u = some (s_miss (u 43) (nN x) c v pr day, u) := by
  have hN := HP.1
  have h0 := HP.2.2.1
  have hl : ∀ r n k b l, k + r = np → r < n → M_missed_L46 n (nN x) c v pr b l (nN k) u = some ((s_fold (s_mstep (u 43) (nN x) c v pr) r k (b, l)).1, u) := by
    intro r
    induction r with
    | zero =>
      intro n k b l hk hn
      cases n with
      | zero => omega
      | succ n =>
        unfold M_missed_L46
        rw [h0, if_pos ((z_le (by omega) (by omega)).mpr (by omega))]
        rfl
    | succ r ih =>
      intro n k b l hk hn
      cases n with
      | zero => omega
      | succ n =>
        unfold M_missed_L46 s_fold
        rw [h0, if_neg (z_nle (by omega) (by omega) (by omega)), m_for HH HP (by omega) hx, zb_80, zo_3, zo_2, zo_1]
        simp only [Option.bind_some, m_meets, z_bz]
        rw [zg (by omega), zg (by omega), zg (by omega), z_nat (by omega), z_nat (by omega), ih n (k + 1) b l (by omega) (by omega), ih n (k + 1) (nN k) _ (by omega) (by omega)]
        cases h3 : s_for (u 43) k (nN x) c with
        | false =>
          rw [if_pos (rfl : false = false), show s_mstep (u 43) (nN x) c v pr k (b, l) = (b, l) by unfold s_mstep; rw [h3]; rfl]
        | true =>
          rw [if_neg z_tf]
          cases h4 : s_meets (u 43) pr (u 43 (80 + 4 * k + 3)) v with
          | true =>
            rw [if_neg z_tf, show s_mstep (u 43) (nN x) c v pr k (b, l) = (b, l) by unfold s_mstep; rw [h3, h4]; rfl]
          | false =>
            rw [if_pos (rfl : false = false)]
            by_cases h2 : u 43 (80 + 4 * k + 2) < l
            · rw [if_neg (Int32.not_le.mpr h2), show s_mstep (u 43) (nN x) c v pr k (b, l) = (nN k, u 43 (80 + 4 * k + 2)) by unfold s_mstep; rw [h3, h4, show decide (u 43 (80 + 4 * k + 2) < (b, l).2) = true from decide_eq_true h2]; rfl]
            · rw [if_pos (Int32.not_lt.mp h2), show s_mstep (u 43) (nN x) c v pr k (b, l) = (b, l) by unfold s_mstep; rw [h3, h4, show decide (u 43 (80 + 4 * k + 2) < (b, l).2) = false from decide_eq_false h2]; rfl]
  unfold s_miss
  rw [h0, z_nat (by omega)]
  exact hl np mg_F 0 (-1) _ (by omega) (by show np < 6000; omega)
/-- the guards of rateOf, comesFrom, missed -/
theorem z_goods {nh : Nat} {u : mg_Rg} (HH : tH nh (u 4) (u 43)) (HL : tL (u 17) (u 20) (u 43)) (a b c d : Int32) :
    (∃ x y, x < nh ∧ y < 8 ∧ a = nN x ∧ b = nN y ∧ C_goodsNow a b c d u = some (.inl (), mg_up (mg_up (mg_up (mg_up (mg_up u 28 0 a) 28 1 b) 28 2 c) 28 3 d) 28 4 (u 43 0)) ∧ ∀ u1 : mg_Rg, u1 43 = u 43 → M_wrongGoods a b c d u1 = some 0) ∨
    (∃ (e : Nat) (w : Int32), (e = 0 ∧ w = 1 ∨ e = 1 ∧ w = 2) ∧ C_goodsNow a b c d u = some (.inr e, u) ∧ ∀ u1 : mg_Rg, u1 43 = u 43 → M_wrongGoods a b c d u1 = some w) := by
  have hN := HH.1
  have ed : Lg_day u = some (u 43 0) := by
    unfold Lg_day
    rw [rg_16_0, show u 17 (0 + 1) = u 43 0 from HL.1]
    rfl
  unfold C_goodsNow M_wrongGoods
  by_cases h1 : ∃ x, x < nh ∧ a = nN x
  · obtain ⟨x, hx, rfl⟩ := h1
    rw [crH_yes (by omega) HH.2.1 hx]
    by_cases h2 : ∃ y, y < 8 ∧ b = nN y
    · obtain ⟨y, hy, rfl⟩ := h2
      obtain ⟨-, c2, -⟩ := ccy_yes (u := u) hy
      simp only [Option.bind_some]
      rw [c2]
      simp only [Option.bind_some]
      by_cases h3 : c < 1 ∨ 99999 < c
      · refine Or.inr ⟨1, 2, Or.inr ⟨rfl, rfl⟩, ?_, fun u1 e => ?_⟩
        · rw [z_win_no h3]
          rfl
        · rw [mrH_yes (by omega) (by rw [e]; exact HH.2.2.1) hx, (ccy_yes hy).2.2, z_min_no h3]
          rfl
      · by_cases h4 : d < 0 ∨ 2 < d
        · refine Or.inr ⟨1, 2, Or.inr ⟨rfl, rfl⟩, ?_, fun u1 e => ?_⟩
          · rw [z_win_yes h3, z_win_no h4]
            rfl
          · rw [mrH_yes (by omega) (by rw [e]; exact HH.2.2.1) hx, (ccy_yes hy).2.2, z_min_yes h3, z_min_no h4]
            rfl
        · refine Or.inl ⟨x, y, hx, hy, rfl, rfl, ?_, fun u1 e => ?_⟩
          · rw [z_win_yes h3, z_win_yes h4, ed]
            rfl
          · rw [mrH_yes (by omega) (by rw [e]; exact HH.2.2.1) hx, (ccy_yes hy).2.2, z_min_yes h3, z_min_yes h4]
            rfl
    · have h2' : ∀ y < 8, b ≠ nN y := fun y hy e => h2 ⟨y, hy, e⟩
      obtain ⟨-, c2, -⟩ := ccy_no (u := u) h2'
      refine Or.inr ⟨0, 1, Or.inl ⟨rfl, rfl⟩, ?_, fun u1 e => ?_⟩
      · simp only [Option.bind_some]
        rw [c2]
        rfl
      · rw [mrH_yes (by omega) (by rw [e]; exact HH.2.2.1) hx, (ccy_no h2').2.2]
        rfl
  · have h1' : ∀ x < nh, a ≠ nN x := fun x hx e => h1 ⟨x, hx, e⟩
    refine Or.inr ⟨0, 1, Or.inl ⟨rfl, rfl⟩, ?_, fun u1 e => ?_⟩
    · rw [crH_no (by omega) HH.2.1 h1']
      rfl
    · rw [mrH_no (by omega) (by rw [e]; exact HH.2.2.1) h1']
      rfl
theorem ob_10 : Ob_10 z_I := by
  intro u hu a b c d
  obtain ⟨nh, np, ns, nq, nd, na, HH, HP, HS, HQ, HD, HC, HA, HT, HL⟩ := hu.1
  rcases z_goods HH HL a b c d with ⟨x, y, hx, hy, rfl, rfl, hC, hM⟩ | ⟨e, w, hew, hC, hM⟩
  · have hI : z_I (mg_up (mg_up (mg_up (mg_up (mg_up u 28 0 (nN x)) 28 1 (nN y)) 28 2 c) 28 3 d) 28 4 (u 43 0)) := z_I_goods (fun k hk => by rw [z_up_ne hk, z_up_ne hk, z_up_ne hk, z_up_ne hk, z_up_ne hk]) hu
    generalize hv : mg_up (mg_up (mg_up (mg_up (mg_up u 28 0 (nN x)) 28 1 (nN y)) 28 2 c) 28 3 d) 28 4 (u 43 0) = v at hC hI
    have e43 : v 43 = u 43 := by rw [← hv]; rfl
    have e4 : v 4 = u 4 := by rw [← hv]; rfl
    have e7 : v 7 = u 7 := by rw [← hv]; rfl
    have e10 : v 10 = u 10 := by rw [← hv]; rfl
    have e13 : v 13 = u 13 := by rw [← hv]; rfl
    have f0 : v 28 0 = nN x := by rw [← hv]; rfl
    have f1 : v 28 1 = nN y := by rw [← hv]; rfl
    have f2 : v 28 2 = c := by rw [← hv]; rfl
    have f3 : v 28 3 = d := by rw [← hv]; rfl
    have f4 : v 28 4 = u 43 0 := by rw [← hv]; rfl
    have h1 := c_gr (u := v) (g := u 43) (by rw [e4]; exact HH) (by rw [e7]; exact HP) (by rw [e10]; exact HS) (by rw [e13]; exact HT) hx f0
    have h2 := m_gr (u := v) (f := u 4) (f2 := u 7) (f3 := u 10) (by rw [e43]; exact HH) (by rw [e43]; exact HP) (by rw [e43]; exact HS) hx (nN y) c d (v 43 0)
    rw [f1, f2, f3, f4] at h1
    refine ⟨.inl (s_gr (u 43) (nN x) (nN y) c d (u 43 0)), v, _, mg_up v 42 0 0, 0, ?_, ?_, rfl, Or.inl ⟨_, rfl, rfl, rfl⟩, z_I_thrown 0 hI⟩
    · unfold C_rateOf
      rw [hC]
      simp only [Option.bind_some]
      rw [h1]
      rfl
    · unfold M_rateOf
      rw [hM v e43]
      simp only [Option.bind_some]
      rw [if_pos trivial, h2, e43]
      rfl
  · refine ⟨.inr e, u, 0, mg_up u 42 0 w, w, ?_, ?_, rfl, Or.inr ?_, z_I_thrown w hu⟩
    · unfold C_rateOf
      rw [hC]
      rfl
    · unfold M_rateOf
      rw [hM u rfl]
      simp only [Option.bind_some]
      rcases hew with ⟨rfl, rfl⟩ | ⟨rfl, rfl⟩ <;> rfl
    · rcases hew with ⟨rfl, rfl⟩ | ⟨rfl, rfl⟩
      · exact Or.inl ⟨rfl, rfl⟩
      · exact Or.inr ⟨rfl, rfl⟩
theorem ob_11 : Ob_11 z_I := by
  intro u hu a b c d
  obtain ⟨nh, np, ns, nq, nd, na, HH, HP, HS, HQ, HD, HC, HA, HT, HL⟩ := hu.1
  rcases z_goods HH HL a b c d with ⟨x, y, hx, hy, rfl, rfl, hC, hM⟩ | ⟨e, w, hew, hC, hM⟩
  · have hI : z_I (mg_up (mg_up (mg_up (mg_up (mg_up u 28 0 (nN x)) 28 1 (nN y)) 28 2 c) 28 3 d) 28 4 (u 43 0)) := z_I_goods (fun k hk => by rw [z_up_ne hk, z_up_ne hk, z_up_ne hk, z_up_ne hk, z_up_ne hk]) hu
    generalize hv : mg_up (mg_up (mg_up (mg_up (mg_up u 28 0 (nN x)) 28 1 (nN y)) 28 2 c) 28 3 d) 28 4 (u 43 0) = v at hC hI
    have e43 : v 43 = u 43 := by rw [← hv]; rfl
    have e4 : v 4 = u 4 := by rw [← hv]; rfl
    have e7 : v 7 = u 7 := by rw [← hv]; rfl
    have e10 : v 10 = u 10 := by rw [← hv]; rfl
    have e13 : v 13 = u 13 := by rw [← hv]; rfl
    have f0 : v 28 0 = nN x := by rw [← hv]; rfl
    have f1 : v 28 1 = nN y := by rw [← hv]; rfl
    have f2 : v 28 2 = c := by rw [← hv]; rfl
    have f3 : v 28 3 = d := by rw [← hv]; rfl
    have f4 : v 28 4 = u 43 0 := by rw [← hv]; rfl
    have h1 := c_gr (u := v) (g := u 43) (by rw [e4]; exact HH) (by rw [e7]; exact HP) (by rw [e10]; exact HS) (by rw [e13]; exact HT) hx f0
    have h3 := c_gf (u := v) (g := u 43) (by rw [e4]; exact HH) (by rw [e7]; exact HP) (by rw [e13]; exact HT) hx f0
    have h2 := m_gf (u := v) (f := u 4) (f2 := u 7) (f3 := u 10) (by rw [e43]; exact HH) (by rw [e43]; exact HP) (by rw [e43]; exact HS) hx (nN y) c d (v 43 0)
    rw [f1, f2, f3, f4] at h1
    simp only [f1, f2, f3] at h3
    refine ⟨.inl (s_gf (u 43) (s_gr (u 43) (nN x) (nN y) c d (u 43 0)) (nN x) (nN y) c d), v, _, mg_up v 42 0 0, 0, ?_, ?_, rfl, Or.inl ⟨_, rfl, rfl, rfl⟩, z_I_thrown 0 hI⟩
    · unfold C_comesFrom
      rw [hC]
      simp only [Option.bind_some]
      rw [h1]
      simp only [Option.bind_some]
      rw [h3]
      rfl
    · unfold M_comesFrom
      rw [hM v e43]
      simp only [Option.bind_some]
      rw [if_pos trivial, h2, e43]
      rfl
  · refine ⟨.inr e, u, 0, mg_up u 42 0 w, w, ?_, ?_, rfl, Or.inr ?_, z_I_thrown w hu⟩
    · unfold C_comesFrom
      rw [hC]
      rfl
    · unfold M_comesFrom
      rw [hM u rfl]
      simp only [Option.bind_some]
      rcases hew with ⟨rfl, rfl⟩ | ⟨rfl, rfl⟩ <;> rfl
    · rcases hew with ⟨rfl, rfl⟩ | ⟨rfl, rfl⟩
      · exact Or.inl ⟨rfl, rfl⟩
      · exact Or.inr ⟨rfl, rfl⟩
theorem ob_12 : Ob_12 z_I := by
  intro u hu a b c d
  obtain ⟨nh, np, ns, nq, nd, na, HH, HP, HS, HQ, HD, HC, HA, HT, HL⟩ := hu.1
  rcases z_goods HH HL a b c d with ⟨x, y, hx, hy, rfl, rfl, hC, hM⟩ | ⟨e, w, hew, hC, hM⟩
  · have hI : z_I (mg_up (mg_up (mg_up (mg_up (mg_up u 28 0 (nN x)) 28 1 (nN y)) 28 2 c) 28 3 d) 28 4 (u 43 0)) := z_I_goods (fun k hk => by rw [z_up_ne hk, z_up_ne hk, z_up_ne hk, z_up_ne hk, z_up_ne hk]) hu
    generalize hv : mg_up (mg_up (mg_up (mg_up (mg_up u 28 0 (nN x)) 28 1 (nN y)) 28 2 c) 28 3 d) 28 4 (u 43 0) = v at hC hI
    have e43 : v 43 = u 43 := by rw [← hv]; rfl
    have e4 : v 4 = u 4 := by rw [← hv]; rfl
    have e7 : v 7 = u 7 := by rw [← hv]; rfl
    have e10 : v 10 = u 10 := by rw [← hv]; rfl
    have e13 : v 13 = u 13 := by rw [← hv]; rfl
    have f0 : v 28 0 = nN x := by rw [← hv]; rfl
    have f1 : v 28 1 = nN y := by rw [← hv]; rfl
    have f2 : v 28 2 = c := by rw [← hv]; rfl
    have f3 : v 28 3 = d := by rw [← hv]; rfl
    have f4 : v 28 4 = u 43 0 := by rw [← hv]; rfl
    have h1 := c_miss (u := v) (g := u 43) (by rw [e4]; exact HH) (by rw [e7]; exact HP) (by rw [e10]; exact HS) (by rw [e13]; exact HT) hx f0
    have h2 := m_gr (u := v) (f := u 4) (f2 := u 7) (f3 := u 10) (by rw [e43]; exact HH) (by rw [e43]; exact HP) (by rw [e43]; exact HS) hx (nN y) c d (v 43 0)
    have h3 := m_miss (u := v) (f := u 4) (f2 := u 7) (f3 := u 10) (by rw [e43]; exact HH) (by rw [e43]; exact HP) (by rw [e43]; exact HS) hx (nN y) c d (v 43 0)
    rw [f1, f2, f3, f4] at h1
    rw [e43] at h2 h3
    by_cases hb : s_miss (u 43) (nN x) (nN y) c d (u 43 0) = -1
    · refine ⟨.inr 3, v, 0, mg_up v 42 0 3, 3, ?_, ?_, rfl, Or.inr (Or.inr (Or.inr ⟨rfl, rfl⟩)), z_I_thrown 3 hI⟩
      · unfold C_missed
        rw [hC]
        simp only [Option.bind_some]
        rw [h1]
        simp only [Option.bind_some]
        rw [if_pos hb]
      · unfold M_missed
        rw [hM v e43]
        simp only [Option.bind_some]
        rw [if_pos trivial, e43, h2]
        simp only [Option.bind_some]
        rw [h3]
        simp only [Option.bind_some]
        rw [if_pos hb]
        rfl
    · refine ⟨.inl (s_miss (u 43) (nN x) (nN y) c d (u 43 0)), v, _, mg_up v 42 0 0, 0, ?_, ?_, rfl, Or.inl ⟨_, rfl, rfl, rfl⟩, z_I_thrown 0 hI⟩
      · unfold C_missed
        rw [hC]
        simp only [Option.bind_some]
        rw [h1]
        simp only [Option.bind_some]
        rw [if_neg hb]
      · unfold M_missed
        rw [hM v e43]
        simp only [Option.bind_some]
        rw [if_pos trivial, e43, h2]
        simp only [Option.bind_some]
        rw [h3]
        simp only [Option.bind_some]
        rw [if_neg hb]
        rfl
  · refine ⟨.inr e, u, 0, mg_up u 42 0 w, w, ?_, ?_, rfl, Or.inr ?_, z_I_thrown w hu⟩
    · unfold C_missed
      rw [hC]
      rfl
    · unfold M_missed
      rw [hM u rfl]
      simp only [Option.bind_some]
      rcases hew with ⟨rfl, rfl⟩ | ⟨rfl, rfl⟩ <;> rfl
    · rcases hew with ⟨rfl, rfl⟩ | ⟨rfl, rfl⟩
      · exact Or.inl ⟨rfl, rfl⟩
      · exact Or.inr (Or.inl ⟨rfl, rfl⟩)
