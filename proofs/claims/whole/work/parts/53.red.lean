/-! WHAT IS READ OFF THE DECLARATIONS, told, account, keptAgain, keptUnder, givenBack, meanRate -/
def s_kept1 (g : z_Ro) (d : Nat) : Int32 := if g (208 + 16 * d + 7) = 1 then g (208 + 16 * d + 9) + g (208 + 16 * d + 10) else 0
theorem m_kept1 {d : Nat} (hd : d < 30) (u : mg_Rg) : M_keptOf (nN d) u = some (s_kept1 (u 43) d) := by
  unfold M_keptOf s_kept1
  rw [mdeclAt_7 hd, mdeclAt_9 hd, mdeclAt_10 hd]
  simp only [Option.bind_some]
  by_cases h : u 43 (208 + 16 * d + 7) = 1
  · rw [if_pos h, if_pos h]
  · rw [if_neg h, if_neg h]
theorem c_stat {nh nq nd d : Nat} {g : z_Ro} {u : mg_Rg} (HD : tD nh nq nd (u 26) g) (hd : d < nd) (s : Int32) : O_hasStatus (nN d) s u = some (if decide (g (208 + 16 * d + 7) = s) = true then 1 else 0) := by
  unfold O_hasStatus
  rw [cD_7 HD hd]
  simp only [Option.bind_some]
  by_cases h : g (208 + 16 * d + 7) = s
  · rw [if_pos h, decide_eq_true h]
    rfl
  · rw [if_neg h, decide_eq_false h]
    rfl
theorem c_kept1 {nh nq nd d : Nat} {g : z_Ro} {u : mg_Rg} (HD : tD nh nq nd (u 26) g) (hd : d < nd) : O_keptOf (nN d) u = some (s_kept1 g d) := by
  unfold O_keptOf s_kept1
  rw [c_stat HD hd, cD_9 HD hd, cD_10 HD hd]
  simp only [Option.bind_some, z_bz]
  by_cases h : g (208 + 16 * d + 7) = 1
  · rw [if_pos h, decide_eq_true h]
    rfl
  · rw [if_neg h, decide_eq_false h]
    rfl
def s_count (g : z_Ro) (st : Int32) : Int32 := s_fold (fun d a => if g (208 + 16 * d + 7) = st then a + 1 else a) (g 5).toNatClampNeg 0 0
theorem c_count {nh nq nd : Nat} {g : z_Ro} {u : mg_Rg} (HH : tH nh (u 4) g) (HD : tD nh nq nd (u 26) g) (st : Int32) : O_countWith st u = some (s_count g st) := by
  have hN := HD.1
  have h1 : T_count_25 u = some (nN nd) := by rw [← HD.2.1]; rfl
  have hl : ∀ r n k a, k + r = nd → r < n → O_countWith_L4 n st a (nN k) u = some (s_fold (fun d a => if g (208 + 16 * d + 7) = st then a + 1 else a) r k a) := by
    intro r
    induction r with
    | zero =>
      intro n k a hk hn
      cases n with
      | zero => omega
      | succ n =>
        unfold O_countWith_L4
        rw [h1]
        simp only [Option.bind_some]
        rw [if_pos ((z_le (by omega) (by omega)).mpr (by omega))]
        rfl
    | succ r ih =>
      intro n k a hk hn
      cases n with
      | zero => omega
      | succ n =>
        unfold O_countWith_L4 s_fold
        rw [h1]
        simp only [Option.bind_some]
        rw [if_neg (z_nle (by omega) (by omega) (by omega))]
        rw [c_stat HD (by omega)]
        simp only [Option.bind_some, z_bz, zo_1]
        rw [ih n (k + 1) a (by omega) (by omega), ih n (k + 1) _ (by omega) (by omega)]
        by_cases h : g (208 + 16 * k + 7) = st
        · rw [if_pos h, decide_eq_true h]
          rfl
        · rw [if_neg h, decide_eq_false h]
          rfl
  have h9 := hl nd mg_F 0 0 (by omega) (by show nd < 6000; omega)
  unfold O_countWith s_count
  rw [HD.2.2.1, z_nat (by omega), show O_countWith_L4 mg_F st 0 0 u = _ from h9]
  rfl
theorem m_count {nh nq nd : Nat} {f f2 : z_Ro} {u : mg_Rg} (HH : tH nh f (u 43)) (HD : tD nh nq nd f2 (u 43)) (st : Int32) : M_inState st u = some (s_count (u 43) st) := by
  have hN := HD.1
  have h0 := HD.2.2.1
  have hl : ∀ r n k a, k + r = nd → r < n → M_inState_L4 n st a (nN k) u = some (s_fold (fun d a => if u 43 (208 + 16 * d + 7) = st then a + 1 else a) r k a) := by
    intro r
    induction r with
    | zero =>
      intro n k a hk hn
      cases n with
      | zero => omega
      | succ n =>
        unfold M_inState_L4
        rw [h0, if_pos ((z_le (by omega) (by omega)).mpr (by omega))]
        rfl
    | succ r ih =>
      intro n k a hk hn
      cases n with
      | zero => omega
      | succ n =>
        unfold M_inState_L4 s_fold
        rw [h0, if_neg (z_nle (by omega) (by omega) (by omega))]
        rw [mdeclAt_7 (by omega), zo_1, Int32.add_zero]
        simp only [Option.bind_some]
        rw [ih n (k + 1) (a + 1) (by omega) (by omega), ih n (k + 1) a (by omega) (by omega)]
        by_cases h : u 43 (208 + 16 * k + 7) = st
        · rw [if_pos h, if_pos h]
        · rw [if_neg h, if_neg h]
  have h9 := hl nd mg_F 0 0 (by omega) (by show nd < 6000; omega)
  unfold M_inState s_count
  rw [h0, z_nat (by omega), show M_inState_L4 mg_F st 0 0 u = _ from h9]
  rfl
def s_keptC (g : z_Ro) (c : Int32) : Int32 := s_fold (fun d a => if g (208 + 16 * d + 3) = c then a + s_kept1 g d else a) (g 5).toNatClampNeg 0 0
theorem c_keptC {nh nq nd : Nat} {g : z_Ro} {u : mg_Rg} (HH : tH nh (u 4) g) (HD : tD nh nq nd (u 26) g) (c : Int32) : C_keptAgain_L9 mg_F c 0 0 u = some (s_keptC g c) := by
  have hN := HD.1
  have h1 : T_count_25 u = some (nN nd) := by rw [← HD.2.1]; rfl
  have hl : ∀ r n k a, k + r = nd → r < n → C_keptAgain_L9 n c a (nN k) u = some (s_fold (fun d a => if g (208 + 16 * d + 3) = c then a + s_kept1 g d else a) r k a) := by
    intro r
    induction r with
    | zero =>
      intro n k a hk hn
      cases n with
      | zero => omega
      | succ n =>
        unfold C_keptAgain_L9
        rw [h1]
        simp only [Option.bind_some]
        rw [if_pos ((z_le (by omega) (by omega)).mpr (by omega))]
        rfl
    | succ r ih =>
      intro n k a hk hn
      cases n with
      | zero => omega
      | succ n =>
        unfold C_keptAgain_L9 s_fold
        rw [h1]
        simp only [Option.bind_some]
        rw [if_neg (z_nle (by omega) (by omega) (by omega))]
        rw [cD_3 HD (by omega), c_kept1 HD (by omega)]
        simp only [Option.bind_some, zo_1]
        rw [ih n (k + 1) a (by omega) (by omega), ih n (k + 1) _ (by omega) (by omega)]
        by_cases h : g (208 + 16 * k + 3) = c
        · rw [if_pos h, if_pos h]
        · rw [if_neg h, if_neg h]
  have h9 := hl nd mg_F 0 0 (by omega) (by show nd < 6000; omega)
  unfold s_keptC
  rw [HD.2.2.1, z_nat (by omega)]
  exact h9
theorem m_keptC {nh nq nd : Nat} {f f2 : z_Ro} {u : mg_Rg} (HH : tH nh f (u 43)) (HD : tD nh nq nd f2 (u 43)) (c : Int32) : M_keptAgain_L17 mg_F c 0 0 u = some (s_keptC (u 43) c, u) := by
  have hN := HD.1
  have h0 := HD.2.2.1
  have hl : ∀ r n k a, k + r = nd → r < n → M_keptAgain_L17 n c a (nN k) u = some (s_fold (fun d a => if u 43 (208 + 16 * d + 3) = c then a + s_kept1 (u 43) d else a) r k a, u) := by
    intro r
    induction r with
    | zero =>
      intro n k a hk hn
      cases n with
      | zero => omega
      | succ n =>
        unfold M_keptAgain_L17
        rw [h0, if_pos ((z_le (by omega) (by omega)).mpr (by omega))]
        rfl
    | succ r ih =>
      intro n k a hk hn
      cases n with
      | zero => omega
      | succ n =>
        unfold M_keptAgain_L17 s_fold
        rw [h0, if_neg (z_nle (by omega) (by omega) (by omega))]
        rw [mdeclAt_3 (by omega), m_kept1 (by omega), zo_1, Int32.add_zero]
        simp only [Option.bind_some]
        rw [ih n (k + 1) (a + s_kept1 (u 43) k) (by omega) (by omega), ih n (k + 1) a (by omega) (by omega)]
        by_cases h : u 43 (208 + 16 * k + 3) = c
        · rw [if_pos h, if_pos h]
        · rw [if_neg h, if_neg h]
  have h9 := hl nd mg_F 0 0 (by omega) (by show nd < 6000; omega)
  unfold s_keptC
  rw [h0, z_nat (by omega)]
  exact h9
def s_keptU (g : z_Ro) (x : Nat) : Int32 := s_fold (fun d a => if s_under g (g (208 + 16 * d)) (nN x) = true then a + s_kept1 g d else a) (g 5).toNatClampNeg 0 0
theorem c_keptU {nh nq nd : Nat} {g : z_Ro} {u : mg_Rg} (HH : tH nh (u 4) g) (HD : tD nh nq nd (u 26) g) (x : Nat) : C_keptUnder_L9 mg_F (nN x) 0 0 u = some (s_keptU g x) := by
  have hN := HD.1
  have h1 : T_count_25 u = some (nN nd) := by rw [← HD.2.1]; rfl
  have hl : ∀ r n k a, k + r = nd → r < n → C_keptUnder_L9 n (nN x) a (nN k) u = some (s_fold (fun d a => if s_under g (g (208 + 16 * d)) (nN x) = true then a + s_kept1 g d else a) r k a) := by
    intro r
    induction r with
    | zero =>
      intro n k a hk hn
      cases n with
      | zero => omega
      | succ n =>
        unfold C_keptUnder_L9
        rw [h1]
        simp only [Option.bind_some]
        rw [if_pos ((z_le (by omega) (by omega)).mpr (by omega))]
        rfl
    | succ r ih =>
      intro n k a hk hn
      cases n with
      | zero => omega
      | succ n =>
        unfold C_keptUnder_L9 s_fold
        rw [h1]
        simp only [Option.bind_some]
        rw [if_neg (z_nle (by omega) (by omega) (by omega))]
        obtain ⟨p, hp, ep⟩ := (HD.2.2.2.2 k (by omega)).1
        rw [cD_0 HD (by omega), c_kept1 HD (by omega), ep]
        simp only [Option.bind_some]
        rw [c_under HH hp]
        simp only [Option.bind_some, zo_1, z_bz]
        rw [ih n (k + 1) a (by omega) (by omega), ih n (k + 1) _ (by omega) (by omega)]
        cases s_under g (nN p) (nN x) <;> rfl
  have h9 := hl nd mg_F 0 0 (by omega) (by show nd < 6000; omega)
  unfold s_keptU
  rw [HD.2.2.1, z_nat (by omega)]
  exact h9
theorem m_keptU {nh nq nd : Nat} {f f2 : z_Ro} {u : mg_Rg} (HH : tH nh f (u 43)) (HD : tD nh nq nd f2 (u 43)) (x : Nat) (hx : x < 2147483648) : M_keptUnder_L18 mg_F (nN x) 0 0 u = some (s_keptU (u 43) x, u) := by
  have hN := HD.1
  have h0 := HD.2.2.1
  have hl : ∀ r n k a, k + r = nd → r < n → M_keptUnder_L18 n (nN x) a (nN k) u = some (s_fold (fun d a => if s_under (u 43) (u 43 (208 + 16 * d)) (nN x) = true then a + s_kept1 (u 43) d else a) r k a, u) := by
    intro r
    induction r with
    | zero =>
      intro n k a hk hn
      cases n with
      | zero => omega
      | succ n =>
        unfold M_keptUnder_L18
        rw [h0, if_pos ((z_le (by omega) (by omega)).mpr (by omega))]
        rfl
    | succ r ih =>
      intro n k a hk hn
      cases n with
      | zero => omega
      | succ n =>
        unfold M_keptUnder_L18 s_fold
        rw [h0, if_neg (z_nle (by omega) (by omega) (by omega))]
        obtain ⟨p, hp, ep⟩ := (HD.2.2.2.2 k (by omega)).1
        rw [mdeclAt_0 (by omega), m_kept1 (by omega), ep]
        simp only [Option.bind_some]
        rw [m_under HH hp (z_ne1 hx)]
        simp only [Option.bind_some, zo_1, z_bz, Int32.add_zero]
        rw [ih n (k + 1) a (by omega) (by omega), ih n (k + 1) (a + s_kept1 (u 43) k) (by omega) (by omega)]
        cases s_under (u 43) (nN p) (nN x) <;> rfl
  have h9 := hl nd mg_F 0 0 (by omega) (by show nd < 6000; omega)
  unfold s_keptU
  rw [h0, z_nat (by omega)]
  exact h9
def s_values (g : z_Ro)  : Int32 := s_fold (fun d a => if g (208 + 16 * d + 7) = 0 then a else a + g (208 + 16 * d + 2)) (g 5).toNatClampNeg 0 0
theorem c_values {nh nq nd : Nat} {g : z_Ro} {u : mg_Rg} (HH : tH nh (u 4) g) (HD : tD nh nq nd (u 26) g)  : O_assessedValue u = some (s_values g ) := by
  have hN := HD.1
  have h1 : T_count_25 u = some (nN nd) := by rw [← HD.2.1]; rfl
  have hl : ∀ r n k a, k + r = nd → r < n → O_assessedValue_L4 n a (nN k) u = some (s_fold (fun d a => if g (208 + 16 * d + 7) = 0 then a else a + g (208 + 16 * d + 2)) r k a) := by
    intro r
    induction r with
    | zero =>
      intro n k a hk hn
      cases n with
      | zero => omega
      | succ n =>
        unfold O_assessedValue_L4
        rw [h1]
        simp only [Option.bind_some]
        rw [if_pos ((z_le (by omega) (by omega)).mpr (by omega))]
        rfl
    | succ r ih =>
      intro n k a hk hn
      cases n with
      | zero => omega
      | succ n =>
        unfold O_assessedValue_L4 s_fold
        rw [h1]
        simp only [Option.bind_some]
        rw [if_neg (z_nle (by omega) (by omega) (by omega))]
        rw [c_stat HD (by omega), cD_2 HD (by omega)]
        simp only [Option.bind_some, z_bz, zo_1]
        rw [ih n (k + 1) a (by omega) (by omega), ih n (k + 1) _ (by omega) (by omega)]
        by_cases h : g (208 + 16 * k + 7) = 0
        · rw [if_pos h, decide_eq_true h]
          rfl
        · rw [if_neg h, decide_eq_false h]
          rfl
  have h9 := hl nd mg_F 0 0 (by omega) (by show nd < 6000; omega)
  unfold O_assessedValue s_values
  rw [HD.2.2.1, z_nat (by omega), show O_assessedValue_L4 mg_F 0 0 u = _ from h9]
  rfl
theorem m_values {nh nq nd : Nat} {f f2 : z_Ro} {u : mg_Rg} (HH : tH nh f (u 43)) (HD : tD nh nq nd f2 (u 43))  : M_meanRate_L4 mg_F 0 0 u = some (s_values (u 43) , u) := by
  have hN := HD.1
  have h0 := HD.2.2.1
  have hl : ∀ r n k a, k + r = nd → r < n → M_meanRate_L4 n a (nN k) u = some (s_fold (fun d a => if u 43 (208 + 16 * d + 7) = 0 then a else a + u 43 (208 + 16 * d + 2)) r k a, u) := by
    intro r
    induction r with
    | zero =>
      intro n k a hk hn
      cases n with
      | zero => omega
      | succ n =>
        unfold M_meanRate_L4
        rw [h0, if_pos ((z_le (by omega) (by omega)).mpr (by omega))]
        rfl
    | succ r ih =>
      intro n k a hk hn
      cases n with
      | zero => omega
      | succ n =>
        unfold M_meanRate_L4 s_fold
        rw [h0, if_neg (z_nle (by omega) (by omega) (by omega))]
        rw [mdeclAt_7 (by omega), mdeclAt_2 (by omega), zo_1, Int32.add_zero]
        simp only [Option.bind_some]
        rw [ih n (k + 1) a (by omega) (by omega), ih n (k + 1) (a + u 43 (208 + 16 * k + 2)) (by omega) (by omega)]
        by_cases h : u 43 (208 + 16 * k + 7) = 0
        · rw [if_pos h, if_pos h]
        · rw [if_neg h, if_neg h]
  have h9 := hl nd mg_F 0 0 (by omega) (by show nd < 6000; omega)
  unfold s_values
  rw [h0, z_nat (by omega)]
  exact h9
theorem ob_2 : Ob_2 z_I := by
  intro u hu a b
  obtain ⟨nh, np, ns, nq, nd, na, HH, HP, HS, HQ, HD, HC, HA, HT, HL⟩ := hu.1
  have hN := HH.1
  by_cases h1 : ∃ x, x < nh ∧ a = nN x
  · obtain ⟨x, hx, rfl⟩ := h1
    have cr := crH_yes (by omega) HH.2.1 hx
    have mr := mrH_yes (by omega) HH.2.2.1 hx
    rcases z_row (n := 7) (by omega) b with ⟨j, hj, rfl, d1, d2, d3⟩ | ⟨-, d⟩
    · rcases (show j = 0 ∨ j = 1 ∨ j = 2 ∨ j = 3 ∨ j = 4 ∨ j = 5 ∨ j = 6 by omega) with rfl | rfl | rfl | rfl | rfl | rfl | rfl
      · refine ⟨.inl (u 43 (20 + 3 * x)), u, u 43 (20 + 3 * x), mg_up u 42 0 0, 0, ?_, ?_, rfl, Or.inl ⟨_, rfl, rfl, rfl⟩, z_I_thrown 0 hu⟩
        · unfold C_told
          rw [cr]
          simp only [Option.bind_some]
          rw [if_neg (by decide), if_pos (by decide), show T_get_3 (nN x) (nN 0) u = some _ from cH_0 HH hx]
          rfl
        · unfold M_told
          rw [mr]
          simp only [Option.bind_some]
          rw [if_neg (by decide), z_min_yes (by decide)]
          simp only [Option.bind_some]
          rw [if_neg (by decide), if_neg (by decide), show M_headAt (nN x) (nN 0) u = some _ from mheadAt_0 (by omega) u]
          rfl
      · refine ⟨.inl (u 43 (20 + 3 * x + 1)), u, u 43 (20 + 3 * x + 1), mg_up u 42 0 0, 0, ?_, ?_, rfl, Or.inl ⟨_, rfl, rfl, rfl⟩, z_I_thrown 0 hu⟩
        · unfold C_told
          rw [cr]
          simp only [Option.bind_some]
          rw [if_neg (by decide), if_neg (by decide), if_pos (by decide), show T_get_3 (nN x) (nN 1) u = some _ from cH_1 HH hx]
          rfl
        · unfold M_told
          rw [mr]
          simp only [Option.bind_some]
          rw [if_neg (by decide), z_min_yes (by decide)]
          simp only [Option.bind_some]
          rw [if_neg (by decide), if_neg (by decide), show M_headAt (nN x) (nN 1) u = some _ from mheadAt_1 (by omega) u]
          rfl
      · refine ⟨.inl (u 43 (20 + 3 * x + 2)), u, u 43 (20 + 3 * x + 2), mg_up u 42 0 0, 0, ?_, ?_, rfl, Or.inl ⟨_, rfl, rfl, rfl⟩, z_I_thrown 0 hu⟩
        · unfold C_told
          rw [cr]
          simp only [Option.bind_some]
          rw [if_neg (by decide), if_neg (by decide), if_neg (by decide), if_pos (by decide), show T_get_3 (nN x) (nN 2) u = some _ from cH_2 HH hx]
          rfl
        · unfold M_told
          rw [mr]
          simp only [Option.bind_some]
          rw [if_neg (by decide), z_min_yes (by decide)]
          simp only [Option.bind_some]
          rw [if_neg (by decide), if_neg (by decide), show M_headAt (nN x) (nN 2) u = some _ from mheadAt_2 (by omega) u]
          rfl
      · refine ⟨.inl (s_rate (u 43) (nN x)), u, s_rate (u 43) (nN x), mg_up u 42 0 0, 0, ?_, ?_, rfl, Or.inl ⟨_, rfl, rfl, rfl⟩, z_I_thrown 0 hu⟩
        · unfold C_told
          rw [cr]
          simp only [Option.bind_some]
          rw [if_neg (by decide), if_neg (by decide), if_neg (by decide), if_neg (by decide), if_pos (by decide), show Tf_rateOfHeading (nN x) u = some _ from c_rate HH hx]
          rfl
        · unfold M_told
          rw [mr]
          simp only [Option.bind_some]
          rw [if_neg (by decide), z_min_yes (by decide)]
          simp only [Option.bind_some]
          rw [if_neg (by decide), if_pos (by decide), if_pos (by decide), show M_rateAt (nN x) u = some _ from m_rate HH hx]
          rfl
      · refine ⟨.inl (s_children (u 43) (nN x)), u, s_children (u 43) (nN x), mg_up u 42 0 0, 0, ?_, ?_, rfl, Or.inl ⟨_, rfl, rfl, rfl⟩, z_I_thrown 0 hu⟩
        · unfold C_told
          rw [cr]
          simp only [Option.bind_some]
          rw [if_neg (by decide), if_neg (by decide), if_neg (by decide), if_neg (by decide), if_neg (by decide), if_pos (by decide), show Tf_childrenOf (nN x) u = some _ from c_children HH _]
          rfl
        · unfold M_told
          rw [mr]
          simp only [Option.bind_some]
          rw [if_neg (by decide), z_min_yes (by decide)]
          simp only [Option.bind_some]
          rw [if_neg (by decide), if_pos (by decide), if_neg (by decide), if_pos (by decide), show M_children (nN x) u = some _ from m_children HH _]
          rfl
      · refine ⟨.inl (s_level (u 43) (nN x)), u, s_level (u 43) (nN x), mg_up u 42 0 0, 0, ?_, ?_, rfl, Or.inl ⟨_, rfl, rfl, rfl⟩, z_I_thrown 0 hu⟩
        · unfold C_told
          rw [cr]
          simp only [Option.bind_some]
          rw [if_neg (by decide), if_neg (by decide), if_neg (by decide), if_neg (by decide), if_neg (by decide), if_neg (by decide), if_pos (by decide), show Tf_levelOf (nN x) u = some _ from c_level HH hx]
          rfl
        · unfold M_told
          rw [mr]
          simp only [Option.bind_some]
          rw [if_neg (by decide), z_min_yes (by decide)]
          simp only [Option.bind_some]
          rw [if_neg (by decide), if_pos (by decide), if_neg (by decide), if_neg (by decide), if_pos (by decide), show M_lengthOf (nN x) u = some _ from m_level HH hx]
          rfl
      · refine ⟨.inl (s_code (u 43) (nN x)), u, s_code (u 43) (nN x), mg_up u 42 0 0, 0, ?_, ?_, rfl, Or.inl ⟨_, rfl, rfl, rfl⟩, z_I_thrown 0 hu⟩
        · unfold C_told
          rw [cr]
          simp only [Option.bind_some]
          rw [if_neg (by decide), if_neg (by decide), if_neg (by decide), if_neg (by decide), if_neg (by decide), if_neg (by decide), if_neg (by decide), if_pos (by decide), show Tf_codeOf (nN x) u = some _ from c_code HH hx]
          rfl
        · unfold M_told
          rw [mr]
          simp only [Option.bind_some]
          rw [if_neg (by decide), z_min_yes (by decide)]
          simp only [Option.bind_some]
          rw [if_neg (by decide), if_pos (by decide), if_neg (by decide), if_neg (by decide), if_neg (by decide), show M_codeOf (nN x) u = some _ from m_code HH hx]
          rfl
    · have d : b < 0 ∨ (6 : Int32) < b := d
      have dt : b.toInt < 0 ∨ 6 < b.toInt := by
        rw [Int32.lt_iff_toInt_lt, Int32.lt_iff_toInt_lt] at d
        exact d
      refine ⟨.inr 1, u, 0, mg_up u 42 0 2, 2, ?_, ?_, rfl, Or.inr (Or.inr ⟨rfl, rfl⟩), z_I_thrown 2 hu⟩
      · unfold C_told
        rw [cr]
        simp only [Option.bind_some]
        rw [if_pos dt]
      · unfold M_told
        rw [mr]
        simp only [Option.bind_some]
        rw [if_neg (by decide), z_min_no d]
        rfl
  · have h1' : ∀ x < nh, a ≠ nN x := fun x hx e => h1 ⟨x, hx, e⟩
    refine ⟨.inr 0, u, 0, mg_up u 42 0 1, 1, ?_, ?_, rfl, Or.inr (Or.inl ⟨rfl, rfl⟩), z_I_thrown 1 hu⟩
    · unfold C_told
      rw [crH_no (by omega) HH.2.1 h1']
      rfl
    · unfold M_told
      rw [mrH_no (by omega) HH.2.2.1 h1']
      rfl
theorem ob_24 : Ob_24 z_I := by
  intro u hu b
  obtain ⟨nh, np, ns, nq, nd, na, HH, HP, HS, HQ, HD, HC, HA, HT, HL⟩ := hu.1
  rcases z_row (n := 12) (by omega) b with ⟨j, hj, rfl, d1, d2, d3⟩ | ⟨-, d⟩
  · rcases (show j = 0 ∨ j = 1 ∨ j = 2 ∨ j = 3 ∨ j = 4 ∨ j = 5 ∨ j = 6 ∨ j = 7 ∨ j = 8 ∨ j = 9 ∨ j = 10 ∨ j = 11 by omega) with rfl | rfl | rfl | rfl | rfl | rfl | rfl | rfl | rfl | rfl | rfl | rfl
    · refine ⟨.inl (u 43 1), u, u 43 1, mg_up u 42 0 0, 0, ?_, ?_, rfl, Or.inl ⟨_, rfl, rfl, rfl⟩, z_I_thrown 0 hu⟩
      · unfold C_account
        rw [if_neg (by decide), if_pos (by decide), show T_count_3 u = some (u 43 1) from congrArg some (HH.2.1.trans HH.2.2.1.symm)]
        rfl
      · unfold M_account
        rw [z_min_yes (by decide)]
        simp only [Option.bind_some]
        rw [if_neg (by decide)]
        rw [if_pos (by decide), if_neg (by decide)]
        rfl
    · refine ⟨.inl (u 43 2), u, u 43 2, mg_up u 42 0 0, 0, ?_, ?_, rfl, Or.inl ⟨_, rfl, rfl, rfl⟩, z_I_thrown 0 hu⟩
      · unfold C_account
        rw [if_neg (by decide), if_neg (by decide), if_pos (by decide), show T_count_6 u = some (u 43 2) from congrArg some (HP.2.1.trans HP.2.2.1.symm)]
        rfl
      · unfold M_account
        rw [z_min_yes (by decide)]
        simp only [Option.bind_some]
        rw [if_neg (by decide)]
        rw [if_pos (by decide), if_neg (by decide)]
        rfl
    · refine ⟨.inl (u 43 3), u, u 43 3, mg_up u 42 0 0, 0, ?_, ?_, rfl, Or.inl ⟨_, rfl, rfl, rfl⟩, z_I_thrown 0 hu⟩
      · unfold C_account
        rw [if_neg (by decide), if_neg (by decide), if_neg (by decide), if_pos (by decide), show T_count_9 u = some (u 43 3) from congrArg some (HS.2.1.trans HS.2.2.1.symm)]
        rfl
      · unfold M_account
        rw [z_min_yes (by decide)]
        simp only [Option.bind_some]
        rw [if_neg (by decide)]
        rw [if_pos (by decide), if_neg (by decide)]
        rfl
    · refine ⟨.inl (u 43 4), u, u 43 4, mg_up u 42 0 0, 0, ?_, ?_, rfl, Or.inl ⟨_, rfl, rfl, rfl⟩, z_I_thrown 0 hu⟩
      · unfold C_account
        rw [if_neg (by decide), if_neg (by decide), if_neg (by decide), if_neg (by decide), if_pos (by decide), show T_count_22 u = some (u 43 4) from congrArg some (HQ.2.1.trans HQ.2.2.1.symm)]
        rfl
      · unfold M_account
        rw [z_min_yes (by decide)]
        simp only [Option.bind_some]
        rw [if_neg (by decide)]
        rw [if_pos (by decide), if_neg (by decide)]
        rfl
    · refine ⟨.inl (u 43 5), u, u 43 5, mg_up u 42 0 0, 0, ?_, ?_, rfl, Or.inl ⟨_, rfl, rfl, rfl⟩, z_I_thrown 0 hu⟩
      · unfold C_account
        rw [if_neg (by decide), if_neg (by decide), if_neg (by decide), if_neg (by decide), if_neg (by decide), if_pos (by decide), show T_count_25 u = some (u 43 5) from congrArg some (HD.2.1.trans HD.2.2.1.symm)]
        rfl
      · unfold M_account
        rw [z_min_yes (by decide)]
        simp only [Option.bind_some]
        rw [if_neg (by decide)]
        rw [if_pos (by decide), if_neg (by decide)]
        rfl
    · refine ⟨.inl (s_count (u 43) 0), u, s_count (u 43) 0, mg_up u 42 0 0, 0, ?_, ?_, rfl, Or.inl ⟨_, rfl, rfl, rfl⟩, z_I_thrown 0 hu⟩
      · unfold C_account
        rw [if_neg (by decide), if_neg (by decide), if_neg (by decide), if_neg (by decide), if_neg (by decide), if_neg (by decide), if_pos (by decide), show O_countWith 0 u = some (s_count (u 43) 0) from c_count HH HD 0]
        rfl
      · unfold M_account
        rw [z_min_yes (by decide)]
        simp only [Option.bind_some]
        rw [if_neg (by decide)]
        rw [if_neg (by decide), if_pos (by decide), show (nN 5 - 5 : Int32) = 0 by decide, m_count HH HD]
        rfl
    · refine ⟨.inl (s_count (u 43) 1), u, s_count (u 43) 1, mg_up u 42 0 0, 0, ?_, ?_, rfl, Or.inl ⟨_, rfl, rfl, rfl⟩, z_I_thrown 0 hu⟩
      · unfold C_account
        rw [if_neg (by decide), if_neg (by decide), if_neg (by decide), if_neg (by decide), if_neg (by decide), if_neg (by decide), if_neg (by decide), if_pos (by decide), show O_countWith 1 u = some (s_count (u 43) 1) from c_count HH HD 1]
        rfl
      · unfold M_account
        rw [z_min_yes (by decide)]
        simp only [Option.bind_some]
        rw [if_neg (by decide)]
        rw [if_neg (by decide), if_neg (by decide), if_pos (by decide), show (nN 6 - 5 : Int32) = 1 by decide, m_count HH HD]
        rfl
    · refine ⟨.inl (s_count (u 43) 2), u, s_count (u 43) 2, mg_up u 42 0 0, 0, ?_, ?_, rfl, Or.inl ⟨_, rfl, rfl, rfl⟩, z_I_thrown 0 hu⟩
      · unfold C_account
        rw [if_neg (by decide), if_neg (by decide), if_neg (by decide), if_neg (by decide), if_neg (by decide), if_neg (by decide), if_neg (by decide), if_neg (by decide), if_pos (by decide), show O_countWith 2 u = some (s_count (u 43) 2) from c_count HH HD 2]
        rfl
      · unfold M_account
        rw [z_min_yes (by decide)]
        simp only [Option.bind_some]
        rw [if_neg (by decide)]
        rw [if_neg (by decide), if_neg (by decide), if_neg (by decide), if_pos (by decide), show (nN 7 - 5 : Int32) = 2 by decide, m_count HH HD]
        rfl
    · refine ⟨.inl (u 43 7), u, u 43 7, mg_up u 42 0 0, 0, ?_, ?_, rfl, Or.inl ⟨_, rfl, rfl, rfl⟩, z_I_thrown 0 hu⟩
      · unfold C_account
        rw [if_neg (by decide), if_neg (by decide), if_neg (by decide), if_neg (by decide), if_neg (by decide), if_neg (by decide), if_neg (by decide), if_neg (by decide), if_neg (by decide), if_pos (by decide), show Lg_found u = some (u 43 7) from by unfold Lg_found; rw [rg_16_1, show u 17 (1 + 1) = u 43 7 from HL.2.1]; rfl]
        rfl
      · unfold M_account
        rw [z_min_yes (by decide)]
        simp only [Option.bind_some]
        rw [if_neg (by decide)]
        rw [if_neg (by decide), if_neg (by decide), if_neg (by decide), if_neg (by decide), if_pos (by decide)]
        rfl
    · refine ⟨.inl (u 43 8), u, u 43 8, mg_up u 42 0 0, 0, ?_, ?_, rfl, Or.inl ⟨_, rfl, rfl, rfl⟩, z_I_thrown 0 hu⟩
      · unfold C_account
        rw [if_neg (by decide), if_neg (by decide), if_neg (by decide), if_neg (by decide), if_neg (by decide), if_neg (by decide), if_neg (by decide), if_neg (by decide), if_neg (by decide), if_neg (by decide), if_pos (by decide), show Lg_allGivenBack u = some (u 43 8) from by unfold Lg_allGivenBack; rw [rg_16_2, show u 17 (1 + 2) = u 43 8 from HL.2.2.1]; rfl]
        rfl
      · unfold M_account
        rw [z_min_yes (by decide)]
        simp only [Option.bind_some]
        rw [if_neg (by decide)]
        rw [if_neg (by decide), if_neg (by decide), if_neg (by decide), if_neg (by decide), if_neg (by decide), if_pos (by decide)]
        rfl
    · refine ⟨.inl (u 43 0), u, u 43 0, mg_up u 42 0 0, 0, ?_, ?_, rfl, Or.inl ⟨_, rfl, rfl, rfl⟩, z_I_thrown 0 hu⟩
      · unfold C_account
        rw [if_neg (by decide), if_neg (by decide), if_neg (by decide), if_neg (by decide), if_neg (by decide), if_neg (by decide), if_neg (by decide), if_neg (by decide), if_neg (by decide), if_neg (by decide), if_neg (by decide), if_pos (by decide), show Lg_day u = some (u 43 0) from by unfold Lg_day; rw [rg_16_0, show u 17 (1 + 0) = u 43 0 from HL.1]; rfl]
        rfl
      · unfold M_account
        rw [z_min_yes (by decide)]
        simp only [Option.bind_some]
        rw [if_neg (by decide)]
        rw [if_neg (by decide), if_neg (by decide), if_neg (by decide), if_neg (by decide), if_neg (by decide), if_neg (by decide), if_pos (by decide)]
        rfl
    · refine ⟨.inl (u 43 6), u, u 43 6, mg_up u 42 0 0, 0, ?_, ?_, rfl, Or.inl ⟨_, rfl, rfl, rfl⟩, z_I_thrown 0 hu⟩
      · unfold C_account
        rw [if_neg (by decide), if_neg (by decide), if_neg (by decide), if_neg (by decide), if_neg (by decide), if_neg (by decide), if_neg (by decide), if_neg (by decide), if_neg (by decide), if_neg (by decide), if_neg (by decide), if_neg (by decide), if_pos (by decide), show T_count_30 u = some (u 43 6) from congrArg some (HA.2.1.trans HA.2.2.1.symm)]
        rfl
      · unfold M_account
        rw [z_min_yes (by decide)]
        simp only [Option.bind_some]
        rw [if_neg (by decide)]
        rw [if_neg (by decide), if_neg (by decide), if_neg (by decide), if_neg (by decide), if_neg (by decide), if_neg (by decide), if_neg (by decide), if_pos (by decide)]
        rfl
  · have d : b < 0 ∨ (11 : Int32) < b := d
    have dt : b.toInt < 0 ∨ 11 < b.toInt := by
      rw [Int32.lt_iff_toInt_lt, Int32.lt_iff_toInt_lt] at d
      exact d
    refine ⟨.inr 1, u, 0, mg_up u 42 0 1, 1, ?_, ?_, rfl, Or.inr ⟨rfl, rfl⟩, z_I_thrown 1 hu⟩
    · unfold C_account
      rw [if_pos dt]
    · unfold M_account
      rw [z_min_no d]
      rfl
theorem ob_26 : Ob_26 z_I := by
  intro u hu a
  obtain ⟨nh, np, ns, nq, nd, na, HH, HP, HS, HQ, HD, HC, HA, HT, HL⟩ := hu.1
  by_cases h1 : ∃ x, x < 8 ∧ a = nN x
  · obtain ⟨x, hx, rfl⟩ := h1
    refine ⟨.inl (s_keptC (u 43) (nN x)), u, s_keptC (u 43) (nN x), mg_up u 42 0 0, 0, ?_, ?_, rfl, Or.inl ⟨_, rfl, rfl, rfl⟩, z_I_thrown 0 hu⟩
    · unfold C_keptAgain
      rw [(ccy_yes hx).2.1]
      simp only [Option.bind_some]
      rw [c_keptC HH HD]
      rfl
    · unfold M_keptAgain
      rw [(ccy_yes hx).2.2]
      simp only [Option.bind_some]
      rw [if_neg (by decide), m_keptC HH HD]
      rfl
  · have h1' : ∀ x < 8, a ≠ nN x := fun x hx e => h1 ⟨x, hx, e⟩
    refine ⟨.inr 0, u, 0, mg_up u 42 0 1, 1, ?_, ?_, rfl, Or.inr ⟨rfl, rfl⟩, z_I_thrown 1 hu⟩
    · unfold C_keptAgain
      rw [(ccy_no h1').2.1]
      rfl
    · unfold M_keptAgain
      rw [(ccy_no h1').2.2]
      rfl
theorem ob_27 : Ob_27 z_I := by
  intro u hu a
  obtain ⟨nh, np, ns, nq, nd, na, HH, HP, HS, HQ, HD, HC, HA, HT, HL⟩ := hu.1
  have hN := HH.1
  by_cases h1 : ∃ x, x < nh ∧ a = nN x
  · obtain ⟨x, hx, rfl⟩ := h1
    refine ⟨.inl (s_keptU (u 43) x), u, s_keptU (u 43) x, mg_up u 42 0 0, 0, ?_, ?_, rfl, Or.inl ⟨_, rfl, rfl, rfl⟩, z_I_thrown 0 hu⟩
    · unfold C_keptUnder
      rw [crH_yes (by omega) HH.2.1 hx]
      simp only [Option.bind_some]
      rw [c_keptU HH HD]
      rfl
    · unfold M_keptUnder
      rw [mrH_yes (by omega) HH.2.2.1 hx]
      simp only [Option.bind_some]
      rw [if_neg (by decide), m_keptU HH HD x (by omega)]
      rfl
  · have h1' : ∀ x < nh, a ≠ nN x := fun x hx e => h1 ⟨x, hx, e⟩
    refine ⟨.inr 0, u, 0, mg_up u 42 0 1, 1, ?_, ?_, rfl, Or.inr ⟨rfl, rfl⟩, z_I_thrown 1 hu⟩
    · unfold C_keptUnder
      rw [crH_no (by omega) HH.2.1 h1']
      rfl
    · unfold M_keptUnder
      rw [mrH_no (by omega) HH.2.2.1 h1']
      rfl
/-! the two fractions -/
theorem z_dn {x : UInt64} (h : FP.Core.dIsNaN x = false) : x &&& 0x7fffffffffffffff ≤ 0x7ff0000000000000 := by
  rw [UInt64.le_iff_toNat_le, UInt64.toNat_and, show (0x7fffffffffffffff : UInt64).toNat = 2 ^ 63 - 1 from rfl, Nat.and_two_pow_sub_one_eq_mod]
  exact (FP.Core.ne_nan x).mp ((FP.Core.notNaN_iff x).mp h)
theorem z_fn {x : UInt32} (h : FP.Core.fIsNaN x = false) : x &&& 0x7fffffff ≤ 0x7f800000 := by
  rw [UInt32.le_iff_toNat_le, UInt32.toNat_and, show (0x7fffffff : UInt32).toNat = 2 ^ 31 - 1 from rfl, Nat.and_two_pow_sub_one_eq_mod]
  refine Nat.le_of_not_lt (fun q => ?_)
  have := (FP.Core.isNaN_bits32 x).mpr q
  rw [h] at this
  cases this
theorem z_dq {a b : Int32} (hb : ¬ b = 0) : FP.Core.dIsNaN (FP.ddiv (FP.i2d a) (FP.i2d b)) = false := by
  refine FP.Core.ddiv_out (FP.Core.i2d_fin a).notNaN (FP.Core.i2d_fin b) (fun q => ?_)
  exact FP.Core.i2d_ne_zero hb ((FP.Core.zero_bits2 _).mp q)
theorem z_fq {a b : Int32} (hb : ¬ b = 0) : FP.Core.fIsNaN (FP.fdiv (FP.i2f a) (FP.i2f b)) = false := by
  refine FP.Core.fdiv_out (FP.Core.i2f_fin a).notNaN (FP.Core.i2f_fin b) (fun q => ?_)
  exact FP.Core.i2f_ne_zero hb ((FP.Core.zero_bits232 _).mp q)
theorem z_df {x : UInt32} (h : FP.Core.fIsNaN x = false) : FP.f2d x &&& 0x7fffffffffffffff ≤ 0x7ff0000000000000 ∧ Op.cmpValue (FP.dcmp (FP.f2d x) (FP.f2d x)) .l = 0 := by
  have h2 : FP.Core.dIsNaN (FP.f2d x) = false := (FP.f2d_nan x).trans h
  refine ⟨z_dn h2, ?_⟩
  rw [show FP.dcmp (FP.f2d x) (FP.f2d x) = some .eq from FP.Core.dcmp_refl h2]
  rfl
theorem ob_28 : Ob_28 z_I := by
  intro u hu
  obtain ⟨nh, np, ns, nq, nd, na, HH, HP, HS, HQ, HD, HC, HA, HT, HL⟩ := hu.1
  have e1 : Lg_found u = some (u 43 7) := by unfold Lg_found; rw [rg_16_1, show u 17 (1 + 1) = u 43 7 from HL.2.1]; rfl
  have e2 : Lg_allGivenBack u = some (u 43 8) := by unfold Lg_allGivenBack; rw [rg_16_2, show u 17 (1 + 2) = u 43 8 from HL.2.2.1]; rfl
  by_cases h : u 43 7 = 0
  · refine ⟨.inr 5, u, FP.dconst0, mg_up u 42 0 1, 1, ?_, ?_, rfl, Or.inr ⟨rfl, rfl⟩, z_I_thrown 1 hu⟩
    · unfold C_givenBack
      rw [e1]
      simp only [Option.bind_some]
      rw [if_pos h]
    · unfold M_givenBack
      rw [if_pos h]
  · have hq := z_dn (z_dq (a := u 43 8) h)
    refine ⟨.inl (FP.ddiv (FP.i2d (u 43 8)) (FP.i2d (u 43 7))), u, FP.ddiv (FP.i2d (u 43 8)) (FP.i2d (u 43 7)), mg_up u 42 0 0, 0, ?_, ?_, rfl, Or.inl ⟨_, rfl, rfl, rfl⟩, z_I_thrown 0 hu⟩
    · unfold C_givenBack
      rw [e1, e2]
      simp only [Option.bind_some]
      rw [if_neg h, if_pos hq]
    · unfold M_givenBack
      rw [if_neg h, z_up_ne (by decide), if_pos hq]
theorem ob_29 : Ob_29 z_I := by
  intro u hu
  obtain ⟨nh, np, ns, nq, nd, na, HH, HP, HS, HQ, HD, HC, HA, HT, HL⟩ := hu.1
  have e1 : Lg_found u = some (u 43 7) := by unfold Lg_found; rw [rg_16_1, show u 17 (1 + 1) = u 43 7 from HL.2.1]; rfl
  have e2 : Lg_allGivenBack u = some (u 43 8) := by unfold Lg_allGivenBack; rw [rg_16_2, show u 17 (1 + 2) = u 43 8 from HL.2.2.1]; rfl
  have e3 := c_values HH HD
  have e4 := m_values HH HD
  by_cases h : s_values (u 43) = 0
  · refine ⟨.inr 5, u, FP.fconst0, mg_up u 42 0 1, 1, ?_, ?_, rfl, Or.inr ⟨rfl, rfl⟩, z_I_thrown 1 hu⟩
    · unfold C_meanRate
      rw [e3]
      simp only [Option.bind_some]
      rw [if_pos h]
    · unfold M_meanRate
      rw [e4]
      simp only [Option.bind_some]
      rw [if_pos h]
  · have hn := z_fq (a := u 43 7 - u 43 8) h
    have hq := z_fn hn
    refine ⟨.inl (FP.fdiv (FP.i2f (u 43 7 - u 43 8)) (FP.i2f (s_values (u 43)))), u, FP.fdiv (FP.i2f (u 43 7 - u 43 8)) (FP.i2f (s_values (u 43))), mg_up u 42 0 0, 0, ?_, ?_, rfl, Or.inl ⟨_, rfl, rfl, rfl, z_df hn⟩, z_I_thrown 0 hu⟩
    · unfold C_meanRate
      rw [e3, e1, e2]
      simp only [Option.bind_some]
      rw [if_neg h, if_pos hq]
    · unfold M_meanRate
      rw [e4]
      simp only [Option.bind_some]
      rw [if_neg h, z_up_ne (by decide), if_pos hq]
