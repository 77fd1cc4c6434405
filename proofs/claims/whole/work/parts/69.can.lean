/-! WHETHER THE ENTRIES CAN BE DECLARED. t: the reference's row of entries -/
def s_in (v lo hi : Int32) : Bool := !(decide (v < lo) || decide (hi < v))
def s_cty (c : Int32) : Bool := s_in c 0 7
theorem z_win_s (v lo hi : Int32) (u : mg_Rg) : C_isWithin v lo hi u = some (if s_in v lo hi = true then 1 else 0) := z_win_b
theorem z_min_s (v lo hi : Int32) (u : mg_Rg) : M_in v lo hi u = some (if s_in v lo hi = true then 1 else 0) := z_min_b
theorem z_b01 (b : Bool) : (if (if b = true then (1 : Int32) else 0) = 0 ∨ (if b = true then (1 : Int32) else 0) = 1 then some (if b = true then (1 : Int32) else 0) else none) = some (if b = true then 1 else 0) := by cases b <;> rfl
theorem c_cty (c : Int32) (u : mg_Rg) : C_isCountry c u = some (if s_cty c = true then 1 else 0) := by
  unfold C_isCountry
  rw [z_win_s]
  exact z_b01 _
theorem m_cty (c : Int32) (u : mg_Rg) : M_isCountry c u = some (if s_cty c = true then 1 else 0) := by
  unfold M_isCountry
  rw [z_min_s]
  exact z_b01 _
theorem s_cty_at {c : Int32} (h : s_cty c = true) : ∃ r < 8, c = nN r := by
  have hn : ¬ (c < nN 0 ∨ nN 7 < c) := by
    unfold s_cty s_in at h
    rintro (q | q)
    · rw [decide_eq_true (show c < 0 from q)] at h
      cases h
    · rw [decide_eq_true (show (7 : Int32) < c from q), Bool.or_true] at h
      cases h
  obtain ⟨l, l1, l2, l3⟩ := z_winN (lo := 0) (hi := 7) (by omega) (by omega) hn
  exact ⟨l, by omega, l3⟩
theorem s_in_no {v lo hi : Int32} (h : s_in v lo hi = false) : v < lo ∨ hi < v := by
  by_cases q : v < lo ∨ hi < v
  · exact q
  · unfold s_in at h
    rw [decide_eq_false (fun r => q (Or.inl r)), decide_eq_false (fun r => q (Or.inr r))] at h
    cases h
theorem s_in_yes {v lo hi : Int32} (h : s_in v lo hi = true) : ¬ (v < lo ∨ hi < v) := by
  unfold s_in at h
  rintro (q | q)
  · rw [decide_eq_true q] at h
    cases h
  · rw [decide_eq_true q, Bool.or_true] at h
    cases h
def EC (e b : Nat) (u : mg_Rg) (t : z_Ro) : Prop := u 40 (1 + e * 13) = t b ∧ u 40 (1 + e * 13 + 1) = t (b + 1) ∧ u 40 (1 + e * 13 + 2) = t (b + 10) ∧ u 40 (1 + e * 13 + 3) = t (b + 11) ∧ ∃ k, 1 ≤ k ∧ k ≤ 4 ∧ u 40 (1 + e * 13 + 4) = nN k ∧ t (b + 12) = nN k ∧ ∀ j < k, u 40 (1 + e * 13 + 5 + 2 * j) = t (b + 2 + 2 * j) ∧ u 40 (1 + e * 13 + 5 + 2 * j + 1) = t (b + 3 + 2 * j)
def s_pbad (t : z_Ro) (b i : Nat) : Bool := !(s_cty (t (b + 2 + 2 * i)) && s_in (t (b + 3 + 2 * i)) 1 9999)
def s_kp (t : z_Ro) (b : Nat) : Nat := (t (b + 12)).toNatClampNeg
def s_can (g t : z_Ro) (b : Nat) : Bool := decide (s_children g (s_coded g (t b)) = 0) && (s_in (t (b + 1)) 1 999 && (s_in (t (b + 10)) 0 2 && ((decide (t (b + 11) = -1) || s_in (t (b + 11)) 0 (g 4 - 1)) && !(s_or (s_pbad t b) (s_kp t b) 0))))
theorem c_known {nh N : Nat} {g t : z_Ro} {u : mg_Rg} (HH : tH nh (u 4) g) (hN : N ≤ 7) (h40 : u 40 0 = nN N) (hE : ∀ j < N, u 40 (1 + j * 13) = t (14 * j)) : C_areCodesKnown u = some (if s_or (fun j => decide (s_coded g (t (14 * j)) = -1)) N 0 = true then 0 else 1) := by
  have h1 : T_count_39 u = some (nN N) := by rw [← h40]; rfl
  have hl : ∀ r m k, k + r = N → r < m → ∃ q, C_areCodesKnown_L2 m (nN k) u = some q ∧ q.elim (fun _ => (1 : Int32)) id = if s_or (fun j => decide (s_coded g (t (14 * j)) = -1)) r k = true then 0 else 1 := by
    intro r
    induction r with
    | zero =>
      intro m k hk hm
      cases m with
      | zero => omega
      | succ m =>
        unfold C_areCodesKnown_L2
        rw [h1]
        simp only [Option.bind_some]
        rw [if_pos ((z_le (by omega) (by omega)).mpr (by omega))]
        exact ⟨_, rfl, rfl⟩
    | succ r ih =>
      intro m k hk hm
      cases m with
      | zero => omega
      | succ m =>
        have i1 := ih m (k + 1) (by omega) (by omega)
        unfold C_areCodesKnown_L2 s_or
        rw [h1]
        simp only [Option.bind_some]
        rw [if_neg (z_nle (by omega) (by omega) (by omega)), rg_39_0 (by omega), hE k (by omega)]
        simp only [Option.bind_some]
        rw [c_coded HH]
        simp only [Option.bind_some, zo_1]
        by_cases h : s_coded g (t (14 * k)) = -1
        · rw [if_pos h, decide_eq_true h]
          exact ⟨_, rfl, rfl⟩
        · rw [if_neg h, decide_eq_false h]
          exact i1
  obtain ⟨q, h3, h4⟩ := hl N mg_F 0 (by omega) (by show N < 6000; omega)
  unfold C_areCodesKnown
  rw [show C_areCodesKnown_L2 mg_F 0 u = _ from h3, ← h4]
  cases q <;> rfl
theorem m_known {nh N : Nat} {f : z_Ro} {w : mg_Rg} (HH : tH nh f (w 43)) (hN : N ≤ 7) : M_lodge_L112 mg_F (nN N) 1 0 w = some (if s_or (fun j => decide (s_coded (w 43) (w 49 (14 * j)) = -1)) N 0 = true then 0 else 1, w) := by
  have hl : ∀ r m k (b : Bool), k + r = N → r < m → M_lodge_L112 m (nN N) (if b = true then 0 else 1) (nN k) w = some (if (b || s_or (fun j => decide (s_coded (w 43) (w 49 (14 * j)) = -1)) r k) = true then 0 else 1, w) := by
    intro r
    induction r with
    | zero =>
      intro m k b hk hm
      cases m with
      | zero => omega
      | succ m =>
        unfold M_lodge_L112
        rw [if_pos ((z_le (by omega) (by omega)).mpr (by omega))]
        cases b <;> rfl
    | succ r ih =>
      intro m k b hk hm
      cases m with
      | zero => omega
      | succ m =>
        unfold M_lodge_L112 s_or
        rw [if_neg (z_nle (by omega) (by omega) (by omega)), show (14 : Int32) * nN k = nN (14 * k) by rw [show (14 : Int32) = nN 14 from rfl, z_mulN], z_g840 (by omega), z_nat (by omega), m_coded HH]
        simp only [Option.bind_some, zo_1]
        by_cases h : s_coded (w 43) (w 49 (14 * k)) = -1
        · have e : (if b = true then (0 : Int32) else 1) &&& 0 = if true = true then 0 else 1 := by cases b <;> rfl
          rw [if_pos h, decide_eq_true h, e, ih m (k + 1) true (by omega) (by omega)]
          cases b <;> rfl
        · have e : (if b = true then (0 : Int32) else 1) &&& 1 = if b = true then 0 else 1 := by cases b <;> rfl
          rw [if_neg h, decide_eq_false h, e, ih m (k + 1) b (by omega) (by omega)]
          rfl
  have := hl N mg_F 0 false (by omega) (by show N < 6000; omega)
  rw [Bool.false_or] at this
  exact this
theorem c_partnum {e i k c : Nat} {u : mg_Rg} (he : e < 8) (hi : i < 4) : X_partNumber (nN e) (nN i) 0 u = some (u 40 (1 + e * 13 + 5 + 2 * i)) ∧ X_partNumber (nN e) (nN i) 1 u = some (u 40 (1 + e * 13 + 5 + 2 * i + 1)) := by
  constructor
  · unfold X_partNumber
    rw [x_col0]
    simp only [Option.bind_some]
    rw [tg_39 he (by omega), show 1 + e * 13 + (5 + 2 * i) = 1 + e * 13 + 5 + 2 * i by omega]
    rfl
  · unfold X_partNumber
    rw [x_col1]
    simp only [Option.bind_some]
    rw [tg_39 he (by omega), show 1 + e * 13 + (5 + 2 * i + 1) = 1 + e * 13 + 5 + 2 * i + 1 by omega]
    rfl
theorem c_ranges {e b : Nat} {t : z_Ro} {u : mg_Rg} (he : e < 8) (hE : EC e b u t) : C_areEntryPartsInRange (nN e) u = some (if s_or (s_pbad t b) (s_kp t b) 0 = true then 0 else 1) := by
  obtain ⟨-, -, -, -, K, k1, k2, k3, k4, k5⟩ := hE
  have hK : s_kp t b = K := by
    unfold s_kp
    rw [k4, z_nat (by omega)]
  have hl : ∀ r m i, i + r = K → r < m → ∃ q, C_areEntryPartsInRange_L2 m (nN e) (nN i) u = some q ∧ q.elim (fun _ => (1 : Int32)) id = if s_or (s_pbad t b) r i = true then 0 else 1 := by
    intro r
    induction r with
    | zero =>
      intro m i hi hm
      cases m with
      | zero => omega
      | succ m =>
        unfold C_areEntryPartsInRange_L2
        rw [rg_39_4 he, k3]
        simp only [Option.bind_some]
        rw [if_pos ((z_le (by omega) (by omega)).mpr (by omega))]
        exact ⟨_, rfl, rfl⟩
    | succ r ih =>
      intro m i hi hm
      cases m with
      | zero => omega
      | succ m =>
        have i1 := ih m (i + 1) (by omega) (by omega)
        obtain ⟨p0, p1⟩ := c_partnum (k := 0) (c := 0) (u := u) he (show i < 4 by omega)
        obtain ⟨q0, q1⟩ := k5 i (by omega)
        unfold C_areEntryPartsInRange_L2 s_or
        rw [rg_39_4 he, k3]
        simp only [Option.bind_some]
        rw [if_neg (z_nle (by omega) (by omega) (by omega)), p0, q0]
        simp only [Option.bind_some]
        rw [c_cty]
        simp only [Option.bind_some, z_bz]
        have e1 : s_pbad t b i = !(s_cty (t (b + 2 + 2 * i)) && s_in (t (b + 3 + 2 * i)) 1 9999) := rfl
        cases h1 : s_cty (t (b + 2 + 2 * i)) with
        | false =>
          rw [h1] at e1
          rw [if_pos (rfl : false = false), e1]
          exact ⟨_, rfl, rfl⟩
        | true =>
          rw [h1] at e1
          rw [if_neg z_tf, p1, q1]
          simp only [Option.bind_some]
          rw [z_win_s]
          simp only [Option.bind_some, z_bz, zo_1]
          cases h2 : s_in (t (b + 3 + 2 * i)) 1 9999 with
          | false =>
            rw [h2] at e1
            rw [if_pos (rfl : false = false), e1]
            exact ⟨_, rfl, rfl⟩
          | true =>
            rw [h2] at e1
            rw [if_neg z_tf, e1]
            exact i1
  obtain ⟨q, h3, h4⟩ := hl K mg_F 0 (by omega) (by show K < 6000; omega)
  unfold C_areEntryPartsInRange
  rw [hK, show C_areEntryPartsInRange_L2 mg_F (nN e) 0 u = _ from h3, ← h4]
  cases q <;> rfl
theorem c_hasq {nq : Nat} {g : z_Ro} {u : mg_Rg} (HQ : tQ nq (u 23) g) (v : Int32) : T_has_22 v u = some (if s_in v 0 (g 4 - 1) = true then 1 else 0) := by
  have hQ6 := HQ.1
  by_cases h : ∃ r, r < nq ∧ v = nN r
  · obtain ⟨r, hr, rfl⟩ := h
    obtain ⟨c1, -, c3⟩ := z_row1 (n := nq) (by omega) hr
    rw [chQ_yes (by omega) HQ.2.1 hr]
    have : s_in (nN r) 0 (g 4 - 1) = true := by
      unfold s_in
      rw [HQ.2.2.1, decide_eq_false c1, decide_eq_false c3]
      rfl
    rw [this]
    rfl
  · have h' : ∀ r < nq, v ≠ nN r := fun r hr e => h ⟨r, hr, e⟩
    obtain ⟨-, c⟩ := z_row2 (n := nq) (by omega) h'
    rw [chQ_no (by omega) HQ.2.1 h']
    have : s_in v 0 (g 4 - 1) = false := by
      unfold s_in
      rw [HQ.2.2.1]
      rcases c with c | c
      · rw [decide_eq_true c]
        rfl
      · rw [decide_eq_true c, Bool.or_true]
        rfl
    rw [this]
    rfl
theorem c_can {nh nq e b : Nat} {g t : z_Ro} {u : mg_Rg} (HH : tH nh (u 4) g) (HQ : tQ nq (u 23) g) (he : e < 8) (hE : EC e b u t) : C_canDeclareEntry (nN e) u = some (if s_can g t b = true then 1 else 0) := by
  have hr := c_ranges he hE
  obtain ⟨e0, e1, e2, e3, -⟩ := hE
  unfold C_canDeclareEntry s_can
  rw [rg_39_3 he, rg_39_0 he, rg_39_1 he, rg_39_2 he, e3, show u 40 (1 + e * 13) = t b from e0, e1, e2]
  simp only [Option.bind_some]
  rw [c_coded HH]
  simp only [Option.bind_some]
  rw [c_children HH]
  simp only [Option.bind_some]
  by_cases h1 : s_children g (s_coded g (t b)) = 0
  · rw [if_pos h1, decide_eq_true h1, z_win_s]
    simp only [Option.bind_some, z_bz]
    cases s_in (t (b + 1)) 1 999 with
    | false => rfl
    | true =>
      rw [if_neg z_tf, z_win_s]
      simp only [Option.bind_some, z_bz]
      cases s_in (t (b + 10)) 0 2 with
      | false => rfl
      | true =>
        rw [if_neg z_tf, hr]
        simp only [Option.bind_some]
        by_cases h3 : t (b + 11) = -1
        · rw [if_pos h3, decide_eq_true h3]
          cases s_or (s_pbad t b) (s_kp t b) 0 <;> rfl
        · rw [if_neg h3, decide_eq_false h3, c_hasq HQ]
          simp only [Option.bind_some, z_bz]
          cases s_in (t (b + 11)) 0 (g 4 - 1) with
          | false => rfl
          | true => cases s_or (s_pbad t b) (s_kp t b) 0 <;> rfl
  · rw [if_neg h1, decide_eq_false h1]
    rfl
theorem c_cans {nh nq nd N : Nat} {g t : z_Ro} {u : mg_Rg} (HH : tH nh (u 4) g) (HQ : tQ nq (u 23) g) (hd : nd ≤ 30) (h26 : u 26 0 = nN nd) (hN : N ≤ 7) (h40 : u 40 0 = nN N) (hE : ∀ j < N, EC j (14 * j) u t) :
    C_canDeclareEntries u = some (if (decide (nd + N ≤ 30) && !(s_or (fun j => !(s_can g t (14 * j))) N 0)) = true then 1 else 0) := by
  have h1 : T_count_39 u = some (nN N) := by rw [← h40]; rfl
  have h2 : T_count_25 u = some (nN nd) := by rw [← h26]; rfl
  have hl : ∀ r m k, k + r = N → r < m → ∃ q, C_canDeclareEntries_L30 m (nN k) u = some q ∧ q.elim (fun _ => (1 : Int32)) id = if s_or (fun j => !(s_can g t (14 * j))) r k = true then 0 else 1 := by
    intro r
    induction r with
    | zero =>
      intro m k hk hm
      cases m with
      | zero => omega
      | succ m =>
        unfold C_canDeclareEntries_L30
        rw [h1]
        simp only [Option.bind_some]
        rw [if_pos ((z_le (by omega) (by omega)).mpr (by omega))]
        exact ⟨_, rfl, rfl⟩
    | succ r ih =>
      intro m k hk hm
      cases m with
      | zero => omega
      | succ m =>
        have i1 := ih m (k + 1) (by omega) (by omega)
        unfold C_canDeclareEntries_L30 s_or
        rw [h1]
        simp only [Option.bind_some]
        rw [if_neg (z_nle (by omega) (by omega) (by omega)), c_can HH HQ (by omega) (hE k (by omega))]
        simp only [Option.bind_some, z_bz, zo_1]
        cases s_can g t (14 * k) with
        | false =>
          rw [if_pos (rfl : false = false)]
          exact ⟨_, rfl, rfl⟩
        | true =>
          rw [if_neg z_tf]
          exact i1
  obtain ⟨q, h3, h4⟩ := hl N mg_F 0 (by omega) (by show N < 6000; omega)
  unfold C_canDeclareEntries
  rw [h2, h1]
  simp only [Option.bind_some]
  rw [z_addN]
  have c30 : nN (nd + N) ≤ (30 : Int32) ↔ nd + N ≤ 30 := z_le (b := 30) (by omega) (by omega)
  by_cases hle : nd + N ≤ 30
  · rw [if_pos (c30.mpr hle), decide_eq_true hle, show C_canDeclareEntries_L30 mg_F 0 u = _ from h3]
    rw [Bool.true_and]
    cases hq : s_or (fun j => !(s_can g t (14 * j))) N 0 <;> rw [hq] at h4 <;> cases q <;> simp only [Option.bind_some] <;> exact congrArg some h4
  · rw [if_neg (fun h => hle (c30.mp h)), decide_eq_false hle]
    rfl
