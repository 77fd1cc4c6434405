/-! THE WAY UP FROM A HEADING, AND WHAT IS READ ON IT -/
theorem z_ne1 {h : Nat} (hh : h < 2147483648) : ¬ nN h = -1 := by
  intro e
  have e2 := congrArg Int32.toInt e
  rw [Int32.toInt_ofNat_of_lt hh] at e2
  have e3 : (-1 : Int32).toInt = -1 := rfl
  omega
theorem z_bz (b : Bool) : ((if b = true then (1 : Int32) else 0) = 0) ↔ b = false := by
  cases b <;> decide
theorem z_nle {a b : Nat} (ha : a < 2147483648) (hb : b < 2147483648) (h : b < a) : ¬ nN a ≤ nN b := fun q => absurd ((z_le ha hb).mp q) (by omega)
theorem z_n4 {a : Nat} (h : a < 4) : ¬ (4 : Int32) ≤ nN a := z_nle (a := 4) (by omega) (by omega) h
def z_way (g : z_Ro) (n : Nat) : List Nat → Int32 → Prop
  | [], x => x = -1
  | h :: L, x => h < n ∧ x = nN h ∧ z_way g n L (g (20 + 3 * h))
def s_way (g : z_Ro) : Nat → Int32 → List Nat
  | 0, _ => []
  | k + 1, x => if x = -1 then [] else x.toNatClampNeg :: s_way g k (g (20 + 3 * x.toNatClampNeg))
theorem s_way_top (g : z_Ro) : ∀ k, s_way g k (-1) = [] := by
  intro k
  cases k with
  | zero => rfl
  | succ k => exact if_pos rfl
theorem s_way_ok {g : z_Ro} {n : Nat} {v : Nat → Nat} (hn : n ≤ 20) (hl : z_lev n g v) : ∀ k h, h < n → v h ≤ k → z_way g n (s_way g k (nN h)) (nN h) ∧ (s_way g k (nN h)).length = v h := by
  intro k
  induction k with
  | zero =>
    intro h hh hk
    have := (hl h hh).1
    omega
  | succ k ih =>
    intro h hh hk
    obtain ⟨h1, h2, h3⟩ := hl h hh
    have e : s_way g (k + 1) (nN h) = h :: s_way g k (g (20 + 3 * h)) := by
      show (if nN h = -1 then [] else (nN h).toNatClampNeg :: s_way g k (g (20 + 3 * (nN h).toNatClampNeg))) = _
      rw [if_neg (z_ne1 (by omega)), z_nat (by omega)]
    rw [e]
    rcases h3 with ⟨h4, h5⟩ | ⟨p, h4, h5, h6⟩
    · rw [h4, s_way_top]
      exact ⟨⟨hh, rfl, h4⟩, by rw [h5]; rfl⟩
    · rw [h5]
      obtain ⟨q1, q2⟩ := ih p (by omega) (by omega)
      exact ⟨⟨hh, rfl, by rw [h5]; exact q1⟩, by rw [List.length_cons, q2, h6]⟩
def s_W (g : z_Ro) (x : Int32) : List Nat := s_way g 4 x
theorem s_W_ok {n h : Nat} {f g : z_Ro} (H : tH n f g) (hh : h < n) : z_way g n (s_W g (nN h)) (nN h) ∧ (s_W g (nN h)).length ≤ 4 := by
  obtain ⟨hn, -, -, -, v, hl⟩ := H
  have h4 := (hl h hh).2.1
  obtain ⟨h1, h2⟩ := s_way_ok hn hl 4 h hh h4
  exact ⟨h1, by rw [show (s_W g (nN h)).length = v h from h2]; exact h4⟩
def s_und (o : Int32) : List Nat → Bool
  | [] => false
  | h :: L => if nN h = o then true else s_und o L
def s_rat (g : z_Ro) : List Nat → Int32
  | [] => 0
  | h :: L => if g (20 + 3 * h + 2) = -1 then s_rat g L else g (20 + 3 * h + 2)
def s_cod (g : z_Ro) : List Nat → Int32 → Int32 → Int32
  | [], c, _ => c
  | h :: L, c, w => s_cod g L (c + w * g (20 + 3 * h + 1)) (w * 10)
def s_level (g : z_Ro) (x : Int32) : Int32 := nN (s_W g x).length
def s_under (g : z_Ro) (x o : Int32) : Bool := s_und o (s_W g x)
def s_rate (g : z_Ro) (x : Int32) : Int32 := s_rat g (s_W g x)
def s_code (g : z_Ro) (x : Int32) : Int32 := s_cod g (s_W g x) 0 1
/-- the reference's loops on the way -/
theorem ml_length {N : Nat} (hN : N ≤ 20) {u : mg_Rg} : ∀ (L : List Nat) (n a : Nat) (x : Int32), z_way (u 43) N L x → L.length < n → M_lengthOf_L4 n (nN a) x u = some (nN (a + L.length)) := by
  intro L
  induction L with
  | nil =>
    intro n a x hw hl
    cases n with
    | zero => exact absurd hl (Nat.not_lt_zero _)
    | succ n =>
      unfold M_lengthOf_L4
      rw [if_pos (show x = -1 from hw)]
      rfl
  | cons h L ih =>
    intro n a x hw hl
    obtain ⟨h1, rfl, h3⟩ := hw
    cases n with
    | zero => exact absurd hl (Nat.not_lt_zero _)
    | succ n =>
      unfold M_lengthOf_L4
      rw [if_neg (z_ne1 (by omega)), mheadAt_0 (by omega)]
      show M_lengthOf_L4 n (nN a + 1) (u 43 (20 + 3 * h)) u = _
      rw [zo_1, ih n (a + 1) _ h3 (Nat.lt_of_succ_lt_succ hl), List.length_cons, Nat.add_assoc, Nat.add_comm 1]
theorem ml_under {N : Nat} (hN : N ≤ 20) {u : mg_Rg} {o : Int32} : ∀ (L : List Nat) (n : Nat) (x : Int32), z_way (u 43) N L x → L.length < n → M_isUnder_L2 n o x u = some (if s_und o L = true then o else -1) := by
  intro L
  induction L with
  | nil =>
    intro n x hw hl
    cases n with
    | zero => exact absurd hl (Nat.not_lt_zero _)
    | succ n =>
      unfold M_isUnder_L2
      rw [if_pos (show x = -1 from hw), show x = -1 from hw]
      rfl
  | cons h L ih =>
    intro n x hw hl
    obtain ⟨h1, rfl, h3⟩ := hw
    cases n with
    | zero => exact absurd hl (Nat.not_lt_zero _)
    | succ n =>
      unfold M_isUnder_L2 s_und
      rw [if_neg (z_ne1 (by omega))]
      by_cases ho : nN h = o
      · rw [if_pos ho, if_pos ho, if_pos rfl, ho]
      · rw [if_neg ho, if_neg ho, mheadAt_0 (by omega)]
        exact ih n _ h3 (Nat.lt_of_succ_lt_succ hl)
theorem ml_rate {N : Nat} (hN : N ≤ 20) {u : mg_Rg} : ∀ (L : List Nat) (n : Nat) (x : Int32), z_way (u 43) N L x → L.length < n → ∃ y, M_rateAt_L2 n x u = some y ∧ ((y = -1 ∧ s_rat (u 43) L = 0) ∨ ∃ h < N, y = nN h ∧ s_rat (u 43) L = u 43 (20 + 3 * h + 2)) := by
  intro L
  induction L with
  | nil =>
    intro n x hw hl
    cases n with
    | zero => exact absurd hl (Nat.not_lt_zero _)
    | succ n =>
      refine ⟨x, ?_, Or.inl ⟨hw, rfl⟩⟩
      unfold M_rateAt_L2
      rw [if_pos (show x = -1 from hw)]
  | cons h L ih =>
    intro n x hw hl
    obtain ⟨h1, rfl, h3⟩ := hw
    cases n with
    | zero => exact absurd hl (Nat.not_lt_zero _)
    | succ n =>
      unfold M_rateAt_L2 s_rat
      rw [if_neg (z_ne1 (by omega)), mheadAt_2 (by omega), mheadAt_0 (by omega)]
      simp only [Option.bind_some]
      by_cases ho : u 43 (20 + 3 * h + 2) = -1
      · rw [if_pos ho, if_pos ho]
        exact ih n _ h3 (Nat.lt_of_succ_lt_succ hl)
      · rw [if_neg ho, if_neg ho]
        exact ⟨_, rfl, Or.inr ⟨h, h1, rfl, rfl⟩⟩
theorem ml_code {N : Nat} (hN : N ≤ 20) {u : mg_Rg} : ∀ (L : List Nat) (n : Nat) (c w x : Int32), z_way (u 43) N L x → L.length < n → M_codeOf_L7 n c w x u = some (s_cod (u 43) L c w) := by
  intro L
  induction L with
  | nil =>
    intro n c w x hw hl
    cases n with
    | zero => exact absurd hl (Nat.not_lt_zero _)
    | succ n =>
      unfold M_codeOf_L7
      rw [if_pos (show x = -1 from hw)]
      rfl
  | cons h L ih =>
    intro n c w x hw hl
    obtain ⟨h1, rfl, h3⟩ := hw
    cases n with
    | zero => exact absurd hl (Nat.not_lt_zero _)
    | succ n =>
      unfold M_codeOf_L7
      rw [if_neg (z_ne1 (by omega)), mheadAt_1 (by omega), mheadAt_0 (by omega)]
      exact ih n _ _ _ h3 (Nat.lt_of_succ_lt_succ hl)
/-- the class's -/
theorem cl_length {N : Nat} {u : mg_Rg} {g : z_Ro} (HH : tH N (u 4) g) : ∀ (L : List Nat) (n a : Nat) (x : Int32), z_way g N L x → L.length < n → a + L.length ≤ 4 → Tf_levelOf_L4 n (nN a) x u = some (nN (a + L.length)) := by
  have hN := HH.1
  intro L
  induction L with
  | nil =>
    intro n a x hw hl h4
    cases n with
    | zero => exact absurd hl (Nat.not_lt_zero _)
    | succ n =>
      unfold Tf_levelOf_L4
      rw [if_pos (show x = -1 from hw)]
      rfl
  | cons h L ih =>
    intro n a x hw hl h4
    obtain ⟨h1, rfl, h3⟩ := hw
    rw [List.length_cons] at h4
    cases n with
    | zero => exact absurd hl (Nat.not_lt_zero _)
    | succ n =>
      unfold Tf_levelOf_L4
      rw [if_neg (z_ne1 (by omega)), if_neg (z_n4 (by omega)), cH_0 HH h1]
      show Tf_levelOf_L4 n (nN a + 1) (g (20 + 3 * h)) u = _
      rw [zo_1, ih n (a + 1) _ h3 (Nat.lt_of_succ_lt_succ hl) (by omega), List.length_cons, Nat.add_assoc, Nat.add_comm 1]
theorem cl_under {N : Nat} {u : mg_Rg} {g : z_Ro} (HH : tH N (u 4) g) {o : Int32} : ∀ (L : List Nat) (n a : Nat) (x : Int32), z_way g N L x → L.length < n → a + L.length ≤ 4 → ∃ q, Tf_isUnder_L5 n o x (nN a) u = some q ∧ q.elim (fun _ => (0 : Int32)) id = if s_und o L = true then 1 else 0 := by
  have hN := HH.1
  intro L
  induction L with
  | nil =>
    intro n a x hw hl h4
    cases n with
    | zero => exact absurd hl (Nat.not_lt_zero _)
    | succ n =>
      unfold Tf_isUnder_L5
      rw [if_pos (show x = -1 from hw)]
      exact ⟨_, rfl, rfl⟩
  | cons h L ih =>
    intro n a x hw hl h4
    obtain ⟨h1, rfl, h3⟩ := hw
    rw [List.length_cons] at h4
    cases n with
    | zero => exact absurd hl (Nat.not_lt_zero _)
    | succ n =>
      unfold Tf_isUnder_L5 s_und
      rw [if_neg (z_ne1 (by omega)), if_neg (z_n4 (by omega)), cH_0 HH h1]
      by_cases ho : nN h = o
      · rw [if_pos ho, if_pos ho]
        exact ⟨_, rfl, rfl⟩
      · rw [if_neg ho, if_neg ho]
        show ∃ q, Tf_isUnder_L5 n o (g (20 + 3 * h)) (nN a + 1) u = some q ∧ _
        rw [zo_1]
        exact ih n (a + 1) _ h3 (Nat.lt_of_succ_lt_succ hl) (by omega)
theorem cl_rate {N : Nat} {u : mg_Rg} {g : z_Ro} (HH : tH N (u 4) g) : ∀ (L : List Nat) (n a : Nat) (x : Int32), z_way g N L x → L.length < n → a + L.length ≤ 4 → ∃ q, Tf_rateOfHeading_L4 n x (nN a) u = some q ∧ q.elim (fun _ => (0 : Int32)) id = s_rat g L := by
  have hN := HH.1
  intro L
  induction L with
  | nil =>
    intro n a x hw hl h4
    cases n with
    | zero => exact absurd hl (Nat.not_lt_zero _)
    | succ n =>
      unfold Tf_rateOfHeading_L4
      rw [if_pos (show x = -1 from hw)]
      exact ⟨_, rfl, rfl⟩
  | cons h L ih =>
    intro n a x hw hl h4
    obtain ⟨h1, rfl, h3⟩ := hw
    rw [List.length_cons] at h4
    cases n with
    | zero => exact absurd hl (Nat.not_lt_zero _)
    | succ n =>
      unfold Tf_rateOfHeading_L4 s_rat
      rw [if_neg (z_ne1 (by omega)), if_neg (z_n4 (by omega)), cH_0 HH h1, cH_2 HH h1]
      simp only [Option.bind_some]
      by_cases ho : g (20 + 3 * h + 2) = -1
      · rw [if_pos ho, if_pos ho, zo_1]
        exact ih n (a + 1) _ h3 (Nat.lt_of_succ_lt_succ hl) (by omega)
      · rw [if_neg ho, if_neg ho]
        exact ⟨_, rfl, rfl⟩
theorem cl_code {N : Nat} {u : mg_Rg} {g : z_Ro} (HH : tH N (u 4) g) : ∀ (L : List Nat) (n a : Nat) (c w x : Int32), z_way g N L x → L.length < n → a + L.length ≤ 4 → Tf_codeOf_L10 n c w x (nN a) u = some (s_cod g L c w) := by
  have hN := HH.1
  intro L
  induction L with
  | nil =>
    intro n a c w x hw hl h4
    cases n with
    | zero => exact absurd hl (Nat.not_lt_zero _)
    | succ n =>
      unfold Tf_codeOf_L10
      rw [if_pos (show x = -1 from hw)]
      rfl
  | cons h L ih =>
    intro n a c w x hw hl h4
    obtain ⟨h1, rfl, h3⟩ := hw
    rw [List.length_cons] at h4
    cases n with
    | zero => exact absurd hl (Nat.not_lt_zero _)
    | succ n =>
      unfold Tf_codeOf_L10
      rw [if_neg (z_ne1 (by omega)), if_neg (z_n4 (by omega)), cH_0 HH h1, cH_1 HH h1]
      show Tf_codeOf_L10 n (c + w * g (20 + 3 * h + 1)) (w * 10) (g (20 + 3 * h)) (nN a + 1) u = _
      rw [zo_1]
      exact ih n (a + 1) _ _ _ h3 (Nat.lt_of_succ_lt_succ hl) (by omega)
theorem z_F4 {k : Nat} (h : k ≤ 4) : k < mg_F := by show k < 6000; omega
/-- all of it by headings -/
theorem m_level {N h : Nat} {f : z_Ro} {u : mg_Rg} (HH : tH N f (u 43)) (hh : h < N) : M_lengthOf (nN h) u = some (s_level (u 43) (nN h)) := by
  obtain ⟨h1, h2⟩ := s_W_ok HH hh
  unfold M_lengthOf
  rw [show M_lengthOf_L4 mg_F 0 (nN h) u = _ from ml_length HH.1 _ mg_F 0 _ h1 (z_F4 h2), Nat.zero_add]
  rfl
theorem c_level {N h : Nat} {g : z_Ro} {u : mg_Rg} (HH : tH N (u 4) g) (hh : h < N) : Tf_levelOf (nN h) u = some (s_level g (nN h)) := by
  obtain ⟨h1, h2⟩ := s_W_ok HH hh
  unfold Tf_levelOf
  rw [show Tf_levelOf_L4 mg_F 0 (nN h) u = _ from cl_length HH _ mg_F 0 _ h1 (z_F4 h2) (by omega), Nat.zero_add]
  rfl
theorem m_under {N h : Nat} {f : z_Ro} {u : mg_Rg} (HH : tH N f (u 43)) (hh : h < N) {o : Int32} (ho : ¬ o = -1) : M_isUnder (nN h) o u = some (if s_under (u 43) (nN h) o = true then 1 else 0) := by
  obtain ⟨h1, h2⟩ := s_W_ok HH hh
  unfold M_isUnder s_under
  rw [ml_under HH.1 _ mg_F _ h1 (z_F4 h2)]
  simp only [Option.bind_some]
  cases s_und o (s_W (u 43) (nN h)) with
  | true =>
    show (if o = o then some (1 : Int32) else some 0) = some 1
    rw [if_pos rfl]
  | false =>
    show (if (-1 : Int32) = o then some (1 : Int32) else some 0) = some 0
    rw [if_neg (fun q => ho q.symm)]
theorem c_under {N h : Nat} {g : z_Ro} {u : mg_Rg} (HH : tH N (u 4) g) (hh : h < N) (o : Int32) : Tf_isUnder (nN h) o u = some (if s_under g (nN h) o = true then 1 else 0) := by
  obtain ⟨h1, h2⟩ := s_W_ok HH hh
  obtain ⟨q, h3, h4⟩ := cl_under HH (o := o) _ mg_F 0 _ h1 (z_F4 h2) (by omega)
  unfold Tf_isUnder s_under
  rw [show Tf_isUnder_L5 mg_F o (nN h) 0 u = _ from h3, ← h4]
  cases q <;> rfl
theorem m_rate {N h : Nat} {f : z_Ro} {u : mg_Rg} (HH : tH N f (u 43)) (hh : h < N) : M_rateAt (nN h) u = some (s_rate (u 43) (nN h)) := by
  have hN := HH.1
  obtain ⟨h1, h2⟩ := s_W_ok HH hh
  obtain ⟨y, h3, h4⟩ := ml_rate HH.1 _ mg_F _ h1 (z_F4 h2)
  unfold M_rateAt s_rate
  rw [h3]
  simp only [Option.bind_some]
  rcases h4 with ⟨rfl, h5⟩ | ⟨k, h5, rfl, h6⟩
  · rw [if_pos rfl, h5]
  · rw [if_neg (z_ne1 (by omega)), h6, mheadAt_2 (by omega)]
    rfl
theorem c_rate {N h : Nat} {g : z_Ro} {u : mg_Rg} (HH : tH N (u 4) g) (hh : h < N) : Tf_rateOfHeading (nN h) u = some (s_rate g (nN h)) := by
  obtain ⟨h1, h2⟩ := s_W_ok HH hh
  obtain ⟨q, h3, h4⟩ := cl_rate HH _ mg_F 0 _ h1 (z_F4 h2) (by omega)
  unfold Tf_rateOfHeading s_rate
  rw [show Tf_rateOfHeading_L4 mg_F (nN h) 0 u = _ from h3, ← h4]
  cases q <;> rfl
theorem m_code {N h : Nat} {f : z_Ro} {u : mg_Rg} (HH : tH N f (u 43)) (hh : h < N) : M_codeOf (nN h) u = some (s_code (u 43) (nN h)) := by
  obtain ⟨h1, h2⟩ := s_W_ok HH hh
  unfold M_codeOf
  rw [ml_code HH.1 _ mg_F _ _ _ h1 (z_F4 h2)]
  rfl
theorem c_code {N h : Nat} {g : z_Ro} {u : mg_Rg} (HH : tH N (u 4) g) (hh : h < N) : Tf_codeOf (nN h) u = some (s_code g (nN h)) := by
  obtain ⟨h1, h2⟩ := s_W_ok HH hh
  unfold Tf_codeOf
  rw [show Tf_codeOf_L10 mg_F 0 1 (nN h) 0 u = _ from cl_code HH _ mg_F 0 _ _ _ h1 (z_F4 h2) (by omega)]
  rfl
/-! LOOPS OVER ROWS -/
def s_fold {α : Type} (f : Nat → α → α) : Nat → Nat → α → α
  | 0, _, a => a
  | r + 1, k, a => s_fold f r (k + 1) (f k a)
def s_or (P : Nat → Bool) : Nat → Nat → Bool
  | 0, _ => false
  | r + 1, k => P k || s_or P r (k + 1)
def s_first (P : Nat → Bool) : Nat → Nat → Int32
  | 0, _ => -1
  | r + 1, k => if P k = true then nN k else s_first P r (k + 1)
theorem s_first_or (P : Nat → Bool) : ∀ r k, s_first P r k = -1 ∨ ∃ h, k ≤ h ∧ h < k + r ∧ s_first P r k = nN h := by
  intro r
  induction r with
  | zero => exact fun k => Or.inl rfl
  | succ r ih =>
    intro k
    unfold s_first
    cases P k with
    | true => exact Or.inr ⟨k, by omega, by omega, rfl⟩
    | false =>
      rcases ih (k + 1) with h | ⟨h, h1, h2, h3⟩
      · exact Or.inl h
      · exact Or.inr ⟨h, by omega, by omega, h3⟩
theorem s_fold_cg {α : Type} {f f' : Nat → α → α} : ∀ r k a, (∀ i, k ≤ i → i < k + r → ∀ b, f i b = f' i b) → s_fold f r k a = s_fold f' r k a := by
  intro r
  induction r with
  | zero => exact fun k a h => rfl
  | succ r ih =>
    intro k a h
    unfold s_fold
    rw [h k (by omega) (by omega), ih (k + 1) _ (fun i h1 h2 => h i (by omega) (by omega))]
def s_children (g : z_Ro) (x : Int32) : Int32 := s_fold (fun k a => if g (20 + 3 * k) = x then a + 1 else a) (g 1).toNatClampNeg 0 0
def s_coded (g : z_Ro) (c : Int32) : Int32 := s_first (fun k => decide (s_code g (nN k) = c)) (g 1).toNatClampNeg 0
def s_taken (g : z_Ro) (p d : Int32) : Bool := s_or (fun k => decide (g (20 + 3 * k) = p) && decide (g (20 + 3 * k + 1) = d)) (g 1).toNatClampNeg 0
theorem m_children {N : Nat} {f : z_Ro} {u : mg_Rg} (HH : tH N f (u 43)) (x : Int32) : M_children x u = some (s_children (u 43) x) := by
  have hN := HH.1
  have h0 := HH.2.2.1
  have hl : ∀ r n k a, k + r = N → r < n → M_children_L4 n x a (nN k) u = some (s_fold (fun k a => if u 43 (20 + 3 * k) = x then a + 1 else a) r k a) := by
    intro r
    induction r with
    | zero =>
      intro n k a hk hn
      cases n with
      | zero => omega
      | succ n =>
        unfold M_children_L4
        rw [h0, if_pos ((z_le (by omega) (by omega)).mpr (by omega))]
        rfl
    | succ r ih =>
      intro n k a hk hn
      cases n with
      | zero => omega
      | succ n =>
        unfold M_children_L4 s_fold
        rw [h0, if_neg (z_nle (by omega) (by omega) (by omega)), mheadAt_0 (by omega), zo_1, Int32.add_zero]
        simp only [Option.bind_some]
        rw [ih n (k + 1) _ (by omega) (by omega), ih n (k + 1) _ (by omega) (by omega)]
        by_cases hx : u 43 (20 + 3 * k) = x
        · rw [if_pos hx, if_pos hx]
        · rw [if_neg hx, if_neg hx]
  unfold M_children s_children
  rw [h0, z_nat (by omega), show M_children_L4 mg_F x 0 0 u = _ from hl N mg_F 0 0 (by omega) (by show N < 6000; omega)]
  rfl
theorem c_children {N : Nat} {g : z_Ro} {u : mg_Rg} (HH : tH N (u 4) g) (x : Int32) : Tf_childrenOf x u = some (s_children g x) := by
  have hN := HH.1
  have h1 : T_count_3 u = some (nN N) := by rw [← HH.2.1]; rfl
  have hl : ∀ r n k a, k + r = N → r < n → Tf_childrenOf_L4 n x a (nN k) u = some (s_fold (fun k a => if g (20 + 3 * k) = x then a + 1 else a) r k a) := by
    intro r
    induction r with
    | zero =>
      intro n k a hk hn
      cases n with
      | zero => omega
      | succ n =>
        unfold Tf_childrenOf_L4
        rw [h1]
        show (if nN N ≤ nN k then _ else _) = _
        rw [if_pos ((z_le (by omega) (by omega)).mpr (by omega))]
        rfl
    | succ r ih =>
      intro n k a hk hn
      cases n with
      | zero => omega
      | succ n =>
        unfold Tf_childrenOf_L4 s_fold
        rw [h1]
        show (if nN N ≤ nN k then _ else _) = _
        rw [if_neg (z_nle (by omega) (by omega) (by omega)), cH_0 HH (by omega), zo_1]
        simp only [Option.bind_some]
        rw [ih n (k + 1) _ (by omega) (by omega), ih n (k + 1) _ (by omega) (by omega)]
        by_cases hx : g (20 + 3 * k) = x
        · rw [if_pos hx, if_pos hx]
        · rw [if_neg hx, if_neg hx]
  unfold Tf_childrenOf s_children
  rw [HH.2.2.1, z_nat (by omega), show Tf_childrenOf_L4 mg_F x 0 0 u = _ from hl N mg_F 0 0 (by omega) (by show N < 6000; omega)]
  rfl
theorem m_coded {N : Nat} {f : z_Ro} {u : mg_Rg} (HH : tH N f (u 43)) (c : Int32) : M_coded c u = some (s_coded (u 43) c) := by
  have hN := HH.1
  have h0 := HH.2.2.1
  have hl : ∀ r n k, k + r = N → r < n → ∃ q, M_coded_L2 n c (nN k) u = some q ∧ q.elim (fun _ => (-1 : Int32)) id = s_first (fun k => decide (s_code (u 43) (nN k) = c)) r k := by
    intro r
    induction r with
    | zero =>
      intro n k hk hn
      cases n with
      | zero => omega
      | succ n =>
        unfold M_coded_L2
        rw [h0, if_pos ((z_le (by omega) (by omega)).mpr (by omega))]
        exact ⟨_, rfl, rfl⟩
    | succ r ih =>
      intro n k hk hn
      cases n with
      | zero => omega
      | succ n =>
        unfold M_coded_L2 s_first
        rw [h0, if_neg (z_nle (by omega) (by omega) (by omega)), m_code HH (by omega)]
        simp only [Option.bind_some, decide_eq_true_eq]
        by_cases hx : s_code (u 43) (nN k) = c
        · rw [if_pos hx, if_pos hx]
          exact ⟨_, rfl, rfl⟩
        · rw [if_neg hx, if_neg hx, zo_1]
          exact ih n (k + 1) (by omega) (by omega)
  obtain ⟨q, h3, h4⟩ := hl N mg_F 0 (by omega) (by show N < 6000; omega)
  unfold M_coded s_coded
  rw [h0, z_nat (by omega), show M_coded_L2 mg_F c 0 u = _ from h3, ← h4]
  cases q <;> rfl
theorem c_coded {N : Nat} {g : z_Ro} {u : mg_Rg} (HH : tH N (u 4) g) (c : Int32) : Tf_headingWithCode c u = some (s_coded g c) := by
  have hN := HH.1
  have h1 : T_count_3 u = some (nN N) := by rw [← HH.2.1]; rfl
  have hl : ∀ r n k, k + r = N → r < n → ∃ q, Tf_headingWithCode_L2 n c (nN k) u = some q ∧ q.elim (fun _ => (-1 : Int32)) id = s_first (fun k => decide (s_code g (nN k) = c)) r k := by
    intro r
    induction r with
    | zero =>
      intro n k hk hn
      cases n with
      | zero => omega
      | succ n =>
        unfold Tf_headingWithCode_L2
        rw [h1]
        simp only [Option.bind_some]
        rw [if_pos ((z_le (by omega) (by omega)).mpr (by omega))]
        exact ⟨_, rfl, rfl⟩
    | succ r ih =>
      intro n k hk hn
      cases n with
      | zero => omega
      | succ n =>
        unfold Tf_headingWithCode_L2 s_first
        rw [h1]
        simp only [Option.bind_some]
        rw [if_neg (z_nle (by omega) (by omega) (by omega)), c_code HH (by omega)]
        simp only [Option.bind_some, decide_eq_true_eq]
        by_cases hx : s_code g (nN k) = c
        · rw [if_pos hx, if_pos hx]
          exact ⟨_, rfl, rfl⟩
        · rw [if_neg hx, if_neg hx, zo_1]
          exact ih n (k + 1) (by omega) (by omega)
  obtain ⟨q, h3, h4⟩ := hl N mg_F 0 (by omega) (by show N < 6000; omega)
  unfold Tf_headingWithCode s_coded
  rw [HH.2.2.1, z_nat (by omega), show Tf_headingWithCode_L2 mg_F c 0 u = _ from h3, ← h4]
  cases q <;> rfl
theorem s_coded_or {N : Nat} {f g : z_Ro} (HH : tH N f g) (c : Int32) : s_coded g c = -1 ∨ ∃ h < N, s_coded g c = nN h := by
  have hN := HH.1
  unfold s_coded
  rw [HH.2.2.1, z_nat (by omega)]
  rcases s_first_or (fun k => decide (s_code g (nN k) = c)) N 0 with h | ⟨h, -, h2, h3⟩
  · exact Or.inl h
  · exact Or.inr ⟨h, by omega, h3⟩
/-- find -/
theorem ob_3 : Ob_3 z_I := by
  intro u hu a
  obtain ⟨nh, np, ns, nq, nd, na, HH, HP, HS, HQ, HD, HC, HA, HT, HL⟩ := hu.1
  by_cases h : s_coded (u 43) a = -1
  · refine ⟨.inr 3, u, 0, mg_up u 42 0 1, 1, ?_, ?_, rfl, Or.inr ⟨rfl, rfl⟩, z_I_thrown 1 hu⟩
    · unfold C_find
      rw [c_coded HH]
      simp only [Option.bind_some]
      rw [if_pos h]
    · unfold M_find
      rw [m_coded HH]
      simp only [Option.bind_some]
      rw [if_pos h]
      rfl
  · refine ⟨.inl (s_coded (u 43) a), u, s_coded (u 43) a, mg_up u 42 0 0, 0, ?_, ?_, rfl, Or.inl ⟨_, rfl, rfl, rfl⟩, z_I_thrown 0 hu⟩
    · unfold C_find
      rw [c_coded HH]
      simp only [Option.bind_some]
      rw [if_neg h]
    · unfold M_find
      rw [m_coded HH]
      simp only [Option.bind_some]
      rw [if_neg h]
      rfl
