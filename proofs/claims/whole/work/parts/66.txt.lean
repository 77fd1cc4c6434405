/-! PARTS AND ENTRIES -/
def R_t3 (a0 k : Int32) (y : mg_Rg) : Option mg_Rg :=
  if (y 42 14) = 0 then
  (M_here y).bind fun c =>
    if c = 35 then
    (M_readsDigit 48 57 (mg_up y 42 13 ((y 42 13) + 1))).bind fun p => match p with
      | (v, z) =>
        if (a0 + 11) < 0 ∨ 840 ≤ (a0 + 11).toNatClampNeg then none else
        if (a0 + 12) < 0 ∨ 840 ≤ (a0 + 12).toNatClampNeg then none else
        some (mg_up (mg_up z 49 ((a0 + 11).toNatClampNeg) v) 49 ((a0 + 12).toNatClampNeg) k)
    else
    if (a0 + 12) < 0 ∨ 840 ≤ (a0 + 12).toNatClampNeg then none else
      some (mg_up y 49 ((a0 + 12).toNatClampNeg) k)
  else
  if (a0 + 12) < 0 ∨ 840 ≤ (a0 + 12).toNatClampNeg then none else
    some (mg_up y 49 ((a0 + 12).toNatClampNeg) k)
def R_t2 (a0 k : Int32) (u8 : mg_Rg) : Option mg_Rg :=
  if (a0 + 10) < 0 ∨ 840 ≤ (a0 + 10).toNatClampNeg then none else
  if (a0 + 11) < 0 ∨ 840 ≤ (a0 + 11).toNatClampNeg then none else
  if ((mg_up (mg_up u8 49 ((a0 + 10).toNatClampNeg) 0) 49 ((a0 + 11).toNatClampNeg) (-1)) 42 14) = 0 then
  (M_here (mg_up (mg_up u8 49 ((a0 + 10).toNatClampNeg) 0) 49 ((a0 + 11).toNatClampNeg) (-1))).bind fun c =>
    if c = 33 then
    (M_readsDigit 48 57 (mg_up (mg_up (mg_up u8 49 ((a0 + 10).toNatClampNeg) 0) 49 ((a0 + 11).toNatClampNeg) (-1)) 42 13 (((mg_up (mg_up u8 49 ((a0 + 10).toNatClampNeg) 0) 49 ((a0 + 11).toNatClampNeg) (-1)) 42 13) + 1))).bind fun p => match p with
      | (v, z) =>
        if (a0 + 10) < 0 ∨ 840 ≤ (a0 + 10).toNatClampNeg then none else
        R_t3 a0 k (mg_up z 49 ((a0 + 10).toNatClampNeg) v)
    else
    R_t3 a0 k (mg_up (mg_up u8 49 ((a0 + 10).toNatClampNeg) 0) 49 ((a0 + 11).toNatClampNeg) (-1))
  else
  R_t3 a0 k (mg_up (mg_up u8 49 ((a0 + 10).toNatClampNeg) 0) 49 ((a0 + 11).toNatClampNeg) (-1))
def R_t1 (a0 : Int32) (u : mg_Rg) : Option mg_Rg :=
  (M_reads 64 u).bind fun u7 =>
  if (u7 42 14) = 0 then
  (M_readsEntry_L60 mg_F a0 0 1 u7).bind fun q => match q with
    | (x, u8) => R_t2 a0 x u8
  else
  (M_readsEntry_L60 mg_F a0 0 0 u7).bind fun q => match q with
    | (x, u8) => R_t2 a0 x u8
def R_n (a0 : Int32) (u3 : mg_Rg) : Option mg_Rg :=
  if (u3 42 14) = 0 then
  (M_readsNumber u3).bind fun p => match p with
    | (v4, u5) =>
      if (a0 + 1) < 0 ∨ 840 ≤ (a0 + 1).toNatClampNeg then none else
      R_t1 a0 (mg_up u5 49 ((a0 + 1).toNatClampNeg) v4)
  else
  if (a0 + 1) < 0 ∨ 840 ≤ (a0 + 1).toNatClampNeg then none else
    R_t1 a0 (mg_up u3 49 ((a0 + 1).toNatClampNeg) 0)
def R_t0 (a0 : Int32) (u : mg_Rg) : Option mg_Rg :=
  (M_readsCode u).bind fun p => match p with
  | (v, u1) =>
    if a0 < 0 ∨ 840 ≤ a0.toNatClampNeg then none else
    (M_reads 120 (mg_up u1 49 a0.toNatClampNeg v)).bind fun u3 => R_n a0 u3
theorem M_entry_eq (a0 : Int32) (u : mg_Rg) : M_readsEntry a0 u = R_t0 a0 u := by
  unfold M_readsEntry
  rfl
theorem z_b2 (b i : Nat) : nN b + 2 * nN i = nN (b + 2 * i) := by
  rw [show (2 : Int32) = nN 2 from rfl, z_mulN, z_addN]
theorem t3_wr {n p b : Nat} {w0 y : mg_Rg} {k : Int32} (hb : b + 13 < 840) (W : WS n p y w0) : ∃ w', R_t3 (nN b) k y = some w' ∧ WS n p w' w0 := by
  refine ⟨mg_up y 49 (b + 12) k, ?_, WS_49 _ _ W⟩
  unfold R_t3
  rw [W.2.2.2, if_neg (by decide), zo_12, z_g840 (by omega), z_nat (by omega)]
theorem t2_wr {n p b : Nat} {w0 y : mg_Rg} {k : Int32} (hb : b + 13 < 840) (W : WS n p y w0) : ∃ w', R_t2 (nN b) k y = some w' ∧ WS n p w' w0 := by
  have W2 := WS_49 (b + 11) (-1) (WS_49 (b + 10) 0 W)
  obtain ⟨w', h1, h2⟩ := t3_wr (k := k) hb W2
  refine ⟨w', ?_, h2⟩
  unfold R_t2
  rw [zo_10, zo_11, z_g840 (by omega), z_g840 (by omega), z_nat (by omega), z_nat (by omega), W2.2.2.2, if_neg (by decide)]
  exact h1
theorem l60_0 (m : Nat) (x1 x2 : Int32) (w : mg_Rg) : M_readsEntry_L60 (m + 1) x1 x2 0 w = some (x2, w) := by
  unfold M_readsEntry_L60
  rw [if_pos rfl]
theorem t1_wr {n p b : Nat} {u0 w0 y : mg_Rg} (H : X0 n u0 w0) (hb : b + 13 < 840) (W : WS n p y w0) : ∃ w', R_t1 (nN b) y = some w' ∧ WS n p w' w0 := by
  obtain ⟨w1, a1, a2, -⟩ := x_reads_wr 64 H W
  obtain ⟨w', h1, h2⟩ := t2_wr (k := 0) hb a2
  refine ⟨w', ?_, h2⟩
  unfold R_t1
  rw [a1]
  simp only [Option.bind_some]
  rw [a2.2.2.2, if_neg (by decide), show M_readsEntry_L60 mg_F (nN b) 0 0 w1 = _ from l60_0 5999 (nN b) 0 w1]
  exact h1
theorem rn_wr {n p b : Nat} {u0 w0 y : mg_Rg} (H : X0 n u0 w0) (hb : b + 13 < 840) (W : WS n p y w0) : ∃ w', R_n (nN b) y = some w' ∧ WS n p w' w0 := by
  obtain ⟨w', h1, h2⟩ := t1_wr H hb (WS_49 (b + 1) 0 W)
  refine ⟨w', ?_, h2⟩
  unfold R_n
  rw [W.2.2.2, if_neg (by decide), zo_1, z_g840 (by omega), z_nat (by omega)]
  exact h1
/-! the class's parts -/
def R_body (m : Nat) (x1 x2 : Int32) (u : mg_Rg) : Option ((mg_Rg) ⊕ (Int32 × mg_Rg)) :=
  (X_partColumn x2 0 u).bind fun v613 =>
    (X_readDigit x1 v613 u).bind fun p618 => match p618 with
    | (v616, u617) =>
      if v616 = 0 then
      some (.inr (0, u617))
      else
      (X_take 58 u617).bind fun p621 => match p621 with
        | (v619, u620) =>
          if v619 = 0 then
          some (.inr (0, u620))
          else
          (X_partColumn x2 1 u620).bind fun v622 =>
            (X_readNumber x1 v622 5 0 u620).bind fun p625 => match p625 with
            | (v623, u624) =>
              if v623 = 0 then
              some (.inr (0, u624))
              else
              (T_put_39 x1 4 (x2 + 1) u624).bind fun u626 =>
                X_readParts_L2 m x1 (x2 + 1) u626
theorem x_parts_0 (m : Nat) (x1 : Int32) (u : mg_Rg) : X_readParts_L2 (m + 1) x1 0 u = R_body m x1 0 u := by
  show (if (4 : Int32) ≤ 0 then _ else _) = _
  rw [if_neg (by decide), if_pos (by decide)]
  rfl
theorem x_parts_s {i : Nat} (m : Nat) (x1 : Int32) (hi : 1 ≤ i) (hi4 : i < 4) (u : mg_Rg) : X_readParts_L2 (m + 1) x1 (nN i) u = (X_take 43 u).bind fun p => if p.1 = 0 then some (.inr (1, p.2)) else R_body m x1 (nN i) p.2 := by
  show (if (4 : Int32) ≤ nN i then _ else _) = _
  rw [if_neg (z_n4 hi4), if_neg (z_nle0 hi (by omega))]
  rfl
theorem x_col0 (i : Nat) (u : mg_Rg) : X_partColumn (nN i) 0 u = some (nN (5 + 2 * i)) := by
  unfold X_partColumn
  rw [show nN i * 2 = nN (2 * i) by rw [show (2 : Int32) = nN 2 from rfl, z_mulN, Nat.mul_comm], show (5 : Int32) = nN 5 from rfl, z_addN, zo_0]
theorem x_col1 (i : Nat) (u : mg_Rg) : X_partColumn (nN i) 1 u = some (nN (5 + 2 * i + 1)) := by
  unfold X_partColumn
  rw [show nN i * 2 = nN (2 * i) by rw [show (2 : Int32) = nN 2 from rfl, z_mulN, Nat.mul_comm], show (5 : Int32) = nN 5 from rfl, z_addN, zo_1]
theorem x_rdig {n p e c : Nat} {u0 w0 u : mg_Rg} (H : X0 n u0 w0) (he : e < 8) (hc : c < 13) (hX : XF u u0) (hp : p ≤ n) (h3 : u 37 3 = nN p) : (∃ v ≤ 9, p < n ∧ s_ch (w0 47) n p = nN (48 + v) ∧ X_readDigit (nN e) (nN c) u = some (1, mg_up (mg_up u 40 (1 + e * 13 + c) (nN v)) 37 3 (nN (p + 1)))) ∨ ((s_ch (w0 47) n p < 48 ∨ 57 < s_ch (w0 47) n p) ∧ X_readDigit (nN e) (nN c) u = some (0, u)) := by
  rcases x_digit H hX hp h3 with ⟨v, v1, v2, v3, v4⟩ | ⟨v1, v2⟩
  · refine Or.inl ⟨v, v1, v2, v3, ?_⟩
    unfold X_readDigit
    rw [v4]
    simp only [Option.bind_some]
    rw [if_neg (z_ne1 (by omega)), tp_39 he hc]
    simp only [Option.bind_some]
    rw [z_up_ne (by decide), h3, zo_1]
  · refine Or.inr ⟨v1, ?_⟩
    unfold X_readDigit
    rw [v2]
    simp only [Option.bind_some]
    rw [if_pos trivial]
theorem x_rng {v : Nat} (hv : v ≤ 9) : ¬ (nN (48 + v) < 48 ∨ 57 < nN (48 + v)) := by
  rintro (q | q)
  · exact absurd ((z_lt (b := 48) (by omega) (by omega)).mp q) (by omega)
  · exact absurd ((z_lt (a := 57) (by omega) (by omega)).mp q) (by omega)
/-- the rest of a part's turn, when the text is wrong -/
theorem l60_wr {n p b i m : Nat} {w0 w1 : mg_Rg} {v : Int32} {w : mg_Rg} (hb : b + 13 < 840) (hi : i < 4) (hd : M_readsDigit 48 57 w = some (v, w1)) (hr : ∃ w2, M_reads 58 (mg_up w1 49 (b + 2 + 2 * i) v) = some w2 ∧ WS n p w2 w0) : ∃ k' w', M_readsEntry_L60 (m + 2) (nN b) (nN i) 1 w = some (k', w') ∧ WS n p w' w0 := by
  obtain ⟨w2, h1, h2⟩ := hr
  refine ⟨nN (i + 1), mg_up (mg_up w2 49 (b + 3 + 2 * i) 0) 42 13 (nN p), ?_, ⟨MF_p _ (MF_49 _ _ h2.1), h2.2.1, by rw [zu_eq], by rw [zu_ne (by decide), z_up_ne (by decide)]; exact h2.2.2.2⟩⟩
  unfold M_readsEntry_L60
  rw [if_neg (by decide), hd]
  simp only [Option.bind_some]
  rw [zo_2, z_b2, z_g840 (by omega), z_nat (by omega), h1]
  simp only [Option.bind_some]
  rw [h2.2.2.2, if_neg (by decide), zo_3, z_b2, z_g840 (by omega), z_nat (by omega), z_up_ne (by decide), h2.2.2.2, if_neg (by decide), h2.2.2.1, zo_0, zo_1]
  exact l60_0 m _ _ _
theorem x_parts {n e b : Nat} {u0 w0 : mg_Rg} (H : X0 n u0 w0) (he : e < 8) (hb : b + 13 < 840) : ∀ r m m' i p, ∀ u w : mg_Rg, i + r = 4 → 1 ≤ r → r < m → r < m' → XS n p u w u0 w0 →
    (∃ k p' q u' w', i < k ∧ k ≤ 4 ∧ R_body m (nN e) (nN i) u = some q ∧ (q = .inl u' ∨ q = .inr (1, u')) ∧ M_readsEntry_L60 (m' + 1) (nN b) (nN i) 1 w = some (nN k, w') ∧ XS n p' u' w' u0 w0 ∧ p + 3 ≤ p' ∧ u' 40 (1 + e * 13 + 4) = nN k ∧
      (∀ j, i ≤ j → j < k → u' 40 (1 + e * 13 + 5 + 2 * j) = w' 49 (b + 2 + 2 * j) ∧ u' 40 (1 + e * 13 + 5 + 2 * j + 1) = w' 49 (b + 3 + 2 * j)) ∧ (∀ a, (a < 1 + e * 13 + 4 ∨ (1 + e * 13 + 5 ≤ a ∧ a < 1 + e * 13 + 5 + 2 * i) ∨ 1 + e * 13 + 13 ≤ a) → u' 40 a = u 40 a) ∧ ∀ a, (a < b + 2 + 2 * i ∨ b + 10 ≤ a) → w' 49 a = w 49 a) ∨
    (∃ p' u' k' w', R_body m (nN e) (nN i) u = some (.inr (0, u')) ∧ M_readsEntry_L60 (m' + 1) (nN b) (nN i) 1 w = some (k', w') ∧ XF u' u0 ∧ u' 37 3 = nN p' ∧ WS n p' w' w0) := by
  intro r
  induction r with
  | zero => intro m m' i p u w h0 h1; omega
  | succ r ih =>
    intro m m' i p u w hir hr1 hm hm' S
    obtain ⟨hX, hM, hp, h3, h13, h14⟩ := id S
    obtain ⟨m'', rfl⟩ : ∃ m'', m' = m'' + 1 := ⟨m' - 1, by omega⟩
    rcases x_rdig (e := e) (c := 5 + 2 * i) H he (by omega) hX hp h3 with ⟨d, d1, d2, d3, d4⟩ | ⟨d1, d2⟩
    · obtain ⟨w1, b1, b2, b3, b4, b5⟩ := x_rd_yes H hM d2 h13 h14 d3 (x_rng d1)
      have hX1 : XF (mg_up (mg_up u 40 (1 + e * 13 + (5 + 2 * i)) (nN d)) 37 3 (nN (p + 1))) u0 := XF_at _ (XF_40 _ _ hX)
      by_cases hcol : s_ch (w0 47) n (p + 1) = 58
      · obtain ⟨c1, c2⟩ := x_take_yes (u := mg_up (mg_up u 40 (1 + e * 13 + (5 + 2 * i)) (nN d)) 37 3 (nN (p + 1))) H hX1 (by omega) (by rw [zu_eq]) hcol (by decide)
        obtain ⟨w2, f1, f2, f3, f4, f5⟩ := x_reads_yes (w := mg_up w1 49 (b + 2 + 2 * i) (nN d)) H (MF_49 _ _ b2) c1 (by rw [z_up_ne (by decide)]; exact b3) (by rw [z_up_ne (by decide)]; exact b4) hcol
        have S2 : XS n (p + 1 + 1) (mg_up (mg_up (mg_up u 40 (1 + e * 13 + (5 + 2 * i)) (nN d)) 37 3 (nN (p + 1))) 37 3 (nN (p + 1 + 1))) w2 u0 w0 := ⟨XF_at _ hX1, f2, by omega, by rw [zu_eq], f3, f4⟩
        rcases x_number (e := e) (c := 5 + 2 * i + 1) H he (by omega) S2 with ⟨v, p3, u3, w3, v1, v2, g1, g2, g3, g4, g5, g6⟩ | ⟨g1, w3, g2, g3, g4⟩
        · have u340 : ∀ a, u3 40 a = mg_up u 40 (1 + e * 13 + (5 + 2 * i)) (nN d) 40 a := fun a => by rw [g5, z_up_ne (by decide), z_up_ne (by decide)]
          have w349 : ∀ a, w3 49 a = mg_up w1 49 (b + 2 + 2 * i) (nN d) 49 a := fun a => by rw [g6, f5]
          obtain ⟨u4, hu4⟩ : ∃ u4, u4 = mg_up (mg_up u3 40 (1 + e * 13 + (5 + 2 * i + 1)) (nN v)) 40 (1 + e * 13 + 4) (nN (i + 1)) := ⟨_, rfl⟩
          obtain ⟨w4, hw4⟩ : ∃ w4, w4 = mg_up w3 49 (b + 3 + 2 * i) (nN v) := ⟨_, rfl⟩
          have S4 : XS n p3 u4 w4 u0 w0 := by
            rw [hu4, hw4]
            exact XS_49 _ _ (XS_40 _ _ (XS_40 _ _ g3))
          have k4 : u4 40 (1 + e * 13 + 4) = nN (i + 1) := by rw [hu4, zu_eq]
          have kd : u4 40 (1 + e * 13 + 5 + 2 * i) = w4 49 (b + 2 + 2 * i) := by rw [hu4, zu_ne (by omega), zu_ne (by omega), u340, show 1 + e * 13 + 5 + 2 * i = 1 + e * 13 + (5 + 2 * i) by omega, zu_eq, hw4, zu_ne (by omega), w349, zu_eq]
          have kv : u4 40 (1 + e * 13 + 5 + 2 * i + 1) = w4 49 (b + 3 + 2 * i) := by rw [hu4, zu_ne (by omega), show 1 + e * 13 + 5 + 2 * i + 1 = 1 + e * 13 + (5 + 2 * i + 1) by omega, zu_eq, hw4, zu_eq]
          have ko : ∀ a, a ≠ 1 + e * 13 + 4 → a ≠ 1 + e * 13 + (5 + 2 * i) → a ≠ 1 + e * 13 + (5 + 2 * i + 1) → u4 40 a = u 40 a := fun a a1 a2 a3 => by rw [hu4, zu_ne a1, zu_ne a3, u340, zu_ne a2]
          have kw : ∀ a, a ≠ b + 2 + 2 * i → a ≠ b + 3 + 2 * i → w4 49 a = w 49 a := fun a a1 a2 => by rw [hw4, zu_ne a2, w349, zu_ne a1, b5]
          have hbody : R_body m (nN e) (nN i) u = X_readParts_L2 m (nN e) (nN (i + 1)) u4 := by
            unfold R_body
            rw [x_col0]
            simp only [Option.bind_some]
            rw [d4]
            simp only [Option.bind_some]
            rw [if_neg (by decide), c2]
            simp only [Option.bind_some]
            rw [if_neg (by decide), x_col1]
            simp only [Option.bind_some]
            rw [g1]
            simp only [Option.bind_some]
            rw [if_neg (by decide), rp_39_4 he]
            simp only [Option.bind_some]
            rw [zo_1, ← hu4]
          have hl60 : ∀ X, (if (4 : Int32) ≤ nN (i + 1) then M_readsEntry_L60 (m'' + 1) (nN b) (nN (i + 1)) 0 (mg_up w4 42 13 (w4 42 13 + 0)) else (M_here w4).bind fun c => if c = 43 then M_readsEntry_L60 (m'' + 1) (nN b) (nN (i + 1)) 1 (mg_up w4 42 13 (w4 42 13 + 1)) else M_readsEntry_L60 (m'' + 1) (nN b) (nN (i + 1)) 0 (mg_up w4 42 13 (w4 42 13 + 0))) = X → M_readsEntry_L60 (m'' + 1 + 1) (nN b) (nN i) 1 w = X := by
            rintro X rfl
            show M_readsEntry_L60 ((m'' + 1) + 1) (nN b) (nN i) 1 w = _
            conv => lhs; unfold M_readsEntry_L60
            rw [if_neg (by decide), b1]
            simp only [Option.bind_some]
            rw [zo_2, z_b2, z_g840 (by omega), z_nat (by omega), f1]
            simp only [Option.bind_some]
            rw [f4, if_pos rfl, g2]
            simp only [Option.bind_some]
            rw [zo_3, z_b2, z_g840 (by omega), z_nat (by omega), ← hw4, S4.2.2.2.2.2, if_pos rfl, zo_1]
          have e13 : w4 42 13 + 0 = nN p3 := by rw [S4.2.2.2.2.1, zo_0]
          have S5 : XS n p3 u4 (mg_up w4 42 13 (nN p3)) u0 w0 := ⟨S4.1, MF_p _ S4.2.1, S4.2.2.1, S4.2.2.2.1, by rw [zu_eq], by rw [zu_ne (by decide)]; exact S4.2.2.2.2.2⟩
          have fin : ∀ q, X_readParts_L2 m (nN e) (nN (i + 1)) u4 = some q → (q = .inl u4 ∨ q = .inr (1, u4)) → M_readsEntry_L60 (m'' + 1 + 1) (nN b) (nN i) 1 w = some (nN (i + 1), mg_up w4 42 13 (nN p3)) → (∃ k p' q u' w', i < k ∧ k ≤ 4 ∧ R_body m (nN e) (nN i) u = some q ∧ (q = .inl u' ∨ q = .inr (1, u')) ∧ M_readsEntry_L60 (m'' + 1 + 1) (nN b) (nN i) 1 w = some (nN k, w') ∧ XS n p' u' w' u0 w0 ∧ p + 3 ≤ p' ∧ u' 40 (1 + e * 13 + 4) = nN k ∧
      (∀ j, i ≤ j → j < k → u' 40 (1 + e * 13 + 5 + 2 * j) = w' 49 (b + 2 + 2 * j) ∧ u' 40 (1 + e * 13 + 5 + 2 * j + 1) = w' 49 (b + 3 + 2 * j)) ∧ (∀ a, (a < 1 + e * 13 + 4 ∨ (1 + e * 13 + 5 ≤ a ∧ a < 1 + e * 13 + 5 + 2 * i) ∨ 1 + e * 13 + 13 ≤ a) → u' 40 a = u 40 a) ∧ ∀ a, (a < b + 2 + 2 * i ∨ b + 10 ≤ a) → w' 49 a = w 49 a) := by
            intro q q1 q2 q3
            refine ⟨i + 1, p3, q, u4, mg_up w4 42 13 (nN p3), by omega, by omega, hbody.trans q1, q2, q3, S5, by omega, k4, fun j j1 j2 => ?_, fun a ha => ko a (by omega) (by omega) (by omega), fun a ha => by rw [z_up_ne (by decide)]; exact kw a (by omega) (by omega)⟩
            have ej : j = i := by omega
            subst ej
            rw [z_up_ne (by decide)]
            exact ⟨kd, kv⟩
          obtain ⟨m1, rfl⟩ : ∃ m1, m = m1 + 1 := ⟨m - 1, by omega⟩
          by_cases h4 : i + 1 = 4
          · left
            refine fin (.inl u4) ?_ (Or.inl rfl) (hl60 _ ?_)
            · rw [h4]
              unfold X_readParts_L2
              exact if_pos (by decide)
            · rw [h4, if_pos (by decide), e13]
              exact l60_0 m'' _ _ _
          · by_cases hpl : s_ch (w0 47) n p3 = 43
            · obtain ⟨t1, t2⟩ := x_take_yes H S4.1 S4.2.2.1 S4.2.2.2.1 hpl (by decide)
              have S6 : XS n (p3 + 1) (mg_up u4 37 3 (nN (p3 + 1))) (mg_up w4 42 13 (nN (p3 + 1))) u0 w0 := ⟨XF_at _ S4.1, MF_p _ S4.2.1, by omega, by rw [zu_eq], by rw [zu_eq], by rw [zu_ne (by decide)]; exact S4.2.2.2.2.2⟩
              have hcl : X_readParts_L2 (m1 + 1) (nN e) (nN (i + 1)) u4 = R_body m1 (nN e) (nN (i + 1)) (mg_up u4 37 3 (nN (p3 + 1))) := by
                rw [x_parts_s m1 (nN e) (by omega) (by omega), t2]
                simp only [Option.bind_some]
                rw [if_neg (by decide)]
              have hml : M_readsEntry_L60 (m'' + 1 + 1) (nN b) (nN i) 1 w = M_readsEntry_L60 (m'' + 1) (nN b) (nN (i + 1)) 1 (mg_up w4 42 13 (nN (p3 + 1))) := by
                refine hl60 _ ?_
                rw [if_neg (z_n4 (by omega)), x_here H S4.2.1 S4.2.2.1 S4.2.2.2.2.1, hpl]
                simp only [Option.bind_some]
                rw [if_pos trivial, S4.2.2.2.2.1, zo_1]
              rcases ih m1 m'' (i + 1) (p3 + 1) _ _ (by omega) (by omega) (by omega) (by omega) S6 with ⟨k, p', q, u', w', q1, q2, q3, q4, q5, q6, q7, q8, q9, q10, q11⟩ | ⟨p', u', k', w', q1, q2, q3, q4, q5⟩
              · left
                refine ⟨k, p', q, u', w', by omega, q2, hbody.trans (hcl.trans q3), q4, hml.trans q5, q6, by omega, q8, fun j j1 j2 => ?_, fun a ha => ?_, fun a ha => ?_⟩
                · by_cases ej : j = i
                  · subst ej
                    rw [q10 _ (by omega), q10 _ (by omega), q11 _ (by omega), q11 _ (by omega), z_up_ne (by decide), z_up_ne (by decide)]
                    exact ⟨kd, kv⟩
                  · exact q9 j (by omega) j2
                · rw [q10 a (by omega), z_up_ne (by decide)]
                  exact ko a (by omega) (by omega) (by omega)
                · rw [q11 a (by omega), z_up_ne (by decide)]
                  exact kw a (by omega) (by omega)
              · exact Or.inr ⟨p', u', k', w', hbody.trans (hcl.trans q1), hml.trans q2, q3, q4, q5⟩
            · left
              refine fin (.inr (1, u4)) ?_ (Or.inr rfl) (hl60 _ ?_)
              · rw [x_parts_s m1 (nN e) (by omega) (by omega), x_take_no H S4.1 S4.2.2.1 S4.2.2.2.1 hpl]
                simp only [Option.bind_some]
                rw [if_pos trivial]
              · rw [if_neg (z_n4 (by omega)), x_here H S4.2.1 S4.2.2.1 S4.2.2.2.2.1]
                simp only [Option.bind_some]
                rw [if_neg hpl, e13]
                exact l60_0 m'' _ _ _
        · right
          refine ⟨p + 1 + 1, _, nN (i + 1), mg_up (mg_up w3 49 (b + 3 + 2 * i) 0) 42 13 (nN (p + 1 + 1)), ?_, ?_, XF_40 (1 + e * 13 + (5 + 2 * i + 1)) 0 S2.1, by rw [z_up_ne (by decide), zu_eq], ⟨MF_p _ (MF_49 _ _ g3.1), g3.2.1, by rw [zu_eq], by rw [zu_ne (by decide), z_up_ne (by decide)]; exact g3.2.2.2⟩⟩
          · unfold R_body
            rw [x_col0]
            simp only [Option.bind_some]
            rw [d4]
            simp only [Option.bind_some]
            rw [if_neg (by decide), c2]
            simp only [Option.bind_some]
            rw [if_neg (by decide), x_col1]
            simp only [Option.bind_some]
            rw [g1]
            simp only [Option.bind_some]
            rw [if_pos trivial]
          · unfold M_readsEntry_L60
            rw [if_neg (by decide), b1]
            simp only [Option.bind_some]
            rw [zo_2, z_b2, z_g840 (by omega), z_nat (by omega), f1]
            simp only [Option.bind_some]
            rw [f4, if_pos rfl, g2]
            simp only [Option.bind_some]
            rw [zo_3, z_b2, z_g840 (by omega), z_nat (by omega), z_up_ne (by decide), g3.2.2.2, if_neg (by decide), g3.2.2.1, zo_0, zo_1]
            exact l60_0 m'' _ _ _
      · right
        obtain ⟨w2, f1, f2, f3⟩ := x_reads_no (w := mg_up w1 49 (b + 2 + 2 * i) (nN d)) (p := p + 1) H (MF_49 _ _ b2) (by omega) (by rw [z_up_ne (by decide)]; exact b3) (by rw [z_up_ne (by decide)]; exact b4) hcol
        obtain ⟨k', w', k1, k2⟩ := l60_wr (m := m'') hb (by omega) b1 ⟨w2, f1, f2⟩
        refine ⟨p + 1, _, k', w', ?_, k1, hX1, by rw [zu_eq], k2⟩
        unfold R_body
        rw [x_col0]
        simp only [Option.bind_some]
        rw [d4]
        simp only [Option.bind_some]
        rw [if_neg (by decide), x_take_no H hX1 (by omega) (by rw [zu_eq]) hcol]
        simp only [Option.bind_some]
        rw [if_pos trivial]
    · right
      obtain ⟨w1, b1, b2, b3⟩ := x_rd_no H hM hp h13 h14 d1
      obtain ⟨w2, f1, f2, f3⟩ := x_reads_wr 58 H (WS_49 (b + 2 + 2 * i) 0 b2)
      obtain ⟨k', w', k1, k2⟩ := l60_wr (m := m'') hb (by omega) b1 ⟨w2, f1, f2⟩
      refine ⟨p, u, k', w', ?_, k1, hX, h3, k2⟩
      unfold R_body
      rw [x_col0]
      simp only [Option.bind_some]
      rw [d2]
      simp only [Option.bind_some]
      rw [if_pos trivial]
