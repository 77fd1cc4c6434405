/-! THE CLASS SERVES -/
def c_ctx (nh np ns nq nd : Nat) (u : mg_Rg) (g : z_Ro) : Prop := tH nh (u 4) g ∧ tP np (u 7) g ∧ tS ns (u 10) g ∧ tT (u 13) g ∧ tQ nq (u 23) g ∧ nd ≤ 30 ∧ u 26 0 = nN nd ∧ (∀ d < nd, z_row8 u g d) ∧ ∀ d < nd, z_dw nh nq g d
theorem c_ctx_cg {nh np ns nq nd : Nat} {u u' : mg_Rg} {g : z_Ro} (h : ∀ c, c ≠ 26 → c ≠ 28 → u' c = u c) (h0 : u' 26 0 = u 26 0) (h8 : ∀ d < nd, ∀ j < 8, u' 26 (1 + d * 15 + j) = u 26 (1 + d * 15 + j)) (C : c_ctx nh np ns nq nd u g) : c_ctx nh np ns nq nd u' g := by
  obtain ⟨a1, a2, a3, a4, a5, a6, a7, a8, a9⟩ := C
  refine ⟨by rw [h 4 (by decide) (by decide)]; exact a1, by rw [h 7 (by decide) (by decide)]; exact a2, by rw [h 10 (by decide) (by decide)]; exact a3, by rw [h 13 (by decide) (by decide)]; exact a4, by rw [h 23 (by decide) (by decide)]; exact a5, a6, h0.trans a7, fun d hd => ⟨(a8 d hd).1, fun j hj => (h8 d hd j hj).trans ((a8 d hd).2 j hj)⟩, a9⟩
theorem c_ctx_gd {nh np ns nq nd d : Nat} {u : mg_Rg} {g : z_Ro} (C : c_ctx nh np ns nq nd u g) : c_ctx nh np ns nq nd (z_gd u g d) g :=
  c_ctx_cg (fun c _ c2 => z_gd_ne c2) (by rw [z_gd_ne (by decide)]) (fun d hd j hj => by rw [z_gd_ne (by decide)]) C
theorem c_con {nh np ns nq nd d q : Nat} {u : mg_Rg} {g : z_Ro} (C : c_ctx nh np ns nq nd u g) (hd : d < nd) : O_isClaimOn (nN d) (nN q) u = some (if s_con g q d = true then 1 else 0) := by
  have R := C.2.2.2.2.2.2.2.1 d hd
  unfold O_isClaimOn O_hasStatus s_con
  rw [c8_7 R, c8_5 R]
  simp only [Option.bind_some]
  by_cases h1 : g (208 + 16 * d + 7) = 0
  · rw [if_pos h1, decide_eq_true h1]
    simp only [Option.bind_some]
    rw [if_neg (by decide)]
    by_cases h2 : g (208 + 16 * d + 5) = nN q
    · rw [if_pos h2, decide_eq_true h2]
      rfl
    · rw [if_neg h2, decide_eq_false h2]
      rfl
  · rw [if_neg h1, decide_eq_false h1]
    rfl
theorem s_con_5 {g : z_Ro} {q d : Nat} (h : s_con g q d = true) : g (208 + 16 * d + 7) = 0 ∧ g (208 + 16 * d + 5) = nN q := by
  unfold s_con at h
  rw [Bool.and_eq_true] at h
  exact ⟨of_decide_eq_true h.1, of_decide_eq_true h.2⟩
theorem c_rea {nh np ns nq nd d q : Nat} {u : mg_Rg} {g : z_Ro} (C : c_ctx nh np ns nq nd u g) (hd : d < nd) (hq : q < nq) (hc : s_con g q d = true) : O_claimReason (nN d) u = some (s_claims g d q (g (138 + 9 * q + 6)), z_gd u g d) := by
  obtain ⟨a1, a2, a3, a4, a5, a6, a7, a8, a9⟩ := C
  exact c_claims a1 a2 a3 a4 a5 (a8 d hd) (a9 d hd).1 hq (s_con_5 hc).2
theorem s_qty_at {nh nq d : Nat} {g : z_Ro} (h : z_dw nh nq g d) : g (208 + 16 * d + 1) = nN (s_qty g d) ∧ s_qty g d ≤ 999 ∧ 1 ≤ s_qty g d := by
  obtain ⟨-, ⟨q, h1, h2, h3⟩, -⟩ := h
  unfold s_qty
  rw [h3, z_nat (by omega)]
  exact ⟨rfl, h2, h1⟩
theorem s_good_con {g : z_Ro} {q d : Nat} (h : s_con g q d = false) : s_good g q d = false := by
  unfold s_good
  rw [h]
  rfl
theorem s_good_of {g : z_Ro} {q d : Nat} (h : s_con g q d = true) : s_good g q d = decide (s_claims g d q (g (138 + 9 * q + 6)) = 0) := by
  unfold s_good
  rw [h]
  rfl
theorem c_goodq {nh np ns nq nd q : Nat} {g : z_Ro} (hq : q < nq) : ∀ r m k, ∀ u : mg_Rg, c_ctx nh np ns nq nd u g → k + r = nd → r < m → ∃ v, O_goodQuantity_L4 m (nN q) (nN (v_sum (s_good g q) (s_qty g) k)) (nN k) u = some (nN (v_sum (s_good g q) (s_qty g) nd), v) ∧ ∀ c, c ≠ 28 → v c = u c := by
  intro r
  induction r with
  | zero =>
    intro m k u C hk hm
    have h30 := C.2.2.2.2.2.1
    have h1 : T_count_25 u = some (nN nd) := by rw [← C.2.2.2.2.2.2.1]; rfl
    cases m with
    | zero => omega
    | succ m =>
      have e : k = nd := by omega
      subst e
      refine ⟨u, ?_, fun _ _ => rfl⟩
      unfold O_goodQuantity_L4
      rw [h1]
      simp only [Option.bind_some]
      rw [if_pos ((z_le (by omega) (by omega)).mpr (by omega))]
  | succ r ih =>
    intro m k u C hk hm
    have h30 := C.2.2.2.2.2.1
    have h1 : T_count_25 u = some (nN nd) := by rw [← C.2.2.2.2.2.2.1]; rfl
    cases m with
    | zero => omega
    | succ m =>
      have e : v_sum (s_good g q) (s_qty g) (k + 1) = v_sum (s_good g q) (s_qty g) k + if s_good g q k = true then s_qty g k else 0 := rfl
      unfold O_goodQuantity_L4
      rw [h1]
      simp only [Option.bind_some]
      rw [if_neg (z_nle (by omega) (by omega) (by omega)), c_con C (by omega)]
      simp only [Option.bind_some, z_bz, zo_1]
      cases hc : s_con g q k with
      | false =>
        rw [s_good_con hc] at e
        obtain ⟨v, b1, b2⟩ := ih m (k + 1) u C (by omega) (by omega)
        rw [if_pos (rfl : false = false)]
        refine ⟨v, ?_, b2⟩
        rw [e] at b1
        exact b1
      | true =>
        rw [s_good_of hc] at e
        have C2 := c_ctx_gd (d := k) C
        obtain ⟨v, b1, b2⟩ := ih m (k + 1) (z_gd u g k) C2 (by omega) (by omega)
        rw [if_neg z_tf, c_rea C (by omega) hq hc]
        simp only [Option.bind_some]
        rw [c8_1 (C2.2.2.2.2.2.2.2.1 k (by omega)), (s_qty_at (C.2.2.2.2.2.2.2.2 k (by omega))).1]
        simp only [Option.bind_some]
        refine ⟨v, ?_, fun c hc2 => (b2 c hc2).trans (z_gd_ne hc2)⟩
        by_cases h3 : s_claims g k q (g (138 + 9 * q + 6)) = 0
        · rw [decide_eq_true h3, if_pos rfl] at e
          rw [if_pos h3, z_addN, ← e]
          exact b1
        · rw [decide_eq_false h3] at e
          rw [if_neg h3]
          rw [e] at b1
          exact b1
theorem z_I_aux {u u' : mg_Rg} (h : ∀ k, k ≠ 28 → k ≠ 48 → u' k = u k) (hI : z_I u) : z_I u' := by
  have e : ∀ k ∈ z_ks, u' k = u k := fun k hk => h k (by rintro rfl; revert hk; decide) (by rintro rfl; revert hk; decide)
  refine ⟨?_, z_R_congr (fun k hk => h k (by rintro rfl; revert hk; decide) (by rintro rfl; revert hk; decide)) (fun i _ => by rw [h 0 (by decide) (by decide)]) (fun i _ => by rw [h 42 (by decide) (by decide)]) hI.2⟩
  rw [h 43 (by decide) (by decide)]
  exact z_rel_congr e hI.1
theorem z_ctx {nh np ns nq nd na : Nat} {u : mg_Rg} {g : z_Ro} (HH : tH nh (u 4) g) (HP : tP np (u 7) g) (HS : tS ns (u 10) g) (HQ : tQ nq (u 23) g) (HD : tD nh nq nd (u 26) g) (HT : tT (u 13) g) : c_ctx nh np ns nq nd u g :=
  ⟨HH, HP, HS, HT, HQ, HD.1, HD.2.1, fun d hd => tD_row8 HD hd, HD.2.2.2.2⟩
theorem z_minN {a b : Nat} (ha : a < 2147483648) (hb : b < 2147483648) : (if nN a < nN b then nN a else nN b) = nN (min b a) := by
  by_cases h : a < b
  · rw [if_pos ((z_lt ha hb).mpr h), show min b a = a by omega]
  · rw [if_neg (fun q => h ((z_lt ha hb).mp q)), show min b a = b by omega]
theorem v_all {nh nq nd : Nat} {g : z_Ro} {good : Nat → Bool} (h30 : nd ≤ 30) (h : ∀ d < nd, z_dw nh nq g d) : v_sum good (s_qty g) nd ≤ 29970 := by
  have h1 := v_le good (s_qty g) 999 nd (fun d hd => (s_qty_at (h d hd)).2.1)
  have h2 : 999 * nd ≤ 29970 := by omega
  omega
theorem ob_19 : Ob_19 z_I := by
  intro u hu a
  obtain ⟨nh, np, ns, nq, nd, na, HH, HP, HS, HQ, HD, HC, HA, HT, HL⟩ := hu.1
  have hQ6 := HQ.1
  have hD30 := HD.1
  by_cases hx : ∃ x, x < nq ∧ a = nN x
  case neg =>
    have hx' : ∀ x < nq, a ≠ nN x := fun x hl e => hx ⟨x, hl, e⟩
    refine ⟨.inr 0, u, 0, mg_up u 42 0 1, 1, ?_, ?_, rfl, Or.inr ⟨rfl, rfl⟩, z_I_thrown 1 hu⟩
    · simp only [C_leftThen, crQ_no (by omega) HQ.2.1 hx', Option.bind_some, zz_10, ↓reduceIte]
    · simp only [M_leftThen, miQ_no (by omega) HQ.2.2.1 hx', Option.bind_some, zz_10, ↓reduceIte, z_fails]
  obtain ⟨q, hq, rfl⟩ := hx
  obtain ⟨-, ⟨l, hl, el⟩, -⟩ := HQ.2.2.2.2 q hq
  have C := z_ctx (na := 0) HH HP HS HQ HD HT
  have hall := v_all (good := s_good (u 43) q) hD30 HD.2.2.2.2
  obtain ⟨v, b1, b2⟩ := c_goodq hq nd mg_F 0 u C (by omega) (by show nd < 6000; omega)
  have v43 : v 43 = u 43 := b2 43 (by decide)
  obtain ⟨w, s1, s2, s3⟩ := m_serves (q := q) (nd := nd) (l := l) (good := s_good (u 43) q) (qty := s_qty (u 43)) (w := v) (by omega) hD30 hl (by rw [v43]; exact HD.2.2.1) (by rw [v43]; exact el) (fun d hd w' hw' => by
    rw [v43] at hw'
    have := m_good (w := w') (f4 := u 4) (f7 := u 7) (f10 := u 10) (f23 := u 23) (nh := nh) (np := np) (ns := ns) (nq := nq) (nd := nd) (d := d) (q := q) (by rw [hw']; exact HH) (by rw [hw']; exact HP) (by rw [hw']; exact HS) (by rw [hw']; exact HQ) hD30 (by rw [hw']; exact HD.2.2.2.2) hd hq
    rw [this, hw']) (fun d hd => by
    rw [v43]
    have := s_qty_at (HD.2.2.2.2 d hd)
    exact ⟨this.1, this.2.1⟩)
  refine ⟨.inl (nN (l - min l (v_sum (s_good (u 43) q) (s_qty (u 43)) nd))), v, _, mg_up w 42 0 0, 0, ?_, ?_, rfl, Or.inl ⟨_, rfl, rfl, rfl⟩, z_I_thrown 0 (z_I_aux (fun k h1 h2 => (s2 k h2).trans (b2 k h1)) hu)⟩
  · unfold C_leftThen O_goodQuantity
    rw [crQ_yes (by omega) HQ.2.1 hq]
    simp only [Option.bind_some]
    rw [cQ_6 HQ hq, el]
    simp only [Option.bind_some]
    rw [show O_goodQuantity_L4 mg_F (nN q) 0 0 u = _ from b1]
    simp only [Option.bind_some]
    rw [z_minN (by omega) (by omega), z_subN (by omega)]
  · unfold M_leftThen
    rw [miQ_yes (u := v) (by omega) (show v 43 4 = nN nq by rw [v43]; exact HQ.2.2.1) hq]
    simp only [Option.bind_some]
    rw [if_neg (by decide), s1]
    rfl
theorem c_scal2 (a b : Int32) {q : Nat} (h1 : 0 < q) (h2 : q < 2147483648) (u : mg_Rg) : C_scaled a b (nN q) u = some (a * b / nN q) := by
  unfold C_scaled
  rw [if_neg (z_nle0 h1 h2), if_neg (z_eq0 h1 h2)]
theorem z_share {qty : Nat → Nat} {l all d : Nat} (hl : l ≤ 9999) (hq : qty d ≤ 999) (ha0 : 0 < all) (ha : all ≤ 29970) : nN (qty d) * nN (min l all) / nN all = nN (v_sh qty l all d) := by
  by_cases h : l < all
  · rw [show min l all = l by omega]
    exact z_sh hl hq (by omega) h
  · have h1 : qty d * all ≤ 999 * 29970 := Nat.mul_le_mul hq ha
    rw [show min l all = all by omega, z_mulN, z_divN (by omega) (by omega), Nat.mul_div_cancel _ ha0]
    unfold v_sh
    rw [if_neg h]
theorem c_good {nh np ns nq nd d q : Nat} {u : mg_Rg} {g : z_Ro} (C : c_ctx nh np ns nq nd u g) (hd : d < nd) (h14 : s_con g q d = true → u 26 (1 + d * 15 + 14) = s_claims g d q (g (138 + 9 * q + 6))) : O_isGoodClaimOn (nN d) (nN q) u = some (if s_good g q d = true then 1 else 0) := by
  have h30 := C.2.2.2.2.2.1
  unfold O_isGoodClaimOn
  rw [c_con C hd]
  simp only [Option.bind_some, z_bz]
  cases hc : s_con g q d with
  | false =>
    rw [if_pos (rfl : false = false), s_good_con hc]
    rfl
  | true =>
    rw [if_neg z_tf, rg_25_14 (by omega), h14 hc, s_good_of hc]
    simp only [Option.bind_some]
    by_cases h : s_claims g d q (g (138 + 9 * q + 6)) = 0
    · rw [if_pos h, decide_eq_true h]
      rfl
    · rw [if_neg h, decide_eq_false h]
      rfl
theorem cs_21 {nh np ns nq nd q l : Nat} {g : z_Ro} (hq : q < nq) (hl : l ≤ 9999) (el : g (138 + 9 * q + 6) = nN l) (hall : v_sum (s_good g q) (s_qty g) nd ≤ 29970) : ∀ r m k, ∀ u : mg_Rg, c_ctx nh np ns nq nd u g → k + r = nd → r < m →
    ∃ v, O_serve_L21 m (nN q) (nN (v_sum (s_good g q) (s_qty g) nd)) (nN (min l (v_sum (s_good g q) (s_qty g) nd))) (nN (min l (v_sum (s_good g q) (s_qty g) nd) - v_sum (s_good g q) (v_sh (s_qty g) l (v_sum (s_good g q) (s_qty g) nd)) k)) (nN k) u = some (nN (min l (v_sum (s_good g q) (s_qty g) nd) - v_sum (s_good g q) (v_sh (s_qty g) l (v_sum (s_good g q) (s_qty g) nd)) nd), v) ∧
    c_ctx nh np ns nq nd v g ∧ (∀ c, c ≠ 26 → c ≠ 28 → v c = u c) ∧ ∀ d < nd, ∀ j < 15, v 26 (1 + d * 15 + j) = if k ≤ d ∧ s_con g q d = true ∧ j = 14 then s_claims g d q (nN l) else if k ≤ d ∧ s_good g q d = true ∧ j = 8 then nN (v_sh (s_qty g) l (v_sum (s_good g q) (s_qty g) nd) d) else u 26 (1 + d * 15 + j) := by
  obtain ⟨f1, f2, f3⟩ := v_fit (s_good g q) (s_qty g) l nd
  have hP : v_sum (s_good g q) (v_sh (s_qty g) l (v_sum (s_good g q) (s_qty g) nd)) nd ≤ min l (v_sum (s_good g q) (s_qty g) nd) := by
    by_cases h : l < v_sum (s_good g q) (s_qty g) nd
    · omega
    · have := f3 h
      omega
  intro r
  induction r with
  | zero =>
    intro m k u C hk hm
    have h30 := C.2.2.2.2.2.1
    have h1 : T_count_25 u = some (nN nd) := by rw [← C.2.2.2.2.2.2.1]; rfl
    cases m with
    | zero => omega
    | succ m =>
      have e : k = nd := by omega
      subst e
      refine ⟨u, ?_, C, fun _ _ _ => rfl, fun d hd j hj => by rw [if_neg (by omega), if_neg (by omega)]⟩
      unfold O_serve_L21
      rw [h1]
      simp only [Option.bind_some]
      rw [if_pos ((z_le (by omega) (by omega)).mpr (by omega))]
  | succ r ih =>
    intro m k u C hk hm
    have h30 := C.2.2.2.2.2.1
    have h1 : T_count_25 u = some (nN nd) := by rw [← C.2.2.2.2.2.2.1]; rfl
    cases m with
    | zero => omega
    | succ m =>
      have e : v_sum (s_good g q) (v_sh (s_qty g) l (v_sum (s_good g q) (s_qty g) nd)) (k + 1) = v_sum (s_good g q) (v_sh (s_qty g) l (v_sum (s_good g q) (s_qty g) nd)) k + if s_good g q k = true then v_sh (s_qty g) l (v_sum (s_good g q) (s_qty g) nd) k else 0 := rfl
      have hm1 := v_mono (s_good g q) (v_sh (s_qty g) l (v_sum (s_good g q) (s_qty g) nd)) (k := k + 1) (n := nd) (by omega)
      unfold O_serve_L21
      rw [h1]
      simp only [Option.bind_some]
      rw [if_neg (z_nle (by omega) (by omega) (by omega)), c_con C (by omega)]
      simp only [Option.bind_some, z_bz, zo_1]
      cases hc : s_con g q k with
      | false =>
        rw [s_good_con hc] at e
        obtain ⟨v, b1, b2, b3, b4⟩ := ih m (k + 1) u C (by omega) (by omega)
        rw [if_pos (rfl : false = false), c_good C (by omega) (fun h => by rw [hc] at h; cases h), s_good_con hc]
        refine ⟨v, ?_, b2, b3, fun d hd j hj => ?_⟩
        · rw [e] at b1
          exact b1
        · rw [b4 d hd j hj]
          by_cases hdk : d = k
          · subst hdk
            rw [if_neg (by omega), if_neg (by omega), if_neg (fun h => by rw [hc] at h; exact absurd h.2.1 (by decide)), if_neg (fun h => by rw [s_good_con hc] at h; exact absurd h.2.1 (by decide))]
          · have i1 : (k + 1 ≤ d) = (k ≤ d) := propext ⟨fun h => by omega, fun h => by omega⟩
            simp only [i1]
      | true =>
        have C2 : c_ctx nh np ns nq nd (mg_up (z_gd u g k) 26 (1 + k * 15 + 14) (s_claims g k q (nN l))) g := c_ctx_cg (fun c c1 _ => z_up_ne c1) (by rw [zu_ne (by omega)]) (fun d hd j hj => by rw [zu_ne (by omega)]) (c_ctx_gd (d := k) C)
        rw [if_neg z_tf, c_rea C (by omega) hq hc, el]
        simp only [Option.bind_some]
        rw [rp_25_14 (by omega)]
        simp only [Option.bind_some]
        rw [c_good C2 (by omega) (fun _ => by rw [zu_eq, el])]
        simp only [Option.bind_some, z_bz]
        cases hg : s_good g q k with
        | false =>
          rw [hg] at e
          obtain ⟨v, b1, b2, b3, b4⟩ := ih m (k + 1) _ C2 (by omega) (by omega)
          rw [if_pos (rfl : false = false)]
          refine ⟨v, ?_, b2, fun c c1 c2 => by rw [b3 c c1 c2, z_up_ne c1, z_gd_ne c2], fun d hd j hj => ?_⟩
          · rw [e] at b1
            exact b1
          · rw [b4 d hd j hj]
            by_cases hdk : d = k
            · subst hdk
              rw [if_neg (by omega), if_neg (by omega)]
              by_cases hj14 : j = 14
              · subst hj14
                rw [if_pos ⟨Nat.le_refl _, hc, rfl⟩, zu_eq]
              · rw [if_neg (fun h => hj14 h.2.2), if_neg (fun h => by rw [hg] at h; exact absurd h.2.1 (by decide)), zu_ne (by omega), z_gd_ne (by decide)]
            · have i1 : (k + 1 ≤ d) = (k ≤ d) := propext ⟨fun h => by omega, fun h => by omega⟩
              rw [zu_ne (by omega), z_gd_ne (by decide)]
              simp only [i1]
        | true =>
          rw [hg, if_pos rfl] at e
          obtain ⟨qy1, qy2, qy3⟩ := s_qty_at (C.2.2.2.2.2.2.2.2 k (by omega))
          have hall0 : 0 < v_sum (s_good g q) (s_qty g) nd := by
            have := v_one (s_good g q) (s_qty g) (n := nd) (d := k) (by omega) hg
            omega
          rw [if_neg z_tf, c8_1 (C2.2.2.2.2.2.2.2.1 k (by omega)), qy1]
          simp only [Option.bind_some]
          rw [c_scal2 _ _ hall0 (by omega), z_share hl qy2 hall0 hall]
          simp only [Option.bind_some]
          rw [rp_25_8 (by omega)]
          simp only [Option.bind_some]
          have C3 : c_ctx nh np ns nq nd (mg_up (mg_up (z_gd u g k) 26 (1 + k * 15 + 14) (s_claims g k q (nN l))) 26 (1 + k * 15 + 8) (nN (v_sh (s_qty g) l (v_sum (s_good g q) (s_qty g) nd) k))) g := c_ctx_cg (fun c c1 _ => z_up_ne c1) (by rw [zu_ne (by omega)]) (fun d hd j hj => by rw [zu_ne (by omega)]) C2
          obtain ⟨v, b1, b2, b3, b4⟩ := ih m (k + 1) _ C3 (by omega) (by omega)
          rw [show min l (v_sum (s_good g q) (s_qty g) nd) - v_sum (s_good g q) (v_sh (s_qty g) l (v_sum (s_good g q) (s_qty g) nd)) (k + 1) = min l (v_sum (s_good g q) (s_qty g) nd) - v_sum (s_good g q) (v_sh (s_qty g) l (v_sum (s_good g q) (s_qty g) nd)) k - v_sh (s_qty g) l (v_sum (s_good g q) (s_qty g) nd) k by omega, ← z_subN (by omega)] at b1
          refine ⟨v, b1, b2, fun c c1 c2 => by rw [b3 c c1 c2, z_up_ne c1, z_up_ne c1, z_gd_ne c2], fun d hd j hj => ?_⟩
          rw [b4 d hd j hj]
          by_cases hdk : d = k
          · subst hdk
            rw [if_neg (by omega), if_neg (by omega)]
            by_cases hj14 : j = 14
            · subst hj14
              rw [if_pos ⟨Nat.le_refl _, hc, rfl⟩, zu_ne (by omega), zu_eq]
            · rw [if_neg (fun h => hj14 h.2.2)]
              by_cases hj8 : j = 8
              · subst hj8
                rw [if_pos ⟨Nat.le_refl _, hg, rfl⟩, zu_eq]
              · rw [if_neg (fun h => hj8 h.2.2), zu_ne (by omega), zu_ne (by omega), z_gd_ne (by decide)]
          · have i1 : (k + 1 ≤ d) = (k ≤ d) := propext ⟨fun h => by omega, fun h => by omega⟩
            rw [zu_ne (by omega), zu_ne (by omega), z_gd_ne (by decide)]
            simp only [i1]
theorem cs_5 {nh np ns nq nd q r0 : Nat} {g : z_Ro} (hr0 : r0 < 2147483648) : ∀ r m k, ∀ u : mg_Rg, c_ctx nh np ns nq nd u g → (∀ d < nd, s_con g q d = true → u 26 (1 + d * 15 + 14) = s_claims g d q (g (138 + 9 * q + 6))) → k + r = nd → r < m →
    ∃ v, O_giveSpareUnits_L5 m (nN q) (nN (r0 - v_sum (s_good g q) (fun _ => 1) k)) (nN k) u = some v ∧ c_ctx nh np ns nq nd v g ∧ (∀ c, c ≠ 26 → v c = u c) ∧ ∀ d < nd, ∀ j < 15, v 26 (1 + d * 15 + j) = if k ≤ d ∧ s_good g q d = true ∧ j = 8 ∧ v_sum (s_good g q) (fun _ => 1) d < r0 then u 26 (1 + d * 15 + j) + 1 else u 26 (1 + d * 15 + j) := by
  intro r
  induction r with
  | zero =>
    intro m k u C H14 hk hm
    have h30 := C.2.2.2.2.2.1
    have h1 : T_count_25 u = some (nN nd) := by rw [← C.2.2.2.2.2.2.1]; rfl
    cases m with
    | zero => omega
    | succ m =>
      have e : k = nd := by omega
      subst e
      refine ⟨u, ?_, C, fun _ _ => rfl, fun d hd j hj => by rw [if_neg (by omega)]⟩
      unfold O_giveSpareUnits_L5
      rw [h1]
      simp only [Option.bind_some]
      rw [if_pos ((z_le (by omega) (by omega)).mpr (by omega))]
  | succ r ih =>
    intro m k u C H14 hk hm
    have h30 := C.2.2.2.2.2.1
    have h1 : T_count_25 u = some (nN nd) := by rw [← C.2.2.2.2.2.2.1]; rfl
    cases m with
    | zero => omega
    | succ m =>
      have e : v_sum (s_good g q) (fun _ => 1) (k + 1) = v_sum (s_good g q) (fun _ => 1) k + if s_good g q k = true then 1 else 0 := rfl
      unfold O_giveSpareUnits_L5
      rw [h1]
      simp only [Option.bind_some]
      rw [if_neg (z_nle (by omega) (by omega) (by omega))]
      by_cases hz : r0 ≤ v_sum (s_good g q) (fun _ => 1) k
      · rw [if_pos (z_le0 (by omega))]
        refine ⟨u, rfl, C, fun _ _ => rfl, fun d hd j hj => ?_⟩
        rw [if_neg ?_]
        rintro ⟨h2, -, -, h3⟩
        have := v_mono (s_good g q) (fun _ => 1) h2
        omega
      · rw [if_neg (z_nle0 (by omega) (by omega)), c_good C (by omega) (H14 k (by omega))]
        simp only [Option.bind_some, z_bz, zo_1]
        cases hg : s_good g q k with
        | false =>
          rw [hg] at e
          obtain ⟨v, b1, b2, b3, b4⟩ := ih m (k + 1) u C H14 (by omega) (by omega)
          rw [if_pos (rfl : false = false)]
          refine ⟨v, ?_, b2, b3, fun d hd j hj => ?_⟩
          · rw [e] at b1
            exact b1
          · rw [b4 d hd j hj]
            by_cases hdk : d = k
            · subst hdk
              rw [if_neg (by omega), if_neg (fun h => by rw [hg] at h; exact absurd h.2.1 (by decide))]
            · have i1 : (k + 1 ≤ d) = (k ≤ d) := propext ⟨fun h => by omega, fun h => by omega⟩
              simp only [i1]
        | true =>
          rw [hg, if_pos rfl] at e
          have C3 : c_ctx nh np ns nq nd (mg_up u 26 (1 + k * 15 + 8) (u 26 (1 + k * 15 + 8) + 1)) g := c_ctx_cg (fun c c1 _ => z_up_ne c1) (by rw [zu_ne (by omega)]) (fun d hd j hj => by rw [zu_ne (by omega)]) C
          obtain ⟨v, b1, b2, b3, b4⟩ := ih m (k + 1) _ C3 (fun d hd hc => by rw [zu_ne (by omega)]; exact H14 d hd hc) (by omega) (by omega)
          have em : nN (r0 - v_sum (s_good g q) (fun _ => 1) k) + (-1) = nN (r0 - v_sum (s_good g q) (fun _ => 1) (k + 1)) := by
            rw [show r0 - v_sum (s_good g q) (fun _ => 1) k = (r0 - v_sum (s_good g q) (fun _ => 1) (k + 1)) + 1 by omega]
            exact z_subm1 _
          rw [if_neg z_tf, ri_25_8 (by omega), em]
          refine ⟨v, b1, b2, fun c c1 => by rw [b3 c c1, z_up_ne c1], fun d hd j hj => ?_⟩
          rw [b4 d hd j hj]
          by_cases hdk : d = k
          · subst hdk
            rw [if_neg (by omega)]
            by_cases hj8 : j = 8
            · subst hj8
              rw [if_pos ⟨Nat.le_refl _, hg, rfl, by omega⟩, zu_eq]
            · rw [if_neg (fun h => hj8 h.2.2.1), zu_ne (by omega)]
          · have i1 : (k + 1 ≤ d) = (k ≤ d) := propext ⟨fun h => by omega, fun h => by omega⟩
            rw [zu_ne (by omega)]
            simp only [i1]
theorem c_serve {nh np ns nq nd q l : Nat} {g : z_Ro} {u : mg_Rg} (hq : q < nq) (hl : l ≤ 9999) (el : g (138 + 9 * q + 6) = nN l) (C : c_ctx nh np ns nq nd u g) :
    ∃ v, O_serve (nN q) (nN (v_sum (s_good g q) (s_qty g) nd)) u = some v ∧ (∀ c, c ≠ 23 → c ≠ 26 → c ≠ 28 → v c = u c) ∧ v 26 0 = nN nd ∧
    (∀ d < nd, ∀ j < 15, v 26 (1 + d * 15 + j) = if s_con g q d = true ∧ j = 14 then s_claims g d q (nN l) else if s_good g q d = true ∧ j = 8 then nN (v_got (s_good g q) (s_qty g) l nd d) else u 26 (1 + d * 15 + j)) ∧
    (∀ i, i ≠ 1 + q * 9 + 6 → i ≠ 1 + q * 9 + 7 → v 23 i = u 23 i) ∧ v 23 (1 + q * 9 + 6) = nN (l - min l (v_sum (s_good g q) (s_qty g) nd)) ∧ v 23 (1 + q * 9 + 7) = u 23 (1 + q * 9 + 7) + nN (min l (v_sum (s_good g q) (s_qty g) nd)) := by
  have h30 := C.2.2.2.2.2.1
  have hQ6 := C.2.2.2.2.1.1
  have hall := v_all (good := s_good g q) h30 C.2.2.2.2.2.2.2.2
  obtain ⟨v1, b1, b2, b3, b4⟩ := cs_21 hq hl el hall nd mg_F 0 u C (by omega) (by show nd < 6000; omega)
  obtain ⟨v2, d1, d2, d3, d4⟩ := cs_5 (q := q) (r0 := min l (v_sum (s_good g q) (s_qty g) nd) - v_sum (s_good g q) (v_sh (s_qty g) l (v_sum (s_good g q) (s_qty g) nd)) nd) (by omega) nd mg_F 0 v1 b2 (fun d hd hc => by rw [b4 d hd 14 (by omega), if_pos ⟨by omega, hc, rfl⟩, el]) (by omega) (by show nd < 6000; omega)
  have e23 : v2 23 = u 23 := (d3 23 (by decide)).trans (b3 23 (by decide) (by decide))
  have e6 : u 23 (1 + q * 9 + 6) = nN l := by rw [(C.2.2.2.2.1.2.2.2.1 q hq).1 6 (by omega)]; exact el
  refine ⟨mg_up (mg_up v2 23 (1 + q * 9 + 6) (nN (l - min l (v_sum (s_good g q) (s_qty g) nd)))) 23 (1 + q * 9 + 7) (u 23 (1 + q * 9 + 7) + nN (min l (v_sum (s_good g q) (s_qty g) nd))), ?_, fun c c1 c2 c3 => by rw [z_up_ne c1, z_up_ne c1, d3 c c2, b3 c c2 c3], ?_, fun d hd j hj => ?_, fun i i1 i2 => by rw [zu_ne i2, zu_ne i1, e23], by rw [zu_ne (by omega), zu_eq], by rw [zu_eq]⟩
  · unfold O_serve O_giveSpareUnits
    rw [cQ_6 C.2.2.2.2.1 hq, el]
    simp only [Option.bind_some]
    rw [z_minN (by omega) (by omega), show O_serve_L21 mg_F (nN q) (nN (v_sum (s_good g q) (s_qty g) nd)) (nN (min l (v_sum (s_good g q) (s_qty g) nd))) (nN (min l (v_sum (s_good g q) (s_qty g) nd))) 0 u = _ from b1]
    simp only [Option.bind_some]
    rw [show O_giveSpareUnits_L5 mg_F (nN q) (nN (min l (v_sum (s_good g q) (s_qty g) nd) - v_sum (s_good g q) (v_sh (s_qty g) l (v_sum (s_good g q) (s_qty g) nd)) nd)) 0 v1 = _ from d1]
    simp only [Option.bind_some]
    rw [ri_22_6 (by omega), e23, e6, z_addneg, z_subN (by omega)]
    simp only [Option.bind_some]
    rw [ri_22_7 (by omega), zu_ne (by omega), e23]
    rfl
  · rw [z_up_ne (by decide), z_up_ne (by decide)]
    exact d2.2.2.2.2.2.2.1
  · rw [z_up_ne (by decide), z_up_ne (by decide), d4 d hd j hj]
    by_cases hj14 : j = 14
    · subst hj14
      rw [if_neg (fun h => absurd h.2.2.1 (by decide)), b4 d hd 14 hj]
      by_cases hc : s_con g q d = true
      · rw [if_pos ⟨by omega, hc, rfl⟩, if_pos ⟨hc, rfl⟩]
      · rw [if_neg (show ¬ (0 ≤ d ∧ s_con g q d = true ∧ 14 = 14) from fun h => hc h.2.1), if_neg (show ¬ (0 ≤ d ∧ s_good g q d = true ∧ 14 = 8) from fun h => absurd h.2.2 (by decide)), if_neg (show ¬ (s_con g q d = true ∧ 14 = 14) from fun h => hc h.1), if_neg (show ¬ (s_good g q d = true ∧ 14 = 8) from fun h => absurd h.2 (by decide))]
    · rw [if_neg (show ¬ (s_con g q d = true ∧ j = 14) from fun h => hj14 h.2)]
      by_cases hj8 : s_good g q d = true ∧ j = 8
      · have hb : v1 26 (1 + d * 15 + j) = nN (v_sh (s_qty g) l (v_sum (s_good g q) (s_qty g) nd) d) := by
          rw [b4 d hd j hj, if_neg (fun h => hj14 h.2.2), if_pos ⟨by omega, hj8.1, hj8.2⟩]
        rw [if_pos hj8, hb]
        unfold v_got
        by_cases hx : v_sum (s_good g q) (fun _ => 1) d < min l (v_sum (s_good g q) (s_qty g) nd) - v_sum (s_good g q) (v_sh (s_qty g) l (v_sum (s_good g q) (s_qty g) nd)) nd
        · rw [if_pos ⟨by omega, hj8.1, hj8.2, hx⟩, if_pos hx]
          exact zo_1 _
        · rw [if_neg (fun h => hx h.2.2.2), if_neg hx]
          rfl
      · have hb : v1 26 (1 + d * 15 + j) = u 26 (1 + d * 15 + j) := by
          rw [b4 d hd j hj, if_neg (fun h => hj14 h.2.2), if_neg (fun h => hj8 ⟨h.2.1, h.2.2⟩)]
        rw [if_neg hj8, if_neg (fun h => hj8 ⟨h.2.1, h.2.2.1⟩), hb]
