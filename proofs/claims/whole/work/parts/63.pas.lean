/-! DAYS PASS: the quotas are served -/
/-- what the first n declarations got from quota q, as the class holds it -/
def z_sumc (f g : z_Ro) (q : Nat) : Nat → Nat
  | 0 => 0
  | n + 1 => z_sumc f g q n + if g (208 + 16 * n + 5) = nN q then (f (1 + n * 15 + 8)).toNatClampNeg else 0
def z_RS (nh np ns nq nd k : Nat) (u w : mg_Rg) : Prop :=
  (tH nh (u 4) (w 43) ∧ tP np (u 7) (w 43) ∧ tS ns (u 10) (w 43) ∧ tT (u 13) (w 43) ∧ tQ nq (u 23) (w 43)) ∧ nd ≤ 30 ∧ u 26 0 = nN nd ∧ w 43 5 = nN nd ∧ (∀ d < nd, z_dw nh nq (w 43) d) ∧ tL (u 17) (u 20) (w 43) ∧
  (∀ d < nd, ∀ j < 15, j ≠ 8 → u 26 (1 + d * 15 + j) = w 43 (208 + 16 * d + j)) ∧
  (∀ d < nd, ¬ w 43 (208 + 16 * d + 7) = 0 → u 26 (1 + d * 15 + 8) = w 43 (208 + 16 * d + 8)) ∧
  (∀ d < nd, w 43 (208 + 16 * d + 7) = 0 → u 26 (1 + d * 15 + 8) = w 48 d ∧ (∃ t ≤ 999, w 48 d = nN t) ∧ ((w 43 (208 + 16 * d + 5) = -1 ∨ ∃ q, k ≤ q ∧ q < nq ∧ w 43 (208 + 16 * d + 5) = nN q) → w 48 d = 0)) ∧
  ∀ q < nq, (w 43 (138 + 9 * q + 6)).toNatClampNeg + (w 43 (138 + 9 * q + 7)).toNatClampNeg + z_sumc (u 26) (w 43) q nd ≤ 9999
theorem z_RS_ctx {nh np ns nq nd k : Nat} {u w : mg_Rg} (R : z_RS nh np ns nq nd k u w) : c_ctx nh np ns nq nd u (w 43) := by
  obtain ⟨⟨a1, a2, a3, a4, a5⟩, b1, b2, b3, b4, b5, b6, b7, b8, b9⟩ := R
  exact ⟨a1, a2, a3, a4, a5, b1, b2, fun d hd => ⟨by omega, fun j hj => b6 d hd j (by omega) (by omega)⟩, b4⟩
theorem z_dw_cg2 {nh nq d : Nat} {g g' : z_Ro} (hg : ∀ j < 9, g' (208 + 16 * d + j) = g (208 + 16 * d + j)) (h : z_dw nh nq g d) : z_dw nh nq g' d := by
  unfold z_dw at h ⊢
  rw [show g' (208 + 16 * d) = g (208 + 16 * d) from hg 0 (by omega), hg 1 (by omega), hg 3 (by omega), hg 5 (by omega), hg 7 (by omega), hg 8 (by omega)]
  exact h
theorem z_ring3 (a b c k : Int32) : a - b - c + k = a - (b - k) - c := by
  simp only [Int32.sub_eq_add_neg, Int32.neg_add, Int32.neg_neg, Int32.add_assoc, Int32.add_comm, i_lc]
/-- the reasons are written -/
theorem m_48 {nh np ns nq nd q : Nat} {f4 f7 f10 f23 g : z_Ro} {x3 : Int32} (HH : tH nh f4 g) (HP : tP np f7 g) (HS : tS ns f10 g) (HQ : tQ nq f23 g) (hnd : nd ≤ 30) (h5 : g 5 = nN nd) (hdw : ∀ d < nd, z_dw nh nq g d) (hq : q < nq) :
    ∀ r m k, ∀ w : mg_Rg, (∀ i, (∀ d < nd, i ≠ 208 + 16 * d + 14) → w 43 i = g i) → k + r = nd → r < m → ∃ w', M_ends_L48 m 0 (nN q) x3 (nN k) w = some w' ∧ (∀ j, j ≠ 43 → w' j = w j) ∧ (∀ i, (∀ d < nd, i ≠ 208 + 16 * d + 14) → w' 43 i = g i) ∧
      ∀ d < nd, w' 43 (208 + 16 * d + 14) = if k ≤ d ∧ s_con g q d = true then s_claims g d q (g (138 + 9 * q + 6)) else w 43 (208 + 16 * d + 14) := by
  have hQ6 := HQ.1
  intro r
  induction r with
  | zero =>
    intro m k w hw hk hm
    cases m with
    | zero => omega
    | succ m =>
      have e : k = nd := by omega
      subst e
      refine ⟨w, ?_, fun _ _ => rfl, hw, fun d hd => by rw [if_neg (by omega)]⟩
      unfold M_ends_L48
      rw [hw 5 (fun d hd => by omega), h5, if_pos ((z_le (by omega) (by omega)).mpr (by omega))]
  | succ r ih =>
    intro m k w hw hk hm
    cases m with
    | zero => omega
    | succ m =>
      have w7 : w 43 (208 + 16 * k + 7) = g (208 + 16 * k + 7) := hw _ (fun d hd => by omega)
      have w5 : w 43 (208 + 16 * k + 5) = g (208 + 16 * k + 5) := hw _ (fun d hd => by omega)
      have skip : ∀ w', s_con g q k = false → (∃ w'', M_ends_L48 m 0 (nN q) x3 (nN (k + 1)) w = some w'' ∧ (∀ j, j ≠ 43 → w'' j = w j) ∧ (∀ i, (∀ d < nd, i ≠ 208 + 16 * d + 14) → w'' 43 i = g i) ∧ ∀ d < nd, w'' 43 (208 + 16 * d + 14) = if k + 1 ≤ d ∧ s_con g q d = true then s_claims g d q (g (138 + 9 * q + 6)) else w 43 (208 + 16 * d + 14)) → w' = M_ends_L48 m 0 (nN q) x3 (nN (k + 1)) w → ∃ w'', w' = some w'' ∧ (∀ j, j ≠ 43 → w'' j = w j) ∧ (∀ i, (∀ d < nd, i ≠ 208 + 16 * d + 14) → w'' 43 i = g i) ∧ ∀ d < nd, w'' 43 (208 + 16 * d + 14) = if k ≤ d ∧ s_con g q d = true then s_claims g d q (g (138 + 9 * q + 6)) else w 43 (208 + 16 * d + 14) := by
        rintro w' hc ⟨w'', a1, a2, a3, a4⟩ e
        refine ⟨w'', e.trans a1, a2, a3, fun d hd => ?_⟩
        rw [a4 d hd]
        by_cases hdk : d = k
        · subst hdk
          rw [if_neg (by omega), if_neg (fun h => by rw [hc] at h; exact absurd h.2 (by decide))]
        · have i1 : (k + 1 ≤ d) = (k ≤ d) := propext ⟨fun h => by omega, fun h => by omega⟩
          simp only [i1]
      unfold M_ends_L48
      rw [hw 5 (fun d hd => by omega), h5, if_neg (z_nle (by omega) (by omega) (by omega)), mdeclAt_7 (by omega), mdeclAt_5 (by omega), w7, w5, zo_1]
      simp only [Option.bind_some]
      by_cases h7 : g (208 + 16 * k + 7) = 0
      · rw [if_pos h7]
        by_cases hc5 : g (208 + 16 * k + 5) = nN q
        · have hc : s_con g q k = true := by
            unfold s_con
            rw [decide_eq_true h7, decide_eq_true hc5]
            rfl
          have hwq : ∀ i, i < 208 → w 43 i = g i := fun i hi => hw i (fun d hd => by omega)
          have hcl : M_claims (nN k) (g (138 + 9 * q + 6)) w = some (s_claims g k q (g (138 + 9 * q + 6))) := by
            rw [m_claims (u := w) (f := f4) (f2 := f7) (f3 := f10) (tH_cg (fun _ _ => rfl) (fun i hi => hwq i (by omega)) HH) (tP_cg (fun _ _ => rfl) (fun i hi => hwq i (by omega)) HP) (tS_cg (fun _ _ => rfl) (fun i hi => hwq i (by omega)) HS) (by omega) (by rw [hw _ (fun d hd => by omega)]; exact (hdw k (by omega)).1) (by omega) (by rw [hwq _ (by omega)]; exact (HQ.2.2.2.2 q hq).1) (w5.trans hc5)]
            rw [s_claims_cg HH HP HS (fun i hi => hwq i (by omega)) (fun j hj => hw _ (fun d hd => by omega)) (hdw k (by omega)).1 (fun j hj => hwq _ (by omega))]
          rw [if_pos hc5, mquotaAt_6 (by omega), hwq (138 + 9 * q + 6) (by omega)]
          simp only [Option.bind_some]
          rw [hcl, zb_208, zo_14]
          simp only [Option.bind_some]
          rw [zg (by omega), z_nat (by omega)]
          obtain ⟨w'', a1, a2, a3, a4⟩ := ih m (k + 1) (mg_up w 43 (208 + 16 * k + 14) (s_claims g k q (g (138 + 9 * q + 6)))) (fun i hi => by rw [zu_ne (hi k (by omega))]; exact hw i hi) (by omega) (by omega)
          refine ⟨w'', a1, fun j hj => (a2 j hj).trans (z_up_ne hj), a3, fun d hd => ?_⟩
          rw [a4 d hd]
          by_cases hdk : d = k
          · subst hdk
            rw [if_neg (by omega), if_pos ⟨Nat.le_refl _, hc⟩, zu_eq]
          · rw [zu_ne (by omega)]
            have i1 : (k + 1 ≤ d) = (k ≤ d) := propext ⟨fun h => by omega, fun h => by omega⟩
            simp only [i1]
        · have hc : s_con g q k = false := by
            unfold s_con
            rw [decide_eq_false hc5, Bool.and_false]
          rw [if_neg hc5]
          exact skip _ hc (ih m (k + 1) w hw (by omega) (by omega)) rfl
      · have hc : s_con g q k = false := by
          unfold s_con
          rw [decide_eq_false h7]
          rfl
        rw [if_neg h7]
        exact skip _ hc (ih m (k + 1) w hw (by omega) (by omega)) rfl
theorem z_sumc_step {nd k q : Nat} {f f' g g' : z_Ro} {got : Nat → Nat} {good : Nat → Bool} (hg5 : ∀ d < nd, g' (208 + 16 * d + 5) = g (208 + 16 * d + 5)) (hgood : ∀ d < nd, good d = true → g (208 + 16 * d + 5) = nN k ∧ f' (1 + d * 15 + 8) = nN (got d) ∧ got d ≤ 999 ∧ f (1 + d * 15 + 8) = 0) (hbad : ∀ d < nd, ¬ good d = true → f' (1 + d * 15 + 8) = f (1 + d * 15 + 8)) (hk : k ≤ 6) (hq : q ≤ 6) :
    ∀ n ≤ nd, z_sumc f' g' q n = z_sumc f g q n + if q = k then v_sum good got n else 0 := by
  intro n
  induction n with
  | zero =>
    intro _
    show 0 = 0 + if q = k then 0 else 0
    rw [ite_self]
  | succ n ih =>
    intro hn
    have i1 := ih (by omega)
    have e : v_sum good got (n + 1) = v_sum good got n + if good n = true then got n else 0 := rfl
    unfold z_sumc
    rw [i1, hg5 n (by omega), e]
    by_cases hgn : good n = true
    · obtain ⟨q1, q2, q3, q4⟩ := hgood n (by omega) hgn
      rw [if_pos hgn, q1, q2, q4, z_nat (by omega)]
      have e0 : (0 : Int32).toNatClampNeg = 0 := rfl
      rw [e0]
      by_cases hqk : q = k
      · subst hqk
        rw [if_pos rfl, if_pos rfl, if_pos rfl, if_pos rfl]
        omega
      · have hne : ¬ nN k = nN q := z_nne (by omega) (by omega) (fun h => hqk h.symm)
        rw [if_neg hqk, if_neg hqk, if_neg hne, if_neg hne]
    · rw [if_neg hgn, hbad n (by omega) hgn, Nat.add_zero (v_sum good got n)]
      omega
theorem p_serve {nh np ns nq nd : Nat} {a : Int32} : ∀ r m m' k, ∀ u w : mg_Rg, z_RS nh np ns nq nd k u w → k + r = nq → r < m → r < m' → ∃ v w', C_pass_L53 m a (nN k) u = some v ∧ M_ends_L29 m' 0 (nN k) w = some w' ∧ z_RS nh np ns nq nd nq v w' ∧ (∀ c, c ≠ 23 → c ≠ 26 → c ≠ 28 → v c = u c) ∧ (∀ c, c ≠ 43 → c ≠ 48 → w' c = w c) ∧ ∀ i, i = 6 ∨ (192 ≤ i ∧ i < 200) → w' 43 i = w 43 i := by
  intro r
  induction r with
  | zero =>
    intro m m' k u w R hk hm hm'
    have hQ6 := R.1.2.2.2.2.1
    have h1 : T_count_22 u = some (nN nq) := by rw [← R.1.2.2.2.2.2.1]; rfl
    have h2 : w 43 4 = nN nq := R.1.2.2.2.2.2.2.1
    cases m with
    | zero => omega
    | succ m =>
      cases m' with
      | zero => omega
      | succ m' =>
        have e : k = nq := by omega
        subst e
        refine ⟨u, w, ?_, ?_, R, fun _ _ _ _ => rfl, fun _ _ _ => rfl, fun _ _ => rfl⟩
        · unfold C_pass_L53
          rw [h1]
          simp only [Option.bind_some]
          rw [if_pos ((z_le (by omega) (by omega)).mpr (by omega))]
        · unfold M_ends_L29
          rw [h2, if_pos ((z_le (by omega) (by omega)).mpr (by omega))]
  | succ r ih =>
    intro m m' k u w R hk hm hm'
    have C := z_RS_ctx R
    obtain ⟨⟨HH, HP, HS, HT, HQ⟩, h30, h260, h5, hdw, HL, hrow, hst, hlo, hco⟩ := id R
    have hQ6 := HQ.1
    have hkq : k < nq := by omega
    obtain ⟨⟨hp, hp1, hp2⟩, ⟨l, hl, el⟩, ⟨ls, ls1, ls2⟩⟩ := HQ.2.2.2.2 k hkq
    have h1 : T_count_22 u = some (nN nq) := by rw [← HQ.2.1]; rfl
    have h2 : w 43 4 = nN nq := HQ.2.2.1
    cases m with
    | zero => omega
    | succ m =>
      cases m' with
      | zero => omega
      | succ m' =>
        have hall := v_all (good := s_good (w 43) k) h30 hdw
        obtain ⟨u1, b1, b2⟩ := c_goodq hkq nd mg_F 0 u C (by omega) (by show nd < 6000; omega)
        have C1 : c_ctx nh np ns nq nd u1 (w 43) := c_ctx_cg (fun c _ c2 => b2 c c2) (by rw [b2 26 (by decide)]) (fun d hd j hj => by rw [b2 26 (by decide)]) C
        obtain ⟨v, c1, c2, c3, c4, c5, c6, c7⟩ := c_serve hkq hl el C1
        obtain ⟨w1, s1, s2, s3⟩ := m_serves (q := k) (nd := nd) (l := l) (good := s_good (w 43) k) (qty := s_qty (w 43)) (w := w) (by omega) h30 hl h5 el (fun d hd w' hw' => by
          have := m_good (w := w') (f4 := u 4) (f7 := u 7) (f10 := u 10) (f23 := u 23) (nh := nh) (np := np) (ns := ns) (nq := nq) (nd := nd) (d := d) (q := k) (by rw [hw']; exact HH) (by rw [hw']; exact HP) (by rw [hw']; exact HS) (by rw [hw']; exact HQ) h30 (by rw [hw']; exact hdw) hd hkq
          rw [this, hw']) (fun d hd => by
          have := s_qty_at (hdw d hd)
          exact ⟨this.1, this.2.1⟩)
        have w143 : w1 43 = w 43 := s2 43 (by decide)
        obtain ⟨w2, d1, d2, d3, d4⟩ := m_48 (x3 := nN (l - min l (v_sum (s_good (w 43) k) (s_qty (w 43)) nd))) HH HP HS HQ h30 h5 hdw hkq nd mg_F 0 w1 (fun i _ => by rw [w143]) (by omega) (by show nd < 6000; omega)
        obtain ⟨w3, hw3⟩ : ∃ w3, w3 = mg_up w2 43 (138 + 9 * k + 6) (nN (l - min l (v_sum (s_good (w 43) k) (s_qty (w 43)) nd))) := ⟨_, rfl⟩
        have g3 : ∀ i, i ≠ 138 + 9 * k + 6 → (∀ d < nd, i ≠ 208 + 16 * d + 14) → w3 43 i = w 43 i := fun i i1 i2 => by rw [hw3, zu_ne i1, d3 i i2]
        have g36 : w3 43 (138 + 9 * k + 6) = nN (l - min l (v_sum (s_good (w 43) k) (s_qty (w 43)) nd)) := by rw [hw3, zu_eq]
        have g314 : ∀ d < nd, w3 43 (208 + 16 * d + 14) = if s_con (w 43) k d = true then s_claims (w 43) d k (nN l) else w 43 (208 + 16 * d + 14) := fun d hd => by
          rw [hw3, zu_ne (by omega), d4 d hd, w143, el]
          by_cases hc : s_con (w 43) k d = true
          · rw [if_pos ⟨by omega, hc⟩, if_pos hc]
          · rw [if_neg (fun h => hc h.2), if_neg hc]
        have gcol : ∀ d < nd, ∀ j < 14, w3 43 (208 + 16 * d + j) = w 43 (208 + 16 * d + j) := fun d hd j hj => g3 _ (by omega) (fun d' hd' => by omega)
        have w348 : ∀ d, w3 48 d = if d < nd ∧ s_good (w 43) k d = true then nN (v_got (s_good (w 43) k) (s_qty (w 43)) l nd d) else w 48 d := fun d => by rw [hw3, z_up_ne (by decide), d2 48 (by decide), s3 d]
        have vq : ∀ c, c ≠ 23 → c ≠ 26 → c ≠ 28 → v c = u c := fun c x1 x2 x3 => (c2 c x1 x2 x3).trans (b2 c x3)
        have u126 : u1 26 = u 26 := b2 26 (by decide)
        have u123 : u1 23 = u 23 := b2 23 (by decide)
        rw [u126] at c4
        rw [u123] at c5 c7
        have hgc : ∀ d, s_good (w 43) k d = true → s_con (w 43) k d = true := fun d h => by
          cases hc : s_con (w 43) k d with
          | true => rfl
          | false =>
            rw [s_good_con hc] at h
            cases h
        have v8 : ∀ d < nd, v 26 (1 + d * 15 + 8) = if s_good (w 43) k d = true then nN (v_got (s_good (w 43) k) (s_qty (w 43)) l nd d) else u 26 (1 + d * 15 + 8) := fun d hd => by
          rw [c4 d hd 8 (by omega), if_neg (fun h => absurd h.2 (by decide))]
          by_cases hg : s_good (w 43) k d = true
          · rw [if_pos ⟨hg, rfl⟩, if_pos hg]
          · rw [if_neg (fun h => hg h.1), if_neg hg]
        have hgot : ∀ d < nd, v_got (s_good (w 43) k) (s_qty (w 43)) l nd d ≤ 999 := fun d hd => by
          have h9 := s_qty_at (hdw d hd)
          have := v_got_le (s_good (w 43) k) (s_qty (w 43)) l nd d h9.2.2
          omega
        have hu0 : ∀ d < nd, s_con (w 43) k d = true → u 26 (1 + d * 15 + 8) = 0 := fun d hd hc => by
          obtain ⟨x1, x2⟩ := s_con_5 hc
          obtain ⟨y1, y2, y3⟩ := hlo d hd x1
          rw [y1]
          exact y3 (Or.inr ⟨k, Nat.le_refl _, hkq, x2⟩)
        have R3 : z_RS nh np ns nq nd (k + 1) v w3 := by
          refine ⟨⟨tH_cg (fun i _ => by rw [vq 4 (by decide) (by decide) (by decide)]) (fun i hi => g3 i (by omega) (fun d hd => by omega)) HH, tP_cg (fun i _ => by rw [vq 7 (by decide) (by decide) (by decide)]) (fun i hi => g3 i (by omega) (fun d hd => by omega)) HP, tS_cg (fun i _ => by rw [vq 10 (by decide) (by decide) (by decide)]) (fun i hi => g3 i (by omega) (fun d hd => by omega)) HS, tT_cg (fun i _ => by rw [vq 13 (by decide) (by decide) (by decide)]) (fun i hi => g3 i (by omega) (fun d hd => by omega)) HT, ?_⟩, h30, c3, by rw [g3 5 (by omega) (fun d hd => by omega)]; exact h5, fun d hd => z_dw_cg2 (fun j hj => gcol d hd j (by omega)) (hdw d hd), tL_cg (fun i _ => by rw [vq 17 (by decide) (by decide) (by decide)]) (fun i _ => by rw [vq 20 (by decide) (by decide) (by decide)]) (fun i hi => g3 i (by omega) (fun d hd => by omega)) HL, fun d hd j hj hj8 => ?_, fun d hd h7 => ?_, fun d hd h7 => ?_, fun q hq => ?_⟩
          · obtain ⟨r0, r8, r7⟩ := HQ.2.2.2.1 k hkq
            refine tQ_row HQ hkq (c5 0 (by omega) (by omega)) (g3 4 (by omega) (fun d hd => by omega)) (fun h hh hne j hj => c5 _ (by omega) (by omega)) (fun h hh hne j hj => g3 _ (by omega) (fun d hd => by omega)) (fun j hj => ?_) ?_ ?_ ⟨⟨hp, hp1, by rw [g3 _ (by omega) (fun d hd => by omega)]; exact hp2⟩, ⟨l - min l (v_sum (s_good (w 43) k) (s_qty (w 43)) nd), by omega, g36⟩, ⟨ls, ls1, by rw [g3 _ (by omega) (fun d hd => by omega)]; exact ls2⟩⟩
            · by_cases h : j = 6
              · subst h
                rw [c6, g36]
              · rw [c5 _ (by omega) (by omega), g3 _ (by omega) (fun d hd => by omega)]
                exact r0 j hj
            · rw [c5 _ (by omega) (by omega), g3 _ (by omega) (fun d hd => by omega)]
              exact r8
            · rw [c7, g36, g3 (138 + 9 * k + 2) (by omega) (fun d hd => by omega), g3 (138 + 9 * k + 7) (by omega) (fun d hd => by omega), r7, el, ← z_subN (by omega)]
              exact z_ring3 _ _ _ _
          · by_cases h14 : j = 14
            · subst h14
              rw [c4 d hd 14 (by omega), g314 d hd]
              by_cases hc : s_con (w 43) k d = true
              · rw [if_pos ⟨hc, rfl⟩, if_pos hc]
              · rw [if_neg (fun h => hc h.1), if_neg (fun h => absurd h.2 (by decide)), if_neg hc]
                exact hrow d hd 14 (by omega) (by omega)
            · rw [c4 d hd j hj, if_neg (fun h => h14 h.2), if_neg (fun h => hj8 h.2), gcol d hd j (by omega)]
              exact hrow d hd j hj hj8
          · rw [gcol d hd 7 (by omega)] at h7
            have hng : ¬ s_good (w 43) k d = true := fun h => h7 (s_con_5 (hgc d h)).1
            rw [v8 d hd, if_neg hng, gcol d hd 8 (by omega)]
            exact hst d hd h7
          · rw [gcol d hd 7 (by omega)] at h7
            obtain ⟨x1, x2, x3⟩ := hlo d hd h7
            refine ⟨?_, ?_, fun h => ?_⟩
            · rw [v8 d hd, w348 d]
              by_cases hg : s_good (w 43) k d = true
              · rw [if_pos hg, if_pos ⟨hd, hg⟩]
              · rw [if_neg hg, if_neg (fun h => hg h.2)]
                exact x1
            · rw [w348 d]
              by_cases hg : s_good (w 43) k d = true
              · rw [if_pos ⟨hd, hg⟩]
                exact ⟨_, hgot d hd, rfl⟩
              · rw [if_neg (fun h => hg h.2)]
                exact x2
            · rw [gcol d hd 5 (by omega)] at h
              have hng : ¬ s_good (w 43) k d = true := fun hg => by
                have e5 := (s_con_5 (hgc d hg)).2
                rw [e5] at h
                rcases h with h | ⟨q', h1, h1', h2⟩
                · exact z_ne1 (by omega) h
                · exact absurd ((z_inj (by omega) (by omega)).mp h2) (by omega)
              rw [w348 d, if_neg (fun h => hng h.2)]
              refine x3 ?_
              rcases h with h | ⟨q', h1, h1', h2⟩
              · exact Or.inl h
              · exact Or.inr ⟨q', by omega, h1', h2⟩
          · have hs := z_sumc_step (nd := nd) (k := k) (q := q) (f := u 26) (f' := v 26) (g := w 43) (g' := w3 43) (got := v_got (s_good (w 43) k) (s_qty (w 43)) l nd) (good := s_good (w 43) k) (fun d hd => gcol d hd 5 (by omega)) (fun d hd hg => ⟨(s_con_5 (hgc d hg)).2, by rw [v8 d hd, if_pos hg], hgot d hd, hu0 d hd (hgc d hg)⟩) (fun d hd hg => by rw [v8 d hd, if_neg hg]) (by omega) (by omega) nd (Nat.le_refl _)
            have hb := hco q hq
            rw [hs]
            by_cases hqk : q = k
            · subst hqk
              rw [if_pos rfl, v_got_sum, g36, g3 (138 + 9 * q + 7) (by omega) (fun d hd => by omega), z_nat (by omega)]
              rw [el, z_nat (by omega)] at hb
              omega
            · rw [if_neg hqk, g3 (138 + 9 * q + 6) (by omega) (fun d hd => by omega), g3 (138 + 9 * q + 7) (by omega) (fun d hd => by omega)]
              exact hb
        obtain ⟨v', w', e1, e2, e3, e4, e5, e6⟩ := ih m m' (k + 1) v w3 R3 (by omega) (by omega) (by omega)
        refine ⟨v', w', ?_, ?_, e3, fun c x1 x2 x3 => (e4 c x1 x2 x3).trans (vq c x1 x2 x3), fun c x1 x2 => by rw [e5 c x1 x2, hw3, z_up_ne x1, d2 c x1, s2 c x2], fun i hi => by rw [e6 i hi, g3 i (by omega) (fun d hd => by omega)]⟩
        · unfold C_pass_L53 O_goodQuantity
          rw [h1]
          simp only [Option.bind_some]
          rw [if_neg (z_nle (by omega) (by omega) (by omega)), show O_goodQuantity_L4 mg_F (nN k) 0 0 u = _ from b1]
          simp only [Option.bind_some]
          rw [c1, zo_1]
          exact e1
        · unfold M_ends_L29
          rw [h2, if_neg (z_nle (by omega) (by omega) (by omega)), s1]
          simp only [Option.bind_some]
          rw [show M_ends_L48 mg_F 0 (nN k) (nN (l - min l (v_sum (s_good (w 43) k) (s_qty (w 43)) nd))) 0 w1 = _ from d1, zb_138, zo_6]
          simp only [Option.bind_some]
          rw [zg (by omega), z_nat (by omega), zo_1, ← hw3]
          exact e2
