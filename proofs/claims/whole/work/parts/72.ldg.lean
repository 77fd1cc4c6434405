/-! LODGE -/
theorem z_ring46 {u : mg_Rg} (hr : z_rel u (u 43)) (hg : z_ring u) (hkp : z_kept u) : ∃ u0, C_keepForUndo u = some u0 ∧ (∀ k, k ∉ 0 :: z_ks.map (· + 1) → u0 k = u k) ∧ (∀ i, i ≠ 6 → i ≠ 7 → u0 0 i = u 0 i) ∧ ∀ y : mg_Rg, (∀ k ∈ [5, 8, 11, 14, 18, 21, 24, 27, 32, 0, 44, 45], y k = u0 k) → y 42 3 = u 42 3 → y 42 5 = u 42 5 → (∀ i < 690, y 46 i = u 43 i) →
    ∃ y2, M_remembersRow_46 y = some y2 ∧ (∀ k, k ≠ 44 → k ≠ 42 → y2 k = y k) ∧ (∀ i, i ≠ 3 → y2 42 i = y 42 i) ∧ z_ring y2 ∧ z_kept y2 := by
  obtain ⟨s, m, hs, hm, h6, h7, h3, hring⟩ := hg
  obtain ⟨u0, k1, k2, k3, k4, k5, k6⟩ := z_kfu hs hm h6 h7
  refine ⟨u0, k1, k3, k4, fun y hy y3 y5 h46 => ?_⟩
  have e44 : y 44 = u 44 := (hy 44 (by decide)).trans (k3 44 (by decide))
  have e45 : y 45 = u 45 := (hy 45 (by decide)).trans (k3 45 (by decide))
  obtain ⟨y2, r1, r2, r3, r4, r5, r6⟩ := z_rem_46 hm (y3.trans h3)
  have hsl : ∀ k ∈ z_ks, y2 (k + 1) = va_cpy (u k) (u (k + 1)) 0 (s * z_len k) (z_len k) := by
    intro k hk
    have hk2 : k + 1 ∈ [5, 8, 11, 14, 18, 21, 24, 27, 32, 0, 44, 45] ∧ k + 1 ≠ 44 ∧ k + 1 ≠ 42 := by
      simp only [z_ks, List.mem_cons, List.not_mem_nil, or_false] at hk
      rcases hk with rfl | rfl | rfl | rfl | rfl | rfl | rfl | rfl | rfl <;> decide
    rw [r2 _ hk2.2.1 hk2.2.2, hy _ hk2.1]
    exact k2 k hk
  have h20 : y2 0 = u0 0 := (r2 0 (by decide) (by decide)).trans (hy 0 (by decide))
  refine ⟨y2, r1, r2, r3, ?_, ?_⟩
  · refine z_ring_step (g := u 43) hs hm hring hr hsl (by rw [h20]; exact k5) (by rw [h20]; exact k6) r4 (fun h j => ?_) (fun h j hj => ?_)
    · rw [r5 h j, e44]
      by_cases hj : 690 * m ≤ j ∧ j < 690 * m + 690
      · rw [if_pos hj, if_pos hj, h46 _ (by omega)]
      · rw [if_neg hj, if_neg hj]
    · rw [r6 h j hj, e44]
      by_cases hj2 : 4830 ≤ j
      · rw [if_pos hj2, if_pos hj2, h46 _ (by omega)]
      · rw [if_neg hj2, if_neg hj2]
  · have e8 : ∀ k ∈ z_ks, ∀ i < z_len k, z_slot y2 8 k i = z_slot u 8 k i := fun k hk i hi => by
      unfold z_slot
      rw [hsl k hk, z_cpy_at hi, if_neg (by omega)]
    have e5 : y2 42 5 = u 42 5 := (r3 5 (by decide)).trans y5
    have e0 : y2 0 8 = u 0 8 := by rw [h20]; exact k4 8 (by decide) (by decide)
    rcases hkp with ⟨c1, c2⟩ | ⟨c1, c2, c3⟩
    · exact Or.inl ⟨e0.trans c1, e5.trans c2⟩
    · refine Or.inr ⟨e0.trans c1, e5.trans c2, ?_⟩
      rw [r2 45 (by decide) (by decide), e45]
      exact z_rel_cg e8 (fun _ _ => rfl) c3
/-- where only the text, the entries and the reference's marks differ -/
theorem z_RK {u u' : mg_Rg} (h : ∀ k < 37, u' k = u k) (hh : u' 44 = u 44) (hk : u' 45 = u 45) (h3 : u' 42 3 = u 42 3) (h5 : u' 42 5 = u 42 5) (hI : z_I u) : z_ring u' ∧ z_kept u' := by
  obtain ⟨h1, ⟨s, m, a1, a2, a3, a4, a5, a6⟩, hkp, -, -, -⟩ := hI
  have e0 := h 0 (by decide)
  have hs : ∀ s, ∀ k ∈ z_ks, z_slot u' s k = z_slot u s k := z_slot_congr (fun k hk => h _ (by
    simp only [z_ks, List.mem_cons, List.not_mem_nil, or_false] at hk
    omega))
  refine ⟨⟨s, m, a1, a2, by rw [e0]; exact a3, by rw [e0]; exact a4, h3.trans a5, fun j hj => ?_⟩, ?_⟩
  · rw [hh]
    exact z_rel_congr (hs _) (a6 j hj)
  · rcases hkp with ⟨c1, c2⟩ | ⟨c1, c2, c3⟩
    · exact Or.inl ⟨by rw [e0]; exact c1, h5.trans c2⟩
    · refine Or.inr ⟨by rw [e0]; exact c1, h5.trans c2, ?_⟩
      rw [hk]
      exact z_rel_congr (hs 8) c3
theorem z_I_text2 {u u' : mg_Rg} (h : ∀ k < 37, u' k = u k) (hg : ∀ i < 690, u' 43 i = u 43 i) (hh : u' 44 = u 44) (hk : u' 45 = u 45) (hf : ∀ i ∈ [3, 5, 7, 8], u' 42 i = u 42 i) (ht : z_text u') (hI : z_I u) : z_I u' := by
  obtain ⟨r1, r2⟩ := z_RK h hh hk (hf 3 (by decide)) (hf 5 (by decide)) hI
  obtain ⟨h1, -, -, -, h5, h6⟩ := hI
  refine ⟨z_rel_cg (fun k hk i hi => ?_) hg h1, r1, r2, ht, ?_, (hf 7 (by decide)).trans h6⟩
  · rw [h k (by
      simp only [z_ks, List.mem_cons, List.not_mem_nil, or_false] at hk
      omega)]
  · rw [h 0 (by decide), hf 8 (by decide)]
    exact h5
/-- the text, read by the class once, by the reference from any state that has it -/
theorem x_text2 {n : Nat} {u : mg_Rg} (H : X0 n u u) :
    (∃ N U, 1 ≤ N ∧ N ≤ 7 ∧ X_readAll u = some (1, U) ∧ (∀ k, k ≠ 37 → k ≠ 40 → U k = u k) ∧ U 37 2 = 0 ∧ U 37 4 = u 37 4 ∧ U 40 0 = nN N ∧ ∀ w : mg_Rg, w 42 10 = u 42 10 → w 47 = u 47 → ∃ y, R_all w = some (nN N, y) ∧ MF y w ∧ y 42 13 = nN n ∧ y 42 14 = 0 ∧ ∀ j < N, EC j (14 * j) U (y 49)) ∨
    (∃ p U, p ≤ n ∧ X_readAll u = some (0, U) ∧ (∀ k, k ≠ 37 → k ≠ 40 → U k = u k) ∧ U 37 2 = 0 ∧ U 37 4 = nN p ∧ ∀ w : mg_Rg, w 42 10 = u 42 10 → w 47 = u 47 → ∃ N y, R_all w = some (N, y) ∧ MF y w ∧ y 42 13 = nN p ∧ (y 42 14 = 1 ∨ (y 42 14 = 0 ∧ p < n))) := by
  have h60 := H.1
  have HW : ∀ w : mg_Rg, w 42 10 = u 42 10 → w 47 = u 47 → X0 n u w := fun w h1 h2 => ⟨H.1, H.2.1, h1.trans H.2.2.1, fun i hi => by rw [h2]; exact H.2.2.2 i hi⟩
  rcases x_text H with ⟨N, u', w', n1, n7, a1, a2, a3, a4, a5, a6, a7, a8⟩ | ⟨N, p, u', w', a1, a2, a3, a4, a5, a6, a7⟩
  · left
    refine ⟨N, mg_up u' 37 2 0, n1, n7, a1, fun k k1 k2 => by rw [z_up_ne k1, a3.1 k k1 k2], by rw [zu_eq], by rw [zu_ne (by decide), a3.2 4 (by decide)], by rw [z_up_ne (by decide)]; exact a7, fun w h1 h2 => ?_⟩
    rcases x_text (HW w h1 h2) with ⟨N2, u2, w2, m1, m7, b1, b2, b3, b4, b5, b6, b7, b8⟩ | ⟨N2, p2, u2, w2, b1, -, -, -, -, -, -⟩
    · have e : mg_up u2 37 2 0 = mg_up u' 37 2 0 := (Prod.mk.inj (Option.some.inj (b1.symm.trans a1))).2
      have e40 : u2 40 = u' 40 := by
        have := congrFun e 40
        rw [z_up_ne (by decide), z_up_ne (by decide)] at this
        exact this
      have eN : N2 = N := by
        have h := b7.symm.trans ((congrFun e40 0).trans a7)
        exact (z_inj (by omega) (by omega)).mp h
      subst eN
      refine ⟨w2, b2, b4, b5, b6, fun j hj => ?_⟩
      have := b8 j hj
      unfold ER at this
      unfold EC
      rw [z_up_ne (by decide), ← e40]
      exact this
    · exact absurd (Prod.mk.inj (Option.some.inj (b1.symm.trans a1))).1 (by decide)
  · right
    refine ⟨p, mg_up (mg_up u' 37 4 (nN p)) 37 2 0, a5, a1, fun k k1 k2 => by rw [z_up_ne k1, z_up_ne k1, a3.1 k k1 k2], by rw [zu_eq], by rw [zu_ne (by decide), zu_eq], fun w h1 h2 => ?_⟩
    rcases x_text (HW w h1 h2) with ⟨N2, u2, w2, m1, m7, b1, -, -, -, -, -, -, -⟩ | ⟨N2, p2, u2, w2, b1, b2, b3, b4, b5, b6, b7⟩
    · exact absurd (Prod.mk.inj (Option.some.inj (b1.symm.trans a1))).1 (by decide)
    · have e := (Prod.mk.inj (Option.some.inj (b1.symm.trans a1))).2
      have ep : p2 = p := by
        have h := congrFun (congrFun e 37) 4
        rw [zu_ne (by decide), zu_eq, zu_ne (by decide), zu_eq] at h
        exact (z_inj (by omega) (by omega)).mp h
      subst ep
      exact ⟨N2, w2, b2, b4, b6, b7⟩
theorem R_all_at {w : mg_Rg} {q : Int32 × mg_Rg} (h : R_all w = some q) : ∃ y0, M_readsEntry 0 (mg_up (mg_up w 42 13 0) 42 14 0) = some y0 ∧ M_lodge_L17 mg_F 1 y0 = some q := by
  unfold R_all at h
  cases e : M_readsEntry 0 (mg_up (mg_up w 42 13 0) 42 14 0) with
  | none =>
    rw [e] at h
    cases h
  | some y0 =>
    rw [e] at h
    exact ⟨y0, rfl, h⟩
theorem ml_bad {n p : Nat} {N : Int32} {w y : mg_Rg} (h : R_all w = some (N, y)) (hn : n ≤ 60) (hp : p ≤ n) (h10 : y 42 10 = nN n) (h13 : y 42 13 = nN p) (h14 : y 42 14 = 1 ∨ (y 42 14 = 0 ∧ p < n)) : M_lodge w = some (0, mg_up (mg_up (mg_up (mg_up y 42 14 1) 42 10 0) 42 11 (nN p)) 42 0 1) := by
  obtain ⟨y0, h1, h2⟩ := R_all_at h
  have e3 : mg_up (mg_up y 42 14 1) 42 10 0 42 13 = nN p := by rw [zu_ne (by decide), zu_ne (by decide), h13]
  have e4 : ¬ mg_up (mg_up y 42 14 1) 42 10 0 42 14 = 0 := by
    rw [zu_ne (by decide), zu_eq]
    decide
  unfold M_lodge
  rw [h1]
  simp only [Option.bind_some]
  rw [h2]
  simp only [Option.bind_some]
  by_cases hle : y 42 10 ≤ y 42 13
  · have e1 : y 42 14 ||| 0 = 1 := by
      rcases h14 with h14 | ⟨-, h15⟩
      · rw [h14]
        rfl
      · rw [h10, h13] at hle
        exact absurd hle (z_nle (by omega) (by omega) h15)
    rw [if_pos hle, e1, if_pos (by decide), if_neg e4, e3]
    rfl
  · have e1 : y 42 14 ||| 1 = 1 := by
      rcases h14 with h14 | ⟨h14, -⟩
      · rw [h14]
        rfl
      · rw [h14]
        rfl
    rw [if_neg hle, e1, if_pos (by decide), if_neg e4, e3]
    rfl
theorem ml_go {n : Nat} {N : Int32} {w y : mg_Rg} (h : R_all w = some (N, y)) (h10 : y 42 10 = nN n) (h13 : y 42 13 = nN n) (h14 : y 42 14 = 0) {X : Option (Int32 × mg_Rg)}
    (K : ((M_lodge_L112 mg_F N 1 0 (mg_up (mg_up y 42 14 0) 42 10 0)).bind fun q => if q.1 = 0 then M_fails 2 q.2 else (M_copy_43_46 0 0 q.2).bind fun a => (M_lodge_L181 mg_F N 1 0 (mg_up a 42 7 1)).bind fun q => if q.1 = 0 then (M_copy_46_43 0 0 (mg_up q.2 42 7 0)).bind fun c => M_fails 3 c else (M_lodge_L240 mg_F N 192 (mg_up q.2 42 7 0)).bind fun d => (M_remembersRow_46 (mg_up d 43 6 (d 46 6))).bind fun e => M_done N e) = X) : M_lodge w = X := by
  obtain ⟨y0, h1, h2⟩ := R_all_at h
  have e1 : y 42 14 ||| 0 = 0 := by
    rw [h14]
    rfl
  have e4 : mg_up (mg_up y 42 14 0) 42 10 0 42 14 = 0 := by rw [zu_ne (by decide), zu_eq]
  have hle : y 42 10 ≤ y 42 13 := by
    rw [h10, h13]
    exact Int32.le_refl _
  unfold M_lodge
  rw [h1]
  simp only [Option.bind_some]
  rw [h2]
  simp only [Option.bind_some]
  rw [if_pos hle, e1, if_pos (by decide), if_pos e4, ← K]
  rfl
theorem l240 {N : Int32} : ∀ (m k : Nat) (u : mg_Rg), k ≤ 200 → 200 < m + k → ∃ u', M_lodge_L240 m N (nN k) u = some u' ∧ (∀ q, q ≠ 43 → u' q = u q) ∧ ∀ i, u' 43 i = if k ≤ i ∧ i < 200 then u 46 i else u 43 i := by
  intro m
  induction m with
  | zero => intro k u h1 h2; omega
  | succ m ih =>
    intro k u h1 h2
    unfold M_lodge_L240
    by_cases hk : k = 200
    · subst hk
      refine ⟨u, if_pos (by decide), fun _ _ => rfl, fun i => ?_⟩
      rw [if_neg (by omega)]
    · have c1 : ¬ (200 : Int32) ≤ nN k := z_nle (a := 200) (by omega) (by omega) (by omega)
      obtain ⟨u', h3, h4, h5⟩ := ih (k + 1) (mg_up u 43 k (u 46 k)) (by omega) (by omega)
      rw [if_neg c1, zg (by omega), zg (by omega), z_nat (by omega), zo_1]
      refine ⟨u', h3, fun q hq => (h4 q hq).trans (z_up_ne hq), fun i => ?_⟩
      rw [h5 i, z_up_ne (show (46 : Nat) ≠ 43 by decide)]
      by_cases hi : i = k
      · subst hi
        rw [if_neg (by omega), if_pos (by omega), zu_eq]
      · rw [zu_ne hi]
        by_cases hi2 : k + 1 ≤ i ∧ i < 200
        · rw [if_pos hi2, if_pos (by omega)]
        · rw [if_neg hi2, if_neg (by omega)]
