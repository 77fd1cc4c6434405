/-! refund, prove -/
theorem z_addneg (x a : Int32) : x + (0 - a) = x - a := by
  rw [Int32.zero_sub, ← Int32.sub_eq_add_neg]
theorem ri_25_8 {r : Nat} (hr : r < 30) (v : Int32) (u : mg_Rg) : T_increase_25 (nN r) 8 v u = some (mg_up u 26 (1 + r * 15 + 8) (u 26 (1 + r * 15 + 8) + v)) := by
  unfold T_increase_25
  rw [rg_25_8 hr]
  simp only [Option.bind_some]
  rw [rp_25_8 hr]
  rfl
theorem ri_25_11 {r : Nat} (hr : r < 30) (v : Int32) (u : mg_Rg) : T_increase_25 (nN r) 11 v u = some (mg_up u 26 (1 + r * 15 + 11) (u 26 (1 + r * 15 + 11) + v)) := by
  unfold T_increase_25
  rw [rg_25_11 hr]
  simp only [Option.bind_some]
  rw [rp_25_11 hr]
  rfl
theorem ri_22_6 {r : Nat} (hr : r < 6) (v : Int32) (u : mg_Rg) : T_increase_22 (nN r) 6 v u = some (mg_up u 23 (1 + r * 9 + 6) (u 23 (1 + r * 9 + 6) + v)) := by
  unfold T_increase_22
  rw [rg_22_6 hr]
  simp only [Option.bind_some]
  rw [rp_22_6 hr]
  rfl
theorem ri_22_7 {r : Nat} (hr : r < 6) (v : Int32) (u : mg_Rg) : T_increase_22 (nN r) 7 v u = some (mg_up u 23 (1 + r * 9 + 7) (u 23 (1 + r * 9 + 7) + v)) := by
  unfold T_increase_22
  rw [rg_22_7 hr]
  simp only [Option.bind_some]
  rw [rp_22_7 hr]
  rfl
theorem ri_22_8 {r : Nat} (hr : r < 6) (v : Int32) (u : mg_Rg) : T_increase_22 (nN r) 8 v u = some (mg_up u 23 (1 + r * 9 + 8) (u 23 (1 + r * 9 + 8) + v)) := by
  unfold T_increase_22
  rw [rg_22_8 hr]
  simp only [Option.bind_some]
  rw [rp_22_8 hr]
  rfl
theorem ri_16_1 (v : Int32) (u : mg_Rg) : T_increase_16 1 0 v u = some (mg_up u 17 2 (u 17 2 + v)) := by
  unfold T_increase_16
  rw [rg_16_1]
  simp only [Option.bind_some]
  rw [rp_16_1]
  rfl
theorem ri_16_2 (v : Int32) (u : mg_Rg) : T_increase_16 2 0 v u = some (mg_up u 17 3 (u 17 3 + v)) := by
  unfold T_increase_16
  rw [rg_16_2]
  simp only [Option.bind_some]
  rw [rp_16_2]
  rfl
theorem ri_19 {r : Nat} (hr : r < 8) (v : Int32) (u : mg_Rg) : T_increase_19 (nN r) 0 v u = some (mg_up u 20 (1 + r) (u 20 (1 + r) + v)) := by
  unfold T_increase_19
  rw [rg_19 hr]
  simp only [Option.bind_some]
  rw [rp_19 hr]
  rfl
theorem i_lc (a b c : Int32) : a + (b + c) = b + (a + c) := by rw [← Int32.add_assoc, Int32.add_comm a b, Int32.add_assoc]
theorem z_ring1 (a b c k : Int32) : a - b - c - k = a - (b + k) - c := by
  simp only [Int32.sub_eq_add_neg, Int32.neg_add, Int32.add_assoc, Int32.add_comm, i_lc]
theorem z_ring2 (a b c k : Int32) : a - b - c - k = a - b - (c + k) := by
  simp only [Int32.sub_eq_add_neg, Int32.neg_add, Int32.add_assoc, Int32.add_comm, i_lc]
theorem tQ_row {n q : Nat} {f g f' g' : z_Ro} (H : tQ n f g) (hq : q < n) (f0 : f' 0 = f 0) (g0 : g' 4 = g 4) (fo : ∀ h < n, h ≠ q → ∀ j < 9, f' (1 + h * 9 + j) = f (1 + h * 9 + j)) (go : ∀ h < n, h ≠ q → ∀ j < 9, g' (138 + 9 * h + j) = g (138 + 9 * h + j))
    (e : ∀ j < 7, f' (1 + q * 9 + j) = g' (138 + 9 * q + j)) (e8 : f' (1 + q * 9 + 8) = g' (138 + 9 * q + 7)) (e7 : f' (1 + q * 9 + 7) = g' (138 + 9 * q + 2) - g' (138 + 9 * q + 6) - g' (138 + 9 * q + 7))
    (hc : (∃ p < 20, g' (138 + 9 * q) = nN p) ∧ (∃ l ≤ 9999, g' (138 + 9 * q + 6) = nN l) ∧ ∃ l ≤ 9999, g' (138 + 9 * q + 7) = nN l) : tQ n f' g' := by
  obtain ⟨h1, h2, h3, h4, h5⟩ := H
  refine ⟨h1, f0.trans h2, g0.trans h3, fun h hh => ?_, fun h hh => ?_⟩
  · by_cases w : h = q
    · subst w
      exact ⟨e, e8, e7⟩
    · obtain ⟨a, b, c⟩ := h4 h hh
      refine ⟨fun j hj => by rw [fo h hh w j (by omega), go h hh w j (by omega)]; exact a j hj, by rw [fo h hh w 8 (by omega), go h hh w 7 (by omega)]; exact b, ?_⟩
      rw [fo h hh w 7 (by omega), go h hh w 2 (by omega), go h hh w 6 (by omega), go h hh w 7 (by omega)]
      exact c
  · by_cases w : h = q
    · subst w
      exact hc
    · rw [show g' (138 + 9 * h) = g (138 + 9 * h) from go h hh w 0 (by omega), go h hh w 6 (by omega), go h hh w 7 (by omega)]
      exact h5 h hh
theorem tD_row {nh nq n x : Nat} {f g f' g' : z_Ro} (H : tD nh nq n f g) (hx : x < n) (f0 : f' 0 = f 0) (g0 : g' 5 = g 5) (fo : ∀ h < n, h ≠ x → ∀ j < 15, f' (1 + h * 15 + j) = f (1 + h * 15 + j)) (go : ∀ h < n, h ≠ x → ∀ j < 16, g' (208 + 16 * h + j) = g (208 + 16 * h + j))
    (e : ∀ j < 15, f' (1 + x * 15 + j) = g' (208 + 16 * x + j)) (hc : z_dw nh nq g' x) : tD nh nq n f' g' := by
  obtain ⟨h1, h2, h3, h4, h5⟩ := H
  refine ⟨h1, f0.trans h2, g0.trans h3, fun h hh j hj => ?_, fun h hh => ?_⟩
  · by_cases w : h = x
    · subst w
      exact e j hj
    · rw [fo h hh w j hj, go h hh w j (by omega)]
      exact h4 h hh j hj
  · by_cases w : h = x
    · subst w
      exact hc
    · refine z_dw_cg (fun i hi => ?_) (h5 h hh)
      rw [show i = 208 + 16 * h + (i - (208 + 16 * h)) by omega]
      exact go h hh w _ (by omega)
theorem z_sum_cg2 {g g' : z_Ro} {q : Nat} : ∀ {n : Nat}, (∀ d < n, g' (208 + 16 * d + 5) = g (208 + 16 * d + 5) ∧ g' (208 + 16 * d + 8) = g (208 + 16 * d + 8)) → z_sum g' q n = z_sum g q n := by
  intro n
  induction n with
  | zero => intro _; rfl
  | succ n ih =>
    intro h
    unfold z_sum
    rw [ih (fun d hd => h d (by omega)), (h n (by omega)).1, (h n (by omega)).2]
theorem z_sum_upd {g g' : z_Ro} {q x : Nat} : ∀ {n : Nat}, x < n → (∀ d < n, g' (208 + 16 * d + 5) = g (208 + 16 * d + 5)) → (∀ d < n, d ≠ x → g' (208 + 16 * d + 8) = g (208 + 16 * d + 8)) → g' (208 + 16 * x + 8) = 0 → z_sum g' q n + (if g (208 + 16 * x + 5) = nN q then (g (208 + 16 * x + 8)).toNatClampNeg else 0) = z_sum g q n := by
  intro n
  induction n with
  | zero => intro h; omega
  | succ n ih =>
    intro hx h5 h8 h0
    unfold z_sum
    rw [h5 n (by omega)]
    by_cases w : x = n
    · subst w
      rw [z_sum_cg2 (g := g) (g' := g') (fun d hd => ⟨h5 d (by omega), h8 d (by omega) (by omega)⟩), h0]
      have e : (0 : Int32).toNatClampNeg = 0 := rfl
      rw [e]
      by_cases k : g (208 + 16 * x + 5) = nN q
      · rw [if_pos k, if_pos k]
        omega
      · rw [if_neg k, if_neg k]
    · have i1 := ih (by omega) (fun d hd => h5 d (by omega)) (fun d hd => h8 d (by omega)) h0
      rw [h8 n (by omega) (fun e => w e.symm)]
      omega
def s_hind (g : z_Ro) (x : Nat) : Int32 := if g (208 + 16 * x + 7) = 1 then (if g 0 - g (208 + 16 * x + 6) ≤ g 11 then 0 else 3) else if g (208 + 16 * x + 7) = 0 then 1 else 2
theorem m_hind {x : Nat} (hx : x < 30) (u : mg_Rg) : M_hinders (nN x) u = some (s_hind (u 43) x) := by
  unfold M_hinders s_hind
  rw [mdeclAt_7 hx, mdeclAt_6 hx]
  simp only [Option.bind_some]
  by_cases h1 : u 43 (208 + 16 * x + 7) = 1
  · rw [if_pos h1, if_pos h1]
    by_cases h2 : u 43 0 - u 43 (208 + 16 * x + 6) ≤ u 43 11
    · rw [if_pos h2, if_pos h2]
    · rw [if_neg h2, if_neg h2]
  · rw [if_neg h1, if_neg h1]
    by_cases h2 : u 43 (208 + 16 * x + 7) = 0
    · rw [if_pos h2, if_pos h2]
    · rw [if_neg h2, if_neg h2]
theorem c_hind {nh nq nd x : Nat} {u : mg_Rg} (HD : tD nh nq nd (u 26) (u 43)) (HT : tT (u 13) (u 43)) (HL : tL (u 17) (u 20) (u 43)) (hx : x < nd) : O_refusalReason (nN x) u = some (s_hind (u 43) x) := by
  have e1 : Tf_setting 1 u = some (u 43 11) := by
    unfold Tf_setting
    rw [rg_12_1, show u 13 (1 + 1) = u 43 11 from HT 1 (by omega)]
    rfl
  obtain ⟨s, hs, es⟩ := (HD.2.2.2.2 x hx).2.2.2.2.1
  unfold O_refusalReason s_hind
  rw [c_stat HD hx, c_stat HD hx, e_day HL, cD_6 HD hx, e1]
  simp only [Option.bind_some, z_bz]
  rcases (show s = 0 ∨ s = 1 ∨ s = 2 by omega) with rfl | rfl | rfl
  · rw [es]
    rfl
  · rw [es, if_pos (show decide (nN 1 = 0) = false by decide), if_pos (show decide (nN 1 = 2) = false by decide), if_pos (show nN 1 = 1 by decide)]
    by_cases h2 : u 43 0 - u 43 (208 + 16 * x + 6) ≤ u 43 11
    · rw [if_pos h2, if_pos h2]
    · rw [if_neg h2, if_neg h2]
  · rw [es]
    rfl
theorem z_I_ref {u : mg_Rg} (r : Int32) (hu : z_I u) : z_I (mg_up (mg_up u 0 9 r) 42 8 r) := by
  obtain ⟨hr, ⟨s, m, a1, a2, a3, a4, a5, a6⟩, h3, ⟨n, b1, b2, b3, b4, b5⟩, h5, h6⟩ := hu
  have e : ∀ k, k ≠ 0 → k ≠ 42 → mg_up (mg_up u 0 9 r) 42 8 r k = u k := fun k k1 k2 => by rw [z_up_ne k2, z_up_ne k1]
  have e0 : ∀ i, i ≠ 9 → mg_up (mg_up u 0 9 r) 42 8 r 0 i = u 0 i := fun i i1 => by rw [z_up_ne (by decide), zu_ne i1]
  have e2 : ∀ i, i ≠ 8 → mg_up (mg_up u 0 9 r) 42 8 r 42 i = u 42 i := fun i i1 => by rw [zu_ne i1, z_up_ne (by decide)]
  have hs : ∀ s, ∀ k ∈ z_ks, z_slot (mg_up (mg_up u 0 9 r) 42 8 r) s k = z_slot u s k := z_slot_congr (fun k hk => e _ (Nat.succ_ne_zero k) (by
    simp only [z_ks, List.mem_cons, List.not_mem_nil, or_false] at hk
    omega))
  refine ⟨?_, ⟨s, m, a1, a2, (e0 6 (by decide)).trans a3, (e0 7 (by decide)).trans a4, (e2 3 (by decide)).trans a5, fun j hj => ?_⟩, ?_, ⟨n, b1, ?_, (e2 10 (by decide)).trans b3, fun i hi => ?_, ?_⟩, ?_, (e2 7 (by decide)).trans h6⟩
  · rw [e 43 (by decide) (by decide)]
    exact z_rel_congr (fun k hk => e k (by rintro rfl; revert hk; decide) (by rintro rfl; revert hk; decide)) hr
  · rw [e 44 (by decide) (by decide)]
    exact z_rel_congr (hs _) (a6 j hj)
  · rcases h3 with ⟨c1, c2⟩ | ⟨c1, c2, c3⟩
    · exact Or.inl ⟨(e0 8 (by decide)).trans c1, (e2 5 (by decide)).trans c2⟩
    · refine Or.inr ⟨(e0 8 (by decide)).trans c1, (e2 5 (by decide)).trans c2, ?_⟩
      rw [e 45 (by decide) (by decide)]
      exact z_rel_congr (hs _) c3
  · rw [e 37 (by decide) (by decide)]
    exact b2
  · rw [e 38 (by decide) (by decide), e 47 (by decide) (by decide)]
    exact b4 i hi
  · rw [e 37 (by decide) (by decide), e2 11 (by decide)]
    exact b5
  · rw [z_up_ne (by decide), zu_eq, zu_eq]
theorem m_gives {x c : Nat} (hx : x < 30) (hc : c < 8) {y : mg_Rg} (h3 : y 43 (208 + 16 * x + 3) = nN c) (A : Int32) : M_givesBack (nN x) A y = some (A, mg_up (mg_up (mg_up y 43 (208 + 16 * x + 11) (y 43 (208 + 16 * x + 11) + A)) 43 8 (y 43 8 + A)) 43 (200 + c) (y 43 (200 + c) - A)) := by
  unfold M_givesBack
  rw [zb_208, zo_11, zg (by omega), zg (by omega), z_nat (by omega), mdeclAt_3 hx, zu_ne (by omega), zu_ne (by omega), h3]
  simp only [Option.bind_some]
  rw [zb_200, zg (by omega), zg (by omega), z_nat (by omega), zu_ne (i := 208 + 16 * x + 11) (j := 8) (by omega), zu_ne (i := 8) (j := 200 + c) (by omega), zu_ne (i := 208 + 16 * x + 11) (j := 200 + c) (by omega)]
theorem c_gives {x c : Nat} (hx : x < 30) (hc : c < 8) {y : mg_Rg} (h3 : y 26 (1 + x * 15 + 3) = nN c) (A : Int32) : O_giveBack (nN x) A y = some (mg_up (mg_up (mg_up y 26 (1 + x * 15 + 11) (y 26 (1 + x * 15 + 11) + A)) 17 3 (y 17 3 + A)) 20 (1 + c) (y 20 (1 + c) - A)) := by
  unfold O_giveBack Lg_giveBack
  rw [ri_25_11 hx]
  simp only [Option.bind_some]
  rw [rg_25_3 hx, zu_ne (by omega), h3]
  simp only [Option.bind_some]
  rw [ri_16_2]
  simp only [Option.bind_some]
  rw [ri_19 hc, z_addneg]
  rfl
theorem tL_back {c : Nat} (hc : c < 8) {f k g f' k' g' : z_Ro} (H : tL f k g) (A : Int32) (hf1 : f' 1 = f 1) (hf2 : f' 2 = f 2) (hf3 : f' 3 = f 3 + A) (hk : ∀ j < 8, k' (1 + j) = if j = c then k (1 + j) - A else k (1 + j))
    (hg0 : g' 0 = g 0) (hg7 : g' 7 = g 7) (hg8 : g' 8 = g 8 + A) (hg : ∀ j < 8, g' (200 + j) = if j = c then g (200 + j) - A else g (200 + j)) : tL f' k' g' := by
  obtain ⟨h1, h2, h3, h4⟩ := H
  exact ⟨by rw [hf1, hg0, h1], by rw [hf2, hg7, h2], by rw [hf3, hg8, h3], fun j hj => by rw [hk j hj, hg j hj, h4 j hj]⟩
theorem ob_21 : Ob_21 z_I := by
  intro u hu a
  obtain ⟨nh, np, ns, nq, nd, na, HH, HP, HS, HQ, HD, HC, HA, HT, HL⟩ := hu.1
  have hD30 := HD.1
  have hQ6 := HQ.1
  by_cases hx : ∃ x, x < nd ∧ a = nN x
  case neg =>
    have hx' : ∀ x < nd, a ≠ nN x := fun x hl e => hx ⟨x, hl, e⟩
    refine ⟨.inr 0, u, 0, mg_up u 42 0 1, 1, ?_, ?_, rfl, Or.inr (Or.inl ⟨rfl, rfl⟩), z_I_thrown 1 hu⟩
    · simp only [C_refund, crD_no (by omega) HD.2.1 hx', Option.bind_some, zz_10, ↓reduceIte]
    · simp only [M_refund, mrD_no (by omega) HD.2.2.1 hx', Option.bind_some, zz_10, ↓reduceIte, z_fails]
  obtain ⟨x, hxl, rfl⟩ := hx
  have hx30 : x < 30 := by omega
  obtain ⟨w0, w1, ⟨oc, oc1, oc2⟩, w5, w7, ⟨kg, kg1, kg2⟩, w8⟩ := HD.2.2.2.2 x hxl
  by_cases hh : s_hind (u 43) x = 0
  case neg =>
    refine ⟨.inr 4, mg_up u 0 9 (s_hind (u 43) x), 0, mg_up (mg_up (mg_up u 0 9 (s_hind (u 43) x)) 42 8 (s_hind (u 43) x)) 42 0 2, 2, ?_, ?_, rfl, Or.inr (Or.inr ⟨rfl, rfl⟩), z_I_thrown 2 (z_I_ref _ hu)⟩
    · simp only [C_refund, crD_yes (by omega) HD.2.1 hxl, C_requireNoRefusal, c_hind HD HT HL hxl, hh, Option.bind_some, zz_10, ↓reduceIte]
    · have e43 : mg_up u 0 9 (s_hind (u 43) x) 43 = u 43 := z_up_ne (by decide)
      simp only [M_refund, mrD_yes (u := mg_up u 0 9 (s_hind (u 43) x)) (by omega) (show mg_up u 0 9 (s_hind (u 43) x) 43 5 = nN nd by rw [e43]; exact HD.2.2.1) hxl, m_hind hx30, e43, hh, Option.bind_some, zz_10, ↓reduceIte, z_fails]
  have h71 : u 43 (208 + 16 * x + 7) = 1 := by
    unfold s_hind at hh
    by_cases h : u 43 (208 + 16 * x + 7) = 1
    · exact h
    · rw [if_neg h] at hh
      by_cases h2 : u 43 (208 + 16 * x + 7) = 0
      · rw [if_pos h2] at hh
        exact absurd hh (by decide)
      · rw [if_neg h2] at hh
        exact absurd hh (by decide)
  obtain ⟨A, hA⟩ : ∃ A, A = u 43 (208 + 16 * x + 9) + u 43 (208 + 16 * x + 10) := ⟨_, rfl⟩
  obtain ⟨u0, k1, k2, k3⟩ := z_write hu
  have HD0 : tD nh nq nd (u0 26) (u 43) := by rw [k2 26 (by decide)]; exact HD
  have eA : O_keptOf (nN x) u0 = some A := by
    rw [c_kept1 HD0 hxl]
    unfold s_kept1
    rw [if_pos h71, hA]
  obtain ⟨e3, he3⟩ : ∃ e3, e3 = mg_up (mg_up (mg_up u0 26 (1 + x * 15 + 11) (u0 26 (1 + x * 15 + 11) + A)) 17 3 (u0 17 3 + A)) 20 (1 + oc) (u0 20 (1 + oc) - A) := ⟨_, rfl⟩
  have eG : O_giveBack (nN x) A u0 = some e3 := by
    rw [c_gives hx30 oc1 (show u0 26 (1 + x * 15 + 3) = nN oc by rw [HD0.2.2.2.1 x hxl 3 (by omega)]; exact oc2), he3]
  have e26 : ∀ i, i ≠ 1 + x * 15 + 11 → e3 26 i = u 26 i := fun i hi => by rw [he3, z_up_ne (by decide), z_up_ne (by decide), zu_ne hi, k2 26 (by decide)]
  have e2611 : e3 26 (1 + x * 15 + 11) = u 26 (1 + x * 15 + 11) + A := by rw [he3, z_up_ne (by decide), z_up_ne (by decide), zu_eq, k2 26 (by decide)]
  have e23 : e3 23 = u 23 := by rw [he3, z_up_ne (by decide), z_up_ne (by decide), z_up_ne (by decide), k2 23 (by decide)]
  have e17 : ∀ i, i ≠ 3 → e3 17 i = u 17 i := fun i hi => by rw [he3, z_up_ne (by decide), zu_ne hi, z_up_ne (by decide), k2 17 (by decide)]
  have e173 : e3 17 3 = u 17 3 + A := by rw [he3, z_up_ne (by decide), zu_eq, k2 17 (by decide)]
  have e20 : ∀ j < 8, e3 20 (1 + j) = if j = oc then u 20 (1 + j) - A else u 20 (1 + j) := fun j hj => by
    rw [he3]
    by_cases h : j = oc
    · subst h
      rw [if_pos rfl, zu_eq, k2 20 (by decide)]
    · rw [if_neg h, zu_ne (by omega), z_up_ne (by decide), z_up_ne (by decide), k2 20 (by decide)]
  have eo : ∀ q, q ≠ 26 → q ≠ 17 → q ≠ 20 → e3 q = u0 q := fun q q1 q2 q3 => by rw [he3, z_up_ne q3, z_up_ne q2, z_up_ne q1]
  have ed : Lg_day e3 = some (u 43 0) := by
    unfold Lg_day
    rw [rg_16_0, e17 _ (by decide), show u 17 (0 + 1) = u 43 0 from HL.1]
    rfl
  have ec : T_get_25 (nN x) 5 e3 = some (u 43 (208 + 16 * x + 5)) := by rw [rg_25_5 hx30, e26 _ (by omega), HD.2.2.2.1 x hxl 5 (by omega)]
  have eg : T_get_25 (nN x) 8 e3 = some (u 43 (208 + 16 * x + 8)) := by rw [rg_25_8 hx30, e26 _ (by omega), HD.2.2.2.1 x hxl 8 (by omega)]
  rcases w5 with h5 | ⟨q, hq, h5⟩
  · -- no claim
    have hk0 : u 43 (208 + 16 * x + 8) = 0 := w8 (Or.inr h5)
    have w5 : u 43 (208 + 16 * x + 5) = -1 ∨ ∃ q < nq, u 43 (208 + 16 * x + 5) = nN q := Or.inl h5
    obtain ⟨u1, hu1⟩ : ∃ u1, u1 = mg_up (mg_up e3 26 (1 + x * 15 + 8) 0) 26 (1 + x * 15 + 7) 2 := ⟨_, rfl⟩
    have inc : ∀ j v, T_increase_22 (-1) j v e3 = some e3 := fun j v => by
      unfold T_increase_22 T_get_22 T_put_22
      rw [if_pos (by decide)]
      simp only [Option.bind_some]
      rw [if_pos (by decide)]
      rfl
    have g5 : T_get_22 (-1) 5 e3 = some 0 := by
      unfold T_get_22
      exact if_pos (by decide)
    have hR : (O_returnUnits (nN x) e3).bind (fun u509 => (T_put_25 (nN x) 7 2 u509).bind fun u510 => some (A, u510)) = some (A, u1) := by
      unfold O_returnUnits
      rw [ec, eg, ed, h5]
      simp only [Option.bind_some]
      rw [g5]
      simp only [Option.bind_some, inc, rp_25_8 hx30, rp_25_7 hx30]
      rw [hu1]
      by_cases hday : u 43 0 ≤ 0
      · rw [if_pos hday]
        simp only [Option.bind_some, rp_25_7 hx30]
      · rw [if_neg hday]
        simp only [Option.bind_some, rp_25_7 hx30]
    have n23 : ∀ i, u1 23 i = u 23 i := fun i => by rw [hu1, z_up_ne (by decide), z_up_ne (by decide), e23]
    have hC : C_refund (nN x) u = some (.inl A, u1) := by
      simp only [C_refund, crD_yes (by omega) HD.2.1 hxl, C_requireNoRefusal, c_hind HD HT HL hxl, hh, k1, O_giveAllBack, eA, eG, hR, Option.bind_some, zz_10, ↓reduceIte]
    have hq1 : ∀ q', q' ≠ 26 → q' ≠ 17 → q' ≠ 20 → q' ≠ 23 → u1 q' = u0 q' := fun q' q1 q2 q3 q4 => by rw [hu1, z_up_ne q1, z_up_ne q1, eo q' q1 q2 q3]
    have hu1q : ∀ q', q' ≠ 26 → q' ≠ 17 → q' ≠ 20 → q' ≠ 23 → q' ∉ 0 :: z_ks.map (· + 1) → u1 q' = u q' := fun q' q1 q2 q3 q4 q5 => (hq1 q' q1 q2 q3 q4).trans (k2 q' q5)
    obtain ⟨u2, m1, m2, m3⟩ := k3 u1 (fun q' hq2 => hq1 q' (by rintro rfl; revert hq2; decide) (by rintro rfl; revert hq2; decide) (by rintro rfl; revert hq2; decide) (by rintro rfl; revert hq2; decide))
    have g43 : u1 43 = u 43 := hu1q 43 (by decide) (by decide) (by decide) (by decide) (by decide)
    have g2 : u2 43 = u 43 := (m2 43 (by decide) (by decide)).trans g43
    have n26 : ∀ i, i ≠ 1 + x * 15 + 11 → i ≠ 1 + x * 15 + 8 → i ≠ 1 + x * 15 + 7 → u1 26 i = u 26 i := fun i i1 i2 i3 => by rw [hu1, zu_ne i3, zu_ne i2, e26 i i1]
    have n2611 : u1 26 (1 + x * 15 + 11) = u 26 (1 + x * 15 + 11) + A := by rw [hu1, zu_ne (by omega), zu_ne (by omega), e2611]
    have n268 : u1 26 (1 + x * 15 + 8) = 0 := by rw [hu1, zu_ne (by omega), zu_eq]
    have n267 : u1 26 (1 + x * 15 + 7) = 2 := by rw [hu1, zu_eq]
    have n17 : ∀ i, u1 17 i = e3 17 i := fun i => by rw [hu1, z_up_ne (by decide), z_up_ne (by decide)]
    have n20 : ∀ i, u1 20 i = e3 20 i := fun i => by rw [hu1, z_up_ne (by decide), z_up_ne (by decide)]
    obtain ⟨y, hy⟩ : ∃ y, y = mg_up (mg_up u2 43 (208 + 16 * x + 8) 0) 43 (208 + 16 * x + 7) 2 := ⟨_, rfl⟩
    have yo : ∀ i, i ≠ 208 + 16 * x + 8 → i ≠ 208 + 16 * x + 7 → y 43 i = u 43 i := fun i i1 i2 => by rw [hy, zu_ne i2, zu_ne i1, g2]
    have y8 : y 43 (208 + 16 * x + 8) = 0 := by rw [hy, zu_ne (by omega), zu_eq]
    have y7 : y 43 (208 + 16 * x + 7) = 2 := by rw [hy, zu_eq]
    have yq : ∀ q', q' ≠ 43 → y q' = u2 q' := fun q' q1 => by rw [hy, z_up_ne q1, z_up_ne q1]
    have y3 : y 43 (208 + 16 * x + 3) = nN oc := by rw [yo _ (by omega) (by omega)]; exact oc2
    obtain ⟨W, hW⟩ : ∃ W, W = mg_up (mg_up (mg_up y 43 (208 + 16 * x + 11) (y 43 (208 + 16 * x + 11) + A)) 43 8 (y 43 8 + A)) 43 (200 + oc) (y 43 (200 + oc) - A) := ⟨_, rfl⟩
    have hgv : M_givesBack (nN x) A y = some (A, W) := by rw [m_gives hx30 oc1 y3, hW]
    have hWq : ∀ q', q' ≠ 43 → W q' = u2 q' := fun q' q1 => by rw [hW, z_up_ne q1, z_up_ne q1, z_up_ne q1, yq q' q1]
    have Wy : ∀ i, i ≠ 208 + 16 * x + 11 → i ≠ 8 → i ≠ 200 + oc → W 43 i = y 43 i := fun i i1 i2 i3 => by rw [hW, zu_ne i3, zu_ne i2, zu_ne i1]
    have W11 : W 43 (208 + 16 * x + 11) = u 43 (208 + 16 * x + 11) + A := by rw [hW, zu_ne (by omega), zu_ne (by omega), zu_eq, yo _ (by omega) (by omega)]
    have W8 : W 43 8 = u 43 8 + A := by rw [hW, zu_ne (by omega), zu_eq, yo _ (by omega) (by omega)]
    have Wk : ∀ j < 8, W 43 (200 + j) = if j = oc then u 43 (200 + j) - A else u 43 (200 + j) := fun j hj => by
      by_cases h : j = oc
      · subst h
        rw [if_pos rfl, hW, zu_eq, yo _ (by omega) (by omega)]
      · rw [if_neg h, Wy _ (by omega) (by omega) (by omega), yo _ (by omega) (by omega)]
    have y9 : M_declAt (nN x) 9 y = some (u 43 (208 + 16 * x + 9)) := by rw [mdeclAt_9 hx30, yo _ (by omega) (by omega)]
    have y10 : M_declAt (nN x) 10 y = some (u 43 (208 + 16 * x + 10)) := by rw [mdeclAt_10 hx30, yo _ (by omega) (by omega)]
    have hM : M_refund (nN x) u1 = some (A, mg_up W 42 0 0) := by
      have hle : (0 : Int32) ≤ 0 := by decide
      simp only [M_refund, mrD_yes (u := u1) (by omega) (show u1 43 5 = nN nd by rw [g43]; exact HD.2.2.1) hxl, m_hind hx30, g43, hh, m1, mdeclAt_8 hx30, mdeclAt_5 hx30, g2, h5, hk0, hle, Option.bind_some, zz_10, ↓reduceIte, zb_208, zo_8, zo_7]
      rw [zg (by omega), zg (by omega), z_nat (by omega), z_nat (by omega), ← hy, y9, y10]
      simp only [Option.bind_some]
      rw [← hA, hgv]
      rfl
    refine ⟨_, _, _, _, 0, hC, hM, rfl, Or.inl ⟨_, rfl, rfl, rfl⟩, z_fin m3 m2 hWq ?_⟩
    have go : ∀ i, True → i ≠ 208 + 16 * x + 8 → i ≠ 208 + 16 * x + 7 → i ≠ 208 + 16 * x + 11 → i ≠ 8 → i ≠ 200 + oc → W 43 i = u 43 i := fun i i0 i1 i2 i3 i4 i5 => by rw [Wy i i3 i4 i5, yo i i1 i2]
    have fr : ∀ c', c' ≠ 26 → c' ≠ 17 → c' ≠ 20 → c' ≠ 23 → c' ∉ 0 :: z_ks.map (· + 1) → ∀ i, u1 c' i = u c' i := fun c' a1 a2 a3 a4 a5 i => by rw [hu1q c' a1 a2 a3 a4 a5]
    refine ⟨nh, np, ns, nq, nd, na, tH_cg (fun i _ => fr 4 (by decide) (by decide) (by decide) (by decide) (by decide) i) (fun i hi => go i trivial (by omega) (by omega) (by omega) (by omega) (by omega)) HH, tP_cg (fun i _ => fr 7 (by decide) (by decide) (by decide) (by decide) (by decide) i) (fun i hi => go i trivial (by omega) (by omega) (by omega) (by omega) (by omega)) HP, tS_cg (fun i _ => fr 10 (by decide) (by decide) (by decide) (by decide) (by decide) i) (fun i hi => go i trivial (by omega) (by omega) (by omega) (by omega) (by omega)) HS, ?_, ?_, ?_, tA_cg (fun i _ => fr 31 (by decide) (by decide) (by decide) (by decide) (by decide) i) (fun i hi => go i trivial (by omega) (by omega) (by omega) (by omega) (by omega)) HA, tT_cg (fun i _ => fr 13 (by decide) (by decide) (by decide) (by decide) (by decide) i) (fun i hi => go i trivial (by omega) (by omega) (by omega) (by omega) (by omega)) HT, tL_back oc1 HL A (by rw [n17, e17 1 (by decide)]) (by rw [n17, e17 2 (by decide)]) (by rw [n17, e173]) (fun j hj => by rw [n20]; exact e20 j hj) (go 0 trivial (by omega) (by omega) (by omega) (by omega) (by omega)) (go 7 trivial (by omega) (by omega) (by omega) (by omega) (by omega)) W8 Wk⟩
    · exact tQ_cg (fun i _ => n23 i) (fun i hi => go i trivial (by omega) (by omega) (by omega) (by omega) (by omega)) HQ
    · refine tD_row HD hxl (n26 0 (by omega) (by omega) (by omega)) (go 5 trivial (by omega) (by omega) (by omega) (by omega) (by omega)) (fun h hh hne j hj => n26 _ (by omega) (by omega) (by omega)) (fun h hh hne j hj => go _ trivial (by omega) (by omega) (by omega) (by omega) (by omega)) (fun j hj => ?_) ⟨by rw [go _ trivial (by omega) (by omega) (by omega) (by omega) (by omega)]; exact w0, by rw [go _ trivial (by omega) (by omega) (by omega) (by omega) (by omega)]; exact w1, ⟨oc, oc1, by rw [go _ trivial (by omega) (by omega) (by omega) (by omega) (by omega)]; exact oc2⟩, by rw [go _ trivial (by omega) (by omega) (by omega) (by omega) (by omega)]; exact w5, ⟨2, by omega, ?_⟩, ⟨0, by omega, ?_⟩, fun _ => ?_⟩
      · by_cases j11 : j = 11
        · subst j11
          rw [n2611, W11, HD.2.2.2.1 x hxl 11 (by omega)]
        · by_cases j8 : j = 8
          · subst j8
            rw [n268, Wy _ (by omega) (by omega) (by omega), y8]
          · by_cases j7 : j = 7
            · subst j7
              rw [n267, Wy _ (by omega) (by omega) (by omega), y7]
            · rw [n26 _ (by omega) (by omega) (by omega), go _ trivial (by omega) (by omega) (by omega) (by omega) (by omega)]
              exact HD.2.2.2.1 x hxl j hj
      · rw [Wy _ (by omega) (by omega) (by omega)]
        exact y7
      · rw [Wy _ (by omega) (by omega) (by omega)]
        exact y8
      · rw [Wy _ (by omega) (by omega) (by omega)]
        exact y8
    · intro q' hq'
      have hb := HC q' hq'
      have hsum := z_sum_upd (g := u 43) (g' := W 43) (q := q') (x := x) (n := nd) hxl (fun d hd => go _ trivial (by omega) (by omega) (by omega) (by omega) (by omega)) (fun d hd hdx => go _ trivial (by omega) (by omega) (by omega) (by omega) (by omega)) (by rw [Wy _ (by omega) (by omega) (by omega)]; exact y8)
      rw [go _ trivial (by omega) (by omega) (by omega) (by omega) (by omega), go (138 + 9 * q' + 7) trivial (by omega) (by omega) (by omega) (by omega) (by omega)]
      omega
  have hq6 : q < 6 := by omega
  have g5 : u 23 (1 + q * 9 + 5) = u 43 (138 + 9 * q + 5) := (HQ.2.2.2.1 q hq).1 5 (by omega)
  have w5 : u 43 (208 + 16 * x + 5) = -1 ∨ ∃ q < nq, u 43 (208 + 16 * x + 5) = nN q := Or.inr ⟨q, hq, h5⟩
  by_cases hday : u 43 0 ≤ u 43 (138 + 9 * q + 5)
  · -- a claim, left
    obtain ⟨u1, hu1⟩ : ∃ u1, u1 = mg_up (mg_up (mg_up (mg_up e3 23 (1 + q * 9 + 7) (u 23 (1 + q * 9 + 7) - nN kg)) 23 (1 + q * 9 + 6) (u 23 (1 + q * 9 + 6) + nN kg)) 26 (1 + x * 15 + 8) 0) 26 (1 + x * 15 + 7) 2 := ⟨_, rfl⟩
    have hR : (O_returnUnits (nN x) e3).bind (fun u509 => (T_put_25 (nN x) 7 2 u509).bind fun u510 => some (A, u510)) = some (A, u1) := by
      unfold O_returnUnits
      rw [ec, eg, ed, h5, kg2]
      simp only [Option.bind_some]
      rw [rg_22_5 hq6, e23, g5]
      simp only [Option.bind_some]
      rw [if_pos hday, ri_22_7 hq6]
      simp only [Option.bind_some]
      rw [ri_22_6 hq6, zu_ne (by omega), e23, z_addneg]
      simp only [Option.bind_some]
      rw [rp_25_8 hx30]
      simp only [Option.bind_some]
      rw [rp_25_7 hx30, hu1]
      rfl
    have n237 : u1 23 (1 + q * 9 + 7) = u 23 (1 + q * 9 + 7) - nN kg := by rw [hu1, z_up_ne (by decide), z_up_ne (by decide), zu_ne (by omega), zu_eq]
    have n236 : u1 23 (1 + q * 9 + 6) = u 23 (1 + q * 9 + 6) + nN kg := by rw [hu1, z_up_ne (by decide), z_up_ne (by decide), zu_eq]
    have n23 : ∀ i, i ≠ 1 + q * 9 + 7 → i ≠ 1 + q * 9 + 6 → u1 23 i = u 23 i := fun i i1 i2 => by rw [hu1, z_up_ne (by decide), z_up_ne (by decide), zu_ne i2, zu_ne i1, e23]
    have hC : C_refund (nN x) u = some (.inl A, u1) := by
      simp only [C_refund, crD_yes (by omega) HD.2.1 hxl, C_requireNoRefusal, c_hind HD HT HL hxl, hh, k1, O_giveAllBack, eA, eG, hR, Option.bind_some, zz_10, ↓reduceIte]
    have hq1 : ∀ q', q' ≠ 26 → q' ≠ 17 → q' ≠ 20 → q' ≠ 23 → u1 q' = u0 q' := fun q' q1 q2 q3 q4 => by rw [hu1, z_up_ne q1, z_up_ne q1, z_up_ne q4, z_up_ne q4, eo q' q1 q2 q3]
    have hu1q : ∀ q', q' ≠ 26 → q' ≠ 17 → q' ≠ 20 → q' ≠ 23 → q' ∉ 0 :: z_ks.map (· + 1) → u1 q' = u q' := fun q' q1 q2 q3 q4 q5 => (hq1 q' q1 q2 q3 q4).trans (k2 q' q5)
    obtain ⟨u2, m1, m2, m3⟩ := k3 u1 (fun q' hq2 => hq1 q' (by rintro rfl; revert hq2; decide) (by rintro rfl; revert hq2; decide) (by rintro rfl; revert hq2; decide) (by rintro rfl; revert hq2; decide))
    have g43 : u1 43 = u 43 := hu1q 43 (by decide) (by decide) (by decide) (by decide) (by decide)
    have g2 : u2 43 = u 43 := (m2 43 (by decide) (by decide)).trans g43
    have n26 : ∀ i, i ≠ 1 + x * 15 + 11 → i ≠ 1 + x * 15 + 8 → i ≠ 1 + x * 15 + 7 → u1 26 i = u 26 i := fun i i1 i2 i3 => by rw [hu1, zu_ne i3, zu_ne i2, z_up_ne (by decide), z_up_ne (by decide), e26 i i1]
    have n2611 : u1 26 (1 + x * 15 + 11) = u 26 (1 + x * 15 + 11) + A := by rw [hu1, zu_ne (by omega), zu_ne (by omega), z_up_ne (by decide), z_up_ne (by decide), e2611]
    have n268 : u1 26 (1 + x * 15 + 8) = 0 := by rw [hu1, zu_ne (by omega), zu_eq]
    have n267 : u1 26 (1 + x * 15 + 7) = 2 := by rw [hu1, zu_eq]
    have n17 : ∀ i, u1 17 i = e3 17 i := fun i => by rw [hu1, z_up_ne (by decide), z_up_ne (by decide), z_up_ne (by decide), z_up_ne (by decide)]
    have n20 : ∀ i, u1 20 i = e3 20 i := fun i => by rw [hu1, z_up_ne (by decide), z_up_ne (by decide), z_up_ne (by decide), z_up_ne (by decide)]
    obtain ⟨y, yM, yq, y8, y7, y6, yo⟩ : ∃ y : mg_Rg, ((if nN kg ≤ 0 then (none : Option mg_Rg) else none) = none ∧ True ∧ (¬ nN kg ≤ 0 → y = mg_up (mg_up (mg_up u2 43 (138 + 9 * q + 6) (u2 43 (138 + 9 * q + 6) + nN kg)) 43 (208 + 16 * x + 8) 0) 43 (208 + 16 * x + 7) 2) ∧ (nN kg ≤ 0 → y = mg_up (mg_up u2 43 (208 + 16 * x + 8) 0) 43 (208 + 16 * x + 7) 2)) ∧
        (∀ q', q' ≠ 43 → y q' = u2 q') ∧ y 43 (208 + 16 * x + 8) = 0 ∧ y 43 (208 + 16 * x + 7) = 2 ∧ y 43 (138 + 9 * q + 6) = u 43 (138 + 9 * q + 6) + nN kg ∧ (∀ i, i ≠ 138 + 9 * q + 6 → i ≠ 208 + 16 * x + 8 → i ≠ 208 + 16 * x + 7 → y 43 i = u 43 i) := by
      by_cases hkz : nN kg ≤ 0
      · have kz : nN kg = 0 := by
          have : kg ≤ 0 := (z_le (b := 0) (by omega) (by omega)).mp hkz
          rw [show kg = 0 by omega]
          rfl
        refine ⟨mg_up (mg_up u2 43 (208 + 16 * x + 8) 0) 43 (208 + 16 * x + 7) 2, ⟨by rw [if_pos hkz], trivial, fun h => absurd hkz h, fun _ => rfl⟩, fun q' q1 => by rw [z_up_ne q1, z_up_ne q1], by rw [zu_ne (by omega), zu_eq], by rw [zu_eq], ?_, fun i i1 i2 i3 => by rw [zu_ne i3, zu_ne i2, g2]⟩
        rw [zu_ne (by omega), zu_ne (by omega), g2, kz, Int32.add_zero]
      · exact ⟨mg_up (mg_up (mg_up u2 43 (138 + 9 * q + 6) (u2 43 (138 + 9 * q + 6) + nN kg)) 43 (208 + 16 * x + 8) 0) 43 (208 + 16 * x + 7) 2, ⟨by rw [if_neg hkz], trivial, fun _ => rfl, fun h => absurd h hkz⟩, fun q' q1 => by rw [z_up_ne q1, z_up_ne q1, z_up_ne q1], by rw [zu_ne (by omega), zu_eq], by rw [zu_eq], by rw [zu_ne (by omega), zu_ne (by omega), zu_eq, g2], fun i i1 i2 i3 => by rw [zu_ne i3, zu_ne i2, zu_ne i1, g2]⟩
    have y3 : y 43 (208 + 16 * x + 3) = nN oc := by rw [yo _ (by omega) (by omega) (by omega)]; exact oc2
    obtain ⟨W, hW⟩ : ∃ W, W = mg_up (mg_up (mg_up y 43 (208 + 16 * x + 11) (y 43 (208 + 16 * x + 11) + A)) 43 8 (y 43 8 + A)) 43 (200 + oc) (y 43 (200 + oc) - A) := ⟨_, rfl⟩
    have hgv : M_givesBack (nN x) A y = some (A, W) := by rw [m_gives hx30 oc1 y3, hW]
    have hWq : ∀ q', q' ≠ 43 → W q' = u2 q' := fun q' q1 => by rw [hW, z_up_ne q1, z_up_ne q1, z_up_ne q1, yq q' q1]
    have Wy : ∀ i, i ≠ 208 + 16 * x + 11 → i ≠ 8 → i ≠ 200 + oc → W 43 i = y 43 i := fun i i1 i2 i3 => by rw [hW, zu_ne i3, zu_ne i2, zu_ne i1]
    have W11 : W 43 (208 + 16 * x + 11) = u 43 (208 + 16 * x + 11) + A := by rw [hW, zu_ne (by omega), zu_ne (by omega), zu_eq, yo _ (by omega) (by omega) (by omega)]
    have W8 : W 43 8 = u 43 8 + A := by rw [hW, zu_ne (by omega), zu_eq, yo _ (by omega) (by omega) (by omega)]
    have Wk : ∀ j < 8, W 43 (200 + j) = if j = oc then u 43 (200 + j) - A else u 43 (200 + j) := fun j hj => by
      by_cases h : j = oc
      · subst h
        rw [if_pos rfl, hW, zu_eq, yo _ (by omega) (by omega) (by omega)]
      · rw [if_neg h, Wy _ (by omega) (by omega) (by omega), yo _ (by omega) (by omega) (by omega)]
    have y9 : M_declAt (nN x) 9 y = some (u 43 (208 + 16 * x + 9)) := by rw [mdeclAt_9 hx30, yo _ (by omega) (by omega) (by omega)]
    have y10 : M_declAt (nN x) 10 y = some (u 43 (208 + 16 * x + 10)) := by rw [mdeclAt_10 hx30, yo _ (by omega) (by omega) (by omega)]
    have hM : M_refund (nN x) u1 = some (A, mg_up W 42 0 0) := by
      by_cases hkz : nN kg ≤ 0
      · have hy := yM.2.2.2 hkz
        simp only [M_refund, mrD_yes (u := u1) (by omega) (show u1 43 5 = nN nd by rw [g43]; exact HD.2.2.1) hxl, m_hind hx30, g43, hh, m1, mdeclAt_8 hx30, mdeclAt_5 hx30, g2, h5, kg2, hkz, Option.bind_some, zz_10, ↓reduceIte, zb_208, zo_8, zo_7]
        rw [zg (by omega), zg (by omega), z_nat (by omega), z_nat (by omega), ← hy, y9, y10]
        simp only [Option.bind_some]
        rw [← hA, hgv]
        rfl
      · have hy := yM.2.2.1 hkz
        simp only [M_refund, mrD_yes (u := u1) (by omega) (show u1 43 5 = nN nd by rw [g43]; exact HD.2.2.1) hxl, m_hind hx30, g43, hh, m1, mdeclAt_8 hx30, mdeclAt_5 hx30, g2, h5, kg2, hkz, Option.bind_some, zz_10, ↓reduceIte, mquotaAt_5 hq6, Int32.not_lt.mpr hday, zb_208, zb_138, zo_8, zo_7, zo_6]
        rw [zg (by omega), zg (by omega), zg (by omega), zg (by omega), z_nat (by omega), z_nat (by omega), z_nat (by omega)]
        rw [show mg_up (mg_up (mg_up u2 43 (138 + 9 * q + 6) (u 43 (138 + 9 * q + 6) + nN kg)) 43 (208 + 16 * x + 8) 0) 43 (208 + 16 * x + 7) 2 = y by rw [hy, g2], y9, y10]
        simp only [Option.bind_some]
        rw [← hA, hgv]
        rfl
    refine ⟨_, _, _, _, 0, hC, hM, rfl, Or.inl ⟨_, rfl, rfl, rfl⟩, z_fin m3 m2 hWq ?_⟩
    have go : ∀ i, i ≠ 138 + 9 * q + 6 → i ≠ 208 + 16 * x + 8 → i ≠ 208 + 16 * x + 7 → i ≠ 208 + 16 * x + 11 → i ≠ 8 → i ≠ 200 + oc → W 43 i = u 43 i := fun i i0 i1 i2 i3 i4 i5 => by rw [Wy i i3 i4 i5, yo i i0 i1 i2]
    have fr : ∀ c', c' ≠ 26 → c' ≠ 17 → c' ≠ 20 → c' ≠ 23 → c' ∉ 0 :: z_ks.map (· + 1) → ∀ i, u1 c' i = u c' i := fun c' a1 a2 a3 a4 a5 i => by rw [hu1q c' a1 a2 a3 a4 a5]
    refine ⟨nh, np, ns, nq, nd, na, tH_cg (fun i _ => fr 4 (by decide) (by decide) (by decide) (by decide) (by decide) i) (fun i hi => go i (by omega) (by omega) (by omega) (by omega) (by omega) (by omega)) HH, tP_cg (fun i _ => fr 7 (by decide) (by decide) (by decide) (by decide) (by decide) i) (fun i hi => go i (by omega) (by omega) (by omega) (by omega) (by omega) (by omega)) HP, tS_cg (fun i _ => fr 10 (by decide) (by decide) (by decide) (by decide) (by decide) i) (fun i hi => go i (by omega) (by omega) (by omega) (by omega) (by omega) (by omega)) HS, ?_, ?_, ?_, tA_cg (fun i _ => fr 31 (by decide) (by decide) (by decide) (by decide) (by decide) i) (fun i hi => go i (by omega) (by omega) (by omega) (by omega) (by omega) (by omega)) HA, tT_cg (fun i _ => fr 13 (by decide) (by decide) (by decide) (by decide) (by decide) i) (fun i hi => go i (by omega) (by omega) (by omega) (by omega) (by omega) (by omega)) HT, tL_back oc1 HL A (by rw [n17, e17 1 (by decide)]) (by rw [n17, e17 2 (by decide)]) (by rw [n17, e173]) (fun j hj => by rw [n20]; exact e20 j hj) (go 0 (by omega) (by omega) (by omega) (by omega) (by omega) (by omega)) (go 7 (by omega) (by omega) (by omega) (by omega) (by omega) (by omega)) W8 Wk⟩
    · have hb := HC q hq
      obtain ⟨q0, ⟨lf, lf1, lf2⟩, ⟨ls, ls1, ls2⟩⟩ := HQ.2.2.2.2 q hq
      obtain ⟨r0, r8, r7⟩ := HQ.2.2.2.1 q hq
      have hsum := z_sum_upd (g := u 43) (g' := W 43) (q := q) (x := x) (n := nd) hxl (fun d hd => go _ (by omega) (by omega) (by omega) (by omega) (by omega) (by omega)) (fun d hd hdx => go _ (by omega) (by omega) (by omega) (by omega) (by omega) (by omega)) (by rw [Wy _ (by omega) (by omega) (by omega)]; exact y8)
      rw [if_pos h5, kg2, z_nat (by omega)] at hsum
      rw [lf2, ls2, z_nat (by omega), z_nat (by omega)] at hb
      have w6 : W 43 (138 + 9 * q + 6) = u 43 (138 + 9 * q + 6) + nN kg := by rw [Wy _ (by omega) (by omega) (by omega)]; exact y6
      refine tQ_row HQ hq (n23 0 (by omega) (by omega)) (go 4 (by omega) (by omega) (by omega) (by omega) (by omega) (by omega)) (fun h hh hne j hj => n23 _ (by omega) (by omega)) (fun h hh hne j hj => go _ (by omega) (by omega) (by omega) (by omega) (by omega) (by omega)) (fun j hj => ?_) ?_ ?_ ⟨by rw [go _ (by omega) (by omega) (by omega) (by omega) (by omega) (by omega)]; exact q0, ?_, ?_⟩
      · by_cases h : j = 6
        · subst h
          rw [n236, w6, r0 6 (by omega)]
        · rw [n23 _ (by omega) (by omega), go _ (by omega) (by omega) (by omega) (by omega) (by omega) (by omega)]
          exact r0 j hj
      · rw [n23 _ (by omega) (by omega), go _ (by omega) (by omega) (by omega) (by omega) (by omega) (by omega)]
        exact r8
      · rw [n237, w6, r7, go _ (by omega) (by omega) (by omega) (by omega) (by omega) (by omega), go (138 + 9 * q + 7) (by omega) (by omega) (by omega) (by omega) (by omega) (by omega)]
        exact z_ring1 _ _ _ _
      · exact ⟨lf + kg, by omega, by rw [w6, lf2]; exact (Int32.ofNat_add lf kg).symm⟩
      · exact ⟨ls, ls1, by rw [go _ (by omega) (by omega) (by omega) (by omega) (by omega) (by omega)]; exact ls2⟩
    · refine tD_row HD hxl (n26 0 (by omega) (by omega) (by omega)) (go 5 (by omega) (by omega) (by omega) (by omega) (by omega) (by omega)) (fun h hh hne j hj => n26 _ (by omega) (by omega) (by omega)) (fun h hh hne j hj => go _ (by omega) (by omega) (by omega) (by omega) (by omega) (by omega)) (fun j hj => ?_) ⟨by rw [go _ (by omega) (by omega) (by omega) (by omega) (by omega) (by omega)]; exact w0, by rw [go _ (by omega) (by omega) (by omega) (by omega) (by omega) (by omega)]; exact w1, ⟨oc, oc1, by rw [go _ (by omega) (by omega) (by omega) (by omega) (by omega) (by omega)]; exact oc2⟩, by rw [go _ (by omega) (by omega) (by omega) (by omega) (by omega) (by omega)]; exact w5, ⟨2, by omega, ?_⟩, ⟨0, by omega, ?_⟩, fun _ => ?_⟩
      · by_cases j11 : j = 11
        · subst j11
          rw [n2611, W11, HD.2.2.2.1 x hxl 11 (by omega)]
        · by_cases j8 : j = 8
          · subst j8
            rw [n268, Wy _ (by omega) (by omega) (by omega), y8]
          · by_cases j7 : j = 7
            · subst j7
              rw [n267, Wy _ (by omega) (by omega) (by omega), y7]
            · rw [n26 _ (by omega) (by omega) (by omega), go _ (by omega) (by omega) (by omega) (by omega) (by omega) (by omega)]
              exact HD.2.2.2.1 x hxl j hj
      · rw [Wy _ (by omega) (by omega) (by omega)]
        exact y7
      · rw [Wy _ (by omega) (by omega) (by omega)]
        exact y8
      · rw [Wy _ (by omega) (by omega) (by omega)]
        exact y8
    · intro q' hq'
      have hb := HC q' hq'
      have hsum := z_sum_upd (g := u 43) (g' := W 43) (q := q') (x := x) (n := nd) hxl (fun d hd => go _ (by omega) (by omega) (by omega) (by omega) (by omega) (by omega)) (fun d hd hdx => go _ (by omega) (by omega) (by omega) (by omega) (by omega) (by omega)) (by rw [Wy _ (by omega) (by omega) (by omega)]; exact y8)
      by_cases h : q' = q
      · subst h
        obtain ⟨q0, ⟨lf, lf1, lf2⟩, ⟨ls, ls1, ls2⟩⟩ := HQ.2.2.2.2 q' hq'
        rw [if_pos h5, kg2, z_nat (by omega)] at hsum
        rw [lf2, ls2, z_nat (by omega), z_nat (by omega)] at hb
        have w6 : W 43 (138 + 9 * q' + 6) = nN (lf + kg) := by rw [Wy _ (by omega) (by omega) (by omega), y6, lf2]; exact (Int32.ofNat_add lf kg).symm
        rw [w6, go (138 + 9 * q' + 7) (by omega) (by omega) (by omega) (by omega) (by omega) (by omega), ls2, z_nat (by omega), z_nat (by omega)]
        omega
      · rw [if_neg (by rw [h5]; exact z_nne (by omega) (by omega) (fun e => h e.symm))] at hsum
        rw [go (138 + 9 * q' + 6) (by omega) (by omega) (by omega) (by omega) (by omega) (by omega), go (138 + 9 * q' + 7) (by omega) (by omega) (by omega) (by omega) (by omega) (by omega)]
        omega
  · -- a claim, lost
    obtain ⟨u1, hu1⟩ : ∃ u1, u1 = mg_up (mg_up (mg_up (mg_up e3 23 (1 + q * 9 + 7) (u 23 (1 + q * 9 + 7) - nN kg)) 23 (1 + q * 9 + 8) (u 23 (1 + q * 9 + 8) + nN kg)) 26 (1 + x * 15 + 8) 0) 26 (1 + x * 15 + 7) 2 := ⟨_, rfl⟩
    have hR : (O_returnUnits (nN x) e3).bind (fun u509 => (T_put_25 (nN x) 7 2 u509).bind fun u510 => some (A, u510)) = some (A, u1) := by
      unfold O_returnUnits
      rw [ec, eg, ed, h5, kg2]
      simp only [Option.bind_some]
      rw [rg_22_5 hq6, e23, g5]
      simp only [Option.bind_some]
      rw [if_neg hday, ri_22_7 hq6]
      simp only [Option.bind_some]
      rw [ri_22_8 hq6, zu_ne (by omega), e23, z_addneg]
      simp only [Option.bind_some]
      rw [rp_25_8 hx30]
      simp only [Option.bind_some]
      rw [rp_25_7 hx30, hu1]
      rfl
    have n237 : u1 23 (1 + q * 9 + 7) = u 23 (1 + q * 9 + 7) - nN kg := by rw [hu1, z_up_ne (by decide), z_up_ne (by decide), zu_ne (by omega), zu_eq]
    have n236 : u1 23 (1 + q * 9 + 8) = u 23 (1 + q * 9 + 8) + nN kg := by rw [hu1, z_up_ne (by decide), z_up_ne (by decide), zu_eq]
    have n23 : ∀ i, i ≠ 1 + q * 9 + 7 → i ≠ 1 + q * 9 + 8 → u1 23 i = u 23 i := fun i i1 i2 => by rw [hu1, z_up_ne (by decide), z_up_ne (by decide), zu_ne i2, zu_ne i1, e23]
    have hC : C_refund (nN x) u = some (.inl A, u1) := by
      simp only [C_refund, crD_yes (by omega) HD.2.1 hxl, C_requireNoRefusal, c_hind HD HT HL hxl, hh, k1, O_giveAllBack, eA, eG, hR, Option.bind_some, zz_10, ↓reduceIte]
    have hq1 : ∀ q', q' ≠ 26 → q' ≠ 17 → q' ≠ 20 → q' ≠ 23 → u1 q' = u0 q' := fun q' q1 q2 q3 q4 => by rw [hu1, z_up_ne q1, z_up_ne q1, z_up_ne q4, z_up_ne q4, eo q' q1 q2 q3]
    have hu1q : ∀ q', q' ≠ 26 → q' ≠ 17 → q' ≠ 20 → q' ≠ 23 → q' ∉ 0 :: z_ks.map (· + 1) → u1 q' = u q' := fun q' q1 q2 q3 q4 q5 => (hq1 q' q1 q2 q3 q4).trans (k2 q' q5)
    obtain ⟨u2, m1, m2, m3⟩ := k3 u1 (fun q' hq2 => hq1 q' (by rintro rfl; revert hq2; decide) (by rintro rfl; revert hq2; decide) (by rintro rfl; revert hq2; decide) (by rintro rfl; revert hq2; decide))
    have g43 : u1 43 = u 43 := hu1q 43 (by decide) (by decide) (by decide) (by decide) (by decide)
    have g2 : u2 43 = u 43 := (m2 43 (by decide) (by decide)).trans g43
    have n26 : ∀ i, i ≠ 1 + x * 15 + 11 → i ≠ 1 + x * 15 + 8 → i ≠ 1 + x * 15 + 7 → u1 26 i = u 26 i := fun i i1 i2 i3 => by rw [hu1, zu_ne i3, zu_ne i2, z_up_ne (by decide), z_up_ne (by decide), e26 i i1]
    have n2611 : u1 26 (1 + x * 15 + 11) = u 26 (1 + x * 15 + 11) + A := by rw [hu1, zu_ne (by omega), zu_ne (by omega), z_up_ne (by decide), z_up_ne (by decide), e2611]
    have n268 : u1 26 (1 + x * 15 + 8) = 0 := by rw [hu1, zu_ne (by omega), zu_eq]
    have n267 : u1 26 (1 + x * 15 + 7) = 2 := by rw [hu1, zu_eq]
    have n17 : ∀ i, u1 17 i = e3 17 i := fun i => by rw [hu1, z_up_ne (by decide), z_up_ne (by decide), z_up_ne (by decide), z_up_ne (by decide)]
    have n20 : ∀ i, u1 20 i = e3 20 i := fun i => by rw [hu1, z_up_ne (by decide), z_up_ne (by decide), z_up_ne (by decide), z_up_ne (by decide)]
    obtain ⟨y, yM, yq, y8, y7, y6, yo⟩ : ∃ y : mg_Rg, ((if nN kg ≤ 0 then (none : Option mg_Rg) else none) = none ∧ True ∧ (¬ nN kg ≤ 0 → y = mg_up (mg_up (mg_up u2 43 (138 + 9 * q + 7) (u2 43 (138 + 9 * q + 7) + nN kg)) 43 (208 + 16 * x + 8) 0) 43 (208 + 16 * x + 7) 2) ∧ (nN kg ≤ 0 → y = mg_up (mg_up u2 43 (208 + 16 * x + 8) 0) 43 (208 + 16 * x + 7) 2)) ∧
        (∀ q', q' ≠ 43 → y q' = u2 q') ∧ y 43 (208 + 16 * x + 8) = 0 ∧ y 43 (208 + 16 * x + 7) = 2 ∧ y 43 (138 + 9 * q + 7) = u 43 (138 + 9 * q + 7) + nN kg ∧ (∀ i, i ≠ 138 + 9 * q + 7 → i ≠ 208 + 16 * x + 8 → i ≠ 208 + 16 * x + 7 → y 43 i = u 43 i) := by
      by_cases hkz : nN kg ≤ 0
      · have kz : nN kg = 0 := by
          have : kg ≤ 0 := (z_le (b := 0) (by omega) (by omega)).mp hkz
          rw [show kg = 0 by omega]
          rfl
        refine ⟨mg_up (mg_up u2 43 (208 + 16 * x + 8) 0) 43 (208 + 16 * x + 7) 2, ⟨by rw [if_pos hkz], trivial, fun h => absurd hkz h, fun _ => rfl⟩, fun q' q1 => by rw [z_up_ne q1, z_up_ne q1], by rw [zu_ne (by omega), zu_eq], by rw [zu_eq], ?_, fun i i1 i2 i3 => by rw [zu_ne i3, zu_ne i2, g2]⟩
        rw [zu_ne (by omega), zu_ne (by omega), g2, kz, Int32.add_zero]
      · exact ⟨mg_up (mg_up (mg_up u2 43 (138 + 9 * q + 7) (u2 43 (138 + 9 * q + 7) + nN kg)) 43 (208 + 16 * x + 8) 0) 43 (208 + 16 * x + 7) 2, ⟨by rw [if_neg hkz], trivial, fun _ => rfl, fun h => absurd h hkz⟩, fun q' q1 => by rw [z_up_ne q1, z_up_ne q1, z_up_ne q1], by rw [zu_ne (by omega), zu_eq], by rw [zu_eq], by rw [zu_ne (by omega), zu_ne (by omega), zu_eq, g2], fun i i1 i2 i3 => by rw [zu_ne i3, zu_ne i2, zu_ne i1, g2]⟩
    have y3 : y 43 (208 + 16 * x + 3) = nN oc := by rw [yo _ (by omega) (by omega) (by omega)]; exact oc2
    obtain ⟨W, hW⟩ : ∃ W, W = mg_up (mg_up (mg_up y 43 (208 + 16 * x + 11) (y 43 (208 + 16 * x + 11) + A)) 43 8 (y 43 8 + A)) 43 (200 + oc) (y 43 (200 + oc) - A) := ⟨_, rfl⟩
    have hgv : M_givesBack (nN x) A y = some (A, W) := by rw [m_gives hx30 oc1 y3, hW]
    have hWq : ∀ q', q' ≠ 43 → W q' = u2 q' := fun q' q1 => by rw [hW, z_up_ne q1, z_up_ne q1, z_up_ne q1, yq q' q1]
    have Wy : ∀ i, i ≠ 208 + 16 * x + 11 → i ≠ 8 → i ≠ 200 + oc → W 43 i = y 43 i := fun i i1 i2 i3 => by rw [hW, zu_ne i3, zu_ne i2, zu_ne i1]
    have W11 : W 43 (208 + 16 * x + 11) = u 43 (208 + 16 * x + 11) + A := by rw [hW, zu_ne (by omega), zu_ne (by omega), zu_eq, yo _ (by omega) (by omega) (by omega)]
    have W8 : W 43 8 = u 43 8 + A := by rw [hW, zu_ne (by omega), zu_eq, yo _ (by omega) (by omega) (by omega)]
    have Wk : ∀ j < 8, W 43 (200 + j) = if j = oc then u 43 (200 + j) - A else u 43 (200 + j) := fun j hj => by
      by_cases h : j = oc
      · subst h
        rw [if_pos rfl, hW, zu_eq, yo _ (by omega) (by omega) (by omega)]
      · rw [if_neg h, Wy _ (by omega) (by omega) (by omega), yo _ (by omega) (by omega) (by omega)]
    have y9 : M_declAt (nN x) 9 y = some (u 43 (208 + 16 * x + 9)) := by rw [mdeclAt_9 hx30, yo _ (by omega) (by omega) (by omega)]
    have y10 : M_declAt (nN x) 10 y = some (u 43 (208 + 16 * x + 10)) := by rw [mdeclAt_10 hx30, yo _ (by omega) (by omega) (by omega)]
    have hM : M_refund (nN x) u1 = some (A, mg_up W 42 0 0) := by
      by_cases hkz : nN kg ≤ 0
      · have hy := yM.2.2.2 hkz
        simp only [M_refund, mrD_yes (u := u1) (by omega) (show u1 43 5 = nN nd by rw [g43]; exact HD.2.2.1) hxl, m_hind hx30, g43, hh, m1, mdeclAt_8 hx30, mdeclAt_5 hx30, g2, h5, kg2, hkz, Option.bind_some, zz_10, ↓reduceIte, zb_208, zo_8, zo_7]
        rw [zg (by omega), zg (by omega), z_nat (by omega), z_nat (by omega), ← hy, y9, y10]
        simp only [Option.bind_some]
        rw [← hA, hgv]
        rfl
      · have hy := yM.2.2.1 hkz
        simp only [M_refund, mrD_yes (u := u1) (by omega) (show u1 43 5 = nN nd by rw [g43]; exact HD.2.2.1) hxl, m_hind hx30, g43, hh, m1, mdeclAt_8 hx30, mdeclAt_5 hx30, g2, h5, kg2, hkz, Option.bind_some, zz_10, ↓reduceIte, mquotaAt_5 hq6, Int32.not_le.mp hday, zb_208, zb_138, zo_8, zo_7, zo_6]
        rw [zg (by omega), zg (by omega), zg (by omega), zg (by omega), z_nat (by omega), z_nat (by omega), z_nat (by omega)]
        rw [show mg_up (mg_up (mg_up u2 43 (138 + 9 * q + 7) (u 43 (138 + 9 * q + 7) + nN kg)) 43 (208 + 16 * x + 8) 0) 43 (208 + 16 * x + 7) 2 = y by rw [hy, g2], y9, y10]
        simp only [Option.bind_some]
        rw [← hA, hgv]
        rfl
    refine ⟨_, _, _, _, 0, hC, hM, rfl, Or.inl ⟨_, rfl, rfl, rfl⟩, z_fin m3 m2 hWq ?_⟩
    have go : ∀ i, i ≠ 138 + 9 * q + 7 → i ≠ 208 + 16 * x + 8 → i ≠ 208 + 16 * x + 7 → i ≠ 208 + 16 * x + 11 → i ≠ 8 → i ≠ 200 + oc → W 43 i = u 43 i := fun i i0 i1 i2 i3 i4 i5 => by rw [Wy i i3 i4 i5, yo i i0 i1 i2]
    have fr : ∀ c', c' ≠ 26 → c' ≠ 17 → c' ≠ 20 → c' ≠ 23 → c' ∉ 0 :: z_ks.map (· + 1) → ∀ i, u1 c' i = u c' i := fun c' a1 a2 a3 a4 a5 i => by rw [hu1q c' a1 a2 a3 a4 a5]
    refine ⟨nh, np, ns, nq, nd, na, tH_cg (fun i _ => fr 4 (by decide) (by decide) (by decide) (by decide) (by decide) i) (fun i hi => go i (by omega) (by omega) (by omega) (by omega) (by omega) (by omega)) HH, tP_cg (fun i _ => fr 7 (by decide) (by decide) (by decide) (by decide) (by decide) i) (fun i hi => go i (by omega) (by omega) (by omega) (by omega) (by omega) (by omega)) HP, tS_cg (fun i _ => fr 10 (by decide) (by decide) (by decide) (by decide) (by decide) i) (fun i hi => go i (by omega) (by omega) (by omega) (by omega) (by omega) (by omega)) HS, ?_, ?_, ?_, tA_cg (fun i _ => fr 31 (by decide) (by decide) (by decide) (by decide) (by decide) i) (fun i hi => go i (by omega) (by omega) (by omega) (by omega) (by omega) (by omega)) HA, tT_cg (fun i _ => fr 13 (by decide) (by decide) (by decide) (by decide) (by decide) i) (fun i hi => go i (by omega) (by omega) (by omega) (by omega) (by omega) (by omega)) HT, tL_back oc1 HL A (by rw [n17, e17 1 (by decide)]) (by rw [n17, e17 2 (by decide)]) (by rw [n17, e173]) (fun j hj => by rw [n20]; exact e20 j hj) (go 0 (by omega) (by omega) (by omega) (by omega) (by omega) (by omega)) (go 7 (by omega) (by omega) (by omega) (by omega) (by omega) (by omega)) W8 Wk⟩
    · have hb := HC q hq
      obtain ⟨q0, ⟨lf, lf1, lf2⟩, ⟨ls, ls1, ls2⟩⟩ := HQ.2.2.2.2 q hq
      obtain ⟨r0, r8, r7⟩ := HQ.2.2.2.1 q hq
      have hsum := z_sum_upd (g := u 43) (g' := W 43) (q := q) (x := x) (n := nd) hxl (fun d hd => go _ (by omega) (by omega) (by omega) (by omega) (by omega) (by omega)) (fun d hd hdx => go _ (by omega) (by omega) (by omega) (by omega) (by omega) (by omega)) (by rw [Wy _ (by omega) (by omega) (by omega)]; exact y8)
      rw [if_pos h5, kg2, z_nat (by omega)] at hsum
      rw [lf2, ls2, z_nat (by omega), z_nat (by omega)] at hb
      have w6 : W 43 (138 + 9 * q + 7) = u 43 (138 + 9 * q + 7) + nN kg := by rw [Wy _ (by omega) (by omega) (by omega)]; exact y6
      refine tQ_row HQ hq (n23 0 (by omega) (by omega)) (go 4 (by omega) (by omega) (by omega) (by omega) (by omega) (by omega)) (fun h hh hne j hj => n23 _ (by omega) (by omega)) (fun h hh hne j hj => go _ (by omega) (by omega) (by omega) (by omega) (by omega) (by omega)) (fun j hj => ?_) ?_ ?_ ⟨by rw [go _ (by omega) (by omega) (by omega) (by omega) (by omega) (by omega)]; exact q0, ?_, ?_⟩
      · rw [n23 _ (by omega) (by omega), go _ (by omega) (by omega) (by omega) (by omega) (by omega) (by omega)]
        exact r0 j hj
      · rw [n236, w6, r8]
      · rw [n237, w6, r7, go _ (by omega) (by omega) (by omega) (by omega) (by omega) (by omega), go (138 + 9 * q + 6) (by omega) (by omega) (by omega) (by omega) (by omega) (by omega)]
        exact z_ring2 _ _ _ _
      · exact ⟨lf, lf1, by rw [go _ (by omega) (by omega) (by omega) (by omega) (by omega) (by omega)]; exact lf2⟩
      · exact ⟨ls + kg, by omega, by rw [w6, ls2]; exact (Int32.ofNat_add ls kg).symm⟩
    · refine tD_row HD hxl (n26 0 (by omega) (by omega) (by omega)) (go 5 (by omega) (by omega) (by omega) (by omega) (by omega) (by omega)) (fun h hh hne j hj => n26 _ (by omega) (by omega) (by omega)) (fun h hh hne j hj => go _ (by omega) (by omega) (by omega) (by omega) (by omega) (by omega)) (fun j hj => ?_) ⟨by rw [go _ (by omega) (by omega) (by omega) (by omega) (by omega) (by omega)]; exact w0, by rw [go _ (by omega) (by omega) (by omega) (by omega) (by omega) (by omega)]; exact w1, ⟨oc, oc1, by rw [go _ (by omega) (by omega) (by omega) (by omega) (by omega) (by omega)]; exact oc2⟩, by rw [go _ (by omega) (by omega) (by omega) (by omega) (by omega) (by omega)]; exact w5, ⟨2, by omega, ?_⟩, ⟨0, by omega, ?_⟩, fun _ => ?_⟩
      · by_cases j11 : j = 11
        · subst j11
          rw [n2611, W11, HD.2.2.2.1 x hxl 11 (by omega)]
        · by_cases j8 : j = 8
          · subst j8
            rw [n268, Wy _ (by omega) (by omega) (by omega), y8]
          · by_cases j7 : j = 7
            · subst j7
              rw [n267, Wy _ (by omega) (by omega) (by omega), y7]
            · rw [n26 _ (by omega) (by omega) (by omega), go _ (by omega) (by omega) (by omega) (by omega) (by omega) (by omega)]
              exact HD.2.2.2.1 x hxl j hj
      · rw [Wy _ (by omega) (by omega) (by omega)]
        exact y7
      · rw [Wy _ (by omega) (by omega) (by omega)]
        exact y8
      · rw [Wy _ (by omega) (by omega) (by omega)]
        exact y8
    · intro q' hq'
      have hb := HC q' hq'
      have hsum := z_sum_upd (g := u 43) (g' := W 43) (q := q') (x := x) (n := nd) hxl (fun d hd => go _ (by omega) (by omega) (by omega) (by omega) (by omega) (by omega)) (fun d hd hdx => go _ (by omega) (by omega) (by omega) (by omega) (by omega) (by omega)) (by rw [Wy _ (by omega) (by omega) (by omega)]; exact y8)
      by_cases h : q' = q
      · subst h
        obtain ⟨q0, ⟨lf, lf1, lf2⟩, ⟨ls, ls1, ls2⟩⟩ := HQ.2.2.2.2 q' hq'
        rw [if_pos h5, kg2, z_nat (by omega)] at hsum
        rw [lf2, ls2, z_nat (by omega), z_nat (by omega)] at hb
        have w6 : W 43 (138 + 9 * q' + 7) = nN (ls + kg) := by rw [Wy _ (by omega) (by omega) (by omega), y6, ls2]; exact (Int32.ofNat_add ls kg).symm
        rw [w6, go (138 + 9 * q' + 6) (by omega) (by omega) (by omega) (by omega) (by omega) (by omega), lf2, z_nat (by omega), z_nat (by omega)]
        omega
      · rw [if_neg (by rw [h5]; exact z_nne (by omega) (by omega) (fun e => h e.symm))] at hsum
        rw [go (138 + 9 * q' + 6) (by omega) (by omega) (by omega) (by omega) (by omega) (by omega), go (138 + 9 * q' + 7) (by omega) (by omega) (by omega) (by omega) (by omega) (by omega)]
        omega
