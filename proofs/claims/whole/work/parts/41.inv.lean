/-! PHASE 2: THE INVARIANT. f: the cells of one table of the class (place 0: how many rows); g: a row of the reference -/
abbrev nN : Nat → Int32 := Int32.ofNat
/-- a number from a to b -/
def z_in (x : Int32) (a b : Int) : Prop := a ≤ x.toInt ∧ x.toInt ≤ b
abbrev z_Ro : Type := Nat → Int32
abbrev z_ks : List Nat := [4, 7, 10, 13, 17, 20, 23, 26, 31]
/-- how many places the table's cells have -/
def z_len (k : Nat) : Nat := match k with
  | 4 => 61 | 7 => 41 | 10 => 19 | 13 => 4 | 17 => 4 | 20 => 9 | 23 => 55 | 26 => 451 | 31 => 9 | _ => 0
/-- the levels of the headings: v h = 1 for a top one, the parent's + 1 else -/
def z_lev (n : Nat) (g : z_Ro) (v : Nat → Nat) : Prop := ∀ h < n, 1 ≤ v h ∧ v h ≤ 4 ∧ ((g (20 + 3 * h) = -1 ∧ v h = 1) ∨ ∃ p < h, g (20 + 3 * h) = nN p ∧ v h = v p + 1)
def tH (n : Nat) (f g : z_Ro) : Prop := n ≤ 20 ∧ f 0 = nN n ∧ g 1 = nN n ∧ (∀ i < 3 * n, f (1 + i) = g (20 + i)) ∧ ∃ v, z_lev n g v
def tP (n : Nat) (f g : z_Ro) : Prop := n ≤ 10 ∧ f 0 = nN n ∧ g 2 = nN n ∧ (∀ i < 4 * n, f (1 + i) = g (80 + i)) ∧ ∀ h < n, ∃ p < 20, g (80 + 4 * h) = nN p
def tS (n : Nat) (f g : z_Ro) : Prop := n ≤ 6 ∧ f 0 = nN n ∧ g 3 = nN n ∧ (∀ i < 3 * n, f (1 + i) = g (120 + i)) ∧ ∀ h < n, ∃ p < 20, g (120 + 3 * h) = nN p
def tQ (n : Nat) (f g : z_Ro) : Prop := n ≤ 6 ∧ f 0 = nN n ∧ g 4 = nN n ∧
  (∀ h < n, (∀ j < 7, f (1 + h * 9 + j) = g (138 + 9 * h + j)) ∧ f (1 + h * 9 + 8) = g (138 + 9 * h + 7) ∧ f (1 + h * 9 + 7) = g (138 + 9 * h + 2) - g (138 + 9 * h + 6) - g (138 + 9 * h + 7)) ∧
  ∀ h < n, (∃ p < 20, g (138 + 9 * h) = nN p) ∧ (∃ l ≤ 9999, g (138 + 9 * h + 6) = nN l) ∧ ∃ l ≤ 9999, g (138 + 9 * h + 7) = nN l
/-- a declaration, well formed -/
def z_dw (nh nq : Nat) (g : z_Ro) (d : Nat) : Prop := (∃ p < nh, g (208 + 16 * d) = nN p) ∧ (∃ q, 1 ≤ q ∧ q ≤ 999 ∧ g (208 + 16 * d + 1) = nN q) ∧ (∃ c < 8, g (208 + 16 * d + 3) = nN c) ∧
  (g (208 + 16 * d + 5) = -1 ∨ ∃ q < nq, g (208 + 16 * d + 5) = nN q) ∧ (∃ s ≤ 2, g (208 + 16 * d + 7) = nN s) ∧ (∃ k ≤ 999, g (208 + 16 * d + 8) = nN k) ∧
  (g (208 + 16 * d + 7) = 0 ∨ g (208 + 16 * d + 5) = -1 → g (208 + 16 * d + 8) = 0)
def tD (nh nq n : Nat) (f g : z_Ro) : Prop := n ≤ 30 ∧ f 0 = nN n ∧ g 5 = nN n ∧ (∀ h < n, ∀ j < 15, f (1 + h * 15 + j) = g (208 + 16 * h + j)) ∧ ∀ h < n, z_dw nh nq g h
/-- what the first n declarations got from quota q -/
def z_sum (g : z_Ro) (q : Nat) : Nat → Nat
  | 0 => 0
  | n + 1 => z_sum g q n + if g (208 + 16 * n + 5) = nN q then (g (208 + 16 * n + 8)).toNatClampNeg else 0
def tC (nq nd : Nat) (g : z_Ro) : Prop := ∀ q < nq, (g (138 + 9 * q + 6)).toNatClampNeg + (g (138 + 9 * q + 7)).toNatClampNeg + z_sum g q nd ≤ 9999
def tA (n : Nat) (f g : z_Ro) : Prop := n ≤ 4 ∧ f 0 = nN n ∧ g 6 = nN n ∧ (∀ i < 2 * n, f (1 + i) = g (192 + i)) ∧ ∀ k < n, ∃ c < 8, g (192 + 2 * k) = nN c
def tT (f g : z_Ro) : Prop := ∀ j < 3, f (1 + j) = g (10 + j)
def tL (f f2 g : z_Ro) : Prop := f 1 = g 0 ∧ f 2 = g 7 ∧ f 3 = g 8 ∧ ∀ j < 8, f2 (1 + j) = g (200 + j)
def z_rel (F : Nat → z_Ro) (g : z_Ro) : Prop := ∃ nh np ns nq nd na : Nat, tH nh (F 4) g ∧ tP np (F 7) g ∧ tS ns (F 10) g ∧ tQ nq (F 23) g ∧ tD nh nq nd (F 26) g ∧ tC nq nd g ∧ tA na (F 31) g ∧ tT (F 13) g ∧ tL (F 17) (F 20) g
/-- the tables as they stand in a slot -/
def z_slot (u : mg_Rg) (s : Nat) : Nat → z_Ro := fun k i => u (k + 1) (s * z_len k + i)
def z_ring (u : mg_Rg) : Prop := ∃ s m : Nat, s < 8 ∧ m ≤ 8 ∧ u 0 6 = nN s ∧ u 0 7 = nN m ∧ u 42 3 = nN m ∧ ∀ j < m, z_rel (z_slot u ((s + 8 - m + j) % 8)) (fun i => u 44 (690 * j + i))
def z_kept (u : mg_Rg) : Prop := (u 0 8 = 0 ∧ u 42 5 = 0) ∨ (u 0 8 = 1 ∧ u 42 5 = 1 ∧ z_rel (z_slot u 8) (u 45))
def z_text (u : mg_Rg) : Prop := ∃ n : Nat, n ≤ 60 ∧ u 37 2 = nN n ∧ u 42 10 = nN n ∧ (∀ i < n, u 38 i = u 47 i ∧ z_in (u 38 i) 33 126) ∧ u 37 4 = u 42 11
def z_R (u : mg_Rg) : Prop := z_ring u ∧ z_kept u ∧ z_text u ∧ u 0 9 = u 42 8 ∧ u 42 7 = 0
def z_I (u : mg_Rg) : Prop := z_rel u (u 43) ∧ z_R u
theorem z_I_u0 : z_I u0 := by
  have e0 : ∀ {n : Nat}, ¬ n < 0 := fun {n} => Nat.not_lt_zero n
  refine ⟨⟨0, 0, 0, 0, 0, 0, ⟨by omega, rfl, rfl, fun i h => absurd h (by omega), fun _ => 1, fun h hh => absurd hh e0⟩, ⟨by omega, rfl, rfl, fun i h => absurd h (by omega), fun h hh => absurd hh e0⟩, ⟨by omega, rfl, rfl, fun i h => absurd h (by omega), fun h hh => absurd hh e0⟩, ⟨by omega, rfl, rfl, fun h hh => absurd hh e0, fun h hh => absurd hh e0⟩, ⟨by omega, rfl, rfl, fun h hh => absurd hh e0, fun h hh => absurd hh e0⟩, fun q hq => absurd hq e0, ⟨by omega, rfl, rfl, fun i h => absurd h (by omega), fun h hh => absurd hh e0⟩, ?_, rfl, rfl, rfl, ?_⟩, ⟨0, 0, by omega, by omega, rfl, rfl, rfl, fun j h => absurd h e0⟩, Or.inl ⟨rfl, rfl⟩, ⟨0, by omega, rfl, rfl, fun i h => absurd h e0, rfl⟩, rfl, rfl⟩
  · intro j hj
    match j, hj with
    | 0, _ => rfl
    | 1, _ => rfl
    | 2, _ => rfl
  · intro j hj
    match j, hj with
    | 0, _ => rfl
    | 1, _ => rfl
    | 2, _ => rfl
    | 3, _ => rfl
    | 4, _ => rfl
    | 5, _ => rfl
    | 6, _ => rfl
    | 7, _ => rfl
/-- what each table's relation reads -/
theorem tH_cg {n : Nat} {f f' g g' : z_Ro} (hf : ∀ i < 61, f' i = f i) (hg : ∀ i, i = 1 ∨ (20 ≤ i ∧ i < 80) → g' i = g i) (h : tH n f g) : tH n f' g' := by
  obtain ⟨h1, h2, h3, h4, v, h5⟩ := h
  exact ⟨h1, by rw [hf _ (by omega)]; exact h2, by rw [hg _ (by omega)]; exact h3, fun i hi => by rw [hf _ (by omega), hg _ (by omega)]; exact h4 i hi, v, fun h hh => by rw [hg _ (by omega)]; exact h5 h hh⟩
theorem tP_cg {n : Nat} {f f' g g' : z_Ro} (hf : ∀ i < 41, f' i = f i) (hg : ∀ i, i = 2 ∨ (80 ≤ i ∧ i < 120) → g' i = g i) (h : tP n f g) : tP n f' g' := by
  obtain ⟨h1, h2, h3, h4, h5⟩ := h
  exact ⟨h1, by rw [hf _ (by omega)]; exact h2, by rw [hg _ (by omega)]; exact h3, fun i hi => by rw [hf _ (by omega), hg _ (by omega)]; exact h4 i hi, fun h hh => by rw [hg _ (by omega)]; exact h5 h hh⟩
theorem tS_cg {n : Nat} {f f' g g' : z_Ro} (hf : ∀ i < 19, f' i = f i) (hg : ∀ i, i = 3 ∨ (120 ≤ i ∧ i < 138) → g' i = g i) (h : tS n f g) : tS n f' g' := by
  obtain ⟨h1, h2, h3, h4, h5⟩ := h
  exact ⟨h1, by rw [hf _ (by omega)]; exact h2, by rw [hg _ (by omega)]; exact h3, fun i hi => by rw [hf _ (by omega), hg _ (by omega)]; exact h4 i hi, fun h hh => by rw [hg _ (by omega)]; exact h5 h hh⟩
theorem tQ_cg {n : Nat} {f f' g g' : z_Ro} (hf : ∀ i < 55, f' i = f i) (hg : ∀ i, i = 4 ∨ (138 ≤ i ∧ i < 192) → g' i = g i) (h : tQ n f g) : tQ n f' g' := by
  obtain ⟨h1, h2, h3, h4, h5⟩ := h
  refine ⟨h1, by rw [hf _ (by omega)]; exact h2, by rw [hg _ (by omega)]; exact h3, fun h hh => ?_, fun h hh => ?_⟩
  · obtain ⟨a, b, c⟩ := h4 h hh
    refine ⟨fun j hj => by rw [hf _ (by omega), hg _ (by omega)]; exact a j hj, by rw [hf _ (by omega), hg _ (by omega)]; exact b, ?_⟩
    rw [hf _ (by omega), hg (138 + 9 * h + 2) (by omega), hg (138 + 9 * h + 6) (by omega), hg (138 + 9 * h + 7) (by omega)]
    exact c
  · rw [hg (138 + 9 * h) (by omega), hg (138 + 9 * h + 6) (by omega), hg (138 + 9 * h + 7) (by omega)]
    exact h5 h hh
theorem z_dw_cg {nh nq d : Nat} {g g' : z_Ro} (hg : ∀ i, 208 + 16 * d ≤ i ∧ i < 208 + 16 * d + 16 → g' i = g i) (h : z_dw nh nq g d) : z_dw nh nq g' d := by
  unfold z_dw at h ⊢
  rw [hg (208 + 16 * d) (by omega), hg (208 + 16 * d + 1) (by omega), hg (208 + 16 * d + 3) (by omega), hg (208 + 16 * d + 5) (by omega), hg (208 + 16 * d + 7) (by omega), hg (208 + 16 * d + 8) (by omega)]
  exact h
theorem tD_cg {nh nq n : Nat} {f f' g g' : z_Ro} (hf : ∀ i < 451, f' i = f i) (hg : ∀ i, i = 5 ∨ (208 ≤ i ∧ i < 688) → g' i = g i) (h : tD nh nq n f g) : tD nh nq n f' g' := by
  obtain ⟨h1, h2, h3, h4, h5⟩ := h
  exact ⟨h1, by rw [hf _ (by omega)]; exact h2, by rw [hg _ (by omega)]; exact h3, fun h hh j hj => by rw [hf _ (by omega), hg _ (by omega)]; exact h4 h hh j hj, fun h hh => z_dw_cg (fun i hi => hg _ (by omega)) (h5 h hh)⟩
theorem z_sum_cg {g g' : z_Ro} {q : Nat} : ∀ {n : Nat}, (∀ i, 208 ≤ i ∧ i < 208 + 16 * n → g' i = g i) → z_sum g' q n = z_sum g q n := by
  intro n
  induction n with
  | zero => intro _; rfl
  | succ n ih =>
    intro hg
    unfold z_sum
    rw [ih (fun i hi => hg i (by omega)), hg (208 + 16 * n + 5) (by omega), hg (208 + 16 * n + 8) (by omega)]
theorem tC_cg {nq nd : Nat} {g g' : z_Ro} (hq : nq ≤ 6) (hd : nd ≤ 30) (hg : ∀ i, (138 ≤ i ∧ i < 192) ∨ (208 ≤ i ∧ i < 688) → g' i = g i) (h : tC nq nd g) : tC nq nd g' := by
  intro q hqn
  rw [hg (138 + 9 * q + 6) (by omega), hg (138 + 9 * q + 7) (by omega), z_sum_cg (fun i hi => hg i (by omega))]
  exact h q hqn
theorem tA_cg {n : Nat} {f f' g g' : z_Ro} (hf : ∀ i < 9, f' i = f i) (hg : ∀ i, i = 6 ∨ (192 ≤ i ∧ i < 200) → g' i = g i) (h : tA n f g) : tA n f' g' := by
  obtain ⟨h1, h2, h3, h4, h5⟩ := h
  exact ⟨h1, by rw [hf _ (by omega)]; exact h2, by rw [hg _ (by omega)]; exact h3, fun i hi => by rw [hf _ (by omega), hg _ (by omega)]; exact h4 i hi, fun h hh => by rw [hg _ (by omega)]; exact h5 h hh⟩
theorem tT_cg {f f' g g' : z_Ro} (hf : ∀ i < 4, f' i = f i) (hg : ∀ i, 10 ≤ i ∧ i < 13 → g' i = g i) (h : tT f g) : tT f' g' :=
  fun j hj => by rw [hf _ (by omega), hg _ (by omega)]; exact h j hj
theorem tL_cg {f f' k k' g g' : z_Ro} (hf : ∀ i < 4, f' i = f i) (hk : ∀ i < 9, k' i = k i) (hg : ∀ i, i = 0 ∨ i = 7 ∨ i = 8 ∨ (200 ≤ i ∧ i < 208) → g' i = g i) (h : tL f k g) : tL f' k' g' := by
  obtain ⟨h1, h2, h3, h4⟩ := h
  exact ⟨by rw [hf _ (by omega), hg _ (by omega)]; exact h1, by rw [hf _ (by omega), hg _ (by omega)]; exact h2, by rw [hf _ (by omega), hg _ (by omega)]; exact h3, fun j hj => by rw [hk _ (by omega), hg _ (by omega)]; exact h4 j hj⟩
theorem z_rel_cg {F F' : Nat → z_Ro} {g g' : z_Ro} (hF : ∀ k ∈ z_ks, ∀ i < z_len k, F' k i = F k i) (hg : ∀ i < 690, g' i = g i) (hr : z_rel F g) : z_rel F' g' := by
  obtain ⟨nh, np, ns, nq, nd, na, HH, HP, HS, HQ, HD, HC, HA, HT, HL⟩ := hr
  exact ⟨nh, np, ns, nq, nd, na, tH_cg (hF 4 (by decide)) (fun i hi => hg i (by omega)) HH, tP_cg (hF 7 (by decide)) (fun i hi => hg i (by omega)) HP, tS_cg (hF 10 (by decide)) (fun i hi => hg i (by omega)) HS, tQ_cg (hF 23 (by decide)) (fun i hi => hg i (by omega)) HQ, tD_cg (hF 26 (by decide)) (fun i hi => hg i (by omega)) HD, tC_cg HQ.1 HD.1 (fun i hi => hg i (by omega)) HC, tA_cg (hF 31 (by decide)) (fun i hi => hg i (by omega)) HA, tT_cg (hF 13 (by decide)) (fun i hi => hg i (by omega)) HT, tL_cg (hF 17 (by decide)) (hF 20 (by decide)) (fun i hi => hg i (by omega)) HL⟩
theorem z_rel_congr {F F' : Nat → z_Ro} {g : z_Ro} (h : ∀ k ∈ z_ks, F' k = F k) (hr : z_rel F g) : z_rel F' g :=
  z_rel_cg (fun k hk i _ => by rw [h k hk]) (fun _ _ => rfl) hr
theorem z_slot_congr {u u' : mg_Rg} (h : ∀ k ∈ z_ks, u' (k + 1) = u (k + 1)) (s : Nat) : ∀ k ∈ z_ks, z_slot u' s k = z_slot u s k := by
  intro k hk
  unfold z_slot
  rw [h k hk]
/-- what the rest of the invariant reads -/
theorem z_R_congr {u u' : mg_Rg} (h : ∀ k ∈ [5, 8, 11, 14, 18, 21, 24, 27, 32, 37, 38, 44, 45, 47], u' k = u k) (h0 : ∀ i ∈ [6, 7, 8, 9], u' 0 i = u 0 i) (hf : ∀ i ∈ [3, 5, 7, 8, 10, 11], u' 42 i = u 42 i) (hI : z_R u) : z_R u' := by
  obtain ⟨⟨s, m, a1, a2, a3, a4, a5, a6⟩, h3, ⟨n, b1, b2, b3, b4, b5⟩, h5, h6⟩ := hI
  have hs : ∀ s, ∀ k ∈ z_ks, z_slot u' s k = z_slot u s k := z_slot_congr (fun k hk => h _ (by
    simp only [z_ks, List.mem_cons, List.not_mem_nil, or_false] at hk ⊢
    omega))
  have e37 := h 37 (by decide)
  have e38 := h 38 (by decide)
  have e44 := h 44 (by decide)
  have e45 := h 45 (by decide)
  have e47 := h 47 (by decide)
  refine ⟨⟨s, m, a1, a2, (h0 6 (by decide)).trans a3, (h0 7 (by decide)).trans a4, (hf 3 (by decide)).trans a5, fun j hj => ?_⟩, ?_, ⟨n, b1, by rw [e37]; exact b2, (hf 10 (by decide)).trans b3, fun i hi => by rw [e38, e47]; exact b4 i hi, by rw [e37, hf 11 (by decide)]; exact b5⟩, by rw [h0 9 (by decide), hf 8 (by decide)]; exact h5, (hf 7 (by decide)).trans h6⟩
  · rw [e44]
    exact z_rel_congr (hs _) (a6 j hj)
  · rcases h3 with ⟨c1, c2⟩ | ⟨c1, c2, c3⟩
    · exact Or.inl ⟨(h0 8 (by decide)).trans c1, (hf 5 (by decide)).trans c2⟩
    · exact Or.inr ⟨(h0 8 (by decide)).trans c1, (hf 5 (by decide)).trans c2, by rw [e45]; exact z_rel_congr (hs _) c3⟩
theorem z_up_ne {u : mg_Rg} {k i : Nat} {v : Int32} {j : Nat} (h : j ≠ k) : mg_up u k i v j = u j := if_neg h
theorem z_up_at {u : mg_Rg} {k i : Nat} {v : Int32} : mg_up u k i v k = upd (u k) i v := if_pos rfl
theorem z_upd_ne {f : Nat → Int32} {i : Nat} {v : Int32} {j : Nat} (h : j ≠ i) : upd f i v j = f j := by
  unfold upd
  exact if_neg h
theorem z_upd_at {f : Nat → Int32} {i : Nat} {v : Int32} : upd f i v i = v := by
  unfold upd
  exact if_pos rfl
theorem z_rw_ne {u : mg_Rg} {k : Nat} {f : Nat → Int32} {j : Nat} (h : j ≠ k) : mg_rw u k f j = u j := if_neg h
theorem z_R_thrown {u : mg_Rg} (v : Int32) (hI : z_R u) : z_R (mg_up u 42 0 v) := by
  refine z_R_congr (fun k hk => z_up_ne ?_) (fun i hi => by rw [z_up_ne (by decide)]) (fun i hi => ?_) hI
  · rintro rfl
    revert hk
    decide
  · rw [z_up_at]
    refine z_upd_ne ?_
    rintro rfl
    revert hi
    decide
theorem z_I_thrown {u : mg_Rg} (v : Int32) (hI : z_I u) : z_I (mg_up u 42 0 v) :=
  ⟨z_rel_congr (fun k hk => z_up_ne (by rintro rfl; revert hk; decide)) hI.1, z_R_thrown v hI.2⟩
/-- a call that writes nothing but a register of the goods, the entries, .. -/
theorem z_I_goods {u u' : mg_Rg} (h : ∀ k, k ≠ 28 → u' k = u k) (hI : z_I u) : z_I u' := by
  have e : ∀ k ∈ z_ks, u' k = u k := fun k hk => h k (by rintro rfl; revert hk; decide)
  refine ⟨?_, z_R_congr (fun k hk => h k (by rintro rfl; revert hk; decide)) (fun i _ => by rw [h 0 (by decide)]) (fun i _ => by rw [h 42 (by decide)]) hI.2⟩
  rw [h 43 (by decide)]
  exact z_rel_congr e hI.1
theorem z_done (x : Int32) (u : mg_Rg) : M_done x u = some (x, mg_up u 42 0 0) := rfl
theorem z_fails (x : Int32) (u : mg_Rg) : M_fails x u = some (0, mg_up u 42 0 x) := rfl
theorem z_thrown (u : mg_Rg) (v : Int32) : M_thrown (mg_up u 42 0 v) = some v := rfl
/-- two easy ones: changes, refusal -/
theorem ob_33 : Ob_33 z_I := by
  intro u hu
  have hI := z_I_thrown 0 hu
  obtain ⟨-, ⟨s, m, -, -, h6, h7, h3, -⟩, -⟩ := hu
  refine ⟨u 0 7, mg_up u 42 0 0, rfl, ?_, hI⟩
  unfold M_changes
  rw [h7, h3]
  rfl
theorem ob_23 : Ob_23 z_I := by
  intro u hu
  have h5 := hu.2.2.2.2.1
  by_cases h : u 0 9 = 0
  · exact ⟨.inr 3, u, 0, mg_up u 42 0 1, 1, by unfold C_refusal; rw [if_pos h], by unfold M_refusal; rw [if_pos (h5 ▸ h)]; rfl, rfl, Or.inr ⟨rfl, rfl⟩, z_I_thrown 1 hu⟩
  · exact ⟨.inl (u 0 9), u, u 42 8, mg_up u 42 0 0, 0, by unfold C_refusal; rw [if_neg h], by unfold M_refusal; rw [if_neg (h5 ▸ h)]; rfl, rfl, Or.inl ⟨_, rfl, h5.symm, rfl⟩, z_I_thrown 0 hu⟩
