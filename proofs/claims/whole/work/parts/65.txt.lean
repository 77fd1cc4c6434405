/-! TEXTS: the class's reader and the reference's, side by side -/
def s_ch (t : z_Ro) (n p : Nat) : Int32 := if p < n then t p else -1
def XF (u u0 : mg_Rg) : Prop := (∀ k, k ≠ 37 → k ≠ 40 → u k = u0 k) ∧ ∀ i, i ≠ 3 → u 37 i = u0 37 i
def MF (w w0 : mg_Rg) : Prop := (∀ k, k ≠ 42 → k ≠ 49 → w k = w0 k) ∧ ∀ i, i ≠ 13 → i ≠ 14 → w 42 i = w0 42 i
def X0 (n : Nat) (u0 w0 : mg_Rg) : Prop := n ≤ 60 ∧ u0 37 2 = nN n ∧ w0 42 10 = nN n ∧ ∀ i < n, u0 38 i = w0 47 i
/-- both sound, at p -/
def XS (n p : Nat) (u w u0 w0 : mg_Rg) : Prop := XF u u0 ∧ MF w w0 ∧ p ≤ n ∧ u 37 3 = nN p ∧ w 42 13 = nN p ∧ w 42 14 = 0
/-- the reference has found the text wrong, at p -/
def WS (n p : Nat) (w w0 : mg_Rg) : Prop := MF w w0 ∧ p ≤ n ∧ w 42 13 = nN p ∧ w 42 14 = 1
theorem XF.refl (u : mg_Rg) : XF u u := ⟨fun _ _ _ => rfl, fun _ _ => rfl⟩
theorem MF.refl (w : mg_Rg) : MF w w := ⟨fun _ _ _ => rfl, fun _ _ _ => rfl⟩
theorem XF_40 {u u0 : mg_Rg} (i : Nat) (v : Int32) (h : XF u u0) : XF (mg_up u 40 i v) u0 := ⟨fun k k1 k2 => (z_up_ne k2).trans (h.1 k k1 k2), fun i i1 => by rw [z_up_ne (by decide)]; exact h.2 i i1⟩
theorem XF_at {u u0 : mg_Rg} (v : Int32) (h : XF u u0) : XF (mg_up u 37 3 v) u0 := ⟨fun k k1 k2 => (z_up_ne k1).trans (h.1 k k1 k2), fun i i1 => by rw [zu_ne i1]; exact h.2 i i1⟩
theorem MF_49 {w w0 : mg_Rg} (i : Nat) (v : Int32) (h : MF w w0) : MF (mg_up w 49 i v) w0 := ⟨fun k k1 k2 => (z_up_ne k2).trans (h.1 k k1 k2), fun i i1 i2 => by rw [z_up_ne (by decide)]; exact h.2 i i1 i2⟩
theorem MF_pw {w w0 : mg_Rg} (a b : Int32) (h : MF w w0) : MF (mg_up (mg_up w 42 14 a) 42 13 b) w0 := ⟨fun k k1 k2 => by rw [z_up_ne k1, z_up_ne k1]; exact h.1 k k1 k2, fun i i1 i2 => by rw [zu_ne i1, zu_ne i2]; exact h.2 i i1 i2⟩
theorem MF_p {w w0 : mg_Rg} (b : Int32) (h : MF w w0) : MF (mg_up w 42 13 b) w0 := ⟨fun k k1 k2 => by rw [z_up_ne k1]; exact h.1 k k1 k2, fun i i1 i2 => by rw [zu_ne i1]; exact h.2 i i1 i2⟩
theorem XS_49 {n p : Nat} {u w u0 w0 : mg_Rg} (i : Nat) (v : Int32) (h : XS n p u w u0 w0) : XS n p u (mg_up w 49 i v) u0 w0 := ⟨h.1, MF_49 i v h.2.1, h.2.2.1, h.2.2.2.1, by rw [z_up_ne (by decide)]; exact h.2.2.2.2.1, by rw [z_up_ne (by decide)]; exact h.2.2.2.2.2⟩
theorem XS_40 {n p : Nat} {u w u0 w0 : mg_Rg} (i : Nat) (v : Int32) (h : XS n p u w u0 w0) : XS n p (mg_up u 40 i v) w u0 w0 := ⟨XF_40 i v h.1, h.2.1, h.2.2.1, by rw [z_up_ne (by decide)]; exact h.2.2.2.1, h.2.2.2.2.1, h.2.2.2.2.2⟩
theorem WS_49 {n p : Nat} {w w0 : mg_Rg} (i : Nat) (v : Int32) (h : WS n p w w0) : WS n p (mg_up w 49 i v) w0 := ⟨MF_49 i v h.1, h.2.1, by rw [z_up_ne (by decide)]; exact h.2.2.1, by rw [z_up_ne (by decide)]; exact h.2.2.2⟩
theorem z_g60 {α : Type} {k : Nat} {x y : α} (h : k < 60) : (if nN k < 0 ∨ 60 ≤ (nN k).toNatClampNeg then x else y) = y := by
  rw [if_neg]
  rw [z_nat (by omega)]
  exact fun q => q.elim (z_nn (by omega)) (by omega)
theorem z_g840 {α : Type} {k : Nat} {x y : α} (h : k < 840) : (if nN k < 0 ∨ 840 ≤ (nN k).toNatClampNeg then x else y) = y := by
  rw [if_neg]
  rw [z_nat (by omega)]
  exact fun q => q.elim (z_nn (by omega)) (by omega)
theorem x_here {n p : Nat} {u0 w0 w : mg_Rg} (H : X0 n u0 w0) (hM : MF w w0) (hp : p ≤ n) (h13 : w 42 13 = nN p) : M_here w = some (s_ch (w0 47) n p) := by
  obtain ⟨h60, -, h10, -⟩ := H
  unfold M_here s_ch
  rw [hM.2 10 (by decide) (by decide), h10, h13]
  by_cases h : p < n
  · rw [if_neg (z_nle (by omega) (by omega) h), if_pos h, z_g60 (by omega), z_nat (by omega), hM.1 47 (by decide) (by decide)]
  · rw [if_pos ((z_le (by omega) (by omega)).mpr (by omega)), if_neg h]
theorem x_in {n p : Nat} {u0 w0 u : mg_Rg} (H : X0 n u0 w0) (hX : XF u u0) (hp : p ≤ n) (h3 : u 37 3 = nN p) : X_isInText u = some (if p < n then 1 else 0) := by
  obtain ⟨h60, h2, -, -⟩ := H
  unfold X_isInText
  rw [h3, hX.2 2 (by decide), h2, if_neg (z_nn (by omega))]
  by_cases h : p < n
  · rw [if_neg (z_nle (by omega) (by omega) h), if_neg (show ¬ (60 : Int32) ≤ nN p from z_nle (a := 60) (by omega) (by omega) (by omega)), if_pos h]
  · rw [if_pos ((z_le (by omega) (by omega)).mpr (by omega)), if_neg h]
theorem x_take_yes {n p : Nat} {u0 w0 u : mg_Rg} {c : Int32} (H : X0 n u0 w0) (hX : XF u u0) (hp : p ≤ n) (h3 : u 37 3 = nN p) (hc : s_ch (w0 47) n p = c) (h1 : ¬ c = -1) : p < n ∧ X_take c u = some (1, mg_up u 37 3 (nN (p + 1))) := by
  have h60 := H.1
  unfold s_ch at hc
  by_cases h : p < n
  · rw [if_pos h] at hc
    refine ⟨h, ?_⟩
    unfold X_take
    rw [x_in H hX hp h3, if_pos h]
    simp only [Option.bind_some]
    rw [if_neg (by decide), h3, z_g60 (by omega), z_nat (by omega), hX.1 38 (by decide) (by decide), H.2.2.2 p h, if_pos hc, zo_1]
  · rw [if_neg h] at hc
    exact absurd hc.symm h1
theorem x_take_no {n p : Nat} {u0 w0 u : mg_Rg} {c : Int32} (H : X0 n u0 w0) (hX : XF u u0) (hp : p ≤ n) (h3 : u 37 3 = nN p) (hc : ¬ s_ch (w0 47) n p = c) : X_take c u = some (0, u) := by
  have h60 := H.1
  unfold s_ch at hc
  unfold X_take
  rw [x_in H hX hp h3]
  simp only [Option.bind_some]
  by_cases h : p < n
  · rw [if_pos h] at hc
    rw [if_pos h, if_neg (by decide), h3, z_g60 (by omega), z_nat (by omega), hX.1 38 (by decide) (by decide), H.2.2.2 p h, if_neg hc]
  · rw [if_neg h, if_pos rfl]
theorem x_digit {n p : Nat} {u0 w0 u : mg_Rg} (H : X0 n u0 w0) (hX : XF u u0) (hp : p ≤ n) (h3 : u 37 3 = nN p) : (∃ v ≤ 9, p < n ∧ s_ch (w0 47) n p = nN (48 + v) ∧ X_digitHere u = some (nN v)) ∨ ((s_ch (w0 47) n p < 48 ∨ 57 < s_ch (w0 47) n p) ∧ X_digitHere u = some (-1)) := by
  have h60 := H.1
  have hin := x_in H hX hp h3
  by_cases h : p < n
  · have e : s_ch (w0 47) n p = w0 47 p := if_pos h
    have e2 : u 38 p = w0 47 p := by rw [hX.1 38 (by decide) (by decide)]; exact H.2.2.2 p h
    rw [e]
    by_cases hr : w0 47 p < 48 ∨ 57 < w0 47 p
    · refine Or.inr ⟨hr, ?_⟩
      unfold X_digitHere
      rw [hin, if_pos h]
      simp only [Option.bind_some]
      rw [if_neg (by decide), h3, z_g60 (by omega), z_g60 (by omega), z_g60 (by omega), z_nat (by omega), e2]
      by_cases h1 : w0 47 p < 48
      · rw [if_pos h1]
      · rw [if_neg h1, if_neg (Int32.not_le.mpr (hr.resolve_left h1))]
    · obtain ⟨c, c1, c2, c3⟩ := z_winN (lo := 48) (hi := 57) (by omega) (by omega) hr
      refine Or.inl ⟨c - 48, by omega, h, by rw [c3, show 48 + (c - 48) = c by omega], ?_⟩
      unfold X_digitHere
      rw [hin, if_pos h]
      simp only [Option.bind_some]
      rw [if_neg (by decide), h3, z_g60 (by omega), z_g60 (by omega), z_g60 (by omega), z_nat (by omega), e2, if_neg (fun q => hr (Or.inl q)), if_pos (Int32.not_lt.mp (fun q => hr (Or.inr q))), c3, ← z_subN c1]
      rfl
  · have e : s_ch (w0 47) n p = -1 := if_neg h
    refine Or.inr ⟨by rw [e]; exact Or.inl (by decide), ?_⟩
    unfold X_digitHere
    rw [hin, if_neg h]
    simp only [Option.bind_some]
    rw [if_pos trivial]
theorem x_reads_yes {n p : Nat} {u0 w0 w : mg_Rg} {c : Int32} (H : X0 n u0 w0) (hM : MF w w0) (hp : p < n) (h13 : w 42 13 = nN p) (h14 : w 42 14 = 0) (hc : s_ch (w0 47) n p = c) : ∃ w1, M_reads c w = some w1 ∧ MF w1 w0 ∧ w1 42 13 = nN (p + 1) ∧ w1 42 14 = 0 ∧ w1 49 = w 49 := by
  refine ⟨mg_up (mg_up w 42 14 0) 42 13 (nN (p + 1)), ?_, MF_pw _ _ hM, by rw [zu_eq], by rw [zu_ne (by decide), zu_eq], by rw [z_up_ne (by decide), z_up_ne (by decide)]⟩
  unfold M_reads
  rw [x_here H hM (by omega) h13, hc]
  simp only [Option.bind_some]
  rw [if_pos trivial, h14, if_pos (by decide), show (0 : Int32) ||| 0 = 0 by decide, zu_eq, if_pos rfl, zu_ne (by decide), h13, zo_1]
theorem x_reads_no {n p : Nat} {u0 w0 w : mg_Rg} {c : Int32} (H : X0 n u0 w0) (hM : MF w w0) (hp : p ≤ n) (h13 : w 42 13 = nN p) (h14 : w 42 14 = 0) (hc : ¬ s_ch (w0 47) n p = c) : ∃ w1, M_reads c w = some w1 ∧ WS n p w1 w0 ∧ w1 49 = w 49 := by
  refine ⟨mg_up (mg_up w 42 14 1) 42 13 (nN p), ?_, ⟨MF_pw _ _ hM, hp, by rw [zu_eq], by rw [zu_ne (by decide), zu_eq]⟩, by rw [z_up_ne (by decide), z_up_ne (by decide)]⟩
  unfold M_reads
  rw [x_here H hM hp h13]
  simp only [Option.bind_some]
  rw [if_neg hc, h14, if_pos (by decide), show (0 : Int32) ||| 1 = 1 by decide, zu_eq, if_neg (by decide), zu_ne (by decide), h13, zo_0]
theorem x_reads_wr {n p : Nat} {u0 w0 w : mg_Rg} (c : Int32) (H : X0 n u0 w0) (hW : WS n p w w0) : ∃ w1, M_reads c w = some w1 ∧ WS n p w1 w0 ∧ w1 49 = w 49 := by
  obtain ⟨hM, hp, h13, h14⟩ := hW
  refine ⟨mg_up (mg_up w 42 14 1) 42 13 (nN p), ?_, ⟨MF_pw _ _ hM, hp, by rw [zu_eq], by rw [zu_ne (by decide), zu_eq]⟩, by rw [z_up_ne (by decide), z_up_ne (by decide)]⟩
  unfold M_reads
  rw [x_here H hM hp h13]
  simp only [Option.bind_some]
  by_cases hc : s_ch (w0 47) n p = c
  · rw [if_pos hc, h14, if_pos (by decide), show (1 : Int32) ||| 0 = 1 by decide, zu_eq, if_neg (by decide), zu_ne (by decide), h13, zo_0]
  · rw [if_neg hc, h14, if_pos (by decide), show (1 : Int32) ||| 1 = 1 by decide, zu_eq, if_neg (by decide), zu_ne (by decide), h13, zo_0]
theorem x_rd_yes {n p v : Nat} {u0 w0 w : mg_Rg} {lo hi : Int32} (H : X0 n u0 w0) (hM : MF w w0) (hp : p < n) (h13 : w 42 13 = nN p) (h14 : w 42 14 = 0) (hc : s_ch (w0 47) n p = nN (48 + v)) (hr : ¬ (nN (48 + v) < lo ∨ hi < nN (48 + v))) : ∃ w1, M_readsDigit lo hi w = some (nN v, w1) ∧ MF w1 w0 ∧ w1 42 13 = nN (p + 1) ∧ w1 42 14 = 0 ∧ w1 49 = w 49 := by
  refine ⟨mg_up (mg_up w 42 14 0) 42 13 (nN (p + 1)), ?_, MF_pw _ _ hM, by rw [zu_eq], by rw [zu_ne (by decide), zu_eq], by rw [z_up_ne (by decide), z_up_ne (by decide)]⟩
  have hh : M_here (mg_up w 42 14 0) = some (nN (48 + v)) := by
    rw [x_here (w := mg_up w 42 14 0) (p := p) H ⟨fun k k1 k2 => by rw [z_up_ne k1]; exact hM.1 k k1 k2, fun i i1 i2 => by rw [zu_ne i2]; exact hM.2 i i1 i2⟩ (by omega) (by rw [zu_ne (by decide)]; exact h13), hc]
  have es : nN (48 + v) - 48 = nN v := by
    have := z_subN (a := 48 + v) (b := 48) (by omega)
    rw [show 48 + v - 48 = v by omega] at this
    exact this
  unfold M_readsDigit
  rw [x_here H hM (by omega) h13, hc]
  simp only [Option.bind_some]
  rw [z_min_yes hr]
  simp only [Option.bind_some]
  rw [if_neg (by decide), h14, if_pos (by decide), show (0 : Int32) ||| 0 = 0 by decide, zu_eq, if_pos rfl, hh]
  simp only [Option.bind_some]
  rw [if_pos trivial, es, zu_ne (by decide), h13, zo_1]
theorem x_rd_no {n p : Nat} {u0 w0 w : mg_Rg} {lo hi : Int32} (H : X0 n u0 w0) (hM : MF w w0) (hp : p ≤ n) (h13 : w 42 13 = nN p) (h14 : w 42 14 = 0) (hr : s_ch (w0 47) n p < lo ∨ hi < s_ch (w0 47) n p) : ∃ w1, M_readsDigit lo hi w = some (0, w1) ∧ WS n p w1 w0 ∧ w1 49 = w 49 := by
  refine ⟨mg_up (mg_up w 42 14 1) 42 13 (nN p), ?_, ⟨MF_pw _ _ hM, hp, by rw [zu_eq], by rw [zu_ne (by decide), zu_eq]⟩, by rw [z_up_ne (by decide), z_up_ne (by decide)]⟩
  unfold M_readsDigit
  rw [x_here H hM hp h13]
  simp only [Option.bind_some]
  rw [z_min_no hr]
  simp only [Option.bind_some]
  rw [if_pos trivial, h14, if_pos (by decide), show (0 : Int32) ||| 1 = 1 by decide, zu_eq, if_neg (by decide), if_neg (by decide), zu_ne (by decide), h13, zo_0]
theorem x_rd_wr {n p : Nat} {u0 w0 w : mg_Rg} (lo hi : Int32) (H : X0 n u0 w0) (hW : WS n p w w0) : ∃ w1, M_readsDigit lo hi w = some (0, w1) ∧ WS n p w1 w0 ∧ w1 49 = w 49 := by
  obtain ⟨hM, hp, h13, h14⟩ := hW
  refine ⟨mg_up (mg_up w 42 14 1) 42 13 (nN p), ?_, ⟨MF_pw _ _ hM, hp, by rw [zu_eq], by rw [zu_ne (by decide), zu_eq]⟩, by rw [z_up_ne (by decide), z_up_ne (by decide)]⟩
  unfold M_readsDigit
  rw [x_here H hM hp h13]
  simp only [Option.bind_some]
  by_cases hr : s_ch (w0 47) n p < lo ∨ hi < s_ch (w0 47) n p
  · rw [z_min_no hr]
    simp only [Option.bind_some]
    rw [if_pos trivial, h14, if_pos (by decide), show (1 : Int32) ||| 1 = 1 by decide, zu_eq, if_neg (by decide), if_neg (by decide), zu_ne (by decide), h13, zo_0]
  · rw [z_min_yes hr]
    simp only [Option.bind_some]
    rw [if_neg (by decide), h14, if_pos (by decide), show (1 : Int32) ||| 0 = 1 by decide, zu_eq, if_neg (by decide), if_neg (by decide), zu_ne (by decide), h13, zo_0]
theorem x_code_loop {n : Nat} {u0 w0 : mg_Rg} (H : X0 n u0 w0) (x1 x2 : Int32) : ∀ r m m' k v p, ∀ u w : mg_Rg, k + r = 4 → r < m → r < m' → 1 ≤ k → v + 1 ≤ 10 ^ k → XS n p u w u0 w0 → ∃ v' p' u' w', X_readNumber_L6 m x1 x2 4 1 (nN v) (nN k) u = some (nN v', u') ∧ M_readsCode_L11 m' (nN v) (nN k) w = some (nN v', w') ∧ XS n p' u' w' u0 w0 ∧ p ≤ p' ∧ v ≤ v' ∧ v' + 1 ≤ 10 ^ 4 ∧ u' 40 = u 40 ∧ w' 49 = w 49 := by
  intro r
  induction r with
  | zero =>
    intro m m' k v p u w hk hm hm' hk1 hv S
    cases m with
    | zero => omega
    | succ m =>
      cases m' with
      | zero => omega
      | succ m' =>
        have e : k = 4 := by omega
        subst e
        refine ⟨v, p, u, w, ?_, ?_, S, Nat.le_refl _, Nat.le_refl _, hv, rfl, rfl⟩
        · unfold X_readNumber_L6
          rw [if_pos (by decide)]
        · unfold M_readsCode_L11
          rw [S.2.2.2.2.2, if_pos rfl, if_pos (by decide)]
  | succ r ih =>
    intro m m' k v p u w hk hm hm' hk1 hv S
    cases m with
    | zero => omega
    | succ m =>
      cases m' with
      | zero => omega
      | succ m' =>
        obtain ⟨hX, hM, hp, h3, h13, h14⟩ := id S
        have hkm : k < 4 := by omega
        have c1 : ¬ (4 : Int32) ≤ nN k := z_nle (a := 4) (by omega) (by omega) hkm
        have c2 : ¬ nN k = 0 := z_eq0 hk1 (by omega)
        have stop : s_ch (w0 47) n p < 49 ∨ 57 < s_ch (w0 47) n p → (∀ d, X_digitHere u = some d → ¬ 1 ≤ d) → ∃ v' p' u' w', X_readNumber_L6 (m + 1) x1 x2 4 1 (nN v) (nN k) u = some (nN v', u') ∧ M_readsCode_L11 (m' + 1) (nN v) (nN k) w = some (nN v', w') ∧ XS n p' u' w' u0 w0 ∧ p ≤ p' ∧ v ≤ v' ∧ v' + 1 ≤ 10 ^ 4 ∧ u' 40 = u 40 ∧ w' 49 = w 49 := by
          intro hs hd
          have hp10 : 10 ^ k ≤ 10 ^ 4 := Nat.pow_le_pow_right (by omega) (by omega)
          refine ⟨v, p, u, w, ?_, ?_, S, Nat.le_refl _, Nat.le_refl _, Nat.le_trans hv hp10, rfl, rfl⟩
          · unfold X_readNumber_L6
            rw [if_neg c1]
            rcases x_digit H hX hp h3 with ⟨d, -, -, -, e⟩ | ⟨-, e⟩
            · rw [e]
              simp only [Option.bind_some]
              rw [if_neg c2, if_neg (hd _ e)]
            · rw [e]
              simp only [Option.bind_some]
              rw [if_neg c2, if_neg (hd _ e)]
          · unfold M_readsCode_L11
            rw [h14, if_pos rfl, if_neg c1, x_here H hM hp h13]
            simp only [Option.bind_some]
            rw [z_min_no hs]
            rfl
        rcases x_digit H hX hp h3 with ⟨d, hd, hpn, hc, hdg⟩ | ⟨hs, hdg⟩
        · by_cases hla : 1 ≤ d
          · have hr : ¬ (nN (48 + d) < 49 ∨ 57 < nN (48 + d)) := by
              rintro (q | q)
              · exact absurd ((z_lt (b := 49) (by omega) (by omega)).mp q) (by omega)
              · exact absurd ((z_lt (a := 57) (by omega) (by omega)).mp q) (by omega)
            obtain ⟨w1, b1, b2, b3, b4, b5⟩ := x_rd_yes H hM hpn h13 h14 hc hr
            have hpow : 10 ^ (k + 1) = 10 ^ k * 10 := Nat.pow_succ 10 k
            obtain ⟨v', p', u', w', e1, e2, e3, e4, e5, e6, e7, e8⟩ := ih m m' (k + 1) (10 * v + d) (p + 1) (mg_up u 37 3 (nN (p + 1))) w1 (by omega) (by omega) (by omega) (by omega) (by omega) ⟨XF_at _ hX, b2, by omega, by rw [zu_eq], b3, b4⟩
            refine ⟨v', p', u', w', ?_, ?_, e3, by omega, by omega, e6, by rw [e7, z_up_ne (by decide)], e8.trans b5⟩
            · unfold X_readNumber_L6
              rw [if_neg c1, hdg]
              simp only [Option.bind_some]
              rw [if_neg c2, if_pos (show 1 ≤ nN d from (z_le (a := 1) (by omega) (by omega)).mpr hla), h3, zo_1, zo_1, show nN v * 10 = nN (10 * v) by rw [show (10 : Int32) = nN 10 from rfl, z_mulN, Nat.mul_comm], z_addN]
              exact e1
            · unfold M_readsCode_L11
              rw [h14, if_pos rfl, if_neg c1, x_here H hM hp h13, hc]
              simp only [Option.bind_some]
              rw [z_min_yes hr]
              simp only [Option.bind_some]
              rw [if_neg (by decide), b1]
              simp only [Option.bind_some]
              rw [show (10 : Int32) * nN v = nN (10 * v) by rw [show (10 : Int32) = nN 10 from rfl, z_mulN], z_addN, zo_1]
              exact e2
          · refine stop ?_ (fun d' hd' => ?_)
            · rw [hc]
              exact Or.inl ((z_lt (b := 49) (by omega) (by omega)).mpr (by omega))
            · rw [hdg] at hd'
              cases hd'
              exact z_nle (a := 1) (by omega) (by omega) (by omega)
        · refine stop ?_ (fun d' hd' => ?_)
          · rcases hs with q | q
            · left
              rw [Int32.lt_iff_toInt_lt] at q ⊢
              have i1 : (48 : Int32).toInt = 48 := rfl
              have i2 : (49 : Int32).toInt = 49 := rfl
              omega
            · exact Or.inr q
          · rw [hdg] at hd'
            cases hd'
            decide
theorem x_code {n p e c : Nat} {u0 w0 u w : mg_Rg} (H : X0 n u0 w0) (he : e < 8) (hc13 : c < 13) (S : XS n p u w u0 w0) :
    (∃ v p' u' w', 1 ≤ v ∧ v ≤ 99999 ∧ X_readNumber (nN e) (nN c) 4 1 u = some (1, mg_up u' 40 (1 + e * 13 + c) (nN v)) ∧ M_readsCode w = some (nN v, w') ∧ XS n p' u' w' u0 w0 ∧ p + 1 ≤ p' ∧ u' 40 = u 40 ∧ w' 49 = w 49) ∨
    (X_readNumber (nN e) (nN c) 4 1 u = some (0, mg_up u 40 (1 + e * 13 + c) 0) ∧ ∃ w', M_readsCode w = some (0, w') ∧ WS n p w' w0 ∧ w' 49 = w 49) := by
  obtain ⟨hX, hM, hp, h3, h13, h14⟩ := id S
  have bad : s_ch (w0 47) n p < 49 ∨ 57 < s_ch (w0 47) n p → (∀ d, X_digitHere u = some d → ¬ (1 : Int32) ≤ d) → X_readNumber (nN e) (nN c) 4 1 u = some (0, mg_up u 40 (1 + e * 13 + c) 0) ∧ ∃ w', M_readsCode w = some (0, w') ∧ WS n p w' w0 ∧ w' 49 = w 49 := by
    intro hs hd
    obtain ⟨w1, b1, b2, b3⟩ := x_rd_no H hM hp h13 h14 hs
    refine ⟨?_, w1, ?_, b2, b3⟩
    · have hl : X_readNumber_L6 mg_F (nN e) (nN c) 4 1 0 0 u = some (0, u) := by
        show X_readNumber_L6 (5999 + 1) _ _ _ _ _ _ _ = _
        unfold X_readNumber_L6
        rw [if_neg (by decide)]
        rcases x_digit H hX hp h3 with ⟨d, -, -, -, e⟩ | ⟨-, e⟩
        · rw [e]
          simp only [Option.bind_some]
          rw [if_pos trivial, if_neg (hd _ e)]
        · rw [e]
          simp only [Option.bind_some]
          rw [if_pos trivial, if_neg (hd _ e)]
      unfold X_readNumber
      rw [hl]
      simp only [Option.bind_some]
      rw [tp_39 he hc13]
      simp only [Option.bind_some]
      rw [if_pos (by decide)]
    · unfold M_readsCode
      rw [b1]
      simp only [Option.bind_some]
      have hl : M_readsCode_L11 mg_F 0 1 w1 = some (0, w1) := by
        show M_readsCode_L11 (5999 + 1) _ _ _ = _
        unfold M_readsCode_L11
        rw [b2.2.2.2, if_neg (by decide)]
      rw [hl]
      rfl
  rcases x_digit H hX hp h3 with ⟨d, hd, hpn, hc, hdg⟩ | ⟨hs, hdg⟩
  · by_cases hla : 1 ≤ d
    · left
      have hr : ¬ (nN (48 + d) < 49 ∨ 57 < nN (48 + d)) := by
        rintro (q | q)
        · exact absurd ((z_lt (b := 49) (by omega) (by omega)).mp q) (by omega)
        · exact absurd ((z_lt (a := 57) (by omega) (by omega)).mp q) (by omega)
      obtain ⟨w1, b1, b2, b3, b4, b5⟩ := x_rd_yes H hM hpn h13 h14 hc hr
      obtain ⟨v', p', u', w', e1, e2, e3, e4, e5, e6, e7, e8⟩ := x_code_loop H (nN e) (nN c) 3 5999 mg_F 1 d (p + 1) (mg_up u 37 3 (nN (p + 1))) w1 (by omega) (by omega) (by show 3 < 6000; omega) (by omega) (by omega) ⟨XF_at _ hX, b2, by omega, by rw [zu_eq], b3, b4⟩
      have hlim : v' ≤ 99999 := by
        have : (10 : Nat) ^ 4 ≤ 100000 := by decide
        omega
      refine ⟨v', p', u', w', by omega, hlim, ?_, ?_, e3, by omega, by rw [e7, z_up_ne (by decide)], e8.trans b5⟩
      · have hl : X_readNumber_L6 mg_F (nN e) (nN c) 4 1 0 0 u = some (nN v', u') := by
          show X_readNumber_L6 (5999 + 1) _ _ _ _ _ _ _ = _
          unfold X_readNumber_L6
          rw [if_neg (by decide), hdg]
          simp only [Option.bind_some]
          rw [if_pos trivial, if_pos (show (1 : Int32) ≤ nN d from (z_le (a := 1) (by omega) (by omega)).mpr hla), h3, zo_1, show (0 : Int32) * 10 + nN d = nN d by rw [Int32.zero_mul, Int32.zero_add]]
          exact e1
        unfold X_readNumber
        rw [hl]
        simp only [Option.bind_some]
        rw [tp_39 he hc13]
        simp only [Option.bind_some]
        rw [if_neg (z_nle0 (by omega) (by omega))]
      · unfold M_readsCode
        rw [b1]
        simp only [Option.bind_some]
        rw [show M_readsCode_L11 mg_F (nN d) 1 w1 = _ from e2]
        rfl
    · right
      refine bad ?_ (fun d' hd' => ?_)
      · rw [hc]
        exact Or.inl ((z_lt (b := 49) (by omega) (by omega)).mpr (by omega))
      · rw [hdg] at hd'
        cases hd'
        exact z_nle (a := 1) (by omega) (by omega) (by omega)
  · right
    refine bad ?_ (fun d' hd' => ?_)
    · rcases hs with q | q
      · left
        rw [Int32.lt_iff_toInt_lt] at q ⊢
        have i1 : (48 : Int32).toInt = 48 := rfl
        have i2 : (49 : Int32).toInt = 49 := rfl
        omega
      · exact Or.inr q
    · rw [hdg] at hd'
      cases hd'
      decide
theorem x_number_loop {n : Nat} {u0 w0 : mg_Rg} (H : X0 n u0 w0) (x1 x2 : Int32) : ∀ r m m' k v p, ∀ u w : mg_Rg, k + r = 5 → r < m → r < m' → 1 ≤ k → v + 1 ≤ 10 ^ k → XS n p u w u0 w0 → ∃ v' p' u' w', X_readNumber_L6 m x1 x2 5 0 (nN v) (nN k) u = some (nN v', u') ∧ M_readsNumber_L11 m' (nN v) (nN k) w = some (nN v', w') ∧ XS n p' u' w' u0 w0 ∧ p ≤ p' ∧ v ≤ v' ∧ v' + 1 ≤ 10 ^ 5 ∧ u' 40 = u 40 ∧ w' 49 = w 49 := by
  intro r
  induction r with
  | zero =>
    intro m m' k v p u w hk hm hm' hk1 hv S
    cases m with
    | zero => omega
    | succ m =>
      cases m' with
      | zero => omega
      | succ m' =>
        have e : k = 5 := by omega
        subst e
        refine ⟨v, p, u, w, ?_, ?_, S, Nat.le_refl _, Nat.le_refl _, hv, rfl, rfl⟩
        · unfold X_readNumber_L6
          rw [if_pos (by decide)]
        · unfold M_readsNumber_L11
          rw [S.2.2.2.2.2, if_pos rfl, if_pos (by decide)]
  | succ r ih =>
    intro m m' k v p u w hk hm hm' hk1 hv S
    cases m with
    | zero => omega
    | succ m =>
      cases m' with
      | zero => omega
      | succ m' =>
        obtain ⟨hX, hM, hp, h3, h13, h14⟩ := id S
        have hkm : k < 5 := by omega
        have c1 : ¬ (5 : Int32) ≤ nN k := z_nle (a := 5) (by omega) (by omega) hkm
        have c2 : ¬ nN k = 0 := z_eq0 hk1 (by omega)
        have stop : s_ch (w0 47) n p < 48 ∨ 57 < s_ch (w0 47) n p → (∀ d, X_digitHere u = some d → ¬ 0 ≤ d) → ∃ v' p' u' w', X_readNumber_L6 (m + 1) x1 x2 5 0 (nN v) (nN k) u = some (nN v', u') ∧ M_readsNumber_L11 (m' + 1) (nN v) (nN k) w = some (nN v', w') ∧ XS n p' u' w' u0 w0 ∧ p ≤ p' ∧ v ≤ v' ∧ v' + 1 ≤ 10 ^ 5 ∧ u' 40 = u 40 ∧ w' 49 = w 49 := by
          intro hs hd
          have hp10 : 10 ^ k ≤ 10 ^ 5 := Nat.pow_le_pow_right (by omega) (by omega)
          refine ⟨v, p, u, w, ?_, ?_, S, Nat.le_refl _, Nat.le_refl _, Nat.le_trans hv hp10, rfl, rfl⟩
          · unfold X_readNumber_L6
            rw [if_neg c1]
            rcases x_digit H hX hp h3 with ⟨d, -, -, -, e⟩ | ⟨-, e⟩
            · rw [e]
              simp only [Option.bind_some]
              rw [if_neg c2, if_neg (hd _ e)]
            · rw [e]
              simp only [Option.bind_some]
              rw [if_neg c2, if_neg (hd _ e)]
          · unfold M_readsNumber_L11
            rw [h14, if_pos rfl, if_neg c1, x_here H hM hp h13]
            simp only [Option.bind_some]
            rw [z_min_no hs]
            rfl
        rcases x_digit H hX hp h3 with ⟨d, hd, hpn, hc, hdg⟩ | ⟨hs, hdg⟩
        · by_cases hla : 0 ≤ d
          · have hr : ¬ (nN (48 + d) < 48 ∨ 57 < nN (48 + d)) := by
              rintro (q | q)
              · exact absurd ((z_lt (b := 48) (by omega) (by omega)).mp q) (by omega)
              · exact absurd ((z_lt (a := 57) (by omega) (by omega)).mp q) (by omega)
            obtain ⟨w1, b1, b2, b3, b4, b5⟩ := x_rd_yes H hM hpn h13 h14 hc hr
            have hpow : 10 ^ (k + 1) = 10 ^ k * 10 := Nat.pow_succ 10 k
            obtain ⟨v', p', u', w', e1, e2, e3, e4, e5, e6, e7, e8⟩ := ih m m' (k + 1) (10 * v + d) (p + 1) (mg_up u 37 3 (nN (p + 1))) w1 (by omega) (by omega) (by omega) (by omega) (by omega) ⟨XF_at _ hX, b2, by omega, by rw [zu_eq], b3, b4⟩
            refine ⟨v', p', u', w', ?_, ?_, e3, by omega, by omega, e6, by rw [e7, z_up_ne (by decide)], e8.trans b5⟩
            · unfold X_readNumber_L6
              rw [if_neg c1, hdg]
              simp only [Option.bind_some]
              rw [if_neg c2, if_pos (show 0 ≤ nN d from (z_le (a := 0) (by omega) (by omega)).mpr hla), h3, zo_1, zo_1, show nN v * 10 = nN (10 * v) by rw [show (10 : Int32) = nN 10 from rfl, z_mulN, Nat.mul_comm], z_addN]
              exact e1
            · unfold M_readsNumber_L11
              rw [h14, if_pos rfl, if_neg c1, x_here H hM hp h13, hc]
              simp only [Option.bind_some]
              rw [z_min_yes hr]
              simp only [Option.bind_some]
              rw [if_neg (by decide), b1]
              simp only [Option.bind_some]
              rw [show (10 : Int32) * nN v = nN (10 * v) by rw [show (10 : Int32) = nN 10 from rfl, z_mulN], z_addN, zo_1]
              exact e2
          · refine stop ?_ (fun d' hd' => ?_)
            · rw [hc]
              exact Or.inl ((z_lt (b := 48) (by omega) (by omega)).mpr (by omega))
            · rw [hdg] at hd'
              cases hd'
              exact z_nle (a := 0) (by omega) (by omega) (by omega)
        · refine stop ?_ (fun d' hd' => ?_)
          · rcases hs with q | q
            · left
              rw [Int32.lt_iff_toInt_lt] at q ⊢
              have i1 : (48 : Int32).toInt = 48 := rfl
              have i2 : (48 : Int32).toInt = 48 := rfl
              omega
            · exact Or.inr q
          · rw [hdg] at hd'
            cases hd'
            decide
theorem x_number {n p e c : Nat} {u0 w0 u w : mg_Rg} (H : X0 n u0 w0) (he : e < 8) (hc13 : c < 13) (S : XS n p u w u0 w0) :
    (∃ v p' u' w', 1 ≤ v ∧ v ≤ 99999 ∧ X_readNumber (nN e) (nN c) 5 0 u = some (1, mg_up u' 40 (1 + e * 13 + c) (nN v)) ∧ M_readsNumber w = some (nN v, w') ∧ XS n p' u' w' u0 w0 ∧ p + 1 ≤ p' ∧ u' 40 = u 40 ∧ w' 49 = w 49) ∨
    (X_readNumber (nN e) (nN c) 5 0 u = some (0, mg_up u 40 (1 + e * 13 + c) 0) ∧ ∃ w', M_readsNumber w = some (0, w') ∧ WS n p w' w0 ∧ w' 49 = w 49) := by
  obtain ⟨hX, hM, hp, h3, h13, h14⟩ := id S
  have bad : s_ch (w0 47) n p < 49 ∨ 57 < s_ch (w0 47) n p → (∀ d, X_digitHere u = some d → ¬ (1 : Int32) ≤ d) → X_readNumber (nN e) (nN c) 5 0 u = some (0, mg_up u 40 (1 + e * 13 + c) 0) ∧ ∃ w', M_readsNumber w = some (0, w') ∧ WS n p w' w0 ∧ w' 49 = w 49 := by
    intro hs hd
    obtain ⟨w1, b1, b2, b3⟩ := x_rd_no H hM hp h13 h14 hs
    refine ⟨?_, w1, ?_, b2, b3⟩
    · have hl : X_readNumber_L6 mg_F (nN e) (nN c) 5 0 0 0 u = some (0, u) := by
        show X_readNumber_L6 (5999 + 1) _ _ _ _ _ _ _ = _
        unfold X_readNumber_L6
        rw [if_neg (by decide)]
        rcases x_digit H hX hp h3 with ⟨d, -, -, -, e⟩ | ⟨-, e⟩
        · rw [e]
          simp only [Option.bind_some]
          rw [if_pos trivial, if_neg (hd _ e)]
        · rw [e]
          simp only [Option.bind_some]
          rw [if_pos trivial, if_neg (hd _ e)]
      unfold X_readNumber
      rw [hl]
      simp only [Option.bind_some]
      rw [tp_39 he hc13]
      simp only [Option.bind_some]
      rw [if_pos (by decide)]
    · unfold M_readsNumber
      rw [b1]
      simp only [Option.bind_some]
      have hl : M_readsNumber_L11 mg_F 0 1 w1 = some (0, w1) := by
        show M_readsNumber_L11 (5999 + 1) _ _ _ = _
        unfold M_readsNumber_L11
        rw [b2.2.2.2, if_neg (by decide)]
      rw [hl]
      rfl
  rcases x_digit H hX hp h3 with ⟨d, hd, hpn, hc, hdg⟩ | ⟨hs, hdg⟩
  · by_cases hla : 1 ≤ d
    · left
      have hr : ¬ (nN (48 + d) < 49 ∨ 57 < nN (48 + d)) := by
        rintro (q | q)
        · exact absurd ((z_lt (b := 49) (by omega) (by omega)).mp q) (by omega)
        · exact absurd ((z_lt (a := 57) (by omega) (by omega)).mp q) (by omega)
      obtain ⟨w1, b1, b2, b3, b4, b5⟩ := x_rd_yes H hM hpn h13 h14 hc hr
      obtain ⟨v', p', u', w', e1, e2, e3, e4, e5, e6, e7, e8⟩ := x_number_loop H (nN e) (nN c) 4 5999 mg_F 1 d (p + 1) (mg_up u 37 3 (nN (p + 1))) w1 (by omega) (by omega) (by show 4 < 6000; omega) (by omega) (by omega) ⟨XF_at _ hX, b2, by omega, by rw [zu_eq], b3, b4⟩
      have hlim : v' ≤ 99999 := by
        have : (10 : Nat) ^ 5 ≤ 100000 := by decide
        omega
      refine ⟨v', p', u', w', by omega, hlim, ?_, ?_, e3, by omega, by rw [e7, z_up_ne (by decide)], e8.trans b5⟩
      · have hl : X_readNumber_L6 mg_F (nN e) (nN c) 5 0 0 0 u = some (nN v', u') := by
          show X_readNumber_L6 (5999 + 1) _ _ _ _ _ _ _ = _
          unfold X_readNumber_L6
          rw [if_neg (by decide), hdg]
          simp only [Option.bind_some]
          rw [if_pos trivial, if_pos (show (1 : Int32) ≤ nN d from (z_le (a := 1) (by omega) (by omega)).mpr hla), h3, zo_1, show (0 : Int32) * 10 + nN d = nN d by rw [Int32.zero_mul, Int32.zero_add]]
          exact e1
        unfold X_readNumber
        rw [hl]
        simp only [Option.bind_some]
        rw [tp_39 he hc13]
        simp only [Option.bind_some]
        rw [if_neg (z_nle0 (by omega) (by omega))]
      · unfold M_readsNumber
        rw [b1]
        simp only [Option.bind_some]
        rw [show M_readsNumber_L11 mg_F (nN d) 1 w1 = _ from e2]
        rfl
    · right
      refine bad ?_ (fun d' hd' => ?_)
      · rw [hc]
        exact Or.inl ((z_lt (b := 49) (by omega) (by omega)).mpr (by omega))
      · rw [hdg] at hd'
        cases hd'
        exact z_nle (a := 1) (by omega) (by omega) (by omega)
  · right
    refine bad ?_ (fun d' hd' => ?_)
    · rcases hs with q | q
      · left
        rw [Int32.lt_iff_toInt_lt] at q ⊢
        have i1 : (48 : Int32).toInt = 48 := rfl
        have i2 : (49 : Int32).toInt = 49 := rfl
        omega
      · exact Or.inr q
    · rw [hdg] at hd'
      cases hd'
      decide
