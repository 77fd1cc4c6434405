/-! THE WHOLE TEXT, both ways -/
theorem ER_cg {e b : Nat} {u u' w w' : mg_Rg} (hu : ∀ a, a ≠ 0 → a < 1 + e * 13 + 13 → u' 40 a = u 40 a) (hw : ∀ a, a < b + 14 → w' 49 a = w 49 a) (h : ER e b u w) : ER e b u' w' := by
  obtain ⟨h0, h1, h2, h3, k, k1, k2, k3, k4, k5⟩ := h
  refine ⟨by rw [hu _ (by omega) (by omega), hw _ (by omega)]; exact h0, by rw [hu _ (by omega) (by omega), hw _ (by omega)]; exact h1, by rw [hu _ (by omega) (by omega), hw _ (by omega)]; exact h2, by rw [hu _ (by omega) (by omega), hw _ (by omega)]; exact h3, k, k1, k2, by rw [hu _ (by omega) (by omega)]; exact k3, by rw [hw _ (by omega)]; exact k4, fun j hj => ?_⟩
  rw [hu _ (by omega) (by omega), hu _ (by omega) (by omega), hw _ (by omega), hw _ (by omega)]
  exact k5 j hj
theorem l19_0 (m : Nat) (x2 : Int32) (u : mg_Rg) : X_readAll_L19 (m + 1) 0 x2 u = some (0, u) := by
  unfold X_readAll_L19
  by_cases h : 60 ≤ x2
  · rw [if_pos h]
  · rw [if_neg h, if_pos rfl]
theorem l17_1 (m : Nat) (x1 : Int32) {w : mg_Rg} (h : w 42 14 = 1) : M_lodge_L17 (m + 1) x1 w = some (x1, w) := by
  unfold M_lodge_L17
  rw [h, if_neg (by decide)]
theorem l19_F (x2 : Int32) (u : mg_Rg) : ∀ m, 0 < m → X_readAll_L19 m 0 x2 u = some (0, u) := by
  intro m h
  cases m with
  | zero => omega
  | succ m => exact l19_0 m x2 u
theorem l17_F (x1 : Int32) {w : mg_Rg} (h : w 42 14 = 1) : ∀ m, 0 < m → M_lodge_L17 m x1 w = some (x1, w) := by
  intro m hm
  cases m with
  | zero => omega
  | succ m => exact l17_1 m x1 h
theorem x_F : 0 < mg_F := by decide
theorem x_all {n : Nat} {u0 w0 : mg_Rg} (H : X0 n u0 w0) : ∀ r m m' e p, ∀ u w : mg_Rg, e + r = 9 → r < m → r < m' → XS n p u w u0 w0 → u 40 0 = nN e → 1 ≤ e → 8 * e ≤ p + 1 → (∀ j < e, ER j (14 * j) u w) →
    (∃ N u' w', 1 ≤ N ∧ N ≤ 7 ∧ X_readAll_L19 m 1 (nN (e - 1)) u = some (1, u') ∧ M_lodge_L17 m' (nN e) w = some (nN N, w') ∧ XS n n u' w' u0 w0 ∧ u' 40 0 = nN N ∧ ∀ j < N, ER j (14 * j) u' w') ∨
    (∃ N p' u' w', X_readAll_L19 m 1 (nN (e - 1)) u = some (0, u') ∧ M_lodge_L17 m' (nN e) w = some (N, w') ∧ XF u' u0 ∧ MF w' w0 ∧ p' ≤ n ∧ u' 37 3 = nN p' ∧ w' 42 13 = nN p' ∧ (w' 42 14 = 1 ∨ (w' 42 14 = 0 ∧ p' < n))) := by
  have h60 := H.1
  intro r
  induction r with
  | zero =>
    intro m m' e p u w her hm hm' S h40 he1 h8 hER
    have := S.2.2.1
    omega
  | succ r ih =>
    intro m m' e p u w her hm hm' S h40 he1 h8 hER
    obtain ⟨hX, hM, hp, hat, h13, h14⟩ := id S
    have hlen : u 37 2 = nN n := (hX.2 2 (by decide)).trans H.2.1
    obtain ⟨m, rfl⟩ : ∃ k, m = k + 1 := ⟨m - 1, by omega⟩
    obtain ⟨m', rfl⟩ : ∃ k, m' = k + 1 := ⟨m' - 1, by omega⟩
    obtain ⟨m1, rfl⟩ : ∃ k, m = k + 1 := ⟨m - 1, by omega⟩
    obtain ⟨m1', rfl⟩ : ∃ k, m' = k + 1 := ⟨m' - 1, by omega⟩
    have c1 : ¬ (60 : Int32) ≤ nN (e - 1) := z_nle (a := 60) (by omega) (by omega) (by omega)
    have hcl : ∀ X, (if nN n ≤ nN p then some ((1 : Int32), u) else (X_take 59 u).bind fun q => if q.1 = 0 then X_readAll_L19 (m1 + 1) 0 (nN e) q.2 else (X_readEntry q.2).bind fun q2 => if q2.1 = 0 then X_readAll_L19 (m1 + 1) 0 (nN e) q2.2 else X_readAll_L19 (m1 + 1) 1 (nN e) q2.2) = X → X_readAll_L19 (m1 + 1 + 1) 1 (nN (e - 1)) u = X := by
      rintro X rfl
      show X_readAll_L19 ((m1 + 1) + 1) 1 (nN (e - 1)) u = _
      conv => lhs; unfold X_readAll_L19
      rw [if_neg c1, if_neg (by decide), hlen, hat, zo_1, show e - 1 + 1 = e by omega]
    by_cases hn : p = n
    · subst hn
      left
      refine ⟨e, u, w, he1, by omega, hcl _ (if_pos ((z_le (by omega) (by omega)).mpr (Nat.le_refl _))), ?_, S, h40, hER⟩
      unfold M_lodge_L17
      rw [h14, if_pos rfl, x_here H hM hp h13, show s_ch (w0 47) p p = -1 from if_neg (by omega)]
      simp only [Option.bind_some]
      rw [if_neg (by decide)]
    · have hpn : p < n := by omega
      have hle : ¬ nN n ≤ nN p := z_nle (by omega) (by omega) hpn
      by_cases hs : s_ch (w0 47) n p = 59
      · obtain ⟨t1, t2⟩ := x_take_yes H hX hp hat hs (by decide)
        have S1 : XS n (p + 1) (mg_up u 37 3 (nN (p + 1))) (mg_up w 42 13 (nN (p + 1))) u0 w0 := ⟨XF_at _ hX, MF_p _ hM, by omega, by rw [zu_eq], by rw [zu_eq], by rw [zu_ne (by decide)]; exact h14⟩
        have hml : M_lodge_L17 (m1' + 1 + 1) (nN e) w = (M_readsEntry (nN (14 * e)) (mg_up w 42 13 (nN (p + 1)))).bind fun y => M_lodge_L17 (m1' + 1) (nN (e + 1)) y := by
          conv => lhs; unfold M_lodge_L17
          rw [h14, if_pos rfl, x_here H hM hp h13, hs]
          simp only [Option.bind_some]
          rw [if_pos trivial, h13, zo_1, zo_1, show (14 : Int32) * nN e = nN (14 * e) by rw [show (14 : Int32) = nN 14 from rfl, z_mulN]]
        rcases x_entry (e := e) H (by omega) S1 (by rw [z_up_ne (by decide)]; exact h40) with ⟨p', u', w', e1, e2, e3, e4, e5, e6, e7, e8⟩ | ⟨p', u', w', e1, e2, e3, e4, e5⟩
        · have hER2 : ∀ j < e + 1, ER j (14 * j) u' w' := fun j hj => by
            by_cases h : j = e
            · subst h
              exact e5
            · exact ER_cg (fun a a0 ha => by rw [e7 a a0 (by omega), z_up_ne (by decide)]) (fun a ha => by rw [e8 a (by omega), z_up_ne (by decide)]) (hER j (by omega))
          have hc2 : X_readAll_L19 (m1 + 1 + 1) 1 (nN (e - 1)) u = X_readAll_L19 (m1 + 1) 1 (nN e) u' := by
            refine hcl _ ?_
            rw [if_neg hle, t2]
            simp only [Option.bind_some]
            rw [if_neg (by decide), e1]
            simp only [Option.bind_some]
            rw [if_neg (by decide)]
          have hm2 : M_lodge_L17 (m1' + 1 + 1) (nN e) w = M_lodge_L17 (m1' + 1) (nN (e + 1)) w' := by
            rw [hml, e2]
            rfl
          rw [hc2, hm2]
          have := ih (m1 + 1) (m1' + 1) (e + 1) p' u' w' (by omega) (by omega) (by omega) e3 e6 (by omega) (by omega) hER2
          rw [show e + 1 - 1 = e by omega] at this
          exact this
        · right
          refine ⟨nN (e + 1), p', u', w', hcl _ ?_, ?_, e3, e5.1, e5.2.1, e4, e5.2.2.1, Or.inl e5.2.2.2⟩
          · rw [if_neg hle, t2]
            simp only [Option.bind_some]
            rw [if_neg (by decide), e1]
            simp only [Option.bind_some]
            rw [if_pos trivial]
            exact l19_0 m1 _ _
          · rw [hml, e2]
            exact l17_1 m1' _ e5.2.2.2
      · right
        refine ⟨nN e, p, u, w, hcl _ ?_, ?_, hX, hM, hp, hat, h13, Or.inr ⟨h14, hpn⟩⟩
        · rw [if_neg hle, x_take_no H hX hp hat hs]
          simp only [Option.bind_some]
          rw [if_pos trivial]
          exact l19_0 m1 _ _
        · unfold M_lodge_L17
          rw [h14, if_pos rfl, x_here H hM hp h13]
          simp only [Option.bind_some]
          rw [if_neg hs]
/-- the reference's reading, as one -/
def R_all (w : mg_Rg) : Option (Int32 × mg_Rg) := (M_readsEntry 0 (mg_up (mg_up w 42 13 0) 42 14 0)).bind fun y => M_lodge_L17 mg_F 1 y
theorem x_text {n : Nat} {u w : mg_Rg} (H : X0 n u w) :
    (∃ N u' w', 1 ≤ N ∧ N ≤ 7 ∧ X_readAll u = some (1, mg_up u' 37 2 0) ∧ R_all w = some (nN N, w') ∧ XF u' u ∧ MF w' w ∧ w' 42 13 = nN n ∧ w' 42 14 = 0 ∧ u' 40 0 = nN N ∧ ∀ j < N, ER j (14 * j) u' w') ∨
    (∃ N p' u' w', X_readAll u = some (0, mg_up (mg_up u' 37 4 (nN p')) 37 2 0) ∧ R_all w = some (N, w') ∧ XF u' u ∧ MF w' w ∧ p' ≤ n ∧ w' 42 13 = nN p' ∧ (w' 42 14 = 1 ∨ (w' 42 14 = 0 ∧ p' < n))) := by
  have S0 : XS n 0 (mg_up (mg_up u 37 3 0) 40 0 0) (mg_up (mg_up w 42 13 0) 42 14 0) u w := by
    refine ⟨XF_40 _ _ (XF_at _ (XF.refl u)), ⟨fun k k1 k2 => by rw [z_up_ne k1, z_up_ne k1], fun i i1 i2 => by rw [zu_ne i2, zu_ne i1]⟩, Nat.zero_le _, by rw [z_up_ne (by decide), zu_eq]; rfl, by rw [zu_ne (by decide), zu_eq]; rfl, by rw [zu_eq]⟩
  have z0 : nN (1 - 1) = 0 := rfl
  have z1 : nN 1 = 1 := rfl
  have hcl : T_clear_39 (mg_up u 37 3 0) = some (mg_up (mg_up u 37 3 0) 40 0 0) := rfl
  rcases x_entry (e := 0) H (by omega) S0 (by rw [zu_eq]; rfl) with ⟨p', u', w', e1, e2, e3, e4, e5, e6, e7, e8⟩ | ⟨p', u', w', e1, e2, e3, e4, e5⟩
  · have e2 : M_readsEntry 0 (mg_up (mg_up w 42 13 0) 42 14 0) = some w' := e2
    rcases x_all H 8 mg_F mg_F 1 p' u' w' (by omega) (by show 8 < 6000; omega) (by show 8 < 6000; omega) e3 e6 (by omega) (by omega) (fun j hj => by
      have : j = 0 := by omega
      subst this
      exact e5) with ⟨N, u2, w2, f1, f2, f3, f4, f5, f6, f7⟩ | ⟨N, p2, u2, w2, f1, f2, f3, f4, f5, f6, f7, f8⟩
    · left
      rw [z0] at f3
      rw [z1] at f4
      refine ⟨N, u2, w2, f1, f2, ?_, ?_, f5.1, f5.2.1, f5.2.2.2.2.1, f5.2.2.2.2.2, f6, f7⟩
      · unfold X_readAll
        rw [hcl]
        simp only [Option.bind_some]
        rw [e1]
        simp only [Option.bind_some]
        rw [f3]
        simp only [Option.bind_some]
        rw [if_neg (by decide), if_pos (by decide)]
      · unfold R_all
        rw [e2]
        simp only [Option.bind_some]
        exact f4
    · right
      rw [z0] at f1
      rw [z1] at f2
      refine ⟨N, p2, u2, w2, ?_, ?_, f3, f4, f5, f7, f8⟩
      · unfold X_readAll
        rw [hcl]
        simp only [Option.bind_some]
        rw [e1]
        simp only [Option.bind_some]
        rw [f1]
        simp only [Option.bind_some]
        rw [if_pos trivial, if_pos (by decide), f6]
      · unfold R_all
        rw [e2]
        simp only [Option.bind_some]
        exact f2
  · have e2 : M_readsEntry 0 (mg_up (mg_up w 42 13 0) 42 14 0) = some w' := e2
    right
    refine ⟨1, p', u', w', ?_, ?_, e3, e5.1, e5.2.1, e5.2.2.1, Or.inl e5.2.2.2⟩
    · unfold X_readAll
      rw [hcl]
      simp only [Option.bind_some]
      rw [e1]
      simp only [Option.bind_some]
      rw [l19_F 0 u' mg_F x_F]
      simp only [Option.bind_some]
      rw [if_pos trivial, if_pos (by decide), e4]
    · unfold R_all
      rw [e2]
      simp only [Option.bind_some]
      exact l17_F 1 e5.2.2.2 mg_F x_F
