/-! ONE ENTRY, both ways -/
def Q_6 (v : Int32) (u : mg_Rg) : Option (Int32 × mg_Rg) := (X_readChoice v 35 3 u).bind fun p => if p.1 = 0 then some (0, p.2) else some (1, p.2)
def Q_5 (v : Int32) (u : mg_Rg) : Option (Int32 × mg_Rg) := (X_readChoice v 33 2 u).bind fun p => if p.1 = 0 then some (0, p.2) else Q_6 v p.2
def Q_4 (v : Int32) (u : mg_Rg) : Option (Int32 × mg_Rg) := (X_readParts v u).bind fun p => if p.1 = 0 then some (0, p.2) else Q_5 v p.2
def Q_3 (v : Int32) (u : mg_Rg) : Option (Int32 × mg_Rg) := (X_take 64 u).bind fun p => if p.1 = 0 then some (0, p.2) else Q_4 v p.2
def Q_2 (v : Int32) (u : mg_Rg) : Option (Int32 × mg_Rg) := (X_readNumber v 1 5 0 u).bind fun p => if p.1 = 0 then some (0, p.2) else Q_3 v p.2
def Q_1 (v : Int32) (u : mg_Rg) : Option (Int32 × mg_Rg) := (X_take 120 u).bind fun p => if p.1 = 0 then some (0, p.2) else Q_2 v p.2
theorem X_entry_eq (u : mg_Rg) : X_readEntry u = (T_add_39 u).bind fun p => (T_put_39 p.1 3 (-1) p.2).bind fun u1 => (X_readNumber p.1 0 4 1 u1).bind fun p2 => if p2.1 = 0 then some (0, p2.2) else Q_1 p.1 p2.2 := by
  unfold X_readEntry
  rfl
/-- both go on, or both have found an error at the same place -/
def EO (n p0 : Nat) (u0 w0 : mg_Rg) (C : Option (Int32 × mg_Rg)) (M : Option mg_Rg) (Ok : mg_Rg → mg_Rg → Prop) : Prop :=
  (∃ p' u' w', C = some (1, u') ∧ M = some w' ∧ XS n p' u' w' u0 w0 ∧ p0 ≤ p' ∧ Ok u' w') ∨ (∃ p' u' w', C = some (0, u') ∧ M = some w' ∧ XF u' u0 ∧ u' 37 3 = nN p' ∧ WS n p' w' w0)
theorem EO_le {n p0 p1 : Nat} {u0 w0 : mg_Rg} {C C' : Option (Int32 × mg_Rg)} {M M' : Option mg_Rg} {Ok Ok' : mg_Rg → mg_Rg → Prop} (hC : C' = C) (hM : M' = M) (hp : p1 ≤ p0) (hO : ∀ u' w', Ok u' w' → Ok' u' w') (h : EO n p0 u0 w0 C M Ok) : EO n p1 u0 w0 C' M' Ok' := by
  rcases h with ⟨p', u', w', h1, h2, h3, h4, h5⟩ | ⟨p', u', w', h1, h2, h3, h4, h5⟩
  · exact Or.inl ⟨p', u', w', hC.trans h1, hM.trans h2, h3, by omega, hO u' w' h5⟩
  · exact Or.inr ⟨p', u', w', hC.trans h1, hM.trans h2, h3, h4, h5⟩
theorem x_q6 {n p e b : Nat} {u0 w0 u w : mg_Rg} {k : Int32} (H : X0 n u0 w0) (he : e < 8) (hb : b + 13 < 840) (S : XS n p u w u0 w0) (h3 : u 40 (1 + e * 13 + 3) = w 49 (b + 11)) :
    EO n p u0 w0 (Q_6 (nN e) u) (R_t3 (nN b) k w) (fun u' w' => u' 40 (1 + e * 13 + 3) = w' 49 (b + 11) ∧ w' 49 (b + 12) = k ∧ (∀ a, a ≠ 1 + e * 13 + 3 → u' 40 a = u 40 a) ∧ ∀ a, a ≠ b + 11 → a ≠ b + 12 → w' 49 a = w 49 a) := by
  obtain ⟨hX, hM, hp, hat, h13, h14⟩ := id S
  by_cases hs : s_ch (w0 47) n p = 35
  · obtain ⟨t1, t2⟩ := x_take_yes H hX hp hat hs (by decide)
    have hX1 : XF (mg_up u 37 3 (nN (p + 1))) u0 := XF_at _ hX
    have hM1 : MF (mg_up w 42 13 (nN (p + 1))) w0 := MF_p _ hM
    rcases x_rdig (e := e) (c := 3) H he (by omega) hX1 (p := p + 1) (by omega) (by rw [zu_eq]) with ⟨d, d1, d2, d3, d4⟩ | ⟨d1, d2⟩
    · obtain ⟨w1, b1, b2, b3, b4, b5⟩ := x_rd_yes (w := mg_up w 42 13 (nN (p + 1))) H hM1 d2 (by rw [zu_eq]) (by rw [zu_ne (by decide)]; exact h14) d3 (x_rng d1)
      left
      refine ⟨p + 1 + 1, mg_up (mg_up (mg_up u 37 3 (nN (p + 1))) 40 (1 + e * 13 + 3) (nN d)) 37 3 (nN (p + 1 + 1)), mg_up (mg_up w1 49 (b + 11) (nN d)) 49 (b + 12) k, ?_, ?_, ⟨XF_at _ (XF_40 _ _ hX1), MF_49 _ _ (MF_49 _ _ b2), by omega, by rw [zu_eq], by rw [z_up_ne (by decide), z_up_ne (by decide)]; exact b3, by rw [z_up_ne (by decide), z_up_ne (by decide)]; exact b4⟩, by omega, ?_, by rw [zu_eq], fun a ha => by rw [z_up_ne (by decide), zu_ne ha, z_up_ne (by decide)], fun a a1 a2 => by rw [zu_ne a2, zu_ne a1, b5, z_up_ne (by decide)]⟩
      · unfold Q_6 X_readChoice
        rw [t2]
        simp only [Option.bind_some]
        rw [if_neg (by decide), show X_readDigit (nN e) 3 (mg_up u 37 3 (nN (p + 1))) = _ from d4]
        simp only [Option.bind_some]
        rw [if_neg (by decide)]
        simp only [Option.bind_some]
        rw [if_neg (by decide)]
      · unfold R_t3
        rw [h14, if_pos rfl, x_here H hM hp h13, hs]
        simp only [Option.bind_some]
        rw [if_pos trivial, h13, zo_1, b1]
        simp only [Option.bind_some]
        rw [zo_11, zo_12, z_g840 (by omega), z_g840 (by omega), z_nat (by omega), z_nat (by omega)]
      · rw [z_up_ne (by decide), zu_eq, zu_ne (by omega), zu_eq]
    · obtain ⟨w1, b1, b2, b3⟩ := x_rd_no (w := mg_up w 42 13 (nN (p + 1))) H hM1 (p := p + 1) (by omega) (by rw [zu_eq]) (by rw [zu_ne (by decide)]; exact h14) d1
      right
      refine ⟨p + 1, mg_up u 37 3 (nN (p + 1)), mg_up (mg_up w1 49 (b + 11) 0) 49 (b + 12) k, ?_, ?_, hX1, by rw [zu_eq], WS_49 _ _ (WS_49 _ _ b2)⟩
      · unfold Q_6 X_readChoice
        rw [t2]
        simp only [Option.bind_some]
        rw [if_neg (by decide), show X_readDigit (nN e) 3 (mg_up u 37 3 (nN (p + 1))) = _ from d2]
        simp only [Option.bind_some]
        rw [if_pos trivial]
        simp only [Option.bind_some]
        rw [if_pos trivial]
      · unfold R_t3
        rw [h14, if_pos rfl, x_here H hM hp h13, hs]
        simp only [Option.bind_some]
        rw [if_pos trivial, h13, zo_1, b1]
        simp only [Option.bind_some]
        rw [zo_11, zo_12, z_g840 (by omega), z_g840 (by omega), z_nat (by omega), z_nat (by omega)]
  · left
    refine ⟨p, u, mg_up w 49 (b + 12) k, ?_, ?_, XS_49 _ _ S, Nat.le_refl _, by rw [zu_ne (by omega)]; exact h3, by rw [zu_eq], fun _ _ => rfl, fun a a1 a2 => zu_ne a2⟩
    · unfold Q_6 X_readChoice
      rw [x_take_no H hX hp hat hs]
      simp only [Option.bind_some]
      rw [if_pos trivial]
      simp only [Option.bind_some]
      rw [if_neg (by decide)]
    · unfold R_t3
      rw [h14, if_pos rfl, x_here H hM hp h13]
      simp only [Option.bind_some]
      rw [if_neg hs, zo_12, z_g840 (by omega), z_nat (by omega)]
theorem x_q5 {n p e b : Nat} {u0 w0 u w : mg_Rg} {k : Int32} (H : X0 n u0 w0) (he : e < 8) (hb : b + 13 < 840) (S : XS n p u w u0 w0) (h2 : u 40 (1 + e * 13 + 2) = 0) (h3 : u 40 (1 + e * 13 + 3) = -1) :
    EO n p u0 w0 (Q_5 (nN e) u) (R_t2 (nN b) k w) (fun u' w' => u' 40 (1 + e * 13 + 2) = w' 49 (b + 10) ∧ u' 40 (1 + e * 13 + 3) = w' 49 (b + 11) ∧ w' 49 (b + 12) = k ∧ (∀ a, a ≠ 1 + e * 13 + 2 → a ≠ 1 + e * 13 + 3 → u' 40 a = u 40 a) ∧ ∀ a, a < b + 10 → w' 49 a = w 49 a) := by
  obtain ⟨y, hy⟩ : ∃ y, y = mg_up (mg_up w 49 (b + 10) 0) 49 (b + 11) (-1) := ⟨_, rfl⟩
  have Sy : XS n p u y u0 w0 := by
    rw [hy]
    exact XS_49 _ _ (XS_49 _ _ S)
  have y10 : y 49 (b + 10) = 0 := by rw [hy, zu_ne (by omega), zu_eq]
  have y11 : y 49 (b + 11) = -1 := by rw [hy, zu_eq]
  have yo : ∀ a, a ≠ b + 10 → a ≠ b + 11 → y 49 a = w 49 a := fun a a1 a2 => by rw [hy, zu_ne a2, zu_ne a1]
  obtain ⟨hX, hM, hp, hat, h13, h14⟩ := id Sy
  have hR : ∀ X, ((M_here y).bind fun c => if c = 33 then (M_readsDigit 48 57 (mg_up y 42 13 (nN (p + 1)))).bind fun q => R_t3 (nN b) k (mg_up q.2 49 (b + 10) q.1) else R_t3 (nN b) k y) = X → R_t2 (nN b) k w = X := by
    rintro X rfl
    unfold R_t2
    rw [zo_10, zo_11, z_g840 (by omega), z_g840 (by omega), z_nat (by omega), z_nat (by omega), ← hy, h14, if_pos rfl, h13, zo_1]
    simp only [show (nN (b + 10) < 0 ∨ 840 ≤ b + 10) = False from eq_false (fun q => q.elim (z_nn (by omega)) (by omega)), ↓reduceIte]
  by_cases hs : s_ch (w0 47) n p = 33
  · obtain ⟨t1, t2⟩ := x_take_yes H hX hp hat hs (by decide)
    have hX1 : XF (mg_up u 37 3 (nN (p + 1))) u0 := XF_at _ hX
    have hM1 : MF (mg_up y 42 13 (nN (p + 1))) w0 := MF_p _ hM
    rcases x_rdig (e := e) (c := 2) H he (by omega) hX1 (p := p + 1) (by omega) (by rw [zu_eq]) with ⟨d, d1, d2, d3, d4⟩ | ⟨d1, d2⟩
    · obtain ⟨w1, b1, b2, b3, b4, b5⟩ := x_rd_yes (w := mg_up y 42 13 (nN (p + 1))) H hM1 d2 (by rw [zu_eq]) (by rw [zu_ne (by decide)]; exact h14) d3 (x_rng d1)
      have b5' : ∀ a, w1 49 a = y 49 a := fun a => by rw [b5, z_up_ne (by decide)]
      have S2 : XS n (p + 1 + 1) (mg_up (mg_up (mg_up u 37 3 (nN (p + 1))) 40 (1 + e * 13 + 2) (nN d)) 37 3 (nN (p + 1 + 1))) (mg_up w1 49 (b + 10) (nN d)) u0 w0 := ⟨XF_at _ (XF_40 _ _ hX1), MF_49 _ _ b2, by omega, by rw [zu_eq], by rw [z_up_ne (by decide)]; exact b3, by rw [z_up_ne (by decide)]; exact b4⟩
      refine EO_le ?_ ?_ (by omega) ?_ (x_q6 (k := k) H he hb S2 (by rw [z_up_ne (by decide), zu_ne (by omega), z_up_ne (by decide), h3, zu_ne (by omega), b5', y11]))
      · unfold Q_5 X_readChoice
        rw [t2]
        simp only [Option.bind_some]
        rw [if_neg (by decide), show X_readDigit (nN e) 2 (mg_up u 37 3 (nN (p + 1))) = _ from d4]
        simp only [Option.bind_some]
        rw [if_neg (by decide)]
        simp only [Option.bind_some]
        rw [if_neg (by decide)]
      · refine hR _ ?_
        rw [x_here H hM hp h13, hs]
        simp only [Option.bind_some]
        rw [if_pos trivial, b1]
        rfl
      · rintro u' w' ⟨o1, o2, o3, o4⟩
        refine ⟨?_, o1, o2, fun a a1 a2 => ?_, fun a ha => ?_⟩
        · rw [o3 _ (by omega), o4 _ (by omega) (by omega), z_up_ne (by decide), zu_eq, zu_eq]
        · rw [o3 a a2, z_up_ne (by decide), zu_ne a1, z_up_ne (by decide)]
        · rw [o4 a (by omega) (by omega), zu_ne (by omega), b5', yo a (by omega) (by omega)]
    · obtain ⟨w1, b1, b2, b3⟩ := x_rd_no (w := mg_up y 42 13 (nN (p + 1))) H hM1 (p := p + 1) (by omega) (by rw [zu_eq]) (by rw [zu_ne (by decide)]; exact h14) d1
      obtain ⟨w', c1, c2⟩ := t3_wr (k := k) hb (WS_49 (b + 10) 0 b2)
      right
      refine ⟨p + 1, mg_up u 37 3 (nN (p + 1)), w', ?_, ?_, hX1, by rw [zu_eq], c2⟩
      · unfold Q_5 X_readChoice
        rw [t2]
        simp only [Option.bind_some]
        rw [if_neg (by decide), show X_readDigit (nN e) 2 (mg_up u 37 3 (nN (p + 1))) = _ from d2]
        simp only [Option.bind_some]
        rw [if_pos trivial]
        simp only [Option.bind_some]
        rw [if_pos trivial]
      · refine hR _ ?_
        rw [x_here H hM hp h13, hs]
        simp only [Option.bind_some]
        rw [if_pos trivial, b1]
        exact c1
  · refine EO_le ?_ ?_ (Nat.le_refl _) ?_ (x_q6 (k := k) H he hb Sy (by rw [h3, y11]))
    · unfold Q_5 X_readChoice
      rw [x_take_no H hX hp hat hs]
      simp only [Option.bind_some]
      rw [if_pos trivial]
      simp only [Option.bind_some]
      rw [if_neg (by decide)]
    · refine hR _ ?_
      rw [x_here H hM hp h13]
      simp only [Option.bind_some]
      rw [if_neg hs]
    · rintro u' w' ⟨o1, o2, o3, o4⟩
      refine ⟨?_, o1, o2, fun a a1 a2 => o3 a a2, fun a ha => ?_⟩
      · rw [o3 _ (by omega), o4 _ (by omega) (by omega), h2, y10]
      · rw [o4 a (by omega) (by omega), yo a (by omega) (by omega)]
/-- what both hold of an entry, but for code and quantity -/
def ER4 (e b : Nat) (u w u' w' : mg_Rg) : Prop := u' 40 (1 + e * 13 + 2) = w' 49 (b + 10) ∧ u' 40 (1 + e * 13 + 3) = w' 49 (b + 11) ∧ (∃ k, 1 ≤ k ∧ k ≤ 4 ∧ u' 40 (1 + e * 13 + 4) = nN k ∧ w' 49 (b + 12) = nN k ∧ ∀ j < k, u' 40 (1 + e * 13 + 5 + 2 * j) = w' 49 (b + 2 + 2 * j) ∧ u' 40 (1 + e * 13 + 5 + 2 * j + 1) = w' 49 (b + 3 + 2 * j)) ∧
  (∀ a, a < 1 + e * 13 + 2 → u' 40 a = u 40 a) ∧ ∀ a, a < b + 2 → w' 49 a = w 49 a
theorem x_q4 {n p e b : Nat} {u0 w0 u w : mg_Rg} (H : X0 n u0 w0) (he : e < 8) (hb : b + 13 < 840) (S : XS n p u w u0 w0) (h2 : u 40 (1 + e * 13 + 2) = 0) (h3 : u 40 (1 + e * 13 + 3) = -1) :
    EO n (p + 3) u0 w0 (Q_4 (nN e) u) ((M_readsEntry_L60 mg_F (nN b) 0 1 w).bind fun q => R_t2 (nN b) q.1 q.2) (ER4 e b u w) := by
  rcases x_parts H he hb 4 5999 5999 0 p u w (by omega) (by omega) (by omega) (by omega) S with ⟨k, p', q, u', w', q1, q2, q3, q4, q5, q6, q7, q8, q9, q10, q11⟩ | ⟨p', u', k', w', q1, q2, q3, q4, q5⟩
  · have hc : X_readParts (nN e) u = some (1, u') := by
      unfold X_readParts
      rw [show X_readParts_L2 mg_F (nN e) 0 u = some q from (x_parts_0 5999 (nN e) u).trans q3]
      rcases q4 with rfl | rfl <;> rfl
    refine EO_le ?_ ?_ q7 ?_ (x_q5 (k := nN k) H he hb q6 (by rw [q10 _ (by omega)]; exact h2) (by rw [q10 _ (by omega)]; exact h3))
    · unfold Q_4
      rw [hc]
      simp only [Option.bind_some]
      rw [if_neg (by decide)]
    · rw [show M_readsEntry_L60 mg_F (nN b) 0 1 w = _ from q5]
      rfl
    · rintro u'' w'' ⟨o1, o2, o3, o4, o5⟩
      refine ⟨o1, o2, ⟨k, q1, q2, by rw [o4 _ (by omega) (by omega)]; exact q8, o3, fun j hj => ?_⟩, fun a ha => by rw [o4 a (by omega) (by omega), q10 a (by omega)], fun a ha => by rw [o5 a (by omega), q11 a (by omega)]⟩
      rw [o4 _ (by omega) (by omega), o4 _ (by omega) (by omega), o5 _ (by omega), o5 _ (by omega)]
      exact q9 j (by omega) hj
  · obtain ⟨w'', c1, c2⟩ := t2_wr (k := k') hb q5
    right
    refine ⟨p', u', w'', ?_, ?_, q3, q4, c2⟩
    · unfold Q_4 X_readParts
      rw [show X_readParts_L2 mg_F (nN e) 0 u = _ from (x_parts_0 5999 (nN e) u).trans q1]
      simp only [Option.bind_some]
      rw [if_pos trivial]
    · rw [show M_readsEntry_L60 mg_F (nN b) 0 1 w = _ from q2]
      exact c1
theorem x_q3 {n p e b : Nat} {u0 w0 u w : mg_Rg} (H : X0 n u0 w0) (he : e < 8) (hb : b + 13 < 840) (S : XS n p u w u0 w0) (h2 : u 40 (1 + e * 13 + 2) = 0) (h3 : u 40 (1 + e * 13 + 3) = -1) :
    EO n (p + 4) u0 w0 (Q_3 (nN e) u) (R_t1 (nN b) w) (ER4 e b u w) := by
  obtain ⟨hX, hM, hp, hat, h13, h14⟩ := id S
  by_cases hs : s_ch (w0 47) n p = 64
  · obtain ⟨t1, t2⟩ := x_take_yes H hX hp hat hs (by decide)
    obtain ⟨w1, f1, f2, f3, f4, f5⟩ := x_reads_yes H hM t1 h13 h14 hs
    have S1 : XS n (p + 1) (mg_up u 37 3 (nN (p + 1))) w1 u0 w0 := ⟨XF_at _ hX, f2, by omega, by rw [zu_eq], f3, f4⟩
    refine EO_le ?_ ?_ (by omega) ?_ (x_q4 H he hb S1 (by rw [z_up_ne (by decide)]; exact h2) (by rw [z_up_ne (by decide)]; exact h3))
    · unfold Q_3
      rw [t2]
      simp only [Option.bind_some]
      rw [if_neg (by decide)]
    · unfold R_t1
      rw [f1]
      simp only [Option.bind_some]
      rw [f4, if_pos rfl]
    · rintro u' w' ⟨o1, o2, o3, o4, o5⟩
      exact ⟨o1, o2, o3, fun a ha => by rw [o4 a ha, z_up_ne (by decide)], fun a ha => by rw [o5 a ha, f5]⟩
  · obtain ⟨w1, f1, f2, f3⟩ := x_reads_no H hM hp h13 h14 hs
    obtain ⟨w', c1, c2⟩ := t2_wr (k := 0) hb f2
    right
    refine ⟨p, u, w', ?_, ?_, hX, hat, c2⟩
    · unfold Q_3
      rw [x_take_no H hX hp hat hs]
      simp only [Option.bind_some]
      rw [if_pos trivial]
    · unfold R_t1
      rw [f1]
      simp only [Option.bind_some]
      rw [f2.2.2.2, if_neg (by decide), show M_readsEntry_L60 mg_F (nN b) 0 0 w1 = _ from l60_0 5999 (nN b) 0 w1]
      exact c1
/-- what both hold of an entry -/
def ER (e b : Nat) (u w : mg_Rg) : Prop := u 40 (1 + e * 13) = w 49 b ∧ u 40 (1 + e * 13 + 1) = w 49 (b + 1) ∧ u 40 (1 + e * 13 + 2) = w 49 (b + 10) ∧ u 40 (1 + e * 13 + 3) = w 49 (b + 11) ∧ ∃ k, 1 ≤ k ∧ k ≤ 4 ∧ u 40 (1 + e * 13 + 4) = nN k ∧ w 49 (b + 12) = nN k ∧ ∀ j < k, u 40 (1 + e * 13 + 5 + 2 * j) = w 49 (b + 2 + 2 * j) ∧ u 40 (1 + e * 13 + 5 + 2 * j + 1) = w 49 (b + 3 + 2 * j)
theorem x_q2 {n p e b : Nat} {u0 w0 u w : mg_Rg} (H : X0 n u0 w0) (he : e < 8) (hb : b + 13 < 840) (S : XS n p u w u0 w0) (h0 : u 40 (1 + e * 13) = w 49 b) (h2 : u 40 (1 + e * 13 + 2) = 0) (h3 : u 40 (1 + e * 13 + 3) = -1) :
    EO n (p + 5) u0 w0 (Q_2 (nN e) u) (R_n (nN b) w) (fun u' w' => ER e b u' w' ∧ (∀ a, a < 1 + e * 13 → u' 40 a = u 40 a) ∧ ∀ a, a < b → w' 49 a = w 49 a) := by
  obtain ⟨hX, hM, hp, hat, h13, h14⟩ := id S
  rcases x_number (e := e) (c := 1) H he (by omega) S with ⟨v, p3, u3, w3, v1, v2, g1, g2, g3, g4, g5, g6⟩ | ⟨g1, w3, g2, g3, g4⟩
  · have S1 := XS_49 (b + 1) (nN v) (XS_40 (1 + e * 13 + 1) (nN v) g3)
    refine EO_le ?_ ?_ (by omega) ?_ (x_q3 H he hb S1 (by rw [zu_ne (by omega), g5]; exact h2) (by rw [zu_ne (by omega), g5]; exact h3))
    · unfold Q_2
      rw [show X_readNumber (nN e) 1 5 0 u = _ from g1]
      simp only [Option.bind_some]
      rw [if_neg (by decide)]
    · unfold R_n
      rw [h14, if_pos rfl, g2]
      simp only [Option.bind_some]
      rw [zo_1, z_g840 (by omega), z_nat (by omega)]
    · rintro u' w' ⟨o1, o2, o3, o4, o5⟩
      refine ⟨⟨?_, ?_, o1, o2, o3⟩, fun a ha => by rw [o4 a (by omega), zu_ne (by omega), g5], fun a ha => by rw [o5 a (by omega), zu_ne (by omega), g6]⟩
      · rw [o4 _ (by omega), o5 _ (by omega), zu_ne (by omega), zu_ne (by omega), g5, g6]
        exact h0
      · rw [o4 _ (by omega), o5 _ (by omega), zu_eq, zu_eq]
  · obtain ⟨w', c1, c2⟩ := t1_wr H hb (WS_49 (b + 1) 0 g3)
    right
    refine ⟨p, mg_up u 40 (1 + e * 13 + 1) 0, w', ?_, ?_, XF_40 _ _ hX, by rw [z_up_ne (by decide)]; exact hat, c2⟩
    · unfold Q_2
      rw [show X_readNumber (nN e) 1 5 0 u = _ from g1]
      simp only [Option.bind_some]
      rw [if_pos trivial]
    · unfold R_n
      rw [h14, if_pos rfl, g2]
      simp only [Option.bind_some]
      rw [zo_1, z_g840 (by omega), z_nat (by omega)]
      exact c1
theorem x_q1 {n p e b : Nat} {u0 w0 u w : mg_Rg} (H : X0 n u0 w0) (he : e < 8) (hb : b + 13 < 840) (S : XS n p u w u0 w0) (h0 : u 40 (1 + e * 13) = w 49 b) (h2 : u 40 (1 + e * 13 + 2) = 0) (h3 : u 40 (1 + e * 13 + 3) = -1) :
    EO n (p + 6) u0 w0 (Q_1 (nN e) u) ((M_reads 120 w).bind fun u3 => R_n (nN b) u3) (fun u' w' => ER e b u' w' ∧ (∀ a, a < 1 + e * 13 → u' 40 a = u 40 a) ∧ ∀ a, a < b → w' 49 a = w 49 a) := by
  obtain ⟨hX, hM, hp, hat, h13, h14⟩ := id S
  by_cases hs : s_ch (w0 47) n p = 120
  · obtain ⟨t1, t2⟩ := x_take_yes H hX hp hat hs (by decide)
    obtain ⟨w1, f1, f2, f3, f4, f5⟩ := x_reads_yes H hM t1 h13 h14 hs
    have S1 : XS n (p + 1) (mg_up u 37 3 (nN (p + 1))) w1 u0 w0 := ⟨XF_at _ hX, f2, by omega, by rw [zu_eq], f3, f4⟩
    refine EO_le ?_ ?_ (by omega) ?_ (x_q2 H he hb S1 (by rw [z_up_ne (by decide), f5]; exact h0) (by rw [z_up_ne (by decide)]; exact h2) (by rw [z_up_ne (by decide)]; exact h3))
    · unfold Q_1
      rw [t2]
      simp only [Option.bind_some]
      rw [if_neg (by decide)]
    · rw [f1]
      rfl
    · rintro u' w' ⟨o1, o2, o3⟩
      exact ⟨o1, fun a ha => by rw [o2 a ha, z_up_ne (by decide)], fun a ha => by rw [o3 a ha, f5]⟩
  · obtain ⟨w1, f1, f2, f3⟩ := x_reads_no H hM hp h13 h14 hs
    obtain ⟨w', c1, c2⟩ := rn_wr H hb f2
    right
    refine ⟨p, u, w', ?_, ?_, hX, hat, c2⟩
    · unfold Q_1
      rw [x_take_no H hX hp hat hs]
      simp only [Option.bind_some]
      rw [if_pos trivial]
    · rw [f1]
      exact c1
theorem x_entry {n p e : Nat} {u0 w0 u w : mg_Rg} (H : X0 n u0 w0) (he : e < 8) (S : XS n p u w u0 w0) (h40 : u 40 0 = nN e) :
    EO n (p + 7) u0 w0 (X_readEntry u) (M_readsEntry (nN (14 * e)) w) (fun u' w' => ER e (14 * e) u' w' ∧ u' 40 0 = nN (e + 1) ∧ (∀ a, a ≠ 0 → a < 1 + e * 13 → u' 40 a = u 40 a) ∧ ∀ a, a < 14 * e → w' 49 a = w 49 a) := by
  obtain ⟨v, a1, a2, a3, a4, a5⟩ := za_39 he h40
  have Sv : XS n p (mg_up v 40 (1 + e * 13 + 3) (-1)) w u0 w0 := by
    obtain ⟨hX, hM, hp, hat, h13, h14⟩ := S
    exact ⟨XF_40 _ _ ⟨fun k k1 k2 => by rw [a2 k k2]; exact hX.1 k k1 k2, fun i hi => by rw [a2 37 (by decide)]; exact hX.2 i hi⟩, hM, hp, by rw [z_up_ne (by decide), a2 37 (by decide)]; exact hat, h13, h14⟩
  have hcl : X_readEntry u = (X_readNumber (nN e) 0 4 1 (mg_up v 40 (1 + e * 13 + 3) (-1))).bind fun p2 => if p2.1 = 0 then some (0, p2.2) else Q_1 (nN e) p2.2 := by
    rw [X_entry_eq, a1]
    simp only [Option.bind_some]
    rw [rp_39_3 he]
    rfl
  rw [M_entry_eq, hcl]
  rcases x_code (e := e) (c := 0) H he (by omega) Sv with ⟨c, p3, u3, w3, v1, v2, g1, g2, g3, g4, g5, g6⟩ | ⟨g1, w3, g2, g3, g4⟩
  · have S1 := XS_49 (14 * e) (nN c) (XS_40 (1 + e * 13 + 0) (nN c) g3)
    refine EO_le ?_ ?_ (by omega) ?_ (x_q1 (b := 14 * e) H he (by omega) S1 (by rw [show 1 + e * 13 = 1 + e * 13 + 0 by omega, zu_eq, zu_eq]) (by rw [zu_ne (by omega), g5, zu_ne (by omega)]; exact a5 _ (by omega) (by omega)) (by rw [zu_ne (by omega), g5, zu_eq]))
    · rw [show X_readNumber (nN e) 0 4 1 (mg_up v 40 (1 + e * 13 + 3) (-1)) = _ from g1]
      simp only [Option.bind_some]
      rw [if_neg (by decide)]
    · unfold R_t0
      rw [g2]
      simp only [Option.bind_some]
      rw [z_g840 (by omega), z_nat (by omega)]
    · rintro u' w' ⟨o1, o2, o3⟩
      refine ⟨o1, ?_, fun a ha0 ha => ?_, fun a ha => ?_⟩
      · rw [o2 0 (by omega), zu_ne (by omega), g5, zu_ne (by omega)]
        exact a3
      · rw [o2 a ha, zu_ne (by omega), g5, zu_ne (by omega)]
        exact a4 a ha0 (by omega)
      · rw [o3 a ha, zu_ne (by omega), g6]
  · obtain ⟨w1, f1, f2, f3⟩ := x_reads_wr 120 H (WS_49 (14 * e) 0 g3)
    obtain ⟨w', c1, c2⟩ := rn_wr (b := 14 * e) H (by omega) f2
    right
    refine ⟨p, _, w', ?_, ?_, XF_40 (1 + e * 13 + 0) 0 Sv.1, by rw [z_up_ne (by decide)]; exact Sv.2.2.2.1, c2⟩
    · rw [show X_readNumber (nN e) 0 4 1 (mg_up v 40 (1 + e * 13 + 3) (-1)) = _ from g1]
      simp only [Option.bind_some]
      rw [if_pos trivial]
    · unfold R_t0
      rw [g2]
      simp only [Option.bind_some]
      rw [z_g840 (by omega), z_nat (by omega), f1]
      exact c1
