theorem z_dec2 {P : Prop} [Decidable P] {b : Bool} : (decide P && !b) = true ↔ (P ∧ b = false) := by
  constructor
  · intro h
    rw [Bool.and_eq_true, decide_eq_true_iff] at h
    refine ⟨h.1, ?_⟩
    cases b with
    | false => rfl
    | true => cases h.2
  · rintro ⟨h1, h2⟩
    rw [h2, decide_eq_true h1]
    rfl
theorem ml_st {w y : mg_Rg} {g : z_Ro} (b2 : MF y w) (h43 : w 43 = g) : ∃ Y2, (∃ Y1, M_copy_43_46 0 0 (mg_up (mg_up y 42 14 0) 42 10 0) = some Y1 ∧ Y2 = mg_up Y1 42 7 1) ∧ (∀ k, k ≠ 42 → k ≠ 49 → k ≠ 46 → Y2 k = w k) ∧ Y2 49 = y 49 ∧ (∀ i, i ≠ 7 → i ≠ 10 → i ≠ 13 → i ≠ 14 → Y2 42 i = w 42 i) ∧ Y2 42 10 = 0 ∧ Y2 42 7 = 1 ∧ ∀ i < 690, Y2 46 i = g i := by
  obtain ⟨Y0, hY0⟩ : ∃ Y0, Y0 = mg_up (mg_up y 42 14 0) 42 10 0 := ⟨_, rfl⟩
  have Y0q : ∀ k, k ≠ 42 → Y0 k = y k := fun k k1 => by rw [hY0, z_up_ne k1, z_up_ne k1]
  obtain ⟨Y1, c1, c2, c3⟩ := zc_43_46 (a := 0) (b := 0) (by omega) (by omega) mg_F 0 Y0 (by omega) (by show 690 < 6000 + 0; omega)
  have hc1 : M_copy_43_46 0 0 Y0 = some Y1 := by
    unfold M_copy_43_46
    rw [show M_copy_43_46_L3 mg_F 0 0 0 Y0 = some Y1 from c1]
    rfl
  rw [← hY0]
  refine ⟨mg_up Y1 42 7 1, ⟨Y1, hc1, rfl⟩, fun k k1 k2 k3 => by rw [z_up_ne k1, c2 k k3, Y0q k k1, b2.1 k k1 k2], by rw [z_up_ne (by decide), c2 49 (by decide), Y0q 49 (by decide)], fun i i1 i2 i3 i4 => by rw [zu_ne i1, c2 42 (by decide), hY0, zu_ne i2, zu_ne i4, b2.2 i i3 i4], by rw [zu_ne (by decide), c2 42 (by decide), hY0, zu_eq], by rw [zu_eq], fun i hi => ?_⟩
  rw [z_up_ne (by decide), c3 i, if_pos (by omega), Y0q 43 (by decide), b2.1 43 (by decide) (by decide), h43]
  exact congrArg g (by omega)
set_option maxHeartbeats 4000000 in
theorem ob_31 : Ob_31 z_I := by
  intro u hu
  obtain ⟨nh, np, ns, nq, nd, na, HH, HP, HS, HQ, HD, HC, HA, HT, HL⟩ := hu.1
  obtain ⟨n, t1, t2, t3, t4, t5⟩ := hu.2.2.2.1
  have hq7 : u 42 7 = 0 := hu.2.2.2.2.2
  have hq8 : u 0 9 = u 42 8 := hu.2.2.2.2.1
  have hX : X0 n u u := ⟨t1, t2, t3, fun i hi => (t4 i hi).1⟩
  rcases x_text2 hX with ⟨N, U, n1, n7, a1, hU, a3, a4, a5, aw⟩ | ⟨p, U, hp, a1, hU, a3, a4, aw⟩
  case inr =>
    obtain ⟨N, y, b1, b2, b3, b4⟩ := aw U (by rw [hU 42 (by decide) (by decide)]) (hU 47 (by decide) (by decide))
    have y42 : ∀ i, i ≠ 13 → i ≠ 14 → y 42 i = u 42 i := fun i i1 i2 => by rw [b2.2 i i1 i2, hU 42 (by decide) (by decide)]
    have hM := ml_bad b1 t1 hp (by rw [y42 10 (by decide) (by decide)]; exact t3) b3 b4
    obtain ⟨V, hV⟩ : ∃ V, V = mg_up (mg_up (mg_up (mg_up y 42 14 1) 42 10 0) 42 11 (nN p)) 42 0 1 := ⟨_, rfl⟩
    rw [← hV] at hM
    have Vq : ∀ k, k ≠ 42 → k ≠ 49 → V k = U k := fun k hk k2 => by rw [hV, z_up_ne hk, z_up_ne hk, z_up_ne hk, z_up_ne hk, b2.1 k hk k2]
    refine ⟨.inr 1, U, 0, V, 1, ?_, hM, ?_, Or.inr (Or.inl ⟨rfl, rfl⟩), z_I_text2 (fun k hk => by rw [Vq k (by omega) (by omega), hU k (by omega) (by omega)]) (fun i _ => by rw [Vq 43 (by decide) (by decide), hU 43 (by decide) (by decide)]) (by rw [Vq 44 (by decide) (by decide), hU 44 (by decide) (by decide)]) (by rw [Vq 45 (by decide) (by decide), hU 45 (by decide) (by decide)]) (fun i hi => ?_) ⟨0, by omega, ?_, ?_, fun i h => absurd h (by omega), ?_⟩ hu⟩
    · unfold C_lodge
      rw [a1]
      simp only [Option.bind_some]
      rw [if_pos trivial]
    · rw [hV]
      rfl
    · simp only [List.mem_cons, List.not_mem_nil, or_false] at hi
      rw [hV, zu_ne (by omega), zu_ne (by omega), zu_ne (by omega), zu_ne (by omega), y42 i (by omega) (by omega)]
    · show V 37 2 = 0
      rw [Vq 37 (by decide) (by decide), a3]
    · show V 42 10 = 0
      rw [hV, zu_ne (by decide), zu_ne (by decide), zu_eq]
    · rw [Vq 37 (by decide) (by decide), a4, hV, zu_ne (by decide), zu_eq]
  case inl =>
    have cK : ∀ t : z_Ro, (∀ j < N, EC j (14 * j) U t) → C_areCodesKnown U = some (if s_or (fun j => decide (s_coded (u 43) (t (14 * j)) = -1)) N 0 = true then 0 else 1) := fun t ht => c_known (nh := nh) (g := u 43) (by rw [hU 4 (by decide) (by decide)]; exact HH) n7 a5 (fun j hj => (ht j hj).1)
    have cC : ∀ t : z_Ro, (∀ j < N, EC j (14 * j) U t) → C_canDeclareEntries U = some (if (decide (nd + N ≤ 30) && !(s_or (fun j => !(s_can (u 43) t (14 * j))) N 0)) = true then 1 else 0) := fun t ht => c_cans (nh := nh) (nq := nq) (by rw [hU 4 (by decide) (by decide)]; exact HH) (by rw [hU 23 (by decide) (by decide)]; exact HQ) HD.1 (by rw [hU 26 (by decide) (by decide)]; exact HD.2.1) n7 a5 ht
    have hmk : ∀ w y : mg_Rg, MF y w → w 43 = u 43 → M_lodge_L112 mg_F (nN N) 1 0 (mg_up (mg_up y 42 14 0) 42 10 0) = some (if s_or (fun j => decide (s_coded (u 43) (y 49 (14 * j)) = -1)) N 0 = true then 0 else 1, mg_up (mg_up y 42 14 0) 42 10 0) := by
      intro w y h1 h2
      have e43 : (mg_up (mg_up y 42 14 0) 42 10 0) 43 = u 43 := by rw [z_up_ne (by decide), z_up_ne (by decide), h1.1 43 (by decide) (by decide), h2]
      have e49 : (mg_up (mg_up y 42 14 0) 42 10 0) 49 = y 49 := by rw [z_up_ne (by decide), z_up_ne (by decide)]
      have := m_known (nh := nh) (f := u 4) (N := N) (w := mg_up (mg_up y 42 14 0) 42 10 0) (by rw [e43]; exact HH) n7
      rw [e43, e49] at this
      exact this
    have hF : ∀ k : Nat, k ≤ 30 → k < mg_F := fun k hk => by show k < 6000; omega
    have hU43 := hU 43 (by decide) (by decide)
    obtain ⟨y, b1, b2, b3, b4, b5⟩ := aw U (by rw [hU 42 (by decide) (by decide)]) (hU 47 (by decide) (by decide))
    have y42 : ∀ i, i ≠ 13 → i ≠ 14 → y 42 i = u 42 i := fun i i1 i2 => by rw [b2.2 i i1 i2, hU 42 (by decide) (by decide)]
    have y10 : y 42 10 = nN n := by rw [y42 10 (by decide) (by decide)]; exact t3
    by_cases hB1 : s_or (fun j => decide (s_coded (u 43) (y 49 (14 * j)) = -1)) N 0 = true
    case pos =>
      obtain ⟨V, hV⟩ : ∃ V, V = mg_up (mg_up (mg_up y 42 14 0) 42 10 0) 42 0 2 := ⟨_, rfl⟩
      have Vq : ∀ k, k ≠ 42 → k ≠ 49 → V k = U k := fun k hk k2 => by rw [hV, z_up_ne hk, z_up_ne hk, z_up_ne hk, b2.1 k hk k2]
      refine ⟨.inr 3, U, 0, V, 2, ?_, ml_go b1 y10 b3 b4 ?_, ?_, Or.inr (Or.inr (Or.inl ⟨rfl, rfl⟩)), z_I_text2 (fun k hk => by rw [Vq k (by omega) (by omega), hU k (by omega) (by omega)]) (fun i _ => by rw [Vq 43 (by decide) (by decide), hU 43 (by decide) (by decide)]) (by rw [Vq 44 (by decide) (by decide), hU 44 (by decide) (by decide)]) (by rw [Vq 45 (by decide) (by decide), hU 45 (by decide) (by decide)]) (fun i hi => ?_) ⟨0, by omega, ?_, ?_, fun i h => absurd h (by omega), ?_⟩ hu⟩
      · unfold C_lodge
        rw [a1]
        simp only [Option.bind_some]
        rw [if_neg (by decide), cK _ b5, if_pos hB1]
        simp only [Option.bind_some]
        rw [if_pos trivial]
      · rw [hmk U y b2 hU43, if_pos hB1, hV]
        rfl
      · rw [hV]
        rfl
      · simp only [List.mem_cons, List.not_mem_nil, or_false] at hi
        rw [hV, zu_ne (by omega), zu_ne (by omega), zu_ne (by omega), y42 i (by omega) (by omega)]
      · show V 37 2 = 0
        rw [Vq 37 (by decide) (by decide), a3]
      · show V 42 10 = 0
        rw [hV, zu_ne (by decide), zu_eq]
      · rw [Vq 37 (by decide) (by decide), a4, t5, hV, zu_ne (by decide), zu_ne (by decide), zu_ne (by decide), y42 11 (by decide) (by decide)]
    case neg =>
    have hcd : ∀ t : z_Ro, ¬ s_or (fun j => decide (s_coded (u 43) (t (14 * j)) = -1)) N 0 = true → ∀ j < N, ∃ x < nh, s_coded (u 43) (t (14 * j)) = nN x := by
      intro t ht j hj
      have h1 : s_or (fun j => decide (s_coded (u 43) (t (14 * j)) = -1)) N 0 = false := by
        cases q : s_or (fun j => decide (s_coded (u 43) (t (14 * j)) = -1)) N 0 with
        | false => rfl
        | true => exact absurd q ht
      have h2 : decide (s_coded (u 43) (t (14 * j)) = -1) = false := s_or_f N 0 h1 j (by omega) (by omega)
      exact (s_coded_or HH _).resolve_left (of_decide_eq_false h2)
    obtain ⟨rk1, rk2⟩ := z_RK (u := u) (u' := U) (fun k hk => hU k (by omega) (by omega)) (hU 44 (by decide) (by decide)) (hU 45 (by decide) (by decide)) (by rw [hU 42 (by decide) (by decide)]) (by rw [hU 42 (by decide) (by decide)]) hu
    obtain ⟨U0, k1, k2, k3, k4⟩ := z_ring46 (u := U) (by
      rw [hU43]
      refine z_rel_congr (fun k hk => hU k ?_ ?_) hu.1
      · rintro rfl
        revert hk
        decide
      · rintro rfl
        revert hk
        decide) rk1 rk2
    have hLS : ∀ w : mg_Rg, w 43 = u 43 → z_LS nh np ns nq nd U0 w := by
      intro w hw
      unfold z_LS
      rw [hw, k2 4 (by decide), k2 7 (by decide), k2 10 (by decide), k2 23 (by decide), k2 26 (by decide), k2 13 (by decide), k2 17 (by decide), k2 20 (by decide), hU 4 (by decide) (by decide), hU 7 (by decide) (by decide), hU 10 (by decide) (by decide), hU 23 (by decide) (by decide), hU 26 (by decide) (by decide), hU 13 (by decide) (by decide), hU 17 (by decide) (by decide), hU 20 (by decide) (by decide)]
      exact ⟨HH, HP, HS, HQ, HD, HC, HT, HL⟩
    obtain ⟨Y2, ⟨Y1, s0, s1⟩, s2, s3, s4, s5, s6, s7⟩ := ml_st (g := u 43) b2 hU43
    have Y243 : Y2 43 = u 43 := (s2 43 (by decide) (by decide) (by decide)).trans hU43
    rcases l_all (nh := nh) (np := np) (ns := ns) (nq := nq) (N := N) (t := y 49) n7 N mg_F mg_F 0 nd U0 Y2 (by omega) (hF N (by omega)) (hF N (by omega)) (hLS Y2 Y243) s3 s6 (fun j hj => by rw [Y243]; exact hcd _ hB1 j hj) (fun j hj => EC_cg (k2 40 (by decide)) (b5 j hj)) with ⟨W, d1, d2, d3⟩ | ⟨W, u1, d1, d2, d3, d4, d5, -⟩
    · rw [Y243] at d3
      obtain ⟨Z, e1, e2, e3⟩ := zc_46_43 (a := 0) (b := 0) (by omega) (by omega) mg_F 0 (mg_up W 42 7 0) (by omega) (by show 690 < 6000 + 0; omega)
      have he1 : M_copy_46_43 0 0 (mg_up W 42 7 0) = some Z := by
        unfold M_copy_46_43
        rw [show M_copy_46_43_L3 mg_F 0 0 0 (mg_up W 42 7 0) = some Z from e1]
        rfl
      obtain ⟨V, hV⟩ : ∃ V, V = mg_up Z 42 0 3 := ⟨_, rfl⟩
      have Vq : ∀ k, k ≠ 42 → k ≠ 43 → k ≠ 46 → k ≠ 49 → V k = U k := fun k x1 x2 x3 x4 => by rw [hV, z_up_ne x1, e2 k x2, z_up_ne x1, d2.1 k x1 x2, s2 k x1 x4 x3]
      have V42 : ∀ i, i ≠ 0 → i ≠ 7 → i ≠ 10 → i ≠ 13 → i ≠ 14 → V 42 i = u 42 i := fun i x1 x2 x3 x4 x5 => by rw [hV, zu_ne x1, e2 42 (by decide), zu_ne x2, d2.2 i x1, s4 i x2 x3 x4 x5, hU 42 (by decide) (by decide)]
      refine ⟨.inr 2, U, 0, V, 3, ?_, ml_go b1 y10 b3 b4 ?_, ?_, Or.inr (Or.inr (Or.inr ⟨rfl, rfl⟩)), z_I_text2 (fun k hk => by rw [Vq k (by omega) (by omega) (by omega) (by omega), hU k (by omega) (by omega)]) (fun i hi => ?_) (by rw [Vq 44 (by decide) (by decide) (by decide) (by decide), hU 44 (by decide) (by decide)]) (by rw [Vq 45 (by decide) (by decide) (by decide) (by decide), hU 45 (by decide) (by decide)]) (fun i hi => ?_) ⟨0, by omega, ?_, ?_, fun i h => absurd h (by omega), ?_⟩ hu⟩
      · unfold C_lodge
        rw [a1]
        simp only [Option.bind_some]
        rw [if_neg (by decide), cK _ b5, if_neg hB1]
        simp only [Option.bind_some]
        rw [if_neg (by decide), cC _ b5, if_neg (fun h => d3 (z_dec2.mp h))]
        simp only [Option.bind_some]
        rw [if_pos trivial]
      · rw [hmk U y b2 hU43, if_neg hB1]
        simp only [Option.bind_some]
        rw [if_neg (by decide), s0]
        simp only [Option.bind_some]
        rw [← s1, show M_lodge_L181 mg_F (nN N) 1 0 Y2 = some (0, W) from d1]
        simp only [Option.bind_some]
        rw [if_pos trivial, he1, hV]
        rfl
      · rw [hV]
        rfl
      · rw [hV, z_up_ne (by decide), e3 i, if_pos (by omega), z_up_ne (by decide), d2.1 46 (by decide) (by decide), show 0 + (i - 0) = i by omega, s7 i hi]
      · simp only [List.mem_cons, List.not_mem_nil, or_false] at hi
        by_cases h7 : i = 7
        · subst h7
          rw [hV, zu_ne (by decide), e2 42 (by decide), zu_eq, hq7]
        · exact V42 i (by omega) h7 (by omega) (by omega) (by omega)
      · show V 37 2 = 0
        rw [Vq 37 (by decide) (by decide) (by decide) (by decide), a3]
      · show V 42 10 = 0
        rw [hV, zu_ne (by decide), e2 42 (by decide), zu_ne (by decide), d2.2 10 (by decide), s5]
      · rw [Vq 37 (by decide) (by decide) (by decide) (by decide), a4, t5, V42 11 (by decide) (by decide) (by decide) (by decide) (by decide)]
    · rw [Y243] at d3
      have hB2 := z_dec2.mpr d3
      have u1q : ∀ k, k ≠ 26 → k ≠ 35 → k ∉ 0 :: z_ks.map (· + 1) → u1 k = U k := fun k x1 x2 x3 => (d5 k x1 x2).trans (k2 k x3)
      have u142 : u1 42 = u 42 := (u1q 42 (by decide) (by decide) (by decide)).trans (hU 42 (by decide) (by decide))
      have u143 : u1 43 = u 43 := (u1q 43 (by decide) (by decide) (by decide)).trans hU43
      obtain ⟨y', b1', b2', b3', b4', b5'⟩ := aw u1 (by rw [u142]) ((u1q 47 (by decide) (by decide) (by decide)).trans (hU 47 (by decide) (by decide)))
      have y10' : y' 42 10 = nN n := by rw [b2'.2 10 (by decide) (by decide), u142]; exact t3
      have hB1' : ¬ s_or (fun j => decide (s_coded (u 43) (y' 49 (14 * j)) = -1)) N 0 = true := by
        intro h
        have e := (cK _ b5').symm.trans (cK _ b5)
        rw [if_pos h, if_neg hB1] at e
        exact absurd (Option.some.inj e) (by decide)
      have hB2' : (decide (nd + N ≤ 30) && !(s_or (fun j => !(s_can (u 43) (y' 49) (14 * j))) N 0)) = true := by
        cases q : (decide (nd + N ≤ 30) && !(s_or (fun j => !(s_can (u 43) (y' 49) (14 * j))) N 0)) with
        | true => rfl
        | false =>
          have e := (cC _ b5').symm.trans (cC _ b5)
          rw [if_pos hB2, q, if_neg (by decide)] at e
          exact absurd (Option.some.inj e) (by decide)
      obtain ⟨X2, ⟨X1, w0, w1⟩, w2, w3, w4, w5, w6, w7⟩ := ml_st (g := u 43) b2' u143
      have X243 : X2 43 = u 43 := (w2 43 (by decide) (by decide) (by decide)).trans u143
      rcases l_all (nh := nh) (np := np) (ns := ns) (nq := nq) (N := N) (t := y' 49) n7 N mg_F mg_F 0 nd U0 X2 (by omega) (hF N (by omega)) (hF N (by omega)) (hLS X2 X243) w3 w6 (fun j hj => by rw [X243]; exact hcd _ hB1' j hj) (fun j hj => EC_cg (k2 40 (by decide)) (b5' j hj)) with ⟨W', f1, f2, f3⟩ | ⟨W', u1', f1, f2, f3, f4, f5, f6⟩
      · rw [X243] at f3
        exact absurd (z_dec2.mp hB2') f3
      have eu : u1' = u1 := Option.some.inj (f4.symm.trans d4)
      subst eu
      obtain ⟨Z, z1, z2, z3⟩ := l240 (N := nN N) mg_F 192 (mg_up W' 42 7 0) (by omega) (by show 200 < 6000 + 192; omega)
      obtain ⟨y4, hy4⟩ : ∃ y4, y4 = mg_up Z 43 6 (Z 46 6) := ⟨_, rfl⟩
      have y4q : ∀ k, k ≠ 42 → k ≠ 43 → k ≠ 46 → k ≠ 49 → y4 k = u1' k := fun k x1 x2 x3 x4 => by rw [hy4, z_up_ne x2, z2 k x2, z_up_ne x1, f2.1 k x1 x2, w2 k x1 x4 x3]
      have y442 : ∀ i, i ≠ 0 → i ≠ 7 → i ≠ 10 → i ≠ 13 → i ≠ 14 → y4 42 i = u 42 i := fun i x1 x2 x3 x4 x5 => by rw [hy4, z_up_ne (by decide), z2 42 (by decide), zu_ne x2, f2.2 i x1, w4 i x2 x3 x4 x5, u142]
      have y446 : ∀ i < 690, y4 46 i = u 43 i := fun i hi => by rw [hy4, z_up_ne (by decide), z2 46 (by decide), z_up_ne (by decide), f2.1 46 (by decide) (by decide), w7 i hi]
      obtain ⟨Z2, r1, r2, r3, r4, r5⟩ := k4 y4 (fun k hk => by
        have x : k ≠ 42 ∧ k ≠ 43 ∧ k ≠ 46 ∧ k ≠ 49 ∧ k ≠ 26 ∧ k ≠ 35 := by
          simp only [List.mem_cons, List.not_mem_nil, or_false] at hk
          omega
        rw [y4q k x.1 x.2.1 x.2.2.1 x.2.2.2.1, d5 k x.2.2.2.2.1 x.2.2.2.2.2]) (by rw [y442 3 (by decide) (by decide) (by decide) (by decide) (by decide), hU 42 (by decide) (by decide)]) (by rw [y442 5 (by decide) (by decide) (by decide) (by decide) (by decide), hU 42 (by decide) (by decide)]) (fun i hi => by rw [y446 i hi, hU43])
      have Z2q : ∀ k, k ≠ 42 → k ≠ 43 → k ≠ 44 → k ≠ 46 → k ≠ 49 → Z2 k = u1' k := fun k x1 x2 x3 x4 x5 => (r2 k x3 x1).trans (y4q k x1 x2 x4 x5)
      have hZ46 : ∀ i < 690, Z 46 i = u 43 i := fun i hi => by rw [z2 46 (by decide), z_up_ne (by decide), f2.1 46 (by decide) (by decide), w7 i hi]
      have G1 : ∀ i, i = 6 ∨ (192 ≤ i ∧ i < 200) → Z2 43 i = u 43 i := fun i hi => by
        rw [r2 43 (by decide) (by decide), hy4]
        by_cases h6 : i = 6
        · subst h6
          rw [zu_eq, hZ46 6 (by decide)]
        · rw [zu_ne h6, z3 i, if_pos (by omega), z_up_ne (by decide), f2.1 46 (by decide) (by decide), w7 i (by omega)]
      have G2 : ∀ i, i ≠ 6 → i < 192 ∨ 200 ≤ i → Z2 43 i = W' 43 i := fun i x1 x2 => by rw [r2 43 (by decide) (by decide), hy4, zu_ne x1, z3 i, if_neg (by omega), z_up_ne (by decide)]
      obtain ⟨A1, A2, A3, A4, A5, A6, A7, A8⟩ := f6
      refine ⟨.inl (nN N), u1', nN N, mg_up Z2 42 0 0, 0, ?_, ml_go b1' y10' b3' b4' ?_, rfl, Or.inl ⟨_, rfl, rfl, rfl⟩, z_I_thrown 0 ⟨⟨nh, np, ns, nq, nd + N, na, tH_cg (fun i _ => by rw [Z2q 4 (by decide) (by decide) (by decide) (by decide) (by decide)]) (fun i hi => G2 i (by omega) (by omega)) A1, tP_cg (fun i _ => by rw [Z2q 7 (by decide) (by decide) (by decide) (by decide) (by decide)]) (fun i hi => G2 i (by omega) (by omega)) A2, tS_cg (fun i _ => by rw [Z2q 10 (by decide) (by decide) (by decide) (by decide) (by decide)]) (fun i hi => G2 i (by omega) (by omega)) A3, tQ_cg (fun i _ => by rw [Z2q 23 (by decide) (by decide) (by decide) (by decide) (by decide)]) (fun i hi => G2 i (by omega) (by omega)) A4, tD_cg (fun i _ => by rw [Z2q 26 (by decide) (by decide) (by decide) (by decide) (by decide)]) (fun i hi => G2 i (by omega) (by omega)) A5, tC_cg HQ.1 A5.1 (fun i hi => G2 i (by omega) (by omega)) A6, tA_cg (fun i _ => by rw [Z2q 31 (by decide) (by decide) (by decide) (by decide) (by decide), u1q 31 (by decide) (by decide) (by decide), hU 31 (by decide) (by decide)]) (fun i hi => G1 i hi) HA, tT_cg (fun i _ => by rw [Z2q 13 (by decide) (by decide) (by decide) (by decide) (by decide)]) (fun i hi => G2 i (by omega) (by omega)) A7, tL_cg (fun i _ => by rw [Z2q 17 (by decide) (by decide) (by decide) (by decide) (by decide)]) (fun i _ => by rw [Z2q 20 (by decide) (by decide) (by decide) (by decide) (by decide)]) (fun i hi => G2 i (by omega) (by omega)) A8⟩, r4, r5, ⟨0, by omega, ?_, ?_, fun i h => absurd h (by omega), ?_⟩, ?_, ?_⟩⟩
      · unfold C_lodge
        rw [a1]
        simp only [Option.bind_some]
        rw [if_neg (by decide), cK _ b5, if_neg hB1]
        simp only [Option.bind_some]
        rw [if_neg (by decide), cC _ b5, if_pos hB2]
        simp only [Option.bind_some]
        rw [if_neg (by decide), k1]
        simp only [Option.bind_some]
        have e40 : U0 40 0 = nN N := by rw [k2 40 (by decide)]; exact a5
        have hcnt : T_count_39 U0 = some (nN N) := by
          rw [← e40]
          rfl
        rw [hcnt]
        simp only [Option.bind_some]
        rw [show C_lodge_L74 mg_F (nN N) 0 U0 = some u1' from d4]
        rfl
      · rw [hmk u1' y' b2' u143, if_neg hB1']
        simp only [Option.bind_some]
        rw [if_neg (by decide), w0]
        simp only [Option.bind_some]
        rw [← w1, show M_lodge_L181 mg_F (nN N) 1 0 X2 = some (1, W') from f1]
        simp only [Option.bind_some]
        rw [if_neg (by decide), show M_lodge_L240 mg_F (nN N) 192 (mg_up W' 42 7 0) = some Z from z1]
        simp only [Option.bind_some]
        rw [← hy4, r1]
        rfl
      · show Z2 37 2 = 0
        rw [Z2q 37 (by decide) (by decide) (by decide) (by decide) (by decide), u1q 37 (by decide) (by decide) (by decide), a3]
      · show Z2 42 10 = 0
        rw [r3 10 (by decide), hy4, z_up_ne (by decide), z2 42 (by decide), zu_ne (by decide), f2.2 10 (by decide), w5]
      · rw [Z2q 37 (by decide) (by decide) (by decide) (by decide) (by decide), u1q 37 (by decide) (by decide) (by decide), a4, t5, r3 11 (by decide), y442 11 (by decide) (by decide) (by decide) (by decide) (by decide)]
      · rw [Z2q 0 (by decide) (by decide) (by decide) (by decide) (by decide), d5 0 (by decide) (by decide), k3 9 (by decide) (by decide), hU 0 (by decide) (by decide), r3 8 (by decide), y442 8 (by decide) (by decide) (by decide) (by decide) (by decide)]
        exact hq8
      · rw [r3 7 (by decide), hy4, z_up_ne (by decide), z2 42 (by decide), zu_eq]
