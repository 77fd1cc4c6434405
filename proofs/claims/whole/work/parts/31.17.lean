def M_readsEntry_L60 : Nat → Int32 → Int32 → Int32 → mg_Rg → Option (Int32 × mg_Rg)
  | 0, _, _, _, _ => none
  | n + 1, x1, x2, x3, u =>
    if x3 = 0 then
    some ((x2, u))
    else
    (M_readsDigit 48 57 u).bind fun p1510 => match p1510 with
      | (v1508, u1509) =>
        if ((x1 + 2) + (2 * x2)) < 0 ∨ 840 ≤ ((x1 + 2) + (2 * x2)).toNatClampNeg then none else
        (M_reads 58 (mg_up u1509 49 (((x1 + 2) + (2 * x2)).toNatClampNeg) v1508)).bind fun u1511 =>
        if (u1511 42 14) = 0 then
        (M_readsNumber u1511).bind fun p1514 => match p1514 with
          | (v1512, u1513) =>
            if ((x1 + 3) + (2 * x2)) < 0 ∨ 840 ≤ ((x1 + 3) + (2 * x2)).toNatClampNeg then none else
            if ((mg_up u1513 49 (((x1 + 3) + (2 * x2)).toNatClampNeg) v1512) 42 14) = 0 then
            if 4 ≤ (x2 + 1) then
              M_readsEntry_L60 n x1 (x2 + 1) 0 (mg_up (mg_up u1513 49 (((x1 + 3) + (2 * x2)).toNatClampNeg) v1512) 42 13 (((mg_up u1513 49 (((x1 + 3) + (2 * x2)).toNatClampNeg) v1512) 42 13) + 0))
              else
              (M_here (mg_up u1513 49 (((x1 + 3) + (2 * x2)).toNatClampNeg) v1512)).bind fun v1515 =>
                if v1515 = 43 then
                M_readsEntry_L60 n x1 (x2 + 1) 1 (mg_up (mg_up u1513 49 (((x1 + 3) + (2 * x2)).toNatClampNeg) v1512) 42 13 (((mg_up u1513 49 (((x1 + 3) + (2 * x2)).toNatClampNeg) v1512) 42 13) + 1))
                else
                M_readsEntry_L60 n x1 (x2 + 1) 0 (mg_up (mg_up u1513 49 (((x1 + 3) + (2 * x2)).toNatClampNeg) v1512) 42 13 (((mg_up u1513 49 (((x1 + 3) + (2 * x2)).toNatClampNeg) v1512) 42 13) + 0))
            else
            M_readsEntry_L60 n x1 (x2 + 1) 0 (mg_up (mg_up u1513 49 (((x1 + 3) + (2 * x2)).toNatClampNeg) v1512) 42 13 (((mg_up u1513 49 (((x1 + 3) + (2 * x2)).toNatClampNeg) v1512) 42 13) + 0))
        else
        if ((x1 + 3) + (2 * x2)) < 0 ∨ 840 ≤ ((x1 + 3) + (2 * x2)).toNatClampNeg then none else
          if ((mg_up u1511 49 (((x1 + 3) + (2 * x2)).toNatClampNeg) 0) 42 14) = 0 then
          if 4 ≤ (x2 + 1) then
            M_readsEntry_L60 n x1 (x2 + 1) 0 (mg_up (mg_up u1511 49 (((x1 + 3) + (2 * x2)).toNatClampNeg) 0) 42 13 (((mg_up u1511 49 (((x1 + 3) + (2 * x2)).toNatClampNeg) 0) 42 13) + 0))
            else
            (M_here (mg_up u1511 49 (((x1 + 3) + (2 * x2)).toNatClampNeg) 0)).bind fun v1516 =>
              if v1516 = 43 then
              M_readsEntry_L60 n x1 (x2 + 1) 1 (mg_up (mg_up u1511 49 (((x1 + 3) + (2 * x2)).toNatClampNeg) 0) 42 13 (((mg_up u1511 49 (((x1 + 3) + (2 * x2)).toNatClampNeg) 0) 42 13) + 1))
              else
              M_readsEntry_L60 n x1 (x2 + 1) 0 (mg_up (mg_up u1511 49 (((x1 + 3) + (2 * x2)).toNatClampNeg) 0) 42 13 (((mg_up u1511 49 (((x1 + 3) + (2 * x2)).toNatClampNeg) 0) 42 13) + 0))
          else
          M_readsEntry_L60 n x1 (x2 + 1) 0 (mg_up (mg_up u1511 49 (((x1 + 3) + (2 * x2)).toNatClampNeg) 0) 42 13 (((mg_up u1511 49 (((x1 + 3) + (2 * x2)).toNatClampNeg) 0) 42 13) + 0))
set_option maxRecDepth 10000 in
set_option maxHeartbeats 4000000 in
theorem ev_M_readsEntry_L60 {sc : mg_Sc} {c z : Nat} {fL : Nat → Int64} {fD : Nat → UInt64} : ∀ (n : Nat) (x1 : Int32) (x2 : Int32) (x3 : Int32) (u : mg_Rg) (res : Int32 × mg_Rg), M_readsEntry_L60 n x1 x2 x3 u = some res → ∀ r, (match res with | (y2, yu) => mg_Ev sc 3 133 168 [some (.ref 43), some (.int x1), some (.int y2), none] [] (hp yu fL fD, c, z) r) → mg_Ev sc 3 133 60 [some (.ref 43), some (.int x1), some (.int x2), some (.int x3)] [] (hp u fL fD, c, z) r := by
  intro n
  induction n with
  | zero => intro x1 x2 x3 u res h; cases h
  | succ n ih =>
    intro x1 x2 x3 u res h r K
    unfold M_readsEntry_L60 at h
    refine mg_Ev.go 1 (pc' := 61) (loc' := [some (.ref 43), some (.int x1), some (.int x2), some (.int x3)]) (st' := [.int x3]) (w' := (hp u fL fD, c, z)) rfl ?_
    refine mg_Ev.br (P := x3 = 0) (t := 168) (nx := 64) (st' := []) rfl rfl rfl rfl (fun hc3709 => ?_) (fun hc3709 => ?_)
    · rw [if_pos hc3709] at h
      cases h
      exact mg_Ev.more (loc := [some (.ref 43), some (.int x1), some (.int x2), none]) K ⟨rfl, ⟨rfl, ⟨rfl, trivial⟩⟩⟩
    · rw [if_neg hc3709] at h
      refine mg_Ev.go 10 (pc' := 76) (loc' := [some (.ref 43), some (.int x1), some (.int x2), some (.int x3)]) (st' := [.ref 43, .int ((x1 + 2) + (2 * x2)), .ref 50]) (w' := (hp u fL fD, c, z)) rfl ?_
      refine mg_Ev.go 2 (pc' := 80) (loc' := [some (.ref 43), some (.int x1), some (.int x2), some (.int x3)]) (st' := [.int 57, .int 48, .ref 43, .int ((x1 + 2) + (2 * x2)), .ref 50]) (w' := (hp u fL fD, c, z)) rfl ?_
      obtain ⟨⟨v1508, u1509⟩, hf3710, h⟩ := Option.bind_eq_some_iff.mp h
      try dsimp only at h
      refine mg_Ev.call (y := 130) (as := [.ref 43, .int 48, .int 57]) (rest := [.int ((x1 + 2) + (2 * x2)), .ref 50]) (v := some (.int v1508)) (w1 := (hp u1509 fL fD, c, z)) rfl rfl (Nat.le_of_ble_eq_true rfl) ((ev_M_readsDigit hf3710).deep (by decide)) ?_
      by_cases hb3711 : ((x1 + 2) + (2 * x2)) < 0 ∨ 840 ≤ ((x1 + 2) + (2 * x2)).toNatClampNeg
      · rw [if_pos hb3711] at h
        cases h
      · rw [if_neg hb3711] at h
        refine mg_Ev.iast (a := 49) (n := 840) rfl (hpg_49 _ _ _) rfl hb3711 (hpa_49 _ _ _ _ _ _ _) ?_
        refine mg_Ev.go 2 (pc' := 87) (loc' := [some (.ref 43), some (.int x1), some (.int x2), some (.int x3)]) (st' := [.int 58, .ref 43]) (w' := (hp (mg_up u1509 49 (((x1 + 2) + (2 * x2)).toNatClampNeg) v1508) fL fD, c, z)) rfl ?_
        obtain ⟨u1511, hf3712, h⟩ := Option.bind_eq_some_iff.mp h
        refine mg_Ev.call (y := 129) (as := [.ref 43, .int 58]) (rest := []) (v := none) (w1 := (hp u1511 fL fD, c, z)) rfl rfl (Nat.le_of_ble_eq_true rfl) ((ev_M_reads hf3712).deep (by decide)) ?_
        refine mg_Ev.go 10 (pc' := 102) (loc' := [some (.ref 43), some (.int x1), some (.int x2), some (.int x3)]) (st' := [.ref 43, .int ((x1 + 3) + (2 * x2)), .ref 50]) (w' := (hp u1511 fL fD, c, z)) rfl ?_
        refine mg_Ev.go 1 (pc' := 105) (loc' := [some (.ref 43), some (.int x1), some (.int x2), some (.int x3)]) (st' := [.int (u1511 42 14), .int ((x1 + 3) + (2 * x2)), .ref 50]) (w' := (hp u1511 fL fD, c, z)) rfl ?_
        refine mg_Ev.br (P := (u1511 42 14) = 0) (t := 112) (nx := 108) (st' := [.int ((x1 + 3) + (2 * x2)), .ref 50]) rfl rfl rfl rfl (fun hc3713 => ?_) (fun hc3713 => ?_)
        · rw [if_pos hc3713] at h
          refine mg_Ev.go 1 (pc' := 113) (loc' := [some (.ref 43), some (.int x1), some (.int x2), some (.int x3)]) (st' := [.ref 43, .int ((x1 + 3) + (2 * x2)), .ref 50]) (w' := (hp u1511 fL fD, c, z)) rfl ?_
          obtain ⟨⟨v1512, u1513⟩, hf3714, h⟩ := Option.bind_eq_some_iff.mp h
          try dsimp only at h
          refine mg_Ev.call (y := 132) (as := [.ref 43]) (rest := [.int ((x1 + 3) + (2 * x2)), .ref 50]) (v := some (.int v1512)) (w1 := (hp u1513 fL fD, c, z)) rfl rfl (Nat.le_of_ble_eq_true rfl) ((ev_M_readsNumber hf3714).deep (by decide)) ?_
          by_cases hb3715 : ((x1 + 3) + (2 * x2)) < 0 ∨ 840 ≤ ((x1 + 3) + (2 * x2)).toNatClampNeg
          · rw [if_pos hb3715] at h
            cases h
          · rw [if_neg hb3715] at h
            refine mg_Ev.iast (a := 49) (n := 840) rfl (hpg_49 _ _ _) rfl hb3715 (hpa_49 _ _ _ _ _ _ _) ?_
            refine mg_Ev.go 3 (pc' := 124) (loc' := [some (.ref 43), some (.int x1), some (.int (x2 + 1)), some (.int x3)]) (st' := [.int ((mg_up u1513 49 (((x1 + 3) + (2 * x2)).toNatClampNeg) v1512) 42 14)]) (w' := (hp (mg_up u1513 49 (((x1 + 3) + (2 * x2)).toNatClampNeg) v1512) fL fD, c, z)) rfl ?_
            refine mg_Ev.br (P := ((mg_up u1513 49 (((x1 + 3) + (2 * x2)).toNatClampNeg) v1512) 42 14) = 0) (t := 127) (nx := 145) (st' := []) rfl rfl rfl rfl (fun hc3716 => ?_) (fun hc3716 => ?_)
            · rw [if_pos hc3716] at h
              refine mg_Ev.go 2 (pc' := 129) (loc' := [some (.ref 43), some (.int x1), some (.int (x2 + 1)), some (.int x3)]) (st' := [.int 4, .int (x2 + 1)]) (w' := (hp (mg_up u1513 49 (((x1 + 3) + (2 * x2)).toNatClampNeg) v1512) fL fD, c, z)) rfl ?_
              refine mg_Ev.br (P := 4 ≤ (x2 + 1)) (t := 145) (nx := 132) (st' := []) rfl rfl rfl rfl (fun hc3717 => ?_) (fun hc3717 => ?_)
              · rw [if_pos hc3717] at h
                refine mg_Ev.go 6 (pc' := 153) (loc' := [some (.ref 43), some (.int x1), some (.int (x2 + 1)), some (.int 0)]) (st' := [.int 0, .int ((mg_up u1513 49 (((x1 + 3) + (2 * x2)).toNatClampNeg) v1512) 42 13), .ref 43]) (w' := (hp (mg_up u1513 49 (((x1 + 3) + (2 * x2)).toNatClampNeg) v1512) fL fD, c, z)) rfl ?_
                refine mg_Ev.br (P := (0 : Int32) = 0) (t := 160) (nx := 156) (st' := [.int ((mg_up u1513 49 (((x1 + 3) + (2 * x2)).toNatClampNeg) v1512) 42 13), .ref 43]) rfl rfl rfl rfl (fun _ => ?_) (fun q => absurd (by decide) q)
                refine mg_Ev.go 2 (pc' := 162) (loc' := [some (.ref 43), some (.int x1), some (.int (x2 + 1)), some (.int 0)]) (st' := [.int (((mg_up u1513 49 (((x1 + 3) + (2 * x2)).toNatClampNeg) v1512) 42 13) + 0), .ref 43]) (w' := (hp (mg_up u1513 49 (((x1 + 3) + (2 * x2)).toNatClampNeg) v1512) fL fD, c, z)) rfl ?_
                refine mg_Ev.put rfl (hpg_42 _ _ _) (Nat.le_of_ble_eq_true rfl) rfl (hpf_42_13 _ _ _ _ _ _) ?_
                refine mg_Ev.go 1 (pc' := 60) (loc' := [some (.ref 43), some (.int x1), some (.int (x2 + 1)), some (.int 0)]) (st' := []) (w' := (hp (mg_up (mg_up u1513 49 (((x1 + 3) + (2 * x2)).toNatClampNeg) v1512) 42 13 (((mg_up u1513 49 (((x1 + 3) + (2 * x2)).toNatClampNeg) v1512) 42 13) + 0)) fL fD, c, z)) rfl ?_
                exact mg_Ev.more (loc := [some (.ref 43), some (.int x1), some (.int (x2 + 1)), some (.int 0)]) (ih _ _ _ _ _ h _ K) ⟨rfl, ⟨rfl, ⟨rfl, ⟨rfl, trivial⟩⟩⟩⟩
              · rw [if_neg hc3717] at h
                refine mg_Ev.go 1 (pc' := 133) (loc' := [some (.ref 43), some (.int x1), some (.int (x2 + 1)), some (.int x3)]) (st' := [.ref 43]) (w' := (hp (mg_up u1513 49 (((x1 + 3) + (2 * x2)).toNatClampNeg) v1512) fL fD, c, z)) rfl ?_
                obtain ⟨v1515, hf3719, h⟩ := Option.bind_eq_some_iff.mp h
                refine mg_Ev.call (y := 128) (as := [.ref 43]) (rest := []) (v := some (.int v1515)) (w1 := (hp (mg_up u1513 49 (((x1 + 3) + (2 * x2)).toNatClampNeg) v1512) fL fD, c, z)) rfl rfl (Nat.le_of_ble_eq_true rfl) ((ev_M_here hf3719).deep (by decide)) ?_
                refine mg_Ev.go 1 (pc' := 138) (loc' := [some (.ref 43), some (.int x1), some (.int (x2 + 1)), some (.int x3)]) (st' := [.int 43, .int v1515]) (w' := (hp (mg_up u1513 49 (((x1 + 3) + (2 * x2)).toNatClampNeg) v1512) fL fD, c, z)) rfl ?_
                refine mg_Ev.br (P := v1515 = 43) (t := 141) (nx := 145) (st' := []) rfl rfl rfl rfl (fun hc3720 => ?_) (fun hc3720 => ?_)
                · rw [if_pos hc3720] at h
                  refine mg_Ev.go 7 (pc' := 153) (loc' := [some (.ref 43), some (.int x1), some (.int (x2 + 1)), some (.int 1)]) (st' := [.int 1, .int ((mg_up u1513 49 (((x1 + 3) + (2 * x2)).toNatClampNeg) v1512) 42 13), .ref 43]) (w' := (hp (mg_up u1513 49 (((x1 + 3) + (2 * x2)).toNatClampNeg) v1512) fL fD, c, z)) rfl ?_
                  refine mg_Ev.br (P := (1 : Int32) = 0) (t := 160) (nx := 156) (st' := [.int ((mg_up u1513 49 (((x1 + 3) + (2 * x2)).toNatClampNeg) v1512) 42 13), .ref 43]) rfl rfl rfl rfl (fun q => absurd q (by decide)) (fun _ => ?_)
                  refine mg_Ev.go 3 (pc' := 162) (loc' := [some (.ref 43), some (.int x1), some (.int (x2 + 1)), some (.int 1)]) (st' := [.int (((mg_up u1513 49 (((x1 + 3) + (2 * x2)).toNatClampNeg) v1512) 42 13) + 1), .ref 43]) (w' := (hp (mg_up u1513 49 (((x1 + 3) + (2 * x2)).toNatClampNeg) v1512) fL fD, c, z)) rfl ?_
                  refine mg_Ev.put rfl (hpg_42 _ _ _) (Nat.le_of_ble_eq_true rfl) rfl (hpf_42_13 _ _ _ _ _ _) ?_
                  refine mg_Ev.go 1 (pc' := 60) (loc' := [some (.ref 43), some (.int x1), some (.int (x2 + 1)), some (.int 1)]) (st' := []) (w' := (hp (mg_up (mg_up u1513 49 (((x1 + 3) + (2 * x2)).toNatClampNeg) v1512) 42 13 (((mg_up u1513 49 (((x1 + 3) + (2 * x2)).toNatClampNeg) v1512) 42 13) + 1)) fL fD, c, z)) rfl ?_
                  exact mg_Ev.more (loc := [some (.ref 43), some (.int x1), some (.int (x2 + 1)), some (.int 1)]) (ih _ _ _ _ _ h _ K) ⟨rfl, ⟨rfl, ⟨rfl, ⟨rfl, trivial⟩⟩⟩⟩
                · rw [if_neg hc3720] at h
                  refine mg_Ev.go 6 (pc' := 153) (loc' := [some (.ref 43), some (.int x1), some (.int (x2 + 1)), some (.int 0)]) (st' := [.int 0, .int ((mg_up u1513 49 (((x1 + 3) + (2 * x2)).toNatClampNeg) v1512) 42 13), .ref 43]) (w' := (hp (mg_up u1513 49 (((x1 + 3) + (2 * x2)).toNatClampNeg) v1512) fL fD, c, z)) rfl ?_
                  refine mg_Ev.br (P := (0 : Int32) = 0) (t := 160) (nx := 156) (st' := [.int ((mg_up u1513 49 (((x1 + 3) + (2 * x2)).toNatClampNeg) v1512) 42 13), .ref 43]) rfl rfl rfl rfl (fun _ => ?_) (fun q => absurd (by decide) q)
                  refine mg_Ev.go 2 (pc' := 162) (loc' := [some (.ref 43), some (.int x1), some (.int (x2 + 1)), some (.int 0)]) (st' := [.int (((mg_up u1513 49 (((x1 + 3) + (2 * x2)).toNatClampNeg) v1512) 42 13) + 0), .ref 43]) (w' := (hp (mg_up u1513 49 (((x1 + 3) + (2 * x2)).toNatClampNeg) v1512) fL fD, c, z)) rfl ?_
                  refine mg_Ev.put rfl (hpg_42 _ _ _) (Nat.le_of_ble_eq_true rfl) rfl (hpf_42_13 _ _ _ _ _ _) ?_
                  refine mg_Ev.go 1 (pc' := 60) (loc' := [some (.ref 43), some (.int x1), some (.int (x2 + 1)), some (.int 0)]) (st' := []) (w' := (hp (mg_up (mg_up u1513 49 (((x1 + 3) + (2 * x2)).toNatClampNeg) v1512) 42 13 (((mg_up u1513 49 (((x1 + 3) + (2 * x2)).toNatClampNeg) v1512) 42 13) + 0)) fL fD, c, z)) rfl ?_
                  exact mg_Ev.more (loc := [some (.ref 43), some (.int x1), some (.int (x2 + 1)), some (.int 0)]) (ih _ _ _ _ _ h _ K) ⟨rfl, ⟨rfl, ⟨rfl, ⟨rfl, trivial⟩⟩⟩⟩
            · rw [if_neg hc3716] at h
              refine mg_Ev.go 6 (pc' := 153) (loc' := [some (.ref 43), some (.int x1), some (.int (x2 + 1)), some (.int 0)]) (st' := [.int 0, .int ((mg_up u1513 49 (((x1 + 3) + (2 * x2)).toNatClampNeg) v1512) 42 13), .ref 43]) (w' := (hp (mg_up u1513 49 (((x1 + 3) + (2 * x2)).toNatClampNeg) v1512) fL fD, c, z)) rfl ?_
              refine mg_Ev.br (P := (0 : Int32) = 0) (t := 160) (nx := 156) (st' := [.int ((mg_up u1513 49 (((x1 + 3) + (2 * x2)).toNatClampNeg) v1512) 42 13), .ref 43]) rfl rfl rfl rfl (fun _ => ?_) (fun q => absurd (by decide) q)
              refine mg_Ev.go 2 (pc' := 162) (loc' := [some (.ref 43), some (.int x1), some (.int (x2 + 1)), some (.int 0)]) (st' := [.int (((mg_up u1513 49 (((x1 + 3) + (2 * x2)).toNatClampNeg) v1512) 42 13) + 0), .ref 43]) (w' := (hp (mg_up u1513 49 (((x1 + 3) + (2 * x2)).toNatClampNeg) v1512) fL fD, c, z)) rfl ?_
              refine mg_Ev.put rfl (hpg_42 _ _ _) (Nat.le_of_ble_eq_true rfl) rfl (hpf_42_13 _ _ _ _ _ _) ?_
              refine mg_Ev.go 1 (pc' := 60) (loc' := [some (.ref 43), some (.int x1), some (.int (x2 + 1)), some (.int 0)]) (st' := []) (w' := (hp (mg_up (mg_up u1513 49 (((x1 + 3) + (2 * x2)).toNatClampNeg) v1512) 42 13 (((mg_up u1513 49 (((x1 + 3) + (2 * x2)).toNatClampNeg) v1512) 42 13) + 0)) fL fD, c, z)) rfl ?_
              exact mg_Ev.more (loc := [some (.ref 43), some (.int x1), some (.int (x2 + 1)), some (.int 0)]) (ih _ _ _ _ _ h _ K) ⟨rfl, ⟨rfl, ⟨rfl, ⟨rfl, trivial⟩⟩⟩⟩
        · rw [if_neg hc3713] at h
          refine mg_Ev.go 2 (pc' := 116) (loc' := [some (.ref 43), some (.int x1), some (.int x2), some (.int x3)]) (st' := [.int 0, .int ((x1 + 3) + (2 * x2)), .ref 50]) (w' := (hp u1511 fL fD, c, z)) rfl ?_
          by_cases hb3724 : ((x1 + 3) + (2 * x2)) < 0 ∨ 840 ≤ ((x1 + 3) + (2 * x2)).toNatClampNeg
          · rw [if_pos hb3724] at h
            cases h
          · rw [if_neg hb3724] at h
            refine mg_Ev.iast (a := 49) (n := 840) rfl (hpg_49 _ _ _) rfl hb3724 (hpa_49 _ _ _ _ _ _ _) ?_
            refine mg_Ev.go 3 (pc' := 124) (loc' := [some (.ref 43), some (.int x1), some (.int (x2 + 1)), some (.int x3)]) (st' := [.int ((mg_up u1511 49 (((x1 + 3) + (2 * x2)).toNatClampNeg) 0) 42 14)]) (w' := (hp (mg_up u1511 49 (((x1 + 3) + (2 * x2)).toNatClampNeg) 0) fL fD, c, z)) rfl ?_
            refine mg_Ev.br (P := ((mg_up u1511 49 (((x1 + 3) + (2 * x2)).toNatClampNeg) 0) 42 14) = 0) (t := 127) (nx := 145) (st' := []) rfl rfl rfl rfl (fun hc3725 => ?_) (fun hc3725 => ?_)
            · rw [if_pos hc3725] at h
              refine mg_Ev.go 2 (pc' := 129) (loc' := [some (.ref 43), some (.int x1), some (.int (x2 + 1)), some (.int x3)]) (st' := [.int 4, .int (x2 + 1)]) (w' := (hp (mg_up u1511 49 (((x1 + 3) + (2 * x2)).toNatClampNeg) 0) fL fD, c, z)) rfl ?_
              refine mg_Ev.br (P := 4 ≤ (x2 + 1)) (t := 145) (nx := 132) (st' := []) rfl rfl rfl rfl (fun hc3726 => ?_) (fun hc3726 => ?_)
              · rw [if_pos hc3726] at h
                refine mg_Ev.go 6 (pc' := 153) (loc' := [some (.ref 43), some (.int x1), some (.int (x2 + 1)), some (.int 0)]) (st' := [.int 0, .int ((mg_up u1511 49 (((x1 + 3) + (2 * x2)).toNatClampNeg) 0) 42 13), .ref 43]) (w' := (hp (mg_up u1511 49 (((x1 + 3) + (2 * x2)).toNatClampNeg) 0) fL fD, c, z)) rfl ?_
                refine mg_Ev.br (P := (0 : Int32) = 0) (t := 160) (nx := 156) (st' := [.int ((mg_up u1511 49 (((x1 + 3) + (2 * x2)).toNatClampNeg) 0) 42 13), .ref 43]) rfl rfl rfl rfl (fun _ => ?_) (fun q => absurd (by decide) q)
                refine mg_Ev.go 2 (pc' := 162) (loc' := [some (.ref 43), some (.int x1), some (.int (x2 + 1)), some (.int 0)]) (st' := [.int (((mg_up u1511 49 (((x1 + 3) + (2 * x2)).toNatClampNeg) 0) 42 13) + 0), .ref 43]) (w' := (hp (mg_up u1511 49 (((x1 + 3) + (2 * x2)).toNatClampNeg) 0) fL fD, c, z)) rfl ?_
                refine mg_Ev.put rfl (hpg_42 _ _ _) (Nat.le_of_ble_eq_true rfl) rfl (hpf_42_13 _ _ _ _ _ _) ?_
                refine mg_Ev.go 1 (pc' := 60) (loc' := [some (.ref 43), some (.int x1), some (.int (x2 + 1)), some (.int 0)]) (st' := []) (w' := (hp (mg_up (mg_up u1511 49 (((x1 + 3) + (2 * x2)).toNatClampNeg) 0) 42 13 (((mg_up u1511 49 (((x1 + 3) + (2 * x2)).toNatClampNeg) 0) 42 13) + 0)) fL fD, c, z)) rfl ?_
                exact mg_Ev.more (loc := [some (.ref 43), some (.int x1), some (.int (x2 + 1)), some (.int 0)]) (ih _ _ _ _ _ h _ K) ⟨rfl, ⟨rfl, ⟨rfl, ⟨rfl, trivial⟩⟩⟩⟩
              · rw [if_neg hc3726] at h
                refine mg_Ev.go 1 (pc' := 133) (loc' := [some (.ref 43), some (.int x1), some (.int (x2 + 1)), some (.int x3)]) (st' := [.ref 43]) (w' := (hp (mg_up u1511 49 (((x1 + 3) + (2 * x2)).toNatClampNeg) 0) fL fD, c, z)) rfl ?_
                obtain ⟨v1516, hf3728, h⟩ := Option.bind_eq_some_iff.mp h
                refine mg_Ev.call (y := 128) (as := [.ref 43]) (rest := []) (v := some (.int v1516)) (w1 := (hp (mg_up u1511 49 (((x1 + 3) + (2 * x2)).toNatClampNeg) 0) fL fD, c, z)) rfl rfl (Nat.le_of_ble_eq_true rfl) ((ev_M_here hf3728).deep (by decide)) ?_
                refine mg_Ev.go 1 (pc' := 138) (loc' := [some (.ref 43), some (.int x1), some (.int (x2 + 1)), some (.int x3)]) (st' := [.int 43, .int v1516]) (w' := (hp (mg_up u1511 49 (((x1 + 3) + (2 * x2)).toNatClampNeg) 0) fL fD, c, z)) rfl ?_
                refine mg_Ev.br (P := v1516 = 43) (t := 141) (nx := 145) (st' := []) rfl rfl rfl rfl (fun hc3729 => ?_) (fun hc3729 => ?_)
                · rw [if_pos hc3729] at h
                  refine mg_Ev.go 7 (pc' := 153) (loc' := [some (.ref 43), some (.int x1), some (.int (x2 + 1)), some (.int 1)]) (st' := [.int 1, .int ((mg_up u1511 49 (((x1 + 3) + (2 * x2)).toNatClampNeg) 0) 42 13), .ref 43]) (w' := (hp (mg_up u1511 49 (((x1 + 3) + (2 * x2)).toNatClampNeg) 0) fL fD, c, z)) rfl ?_
                  refine mg_Ev.br (P := (1 : Int32) = 0) (t := 160) (nx := 156) (st' := [.int ((mg_up u1511 49 (((x1 + 3) + (2 * x2)).toNatClampNeg) 0) 42 13), .ref 43]) rfl rfl rfl rfl (fun q => absurd q (by decide)) (fun _ => ?_)
                  refine mg_Ev.go 3 (pc' := 162) (loc' := [some (.ref 43), some (.int x1), some (.int (x2 + 1)), some (.int 1)]) (st' := [.int (((mg_up u1511 49 (((x1 + 3) + (2 * x2)).toNatClampNeg) 0) 42 13) + 1), .ref 43]) (w' := (hp (mg_up u1511 49 (((x1 + 3) + (2 * x2)).toNatClampNeg) 0) fL fD, c, z)) rfl ?_
                  refine mg_Ev.put rfl (hpg_42 _ _ _) (Nat.le_of_ble_eq_true rfl) rfl (hpf_42_13 _ _ _ _ _ _) ?_
                  refine mg_Ev.go 1 (pc' := 60) (loc' := [some (.ref 43), some (.int x1), some (.int (x2 + 1)), some (.int 1)]) (st' := []) (w' := (hp (mg_up (mg_up u1511 49 (((x1 + 3) + (2 * x2)).toNatClampNeg) 0) 42 13 (((mg_up u1511 49 (((x1 + 3) + (2 * x2)).toNatClampNeg) 0) 42 13) + 1)) fL fD, c, z)) rfl ?_
                  exact mg_Ev.more (loc := [some (.ref 43), some (.int x1), some (.int (x2 + 1)), some (.int 1)]) (ih _ _ _ _ _ h _ K) ⟨rfl, ⟨rfl, ⟨rfl, ⟨rfl, trivial⟩⟩⟩⟩
                · rw [if_neg hc3729] at h
                  refine mg_Ev.go 6 (pc' := 153) (loc' := [some (.ref 43), some (.int x1), some (.int (x2 + 1)), some (.int 0)]) (st' := [.int 0, .int ((mg_up u1511 49 (((x1 + 3) + (2 * x2)).toNatClampNeg) 0) 42 13), .ref 43]) (w' := (hp (mg_up u1511 49 (((x1 + 3) + (2 * x2)).toNatClampNeg) 0) fL fD, c, z)) rfl ?_
                  refine mg_Ev.br (P := (0 : Int32) = 0) (t := 160) (nx := 156) (st' := [.int ((mg_up u1511 49 (((x1 + 3) + (2 * x2)).toNatClampNeg) 0) 42 13), .ref 43]) rfl rfl rfl rfl (fun _ => ?_) (fun q => absurd (by decide) q)
                  refine mg_Ev.go 2 (pc' := 162) (loc' := [some (.ref 43), some (.int x1), some (.int (x2 + 1)), some (.int 0)]) (st' := [.int (((mg_up u1511 49 (((x1 + 3) + (2 * x2)).toNatClampNeg) 0) 42 13) + 0), .ref 43]) (w' := (hp (mg_up u1511 49 (((x1 + 3) + (2 * x2)).toNatClampNeg) 0) fL fD, c, z)) rfl ?_
                  refine mg_Ev.put rfl (hpg_42 _ _ _) (Nat.le_of_ble_eq_true rfl) rfl (hpf_42_13 _ _ _ _ _ _) ?_
                  refine mg_Ev.go 1 (pc' := 60) (loc' := [some (.ref 43), some (.int x1), some (.int (x2 + 1)), some (.int 0)]) (st' := []) (w' := (hp (mg_up (mg_up u1511 49 (((x1 + 3) + (2 * x2)).toNatClampNeg) 0) 42 13 (((mg_up u1511 49 (((x1 + 3) + (2 * x2)).toNatClampNeg) 0) 42 13) + 0)) fL fD, c, z)) rfl ?_
                  exact mg_Ev.more (loc := [some (.ref 43), some (.int x1), some (.int (x2 + 1)), some (.int 0)]) (ih _ _ _ _ _ h _ K) ⟨rfl, ⟨rfl, ⟨rfl, ⟨rfl, trivial⟩⟩⟩⟩
            · rw [if_neg hc3725] at h
              refine mg_Ev.go 6 (pc' := 153) (loc' := [some (.ref 43), some (.int x1), some (.int (x2 + 1)), some (.int 0)]) (st' := [.int 0, .int ((mg_up u1511 49 (((x1 + 3) + (2 * x2)).toNatClampNeg) 0) 42 13), .ref 43]) (w' := (hp (mg_up u1511 49 (((x1 + 3) + (2 * x2)).toNatClampNeg) 0) fL fD, c, z)) rfl ?_
              refine mg_Ev.br (P := (0 : Int32) = 0) (t := 160) (nx := 156) (st' := [.int ((mg_up u1511 49 (((x1 + 3) + (2 * x2)).toNatClampNeg) 0) 42 13), .ref 43]) rfl rfl rfl rfl (fun _ => ?_) (fun q => absurd (by decide) q)
              refine mg_Ev.go 2 (pc' := 162) (loc' := [some (.ref 43), some (.int x1), some (.int (x2 + 1)), some (.int 0)]) (st' := [.int (((mg_up u1511 49 (((x1 + 3) + (2 * x2)).toNatClampNeg) 0) 42 13) + 0), .ref 43]) (w' := (hp (mg_up u1511 49 (((x1 + 3) + (2 * x2)).toNatClampNeg) 0) fL fD, c, z)) rfl ?_
              refine mg_Ev.put rfl (hpg_42 _ _ _) (Nat.le_of_ble_eq_true rfl) rfl (hpf_42_13 _ _ _ _ _ _) ?_
              refine mg_Ev.go 1 (pc' := 60) (loc' := [some (.ref 43), some (.int x1), some (.int (x2 + 1)), some (.int 0)]) (st' := []) (w' := (hp (mg_up (mg_up u1511 49 (((x1 + 3) + (2 * x2)).toNatClampNeg) 0) 42 13 (((mg_up u1511 49 (((x1 + 3) + (2 * x2)).toNatClampNeg) 0) 42 13) + 0)) fL fD, c, z)) rfl ?_
              exact mg_Ev.more (loc := [some (.ref 43), some (.int x1), some (.int (x2 + 1)), some (.int 0)]) (ih _ _ _ _ _ h _ K) ⟨rfl, ⟨rfl, ⟨rfl, ⟨rfl, trivial⟩⟩⟩⟩

def M_readsEntry (a0 : Int32) (u : mg_Rg) : Option (mg_Rg) :=
  (M_readsCode u).bind fun p1502 => match p1502 with
  | (v1500, u1501) =>
    if a0 < 0 ∨ 840 ≤ a0.toNatClampNeg then none else
    (M_reads 120 (mg_up u1501 49 a0.toNatClampNeg v1500)).bind fun u1503 =>
    if (u1503 42 14) = 0 then
    (M_readsNumber u1503).bind fun p1506 => match p1506 with
      | (v1504, u1505) =>
        if (a0 + 1) < 0 ∨ 840 ≤ (a0 + 1).toNatClampNeg then none else
        (M_reads 64 (mg_up u1505 49 ((a0 + 1).toNatClampNeg) v1504)).bind fun u1507 =>
        if (u1507 42 14) = 0 then
        (M_readsEntry_L60 mg_F a0 0 1 u1507).bind fun q3733 => match q3733 with
          | (x1517, u1518) =>
            if (a0 + 10) < 0 ∨ 840 ≤ (a0 + 10).toNatClampNeg then none else
            if (a0 + 11) < 0 ∨ 840 ≤ (a0 + 11).toNatClampNeg then none else
            if ((mg_up (mg_up u1518 49 ((a0 + 10).toNatClampNeg) 0) 49 ((a0 + 11).toNatClampNeg) (-1)) 42 14) = 0 then
            (M_here (mg_up (mg_up u1518 49 ((a0 + 10).toNatClampNeg) 0) 49 ((a0 + 11).toNatClampNeg) (-1))).bind fun v1519 =>
              if v1519 = 33 then
              (M_readsDigit 48 57 (mg_up (mg_up (mg_up u1518 49 ((a0 + 10).toNatClampNeg) 0) 49 ((a0 + 11).toNatClampNeg) (-1)) 42 13 (((mg_up (mg_up u1518 49 ((a0 + 10).toNatClampNeg) 0) 49 ((a0 + 11).toNatClampNeg) (-1)) 42 13) + 1))).bind fun p1522 => match p1522 with
                | (v1520, u1521) =>
                  if (a0 + 10) < 0 ∨ 840 ≤ (a0 + 10).toNatClampNeg then none else
                  if ((mg_up u1521 49 ((a0 + 10).toNatClampNeg) v1520) 42 14) = 0 then
                  (M_here (mg_up u1521 49 ((a0 + 10).toNatClampNeg) v1520)).bind fun v1523 =>
                    if v1523 = 35 then
                    (M_readsDigit 48 57 (mg_up (mg_up u1521 49 ((a0 + 10).toNatClampNeg) v1520) 42 13 (((mg_up u1521 49 ((a0 + 10).toNatClampNeg) v1520) 42 13) + 1))).bind fun p1526 => match p1526 with
                      | (v1524, u1525) =>
                        if (a0 + 11) < 0 ∨ 840 ≤ (a0 + 11).toNatClampNeg then none else
                        if (a0 + 12) < 0 ∨ 840 ≤ (a0 + 12).toNatClampNeg then none else
                        some (mg_up (mg_up u1525 49 ((a0 + 11).toNatClampNeg) v1524) 49 ((a0 + 12).toNatClampNeg) x1517)
                    else
                    if (a0 + 12) < 0 ∨ 840 ≤ (a0 + 12).toNatClampNeg then none else
                      some (mg_up (mg_up u1521 49 ((a0 + 10).toNatClampNeg) v1520) 49 ((a0 + 12).toNatClampNeg) x1517)
                  else
                  if (a0 + 12) < 0 ∨ 840 ≤ (a0 + 12).toNatClampNeg then none else
                    some (mg_up (mg_up u1521 49 ((a0 + 10).toNatClampNeg) v1520) 49 ((a0 + 12).toNatClampNeg) x1517)
              else
              if ((mg_up (mg_up u1518 49 ((a0 + 10).toNatClampNeg) 0) 49 ((a0 + 11).toNatClampNeg) (-1)) 42 14) = 0 then
                (M_here (mg_up (mg_up u1518 49 ((a0 + 10).toNatClampNeg) 0) 49 ((a0 + 11).toNatClampNeg) (-1))).bind fun v1527 =>
                  if v1527 = 35 then
                  (M_readsDigit 48 57 (mg_up (mg_up (mg_up u1518 49 ((a0 + 10).toNatClampNeg) 0) 49 ((a0 + 11).toNatClampNeg) (-1)) 42 13 (((mg_up (mg_up u1518 49 ((a0 + 10).toNatClampNeg) 0) 49 ((a0 + 11).toNatClampNeg) (-1)) 42 13) + 1))).bind fun p1530 => match p1530 with
                    | (v1528, u1529) =>
                      if (a0 + 11) < 0 ∨ 840 ≤ (a0 + 11).toNatClampNeg then none else
                      if (a0 + 12) < 0 ∨ 840 ≤ (a0 + 12).toNatClampNeg then none else
                      some (mg_up (mg_up u1529 49 ((a0 + 11).toNatClampNeg) v1528) 49 ((a0 + 12).toNatClampNeg) x1517)
                  else
                  if (a0 + 12) < 0 ∨ 840 ≤ (a0 + 12).toNatClampNeg then none else
                    some (mg_up (mg_up (mg_up u1518 49 ((a0 + 10).toNatClampNeg) 0) 49 ((a0 + 11).toNatClampNeg) (-1)) 49 ((a0 + 12).toNatClampNeg) x1517)
                else
                if (a0 + 12) < 0 ∨ 840 ≤ (a0 + 12).toNatClampNeg then none else
                  some (mg_up (mg_up (mg_up u1518 49 ((a0 + 10).toNatClampNeg) 0) 49 ((a0 + 11).toNatClampNeg) (-1)) 49 ((a0 + 12).toNatClampNeg) x1517)
            else
            if ((mg_up (mg_up u1518 49 ((a0 + 10).toNatClampNeg) 0) 49 ((a0 + 11).toNatClampNeg) (-1)) 42 14) = 0 then
              (M_here (mg_up (mg_up u1518 49 ((a0 + 10).toNatClampNeg) 0) 49 ((a0 + 11).toNatClampNeg) (-1))).bind fun v1531 =>
                if v1531 = 35 then
                (M_readsDigit 48 57 (mg_up (mg_up (mg_up u1518 49 ((a0 + 10).toNatClampNeg) 0) 49 ((a0 + 11).toNatClampNeg) (-1)) 42 13 (((mg_up (mg_up u1518 49 ((a0 + 10).toNatClampNeg) 0) 49 ((a0 + 11).toNatClampNeg) (-1)) 42 13) + 1))).bind fun p1534 => match p1534 with
                  | (v1532, u1533) =>
                    if (a0 + 11) < 0 ∨ 840 ≤ (a0 + 11).toNatClampNeg then none else
                    if (a0 + 12) < 0 ∨ 840 ≤ (a0 + 12).toNatClampNeg then none else
                    some (mg_up (mg_up u1533 49 ((a0 + 11).toNatClampNeg) v1532) 49 ((a0 + 12).toNatClampNeg) x1517)
                else
                if (a0 + 12) < 0 ∨ 840 ≤ (a0 + 12).toNatClampNeg then none else
                  some (mg_up (mg_up (mg_up u1518 49 ((a0 + 10).toNatClampNeg) 0) 49 ((a0 + 11).toNatClampNeg) (-1)) 49 ((a0 + 12).toNatClampNeg) x1517)
              else
              if (a0 + 12) < 0 ∨ 840 ≤ (a0 + 12).toNatClampNeg then none else
                some (mg_up (mg_up (mg_up u1518 49 ((a0 + 10).toNatClampNeg) 0) 49 ((a0 + 11).toNatClampNeg) (-1)) 49 ((a0 + 12).toNatClampNeg) x1517)
        else
        (M_readsEntry_L60 mg_F a0 0 0 u1507).bind fun q3734 => match q3734 with
          | (x1535, u1536) =>
            if (a0 + 10) < 0 ∨ 840 ≤ (a0 + 10).toNatClampNeg then none else
            if (a0 + 11) < 0 ∨ 840 ≤ (a0 + 11).toNatClampNeg then none else
            if ((mg_up (mg_up u1536 49 ((a0 + 10).toNatClampNeg) 0) 49 ((a0 + 11).toNatClampNeg) (-1)) 42 14) = 0 then
            (M_here (mg_up (mg_up u1536 49 ((a0 + 10).toNatClampNeg) 0) 49 ((a0 + 11).toNatClampNeg) (-1))).bind fun v1537 =>
              if v1537 = 33 then
              (M_readsDigit 48 57 (mg_up (mg_up (mg_up u1536 49 ((a0 + 10).toNatClampNeg) 0) 49 ((a0 + 11).toNatClampNeg) (-1)) 42 13 (((mg_up (mg_up u1536 49 ((a0 + 10).toNatClampNeg) 0) 49 ((a0 + 11).toNatClampNeg) (-1)) 42 13) + 1))).bind fun p1540 => match p1540 with
                | (v1538, u1539) =>
                  if (a0 + 10) < 0 ∨ 840 ≤ (a0 + 10).toNatClampNeg then none else
                  if ((mg_up u1539 49 ((a0 + 10).toNatClampNeg) v1538) 42 14) = 0 then
                  (M_here (mg_up u1539 49 ((a0 + 10).toNatClampNeg) v1538)).bind fun v1541 =>
                    if v1541 = 35 then
                    (M_readsDigit 48 57 (mg_up (mg_up u1539 49 ((a0 + 10).toNatClampNeg) v1538) 42 13 (((mg_up u1539 49 ((a0 + 10).toNatClampNeg) v1538) 42 13) + 1))).bind fun p1544 => match p1544 with
                      | (v1542, u1543) =>
                        if (a0 + 11) < 0 ∨ 840 ≤ (a0 + 11).toNatClampNeg then none else
                        if (a0 + 12) < 0 ∨ 840 ≤ (a0 + 12).toNatClampNeg then none else
                        some (mg_up (mg_up u1543 49 ((a0 + 11).toNatClampNeg) v1542) 49 ((a0 + 12).toNatClampNeg) x1535)
                    else
                    if (a0 + 12) < 0 ∨ 840 ≤ (a0 + 12).toNatClampNeg then none else
                      some (mg_up (mg_up u1539 49 ((a0 + 10).toNatClampNeg) v1538) 49 ((a0 + 12).toNatClampNeg) x1535)
                  else
                  if (a0 + 12) < 0 ∨ 840 ≤ (a0 + 12).toNatClampNeg then none else
                    some (mg_up (mg_up u1539 49 ((a0 + 10).toNatClampNeg) v1538) 49 ((a0 + 12).toNatClampNeg) x1535)
              else
              if ((mg_up (mg_up u1536 49 ((a0 + 10).toNatClampNeg) 0) 49 ((a0 + 11).toNatClampNeg) (-1)) 42 14) = 0 then
                (M_here (mg_up (mg_up u1536 49 ((a0 + 10).toNatClampNeg) 0) 49 ((a0 + 11).toNatClampNeg) (-1))).bind fun v1545 =>
                  if v1545 = 35 then
                  (M_readsDigit 48 57 (mg_up (mg_up (mg_up u1536 49 ((a0 + 10).toNatClampNeg) 0) 49 ((a0 + 11).toNatClampNeg) (-1)) 42 13 (((mg_up (mg_up u1536 49 ((a0 + 10).toNatClampNeg) 0) 49 ((a0 + 11).toNatClampNeg) (-1)) 42 13) + 1))).bind fun p1548 => match p1548 with
                    | (v1546, u1547) =>
                      if (a0 + 11) < 0 ∨ 840 ≤ (a0 + 11).toNatClampNeg then none else
                      if (a0 + 12) < 0 ∨ 840 ≤ (a0 + 12).toNatClampNeg then none else
                      some (mg_up (mg_up u1547 49 ((a0 + 11).toNatClampNeg) v1546) 49 ((a0 + 12).toNatClampNeg) x1535)
                  else
                  if (a0 + 12) < 0 ∨ 840 ≤ (a0 + 12).toNatClampNeg then none else
                    some (mg_up (mg_up (mg_up u1536 49 ((a0 + 10).toNatClampNeg) 0) 49 ((a0 + 11).toNatClampNeg) (-1)) 49 ((a0 + 12).toNatClampNeg) x1535)
                else
                if (a0 + 12) < 0 ∨ 840 ≤ (a0 + 12).toNatClampNeg then none else
                  some (mg_up (mg_up (mg_up u1536 49 ((a0 + 10).toNatClampNeg) 0) 49 ((a0 + 11).toNatClampNeg) (-1)) 49 ((a0 + 12).toNatClampNeg) x1535)
            else
            if ((mg_up (mg_up u1536 49 ((a0 + 10).toNatClampNeg) 0) 49 ((a0 + 11).toNatClampNeg) (-1)) 42 14) = 0 then
              (M_here (mg_up (mg_up u1536 49 ((a0 + 10).toNatClampNeg) 0) 49 ((a0 + 11).toNatClampNeg) (-1))).bind fun v1549 =>
                if v1549 = 35 then
                (M_readsDigit 48 57 (mg_up (mg_up (mg_up u1536 49 ((a0 + 10).toNatClampNeg) 0) 49 ((a0 + 11).toNatClampNeg) (-1)) 42 13 (((mg_up (mg_up u1536 49 ((a0 + 10).toNatClampNeg) 0) 49 ((a0 + 11).toNatClampNeg) (-1)) 42 13) + 1))).bind fun p1552 => match p1552 with
                  | (v1550, u1551) =>
                    if (a0 + 11) < 0 ∨ 840 ≤ (a0 + 11).toNatClampNeg then none else
                    if (a0 + 12) < 0 ∨ 840 ≤ (a0 + 12).toNatClampNeg then none else
                    some (mg_up (mg_up u1551 49 ((a0 + 11).toNatClampNeg) v1550) 49 ((a0 + 12).toNatClampNeg) x1535)
                else
                if (a0 + 12) < 0 ∨ 840 ≤ (a0 + 12).toNatClampNeg then none else
                  some (mg_up (mg_up (mg_up u1536 49 ((a0 + 10).toNatClampNeg) 0) 49 ((a0 + 11).toNatClampNeg) (-1)) 49 ((a0 + 12).toNatClampNeg) x1535)
              else
              if (a0 + 12) < 0 ∨ 840 ≤ (a0 + 12).toNatClampNeg then none else
                some (mg_up (mg_up (mg_up u1536 49 ((a0 + 10).toNatClampNeg) 0) 49 ((a0 + 11).toNatClampNeg) (-1)) 49 ((a0 + 12).toNatClampNeg) x1535)
    else
    if (a0 + 1) < 0 ∨ 840 ≤ (a0 + 1).toNatClampNeg then none else
      (M_reads 64 (mg_up u1503 49 ((a0 + 1).toNatClampNeg) 0)).bind fun u1553 =>
      if (u1553 42 14) = 0 then
      (M_readsEntry_L60 mg_F a0 0 1 u1553).bind fun q3735 => match q3735 with
        | (x1554, u1555) =>
          if (a0 + 10) < 0 ∨ 840 ≤ (a0 + 10).toNatClampNeg then none else
          if (a0 + 11) < 0 ∨ 840 ≤ (a0 + 11).toNatClampNeg then none else
          if ((mg_up (mg_up u1555 49 ((a0 + 10).toNatClampNeg) 0) 49 ((a0 + 11).toNatClampNeg) (-1)) 42 14) = 0 then
          (M_here (mg_up (mg_up u1555 49 ((a0 + 10).toNatClampNeg) 0) 49 ((a0 + 11).toNatClampNeg) (-1))).bind fun v1556 =>
            if v1556 = 33 then
            (M_readsDigit 48 57 (mg_up (mg_up (mg_up u1555 49 ((a0 + 10).toNatClampNeg) 0) 49 ((a0 + 11).toNatClampNeg) (-1)) 42 13 (((mg_up (mg_up u1555 49 ((a0 + 10).toNatClampNeg) 0) 49 ((a0 + 11).toNatClampNeg) (-1)) 42 13) + 1))).bind fun p1559 => match p1559 with
              | (v1557, u1558) =>
                if (a0 + 10) < 0 ∨ 840 ≤ (a0 + 10).toNatClampNeg then none else
                if ((mg_up u1558 49 ((a0 + 10).toNatClampNeg) v1557) 42 14) = 0 then
                (M_here (mg_up u1558 49 ((a0 + 10).toNatClampNeg) v1557)).bind fun v1560 =>
                  if v1560 = 35 then
                  (M_readsDigit 48 57 (mg_up (mg_up u1558 49 ((a0 + 10).toNatClampNeg) v1557) 42 13 (((mg_up u1558 49 ((a0 + 10).toNatClampNeg) v1557) 42 13) + 1))).bind fun p1563 => match p1563 with
                    | (v1561, u1562) =>
                      if (a0 + 11) < 0 ∨ 840 ≤ (a0 + 11).toNatClampNeg then none else
                      if (a0 + 12) < 0 ∨ 840 ≤ (a0 + 12).toNatClampNeg then none else
                      some (mg_up (mg_up u1562 49 ((a0 + 11).toNatClampNeg) v1561) 49 ((a0 + 12).toNatClampNeg) x1554)
                  else
                  if (a0 + 12) < 0 ∨ 840 ≤ (a0 + 12).toNatClampNeg then none else
                    some (mg_up (mg_up u1558 49 ((a0 + 10).toNatClampNeg) v1557) 49 ((a0 + 12).toNatClampNeg) x1554)
                else
                if (a0 + 12) < 0 ∨ 840 ≤ (a0 + 12).toNatClampNeg then none else
                  some (mg_up (mg_up u1558 49 ((a0 + 10).toNatClampNeg) v1557) 49 ((a0 + 12).toNatClampNeg) x1554)
            else
            if ((mg_up (mg_up u1555 49 ((a0 + 10).toNatClampNeg) 0) 49 ((a0 + 11).toNatClampNeg) (-1)) 42 14) = 0 then
              (M_here (mg_up (mg_up u1555 49 ((a0 + 10).toNatClampNeg) 0) 49 ((a0 + 11).toNatClampNeg) (-1))).bind fun v1564 =>
                if v1564 = 35 then
                (M_readsDigit 48 57 (mg_up (mg_up (mg_up u1555 49 ((a0 + 10).toNatClampNeg) 0) 49 ((a0 + 11).toNatClampNeg) (-1)) 42 13 (((mg_up (mg_up u1555 49 ((a0 + 10).toNatClampNeg) 0) 49 ((a0 + 11).toNatClampNeg) (-1)) 42 13) + 1))).bind fun p1567 => match p1567 with
                  | (v1565, u1566) =>
                    if (a0 + 11) < 0 ∨ 840 ≤ (a0 + 11).toNatClampNeg then none else
                    if (a0 + 12) < 0 ∨ 840 ≤ (a0 + 12).toNatClampNeg then none else
                    some (mg_up (mg_up u1566 49 ((a0 + 11).toNatClampNeg) v1565) 49 ((a0 + 12).toNatClampNeg) x1554)
                else
                if (a0 + 12) < 0 ∨ 840 ≤ (a0 + 12).toNatClampNeg then none else
                  some (mg_up (mg_up (mg_up u1555 49 ((a0 + 10).toNatClampNeg) 0) 49 ((a0 + 11).toNatClampNeg) (-1)) 49 ((a0 + 12).toNatClampNeg) x1554)
              else
              if (a0 + 12) < 0 ∨ 840 ≤ (a0 + 12).toNatClampNeg then none else
                some (mg_up (mg_up (mg_up u1555 49 ((a0 + 10).toNatClampNeg) 0) 49 ((a0 + 11).toNatClampNeg) (-1)) 49 ((a0 + 12).toNatClampNeg) x1554)
          else
          if ((mg_up (mg_up u1555 49 ((a0 + 10).toNatClampNeg) 0) 49 ((a0 + 11).toNatClampNeg) (-1)) 42 14) = 0 then
            (M_here (mg_up (mg_up u1555 49 ((a0 + 10).toNatClampNeg) 0) 49 ((a0 + 11).toNatClampNeg) (-1))).bind fun v1568 =>
              if v1568 = 35 then
              (M_readsDigit 48 57 (mg_up (mg_up (mg_up u1555 49 ((a0 + 10).toNatClampNeg) 0) 49 ((a0 + 11).toNatClampNeg) (-1)) 42 13 (((mg_up (mg_up u1555 49 ((a0 + 10).toNatClampNeg) 0) 49 ((a0 + 11).toNatClampNeg) (-1)) 42 13) + 1))).bind fun p1571 => match p1571 with
                | (v1569, u1570) =>
                  if (a0 + 11) < 0 ∨ 840 ≤ (a0 + 11).toNatClampNeg then none else
                  if (a0 + 12) < 0 ∨ 840 ≤ (a0 + 12).toNatClampNeg then none else
                  some (mg_up (mg_up u1570 49 ((a0 + 11).toNatClampNeg) v1569) 49 ((a0 + 12).toNatClampNeg) x1554)
              else
              if (a0 + 12) < 0 ∨ 840 ≤ (a0 + 12).toNatClampNeg then none else
                some (mg_up (mg_up (mg_up u1555 49 ((a0 + 10).toNatClampNeg) 0) 49 ((a0 + 11).toNatClampNeg) (-1)) 49 ((a0 + 12).toNatClampNeg) x1554)
            else
            if (a0 + 12) < 0 ∨ 840 ≤ (a0 + 12).toNatClampNeg then none else
              some (mg_up (mg_up (mg_up u1555 49 ((a0 + 10).toNatClampNeg) 0) 49 ((a0 + 11).toNatClampNeg) (-1)) 49 ((a0 + 12).toNatClampNeg) x1554)
      else
      (M_readsEntry_L60 mg_F a0 0 0 u1553).bind fun q3736 => match q3736 with
        | (x1572, u1573) =>
          if (a0 + 10) < 0 ∨ 840 ≤ (a0 + 10).toNatClampNeg then none else
          if (a0 + 11) < 0 ∨ 840 ≤ (a0 + 11).toNatClampNeg then none else
          if ((mg_up (mg_up u1573 49 ((a0 + 10).toNatClampNeg) 0) 49 ((a0 + 11).toNatClampNeg) (-1)) 42 14) = 0 then
          (M_here (mg_up (mg_up u1573 49 ((a0 + 10).toNatClampNeg) 0) 49 ((a0 + 11).toNatClampNeg) (-1))).bind fun v1574 =>
            if v1574 = 33 then
            (M_readsDigit 48 57 (mg_up (mg_up (mg_up u1573 49 ((a0 + 10).toNatClampNeg) 0) 49 ((a0 + 11).toNatClampNeg) (-1)) 42 13 (((mg_up (mg_up u1573 49 ((a0 + 10).toNatClampNeg) 0) 49 ((a0 + 11).toNatClampNeg) (-1)) 42 13) + 1))).bind fun p1577 => match p1577 with
              | (v1575, u1576) =>
                if (a0 + 10) < 0 ∨ 840 ≤ (a0 + 10).toNatClampNeg then none else
                if ((mg_up u1576 49 ((a0 + 10).toNatClampNeg) v1575) 42 14) = 0 then
                (M_here (mg_up u1576 49 ((a0 + 10).toNatClampNeg) v1575)).bind fun v1578 =>
                  if v1578 = 35 then
                  (M_readsDigit 48 57 (mg_up (mg_up u1576 49 ((a0 + 10).toNatClampNeg) v1575) 42 13 (((mg_up u1576 49 ((a0 + 10).toNatClampNeg) v1575) 42 13) + 1))).bind fun p1581 => match p1581 with
                    | (v1579, u1580) =>
                      if (a0 + 11) < 0 ∨ 840 ≤ (a0 + 11).toNatClampNeg then none else
                      if (a0 + 12) < 0 ∨ 840 ≤ (a0 + 12).toNatClampNeg then none else
                      some (mg_up (mg_up u1580 49 ((a0 + 11).toNatClampNeg) v1579) 49 ((a0 + 12).toNatClampNeg) x1572)
                  else
                  if (a0 + 12) < 0 ∨ 840 ≤ (a0 + 12).toNatClampNeg then none else
                    some (mg_up (mg_up u1576 49 ((a0 + 10).toNatClampNeg) v1575) 49 ((a0 + 12).toNatClampNeg) x1572)
                else
                if (a0 + 12) < 0 ∨ 840 ≤ (a0 + 12).toNatClampNeg then none else
                  some (mg_up (mg_up u1576 49 ((a0 + 10).toNatClampNeg) v1575) 49 ((a0 + 12).toNatClampNeg) x1572)
            else
            if ((mg_up (mg_up u1573 49 ((a0 + 10).toNatClampNeg) 0) 49 ((a0 + 11).toNatClampNeg) (-1)) 42 14) = 0 then
              (M_here (mg_up (mg_up u1573 49 ((a0 + 10).toNatClampNeg) 0) 49 ((a0 + 11).toNatClampNeg) (-1))).bind fun v1582 =>
                if v1582 = 35 then
                (M_readsDigit 48 57 (mg_up (mg_up (mg_up u1573 49 ((a0 + 10).toNatClampNeg) 0) 49 ((a0 + 11).toNatClampNeg) (-1)) 42 13 (((mg_up (mg_up u1573 49 ((a0 + 10).toNatClampNeg) 0) 49 ((a0 + 11).toNatClampNeg) (-1)) 42 13) + 1))).bind fun p1585 => match p1585 with
                  | (v1583, u1584) =>
                    if (a0 + 11) < 0 ∨ 840 ≤ (a0 + 11).toNatClampNeg then none else
                    if (a0 + 12) < 0 ∨ 840 ≤ (a0 + 12).toNatClampNeg then none else
                    some (mg_up (mg_up u1584 49 ((a0 + 11).toNatClampNeg) v1583) 49 ((a0 + 12).toNatClampNeg) x1572)
                else
                if (a0 + 12) < 0 ∨ 840 ≤ (a0 + 12).toNatClampNeg then none else
                  some (mg_up (mg_up (mg_up u1573 49 ((a0 + 10).toNatClampNeg) 0) 49 ((a0 + 11).toNatClampNeg) (-1)) 49 ((a0 + 12).toNatClampNeg) x1572)
              else
              if (a0 + 12) < 0 ∨ 840 ≤ (a0 + 12).toNatClampNeg then none else
                some (mg_up (mg_up (mg_up u1573 49 ((a0 + 10).toNatClampNeg) 0) 49 ((a0 + 11).toNatClampNeg) (-1)) 49 ((a0 + 12).toNatClampNeg) x1572)
          else
          if ((mg_up (mg_up u1573 49 ((a0 + 10).toNatClampNeg) 0) 49 ((a0 + 11).toNatClampNeg) (-1)) 42 14) = 0 then
            (M_here (mg_up (mg_up u1573 49 ((a0 + 10).toNatClampNeg) 0) 49 ((a0 + 11).toNatClampNeg) (-1))).bind fun v1586 =>
              if v1586 = 35 then
              (M_readsDigit 48 57 (mg_up (mg_up (mg_up u1573 49 ((a0 + 10).toNatClampNeg) 0) 49 ((a0 + 11).toNatClampNeg) (-1)) 42 13 (((mg_up (mg_up u1573 49 ((a0 + 10).toNatClampNeg) 0) 49 ((a0 + 11).toNatClampNeg) (-1)) 42 13) + 1))).bind fun p1589 => match p1589 with
                | (v1587, u1588) =>
                  if (a0 + 11) < 0 ∨ 840 ≤ (a0 + 11).toNatClampNeg then none else
                  if (a0 + 12) < 0 ∨ 840 ≤ (a0 + 12).toNatClampNeg then none else
                  some (mg_up (mg_up u1588 49 ((a0 + 11).toNatClampNeg) v1587) 49 ((a0 + 12).toNatClampNeg) x1572)
              else
              if (a0 + 12) < 0 ∨ 840 ≤ (a0 + 12).toNatClampNeg then none else
                some (mg_up (mg_up (mg_up u1573 49 ((a0 + 10).toNatClampNeg) 0) 49 ((a0 + 11).toNatClampNeg) (-1)) 49 ((a0 + 12).toNatClampNeg) x1572)
            else
            if (a0 + 12) < 0 ∨ 840 ≤ (a0 + 12).toNatClampNeg then none else
              some (mg_up (mg_up (mg_up u1573 49 ((a0 + 10).toNatClampNeg) 0) 49 ((a0 + 11).toNatClampNeg) (-1)) 49 ((a0 + 12).toNatClampNeg) x1572)

set_option maxRecDepth 10000 in
set_option maxHeartbeats 4000000 in
theorem ev_M_readsEntry {sc : mg_Sc} {c z : Nat} {fL : Nat → Int64} {fD : Nat → UInt64} {a0 : Int32} {u : mg_Rg} {v : mg_Rg} (h : M_readsEntry a0 u = some v) : mg_Ev sc 3 133 0 (mg_entry 133 [.ref 43, .int a0]) [] (hp u fL fD, c, z) (.inl none, (hp v fL fD, c, z)) := by
  unfold M_readsEntry at h
  show mg_Ev _ _ _ 0 [some (.ref 43), some (.int a0), none, none] [] _ _
  refine mg_Ev.go 4 (pc' := 6) (loc' := [some (.ref 43), some (.int a0), none, none]) (st' := [.ref 43, .int a0, .ref 50]) (w' := (hp u fL fD, c, z)) rfl ?_
  obtain ⟨⟨v1500, u1501⟩, hf3737, h⟩ := Option.bind_eq_some_iff.mp h
  try dsimp only at h
  refine mg_Ev.call (y := 131) (as := [.ref 43]) (rest := [.int a0, .ref 50]) (v := some (.int v1500)) (w1 := (hp u1501 fL fD, c, z)) rfl rfl (Nat.le_of_ble_eq_true rfl) ((ev_M_readsCode hf3737).deep (by decide)) ?_
  by_cases hb3738 : a0 < 0 ∨ 840 ≤ a0.toNatClampNeg
  · rw [if_pos hb3738] at h
    cases h
  · rw [if_neg hb3738] at h
    refine mg_Ev.iast (a := 49) (n := 840) rfl (hpg_49 _ _ _) rfl hb3738 (hpa_49 _ _ _ _ _ _ _) ?_
    refine mg_Ev.go 2 (pc' := 13) (loc' := [some (.ref 43), some (.int a0), none, none]) (st' := [.int 120, .ref 43]) (w' := (hp (mg_up u1501 49 a0.toNatClampNeg v1500) fL fD, c, z)) rfl ?_
    obtain ⟨u1503, hf3739, h⟩ := Option.bind_eq_some_iff.mp h
    refine mg_Ev.call (y := 129) (as := [.ref 43, .int 120]) (rest := []) (v := none) (w1 := (hp u1503 fL fD, c, z)) rfl rfl (Nat.le_of_ble_eq_true rfl) ((ev_M_reads hf3739).deep (by decide)) ?_
    refine mg_Ev.go 7 (pc' := 27) (loc' := [some (.ref 43), some (.int a0), none, none]) (st' := [.int (u1503 42 14), .int (a0 + 1), .ref 50]) (w' := (hp u1503 fL fD, c, z)) rfl ?_
    refine mg_Ev.br (P := (u1503 42 14) = 0) (t := 34) (nx := 30) (st' := [.int (a0 + 1), .ref 50]) rfl rfl rfl rfl (fun hc3740 => ?_) (fun hc3740 => ?_)
    · rw [if_pos hc3740] at h
      refine mg_Ev.go 1 (pc' := 35) (loc' := [some (.ref 43), some (.int a0), none, none]) (st' := [.ref 43, .int (a0 + 1), .ref 50]) (w' := (hp u1503 fL fD, c, z)) rfl ?_
      obtain ⟨⟨v1504, u1505⟩, hf3741, h⟩ := Option.bind_eq_some_iff.mp h
      try dsimp only at h
      refine mg_Ev.call (y := 132) (as := [.ref 43]) (rest := [.int (a0 + 1), .ref 50]) (v := some (.int v1504)) (w1 := (hp u1505 fL fD, c, z)) rfl rfl (Nat.le_of_ble_eq_true rfl) ((ev_M_readsNumber hf3741).deep (by decide)) ?_
      by_cases hb3742 : (a0 + 1) < 0 ∨ 840 ≤ (a0 + 1).toNatClampNeg
      · rw [if_pos hb3742] at h
        cases h
      · rw [if_neg hb3742] at h
        refine mg_Ev.iast (a := 49) (n := 840) rfl (hpg_49 _ _ _) rfl hb3742 (hpa_49 _ _ _ _ _ _ _) ?_
        refine mg_Ev.go 2 (pc' := 42) (loc' := [some (.ref 43), some (.int a0), none, none]) (st' := [.int 64, .ref 43]) (w' := (hp (mg_up u1505 49 ((a0 + 1).toNatClampNeg) v1504) fL fD, c, z)) rfl ?_
        obtain ⟨u1507, hf3743, h⟩ := Option.bind_eq_some_iff.mp h
        refine mg_Ev.call (y := 129) (as := [.ref 43, .int 64]) (rest := []) (v := none) (w1 := (hp u1507 fL fD, c, z)) rfl rfl (Nat.le_of_ble_eq_true rfl) ((ev_M_reads hf3743).deep (by decide)) ?_
        refine mg_Ev.go 4 (pc' := 51) (loc' := [some (.ref 43), some (.int a0), some (.int 0), none]) (st' := [.int (u1507 42 14)]) (w' := (hp u1507 fL fD, c, z)) rfl ?_
        refine mg_Ev.br (P := (u1507 42 14) = 0) (t := 54) (nx := 58) (st' := []) rfl rfl rfl rfl (fun hc3744 => ?_) (fun hc3744 => ?_)
        · rw [if_pos hc3744] at h
          refine mg_Ev.go 3 (pc' := 60) (loc' := [some (.ref 43), some (.int a0), some (.int 0), some (.int 1)]) (st' := []) (w' := (hp u1507 fL fD, c, z)) rfl ?_
          obtain ⟨⟨x1517, u1518⟩, hl3745, h⟩ := Option.bind_eq_some_iff.mp h
          try dsimp only at h
          refine mg_Ev.more (loc := [some (.ref 43), some (.int a0), some (.int 0), some (.int 1)]) (ev_M_readsEntry_L60 _ _ _ _ _ _ hl3745 _ ?_) ⟨rfl, ⟨rfl, ⟨rfl, ⟨rfl, trivial⟩⟩⟩⟩
          show mg_Ev _ _ _ 168 [some (.ref 43), some (.int a0), some (.int x1517), none] [] (hp u1518 fL fD, c, z) _
          refine mg_Ev.go 6 (pc' := 177) (loc' := [some (.ref 43), some (.int a0), some (.int x1517), none]) (st' := [.int 0, .int (a0 + 10), .ref 50]) (w' := (hp u1518 fL fD, c, z)) rfl ?_
          by_cases hb3746 : (a0 + 10) < 0 ∨ 840 ≤ (a0 + 10).toNatClampNeg
          · rw [if_pos hb3746] at h
            cases h
          · rw [if_neg hb3746] at h
            refine mg_Ev.iast (a := 49) (n := 840) rfl (hpg_49 _ _ _) rfl hb3746 (hpa_49 _ _ _ _ _ _ _) ?_
            refine mg_Ev.go 6 (pc' := 187) (loc' := [some (.ref 43), some (.int a0), some (.int x1517), none]) (st' := [.int (-1), .int (a0 + 11), .ref 50]) (w' := (hp (mg_up u1518 49 ((a0 + 10).toNatClampNeg) 0) fL fD, c, z)) rfl ?_
            by_cases hb3747 : (a0 + 11) < 0 ∨ 840 ≤ (a0 + 11).toNatClampNeg
            · rw [if_pos hb3747] at h
              cases h
            · rw [if_neg hb3747] at h
              refine mg_Ev.iast (a := 49) (n := 840) rfl (hpg_49 _ _ _) rfl hb3747 (hpa_49 _ _ _ _ _ _ _) ?_
              refine mg_Ev.go 2 (pc' := 192) (loc' := [some (.ref 43), some (.int a0), some (.int x1517), none]) (st' := [.int ((mg_up (mg_up u1518 49 ((a0 + 10).toNatClampNeg) 0) 49 ((a0 + 11).toNatClampNeg) (-1)) 42 14)]) (w' := (hp (mg_up (mg_up u1518 49 ((a0 + 10).toNatClampNeg) 0) 49 ((a0 + 11).toNatClampNeg) (-1)) fL fD, c, z)) rfl ?_
              refine mg_Ev.br (P := ((mg_up (mg_up u1518 49 ((a0 + 10).toNatClampNeg) 0) 49 ((a0 + 11).toNatClampNeg) (-1)) 42 14) = 0) (t := 195) (nx := 231) (st' := []) rfl rfl rfl rfl (fun hc3748 => ?_) (fun hc3748 => ?_)
              · rw [if_pos hc3748] at h
                refine mg_Ev.go 1 (pc' := 196) (loc' := [some (.ref 43), some (.int a0), some (.int x1517), none]) (st' := [.ref 43]) (w' := (hp (mg_up (mg_up u1518 49 ((a0 + 10).toNatClampNeg) 0) 49 ((a0 + 11).toNatClampNeg) (-1)) fL fD, c, z)) rfl ?_
                obtain ⟨v1519, hf3749, h⟩ := Option.bind_eq_some_iff.mp h
                refine mg_Ev.call (y := 128) (as := [.ref 43]) (rest := []) (v := some (.int v1519)) (w1 := (hp (mg_up (mg_up u1518 49 ((a0 + 10).toNatClampNeg) 0) 49 ((a0 + 11).toNatClampNeg) (-1)) fL fD, c, z)) rfl rfl (Nat.le_of_ble_eq_true rfl) ((ev_M_here hf3749).deep (by decide)) ?_
                refine mg_Ev.go 1 (pc' := 201) (loc' := [some (.ref 43), some (.int a0), some (.int x1517), none]) (st' := [.int 33, .int v1519]) (w' := (hp (mg_up (mg_up u1518 49 ((a0 + 10).toNatClampNeg) 0) 49 ((a0 + 11).toNatClampNeg) (-1)) fL fD, c, z)) rfl ?_
                refine mg_Ev.br (P := v1519 = 33) (t := 204) (nx := 231) (st' := []) rfl rfl rfl rfl (fun hc3750 => ?_) (fun hc3750 => ?_)
                · rw [if_pos hc3750] at h
                  refine mg_Ev.go 5 (pc' := 211) (loc' := [some (.ref 43), some (.int a0), some (.int x1517), none]) (st' := [.int (((mg_up (mg_up u1518 49 ((a0 + 10).toNatClampNeg) 0) 49 ((a0 + 11).toNatClampNeg) (-1)) 42 13) + 1), .ref 43]) (w' := (hp (mg_up (mg_up u1518 49 ((a0 + 10).toNatClampNeg) 0) 49 ((a0 + 11).toNatClampNeg) (-1)) fL fD, c, z)) rfl ?_
                  refine mg_Ev.put rfl (hpg_42 _ _ _) (Nat.le_of_ble_eq_true rfl) rfl (hpf_42_13 _ _ _ _ _ _) ?_
                  refine mg_Ev.go 8 (pc' := 227) (loc' := [some (.ref 43), some (.int a0), some (.int x1517), none]) (st' := [.int 57, .int 48, .ref 43, .int (a0 + 10), .ref 50]) (w' := (hp (mg_up (mg_up (mg_up u1518 49 ((a0 + 10).toNatClampNeg) 0) 49 ((a0 + 11).toNatClampNeg) (-1)) 42 13 (((mg_up (mg_up u1518 49 ((a0 + 10).toNatClampNeg) 0) 49 ((a0 + 11).toNatClampNeg) (-1)) 42 13) + 1)) fL fD, c, z)) rfl ?_
                  obtain ⟨⟨v1520, u1521⟩, hf3751, h⟩ := Option.bind_eq_some_iff.mp h
                  try dsimp only at h
                  refine mg_Ev.call (y := 130) (as := [.ref 43, .int 48, .int 57]) (rest := [.int (a0 + 10), .ref 50]) (v := some (.int v1520)) (w1 := (hp u1521 fL fD, c, z)) rfl rfl (Nat.le_of_ble_eq_true rfl) ((ev_M_readsDigit hf3751).deep (by decide)) ?_
                  by_cases hb3752 : (a0 + 10) < 0 ∨ 840 ≤ (a0 + 10).toNatClampNeg
                  · rw [if_pos hb3752] at h
                    cases h
                  · rw [if_neg hb3752] at h
                    refine mg_Ev.iast (a := 49) (n := 840) rfl (hpg_49 _ _ _) rfl hb3752 (hpa_49 _ _ _ _ _ _ _) ?_
                    refine mg_Ev.go 2 (pc' := 235) (loc' := [some (.ref 43), some (.int a0), some (.int x1517), none]) (st' := [.int ((mg_up u1521 49 ((a0 + 10).toNatClampNeg) v1520) 42 14)]) (w' := (hp (mg_up u1521 49 ((a0 + 10).toNatClampNeg) v1520) fL fD, c, z)) rfl ?_
                    refine mg_Ev.br (P := ((mg_up u1521 49 ((a0 + 10).toNatClampNeg) v1520) 42 14) = 0) (t := 238) (nx := 274) (st' := []) rfl rfl rfl rfl (fun hc3753 => ?_) (fun hc3753 => ?_)
                    · rw [if_pos hc3753] at h
                      refine mg_Ev.go 1 (pc' := 239) (loc' := [some (.ref 43), some (.int a0), some (.int x1517), none]) (st' := [.ref 43]) (w' := (hp (mg_up u1521 49 ((a0 + 10).toNatClampNeg) v1520) fL fD, c, z)) rfl ?_
                      obtain ⟨v1523, hf3754, h⟩ := Option.bind_eq_some_iff.mp h
                      refine mg_Ev.call (y := 128) (as := [.ref 43]) (rest := []) (v := some (.int v1523)) (w1 := (hp (mg_up u1521 49 ((a0 + 10).toNatClampNeg) v1520) fL fD, c, z)) rfl rfl (Nat.le_of_ble_eq_true rfl) ((ev_M_here hf3754).deep (by decide)) ?_
                      refine mg_Ev.go 1 (pc' := 244) (loc' := [some (.ref 43), some (.int a0), some (.int x1517), none]) (st' := [.int 35, .int v1523]) (w' := (hp (mg_up u1521 49 ((a0 + 10).toNatClampNeg) v1520) fL fD, c, z)) rfl ?_
                      refine mg_Ev.br (P := v1523 = 35) (t := 247) (nx := 274) (st' := []) rfl rfl rfl rfl (fun hc3755 => ?_) (fun hc3755 => ?_)
                      · rw [if_pos hc3755] at h
                        refine mg_Ev.go 5 (pc' := 254) (loc' := [some (.ref 43), some (.int a0), some (.int x1517), none]) (st' := [.int (((mg_up u1521 49 ((a0 + 10).toNatClampNeg) v1520) 42 13) + 1), .ref 43]) (w' := (hp (mg_up u1521 49 ((a0 + 10).toNatClampNeg) v1520) fL fD, c, z)) rfl ?_
                        refine mg_Ev.put rfl (hpg_42 _ _ _) (Nat.le_of_ble_eq_true rfl) rfl (hpf_42_13 _ _ _ _ _ _) ?_
                        refine mg_Ev.go 8 (pc' := 270) (loc' := [some (.ref 43), some (.int a0), some (.int x1517), none]) (st' := [.int 57, .int 48, .ref 43, .int (a0 + 11), .ref 50]) (w' := (hp (mg_up (mg_up u1521 49 ((a0 + 10).toNatClampNeg) v1520) 42 13 (((mg_up u1521 49 ((a0 + 10).toNatClampNeg) v1520) 42 13) + 1)) fL fD, c, z)) rfl ?_
                        obtain ⟨⟨v1524, u1525⟩, hf3756, h⟩ := Option.bind_eq_some_iff.mp h
                        try dsimp only at h
                        refine mg_Ev.call (y := 130) (as := [.ref 43, .int 48, .int 57]) (rest := [.int (a0 + 11), .ref 50]) (v := some (.int v1524)) (w1 := (hp u1525 fL fD, c, z)) rfl rfl (Nat.le_of_ble_eq_true rfl) ((ev_M_readsDigit hf3756).deep (by decide)) ?_
                        by_cases hb3757 : (a0 + 11) < 0 ∨ 840 ≤ (a0 + 11).toNatClampNeg
                        · rw [if_pos hb3757] at h
                          cases h
                        · rw [if_neg hb3757] at h
                          refine mg_Ev.iast (a := 49) (n := 840) rfl (hpg_49 _ _ _) rfl hb3757 (hpa_49 _ _ _ _ _ _ _) ?_
                          refine mg_Ev.go 6 (pc' := 283) (loc' := [some (.ref 43), some (.int a0), some (.int x1517), none]) (st' := [.int x1517, .int (a0 + 12), .ref 50]) (w' := (hp (mg_up u1525 49 ((a0 + 11).toNatClampNeg) v1524) fL fD, c, z)) rfl ?_
                          by_cases hb3758 : (a0 + 12) < 0 ∨ 840 ≤ (a0 + 12).toNatClampNeg
                          · rw [if_pos hb3758] at h
                            cases h
                          · rw [if_neg hb3758] at h
                            refine mg_Ev.iast (a := 49) (n := 840) rfl (hpg_49 _ _ _) rfl hb3758 (hpa_49 _ _ _ _ _ _ _) ?_
                            cases h
                            exact mg_Ev.fin rfl rfl rfl
                      · rw [if_neg hc3755] at h
                        refine mg_Ev.go 6 (pc' := 283) (loc' := [some (.ref 43), some (.int a0), some (.int x1517), none]) (st' := [.int x1517, .int (a0 + 12), .ref 50]) (w' := (hp (mg_up u1521 49 ((a0 + 10).toNatClampNeg) v1520) fL fD, c, z)) rfl ?_
                        by_cases hb3759 : (a0 + 12) < 0 ∨ 840 ≤ (a0 + 12).toNatClampNeg
                        · rw [if_pos hb3759] at h
                          cases h
                        · rw [if_neg hb3759] at h
                          refine mg_Ev.iast (a := 49) (n := 840) rfl (hpg_49 _ _ _) rfl hb3759 (hpa_49 _ _ _ _ _ _ _) ?_
                          cases h
                          exact mg_Ev.fin rfl rfl rfl
                    · rw [if_neg hc3753] at h
                      refine mg_Ev.go 6 (pc' := 283) (loc' := [some (.ref 43), some (.int a0), some (.int x1517), none]) (st' := [.int x1517, .int (a0 + 12), .ref 50]) (w' := (hp (mg_up u1521 49 ((a0 + 10).toNatClampNeg) v1520) fL fD, c, z)) rfl ?_
                      by_cases hb3760 : (a0 + 12) < 0 ∨ 840 ≤ (a0 + 12).toNatClampNeg
                      · rw [if_pos hb3760] at h
                        cases h
                      · rw [if_neg hb3760] at h
                        refine mg_Ev.iast (a := 49) (n := 840) rfl (hpg_49 _ _ _) rfl hb3760 (hpa_49 _ _ _ _ _ _ _) ?_
                        cases h
                        exact mg_Ev.fin rfl rfl rfl
                · rw [if_neg hc3750] at h
                  refine mg_Ev.go 2 (pc' := 235) (loc' := [some (.ref 43), some (.int a0), some (.int x1517), none]) (st' := [.int ((mg_up (mg_up u1518 49 ((a0 + 10).toNatClampNeg) 0) 49 ((a0 + 11).toNatClampNeg) (-1)) 42 14)]) (w' := (hp (mg_up (mg_up u1518 49 ((a0 + 10).toNatClampNeg) 0) 49 ((a0 + 11).toNatClampNeg) (-1)) fL fD, c, z)) rfl ?_
                  refine mg_Ev.br (P := ((mg_up (mg_up u1518 49 ((a0 + 10).toNatClampNeg) 0) 49 ((a0 + 11).toNatClampNeg) (-1)) 42 14) = 0) (t := 238) (nx := 274) (st' := []) rfl rfl rfl rfl (fun hc3761 => ?_) (fun hc3761 => ?_)
                  · rw [if_pos hc3761] at h
                    refine mg_Ev.go 1 (pc' := 239) (loc' := [some (.ref 43), some (.int a0), some (.int x1517), none]) (st' := [.ref 43]) (w' := (hp (mg_up (mg_up u1518 49 ((a0 + 10).toNatClampNeg) 0) 49 ((a0 + 11).toNatClampNeg) (-1)) fL fD, c, z)) rfl ?_
                    obtain ⟨v1527, hf3762, h⟩ := Option.bind_eq_some_iff.mp h
                    refine mg_Ev.call (y := 128) (as := [.ref 43]) (rest := []) (v := some (.int v1527)) (w1 := (hp (mg_up (mg_up u1518 49 ((a0 + 10).toNatClampNeg) 0) 49 ((a0 + 11).toNatClampNeg) (-1)) fL fD, c, z)) rfl rfl (Nat.le_of_ble_eq_true rfl) ((ev_M_here hf3762).deep (by decide)) ?_
                    refine mg_Ev.go 1 (pc' := 244) (loc' := [some (.ref 43), some (.int a0), some (.int x1517), none]) (st' := [.int 35, .int v1527]) (w' := (hp (mg_up (mg_up u1518 49 ((a0 + 10).toNatClampNeg) 0) 49 ((a0 + 11).toNatClampNeg) (-1)) fL fD, c, z)) rfl ?_
                    refine mg_Ev.br (P := v1527 = 35) (t := 247) (nx := 274) (st' := []) rfl rfl rfl rfl (fun hc3763 => ?_) (fun hc3763 => ?_)
                    · rw [if_pos hc3763] at h
                      refine mg_Ev.go 5 (pc' := 254) (loc' := [some (.ref 43), some (.int a0), some (.int x1517), none]) (st' := [.int (((mg_up (mg_up u1518 49 ((a0 + 10).toNatClampNeg) 0) 49 ((a0 + 11).toNatClampNeg) (-1)) 42 13) + 1), .ref 43]) (w' := (hp (mg_up (mg_up u1518 49 ((a0 + 10).toNatClampNeg) 0) 49 ((a0 + 11).toNatClampNeg) (-1)) fL fD, c, z)) rfl ?_
                      refine mg_Ev.put rfl (hpg_42 _ _ _) (Nat.le_of_ble_eq_true rfl) rfl (hpf_42_13 _ _ _ _ _ _) ?_
                      refine mg_Ev.go 8 (pc' := 270) (loc' := [some (.ref 43), some (.int a0), some (.int x1517), none]) (st' := [.int 57, .int 48, .ref 43, .int (a0 + 11), .ref 50]) (w' := (hp (mg_up (mg_up (mg_up u1518 49 ((a0 + 10).toNatClampNeg) 0) 49 ((a0 + 11).toNatClampNeg) (-1)) 42 13 (((mg_up (mg_up u1518 49 ((a0 + 10).toNatClampNeg) 0) 49 ((a0 + 11).toNatClampNeg) (-1)) 42 13) + 1)) fL fD, c, z)) rfl ?_
                      obtain ⟨⟨v1528, u1529⟩, hf3764, h⟩ := Option.bind_eq_some_iff.mp h
                      try dsimp only at h
                      refine mg_Ev.call (y := 130) (as := [.ref 43, .int 48, .int 57]) (rest := [.int (a0 + 11), .ref 50]) (v := some (.int v1528)) (w1 := (hp u1529 fL fD, c, z)) rfl rfl (Nat.le_of_ble_eq_true rfl) ((ev_M_readsDigit hf3764).deep (by decide)) ?_
                      by_cases hb3765 : (a0 + 11) < 0 ∨ 840 ≤ (a0 + 11).toNatClampNeg
                      · rw [if_pos hb3765] at h
                        cases h
                      · rw [if_neg hb3765] at h
                        refine mg_Ev.iast (a := 49) (n := 840) rfl (hpg_49 _ _ _) rfl hb3765 (hpa_49 _ _ _ _ _ _ _) ?_
                        refine mg_Ev.go 6 (pc' := 283) (loc' := [some (.ref 43), some (.int a0), some (.int x1517), none]) (st' := [.int x1517, .int (a0 + 12), .ref 50]) (w' := (hp (mg_up u1529 49 ((a0 + 11).toNatClampNeg) v1528) fL fD, c, z)) rfl ?_
                        by_cases hb3766 : (a0 + 12) < 0 ∨ 840 ≤ (a0 + 12).toNatClampNeg
                        · rw [if_pos hb3766] at h
                          cases h
                        · rw [if_neg hb3766] at h
                          refine mg_Ev.iast (a := 49) (n := 840) rfl (hpg_49 _ _ _) rfl hb3766 (hpa_49 _ _ _ _ _ _ _) ?_
                          cases h
                          exact mg_Ev.fin rfl rfl rfl
                    · rw [if_neg hc3763] at h
                      refine mg_Ev.go 6 (pc' := 283) (loc' := [some (.ref 43), some (.int a0), some (.int x1517), none]) (st' := [.int x1517, .int (a0 + 12), .ref 50]) (w' := (hp (mg_up (mg_up u1518 49 ((a0 + 10).toNatClampNeg) 0) 49 ((a0 + 11).toNatClampNeg) (-1)) fL fD, c, z)) rfl ?_
                      by_cases hb3767 : (a0 + 12) < 0 ∨ 840 ≤ (a0 + 12).toNatClampNeg
                      · rw [if_pos hb3767] at h
                        cases h
                      · rw [if_neg hb3767] at h
                        refine mg_Ev.iast (a := 49) (n := 840) rfl (hpg_49 _ _ _) rfl hb3767 (hpa_49 _ _ _ _ _ _ _) ?_
                        cases h
                        exact mg_Ev.fin rfl rfl rfl
                  · rw [if_neg hc3761] at h
                    refine mg_Ev.go 6 (pc' := 283) (loc' := [some (.ref 43), some (.int a0), some (.int x1517), none]) (st' := [.int x1517, .int (a0 + 12), .ref 50]) (w' := (hp (mg_up (mg_up u1518 49 ((a0 + 10).toNatClampNeg) 0) 49 ((a0 + 11).toNatClampNeg) (-1)) fL fD, c, z)) rfl ?_
                    by_cases hb3768 : (a0 + 12) < 0 ∨ 840 ≤ (a0 + 12).toNatClampNeg
                    · rw [if_pos hb3768] at h
                      cases h
                    · rw [if_neg hb3768] at h
                      refine mg_Ev.iast (a := 49) (n := 840) rfl (hpg_49 _ _ _) rfl hb3768 (hpa_49 _ _ _ _ _ _ _) ?_
                      cases h
                      exact mg_Ev.fin rfl rfl rfl
              · rw [if_neg hc3748] at h
                refine mg_Ev.go 2 (pc' := 235) (loc' := [some (.ref 43), some (.int a0), some (.int x1517), none]) (st' := [.int ((mg_up (mg_up u1518 49 ((a0 + 10).toNatClampNeg) 0) 49 ((a0 + 11).toNatClampNeg) (-1)) 42 14)]) (w' := (hp (mg_up (mg_up u1518 49 ((a0 + 10).toNatClampNeg) 0) 49 ((a0 + 11).toNatClampNeg) (-1)) fL fD, c, z)) rfl ?_
                refine mg_Ev.br (P := ((mg_up (mg_up u1518 49 ((a0 + 10).toNatClampNeg) 0) 49 ((a0 + 11).toNatClampNeg) (-1)) 42 14) = 0) (t := 238) (nx := 274) (st' := []) rfl rfl rfl rfl (fun hc3769 => ?_) (fun hc3769 => ?_)
                · rw [if_pos hc3769] at h
                  refine mg_Ev.go 1 (pc' := 239) (loc' := [some (.ref 43), some (.int a0), some (.int x1517), none]) (st' := [.ref 43]) (w' := (hp (mg_up (mg_up u1518 49 ((a0 + 10).toNatClampNeg) 0) 49 ((a0 + 11).toNatClampNeg) (-1)) fL fD, c, z)) rfl ?_
                  obtain ⟨v1531, hf3770, h⟩ := Option.bind_eq_some_iff.mp h
                  refine mg_Ev.call (y := 128) (as := [.ref 43]) (rest := []) (v := some (.int v1531)) (w1 := (hp (mg_up (mg_up u1518 49 ((a0 + 10).toNatClampNeg) 0) 49 ((a0 + 11).toNatClampNeg) (-1)) fL fD, c, z)) rfl rfl (Nat.le_of_ble_eq_true rfl) ((ev_M_here hf3770).deep (by decide)) ?_
                  refine mg_Ev.go 1 (pc' := 244) (loc' := [some (.ref 43), some (.int a0), some (.int x1517), none]) (st' := [.int 35, .int v1531]) (w' := (hp (mg_up (mg_up u1518 49 ((a0 + 10).toNatClampNeg) 0) 49 ((a0 + 11).toNatClampNeg) (-1)) fL fD, c, z)) rfl ?_
                  refine mg_Ev.br (P := v1531 = 35) (t := 247) (nx := 274) (st' := []) rfl rfl rfl rfl (fun hc3771 => ?_) (fun hc3771 => ?_)
                  · rw [if_pos hc3771] at h
                    refine mg_Ev.go 5 (pc' := 254) (loc' := [some (.ref 43), some (.int a0), some (.int x1517), none]) (st' := [.int (((mg_up (mg_up u1518 49 ((a0 + 10).toNatClampNeg) 0) 49 ((a0 + 11).toNatClampNeg) (-1)) 42 13) + 1), .ref 43]) (w' := (hp (mg_up (mg_up u1518 49 ((a0 + 10).toNatClampNeg) 0) 49 ((a0 + 11).toNatClampNeg) (-1)) fL fD, c, z)) rfl ?_
                    refine mg_Ev.put rfl (hpg_42 _ _ _) (Nat.le_of_ble_eq_true rfl) rfl (hpf_42_13 _ _ _ _ _ _) ?_
                    refine mg_Ev.go 8 (pc' := 270) (loc' := [some (.ref 43), some (.int a0), some (.int x1517), none]) (st' := [.int 57, .int 48, .ref 43, .int (a0 + 11), .ref 50]) (w' := (hp (mg_up (mg_up (mg_up u1518 49 ((a0 + 10).toNatClampNeg) 0) 49 ((a0 + 11).toNatClampNeg) (-1)) 42 13 (((mg_up (mg_up u1518 49 ((a0 + 10).toNatClampNeg) 0) 49 ((a0 + 11).toNatClampNeg) (-1)) 42 13) + 1)) fL fD, c, z)) rfl ?_
                    obtain ⟨⟨v1532, u1533⟩, hf3772, h⟩ := Option.bind_eq_some_iff.mp h
                    try dsimp only at h
                    refine mg_Ev.call (y := 130) (as := [.ref 43, .int 48, .int 57]) (rest := [.int (a0 + 11), .ref 50]) (v := some (.int v1532)) (w1 := (hp u1533 fL fD, c, z)) rfl rfl (Nat.le_of_ble_eq_true rfl) ((ev_M_readsDigit hf3772).deep (by decide)) ?_
                    by_cases hb3773 : (a0 + 11) < 0 ∨ 840 ≤ (a0 + 11).toNatClampNeg
                    · rw [if_pos hb3773] at h
                      cases h
                    · rw [if_neg hb3773] at h
                      refine mg_Ev.iast (a := 49) (n := 840) rfl (hpg_49 _ _ _) rfl hb3773 (hpa_49 _ _ _ _ _ _ _) ?_
                      refine mg_Ev.go 6 (pc' := 283) (loc' := [some (.ref 43), some (.int a0), some (.int x1517), none]) (st' := [.int x1517, .int (a0 + 12), .ref 50]) (w' := (hp (mg_up u1533 49 ((a0 + 11).toNatClampNeg) v1532) fL fD, c, z)) rfl ?_
                      by_cases hb3774 : (a0 + 12) < 0 ∨ 840 ≤ (a0 + 12).toNatClampNeg
                      · rw [if_pos hb3774] at h
                        cases h
                      · rw [if_neg hb3774] at h
                        refine mg_Ev.iast (a := 49) (n := 840) rfl (hpg_49 _ _ _) rfl hb3774 (hpa_49 _ _ _ _ _ _ _) ?_
                        cases h
                        exact mg_Ev.fin rfl rfl rfl
                  · rw [if_neg hc3771] at h
                    refine mg_Ev.go 6 (pc' := 283) (loc' := [some (.ref 43), some (.int a0), some (.int x1517), none]) (st' := [.int x1517, .int (a0 + 12), .ref 50]) (w' := (hp (mg_up (mg_up u1518 49 ((a0 + 10).toNatClampNeg) 0) 49 ((a0 + 11).toNatClampNeg) (-1)) fL fD, c, z)) rfl ?_
                    by_cases hb3775 : (a0 + 12) < 0 ∨ 840 ≤ (a0 + 12).toNatClampNeg
                    · rw [if_pos hb3775] at h
                      cases h
                    · rw [if_neg hb3775] at h
                      refine mg_Ev.iast (a := 49) (n := 840) rfl (hpg_49 _ _ _) rfl hb3775 (hpa_49 _ _ _ _ _ _ _) ?_
                      cases h
                      exact mg_Ev.fin rfl rfl rfl
                · rw [if_neg hc3769] at h
                  refine mg_Ev.go 6 (pc' := 283) (loc' := [some (.ref 43), some (.int a0), some (.int x1517), none]) (st' := [.int x1517, .int (a0 + 12), .ref 50]) (w' := (hp (mg_up (mg_up u1518 49 ((a0 + 10).toNatClampNeg) 0) 49 ((a0 + 11).toNatClampNeg) (-1)) fL fD, c, z)) rfl ?_
                  by_cases hb3776 : (a0 + 12) < 0 ∨ 840 ≤ (a0 + 12).toNatClampNeg
                  · rw [if_pos hb3776] at h
                    cases h
                  · rw [if_neg hb3776] at h
                    refine mg_Ev.iast (a := 49) (n := 840) rfl (hpg_49 _ _ _) rfl hb3776 (hpa_49 _ _ _ _ _ _ _) ?_
                    cases h
                    exact mg_Ev.fin rfl rfl rfl
        · rw [if_neg hc3744] at h
          refine mg_Ev.go 2 (pc' := 60) (loc' := [some (.ref 43), some (.int a0), some (.int 0), some (.int 0)]) (st' := []) (w' := (hp u1507 fL fD, c, z)) rfl ?_
          obtain ⟨⟨x1535, u1536⟩, hl3777, h⟩ := Option.bind_eq_some_iff.mp h
          try dsimp only at h
          refine mg_Ev.more (loc := [some (.ref 43), some (.int a0), some (.int 0), some (.int 0)]) (ev_M_readsEntry_L60 _ _ _ _ _ _ hl3777 _ ?_) ⟨rfl, ⟨rfl, ⟨rfl, ⟨rfl, trivial⟩⟩⟩⟩
          show mg_Ev _ _ _ 168 [some (.ref 43), some (.int a0), some (.int x1535), none] [] (hp u1536 fL fD, c, z) _
          refine mg_Ev.go 6 (pc' := 177) (loc' := [some (.ref 43), some (.int a0), some (.int x1535), none]) (st' := [.int 0, .int (a0 + 10), .ref 50]) (w' := (hp u1536 fL fD, c, z)) rfl ?_
          by_cases hb3778 : (a0 + 10) < 0 ∨ 840 ≤ (a0 + 10).toNatClampNeg
          · rw [if_pos hb3778] at h
            cases h
          · rw [if_neg hb3778] at h
            refine mg_Ev.iast (a := 49) (n := 840) rfl (hpg_49 _ _ _) rfl hb3778 (hpa_49 _ _ _ _ _ _ _) ?_
            refine mg_Ev.go 6 (pc' := 187) (loc' := [some (.ref 43), some (.int a0), some (.int x1535), none]) (st' := [.int (-1), .int (a0 + 11), .ref 50]) (w' := (hp (mg_up u1536 49 ((a0 + 10).toNatClampNeg) 0) fL fD, c, z)) rfl ?_
            by_cases hb3779 : (a0 + 11) < 0 ∨ 840 ≤ (a0 + 11).toNatClampNeg
            · rw [if_pos hb3779] at h
              cases h
            · rw [if_neg hb3779] at h
              refine mg_Ev.iast (a := 49) (n := 840) rfl (hpg_49 _ _ _) rfl hb3779 (hpa_49 _ _ _ _ _ _ _) ?_
              refine mg_Ev.go 2 (pc' := 192) (loc' := [some (.ref 43), some (.int a0), some (.int x1535), none]) (st' := [.int ((mg_up (mg_up u1536 49 ((a0 + 10).toNatClampNeg) 0) 49 ((a0 + 11).toNatClampNeg) (-1)) 42 14)]) (w' := (hp (mg_up (mg_up u1536 49 ((a0 + 10).toNatClampNeg) 0) 49 ((a0 + 11).toNatClampNeg) (-1)) fL fD, c, z)) rfl ?_
              refine mg_Ev.br (P := ((mg_up (mg_up u1536 49 ((a0 + 10).toNatClampNeg) 0) 49 ((a0 + 11).toNatClampNeg) (-1)) 42 14) = 0) (t := 195) (nx := 231) (st' := []) rfl rfl rfl rfl (fun hc3780 => ?_) (fun hc3780 => ?_)
              · rw [if_pos hc3780] at h
                refine mg_Ev.go 1 (pc' := 196) (loc' := [some (.ref 43), some (.int a0), some (.int x1535), none]) (st' := [.ref 43]) (w' := (hp (mg_up (mg_up u1536 49 ((a0 + 10).toNatClampNeg) 0) 49 ((a0 + 11).toNatClampNeg) (-1)) fL fD, c, z)) rfl ?_
                obtain ⟨v1537, hf3781, h⟩ := Option.bind_eq_some_iff.mp h
                refine mg_Ev.call (y := 128) (as := [.ref 43]) (rest := []) (v := some (.int v1537)) (w1 := (hp (mg_up (mg_up u1536 49 ((a0 + 10).toNatClampNeg) 0) 49 ((a0 + 11).toNatClampNeg) (-1)) fL fD, c, z)) rfl rfl (Nat.le_of_ble_eq_true rfl) ((ev_M_here hf3781).deep (by decide)) ?_
                refine mg_Ev.go 1 (pc' := 201) (loc' := [some (.ref 43), some (.int a0), some (.int x1535), none]) (st' := [.int 33, .int v1537]) (w' := (hp (mg_up (mg_up u1536 49 ((a0 + 10).toNatClampNeg) 0) 49 ((a0 + 11).toNatClampNeg) (-1)) fL fD, c, z)) rfl ?_
                refine mg_Ev.br (P := v1537 = 33) (t := 204) (nx := 231) (st' := []) rfl rfl rfl rfl (fun hc3782 => ?_) (fun hc3782 => ?_)
                · rw [if_pos hc3782] at h
                  refine mg_Ev.go 5 (pc' := 211) (loc' := [some (.ref 43), some (.int a0), some (.int x1535), none]) (st' := [.int (((mg_up (mg_up u1536 49 ((a0 + 10).toNatClampNeg) 0) 49 ((a0 + 11).toNatClampNeg) (-1)) 42 13) + 1), .ref 43]) (w' := (hp (mg_up (mg_up u1536 49 ((a0 + 10).toNatClampNeg) 0) 49 ((a0 + 11).toNatClampNeg) (-1)) fL fD, c, z)) rfl ?_
                  refine mg_Ev.put rfl (hpg_42 _ _ _) (Nat.le_of_ble_eq_true rfl) rfl (hpf_42_13 _ _ _ _ _ _) ?_
                  refine mg_Ev.go 8 (pc' := 227) (loc' := [some (.ref 43), some (.int a0), some (.int x1535), none]) (st' := [.int 57, .int 48, .ref 43, .int (a0 + 10), .ref 50]) (w' := (hp (mg_up (mg_up (mg_up u1536 49 ((a0 + 10).toNatClampNeg) 0) 49 ((a0 + 11).toNatClampNeg) (-1)) 42 13 (((mg_up (mg_up u1536 49 ((a0 + 10).toNatClampNeg) 0) 49 ((a0 + 11).toNatClampNeg) (-1)) 42 13) + 1)) fL fD, c, z)) rfl ?_
                  obtain ⟨⟨v1538, u1539⟩, hf3783, h⟩ := Option.bind_eq_some_iff.mp h
                  try dsimp only at h
                  refine mg_Ev.call (y := 130) (as := [.ref 43, .int 48, .int 57]) (rest := [.int (a0 + 10), .ref 50]) (v := some (.int v1538)) (w1 := (hp u1539 fL fD, c, z)) rfl rfl (Nat.le_of_ble_eq_true rfl) ((ev_M_readsDigit hf3783).deep (by decide)) ?_
                  by_cases hb3784 : (a0 + 10) < 0 ∨ 840 ≤ (a0 + 10).toNatClampNeg
                  · rw [if_pos hb3784] at h
                    cases h
                  · rw [if_neg hb3784] at h
                    refine mg_Ev.iast (a := 49) (n := 840) rfl (hpg_49 _ _ _) rfl hb3784 (hpa_49 _ _ _ _ _ _ _) ?_
                    refine mg_Ev.go 2 (pc' := 235) (loc' := [some (.ref 43), some (.int a0), some (.int x1535), none]) (st' := [.int ((mg_up u1539 49 ((a0 + 10).toNatClampNeg) v1538) 42 14)]) (w' := (hp (mg_up u1539 49 ((a0 + 10).toNatClampNeg) v1538) fL fD, c, z)) rfl ?_
                    refine mg_Ev.br (P := ((mg_up u1539 49 ((a0 + 10).toNatClampNeg) v1538) 42 14) = 0) (t := 238) (nx := 274) (st' := []) rfl rfl rfl rfl (fun hc3785 => ?_) (fun hc3785 => ?_)
                    · rw [if_pos hc3785] at h
                      refine mg_Ev.go 1 (pc' := 239) (loc' := [some (.ref 43), some (.int a0), some (.int x1535), none]) (st' := [.ref 43]) (w' := (hp (mg_up u1539 49 ((a0 + 10).toNatClampNeg) v1538) fL fD, c, z)) rfl ?_
                      obtain ⟨v1541, hf3786, h⟩ := Option.bind_eq_some_iff.mp h
                      refine mg_Ev.call (y := 128) (as := [.ref 43]) (rest := []) (v := some (.int v1541)) (w1 := (hp (mg_up u1539 49 ((a0 + 10).toNatClampNeg) v1538) fL fD, c, z)) rfl rfl (Nat.le_of_ble_eq_true rfl) ((ev_M_here hf3786).deep (by decide)) ?_
                      refine mg_Ev.go 1 (pc' := 244) (loc' := [some (.ref 43), some (.int a0), some (.int x1535), none]) (st' := [.int 35, .int v1541]) (w' := (hp (mg_up u1539 49 ((a0 + 10).toNatClampNeg) v1538) fL fD, c, z)) rfl ?_
                      refine mg_Ev.br (P := v1541 = 35) (t := 247) (nx := 274) (st' := []) rfl rfl rfl rfl (fun hc3787 => ?_) (fun hc3787 => ?_)
                      · rw [if_pos hc3787] at h
                        refine mg_Ev.go 5 (pc' := 254) (loc' := [some (.ref 43), some (.int a0), some (.int x1535), none]) (st' := [.int (((mg_up u1539 49 ((a0 + 10).toNatClampNeg) v1538) 42 13) + 1), .ref 43]) (w' := (hp (mg_up u1539 49 ((a0 + 10).toNatClampNeg) v1538) fL fD, c, z)) rfl ?_
                        refine mg_Ev.put rfl (hpg_42 _ _ _) (Nat.le_of_ble_eq_true rfl) rfl (hpf_42_13 _ _ _ _ _ _) ?_
                        refine mg_Ev.go 8 (pc' := 270) (loc' := [some (.ref 43), some (.int a0), some (.int x1535), none]) (st' := [.int 57, .int 48, .ref 43, .int (a0 + 11), .ref 50]) (w' := (hp (mg_up (mg_up u1539 49 ((a0 + 10).toNatClampNeg) v1538) 42 13 (((mg_up u1539 49 ((a0 + 10).toNatClampNeg) v1538) 42 13) + 1)) fL fD, c, z)) rfl ?_
                        obtain ⟨⟨v1542, u1543⟩, hf3788, h⟩ := Option.bind_eq_some_iff.mp h
                        try dsimp only at h
                        refine mg_Ev.call (y := 130) (as := [.ref 43, .int 48, .int 57]) (rest := [.int (a0 + 11), .ref 50]) (v := some (.int v1542)) (w1 := (hp u1543 fL fD, c, z)) rfl rfl (Nat.le_of_ble_eq_true rfl) ((ev_M_readsDigit hf3788).deep (by decide)) ?_
                        by_cases hb3789 : (a0 + 11) < 0 ∨ 840 ≤ (a0 + 11).toNatClampNeg
                        · rw [if_pos hb3789] at h
                          cases h
                        · rw [if_neg hb3789] at h
                          refine mg_Ev.iast (a := 49) (n := 840) rfl (hpg_49 _ _ _) rfl hb3789 (hpa_49 _ _ _ _ _ _ _) ?_
                          refine mg_Ev.go 6 (pc' := 283) (loc' := [some (.ref 43), some (.int a0), some (.int x1535), none]) (st' := [.int x1535, .int (a0 + 12), .ref 50]) (w' := (hp (mg_up u1543 49 ((a0 + 11).toNatClampNeg) v1542) fL fD, c, z)) rfl ?_
                          by_cases hb3790 : (a0 + 12) < 0 ∨ 840 ≤ (a0 + 12).toNatClampNeg
                          · rw [if_pos hb3790] at h
                            cases h
                          · rw [if_neg hb3790] at h
                            refine mg_Ev.iast (a := 49) (n := 840) rfl (hpg_49 _ _ _) rfl hb3790 (hpa_49 _ _ _ _ _ _ _) ?_
                            cases h
                            exact mg_Ev.fin rfl rfl rfl
                      · rw [if_neg hc3787] at h
                        refine mg_Ev.go 6 (pc' := 283) (loc' := [some (.ref 43), some (.int a0), some (.int x1535), none]) (st' := [.int x1535, .int (a0 + 12), .ref 50]) (w' := (hp (mg_up u1539 49 ((a0 + 10).toNatClampNeg) v1538) fL fD, c, z)) rfl ?_
                        by_cases hb3791 : (a0 + 12) < 0 ∨ 840 ≤ (a0 + 12).toNatClampNeg
                        · rw [if_pos hb3791] at h
                          cases h
                        · rw [if_neg hb3791] at h
                          refine mg_Ev.iast (a := 49) (n := 840) rfl (hpg_49 _ _ _) rfl hb3791 (hpa_49 _ _ _ _ _ _ _) ?_
                          cases h
                          exact mg_Ev.fin rfl rfl rfl
                    · rw [if_neg hc3785] at h
                      refine mg_Ev.go 6 (pc' := 283) (loc' := [some (.ref 43), some (.int a0), some (.int x1535), none]) (st' := [.int x1535, .int (a0 + 12), .ref 50]) (w' := (hp (mg_up u1539 49 ((a0 + 10).toNatClampNeg) v1538) fL fD, c, z)) rfl ?_
                      by_cases hb3792 : (a0 + 12) < 0 ∨ 840 ≤ (a0 + 12).toNatClampNeg
                      · rw [if_pos hb3792] at h
                        cases h
                      · rw [if_neg hb3792] at h
                        refine mg_Ev.iast (a := 49) (n := 840) rfl (hpg_49 _ _ _) rfl hb3792 (hpa_49 _ _ _ _ _ _ _) ?_
                        cases h
                        exact mg_Ev.fin rfl rfl rfl
                · rw [if_neg hc3782] at h
                  refine mg_Ev.go 2 (pc' := 235) (loc' := [some (.ref 43), some (.int a0), some (.int x1535), none]) (st' := [.int ((mg_up (mg_up u1536 49 ((a0 + 10).toNatClampNeg) 0) 49 ((a0 + 11).toNatClampNeg) (-1)) 42 14)]) (w' := (hp (mg_up (mg_up u1536 49 ((a0 + 10).toNatClampNeg) 0) 49 ((a0 + 11).toNatClampNeg) (-1)) fL fD, c, z)) rfl ?_
                  refine mg_Ev.br (P := ((mg_up (mg_up u1536 49 ((a0 + 10).toNatClampNeg) 0) 49 ((a0 + 11).toNatClampNeg) (-1)) 42 14) = 0) (t := 238) (nx := 274) (st' := []) rfl rfl rfl rfl (fun hc3793 => ?_) (fun hc3793 => ?_)
                  · rw [if_pos hc3793] at h
                    refine mg_Ev.go 1 (pc' := 239) (loc' := [some (.ref 43), some (.int a0), some (.int x1535), none]) (st' := [.ref 43]) (w' := (hp (mg_up (mg_up u1536 49 ((a0 + 10).toNatClampNeg) 0) 49 ((a0 + 11).toNatClampNeg) (-1)) fL fD, c, z)) rfl ?_
                    obtain ⟨v1545, hf3794, h⟩ := Option.bind_eq_some_iff.mp h
                    refine mg_Ev.call (y := 128) (as := [.ref 43]) (rest := []) (v := some (.int v1545)) (w1 := (hp (mg_up (mg_up u1536 49 ((a0 + 10).toNatClampNeg) 0) 49 ((a0 + 11).toNatClampNeg) (-1)) fL fD, c, z)) rfl rfl (Nat.le_of_ble_eq_true rfl) ((ev_M_here hf3794).deep (by decide)) ?_
                    refine mg_Ev.go 1 (pc' := 244) (loc' := [some (.ref 43), some (.int a0), some (.int x1535), none]) (st' := [.int 35, .int v1545]) (w' := (hp (mg_up (mg_up u1536 49 ((a0 + 10).toNatClampNeg) 0) 49 ((a0 + 11).toNatClampNeg) (-1)) fL fD, c, z)) rfl ?_
                    refine mg_Ev.br (P := v1545 = 35) (t := 247) (nx := 274) (st' := []) rfl rfl rfl rfl (fun hc3795 => ?_) (fun hc3795 => ?_)
                    · rw [if_pos hc3795] at h
                      refine mg_Ev.go 5 (pc' := 254) (loc' := [some (.ref 43), some (.int a0), some (.int x1535), none]) (st' := [.int (((mg_up (mg_up u1536 49 ((a0 + 10).toNatClampNeg) 0) 49 ((a0 + 11).toNatClampNeg) (-1)) 42 13) + 1), .ref 43]) (w' := (hp (mg_up (mg_up u1536 49 ((a0 + 10).toNatClampNeg) 0) 49 ((a0 + 11).toNatClampNeg) (-1)) fL fD, c, z)) rfl ?_
                      refine mg_Ev.put rfl (hpg_42 _ _ _) (Nat.le_of_ble_eq_true rfl) rfl (hpf_42_13 _ _ _ _ _ _) ?_
                      refine mg_Ev.go 8 (pc' := 270) (loc' := [some (.ref 43), some (.int a0), some (.int x1535), none]) (st' := [.int 57, .int 48, .ref 43, .int (a0 + 11), .ref 50]) (w' := (hp (mg_up (mg_up (mg_up u1536 49 ((a0 + 10).toNatClampNeg) 0) 49 ((a0 + 11).toNatClampNeg) (-1)) 42 13 (((mg_up (mg_up u1536 49 ((a0 + 10).toNatClampNeg) 0) 49 ((a0 + 11).toNatClampNeg) (-1)) 42 13) + 1)) fL fD, c, z)) rfl ?_
                      obtain ⟨⟨v1546, u1547⟩, hf3796, h⟩ := Option.bind_eq_some_iff.mp h
                      try dsimp only at h
                      refine mg_Ev.call (y := 130) (as := [.ref 43, .int 48, .int 57]) (rest := [.int (a0 + 11), .ref 50]) (v := some (.int v1546)) (w1 := (hp u1547 fL fD, c, z)) rfl rfl (Nat.le_of_ble_eq_true rfl) ((ev_M_readsDigit hf3796).deep (by decide)) ?_
                      by_cases hb3797 : (a0 + 11) < 0 ∨ 840 ≤ (a0 + 11).toNatClampNeg
                      · rw [if_pos hb3797] at h
                        cases h
                      · rw [if_neg hb3797] at h
                        refine mg_Ev.iast (a := 49) (n := 840) rfl (hpg_49 _ _ _) rfl hb3797 (hpa_49 _ _ _ _ _ _ _) ?_
                        refine mg_Ev.go 6 (pc' := 283) (loc' := [some (.ref 43), some (.int a0), some (.int x1535), none]) (st' := [.int x1535, .int (a0 + 12), .ref 50]) (w' := (hp (mg_up u1547 49 ((a0 + 11).toNatClampNeg) v1546) fL fD, c, z)) rfl ?_
                        by_cases hb3798 : (a0 + 12) < 0 ∨ 840 ≤ (a0 + 12).toNatClampNeg
                        · rw [if_pos hb3798] at h
                          cases h
                        · rw [if_neg hb3798] at h
                          refine mg_Ev.iast (a := 49) (n := 840) rfl (hpg_49 _ _ _) rfl hb3798 (hpa_49 _ _ _ _ _ _ _) ?_
                          cases h
                          exact mg_Ev.fin rfl rfl rfl
                    · rw [if_neg hc3795] at h
                      refine mg_Ev.go 6 (pc' := 283) (loc' := [some (.ref 43), some (.int a0), some (.int x1535), none]) (st' := [.int x1535, .int (a0 + 12), .ref 50]) (w' := (hp (mg_up (mg_up u1536 49 ((a0 + 10).toNatClampNeg) 0) 49 ((a0 + 11).toNatClampNeg) (-1)) fL fD, c, z)) rfl ?_
                      by_cases hb3799 : (a0 + 12) < 0 ∨ 840 ≤ (a0 + 12).toNatClampNeg
                      · rw [if_pos hb3799] at h
                        cases h
                      · rw [if_neg hb3799] at h
                        refine mg_Ev.iast (a := 49) (n := 840) rfl (hpg_49 _ _ _) rfl hb3799 (hpa_49 _ _ _ _ _ _ _) ?_
                        cases h
                        exact mg_Ev.fin rfl rfl rfl
                  · rw [if_neg hc3793] at h
                    refine mg_Ev.go 6 (pc' := 283) (loc' := [some (.ref 43), some (.int a0), some (.int x1535), none]) (st' := [.int x1535, .int (a0 + 12), .ref 50]) (w' := (hp (mg_up (mg_up u1536 49 ((a0 + 10).toNatClampNeg) 0) 49 ((a0 + 11).toNatClampNeg) (-1)) fL fD, c, z)) rfl ?_
                    by_cases hb3800 : (a0 + 12) < 0 ∨ 840 ≤ (a0 + 12).toNatClampNeg
                    · rw [if_pos hb3800] at h
                      cases h
                    · rw [if_neg hb3800] at h
                      refine mg_Ev.iast (a := 49) (n := 840) rfl (hpg_49 _ _ _) rfl hb3800 (hpa_49 _ _ _ _ _ _ _) ?_
                      cases h
                      exact mg_Ev.fin rfl rfl rfl
              · rw [if_neg hc3780] at h
                refine mg_Ev.go 2 (pc' := 235) (loc' := [some (.ref 43), some (.int a0), some (.int x1535), none]) (st' := [.int ((mg_up (mg_up u1536 49 ((a0 + 10).toNatClampNeg) 0) 49 ((a0 + 11).toNatClampNeg) (-1)) 42 14)]) (w' := (hp (mg_up (mg_up u1536 49 ((a0 + 10).toNatClampNeg) 0) 49 ((a0 + 11).toNatClampNeg) (-1)) fL fD, c, z)) rfl ?_
                refine mg_Ev.br (P := ((mg_up (mg_up u1536 49 ((a0 + 10).toNatClampNeg) 0) 49 ((a0 + 11).toNatClampNeg) (-1)) 42 14) = 0) (t := 238) (nx := 274) (st' := []) rfl rfl rfl rfl (fun hc3801 => ?_) (fun hc3801 => ?_)
                · rw [if_pos hc3801] at h
                  refine mg_Ev.go 1 (pc' := 239) (loc' := [some (.ref 43), some (.int a0), some (.int x1535), none]) (st' := [.ref 43]) (w' := (hp (mg_up (mg_up u1536 49 ((a0 + 10).toNatClampNeg) 0) 49 ((a0 + 11).toNatClampNeg) (-1)) fL fD, c, z)) rfl ?_
                  obtain ⟨v1549, hf3802, h⟩ := Option.bind_eq_some_iff.mp h
                  refine mg_Ev.call (y := 128) (as := [.ref 43]) (rest := []) (v := some (.int v1549)) (w1 := (hp (mg_up (mg_up u1536 49 ((a0 + 10).toNatClampNeg) 0) 49 ((a0 + 11).toNatClampNeg) (-1)) fL fD, c, z)) rfl rfl (Nat.le_of_ble_eq_true rfl) ((ev_M_here hf3802).deep (by decide)) ?_
                  refine mg_Ev.go 1 (pc' := 244) (loc' := [some (.ref 43), some (.int a0), some (.int x1535), none]) (st' := [.int 35, .int v1549]) (w' := (hp (mg_up (mg_up u1536 49 ((a0 + 10).toNatClampNeg) 0) 49 ((a0 + 11).toNatClampNeg) (-1)) fL fD, c, z)) rfl ?_
                  refine mg_Ev.br (P := v1549 = 35) (t := 247) (nx := 274) (st' := []) rfl rfl rfl rfl (fun hc3803 => ?_) (fun hc3803 => ?_)
                  · rw [if_pos hc3803] at h
                    refine mg_Ev.go 5 (pc' := 254) (loc' := [some (.ref 43), some (.int a0), some (.int x1535), none]) (st' := [.int (((mg_up (mg_up u1536 49 ((a0 + 10).toNatClampNeg) 0) 49 ((a0 + 11).toNatClampNeg) (-1)) 42 13) + 1), .ref 43]) (w' := (hp (mg_up (mg_up u1536 49 ((a0 + 10).toNatClampNeg) 0) 49 ((a0 + 11).toNatClampNeg) (-1)) fL fD, c, z)) rfl ?_
                    refine mg_Ev.put rfl (hpg_42 _ _ _) (Nat.le_of_ble_eq_true rfl) rfl (hpf_42_13 _ _ _ _ _ _) ?_
                    refine mg_Ev.go 8 (pc' := 270) (loc' := [some (.ref 43), some (.int a0), some (.int x1535), none]) (st' := [.int 57, .int 48, .ref 43, .int (a0 + 11), .ref 50]) (w' := (hp (mg_up (mg_up (mg_up u1536 49 ((a0 + 10).toNatClampNeg) 0) 49 ((a0 + 11).toNatClampNeg) (-1)) 42 13 (((mg_up (mg_up u1536 49 ((a0 + 10).toNatClampNeg) 0) 49 ((a0 + 11).toNatClampNeg) (-1)) 42 13) + 1)) fL fD, c, z)) rfl ?_
                    obtain ⟨⟨v1550, u1551⟩, hf3804, h⟩ := Option.bind_eq_some_iff.mp h
                    try dsimp only at h
                    refine mg_Ev.call (y := 130) (as := [.ref 43, .int 48, .int 57]) (rest := [.int (a0 + 11), .ref 50]) (v := some (.int v1550)) (w1 := (hp u1551 fL fD, c, z)) rfl rfl (Nat.le_of_ble_eq_true rfl) ((ev_M_readsDigit hf3804).deep (by decide)) ?_
                    by_cases hb3805 : (a0 + 11) < 0 ∨ 840 ≤ (a0 + 11).toNatClampNeg
                    · rw [if_pos hb3805] at h
                      cases h
                    · rw [if_neg hb3805] at h
                      refine mg_Ev.iast (a := 49) (n := 840) rfl (hpg_49 _ _ _) rfl hb3805 (hpa_49 _ _ _ _ _ _ _) ?_
                      refine mg_Ev.go 6 (pc' := 283) (loc' := [some (.ref 43), some (.int a0), some (.int x1535), none]) (st' := [.int x1535, .int (a0 + 12), .ref 50]) (w' := (hp (mg_up u1551 49 ((a0 + 11).toNatClampNeg) v1550) fL fD, c, z)) rfl ?_
                      by_cases hb3806 : (a0 + 12) < 0 ∨ 840 ≤ (a0 + 12).toNatClampNeg
                      · rw [if_pos hb3806] at h
                        cases h
                      · rw [if_neg hb3806] at h
                        refine mg_Ev.iast (a := 49) (n := 840) rfl (hpg_49 _ _ _) rfl hb3806 (hpa_49 _ _ _ _ _ _ _) ?_
                        cases h
                        exact mg_Ev.fin rfl rfl rfl
                  · rw [if_neg hc3803] at h
                    refine mg_Ev.go 6 (pc' := 283) (loc' := [some (.ref 43), some (.int a0), some (.int x1535), none]) (st' := [.int x1535, .int (a0 + 12), .ref 50]) (w' := (hp (mg_up (mg_up u1536 49 ((a0 + 10).toNatClampNeg) 0) 49 ((a0 + 11).toNatClampNeg) (-1)) fL fD, c, z)) rfl ?_
                    by_cases hb3807 : (a0 + 12) < 0 ∨ 840 ≤ (a0 + 12).toNatClampNeg
                    · rw [if_pos hb3807] at h
                      cases h
                    · rw [if_neg hb3807] at h
                      refine mg_Ev.iast (a := 49) (n := 840) rfl (hpg_49 _ _ _) rfl hb3807 (hpa_49 _ _ _ _ _ _ _) ?_
                      cases h
                      exact mg_Ev.fin rfl rfl rfl
                · rw [if_neg hc3801] at h
                  refine mg_Ev.go 6 (pc' := 283) (loc' := [some (.ref 43), some (.int a0), some (.int x1535), none]) (st' := [.int x1535, .int (a0 + 12), .ref 50]) (w' := (hp (mg_up (mg_up u1536 49 ((a0 + 10).toNatClampNeg) 0) 49 ((a0 + 11).toNatClampNeg) (-1)) fL fD, c, z)) rfl ?_
                  by_cases hb3808 : (a0 + 12) < 0 ∨ 840 ≤ (a0 + 12).toNatClampNeg
                  · rw [if_pos hb3808] at h
                    cases h
                  · rw [if_neg hb3808] at h
                    refine mg_Ev.iast (a := 49) (n := 840) rfl (hpg_49 _ _ _) rfl hb3808 (hpa_49 _ _ _ _ _ _ _) ?_
                    cases h
                    exact mg_Ev.fin rfl rfl rfl
    · rw [if_neg hc3740] at h
      refine mg_Ev.go 2 (pc' := 38) (loc' := [some (.ref 43), some (.int a0), none, none]) (st' := [.int 0, .int (a0 + 1), .ref 50]) (w' := (hp u1503 fL fD, c, z)) rfl ?_
      by_cases hb3809 : (a0 + 1) < 0 ∨ 840 ≤ (a0 + 1).toNatClampNeg
      · rw [if_pos hb3809] at h
        cases h
      · rw [if_neg hb3809] at h
        refine mg_Ev.iast (a := 49) (n := 840) rfl (hpg_49 _ _ _) rfl hb3809 (hpa_49 _ _ _ _ _ _ _) ?_
        refine mg_Ev.go 2 (pc' := 42) (loc' := [some (.ref 43), some (.int a0), none, none]) (st' := [.int 64, .ref 43]) (w' := (hp (mg_up u1503 49 ((a0 + 1).toNatClampNeg) 0) fL fD, c, z)) rfl ?_
        obtain ⟨u1553, hf3810, h⟩ := Option.bind_eq_some_iff.mp h
        refine mg_Ev.call (y := 129) (as := [.ref 43, .int 64]) (rest := []) (v := none) (w1 := (hp u1553 fL fD, c, z)) rfl rfl (Nat.le_of_ble_eq_true rfl) ((ev_M_reads hf3810).deep (by decide)) ?_
        refine mg_Ev.go 4 (pc' := 51) (loc' := [some (.ref 43), some (.int a0), some (.int 0), none]) (st' := [.int (u1553 42 14)]) (w' := (hp u1553 fL fD, c, z)) rfl ?_
        refine mg_Ev.br (P := (u1553 42 14) = 0) (t := 54) (nx := 58) (st' := []) rfl rfl rfl rfl (fun hc3811 => ?_) (fun hc3811 => ?_)
        · rw [if_pos hc3811] at h
          refine mg_Ev.go 3 (pc' := 60) (loc' := [some (.ref 43), some (.int a0), some (.int 0), some (.int 1)]) (st' := []) (w' := (hp u1553 fL fD, c, z)) rfl ?_
          obtain ⟨⟨x1554, u1555⟩, hl3812, h⟩ := Option.bind_eq_some_iff.mp h
          try dsimp only at h
          refine mg_Ev.more (loc := [some (.ref 43), some (.int a0), some (.int 0), some (.int 1)]) (ev_M_readsEntry_L60 _ _ _ _ _ _ hl3812 _ ?_) ⟨rfl, ⟨rfl, ⟨rfl, ⟨rfl, trivial⟩⟩⟩⟩
          show mg_Ev _ _ _ 168 [some (.ref 43), some (.int a0), some (.int x1554), none] [] (hp u1555 fL fD, c, z) _
          refine mg_Ev.go 6 (pc' := 177) (loc' := [some (.ref 43), some (.int a0), some (.int x1554), none]) (st' := [.int 0, .int (a0 + 10), .ref 50]) (w' := (hp u1555 fL fD, c, z)) rfl ?_
          by_cases hb3813 : (a0 + 10) < 0 ∨ 840 ≤ (a0 + 10).toNatClampNeg
          · rw [if_pos hb3813] at h
            cases h
          · rw [if_neg hb3813] at h
            refine mg_Ev.iast (a := 49) (n := 840) rfl (hpg_49 _ _ _) rfl hb3813 (hpa_49 _ _ _ _ _ _ _) ?_
            refine mg_Ev.go 6 (pc' := 187) (loc' := [some (.ref 43), some (.int a0), some (.int x1554), none]) (st' := [.int (-1), .int (a0 + 11), .ref 50]) (w' := (hp (mg_up u1555 49 ((a0 + 10).toNatClampNeg) 0) fL fD, c, z)) rfl ?_
            by_cases hb3814 : (a0 + 11) < 0 ∨ 840 ≤ (a0 + 11).toNatClampNeg
            · rw [if_pos hb3814] at h
              cases h
            · rw [if_neg hb3814] at h
              refine mg_Ev.iast (a := 49) (n := 840) rfl (hpg_49 _ _ _) rfl hb3814 (hpa_49 _ _ _ _ _ _ _) ?_
              refine mg_Ev.go 2 (pc' := 192) (loc' := [some (.ref 43), some (.int a0), some (.int x1554), none]) (st' := [.int ((mg_up (mg_up u1555 49 ((a0 + 10).toNatClampNeg) 0) 49 ((a0 + 11).toNatClampNeg) (-1)) 42 14)]) (w' := (hp (mg_up (mg_up u1555 49 ((a0 + 10).toNatClampNeg) 0) 49 ((a0 + 11).toNatClampNeg) (-1)) fL fD, c, z)) rfl ?_
              refine mg_Ev.br (P := ((mg_up (mg_up u1555 49 ((a0 + 10).toNatClampNeg) 0) 49 ((a0 + 11).toNatClampNeg) (-1)) 42 14) = 0) (t := 195) (nx := 231) (st' := []) rfl rfl rfl rfl (fun hc3815 => ?_) (fun hc3815 => ?_)
              · rw [if_pos hc3815] at h
                refine mg_Ev.go 1 (pc' := 196) (loc' := [some (.ref 43), some (.int a0), some (.int x1554), none]) (st' := [.ref 43]) (w' := (hp (mg_up (mg_up u1555 49 ((a0 + 10).toNatClampNeg) 0) 49 ((a0 + 11).toNatClampNeg) (-1)) fL fD, c, z)) rfl ?_
                obtain ⟨v1556, hf3816, h⟩ := Option.bind_eq_some_iff.mp h
                refine mg_Ev.call (y := 128) (as := [.ref 43]) (rest := []) (v := some (.int v1556)) (w1 := (hp (mg_up (mg_up u1555 49 ((a0 + 10).toNatClampNeg) 0) 49 ((a0 + 11).toNatClampNeg) (-1)) fL fD, c, z)) rfl rfl (Nat.le_of_ble_eq_true rfl) ((ev_M_here hf3816).deep (by decide)) ?_
                refine mg_Ev.go 1 (pc' := 201) (loc' := [some (.ref 43), some (.int a0), some (.int x1554), none]) (st' := [.int 33, .int v1556]) (w' := (hp (mg_up (mg_up u1555 49 ((a0 + 10).toNatClampNeg) 0) 49 ((a0 + 11).toNatClampNeg) (-1)) fL fD, c, z)) rfl ?_
                refine mg_Ev.br (P := v1556 = 33) (t := 204) (nx := 231) (st' := []) rfl rfl rfl rfl (fun hc3817 => ?_) (fun hc3817 => ?_)
                · rw [if_pos hc3817] at h
                  refine mg_Ev.go 5 (pc' := 211) (loc' := [some (.ref 43), some (.int a0), some (.int x1554), none]) (st' := [.int (((mg_up (mg_up u1555 49 ((a0 + 10).toNatClampNeg) 0) 49 ((a0 + 11).toNatClampNeg) (-1)) 42 13) + 1), .ref 43]) (w' := (hp (mg_up (mg_up u1555 49 ((a0 + 10).toNatClampNeg) 0) 49 ((a0 + 11).toNatClampNeg) (-1)) fL fD, c, z)) rfl ?_
                  refine mg_Ev.put rfl (hpg_42 _ _ _) (Nat.le_of_ble_eq_true rfl) rfl (hpf_42_13 _ _ _ _ _ _) ?_
                  refine mg_Ev.go 8 (pc' := 227) (loc' := [some (.ref 43), some (.int a0), some (.int x1554), none]) (st' := [.int 57, .int 48, .ref 43, .int (a0 + 10), .ref 50]) (w' := (hp (mg_up (mg_up (mg_up u1555 49 ((a0 + 10).toNatClampNeg) 0) 49 ((a0 + 11).toNatClampNeg) (-1)) 42 13 (((mg_up (mg_up u1555 49 ((a0 + 10).toNatClampNeg) 0) 49 ((a0 + 11).toNatClampNeg) (-1)) 42 13) + 1)) fL fD, c, z)) rfl ?_
                  obtain ⟨⟨v1557, u1558⟩, hf3818, h⟩ := Option.bind_eq_some_iff.mp h
                  try dsimp only at h
                  refine mg_Ev.call (y := 130) (as := [.ref 43, .int 48, .int 57]) (rest := [.int (a0 + 10), .ref 50]) (v := some (.int v1557)) (w1 := (hp u1558 fL fD, c, z)) rfl rfl (Nat.le_of_ble_eq_true rfl) ((ev_M_readsDigit hf3818).deep (by decide)) ?_
                  by_cases hb3819 : (a0 + 10) < 0 ∨ 840 ≤ (a0 + 10).toNatClampNeg
                  · rw [if_pos hb3819] at h
                    cases h
                  · rw [if_neg hb3819] at h
                    refine mg_Ev.iast (a := 49) (n := 840) rfl (hpg_49 _ _ _) rfl hb3819 (hpa_49 _ _ _ _ _ _ _) ?_
                    refine mg_Ev.go 2 (pc' := 235) (loc' := [some (.ref 43), some (.int a0), some (.int x1554), none]) (st' := [.int ((mg_up u1558 49 ((a0 + 10).toNatClampNeg) v1557) 42 14)]) (w' := (hp (mg_up u1558 49 ((a0 + 10).toNatClampNeg) v1557) fL fD, c, z)) rfl ?_
                    refine mg_Ev.br (P := ((mg_up u1558 49 ((a0 + 10).toNatClampNeg) v1557) 42 14) = 0) (t := 238) (nx := 274) (st' := []) rfl rfl rfl rfl (fun hc3820 => ?_) (fun hc3820 => ?_)
                    · rw [if_pos hc3820] at h
                      refine mg_Ev.go 1 (pc' := 239) (loc' := [some (.ref 43), some (.int a0), some (.int x1554), none]) (st' := [.ref 43]) (w' := (hp (mg_up u1558 49 ((a0 + 10).toNatClampNeg) v1557) fL fD, c, z)) rfl ?_
                      obtain ⟨v1560, hf3821, h⟩ := Option.bind_eq_some_iff.mp h
                      refine mg_Ev.call (y := 128) (as := [.ref 43]) (rest := []) (v := some (.int v1560)) (w1 := (hp (mg_up u1558 49 ((a0 + 10).toNatClampNeg) v1557) fL fD, c, z)) rfl rfl (Nat.le_of_ble_eq_true rfl) ((ev_M_here hf3821).deep (by decide)) ?_
                      refine mg_Ev.go 1 (pc' := 244) (loc' := [some (.ref 43), some (.int a0), some (.int x1554), none]) (st' := [.int 35, .int v1560]) (w' := (hp (mg_up u1558 49 ((a0 + 10).toNatClampNeg) v1557) fL fD, c, z)) rfl ?_
                      refine mg_Ev.br (P := v1560 = 35) (t := 247) (nx := 274) (st' := []) rfl rfl rfl rfl (fun hc3822 => ?_) (fun hc3822 => ?_)
                      · rw [if_pos hc3822] at h
                        refine mg_Ev.go 5 (pc' := 254) (loc' := [some (.ref 43), some (.int a0), some (.int x1554), none]) (st' := [.int (((mg_up u1558 49 ((a0 + 10).toNatClampNeg) v1557) 42 13) + 1), .ref 43]) (w' := (hp (mg_up u1558 49 ((a0 + 10).toNatClampNeg) v1557) fL fD, c, z)) rfl ?_
                        refine mg_Ev.put rfl (hpg_42 _ _ _) (Nat.le_of_ble_eq_true rfl) rfl (hpf_42_13 _ _ _ _ _ _) ?_
                        refine mg_Ev.go 8 (pc' := 270) (loc' := [some (.ref 43), some (.int a0), some (.int x1554), none]) (st' := [.int 57, .int 48, .ref 43, .int (a0 + 11), .ref 50]) (w' := (hp (mg_up (mg_up u1558 49 ((a0 + 10).toNatClampNeg) v1557) 42 13 (((mg_up u1558 49 ((a0 + 10).toNatClampNeg) v1557) 42 13) + 1)) fL fD, c, z)) rfl ?_
                        obtain ⟨⟨v1561, u1562⟩, hf3823, h⟩ := Option.bind_eq_some_iff.mp h
                        try dsimp only at h
                        refine mg_Ev.call (y := 130) (as := [.ref 43, .int 48, .int 57]) (rest := [.int (a0 + 11), .ref 50]) (v := some (.int v1561)) (w1 := (hp u1562 fL fD, c, z)) rfl rfl (Nat.le_of_ble_eq_true rfl) ((ev_M_readsDigit hf3823).deep (by decide)) ?_
                        by_cases hb3824 : (a0 + 11) < 0 ∨ 840 ≤ (a0 + 11).toNatClampNeg
                        · rw [if_pos hb3824] at h
                          cases h
                        · rw [if_neg hb3824] at h
                          refine mg_Ev.iast (a := 49) (n := 840) rfl (hpg_49 _ _ _) rfl hb3824 (hpa_49 _ _ _ _ _ _ _) ?_
                          refine mg_Ev.go 6 (pc' := 283) (loc' := [some (.ref 43), some (.int a0), some (.int x1554), none]) (st' := [.int x1554, .int (a0 + 12), .ref 50]) (w' := (hp (mg_up u1562 49 ((a0 + 11).toNatClampNeg) v1561) fL fD, c, z)) rfl ?_
                          by_cases hb3825 : (a0 + 12) < 0 ∨ 840 ≤ (a0 + 12).toNatClampNeg
                          · rw [if_pos hb3825] at h
                            cases h
                          · rw [if_neg hb3825] at h
                            refine mg_Ev.iast (a := 49) (n := 840) rfl (hpg_49 _ _ _) rfl hb3825 (hpa_49 _ _ _ _ _ _ _) ?_
                            cases h
                            exact mg_Ev.fin rfl rfl rfl
                      · rw [if_neg hc3822] at h
                        refine mg_Ev.go 6 (pc' := 283) (loc' := [some (.ref 43), some (.int a0), some (.int x1554), none]) (st' := [.int x1554, .int (a0 + 12), .ref 50]) (w' := (hp (mg_up u1558 49 ((a0 + 10).toNatClampNeg) v1557) fL fD, c, z)) rfl ?_
                        by_cases hb3826 : (a0 + 12) < 0 ∨ 840 ≤ (a0 + 12).toNatClampNeg
                        · rw [if_pos hb3826] at h
                          cases h
                        · rw [if_neg hb3826] at h
                          refine mg_Ev.iast (a := 49) (n := 840) rfl (hpg_49 _ _ _) rfl hb3826 (hpa_49 _ _ _ _ _ _ _) ?_
                          cases h
                          exact mg_Ev.fin rfl rfl rfl
                    · rw [if_neg hc3820] at h
                      refine mg_Ev.go 6 (pc' := 283) (loc' := [some (.ref 43), some (.int a0), some (.int x1554), none]) (st' := [.int x1554, .int (a0 + 12), .ref 50]) (w' := (hp (mg_up u1558 49 ((a0 + 10).toNatClampNeg) v1557) fL fD, c, z)) rfl ?_
                      by_cases hb3827 : (a0 + 12) < 0 ∨ 840 ≤ (a0 + 12).toNatClampNeg
                      · rw [if_pos hb3827] at h
                        cases h
                      · rw [if_neg hb3827] at h
                        refine mg_Ev.iast (a := 49) (n := 840) rfl (hpg_49 _ _ _) rfl hb3827 (hpa_49 _ _ _ _ _ _ _) ?_
                        cases h
                        exact mg_Ev.fin rfl rfl rfl
                · rw [if_neg hc3817] at h
                  refine mg_Ev.go 2 (pc' := 235) (loc' := [some (.ref 43), some (.int a0), some (.int x1554), none]) (st' := [.int ((mg_up (mg_up u1555 49 ((a0 + 10).toNatClampNeg) 0) 49 ((a0 + 11).toNatClampNeg) (-1)) 42 14)]) (w' := (hp (mg_up (mg_up u1555 49 ((a0 + 10).toNatClampNeg) 0) 49 ((a0 + 11).toNatClampNeg) (-1)) fL fD, c, z)) rfl ?_
                  refine mg_Ev.br (P := ((mg_up (mg_up u1555 49 ((a0 + 10).toNatClampNeg) 0) 49 ((a0 + 11).toNatClampNeg) (-1)) 42 14) = 0) (t := 238) (nx := 274) (st' := []) rfl rfl rfl rfl (fun hc3828 => ?_) (fun hc3828 => ?_)
                  · rw [if_pos hc3828] at h
                    refine mg_Ev.go 1 (pc' := 239) (loc' := [some (.ref 43), some (.int a0), some (.int x1554), none]) (st' := [.ref 43]) (w' := (hp (mg_up (mg_up u1555 49 ((a0 + 10).toNatClampNeg) 0) 49 ((a0 + 11).toNatClampNeg) (-1)) fL fD, c, z)) rfl ?_
                    obtain ⟨v1564, hf3829, h⟩ := Option.bind_eq_some_iff.mp h
                    refine mg_Ev.call (y := 128) (as := [.ref 43]) (rest := []) (v := some (.int v1564)) (w1 := (hp (mg_up (mg_up u1555 49 ((a0 + 10).toNatClampNeg) 0) 49 ((a0 + 11).toNatClampNeg) (-1)) fL fD, c, z)) rfl rfl (Nat.le_of_ble_eq_true rfl) ((ev_M_here hf3829).deep (by decide)) ?_
                    refine mg_Ev.go 1 (pc' := 244) (loc' := [some (.ref 43), some (.int a0), some (.int x1554), none]) (st' := [.int 35, .int v1564]) (w' := (hp (mg_up (mg_up u1555 49 ((a0 + 10).toNatClampNeg) 0) 49 ((a0 + 11).toNatClampNeg) (-1)) fL fD, c, z)) rfl ?_
                    refine mg_Ev.br (P := v1564 = 35) (t := 247) (nx := 274) (st' := []) rfl rfl rfl rfl (fun hc3830 => ?_) (fun hc3830 => ?_)
                    · rw [if_pos hc3830] at h
                      refine mg_Ev.go 5 (pc' := 254) (loc' := [some (.ref 43), some (.int a0), some (.int x1554), none]) (st' := [.int (((mg_up (mg_up u1555 49 ((a0 + 10).toNatClampNeg) 0) 49 ((a0 + 11).toNatClampNeg) (-1)) 42 13) + 1), .ref 43]) (w' := (hp (mg_up (mg_up u1555 49 ((a0 + 10).toNatClampNeg) 0) 49 ((a0 + 11).toNatClampNeg) (-1)) fL fD, c, z)) rfl ?_
                      refine mg_Ev.put rfl (hpg_42 _ _ _) (Nat.le_of_ble_eq_true rfl) rfl (hpf_42_13 _ _ _ _ _ _) ?_
                      refine mg_Ev.go 8 (pc' := 270) (loc' := [some (.ref 43), some (.int a0), some (.int x1554), none]) (st' := [.int 57, .int 48, .ref 43, .int (a0 + 11), .ref 50]) (w' := (hp (mg_up (mg_up (mg_up u1555 49 ((a0 + 10).toNatClampNeg) 0) 49 ((a0 + 11).toNatClampNeg) (-1)) 42 13 (((mg_up (mg_up u1555 49 ((a0 + 10).toNatClampNeg) 0) 49 ((a0 + 11).toNatClampNeg) (-1)) 42 13) + 1)) fL fD, c, z)) rfl ?_
                      obtain ⟨⟨v1565, u1566⟩, hf3831, h⟩ := Option.bind_eq_some_iff.mp h
                      try dsimp only at h
                      refine mg_Ev.call (y := 130) (as := [.ref 43, .int 48, .int 57]) (rest := [.int (a0 + 11), .ref 50]) (v := some (.int v1565)) (w1 := (hp u1566 fL fD, c, z)) rfl rfl (Nat.le_of_ble_eq_true rfl) ((ev_M_readsDigit hf3831).deep (by decide)) ?_
                      by_cases hb3832 : (a0 + 11) < 0 ∨ 840 ≤ (a0 + 11).toNatClampNeg
                      · rw [if_pos hb3832] at h
                        cases h
                      · rw [if_neg hb3832] at h
                        refine mg_Ev.iast (a := 49) (n := 840) rfl (hpg_49 _ _ _) rfl hb3832 (hpa_49 _ _ _ _ _ _ _) ?_
                        refine mg_Ev.go 6 (pc' := 283) (loc' := [some (.ref 43), some (.int a0), some (.int x1554), none]) (st' := [.int x1554, .int (a0 + 12), .ref 50]) (w' := (hp (mg_up u1566 49 ((a0 + 11).toNatClampNeg) v1565) fL fD, c, z)) rfl ?_
                        by_cases hb3833 : (a0 + 12) < 0 ∨ 840 ≤ (a0 + 12).toNatClampNeg
                        · rw [if_pos hb3833] at h
                          cases h
                        · rw [if_neg hb3833] at h
                          refine mg_Ev.iast (a := 49) (n := 840) rfl (hpg_49 _ _ _) rfl hb3833 (hpa_49 _ _ _ _ _ _ _) ?_
                          cases h
                          exact mg_Ev.fin rfl rfl rfl
                    · rw [if_neg hc3830] at h
                      refine mg_Ev.go 6 (pc' := 283) (loc' := [some (.ref 43), some (.int a0), some (.int x1554), none]) (st' := [.int x1554, .int (a0 + 12), .ref 50]) (w' := (hp (mg_up (mg_up u1555 49 ((a0 + 10).toNatClampNeg) 0) 49 ((a0 + 11).toNatClampNeg) (-1)) fL fD, c, z)) rfl ?_
                      by_cases hb3834 : (a0 + 12) < 0 ∨ 840 ≤ (a0 + 12).toNatClampNeg
                      · rw [if_pos hb3834] at h
                        cases h
                      · rw [if_neg hb3834] at h
                        refine mg_Ev.iast (a := 49) (n := 840) rfl (hpg_49 _ _ _) rfl hb3834 (hpa_49 _ _ _ _ _ _ _) ?_
                        cases h
                        exact mg_Ev.fin rfl rfl rfl
                  · rw [if_neg hc3828] at h
                    refine mg_Ev.go 6 (pc' := 283) (loc' := [some (.ref 43), some (.int a0), some (.int x1554), none]) (st' := [.int x1554, .int (a0 + 12), .ref 50]) (w' := (hp (mg_up (mg_up u1555 49 ((a0 + 10).toNatClampNeg) 0) 49 ((a0 + 11).toNatClampNeg) (-1)) fL fD, c, z)) rfl ?_
                    by_cases hb3835 : (a0 + 12) < 0 ∨ 840 ≤ (a0 + 12).toNatClampNeg
                    · rw [if_pos hb3835] at h
                      cases h
                    · rw [if_neg hb3835] at h
                      refine mg_Ev.iast (a := 49) (n := 840) rfl (hpg_49 _ _ _) rfl hb3835 (hpa_49 _ _ _ _ _ _ _) ?_
                      cases h
                      exact mg_Ev.fin rfl rfl rfl
              · rw [if_neg hc3815] at h
                refine mg_Ev.go 2 (pc' := 235) (loc' := [some (.ref 43), some (.int a0), some (.int x1554), none]) (st' := [.int ((mg_up (mg_up u1555 49 ((a0 + 10).toNatClampNeg) 0) 49 ((a0 + 11).toNatClampNeg) (-1)) 42 14)]) (w' := (hp (mg_up (mg_up u1555 49 ((a0 + 10).toNatClampNeg) 0) 49 ((a0 + 11).toNatClampNeg) (-1)) fL fD, c, z)) rfl ?_
                refine mg_Ev.br (P := ((mg_up (mg_up u1555 49 ((a0 + 10).toNatClampNeg) 0) 49 ((a0 + 11).toNatClampNeg) (-1)) 42 14) = 0) (t := 238) (nx := 274) (st' := []) rfl rfl rfl rfl (fun hc3836 => ?_) (fun hc3836 => ?_)
                · rw [if_pos hc3836] at h
                  refine mg_Ev.go 1 (pc' := 239) (loc' := [some (.ref 43), some (.int a0), some (.int x1554), none]) (st' := [.ref 43]) (w' := (hp (mg_up (mg_up u1555 49 ((a0 + 10).toNatClampNeg) 0) 49 ((a0 + 11).toNatClampNeg) (-1)) fL fD, c, z)) rfl ?_
                  obtain ⟨v1568, hf3837, h⟩ := Option.bind_eq_some_iff.mp h
                  refine mg_Ev.call (y := 128) (as := [.ref 43]) (rest := []) (v := some (.int v1568)) (w1 := (hp (mg_up (mg_up u1555 49 ((a0 + 10).toNatClampNeg) 0) 49 ((a0 + 11).toNatClampNeg) (-1)) fL fD, c, z)) rfl rfl (Nat.le_of_ble_eq_true rfl) ((ev_M_here hf3837).deep (by decide)) ?_
                  refine mg_Ev.go 1 (pc' := 244) (loc' := [some (.ref 43), some (.int a0), some (.int x1554), none]) (st' := [.int 35, .int v1568]) (w' := (hp (mg_up (mg_up u1555 49 ((a0 + 10).toNatClampNeg) 0) 49 ((a0 + 11).toNatClampNeg) (-1)) fL fD, c, z)) rfl ?_
                  refine mg_Ev.br (P := v1568 = 35) (t := 247) (nx := 274) (st' := []) rfl rfl rfl rfl (fun hc3838 => ?_) (fun hc3838 => ?_)
                  · rw [if_pos hc3838] at h
                    refine mg_Ev.go 5 (pc' := 254) (loc' := [some (.ref 43), some (.int a0), some (.int x1554), none]) (st' := [.int (((mg_up (mg_up u1555 49 ((a0 + 10).toNatClampNeg) 0) 49 ((a0 + 11).toNatClampNeg) (-1)) 42 13) + 1), .ref 43]) (w' := (hp (mg_up (mg_up u1555 49 ((a0 + 10).toNatClampNeg) 0) 49 ((a0 + 11).toNatClampNeg) (-1)) fL fD, c, z)) rfl ?_
                    refine mg_Ev.put rfl (hpg_42 _ _ _) (Nat.le_of_ble_eq_true rfl) rfl (hpf_42_13 _ _ _ _ _ _) ?_
                    refine mg_Ev.go 8 (pc' := 270) (loc' := [some (.ref 43), some (.int a0), some (.int x1554), none]) (st' := [.int 57, .int 48, .ref 43, .int (a0 + 11), .ref 50]) (w' := (hp (mg_up (mg_up (mg_up u1555 49 ((a0 + 10).toNatClampNeg) 0) 49 ((a0 + 11).toNatClampNeg) (-1)) 42 13 (((mg_up (mg_up u1555 49 ((a0 + 10).toNatClampNeg) 0) 49 ((a0 + 11).toNatClampNeg) (-1)) 42 13) + 1)) fL fD, c, z)) rfl ?_
                    obtain ⟨⟨v1569, u1570⟩, hf3839, h⟩ := Option.bind_eq_some_iff.mp h
                    try dsimp only at h
                    refine mg_Ev.call (y := 130) (as := [.ref 43, .int 48, .int 57]) (rest := [.int (a0 + 11), .ref 50]) (v := some (.int v1569)) (w1 := (hp u1570 fL fD, c, z)) rfl rfl (Nat.le_of_ble_eq_true rfl) ((ev_M_readsDigit hf3839).deep (by decide)) ?_
                    by_cases hb3840 : (a0 + 11) < 0 ∨ 840 ≤ (a0 + 11).toNatClampNeg
                    · rw [if_pos hb3840] at h
                      cases h
                    · rw [if_neg hb3840] at h
                      refine mg_Ev.iast (a := 49) (n := 840) rfl (hpg_49 _ _ _) rfl hb3840 (hpa_49 _ _ _ _ _ _ _) ?_
                      refine mg_Ev.go 6 (pc' := 283) (loc' := [some (.ref 43), some (.int a0), some (.int x1554), none]) (st' := [.int x1554, .int (a0 + 12), .ref 50]) (w' := (hp (mg_up u1570 49 ((a0 + 11).toNatClampNeg) v1569) fL fD, c, z)) rfl ?_
                      by_cases hb3841 : (a0 + 12) < 0 ∨ 840 ≤ (a0 + 12).toNatClampNeg
                      · rw [if_pos hb3841] at h
                        cases h
                      · rw [if_neg hb3841] at h
                        refine mg_Ev.iast (a := 49) (n := 840) rfl (hpg_49 _ _ _) rfl hb3841 (hpa_49 _ _ _ _ _ _ _) ?_
                        cases h
                        exact mg_Ev.fin rfl rfl rfl
                  · rw [if_neg hc3838] at h
                    refine mg_Ev.go 6 (pc' := 283) (loc' := [some (.ref 43), some (.int a0), some (.int x1554), none]) (st' := [.int x1554, .int (a0 + 12), .ref 50]) (w' := (hp (mg_up (mg_up u1555 49 ((a0 + 10).toNatClampNeg) 0) 49 ((a0 + 11).toNatClampNeg) (-1)) fL fD, c, z)) rfl ?_
                    by_cases hb3842 : (a0 + 12) < 0 ∨ 840 ≤ (a0 + 12).toNatClampNeg
                    · rw [if_pos hb3842] at h
                      cases h
                    · rw [if_neg hb3842] at h
                      refine mg_Ev.iast (a := 49) (n := 840) rfl (hpg_49 _ _ _) rfl hb3842 (hpa_49 _ _ _ _ _ _ _) ?_
                      cases h
                      exact mg_Ev.fin rfl rfl rfl
                · rw [if_neg hc3836] at h
                  refine mg_Ev.go 6 (pc' := 283) (loc' := [some (.ref 43), some (.int a0), some (.int x1554), none]) (st' := [.int x1554, .int (a0 + 12), .ref 50]) (w' := (hp (mg_up (mg_up u1555 49 ((a0 + 10).toNatClampNeg) 0) 49 ((a0 + 11).toNatClampNeg) (-1)) fL fD, c, z)) rfl ?_
                  by_cases hb3843 : (a0 + 12) < 0 ∨ 840 ≤ (a0 + 12).toNatClampNeg
                  · rw [if_pos hb3843] at h
                    cases h
                  · rw [if_neg hb3843] at h
                    refine mg_Ev.iast (a := 49) (n := 840) rfl (hpg_49 _ _ _) rfl hb3843 (hpa_49 _ _ _ _ _ _ _) ?_
                    cases h
                    exact mg_Ev.fin rfl rfl rfl
        · rw [if_neg hc3811] at h
          refine mg_Ev.go 2 (pc' := 60) (loc' := [some (.ref 43), some (.int a0), some (.int 0), some (.int 0)]) (st' := []) (w' := (hp u1553 fL fD, c, z)) rfl ?_
          obtain ⟨⟨x1572, u1573⟩, hl3844, h⟩ := Option.bind_eq_some_iff.mp h
          try dsimp only at h
          refine mg_Ev.more (loc := [some (.ref 43), some (.int a0), some (.int 0), some (.int 0)]) (ev_M_readsEntry_L60 _ _ _ _ _ _ hl3844 _ ?_) ⟨rfl, ⟨rfl, ⟨rfl, ⟨rfl, trivial⟩⟩⟩⟩
          show mg_Ev _ _ _ 168 [some (.ref 43), some (.int a0), some (.int x1572), none] [] (hp u1573 fL fD, c, z) _
          refine mg_Ev.go 6 (pc' := 177) (loc' := [some (.ref 43), some (.int a0), some (.int x1572), none]) (st' := [.int 0, .int (a0 + 10), .ref 50]) (w' := (hp u1573 fL fD, c, z)) rfl ?_
          by_cases hb3845 : (a0 + 10) < 0 ∨ 840 ≤ (a0 + 10).toNatClampNeg
          · rw [if_pos hb3845] at h
            cases h
          · rw [if_neg hb3845] at h
            refine mg_Ev.iast (a := 49) (n := 840) rfl (hpg_49 _ _ _) rfl hb3845 (hpa_49 _ _ _ _ _ _ _) ?_
            refine mg_Ev.go 6 (pc' := 187) (loc' := [some (.ref 43), some (.int a0), some (.int x1572), none]) (st' := [.int (-1), .int (a0 + 11), .ref 50]) (w' := (hp (mg_up u1573 49 ((a0 + 10).toNatClampNeg) 0) fL fD, c, z)) rfl ?_
            by_cases hb3846 : (a0 + 11) < 0 ∨ 840 ≤ (a0 + 11).toNatClampNeg
            · rw [if_pos hb3846] at h
              cases h
            · rw [if_neg hb3846] at h
              refine mg_Ev.iast (a := 49) (n := 840) rfl (hpg_49 _ _ _) rfl hb3846 (hpa_49 _ _ _ _ _ _ _) ?_
              refine mg_Ev.go 2 (pc' := 192) (loc' := [some (.ref 43), some (.int a0), some (.int x1572), none]) (st' := [.int ((mg_up (mg_up u1573 49 ((a0 + 10).toNatClampNeg) 0) 49 ((a0 + 11).toNatClampNeg) (-1)) 42 14)]) (w' := (hp (mg_up (mg_up u1573 49 ((a0 + 10).toNatClampNeg) 0) 49 ((a0 + 11).toNatClampNeg) (-1)) fL fD, c, z)) rfl ?_
              refine mg_Ev.br (P := ((mg_up (mg_up u1573 49 ((a0 + 10).toNatClampNeg) 0) 49 ((a0 + 11).toNatClampNeg) (-1)) 42 14) = 0) (t := 195) (nx := 231) (st' := []) rfl rfl rfl rfl (fun hc3847 => ?_) (fun hc3847 => ?_)
              · rw [if_pos hc3847] at h
                refine mg_Ev.go 1 (pc' := 196) (loc' := [some (.ref 43), some (.int a0), some (.int x1572), none]) (st' := [.ref 43]) (w' := (hp (mg_up (mg_up u1573 49 ((a0 + 10).toNatClampNeg) 0) 49 ((a0 + 11).toNatClampNeg) (-1)) fL fD, c, z)) rfl ?_
                obtain ⟨v1574, hf3848, h⟩ := Option.bind_eq_some_iff.mp h
                refine mg_Ev.call (y := 128) (as := [.ref 43]) (rest := []) (v := some (.int v1574)) (w1 := (hp (mg_up (mg_up u1573 49 ((a0 + 10).toNatClampNeg) 0) 49 ((a0 + 11).toNatClampNeg) (-1)) fL fD, c, z)) rfl rfl (Nat.le_of_ble_eq_true rfl) ((ev_M_here hf3848).deep (by decide)) ?_
                refine mg_Ev.go 1 (pc' := 201) (loc' := [some (.ref 43), some (.int a0), some (.int x1572), none]) (st' := [.int 33, .int v1574]) (w' := (hp (mg_up (mg_up u1573 49 ((a0 + 10).toNatClampNeg) 0) 49 ((a0 + 11).toNatClampNeg) (-1)) fL fD, c, z)) rfl ?_
                refine mg_Ev.br (P := v1574 = 33) (t := 204) (nx := 231) (st' := []) rfl rfl rfl rfl (fun hc3849 => ?_) (fun hc3849 => ?_)
                · rw [if_pos hc3849] at h
                  refine mg_Ev.go 5 (pc' := 211) (loc' := [some (.ref 43), some (.int a0), some (.int x1572), none]) (st' := [.int (((mg_up (mg_up u1573 49 ((a0 + 10).toNatClampNeg) 0) 49 ((a0 + 11).toNatClampNeg) (-1)) 42 13) + 1), .ref 43]) (w' := (hp (mg_up (mg_up u1573 49 ((a0 + 10).toNatClampNeg) 0) 49 ((a0 + 11).toNatClampNeg) (-1)) fL fD, c, z)) rfl ?_
                  refine mg_Ev.put rfl (hpg_42 _ _ _) (Nat.le_of_ble_eq_true rfl) rfl (hpf_42_13 _ _ _ _ _ _) ?_
                  refine mg_Ev.go 8 (pc' := 227) (loc' := [some (.ref 43), some (.int a0), some (.int x1572), none]) (st' := [.int 57, .int 48, .ref 43, .int (a0 + 10), .ref 50]) (w' := (hp (mg_up (mg_up (mg_up u1573 49 ((a0 + 10).toNatClampNeg) 0) 49 ((a0 + 11).toNatClampNeg) (-1)) 42 13 (((mg_up (mg_up u1573 49 ((a0 + 10).toNatClampNeg) 0) 49 ((a0 + 11).toNatClampNeg) (-1)) 42 13) + 1)) fL fD, c, z)) rfl ?_
                  obtain ⟨⟨v1575, u1576⟩, hf3850, h⟩ := Option.bind_eq_some_iff.mp h
                  try dsimp only at h
                  refine mg_Ev.call (y := 130) (as := [.ref 43, .int 48, .int 57]) (rest := [.int (a0 + 10), .ref 50]) (v := some (.int v1575)) (w1 := (hp u1576 fL fD, c, z)) rfl rfl (Nat.le_of_ble_eq_true rfl) ((ev_M_readsDigit hf3850).deep (by decide)) ?_
                  by_cases hb3851 : (a0 + 10) < 0 ∨ 840 ≤ (a0 + 10).toNatClampNeg
                  · rw [if_pos hb3851] at h
                    cases h
                  · rw [if_neg hb3851] at h
                    refine mg_Ev.iast (a := 49) (n := 840) rfl (hpg_49 _ _ _) rfl hb3851 (hpa_49 _ _ _ _ _ _ _) ?_
                    refine mg_Ev.go 2 (pc' := 235) (loc' := [some (.ref 43), some (.int a0), some (.int x1572), none]) (st' := [.int ((mg_up u1576 49 ((a0 + 10).toNatClampNeg) v1575) 42 14)]) (w' := (hp (mg_up u1576 49 ((a0 + 10).toNatClampNeg) v1575) fL fD, c, z)) rfl ?_
                    refine mg_Ev.br (P := ((mg_up u1576 49 ((a0 + 10).toNatClampNeg) v1575) 42 14) = 0) (t := 238) (nx := 274) (st' := []) rfl rfl rfl rfl (fun hc3852 => ?_) (fun hc3852 => ?_)
                    · rw [if_pos hc3852] at h
                      refine mg_Ev.go 1 (pc' := 239) (loc' := [some (.ref 43), some (.int a0), some (.int x1572), none]) (st' := [.ref 43]) (w' := (hp (mg_up u1576 49 ((a0 + 10).toNatClampNeg) v1575) fL fD, c, z)) rfl ?_
                      obtain ⟨v1578, hf3853, h⟩ := Option.bind_eq_some_iff.mp h
                      refine mg_Ev.call (y := 128) (as := [.ref 43]) (rest := []) (v := some (.int v1578)) (w1 := (hp (mg_up u1576 49 ((a0 + 10).toNatClampNeg) v1575) fL fD, c, z)) rfl rfl (Nat.le_of_ble_eq_true rfl) ((ev_M_here hf3853).deep (by decide)) ?_
                      refine mg_Ev.go 1 (pc' := 244) (loc' := [some (.ref 43), some (.int a0), some (.int x1572), none]) (st' := [.int 35, .int v1578]) (w' := (hp (mg_up u1576 49 ((a0 + 10).toNatClampNeg) v1575) fL fD, c, z)) rfl ?_
                      refine mg_Ev.br (P := v1578 = 35) (t := 247) (nx := 274) (st' := []) rfl rfl rfl rfl (fun hc3854 => ?_) (fun hc3854 => ?_)
                      · rw [if_pos hc3854] at h
                        refine mg_Ev.go 5 (pc' := 254) (loc' := [some (.ref 43), some (.int a0), some (.int x1572), none]) (st' := [.int (((mg_up u1576 49 ((a0 + 10).toNatClampNeg) v1575) 42 13) + 1), .ref 43]) (w' := (hp (mg_up u1576 49 ((a0 + 10).toNatClampNeg) v1575) fL fD, c, z)) rfl ?_
                        refine mg_Ev.put rfl (hpg_42 _ _ _) (Nat.le_of_ble_eq_true rfl) rfl (hpf_42_13 _ _ _ _ _ _) ?_
                        refine mg_Ev.go 8 (pc' := 270) (loc' := [some (.ref 43), some (.int a0), some (.int x1572), none]) (st' := [.int 57, .int 48, .ref 43, .int (a0 + 11), .ref 50]) (w' := (hp (mg_up (mg_up u1576 49 ((a0 + 10).toNatClampNeg) v1575) 42 13 (((mg_up u1576 49 ((a0 + 10).toNatClampNeg) v1575) 42 13) + 1)) fL fD, c, z)) rfl ?_
                        obtain ⟨⟨v1579, u1580⟩, hf3855, h⟩ := Option.bind_eq_some_iff.mp h
                        try dsimp only at h
                        refine mg_Ev.call (y := 130) (as := [.ref 43, .int 48, .int 57]) (rest := [.int (a0 + 11), .ref 50]) (v := some (.int v1579)) (w1 := (hp u1580 fL fD, c, z)) rfl rfl (Nat.le_of_ble_eq_true rfl) ((ev_M_readsDigit hf3855).deep (by decide)) ?_
                        by_cases hb3856 : (a0 + 11) < 0 ∨ 840 ≤ (a0 + 11).toNatClampNeg
                        · rw [if_pos hb3856] at h
                          cases h
                        · rw [if_neg hb3856] at h
                          refine mg_Ev.iast (a := 49) (n := 840) rfl (hpg_49 _ _ _) rfl hb3856 (hpa_49 _ _ _ _ _ _ _) ?_
                          refine mg_Ev.go 6 (pc' := 283) (loc' := [some (.ref 43), some (.int a0), some (.int x1572), none]) (st' := [.int x1572, .int (a0 + 12), .ref 50]) (w' := (hp (mg_up u1580 49 ((a0 + 11).toNatClampNeg) v1579) fL fD, c, z)) rfl ?_
                          by_cases hb3857 : (a0 + 12) < 0 ∨ 840 ≤ (a0 + 12).toNatClampNeg
                          · rw [if_pos hb3857] at h
                            cases h
                          · rw [if_neg hb3857] at h
                            refine mg_Ev.iast (a := 49) (n := 840) rfl (hpg_49 _ _ _) rfl hb3857 (hpa_49 _ _ _ _ _ _ _) ?_
                            cases h
                            exact mg_Ev.fin rfl rfl rfl
                      · rw [if_neg hc3854] at h
                        refine mg_Ev.go 6 (pc' := 283) (loc' := [some (.ref 43), some (.int a0), some (.int x1572), none]) (st' := [.int x1572, .int (a0 + 12), .ref 50]) (w' := (hp (mg_up u1576 49 ((a0 + 10).toNatClampNeg) v1575) fL fD, c, z)) rfl ?_
                        by_cases hb3858 : (a0 + 12) < 0 ∨ 840 ≤ (a0 + 12).toNatClampNeg
                        · rw [if_pos hb3858] at h
                          cases h
                        · rw [if_neg hb3858] at h
                          refine mg_Ev.iast (a := 49) (n := 840) rfl (hpg_49 _ _ _) rfl hb3858 (hpa_49 _ _ _ _ _ _ _) ?_
                          cases h
                          exact mg_Ev.fin rfl rfl rfl
                    · rw [if_neg hc3852] at h
                      refine mg_Ev.go 6 (pc' := 283) (loc' := [some (.ref 43), some (.int a0), some (.int x1572), none]) (st' := [.int x1572, .int (a0 + 12), .ref 50]) (w' := (hp (mg_up u1576 49 ((a0 + 10).toNatClampNeg) v1575) fL fD, c, z)) rfl ?_
                      by_cases hb3859 : (a0 + 12) < 0 ∨ 840 ≤ (a0 + 12).toNatClampNeg
                      · rw [if_pos hb3859] at h
                        cases h
                      · rw [if_neg hb3859] at h
                        refine mg_Ev.iast (a := 49) (n := 840) rfl (hpg_49 _ _ _) rfl hb3859 (hpa_49 _ _ _ _ _ _ _) ?_
                        cases h
                        exact mg_Ev.fin rfl rfl rfl
                · rw [if_neg hc3849] at h
                  refine mg_Ev.go 2 (pc' := 235) (loc' := [some (.ref 43), some (.int a0), some (.int x1572), none]) (st' := [.int ((mg_up (mg_up u1573 49 ((a0 + 10).toNatClampNeg) 0) 49 ((a0 + 11).toNatClampNeg) (-1)) 42 14)]) (w' := (hp (mg_up (mg_up u1573 49 ((a0 + 10).toNatClampNeg) 0) 49 ((a0 + 11).toNatClampNeg) (-1)) fL fD, c, z)) rfl ?_
                  refine mg_Ev.br (P := ((mg_up (mg_up u1573 49 ((a0 + 10).toNatClampNeg) 0) 49 ((a0 + 11).toNatClampNeg) (-1)) 42 14) = 0) (t := 238) (nx := 274) (st' := []) rfl rfl rfl rfl (fun hc3860 => ?_) (fun hc3860 => ?_)
                  · rw [if_pos hc3860] at h
                    refine mg_Ev.go 1 (pc' := 239) (loc' := [some (.ref 43), some (.int a0), some (.int x1572), none]) (st' := [.ref 43]) (w' := (hp (mg_up (mg_up u1573 49 ((a0 + 10).toNatClampNeg) 0) 49 ((a0 + 11).toNatClampNeg) (-1)) fL fD, c, z)) rfl ?_
                    obtain ⟨v1582, hf3861, h⟩ := Option.bind_eq_some_iff.mp h
                    refine mg_Ev.call (y := 128) (as := [.ref 43]) (rest := []) (v := some (.int v1582)) (w1 := (hp (mg_up (mg_up u1573 49 ((a0 + 10).toNatClampNeg) 0) 49 ((a0 + 11).toNatClampNeg) (-1)) fL fD, c, z)) rfl rfl (Nat.le_of_ble_eq_true rfl) ((ev_M_here hf3861).deep (by decide)) ?_
                    refine mg_Ev.go 1 (pc' := 244) (loc' := [some (.ref 43), some (.int a0), some (.int x1572), none]) (st' := [.int 35, .int v1582]) (w' := (hp (mg_up (mg_up u1573 49 ((a0 + 10).toNatClampNeg) 0) 49 ((a0 + 11).toNatClampNeg) (-1)) fL fD, c, z)) rfl ?_
                    refine mg_Ev.br (P := v1582 = 35) (t := 247) (nx := 274) (st' := []) rfl rfl rfl rfl (fun hc3862 => ?_) (fun hc3862 => ?_)
                    · rw [if_pos hc3862] at h
                      refine mg_Ev.go 5 (pc' := 254) (loc' := [some (.ref 43), some (.int a0), some (.int x1572), none]) (st' := [.int (((mg_up (mg_up u1573 49 ((a0 + 10).toNatClampNeg) 0) 49 ((a0 + 11).toNatClampNeg) (-1)) 42 13) + 1), .ref 43]) (w' := (hp (mg_up (mg_up u1573 49 ((a0 + 10).toNatClampNeg) 0) 49 ((a0 + 11).toNatClampNeg) (-1)) fL fD, c, z)) rfl ?_
                      refine mg_Ev.put rfl (hpg_42 _ _ _) (Nat.le_of_ble_eq_true rfl) rfl (hpf_42_13 _ _ _ _ _ _) ?_
                      refine mg_Ev.go 8 (pc' := 270) (loc' := [some (.ref 43), some (.int a0), some (.int x1572), none]) (st' := [.int 57, .int 48, .ref 43, .int (a0 + 11), .ref 50]) (w' := (hp (mg_up (mg_up (mg_up u1573 49 ((a0 + 10).toNatClampNeg) 0) 49 ((a0 + 11).toNatClampNeg) (-1)) 42 13 (((mg_up (mg_up u1573 49 ((a0 + 10).toNatClampNeg) 0) 49 ((a0 + 11).toNatClampNeg) (-1)) 42 13) + 1)) fL fD, c, z)) rfl ?_
                      obtain ⟨⟨v1583, u1584⟩, hf3863, h⟩ := Option.bind_eq_some_iff.mp h
                      try dsimp only at h
                      refine mg_Ev.call (y := 130) (as := [.ref 43, .int 48, .int 57]) (rest := [.int (a0 + 11), .ref 50]) (v := some (.int v1583)) (w1 := (hp u1584 fL fD, c, z)) rfl rfl (Nat.le_of_ble_eq_true rfl) ((ev_M_readsDigit hf3863).deep (by decide)) ?_
                      by_cases hb3864 : (a0 + 11) < 0 ∨ 840 ≤ (a0 + 11).toNatClampNeg
                      · rw [if_pos hb3864] at h
                        cases h
                      · rw [if_neg hb3864] at h
                        refine mg_Ev.iast (a := 49) (n := 840) rfl (hpg_49 _ _ _) rfl hb3864 (hpa_49 _ _ _ _ _ _ _) ?_
                        refine mg_Ev.go 6 (pc' := 283) (loc' := [some (.ref 43), some (.int a0), some (.int x1572), none]) (st' := [.int x1572, .int (a0 + 12), .ref 50]) (w' := (hp (mg_up u1584 49 ((a0 + 11).toNatClampNeg) v1583) fL fD, c, z)) rfl ?_
                        by_cases hb3865 : (a0 + 12) < 0 ∨ 840 ≤ (a0 + 12).toNatClampNeg
                        · rw [if_pos hb3865] at h
                          cases h
                        · rw [if_neg hb3865] at h
                          refine mg_Ev.iast (a := 49) (n := 840) rfl (hpg_49 _ _ _) rfl hb3865 (hpa_49 _ _ _ _ _ _ _) ?_
                          cases h
                          exact mg_Ev.fin rfl rfl rfl
                    · rw [if_neg hc3862] at h
                      refine mg_Ev.go 6 (pc' := 283) (loc' := [some (.ref 43), some (.int a0), some (.int x1572), none]) (st' := [.int x1572, .int (a0 + 12), .ref 50]) (w' := (hp (mg_up (mg_up u1573 49 ((a0 + 10).toNatClampNeg) 0) 49 ((a0 + 11).toNatClampNeg) (-1)) fL fD, c, z)) rfl ?_
                      by_cases hb3866 : (a0 + 12) < 0 ∨ 840 ≤ (a0 + 12).toNatClampNeg
                      · rw [if_pos hb3866] at h
                        cases h
                      · rw [if_neg hb3866] at h
                        refine mg_Ev.iast (a := 49) (n := 840) rfl (hpg_49 _ _ _) rfl hb3866 (hpa_49 _ _ _ _ _ _ _) ?_
                        cases h
                        exact mg_Ev.fin rfl rfl rfl
                  · rw [if_neg hc3860] at h
                    refine mg_Ev.go 6 (pc' := 283) (loc' := [some (.ref 43), some (.int a0), some (.int x1572), none]) (st' := [.int x1572, .int (a0 + 12), .ref 50]) (w' := (hp (mg_up (mg_up u1573 49 ((a0 + 10).toNatClampNeg) 0) 49 ((a0 + 11).toNatClampNeg) (-1)) fL fD, c, z)) rfl ?_
                    by_cases hb3867 : (a0 + 12) < 0 ∨ 840 ≤ (a0 + 12).toNatClampNeg
                    · rw [if_pos hb3867] at h
                      cases h
                    · rw [if_neg hb3867] at h
                      refine mg_Ev.iast (a := 49) (n := 840) rfl (hpg_49 _ _ _) rfl hb3867 (hpa_49 _ _ _ _ _ _ _) ?_
                      cases h
                      exact mg_Ev.fin rfl rfl rfl
              · rw [if_neg hc3847] at h
                refine mg_Ev.go 2 (pc' := 235) (loc' := [some (.ref 43), some (.int a0), some (.int x1572), none]) (st' := [.int ((mg_up (mg_up u1573 49 ((a0 + 10).toNatClampNeg) 0) 49 ((a0 + 11).toNatClampNeg) (-1)) 42 14)]) (w' := (hp (mg_up (mg_up u1573 49 ((a0 + 10).toNatClampNeg) 0) 49 ((a0 + 11).toNatClampNeg) (-1)) fL fD, c, z)) rfl ?_
                refine mg_Ev.br (P := ((mg_up (mg_up u1573 49 ((a0 + 10).toNatClampNeg) 0) 49 ((a0 + 11).toNatClampNeg) (-1)) 42 14) = 0) (t := 238) (nx := 274) (st' := []) rfl rfl rfl rfl (fun hc3868 => ?_) (fun hc3868 => ?_)
                · rw [if_pos hc3868] at h
                  refine mg_Ev.go 1 (pc' := 239) (loc' := [some (.ref 43), some (.int a0), some (.int x1572), none]) (st' := [.ref 43]) (w' := (hp (mg_up (mg_up u1573 49 ((a0 + 10).toNatClampNeg) 0) 49 ((a0 + 11).toNatClampNeg) (-1)) fL fD, c, z)) rfl ?_
                  obtain ⟨v1586, hf3869, h⟩ := Option.bind_eq_some_iff.mp h
                  refine mg_Ev.call (y := 128) (as := [.ref 43]) (rest := []) (v := some (.int v1586)) (w1 := (hp (mg_up (mg_up u1573 49 ((a0 + 10).toNatClampNeg) 0) 49 ((a0 + 11).toNatClampNeg) (-1)) fL fD, c, z)) rfl rfl (Nat.le_of_ble_eq_true rfl) ((ev_M_here hf3869).deep (by decide)) ?_
                  refine mg_Ev.go 1 (pc' := 244) (loc' := [some (.ref 43), some (.int a0), some (.int x1572), none]) (st' := [.int 35, .int v1586]) (w' := (hp (mg_up (mg_up u1573 49 ((a0 + 10).toNatClampNeg) 0) 49 ((a0 + 11).toNatClampNeg) (-1)) fL fD, c, z)) rfl ?_
                  refine mg_Ev.br (P := v1586 = 35) (t := 247) (nx := 274) (st' := []) rfl rfl rfl rfl (fun hc3870 => ?_) (fun hc3870 => ?_)
                  · rw [if_pos hc3870] at h
                    refine mg_Ev.go 5 (pc' := 254) (loc' := [some (.ref 43), some (.int a0), some (.int x1572), none]) (st' := [.int (((mg_up (mg_up u1573 49 ((a0 + 10).toNatClampNeg) 0) 49 ((a0 + 11).toNatClampNeg) (-1)) 42 13) + 1), .ref 43]) (w' := (hp (mg_up (mg_up u1573 49 ((a0 + 10).toNatClampNeg) 0) 49 ((a0 + 11).toNatClampNeg) (-1)) fL fD, c, z)) rfl ?_
                    refine mg_Ev.put rfl (hpg_42 _ _ _) (Nat.le_of_ble_eq_true rfl) rfl (hpf_42_13 _ _ _ _ _ _) ?_
                    refine mg_Ev.go 8 (pc' := 270) (loc' := [some (.ref 43), some (.int a0), some (.int x1572), none]) (st' := [.int 57, .int 48, .ref 43, .int (a0 + 11), .ref 50]) (w' := (hp (mg_up (mg_up (mg_up u1573 49 ((a0 + 10).toNatClampNeg) 0) 49 ((a0 + 11).toNatClampNeg) (-1)) 42 13 (((mg_up (mg_up u1573 49 ((a0 + 10).toNatClampNeg) 0) 49 ((a0 + 11).toNatClampNeg) (-1)) 42 13) + 1)) fL fD, c, z)) rfl ?_
                    obtain ⟨⟨v1587, u1588⟩, hf3871, h⟩ := Option.bind_eq_some_iff.mp h
                    try dsimp only at h
                    refine mg_Ev.call (y := 130) (as := [.ref 43, .int 48, .int 57]) (rest := [.int (a0 + 11), .ref 50]) (v := some (.int v1587)) (w1 := (hp u1588 fL fD, c, z)) rfl rfl (Nat.le_of_ble_eq_true rfl) ((ev_M_readsDigit hf3871).deep (by decide)) ?_
                    by_cases hb3872 : (a0 + 11) < 0 ∨ 840 ≤ (a0 + 11).toNatClampNeg
                    · rw [if_pos hb3872] at h
                      cases h
                    · rw [if_neg hb3872] at h
                      refine mg_Ev.iast (a := 49) (n := 840) rfl (hpg_49 _ _ _) rfl hb3872 (hpa_49 _ _ _ _ _ _ _) ?_
                      refine mg_Ev.go 6 (pc' := 283) (loc' := [some (.ref 43), some (.int a0), some (.int x1572), none]) (st' := [.int x1572, .int (a0 + 12), .ref 50]) (w' := (hp (mg_up u1588 49 ((a0 + 11).toNatClampNeg) v1587) fL fD, c, z)) rfl ?_
                      by_cases hb3873 : (a0 + 12) < 0 ∨ 840 ≤ (a0 + 12).toNatClampNeg
                      · rw [if_pos hb3873] at h
                        cases h
                      · rw [if_neg hb3873] at h
                        refine mg_Ev.iast (a := 49) (n := 840) rfl (hpg_49 _ _ _) rfl hb3873 (hpa_49 _ _ _ _ _ _ _) ?_
                        cases h
                        exact mg_Ev.fin rfl rfl rfl
                  · rw [if_neg hc3870] at h
                    refine mg_Ev.go 6 (pc' := 283) (loc' := [some (.ref 43), some (.int a0), some (.int x1572), none]) (st' := [.int x1572, .int (a0 + 12), .ref 50]) (w' := (hp (mg_up (mg_up u1573 49 ((a0 + 10).toNatClampNeg) 0) 49 ((a0 + 11).toNatClampNeg) (-1)) fL fD, c, z)) rfl ?_
                    by_cases hb3874 : (a0 + 12) < 0 ∨ 840 ≤ (a0 + 12).toNatClampNeg
                    · rw [if_pos hb3874] at h
                      cases h
                    · rw [if_neg hb3874] at h
                      refine mg_Ev.iast (a := 49) (n := 840) rfl (hpg_49 _ _ _) rfl hb3874 (hpa_49 _ _ _ _ _ _ _) ?_
                      cases h
                      exact mg_Ev.fin rfl rfl rfl
                · rw [if_neg hc3868] at h
                  refine mg_Ev.go 6 (pc' := 283) (loc' := [some (.ref 43), some (.int a0), some (.int x1572), none]) (st' := [.int x1572, .int (a0 + 12), .ref 50]) (w' := (hp (mg_up (mg_up u1573 49 ((a0 + 10).toNatClampNeg) 0) 49 ((a0 + 11).toNatClampNeg) (-1)) fL fD, c, z)) rfl ?_
                  by_cases hb3875 : (a0 + 12) < 0 ∨ 840 ≤ (a0 + 12).toNatClampNeg
                  · rw [if_pos hb3875] at h
                    cases h
                  · rw [if_neg hb3875] at h
                    refine mg_Ev.iast (a := 49) (n := 840) rfl (hpg_49 _ _ _) rfl hb3875 (hpa_49 _ _ _ _ _ _ _) ?_
                    cases h
                    exact mg_Ev.fin rfl rfl rfl

