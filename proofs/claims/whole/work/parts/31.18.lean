def M_lodgesEntry_L12 : Nat → Int32 → Int32 → Int32 → mg_Rg → Option (Int32 × mg_Rg)
  | 0, _, _, _, _ => none
  | n + 1, x1, x2, x3, u =>
    if (x1 + 12) < 0 ∨ 840 ≤ (x1 + 12).toNatClampNeg then none else
    if (u 49 ((x1 + 12).toNatClampNeg)) ≤ x3 then
    some ((x2, u))
    else
    if ((x1 + 2) + (2 * x3)) < 0 ∨ 840 ≤ ((x1 + 2) + (2 * x3)).toNatClampNeg then none else
      if ((x1 + 3) + (2 * x3)) < 0 ∨ 840 ≤ ((x1 + 3) + (2 * x3)).toNatClampNeg then none else
      (M_part (u 49 (((x1 + 2) + (2 * x3)).toNatClampNeg)) (u 49 (((x1 + 3) + (2 * x3)).toNatClampNeg)) u).bind fun p1592 => match p1592 with
      | (v1590, u1591) =>
        if (u1591 42 0) = 0 then
        M_lodgesEntry_L12 n x1 (x2 &&& 1) (x3 + 1) u1591
        else
        M_lodgesEntry_L12 n x1 (x2 &&& 0) (x3 + 1) u1591
set_option maxRecDepth 10000 in
set_option maxHeartbeats 4000000 in
theorem ev_M_lodgesEntry_L12 {sc : mg_Sc} {c z : Nat} {fL : Nat → Int64} {fD : Nat → UInt64} : ∀ (n : Nat) (x1 : Int32) (x2 : Int32) (x3 : Int32) (u : mg_Rg) (res : Int32 × mg_Rg), M_lodgesEntry_L12 n x1 x2 x3 u = some res → ∀ r, (match res with | (y2, yu) => mg_Ev sc 4 134 76 [some (.ref 43), some (.int x1), some (.int y2), none, none] [] (hp yu fL fD, c, z) r) → mg_Ev sc 4 134 12 [some (.ref 43), some (.int x1), some (.int x2), some (.int x3), none] [] (hp u fL fD, c, z) r := by
  intro n
  induction n with
  | zero => intro x1 x2 x3 u res h; cases h
  | succ n ih =>
    intro x1 x2 x3 u res h r K
    unfold M_lodgesEntry_L12 at h
    refine mg_Ev.go 6 (pc' := 21) (loc' := [some (.ref 43), some (.int x1), some (.int x2), some (.int x3), none]) (st' := [.int (x1 + 12), .ref 50, .int x3]) (w' := (hp u fL fD, c, z)) rfl ?_
    by_cases hb3876 : (x1 + 12) < 0 ∨ 840 ≤ (x1 + 12).toNatClampNeg
    · rw [if_pos hb3876] at h
      cases h
    · rw [if_neg hb3876] at h
      refine mg_Ev.iald (a := 49) (n := 840) (f := u 49) rfl (hpg_49 _ _ _) rfl hb3876 ?_
      refine mg_Ev.br (P := (u 49 ((x1 + 12).toNatClampNeg)) ≤ x3) (t := 76) (nx := 25) (st' := []) rfl rfl rfl rfl (fun hc3877 => ?_) (fun hc3877 => ?_)
      · rw [if_pos hc3877] at h
        cases h
        exact mg_Ev.more (loc := [some (.ref 43), some (.int x1), some (.int x2), none, none]) K ⟨rfl, ⟨rfl, ⟨rfl, trivial⟩⟩⟩
      · rw [if_neg hc3877] at h
        refine mg_Ev.go 10 (pc' := 37) (loc' := [some (.ref 43), some (.int x1), some (.int x2), some (.int x3), none]) (st' := [.int ((x1 + 2) + (2 * x3)), .ref 50, .ref 43]) (w' := (hp u fL fD, c, z)) rfl ?_
        by_cases hb3878 : ((x1 + 2) + (2 * x3)) < 0 ∨ 840 ≤ ((x1 + 2) + (2 * x3)).toNatClampNeg
        · rw [if_pos hb3878] at h
          cases h
        · rw [if_neg hb3878] at h
          refine mg_Ev.iald (a := 49) (n := 840) (f := u 49) rfl (hpg_49 _ _ _) rfl hb3878 ?_
          refine mg_Ev.go 9 (pc' := 49) (loc' := [some (.ref 43), some (.int x1), some (.int x2), some (.int x3), none]) (st' := [.int ((x1 + 3) + (2 * x3)), .ref 50, .int (u 49 (((x1 + 2) + (2 * x3)).toNatClampNeg)), .ref 43]) (w' := (hp u fL fD, c, z)) rfl ?_
          by_cases hb3879 : ((x1 + 3) + (2 * x3)) < 0 ∨ 840 ≤ ((x1 + 3) + (2 * x3)).toNatClampNeg
          · rw [if_pos hb3879] at h
            cases h
          · rw [if_neg hb3879] at h
            refine mg_Ev.iald (a := 49) (n := 840) (f := u 49) rfl (hpg_49 _ _ _) rfl hb3879 ?_
            obtain ⟨⟨v1590, u1591⟩, hf3880, h⟩ := Option.bind_eq_some_iff.mp h
            try dsimp only at h
            refine mg_Ev.call (y := 95) (as := [.ref 43, .int (u 49 (((x1 + 2) + (2 * x3)).toNatClampNeg)), .int (u 49 (((x1 + 3) + (2 * x3)).toNatClampNeg))]) (rest := []) (v := some (.int v1590)) (w1 := (hp u1591 fL fD, c, z)) rfl rfl (Nat.le_of_ble_eq_true rfl) ((ev_M_part hf3880).deep (by decide)) ?_
            refine mg_Ev.go 4 (pc' := 60) (loc' := [some (.ref 43), some (.int x1), some (.int x2), some (.int x3), some (.int v1590)]) (st' := [.int (u1591 42 0), .int x2]) (w' := (hp u1591 fL fD, c, z)) rfl ?_
            refine mg_Ev.br (P := (u1591 42 0) = 0) (t := 63) (nx := 67) (st' := [.int x2]) rfl rfl rfl rfl (fun hc3881 => ?_) (fun hc3881 => ?_)
            · rw [if_pos hc3881] at h
              refine mg_Ev.go 6 (pc' := 12) (loc' := [some (.ref 43), some (.int x1), some (.int (x2 &&& 1)), some (.int (x3 + 1)), some (.int v1590)]) (st' := []) (w' := (hp u1591 fL fD, c, z)) rfl ?_
              exact mg_Ev.more (loc := [some (.ref 43), some (.int x1), some (.int (x2 &&& 1)), some (.int (x3 + 1)), none]) (ih _ _ _ _ _ h _ K) ⟨rfl, ⟨rfl, ⟨rfl, ⟨rfl, trivial⟩⟩⟩⟩
            · rw [if_neg hc3881] at h
              refine mg_Ev.go 5 (pc' := 12) (loc' := [some (.ref 43), some (.int x1), some (.int (x2 &&& 0)), some (.int (x3 + 1)), some (.int v1590)]) (st' := []) (w' := (hp u1591 fL fD, c, z)) rfl ?_
              exact mg_Ev.more (loc := [some (.ref 43), some (.int x1), some (.int (x2 &&& 0)), some (.int (x3 + 1)), none]) (ih _ _ _ _ _ h _ K) ⟨rfl, ⟨rfl, ⟨rfl, ⟨rfl, trivial⟩⟩⟩⟩

def M_lodgesEntry (a0 : Int32) (u : mg_Rg) : Option (Int32 × mg_Rg) :=
  (M_lodgesEntry_L12 mg_F a0 1 0 (mg_up u 43 6 0)).bind fun q3882 => match q3882 with
  | (x1593, u1594) =>
    if x1593 = 0 then
    if x1593 = 0 then
      some (0, u1594)
      else
      if (u1594 42 0) = 0 then
        some (1, u1594)
        else
        some (0, u1594)
    else
    if a0 < 0 ∨ 840 ≤ a0.toNatClampNeg then none else
      (M_coded (u1594 49 a0.toNatClampNeg) u1594).bind fun v1595 =>
      if (a0 + 1) < 0 ∨ 840 ≤ (a0 + 1).toNatClampNeg then none else
      if (a0 + 10) < 0 ∨ 840 ≤ (a0 + 10).toNatClampNeg then none else
      if (a0 + 11) < 0 ∨ 840 ≤ (a0 + 11).toNatClampNeg then none else
      (M_declare v1595 (u1594 49 ((a0 + 1).toNatClampNeg)) (u1594 49 ((a0 + 10).toNatClampNeg)) (u1594 49 ((a0 + 11).toNatClampNeg)) u1594).bind fun p1598 => match p1598 with
      | (v1596, u1597) =>
        if x1593 = 0 then
        some (0, u1597)
        else
        if (u1597 42 0) = 0 then
          some (1, u1597)
          else
          some (0, u1597)

set_option maxRecDepth 10000 in
set_option maxHeartbeats 4000000 in
theorem ev_M_lodgesEntry {sc : mg_Sc} {c z : Nat} {fL : Nat → Int64} {fD : Nat → UInt64} {a0 : Int32} {u : mg_Rg} {p : Int32 × mg_Rg} (h : M_lodgesEntry a0 u = some p) : mg_Ev sc 4 134 0 (mg_entry 134 [.ref 43, .int a0]) [] (hp u fL fD, c, z) (.inl (some (.int p.1)), (hp p.2 fL fD, c, z)) := by
  unfold M_lodgesEntry at h
  show mg_Ev _ _ _ 0 [some (.ref 43), some (.int a0), none, none, none] [] _ _
  refine mg_Ev.go 4 (pc' := 7) (loc' := [some (.ref 43), some (.int a0), none, none, none]) (st' := [.int 0, .int 6, .ref 44]) (w' := (hp u fL fD, c, z)) rfl ?_
  refine mg_Ev.iast (a := 43) (n := 690) (j := 6) rfl (hpg_43 _ _ _) (by decide) (by decide) (hpa_43 _ _ _ _ _ _ _) ?_
  refine mg_Ev.go 4 (pc' := 12) (loc' := [some (.ref 43), some (.int a0), some (.int 1), some (.int 0), none]) (st' := []) (w' := (hp (mg_up u 43 6 0) fL fD, c, z)) rfl ?_
  obtain ⟨⟨x1593, u1594⟩, hl3883, h⟩ := Option.bind_eq_some_iff.mp h
  try dsimp only at h
  refine mg_Ev.more (loc := [some (.ref 43), some (.int a0), some (.int 1), some (.int 0), none]) (ev_M_lodgesEntry_L12 _ _ _ _ _ _ hl3883 _ ?_) ⟨rfl, ⟨rfl, ⟨rfl, ⟨rfl, trivial⟩⟩⟩⟩
  show mg_Ev _ _ _ 76 [some (.ref 43), some (.int a0), some (.int x1593), none, none] [] (hp u1594 fL fD, c, z) _
  refine mg_Ev.go 1 (pc' := 77) (loc' := [some (.ref 43), some (.int a0), some (.int x1593), none, none]) (st' := [.int x1593]) (w' := (hp u1594 fL fD, c, z)) rfl ?_
  refine mg_Ev.br (P := x1593 = 0) (t := 123) (nx := 80) (st' := []) rfl rfl rfl rfl (fun hc3884 => ?_) (fun hc3884 => ?_)
  · rw [if_pos hc3884] at h
    refine mg_Ev.go 3 (pc' := 126) (loc' := [some (.ref 43), some (.int a0), some (.int x1593), some (.int 0), none]) (st' := [.int x1593]) (w' := (hp u1594 fL fD, c, z)) rfl ?_
    refine mg_Ev.br (P := x1593 = 0) (t := 140) (nx := 129) (st' := []) rfl rfl rfl rfl (fun hc3885 => ?_) (fun hc3885 => ?_)
    · rw [if_pos hc3885] at h
      refine mg_Ev.go 1 (pc' := 141) (loc' := [some (.ref 43), some (.int a0), some (.int x1593), some (.int 0), none]) (st' := [.int 0]) (w' := (hp u1594 fL fD, c, z)) rfl ?_
      cases h
      exact mg_Ev.fin rfl rfl rfl
    · rw [if_neg hc3885] at h
      refine mg_Ev.go 2 (pc' := 133) (loc' := [some (.ref 43), some (.int a0), some (.int x1593), some (.int 0), none]) (st' := [.int (u1594 42 0)]) (w' := (hp u1594 fL fD, c, z)) rfl ?_
      refine mg_Ev.br (P := (u1594 42 0) = 0) (t := 136) (nx := 140) (st' := []) rfl rfl rfl rfl (fun hc3886 => ?_) (fun hc3886 => ?_)
      · rw [if_pos hc3886] at h
        refine mg_Ev.go 2 (pc' := 141) (loc' := [some (.ref 43), some (.int a0), some (.int x1593), some (.int 0), none]) (st' := [.int 1]) (w' := (hp u1594 fL fD, c, z)) rfl ?_
        cases h
        exact mg_Ev.fin rfl rfl rfl
      · rw [if_neg hc3886] at h
        refine mg_Ev.go 1 (pc' := 141) (loc' := [some (.ref 43), some (.int a0), some (.int x1593), some (.int 0), none]) (st' := [.int 0]) (w' := (hp u1594 fL fD, c, z)) rfl ?_
        cases h
        exact mg_Ev.fin rfl rfl rfl
  · rw [if_neg hc3884] at h
    refine mg_Ev.go 5 (pc' := 87) (loc' := [some (.ref 43), some (.int a0), some (.int x1593), none, none]) (st' := [.int a0, .ref 50, .ref 43, .ref 43]) (w' := (hp u1594 fL fD, c, z)) rfl ?_
    by_cases hb3887 : a0 < 0 ∨ 840 ≤ a0.toNatClampNeg
    · rw [if_pos hb3887] at h
      cases h
    · rw [if_neg hb3887] at h
      refine mg_Ev.iald (a := 49) (n := 840) (f := u1594 49) rfl (hpg_49 _ _ _) rfl hb3887 ?_
      obtain ⟨v1595, hf3888, h⟩ := Option.bind_eq_some_iff.mp h
      refine mg_Ev.call (y := 74) (as := [.ref 43, .int (u1594 49 a0.toNatClampNeg)]) (rest := [.ref 43]) (v := some (.int v1595)) (w1 := (hp u1594 fL fD, c, z)) rfl rfl (Nat.le_of_ble_eq_true rfl) ((ev_M_coded hf3888).deep (by decide)) ?_
      refine mg_Ev.go 5 (pc' := 98) (loc' := [some (.ref 43), some (.int a0), some (.int x1593), none, none]) (st' := [.int (a0 + 1), .ref 50, .int v1595, .ref 43]) (w' := (hp u1594 fL fD, c, z)) rfl ?_
      by_cases hb3889 : (a0 + 1) < 0 ∨ 840 ≤ (a0 + 1).toNatClampNeg
      · rw [if_pos hb3889] at h
        cases h
      · rw [if_neg hb3889] at h
        refine mg_Ev.iald (a := 49) (n := 840) (f := u1594 49) rfl (hpg_49 _ _ _) rfl hb3889 ?_
        refine mg_Ev.go 5 (pc' := 107) (loc' := [some (.ref 43), some (.int a0), some (.int x1593), none, none]) (st' := [.int (a0 + 10), .ref 50, .int (u1594 49 ((a0 + 1).toNatClampNeg)), .int v1595, .ref 43]) (w' := (hp u1594 fL fD, c, z)) rfl ?_
        by_cases hb3890 : (a0 + 10) < 0 ∨ 840 ≤ (a0 + 10).toNatClampNeg
        · rw [if_pos hb3890] at h
          cases h
        · rw [if_neg hb3890] at h
          refine mg_Ev.iald (a := 49) (n := 840) (f := u1594 49) rfl (hpg_49 _ _ _) rfl hb3890 ?_
          refine mg_Ev.go 5 (pc' := 116) (loc' := [some (.ref 43), some (.int a0), some (.int x1593), none, none]) (st' := [.int (a0 + 11), .ref 50, .int (u1594 49 ((a0 + 10).toNatClampNeg)), .int (u1594 49 ((a0 + 1).toNatClampNeg)), .int v1595, .ref 43]) (w' := (hp u1594 fL fD, c, z)) rfl ?_
          by_cases hb3891 : (a0 + 11) < 0 ∨ 840 ≤ (a0 + 11).toNatClampNeg
          · rw [if_pos hb3891] at h
            cases h
          · rw [if_neg hb3891] at h
            refine mg_Ev.iald (a := 49) (n := 840) (f := u1594 49) rfl (hpg_49 _ _ _) rfl hb3891 ?_
            obtain ⟨⟨v1596, u1597⟩, hf3892, h⟩ := Option.bind_eq_some_iff.mp h
            try dsimp only at h
            refine mg_Ev.call (y := 100) (as := [.ref 43, .int v1595, .int (u1594 49 ((a0 + 1).toNatClampNeg)), .int (u1594 49 ((a0 + 10).toNatClampNeg)), .int (u1594 49 ((a0 + 11).toNatClampNeg))]) (rest := []) (v := some (.int v1596)) (w1 := (hp u1597 fL fD, c, z)) rfl rfl (Nat.le_of_ble_eq_true rfl) ((ev_M_declare hf3892).deep (by decide)) ?_
            refine mg_Ev.go 3 (pc' := 126) (loc' := [some (.ref 43), some (.int a0), some (.int x1593), some (.int v1596), none]) (st' := [.int x1593]) (w' := (hp u1597 fL fD, c, z)) rfl ?_
            refine mg_Ev.br (P := x1593 = 0) (t := 140) (nx := 129) (st' := []) rfl rfl rfl rfl (fun hc3893 => ?_) (fun hc3893 => ?_)
            · rw [if_pos hc3893] at h
              refine mg_Ev.go 1 (pc' := 141) (loc' := [some (.ref 43), some (.int a0), some (.int x1593), some (.int v1596), none]) (st' := [.int 0]) (w' := (hp u1597 fL fD, c, z)) rfl ?_
              cases h
              exact mg_Ev.fin rfl rfl rfl
            · rw [if_neg hc3893] at h
              refine mg_Ev.go 2 (pc' := 133) (loc' := [some (.ref 43), some (.int a0), some (.int x1593), some (.int v1596), none]) (st' := [.int (u1597 42 0)]) (w' := (hp u1597 fL fD, c, z)) rfl ?_
              refine mg_Ev.br (P := (u1597 42 0) = 0) (t := 136) (nx := 140) (st' := []) rfl rfl rfl rfl (fun hc3894 => ?_) (fun hc3894 => ?_)
              · rw [if_pos hc3894] at h
                refine mg_Ev.go 2 (pc' := 141) (loc' := [some (.ref 43), some (.int a0), some (.int x1593), some (.int v1596), none]) (st' := [.int 1]) (w' := (hp u1597 fL fD, c, z)) rfl ?_
                cases h
                exact mg_Ev.fin rfl rfl rfl
              · rw [if_neg hc3894] at h
                refine mg_Ev.go 1 (pc' := 141) (loc' := [some (.ref 43), some (.int a0), some (.int x1593), some (.int v1596), none]) (st' := [.int 0]) (w' := (hp u1597 fL fD, c, z)) rfl ?_
                cases h
                exact mg_Ev.fin rfl rfl rfl

def M_copy_43_46_L3 : Nat → Int32 → Int32 → Int32 → mg_Rg → Option (mg_Rg)
  | 0, _, _, _, _ => none
  | n + 1, x1, x3, x4, u =>
    if 690 ≤ x4 then
    some (u)
    else
    if (x1 + x4) < 0 ∨ 690 ≤ (x1 + x4).toNatClampNeg then none else
      if (x3 + x4) < 0 ∨ 690 ≤ (x3 + x4).toNatClampNeg then none else
      M_copy_43_46_L3 n x1 x3 (x4 + 1) (mg_up u 46 ((x3 + x4).toNatClampNeg) (u 43 ((x1 + x4).toNatClampNeg)))
set_option maxRecDepth 10000 in
set_option maxHeartbeats 4000000 in
theorem ev_M_copy_43_46_L3 {sc : mg_Sc} {c z : Nat} {fL : Nat → Int64} {fD : Nat → UInt64} : ∀ (n : Nat) (x1 : Int32) (x3 : Int32) (x4 : Int32) (u : mg_Rg) (res : mg_Rg), M_copy_43_46_L3 n x1 x3 x4 u = some res → ∀ r, (match res with | yu => mg_Ev sc 0 61 29 [none, none, none, none, none] [] (hp yu fL fD, c, z) r) → mg_Ev sc 0 61 3 [some (.ref 44), some (.int x1), some (.ref 47), some (.int x3), some (.int x4)] [] (hp u fL fD, c, z) r := by
  intro n
  induction n with
  | zero => intro x1 x3 x4 u res h; cases h
  | succ n ih =>
    intro x1 x3 x4 u res h r K
    unfold M_copy_43_46_L3 at h
    refine mg_Ev.go 2 (pc' := 8) (loc' := [some (.ref 44), some (.int x1), some (.ref 47), some (.int x3), some (.int x4)]) (st' := [.int 690, .int x4]) (w' := (hp u fL fD, c, z)) rfl ?_
    refine mg_Ev.br (P := 690 ≤ x4) (t := 29) (nx := 11) (st' := []) rfl rfl rfl rfl (fun hc3895 => ?_) (fun hc3895 => ?_)
    · rw [if_pos hc3895] at h
      cases h
      exact mg_Ev.more (loc := [none, none, none, none, none]) K trivial
    · rw [if_neg hc3895] at h
      refine mg_Ev.go 8 (pc' := 21) (loc' := [some (.ref 44), some (.int x1), some (.ref 47), some (.int x3), some (.int x4)]) (st' := [.int (x1 + x4), .ref 44, .int (x3 + x4), .ref 47]) (w' := (hp u fL fD, c, z)) rfl ?_
      by_cases hb3896 : (x1 + x4) < 0 ∨ 690 ≤ (x1 + x4).toNatClampNeg
      · rw [if_pos hb3896] at h
        cases h
      · rw [if_neg hb3896] at h
        refine mg_Ev.iald (a := 43) (n := 690) (f := u 43) rfl (hpg_43 _ _ _) rfl hb3896 ?_
        by_cases hb3897 : (x3 + x4) < 0 ∨ 690 ≤ (x3 + x4).toNatClampNeg
        · rw [if_pos hb3897] at h
          cases h
        · rw [if_neg hb3897] at h
          refine mg_Ev.iast (a := 46) (n := 690) rfl (hpg_46 _ _ _) rfl hb3897 (hpa_46 _ _ _ _ _ _ _) ?_
          refine mg_Ev.go 2 (pc' := 3) (loc' := [some (.ref 44), some (.int x1), some (.ref 47), some (.int x3), some (.int (x4 + 1))]) (st' := []) (w' := (hp (mg_up u 46 ((x3 + x4).toNatClampNeg) (u 43 ((x1 + x4).toNatClampNeg))) fL fD, c, z)) rfl ?_
          exact mg_Ev.more (loc := [some (.ref 44), some (.int x1), some (.ref 47), some (.int x3), some (.int (x4 + 1))]) (ih _ _ _ _ _ h _ K) ⟨rfl, ⟨rfl, ⟨rfl, ⟨rfl, ⟨rfl, trivial⟩⟩⟩⟩⟩

def M_copy_43_46 (a0 : Int32) (a1 : Int32) (u : mg_Rg) : Option (mg_Rg) :=
  (M_copy_43_46_L3 mg_F a0 a1 0 u).bind fun q3898 => match q3898 with
  | u1610 =>
    some u1610

set_option maxRecDepth 10000 in
set_option maxHeartbeats 4000000 in
theorem ev_M_copy_43_46 {sc : mg_Sc} {c z : Nat} {fL : Nat → Int64} {fD : Nat → UInt64} {a0 : Int32} {a1 : Int32} {u : mg_Rg} {v : mg_Rg} (h : M_copy_43_46 a0 a1 u = some v) : mg_Ev sc 0 61 0 (mg_entry 61 [.ref 44, .int a0, .ref 47, .int a1]) [] (hp u fL fD, c, z) (.inl none, (hp v fL fD, c, z)) := by
  unfold M_copy_43_46 at h
  show mg_Ev _ _ _ 0 [some (.ref 44), some (.int a0), some (.ref 47), some (.int a1), none] [] _ _
  refine mg_Ev.go 2 (pc' := 3) (loc' := [some (.ref 44), some (.int a0), some (.ref 47), some (.int a1), some (.int 0)]) (st' := []) (w' := (hp u fL fD, c, z)) rfl ?_
  obtain ⟨u1610, hl3899, h⟩ := Option.bind_eq_some_iff.mp h
  try dsimp only at h
  refine mg_Ev.more (loc := [some (.ref 44), some (.int a0), some (.ref 47), some (.int a1), some (.int 0)]) (ev_M_copy_43_46_L3 _ _ _ _ _ _ hl3899 _ ?_) ⟨rfl, ⟨rfl, ⟨rfl, ⟨rfl, ⟨rfl, trivial⟩⟩⟩⟩⟩
  show mg_Ev _ _ _ 29 [none, none, none, none, none] [] (hp u1610 fL fD, c, z) _
  cases h
  exact mg_Ev.fin rfl rfl rfl

def M_copy_46_43_L3 : Nat → Int32 → Int32 → Int32 → mg_Rg → Option (mg_Rg)
  | 0, _, _, _, _ => none
  | n + 1, x1, x3, x4, u =>
    if 690 ≤ x4 then
    some (u)
    else
    if (x1 + x4) < 0 ∨ 690 ≤ (x1 + x4).toNatClampNeg then none else
      if (x3 + x4) < 0 ∨ 690 ≤ (x3 + x4).toNatClampNeg then none else
      M_copy_46_43_L3 n x1 x3 (x4 + 1) (mg_up u 43 ((x3 + x4).toNatClampNeg) (u 46 ((x1 + x4).toNatClampNeg)))
set_option maxRecDepth 10000 in
set_option maxHeartbeats 4000000 in
theorem ev_M_copy_46_43_L3 {sc : mg_Sc} {c z : Nat} {fL : Nat → Int64} {fD : Nat → UInt64} : ∀ (n : Nat) (x1 : Int32) (x3 : Int32) (x4 : Int32) (u : mg_Rg) (res : mg_Rg), M_copy_46_43_L3 n x1 x3 x4 u = some res → ∀ r, (match res with | yu => mg_Ev sc 0 61 29 [none, none, none, none, none] [] (hp yu fL fD, c, z) r) → mg_Ev sc 0 61 3 [some (.ref 47), some (.int x1), some (.ref 44), some (.int x3), some (.int x4)] [] (hp u fL fD, c, z) r := by
  intro n
  induction n with
  | zero => intro x1 x3 x4 u res h; cases h
  | succ n ih =>
    intro x1 x3 x4 u res h r K
    unfold M_copy_46_43_L3 at h
    refine mg_Ev.go 2 (pc' := 8) (loc' := [some (.ref 47), some (.int x1), some (.ref 44), some (.int x3), some (.int x4)]) (st' := [.int 690, .int x4]) (w' := (hp u fL fD, c, z)) rfl ?_
    refine mg_Ev.br (P := 690 ≤ x4) (t := 29) (nx := 11) (st' := []) rfl rfl rfl rfl (fun hc3900 => ?_) (fun hc3900 => ?_)
    · rw [if_pos hc3900] at h
      cases h
      exact mg_Ev.more (loc := [none, none, none, none, none]) K trivial
    · rw [if_neg hc3900] at h
      refine mg_Ev.go 8 (pc' := 21) (loc' := [some (.ref 47), some (.int x1), some (.ref 44), some (.int x3), some (.int x4)]) (st' := [.int (x1 + x4), .ref 47, .int (x3 + x4), .ref 44]) (w' := (hp u fL fD, c, z)) rfl ?_
      by_cases hb3901 : (x1 + x4) < 0 ∨ 690 ≤ (x1 + x4).toNatClampNeg
      · rw [if_pos hb3901] at h
        cases h
      · rw [if_neg hb3901] at h
        refine mg_Ev.iald (a := 46) (n := 690) (f := u 46) rfl (hpg_46 _ _ _) rfl hb3901 ?_
        by_cases hb3902 : (x3 + x4) < 0 ∨ 690 ≤ (x3 + x4).toNatClampNeg
        · rw [if_pos hb3902] at h
          cases h
        · rw [if_neg hb3902] at h
          refine mg_Ev.iast (a := 43) (n := 690) rfl (hpg_43 _ _ _) rfl hb3902 (hpa_43 _ _ _ _ _ _ _) ?_
          refine mg_Ev.go 2 (pc' := 3) (loc' := [some (.ref 47), some (.int x1), some (.ref 44), some (.int x3), some (.int (x4 + 1))]) (st' := []) (w' := (hp (mg_up u 43 ((x3 + x4).toNatClampNeg) (u 46 ((x1 + x4).toNatClampNeg))) fL fD, c, z)) rfl ?_
          exact mg_Ev.more (loc := [some (.ref 47), some (.int x1), some (.ref 44), some (.int x3), some (.int (x4 + 1))]) (ih _ _ _ _ _ h _ K) ⟨rfl, ⟨rfl, ⟨rfl, ⟨rfl, ⟨rfl, trivial⟩⟩⟩⟩⟩

def M_copy_46_43 (a0 : Int32) (a1 : Int32) (u : mg_Rg) : Option (mg_Rg) :=
  (M_copy_46_43_L3 mg_F a0 a1 0 u).bind fun q3903 => match q3903 with
  | u1617 =>
    some u1617

set_option maxRecDepth 10000 in
set_option maxHeartbeats 4000000 in
theorem ev_M_copy_46_43 {sc : mg_Sc} {c z : Nat} {fL : Nat → Int64} {fD : Nat → UInt64} {a0 : Int32} {a1 : Int32} {u : mg_Rg} {v : mg_Rg} (h : M_copy_46_43 a0 a1 u = some v) : mg_Ev sc 0 61 0 (mg_entry 61 [.ref 47, .int a0, .ref 44, .int a1]) [] (hp u fL fD, c, z) (.inl none, (hp v fL fD, c, z)) := by
  unfold M_copy_46_43 at h
  show mg_Ev _ _ _ 0 [some (.ref 47), some (.int a0), some (.ref 44), some (.int a1), none] [] _ _
  refine mg_Ev.go 2 (pc' := 3) (loc' := [some (.ref 47), some (.int a0), some (.ref 44), some (.int a1), some (.int 0)]) (st' := []) (w' := (hp u fL fD, c, z)) rfl ?_
  obtain ⟨u1617, hl3904, h⟩ := Option.bind_eq_some_iff.mp h
  try dsimp only at h
  refine mg_Ev.more (loc := [some (.ref 47), some (.int a0), some (.ref 44), some (.int a1), some (.int 0)]) (ev_M_copy_46_43_L3 _ _ _ _ _ _ hl3904 _ ?_) ⟨rfl, ⟨rfl, ⟨rfl, ⟨rfl, ⟨rfl, trivial⟩⟩⟩⟩⟩
  show mg_Ev _ _ _ 29 [none, none, none, none, none] [] (hp u1617 fL fD, c, z) _
  cases h
  exact mg_Ev.fin rfl rfl rfl

def M_copy_46_44_L3 : Nat → Int32 → Int32 → Int32 → mg_Rg → Option (mg_Rg)
  | 0, _, _, _, _ => none
  | n + 1, x1, x3, x4, u =>
    if 690 ≤ x4 then
    some (u)
    else
    if (x1 + x4) < 0 ∨ 690 ≤ (x1 + x4).toNatClampNeg then none else
      if (x3 + x4) < 0 ∨ 5520 ≤ (x3 + x4).toNatClampNeg then none else
      M_copy_46_44_L3 n x1 x3 (x4 + 1) (mg_up u 44 ((x3 + x4).toNatClampNeg) (u 46 ((x1 + x4).toNatClampNeg)))
set_option maxRecDepth 10000 in
set_option maxHeartbeats 4000000 in
theorem ev_M_copy_46_44_L3 {sc : mg_Sc} {c z : Nat} {fL : Nat → Int64} {fD : Nat → UInt64} : ∀ (n : Nat) (x1 : Int32) (x3 : Int32) (x4 : Int32) (u : mg_Rg) (res : mg_Rg), M_copy_46_44_L3 n x1 x3 x4 u = some res → ∀ r, (match res with | yu => mg_Ev sc 0 61 29 [none, none, none, none, none] [] (hp yu fL fD, c, z) r) → mg_Ev sc 0 61 3 [some (.ref 47), some (.int x1), some (.ref 45), some (.int x3), some (.int x4)] [] (hp u fL fD, c, z) r := by
  intro n
  induction n with
  | zero => intro x1 x3 x4 u res h; cases h
  | succ n ih =>
    intro x1 x3 x4 u res h r K
    unfold M_copy_46_44_L3 at h
    refine mg_Ev.go 2 (pc' := 8) (loc' := [some (.ref 47), some (.int x1), some (.ref 45), some (.int x3), some (.int x4)]) (st' := [.int 690, .int x4]) (w' := (hp u fL fD, c, z)) rfl ?_
    refine mg_Ev.br (P := 690 ≤ x4) (t := 29) (nx := 11) (st' := []) rfl rfl rfl rfl (fun hc3905 => ?_) (fun hc3905 => ?_)
    · rw [if_pos hc3905] at h
      cases h
      exact mg_Ev.more (loc := [none, none, none, none, none]) K trivial
    · rw [if_neg hc3905] at h
      refine mg_Ev.go 8 (pc' := 21) (loc' := [some (.ref 47), some (.int x1), some (.ref 45), some (.int x3), some (.int x4)]) (st' := [.int (x1 + x4), .ref 47, .int (x3 + x4), .ref 45]) (w' := (hp u fL fD, c, z)) rfl ?_
      by_cases hb3906 : (x1 + x4) < 0 ∨ 690 ≤ (x1 + x4).toNatClampNeg
      · rw [if_pos hb3906] at h
        cases h
      · rw [if_neg hb3906] at h
        refine mg_Ev.iald (a := 46) (n := 690) (f := u 46) rfl (hpg_46 _ _ _) rfl hb3906 ?_
        by_cases hb3907 : (x3 + x4) < 0 ∨ 5520 ≤ (x3 + x4).toNatClampNeg
        · rw [if_pos hb3907] at h
          cases h
        · rw [if_neg hb3907] at h
          refine mg_Ev.iast (a := 44) (n := 5520) rfl (hpg_44 _ _ _) rfl hb3907 (hpa_44 _ _ _ _ _ _ _) ?_
          refine mg_Ev.go 2 (pc' := 3) (loc' := [some (.ref 47), some (.int x1), some (.ref 45), some (.int x3), some (.int (x4 + 1))]) (st' := []) (w' := (hp (mg_up u 44 ((x3 + x4).toNatClampNeg) (u 46 ((x1 + x4).toNatClampNeg))) fL fD, c, z)) rfl ?_
          exact mg_Ev.more (loc := [some (.ref 47), some (.int x1), some (.ref 45), some (.int x3), some (.int (x4 + 1))]) (ih _ _ _ _ _ h _ K) ⟨rfl, ⟨rfl, ⟨rfl, ⟨rfl, ⟨rfl, trivial⟩⟩⟩⟩⟩

def M_copy_46_44 (a0 : Int32) (a1 : Int32) (u : mg_Rg) : Option (mg_Rg) :=
  (M_copy_46_44_L3 mg_F a0 a1 0 u).bind fun q3908 => match q3908 with
  | u1624 =>
    some u1624

set_option maxRecDepth 10000 in
set_option maxHeartbeats 4000000 in
theorem ev_M_copy_46_44 {sc : mg_Sc} {c z : Nat} {fL : Nat → Int64} {fD : Nat → UInt64} {a0 : Int32} {a1 : Int32} {u : mg_Rg} {v : mg_Rg} (h : M_copy_46_44 a0 a1 u = some v) : mg_Ev sc 0 61 0 (mg_entry 61 [.ref 47, .int a0, .ref 45, .int a1]) [] (hp u fL fD, c, z) (.inl none, (hp v fL fD, c, z)) := by
  unfold M_copy_46_44 at h
  show mg_Ev _ _ _ 0 [some (.ref 47), some (.int a0), some (.ref 45), some (.int a1), none] [] _ _
  refine mg_Ev.go 2 (pc' := 3) (loc' := [some (.ref 47), some (.int a0), some (.ref 45), some (.int a1), some (.int 0)]) (st' := []) (w' := (hp u fL fD, c, z)) rfl ?_
  obtain ⟨u1624, hl3909, h⟩ := Option.bind_eq_some_iff.mp h
  try dsimp only at h
  refine mg_Ev.more (loc := [some (.ref 47), some (.int a0), some (.ref 45), some (.int a1), some (.int 0)]) (ev_M_copy_46_44_L3 _ _ _ _ _ _ hl3909 _ ?_) ⟨rfl, ⟨rfl, ⟨rfl, ⟨rfl, ⟨rfl, trivial⟩⟩⟩⟩⟩
  show mg_Ev _ _ _ 29 [none, none, none, none, none] [] (hp u1624 fL fD, c, z) _
  cases h
  exact mg_Ev.fin rfl rfl rfl

def M_remembersRow_46_L11 : Nat → Int32 → mg_Rg → Option (mg_Rg)
  | 0, _, _ => none
  | n + 1, x2, u =>
    if 4830 ≤ x2 then
    some (u)
    else
    if (x2 + 690) < 0 ∨ 5520 ≤ (x2 + 690).toNatClampNeg then none else
      if x2 < 0 ∨ 5520 ≤ x2.toNatClampNeg then none else
      M_remembersRow_46_L11 n (x2 + 1) (mg_up u 44 x2.toNatClampNeg (u 44 ((x2 + 690).toNatClampNeg)))
set_option maxRecDepth 10000 in
set_option maxHeartbeats 4000000 in
theorem ev_M_remembersRow_46_L11 {sc : mg_Sc} {c z : Nat} {fL : Nat → Int64} {fD : Nat → UInt64} : ∀ (n : Nat) (x2 : Int32) (u : mg_Rg) (res : mg_Rg), M_remembersRow_46_L11 n x2 u = some res → ∀ r, (match res with | yu => mg_Ev sc 1 62 40 [some (.ref 43), some (.ref 47), none] [] (hp yu fL fD, c, z) r) → mg_Ev sc 1 62 11 [some (.ref 43), some (.ref 47), some (.int x2)] [] (hp u fL fD, c, z) r := by
  intro n
  induction n with
  | zero => intro x2 u res h; cases h
  | succ n ih =>
    intro x2 u res h r K
    unfold M_remembersRow_46_L11 at h
    refine mg_Ev.go 2 (pc' := 15) (loc' := [some (.ref 43), some (.ref 47), some (.int x2)]) (st' := [.int 4830, .int x2]) (w' := (hp u fL fD, c, z)) rfl ?_
    refine mg_Ev.br (P := 4830 ≤ x2) (t := 40) (nx := 18) (st' := []) rfl rfl rfl rfl (fun hc3910 => ?_) (fun hc3910 => ?_)
    · rw [if_pos hc3910] at h
      cases h
      exact mg_Ev.more (loc := [some (.ref 43), some (.ref 47), none]) K ⟨rfl, ⟨rfl, trivial⟩⟩
    · rw [if_neg hc3910] at h
      refine mg_Ev.go 8 (pc' := 32) (loc' := [some (.ref 43), some (.ref 47), some (.int x2)]) (st' := [.int (x2 + 690), .ref 45, .int x2, .ref 45]) (w' := (hp u fL fD, c, z)) rfl ?_
      by_cases hb3911 : (x2 + 690) < 0 ∨ 5520 ≤ (x2 + 690).toNatClampNeg
      · rw [if_pos hb3911] at h
        cases h
      · rw [if_neg hb3911] at h
        refine mg_Ev.iald (a := 44) (n := 5520) (f := u 44) rfl (hpg_44 _ _ _) rfl hb3911 ?_
        by_cases hb3912 : x2 < 0 ∨ 5520 ≤ x2.toNatClampNeg
        · rw [if_pos hb3912] at h
          cases h
        · rw [if_neg hb3912] at h
          refine mg_Ev.iast (a := 44) (n := 5520) rfl (hpg_44 _ _ _) rfl hb3912 (hpa_44 _ _ _ _ _ _ _) ?_
          refine mg_Ev.go 2 (pc' := 11) (loc' := [some (.ref 43), some (.ref 47), some (.int (x2 + 1))]) (st' := []) (w' := (hp (mg_up u 44 x2.toNatClampNeg (u 44 ((x2 + 690).toNatClampNeg))) fL fD, c, z)) rfl ?_
          exact mg_Ev.more (loc := [some (.ref 43), some (.ref 47), some (.int (x2 + 1))]) (ih _ _ _ h _ K) ⟨rfl, ⟨rfl, ⟨rfl, trivial⟩⟩⟩

def M_remembersRow_46 (u : mg_Rg) : Option (mg_Rg) :=
  if (u 42 3) = 8 then
  (M_remembersRow_46_L11 mg_F 0 u).bind fun q3913 => match q3913 with
    | u1623 =>
      (M_copy_46_44 0 (((mg_up u1623 42 3 ((u1623 42 3) - 1)) 42 3) * 690) (mg_up u1623 42 3 ((u1623 42 3) - 1))).bind fun u1625 =>
      some (mg_up u1625 42 3 ((u1625 42 3) + 1))
  else
  (M_copy_46_44 0 ((u 42 3) * 690) u).bind fun u1626 =>
    some (mg_up u1626 42 3 ((u1626 42 3) + 1))

set_option maxRecDepth 10000 in
set_option maxHeartbeats 4000000 in
theorem ev_M_remembersRow_46 {sc : mg_Sc} {c z : Nat} {fL : Nat → Int64} {fD : Nat → UInt64} {u : mg_Rg} {v : mg_Rg} (h : M_remembersRow_46 u = some v) : mg_Ev sc 1 62 0 (mg_entry 62 [.ref 43, .ref 47]) [] (hp u fL fD, c, z) (.inl none, (hp v fL fD, c, z)) := by
  unfold M_remembersRow_46 at h
  show mg_Ev _ _ _ 0 [some (.ref 43), some (.ref 47), none] [] _ _
  refine mg_Ev.go 3 (pc' := 6) (loc' := [some (.ref 43), some (.ref 47), none]) (st' := [.int 8, .int (u 42 3)]) (w' := (hp u fL fD, c, z)) rfl ?_
  refine mg_Ev.br (P := (u 42 3) = 8) (t := 9) (nx := 50) (st' := []) rfl rfl rfl rfl (fun hc3914 => ?_) (fun hc3914 => ?_)
  · rw [if_pos hc3914] at h
    refine mg_Ev.go 2 (pc' := 11) (loc' := [some (.ref 43), some (.ref 47), some (.int 0)]) (st' := []) (w' := (hp u fL fD, c, z)) rfl ?_
    obtain ⟨u1623, hl3915, h⟩ := Option.bind_eq_some_iff.mp h
    try dsimp only at h
    refine mg_Ev.more (loc := [some (.ref 43), some (.ref 47), some (.int 0)]) (ev_M_remembersRow_46_L11 _ _ _ _ hl3915 _ ?_) ⟨rfl, ⟨rfl, ⟨rfl, trivial⟩⟩⟩
    show mg_Ev _ _ _ 40 [some (.ref 43), some (.ref 47), none] [] (hp u1623 fL fD, c, z) _
    refine mg_Ev.go 5 (pc' := 47) (loc' := [some (.ref 43), some (.ref 47), none]) (st' := [.int ((u1623 42 3) - 1), .ref 43]) (w' := (hp u1623 fL fD, c, z)) rfl ?_
    refine mg_Ev.put rfl (hpg_42 _ _ _) (Nat.le_of_ble_eq_true rfl) rfl (hpf_42_3 _ _ _ _ _ _) ?_
    refine mg_Ev.go 8 (pc' := 64) (loc' := [some (.ref 43), some (.ref 47), none]) (st' := [.int (((mg_up u1623 42 3 ((u1623 42 3) - 1)) 42 3) * 690), .ref 45, .int 0, .ref 47]) (w' := (hp (mg_up u1623 42 3 ((u1623 42 3) - 1)) fL fD, c, z)) rfl ?_
    obtain ⟨u1625, hf3916, h⟩ := Option.bind_eq_some_iff.mp h
    refine mg_Ev.call (y := 61) (as := [.ref 47, .int 0, .ref 45, .int (((mg_up u1623 42 3 ((u1623 42 3) - 1)) 42 3) * 690)]) (rest := []) (v := none) (w1 := (hp u1625 fL fD, c, z)) rfl rfl (Nat.le_of_ble_eq_true rfl) ((ev_M_copy_46_44 hf3916).deep (by decide)) ?_
    refine mg_Ev.go 5 (pc' := 74) (loc' := [some (.ref 43), some (.ref 47), none]) (st' := [.int ((u1625 42 3) + 1), .ref 43]) (w' := (hp u1625 fL fD, c, z)) rfl ?_
    refine mg_Ev.put rfl (hpg_42 _ _ _) (Nat.le_of_ble_eq_true rfl) rfl (hpf_42_3 _ _ _ _ _ _) ?_
    cases h
    exact mg_Ev.fin rfl rfl rfl
  · rw [if_neg hc3914] at h
    refine mg_Ev.go 8 (pc' := 64) (loc' := [some (.ref 43), some (.ref 47), none]) (st' := [.int ((u 42 3) * 690), .ref 45, .int 0, .ref 47]) (w' := (hp u fL fD, c, z)) rfl ?_
    obtain ⟨u1626, hf3917, h⟩ := Option.bind_eq_some_iff.mp h
    refine mg_Ev.call (y := 61) (as := [.ref 47, .int 0, .ref 45, .int ((u 42 3) * 690)]) (rest := []) (v := none) (w1 := (hp u1626 fL fD, c, z)) rfl rfl (Nat.le_of_ble_eq_true rfl) ((ev_M_copy_46_44 hf3917).deep (by decide)) ?_
    refine mg_Ev.go 5 (pc' := 74) (loc' := [some (.ref 43), some (.ref 47), none]) (st' := [.int ((u1626 42 3) + 1), .ref 43]) (w' := (hp u1626 fL fD, c, z)) rfl ?_
    refine mg_Ev.put rfl (hpg_42 _ _ _) (Nat.le_of_ble_eq_true rfl) rfl (hpf_42_3 _ _ _ _ _ _) ?_
    cases h
    exact mg_Ev.fin rfl rfl rfl

def M_lodge_L17 : Nat → Int32 → mg_Rg → Option (Int32 × mg_Rg)
  | 0, _, _ => none
  | n + 1, x1, u =>
    if (u 42 14) = 0 then
    (M_here u).bind fun v1600 =>
      if v1600 = 59 then
      (M_readsEntry (14 * x1) (mg_up u 42 13 ((u 42 13) + 1))).bind fun u1601 =>
        M_lodge_L17 n (x1 + 1) u1601
      else
      some ((x1, u))
    else
    some ((x1, u))
set_option maxRecDepth 10000 in
set_option maxHeartbeats 4000000 in
theorem ev_M_lodge_L17 {sc : mg_Sc} {c z : Nat} {fL : Nat → Int64} {fD : Nat → UInt64} : ∀ (n : Nat) (x1 : Int32) (u : mg_Rg) (res : Int32 × mg_Rg), M_lodge_L17 n x1 u = some res → ∀ r, (match res with | (y1, yu) => mg_Ev sc 5 135 57 [some (.ref 43), some (.int y1), none, none, none] [] (hp yu fL fD, c, z) r) → mg_Ev sc 5 135 17 [some (.ref 43), some (.int x1), none, none, none] [] (hp u fL fD, c, z) r := by
  intro n
  induction n with
  | zero => intro x1 u res h; cases h
  | succ n ih =>
    intro x1 u res h r K
    unfold M_lodge_L17 at h
    refine mg_Ev.go 2 (pc' := 21) (loc' := [some (.ref 43), some (.int x1), none, none, none]) (st' := [.int (u 42 14)]) (w' := (hp u fL fD, c, z)) rfl ?_
    refine mg_Ev.br (P := (u 42 14) = 0) (t := 24) (nx := 57) (st' := []) rfl rfl rfl rfl (fun hc3918 => ?_) (fun hc3918 => ?_)
    · rw [if_pos hc3918] at h
      refine mg_Ev.go 1 (pc' := 25) (loc' := [some (.ref 43), some (.int x1), none, none, none]) (st' := [.ref 43]) (w' := (hp u fL fD, c, z)) rfl ?_
      obtain ⟨v1600, hf3919, h⟩ := Option.bind_eq_some_iff.mp h
      refine mg_Ev.call (y := 128) (as := [.ref 43]) (rest := []) (v := some (.int v1600)) (w1 := (hp u fL fD, c, z)) rfl rfl (Nat.le_of_ble_eq_true rfl) ((ev_M_here hf3919).deep (by decide)) ?_
      refine mg_Ev.go 1 (pc' := 30) (loc' := [some (.ref 43), some (.int x1), none, none, none]) (st' := [.int 59, .int v1600]) (w' := (hp u fL fD, c, z)) rfl ?_
      refine mg_Ev.br (P := v1600 = 59) (t := 33) (nx := 57) (st' := []) rfl rfl rfl rfl (fun hc3920 => ?_) (fun hc3920 => ?_)
      · rw [if_pos hc3920] at h
        refine mg_Ev.go 5 (pc' := 40) (loc' := [some (.ref 43), some (.int x1), none, none, none]) (st' := [.int ((u 42 13) + 1), .ref 43]) (w' := (hp u fL fD, c, z)) rfl ?_
        refine mg_Ev.put rfl (hpg_42 _ _ _) (Nat.le_of_ble_eq_true rfl) rfl (hpf_42_13 _ _ _ _ _ _) ?_
        refine mg_Ev.go 4 (pc' := 48) (loc' := [some (.ref 43), some (.int x1), none, none, none]) (st' := [.int (14 * x1), .ref 43]) (w' := (hp (mg_up u 42 13 ((u 42 13) + 1)) fL fD, c, z)) rfl ?_
        obtain ⟨u1601, hf3921, h⟩ := Option.bind_eq_some_iff.mp h
        refine mg_Ev.call (y := 133) (as := [.ref 43, .int (14 * x1)]) (rest := []) (v := none) (w1 := (hp u1601 fL fD, c, z)) rfl rfl (Nat.le_of_ble_eq_true rfl) ((ev_M_readsEntry hf3921).deep (by decide)) ?_
        refine mg_Ev.go 2 (pc' := 17) (loc' := [some (.ref 43), some (.int (x1 + 1)), none, none, none]) (st' := []) (w' := (hp u1601 fL fD, c, z)) rfl ?_
        exact mg_Ev.more (loc := [some (.ref 43), some (.int (x1 + 1)), none, none, none]) (ih _ _ _ h _ K) ⟨rfl, ⟨rfl, trivial⟩⟩
      · rw [if_neg hc3920] at h
        cases h
        exact mg_Ev.more (loc := [some (.ref 43), some (.int x1), none, none, none]) K ⟨rfl, ⟨rfl, trivial⟩⟩
    · rw [if_neg hc3918] at h
      cases h
      exact mg_Ev.more (loc := [some (.ref 43), some (.int x1), none, none, none]) K ⟨rfl, ⟨rfl, trivial⟩⟩

def M_lodge_L112 : Nat → Int32 → Int32 → Int32 → mg_Rg → Option (Int32 × mg_Rg)
  | 0, _, _, _, _ => none
  | n + 1, x1, x2, x3, u =>
    if x1 ≤ x3 then
    some ((x2, u))
    else
    if (14 * x3) < 0 ∨ 840 ≤ (14 * x3).toNatClampNeg then none else
      (M_coded (u 49 ((14 * x3).toNatClampNeg)) u).bind fun v1604 =>
      if v1604 = (-1) then
      M_lodge_L112 n x1 (x2 &&& 0) (x3 + 1) u
      else
      M_lodge_L112 n x1 (x2 &&& 1) (x3 + 1) u
set_option maxRecDepth 10000 in
set_option maxHeartbeats 4000000 in
theorem ev_M_lodge_L112 {sc : mg_Sc} {c z : Nat} {fL : Nat → Int64} {fD : Nat → UInt64} : ∀ (n : Nat) (x1 : Int32) (x2 : Int32) (x3 : Int32) (u : mg_Rg) (res : Int32 × mg_Rg), M_lodge_L112 n x1 x2 x3 u = some res → ∀ r, (match res with | (y2, yu) => mg_Ev sc 5 135 148 [some (.ref 43), some (.int x1), some (.int y2), none, none] [] (hp yu fL fD, c, z) r) → mg_Ev sc 5 135 112 [some (.ref 43), some (.int x1), some (.int x2), some (.int x3), none] [] (hp u fL fD, c, z) r := by
  intro n
  induction n with
  | zero => intro x1 x2 x3 u res h; cases h
  | succ n ih =>
    intro x1 x2 x3 u res h r K
    unfold M_lodge_L112 at h
    refine mg_Ev.go 2 (pc' := 114) (loc' := [some (.ref 43), some (.int x1), some (.int x2), some (.int x3), none]) (st' := [.int x1, .int x3]) (w' := (hp u fL fD, c, z)) rfl ?_
    refine mg_Ev.br (P := x1 ≤ x3) (t := 148) (nx := 117) (st' := []) rfl rfl rfl rfl (fun hc3922 => ?_) (fun hc3922 => ?_)
    · rw [if_pos hc3922] at h
      cases h
      exact mg_Ev.more (loc := [some (.ref 43), some (.int x1), some (.int x2), none, none]) K ⟨rfl, ⟨rfl, ⟨rfl, trivial⟩⟩⟩
    · rw [if_neg hc3922] at h
      refine mg_Ev.go 7 (pc' := 127) (loc' := [some (.ref 43), some (.int x1), some (.int x2), some (.int x3), none]) (st' := [.int (14 * x3), .ref 50, .ref 43, .int x2]) (w' := (hp u fL fD, c, z)) rfl ?_
      by_cases hb3923 : (14 * x3) < 0 ∨ 840 ≤ (14 * x3).toNatClampNeg
      · rw [if_pos hb3923] at h
        cases h
      · rw [if_neg hb3923] at h
        refine mg_Ev.iald (a := 49) (n := 840) (f := u 49) rfl (hpg_49 _ _ _) rfl hb3923 ?_
        obtain ⟨v1604, hf3924, h⟩ := Option.bind_eq_some_iff.mp h
        refine mg_Ev.call (y := 74) (as := [.ref 43, .int (u 49 ((14 * x3).toNatClampNeg))]) (rest := [.int x2]) (v := some (.int v1604)) (w1 := (hp u fL fD, c, z)) rfl rfl (Nat.le_of_ble_eq_true rfl) ((ev_M_coded hf3924).deep (by decide)) ?_
        refine mg_Ev.go 1 (pc' := 132) (loc' := [some (.ref 43), some (.int x1), some (.int x2), some (.int x3), none]) (st' := [.int (-1), .int v1604, .int x2]) (w' := (hp u fL fD, c, z)) rfl ?_
        refine mg_Ev.br (P := v1604 = (-1)) (t := 139) (nx := 135) (st' := [.int x2]) rfl rfl rfl rfl (fun hc3925 => ?_) (fun hc3925 => ?_)
        · rw [if_pos hc3925] at h
          refine mg_Ev.go 5 (pc' := 112) (loc' := [some (.ref 43), some (.int x1), some (.int (x2 &&& 0)), some (.int (x3 + 1)), none]) (st' := []) (w' := (hp u fL fD, c, z)) rfl ?_
          exact mg_Ev.more (loc := [some (.ref 43), some (.int x1), some (.int (x2 &&& 0)), some (.int (x3 + 1)), none]) (ih _ _ _ _ _ h _ K) ⟨rfl, ⟨rfl, ⟨rfl, ⟨rfl, trivial⟩⟩⟩⟩
        · rw [if_neg hc3925] at h
          refine mg_Ev.go 6 (pc' := 112) (loc' := [some (.ref 43), some (.int x1), some (.int (x2 &&& 1)), some (.int (x3 + 1)), none]) (st' := []) (w' := (hp u fL fD, c, z)) rfl ?_
          exact mg_Ev.more (loc := [some (.ref 43), some (.int x1), some (.int (x2 &&& 1)), some (.int (x3 + 1)), none]) (ih _ _ _ _ _ h _ K) ⟨rfl, ⟨rfl, ⟨rfl, ⟨rfl, trivial⟩⟩⟩⟩

def M_lodge_L181 : Nat → Int32 → Int32 → Int32 → mg_Rg → Option (Int32 × mg_Rg)
  | 0, _, _, _, _ => none
  | n + 1, x1, x3, x4, u =>
    if x1 ≤ x4 then
    some ((x3, u))
    else
    if x3 = 0 then
      some ((x3, u))
      else
      (M_lodgesEntry (14 * x4) u).bind fun p1614 => match p1614 with
        | (v1612, u1613) =>
          M_lodge_L181 n x1 v1612 (x4 + 1) u1613
set_option maxRecDepth 10000 in
set_option maxHeartbeats 4000000 in
theorem ev_M_lodge_L181 {sc : mg_Sc} {c z : Nat} {fL : Nat → Int64} {fD : Nat → UInt64} : ∀ (n : Nat) (x1 : Int32) (x3 : Int32) (x4 : Int32) (u : mg_Rg) (res : Int32 × mg_Rg), M_lodge_L181 n x1 x3 x4 u = some res → ∀ r, (match res with | (y3, yu) => mg_Ev sc 5 135 207 [some (.ref 43), some (.int x1), none, some (.int y3), none] [] (hp yu fL fD, c, z) r) → mg_Ev sc 5 135 181 [some (.ref 43), some (.int x1), none, some (.int x3), some (.int x4)] [] (hp u fL fD, c, z) r := by
  intro n
  induction n with
  | zero => intro x1 x3 x4 u res h; cases h
  | succ n ih =>
    intro x1 x3 x4 u res h r K
    unfold M_lodge_L181 at h
    refine mg_Ev.go 2 (pc' := 184) (loc' := [some (.ref 43), some (.int x1), none, some (.int x3), some (.int x4)]) (st' := [.int x1, .int x4]) (w' := (hp u fL fD, c, z)) rfl ?_
    refine mg_Ev.br (P := x1 ≤ x4) (t := 207) (nx := 187) (st' := []) rfl rfl rfl rfl (fun hc3926 => ?_) (fun hc3926 => ?_)
    · rw [if_pos hc3926] at h
      cases h
      exact mg_Ev.more (loc := [some (.ref 43), some (.int x1), none, some (.int x3), none]) K ⟨rfl, ⟨rfl, ⟨rfl, trivial⟩⟩⟩
    · rw [if_neg hc3926] at h
      refine mg_Ev.go 1 (pc' := 188) (loc' := [some (.ref 43), some (.int x1), none, some (.int x3), some (.int x4)]) (st' := [.int x3]) (w' := (hp u fL fD, c, z)) rfl ?_
      refine mg_Ev.br (P := x3 = 0) (t := 207) (nx := 191) (st' := []) rfl rfl rfl rfl (fun hc3927 => ?_) (fun hc3927 => ?_)
      · rw [if_pos hc3927] at h
        cases h
        exact mg_Ev.more (loc := [some (.ref 43), some (.int x1), none, some (.int x3), none]) K ⟨rfl, ⟨rfl, ⟨rfl, trivial⟩⟩⟩
      · rw [if_neg hc3927] at h
        refine mg_Ev.go 4 (pc' := 197) (loc' := [some (.ref 43), some (.int x1), none, some (.int x3), some (.int x4)]) (st' := [.int (14 * x4), .ref 43]) (w' := (hp u fL fD, c, z)) rfl ?_
        obtain ⟨⟨v1612, u1613⟩, hf3928, h⟩ := Option.bind_eq_some_iff.mp h
        try dsimp only at h
        refine mg_Ev.call (y := 134) (as := [.ref 43, .int (14 * x4)]) (rest := []) (v := some (.int v1612)) (w1 := (hp u1613 fL fD, c, z)) rfl rfl (Nat.le_of_ble_eq_true rfl) ((ev_M_lodgesEntry hf3928).deep (by decide)) ?_
        refine mg_Ev.go 3 (pc' := 181) (loc' := [some (.ref 43), some (.int x1), none, some (.int v1612), some (.int (x4 + 1))]) (st' := []) (w' := (hp u1613 fL fD, c, z)) rfl ?_
        exact mg_Ev.more (loc := [some (.ref 43), some (.int x1), none, some (.int v1612), some (.int (x4 + 1))]) (ih _ _ _ _ _ h _ K) ⟨rfl, ⟨rfl, ⟨rfl, ⟨rfl, trivial⟩⟩⟩⟩

def M_lodge_L240 : Nat → Int32 → Int32 → mg_Rg → Option (mg_Rg)
  | 0, _, _, _ => none
  | n + 1, x1, x4, u =>
    if 200 ≤ x4 then
    some (u)
    else
    if x4 < 0 ∨ 690 ≤ x4.toNatClampNeg then none else
      if x4 < 0 ∨ 690 ≤ x4.toNatClampNeg then none else
      M_lodge_L240 n x1 (x4 + 1) (mg_up u 43 x4.toNatClampNeg (u 46 x4.toNatClampNeg))
set_option maxRecDepth 10000 in
set_option maxHeartbeats 4000000 in
theorem ev_M_lodge_L240 {sc : mg_Sc} {c z : Nat} {fL : Nat → Int64} {fD : Nat → UInt64} : ∀ (n : Nat) (x1 : Int32) (x4 : Int32) (u : mg_Rg) (res : mg_Rg), M_lodge_L240 n x1 x4 u = some res → ∀ r, (match res with | yu => mg_Ev sc 5 135 268 [some (.ref 43), some (.int x1), none, none, none] [] (hp yu fL fD, c, z) r) → mg_Ev sc 5 135 240 [some (.ref 43), some (.int x1), none, none, some (.int x4)] [] (hp u fL fD, c, z) r := by
  intro n
  induction n with
  | zero => intro x1 x4 u res h; cases h
  | succ n ih =>
    intro x1 x4 u res h r K
    unfold M_lodge_L240 at h
    refine mg_Ev.go 2 (pc' := 245) (loc' := [some (.ref 43), some (.int x1), none, none, some (.int x4)]) (st' := [.int 200, .int x4]) (w' := (hp u fL fD, c, z)) rfl ?_
    refine mg_Ev.br (P := 200 ≤ x4) (t := 268) (nx := 248) (st' := []) rfl rfl rfl rfl (fun hc3929 => ?_) (fun hc3929 => ?_)
    · rw [if_pos hc3929] at h
      cases h
      exact mg_Ev.more (loc := [some (.ref 43), some (.int x1), none, none, none]) K ⟨rfl, ⟨rfl, trivial⟩⟩
    · rw [if_neg hc3929] at h
      refine mg_Ev.go 6 (pc' := 260) (loc' := [some (.ref 43), some (.int x1), none, none, some (.int x4)]) (st' := [.int x4, .ref 47, .int x4, .ref 44]) (w' := (hp u fL fD, c, z)) rfl ?_
      by_cases hb3930 : x4 < 0 ∨ 690 ≤ x4.toNatClampNeg
      · rw [if_pos hb3930] at h
        cases h
      · rw [if_neg hb3930] at h
        refine mg_Ev.iald (a := 46) (n := 690) (f := u 46) rfl (hpg_46 _ _ _) rfl hb3930 ?_
        by_cases hb3931 : x4 < 0 ∨ 690 ≤ x4.toNatClampNeg
        · rw [if_pos hb3931] at h
          cases h
        · rw [if_neg hb3931] at h
          refine mg_Ev.iast (a := 43) (n := 690) rfl (hpg_43 _ _ _) rfl hb3931 (hpa_43 _ _ _ _ _ _ _) ?_
          refine mg_Ev.go 2 (pc' := 240) (loc' := [some (.ref 43), some (.int x1), none, none, some (.int (x4 + 1))]) (st' := []) (w' := (hp (mg_up u 43 x4.toNatClampNeg (u 46 x4.toNatClampNeg)) fL fD, c, z)) rfl ?_
          exact mg_Ev.more (loc := [some (.ref 43), some (.int x1), none, none, some (.int (x4 + 1))]) (ih _ _ _ _ h _ K) ⟨rfl, ⟨rfl, ⟨rfl, trivial⟩⟩⟩

def M_lodge (u : mg_Rg) : Option (Int32 × mg_Rg) :=
  (M_readsEntry 0 (mg_up (mg_up u 42 13 0) 42 14 0)).bind fun u1599 =>
  (M_lodge_L17 mg_F 1 u1599).bind fun q3932 => match q3932 with
  | (x1602, u1603) =>
    if (u1603 42 10) ≤ (u1603 42 13) then
    if ((u1603 42 14) ||| 0) = 0 ∨ ((u1603 42 14) ||| 0) = 1 then
      if ((mg_up (mg_up u1603 42 14 ((u1603 42 14) ||| 0)) 42 10 0) 42 14) = 0 then
        (M_lodge_L112 mg_F x1602 1 0 (mg_up (mg_up u1603 42 14 ((u1603 42 14) ||| 0)) 42 10 0)).bind fun q3933 => match q3933 with
          | (x1605, u1606) =>
            if x1605 = 0 then
            (M_fails 2 u1606).bind fun p1609 => match p1609 with
              | (v1607, u1608) =>
                some (v1607, u1608)
            else
            (M_copy_43_46 0 0 u1606).bind fun u1611 =>
              (M_lodge_L181 mg_F x1602 1 0 (mg_up u1611 42 7 1)).bind fun q3934 => match q3934 with
              | (x1615, u1616) =>
                if x1615 = 0 then
                (M_copy_46_43 0 0 (mg_up u1616 42 7 0)).bind fun u1618 =>
                  (M_fails 3 u1618).bind fun p1621 => match p1621 with
                  | (v1619, u1620) =>
                    some (v1619, u1620)
                else
                (M_lodge_L240 mg_F x1602 192 (mg_up u1616 42 7 0)).bind fun q3935 => match q3935 with
                  | u1622 =>
                    (M_remembersRow_46 (mg_up u1622 43 6 (u1622 46 6))).bind fun u1627 =>
                    (M_done x1602 u1627).bind fun p1630 => match p1630 with
                    | (v1628, u1629) =>
                      some (v1628, u1629)
        else
        (M_fails 1 (mg_up (mg_up (mg_up u1603 42 14 ((u1603 42 14) ||| 0)) 42 10 0) 42 11 ((mg_up (mg_up u1603 42 14 ((u1603 42 14) ||| 0)) 42 10 0) 42 13))).bind fun p1633 => match p1633 with
          | (v1631, u1632) =>
            some (v1631, u1632)
      else none
    else
    if ((u1603 42 14) ||| 1) = 0 ∨ ((u1603 42 14) ||| 1) = 1 then
      if ((mg_up (mg_up u1603 42 14 ((u1603 42 14) ||| 1)) 42 10 0) 42 14) = 0 then
        (M_lodge_L112 mg_F x1602 1 0 (mg_up (mg_up u1603 42 14 ((u1603 42 14) ||| 1)) 42 10 0)).bind fun q3936 => match q3936 with
          | (x1634, u1635) =>
            if x1634 = 0 then
            (M_fails 2 u1635).bind fun p1638 => match p1638 with
              | (v1636, u1637) =>
                some (v1636, u1637)
            else
            (M_copy_43_46 0 0 u1635).bind fun u1639 =>
              (M_lodge_L181 mg_F x1602 1 0 (mg_up u1639 42 7 1)).bind fun q3937 => match q3937 with
              | (x1640, u1641) =>
                if x1640 = 0 then
                (M_copy_46_43 0 0 (mg_up u1641 42 7 0)).bind fun u1642 =>
                  (M_fails 3 u1642).bind fun p1645 => match p1645 with
                  | (v1643, u1644) =>
                    some (v1643, u1644)
                else
                (M_lodge_L240 mg_F x1602 192 (mg_up u1641 42 7 0)).bind fun q3938 => match q3938 with
                  | u1646 =>
                    (M_remembersRow_46 (mg_up u1646 43 6 (u1646 46 6))).bind fun u1647 =>
                    (M_done x1602 u1647).bind fun p1650 => match p1650 with
                    | (v1648, u1649) =>
                      some (v1648, u1649)
        else
        (M_fails 1 (mg_up (mg_up (mg_up u1603 42 14 ((u1603 42 14) ||| 1)) 42 10 0) 42 11 ((mg_up (mg_up u1603 42 14 ((u1603 42 14) ||| 1)) 42 10 0) 42 13))).bind fun p1653 => match p1653 with
          | (v1651, u1652) =>
            some (v1651, u1652)
      else none

set_option maxRecDepth 10000 in
set_option maxHeartbeats 4000000 in
theorem ev_M_lodge {sc : mg_Sc} {c z : Nat} {fL : Nat → Int64} {fD : Nat → UInt64} {u : mg_Rg} {p : Int32 × mg_Rg} (h : M_lodge u = some p) : mg_Ev sc 5 135 0 (mg_entry 135 [.ref 43]) [] (hp u fL fD, c, z) (.inl (some (.int p.1)), (hp p.2 fL fD, c, z)) := by
  unfold M_lodge at h
  show mg_Ev _ _ _ 0 [some (.ref 43), none, none, none, none] [] _ _
  refine mg_Ev.go 2 (pc' := 2) (loc' := [some (.ref 43), none, none, none, none]) (st' := [.int 0, .ref 43]) (w' := (hp u fL fD, c, z)) rfl ?_
  refine mg_Ev.put rfl (hpg_42 _ _ _) (Nat.le_of_ble_eq_true rfl) rfl (hpf_42_13 _ _ _ _ _ _) ?_
  refine mg_Ev.go 2 (pc' := 7) (loc' := [some (.ref 43), none, none, none, none]) (st' := [.int 0, .ref 43]) (w' := (hp (mg_up u 42 13 0) fL fD, c, z)) rfl ?_
  refine mg_Ev.put rfl (hpg_42 _ _ _) (Nat.le_of_ble_eq_true rfl) rfl (hpf_42_14 _ _ _ _ _ _) ?_
  refine mg_Ev.go 2 (pc' := 12) (loc' := [some (.ref 43), none, none, none, none]) (st' := [.int 0, .ref 43]) (w' := (hp (mg_up (mg_up u 42 13 0) 42 14 0) fL fD, c, z)) rfl ?_
  obtain ⟨u1599, hf3939, h⟩ := Option.bind_eq_some_iff.mp h
  refine mg_Ev.call (y := 133) (as := [.ref 43, .int 0]) (rest := []) (v := none) (w1 := (hp u1599 fL fD, c, z)) rfl rfl (Nat.le_of_ble_eq_true rfl) ((ev_M_readsEntry hf3939).deep (by decide)) ?_
  refine mg_Ev.go 2 (pc' := 17) (loc' := [some (.ref 43), some (.int 1), none, none, none]) (st' := []) (w' := (hp u1599 fL fD, c, z)) rfl ?_
  obtain ⟨⟨x1602, u1603⟩, hl3940, h⟩ := Option.bind_eq_some_iff.mp h
  try dsimp only at h
  refine mg_Ev.more (loc := [some (.ref 43), some (.int 1), none, none, none]) (ev_M_lodge_L17 _ _ _ _ hl3940 _ ?_) ⟨rfl, ⟨rfl, trivial⟩⟩
  show mg_Ev _ _ _ 57 [some (.ref 43), some (.int x1602), none, none, none] [] (hp u1603 fL fD, c, z) _
  refine mg_Ev.go 7 (pc' := 70) (loc' := [some (.ref 43), some (.int x1602), none, none, none]) (st' := [.int (u1603 42 10), .int (u1603 42 13), .int (u1603 42 14), .ref 43]) (w' := (hp u1603 fL fD, c, z)) rfl ?_
  refine mg_Ev.br (P := (u1603 42 10) ≤ (u1603 42 13)) (t := 77) (nx := 73) (st' := [.int (u1603 42 14), .ref 43]) rfl rfl rfl rfl (fun hc3941 => ?_) (fun hc3941 => ?_)
  · rw [if_pos hc3941] at h
    refine mg_Ev.go 2 (pc' := 79) (loc' := [some (.ref 43), some (.int x1602), none, none, none]) (st' := [.int ((u1603 42 14) ||| 0), .ref 43]) (w' := (hp u1603 fL fD, c, z)) rfl ?_
    by_cases hb3942 : ((u1603 42 14) ||| 0) = 0 ∨ ((u1603 42 14) ||| 0) = 1
    · rw [if_pos hb3942] at h
      refine mg_Ev.putb rfl (hpg_42 _ _ _) (Nat.le_of_ble_eq_true rfl) rfl hb3942 (hpf_42_14 _ _ _ _ _ _) ?_
      refine mg_Ev.go 2 (pc' := 84) (loc' := [some (.ref 43), some (.int x1602), none, none, none]) (st' := [.int 0, .ref 43]) (w' := (hp (mg_up u1603 42 14 ((u1603 42 14) ||| 0)) fL fD, c, z)) rfl ?_
      refine mg_Ev.put rfl (hpg_42 _ _ _) (Nat.le_of_ble_eq_true rfl) rfl (hpf_42_10 _ _ _ _ _ _) ?_
      refine mg_Ev.go 2 (pc' := 91) (loc' := [some (.ref 43), some (.int x1602), none, none, none]) (st' := [.int ((mg_up (mg_up u1603 42 14 ((u1603 42 14) ||| 0)) 42 10 0) 42 14)]) (w' := (hp (mg_up (mg_up u1603 42 14 ((u1603 42 14) ||| 0)) 42 10 0) fL fD, c, z)) rfl ?_
      refine mg_Ev.br (P := ((mg_up (mg_up u1603 42 14 ((u1603 42 14) ||| 0)) 42 10 0) 42 14) = 0) (t := 108) (nx := 94) (st' := []) rfl rfl rfl rfl (fun hc3943 => ?_) (fun hc3943 => ?_)
      · rw [if_pos hc3943] at h
        refine mg_Ev.go 4 (pc' := 112) (loc' := [some (.ref 43), some (.int x1602), some (.int 1), some (.int 0), none]) (st' := []) (w' := (hp (mg_up (mg_up u1603 42 14 ((u1603 42 14) ||| 0)) 42 10 0) fL fD, c, z)) rfl ?_
        obtain ⟨⟨x1605, u1606⟩, hl3944, h⟩ := Option.bind_eq_some_iff.mp h
        try dsimp only at h
        refine mg_Ev.more (loc := [some (.ref 43), some (.int x1602), some (.int 1), some (.int 0), none]) (ev_M_lodge_L112 _ _ _ _ _ _ hl3944 _ ?_) ⟨rfl, ⟨rfl, ⟨rfl, ⟨rfl, trivial⟩⟩⟩⟩
        show mg_Ev _ _ _ 148 [some (.ref 43), some (.int x1602), some (.int x1605), none, none] [] (hp u1606 fL fD, c, z) _
        refine mg_Ev.go 1 (pc' := 149) (loc' := [some (.ref 43), some (.int x1602), some (.int x1605), none, none]) (st' := [.int x1605]) (w' := (hp u1606 fL fD, c, z)) rfl ?_
        refine mg_Ev.br (P := x1605 = 0) (t := 152) (nx := 158) (st' := []) rfl rfl rfl rfl (fun hc3945 => ?_) (fun hc3945 => ?_)
        · rw [if_pos hc3945] at h
          refine mg_Ev.go 2 (pc' := 154) (loc' := [some (.ref 43), some (.int x1602), some (.int x1605), none, none]) (st' := [.int 2, .ref 43]) (w' := (hp u1606 fL fD, c, z)) rfl ?_
          obtain ⟨⟨v1607, u1608⟩, hf3946, h⟩ := Option.bind_eq_some_iff.mp h
          try dsimp only at h
          refine mg_Ev.call (y := 59) (as := [.ref 43, .int 2]) (rest := []) (v := some (.int v1607)) (w1 := (hp u1608 fL fD, c, z)) rfl rfl (Nat.le_of_ble_eq_true rfl) ((ev_M_fails hf3946).deep (by decide)) ?_
          cases h
          exact mg_Ev.fin rfl rfl rfl
        · rw [if_neg hc3945] at h
          refine mg_Ev.go 6 (pc' := 168) (loc' := [some (.ref 43), some (.int x1602), some (.int x1605), none, none]) (st' := [.int 0, .ref 47, .int 0, .ref 44]) (w' := (hp u1606 fL fD, c, z)) rfl ?_
          obtain ⟨u1611, hf3947, h⟩ := Option.bind_eq_some_iff.mp h
          refine mg_Ev.call (y := 61) (as := [.ref 44, .int 0, .ref 47, .int 0]) (rest := []) (v := none) (w1 := (hp u1611 fL fD, c, z)) rfl rfl (Nat.le_of_ble_eq_true rfl) ((ev_M_copy_43_46 hf3947).deep (by decide)) ?_
          refine mg_Ev.go 2 (pc' := 173) (loc' := [some (.ref 43), some (.int x1602), some (.int x1605), none, none]) (st' := [.int 1, .ref 43]) (w' := (hp u1611 fL fD, c, z)) rfl ?_
          refine mg_Ev.put rfl (hpg_42 _ _ _) (Nat.le_of_ble_eq_true rfl) rfl (hpf_42_7 _ _ _ _ _ _) ?_
          refine mg_Ev.go 4 (pc' := 181) (loc' := [some (.ref 43), some (.int x1602), some (.int x1605), some (.int 1), some (.int 0)]) (st' := []) (w' := (hp (mg_up u1611 42 7 1) fL fD, c, z)) rfl ?_
          obtain ⟨⟨x1615, u1616⟩, hl3948, h⟩ := Option.bind_eq_some_iff.mp h
          try dsimp only at h
          refine mg_Ev.more (loc := [some (.ref 43), some (.int x1602), none, some (.int 1), some (.int 0)]) (ev_M_lodge_L181 _ _ _ _ _ _ hl3948 _ ?_) ⟨rfl, ⟨rfl, ⟨rfl, ⟨rfl, trivial⟩⟩⟩⟩
          show mg_Ev _ _ _ 207 [some (.ref 43), some (.int x1602), none, some (.int x1615), none] [] (hp u1616 fL fD, c, z) _
          refine mg_Ev.go 2 (pc' := 209) (loc' := [some (.ref 43), some (.int x1602), none, some (.int x1615), none]) (st' := [.int 0, .ref 43]) (w' := (hp u1616 fL fD, c, z)) rfl ?_
          refine mg_Ev.put rfl (hpg_42 _ _ _) (Nat.le_of_ble_eq_true rfl) rfl (hpf_42_7 _ _ _ _ _ _) ?_
          refine mg_Ev.go 1 (pc' := 213) (loc' := [some (.ref 43), some (.int x1602), none, some (.int x1615), none]) (st' := [.int x1615]) (w' := (hp (mg_up u1616 42 7 0) fL fD, c, z)) rfl ?_
          refine mg_Ev.br (P := x1615 = 0) (t := 216) (nx := 235) (st' := []) rfl rfl rfl rfl (fun hc3949 => ?_) (fun hc3949 => ?_)
          · rw [if_pos hc3949] at h
            refine mg_Ev.go 6 (pc' := 226) (loc' := [some (.ref 43), some (.int x1602), none, some (.int x1615), none]) (st' := [.int 0, .ref 44, .int 0, .ref 47]) (w' := (hp (mg_up u1616 42 7 0) fL fD, c, z)) rfl ?_
            obtain ⟨u1618, hf3950, h⟩ := Option.bind_eq_some_iff.mp h
            refine mg_Ev.call (y := 61) (as := [.ref 47, .int 0, .ref 44, .int 0]) (rest := []) (v := none) (w1 := (hp u1618 fL fD, c, z)) rfl rfl (Nat.le_of_ble_eq_true rfl) ((ev_M_copy_46_43 hf3950).deep (by decide)) ?_
            refine mg_Ev.go 2 (pc' := 231) (loc' := [some (.ref 43), some (.int x1602), none, some (.int x1615), none]) (st' := [.int 3, .ref 43]) (w' := (hp u1618 fL fD, c, z)) rfl ?_
            obtain ⟨⟨v1619, u1620⟩, hf3951, h⟩ := Option.bind_eq_some_iff.mp h
            try dsimp only at h
            refine mg_Ev.call (y := 59) (as := [.ref 43, .int 3]) (rest := []) (v := some (.int v1619)) (w1 := (hp u1620 fL fD, c, z)) rfl rfl (Nat.le_of_ble_eq_true rfl) ((ev_M_fails hf3951).deep (by decide)) ?_
            cases h
            exact mg_Ev.fin rfl rfl rfl
          · rw [if_neg hc3949] at h
            refine mg_Ev.go 2 (pc' := 240) (loc' := [some (.ref 43), some (.int x1602), none, some (.int x1615), some (.int 192)]) (st' := []) (w' := (hp (mg_up u1616 42 7 0) fL fD, c, z)) rfl ?_
            obtain ⟨u1622, hl3952, h⟩ := Option.bind_eq_some_iff.mp h
            try dsimp only at h
            refine mg_Ev.more (loc := [some (.ref 43), some (.int x1602), none, none, some (.int 192)]) (ev_M_lodge_L240 _ _ _ _ _ hl3952 _ ?_) ⟨rfl, ⟨rfl, ⟨rfl, trivial⟩⟩⟩
            show mg_Ev _ _ _ 268 [some (.ref 43), some (.int x1602), none, none, none] [] (hp u1622 fL fD, c, z) _
            refine mg_Ev.go 6 (pc' := 280) (loc' := [some (.ref 43), some (.int x1602), none, none, none]) (st' := [.int 6, .ref 47, .int 6, .ref 44]) (w' := (hp u1622 fL fD, c, z)) rfl ?_
            refine mg_Ev.iald (a := 46) (n := 690) (f := u1622 46) (j := 6) rfl (hpg_46 _ _ _) (by decide) (by decide) ?_
            refine mg_Ev.iast (a := 43) (n := 690) (j := 6) rfl (hpg_43 _ _ _) (by decide) (by decide) (hpa_43 _ _ _ _ _ _ _) ?_
            refine mg_Ev.go 3 (pc' := 287) (loc' := [some (.ref 43), some (.int x1602), none, none, none]) (st' := [.ref 47, .ref 43]) (w' := (hp (mg_up u1622 43 6 (u1622 46 6)) fL fD, c, z)) rfl ?_
            obtain ⟨u1627, hf3953, h⟩ := Option.bind_eq_some_iff.mp h
            refine mg_Ev.call (y := 62) (as := [.ref 43, .ref 47]) (rest := []) (v := none) (w1 := (hp u1627 fL fD, c, z)) rfl rfl (Nat.le_of_ble_eq_true rfl) ((ev_M_remembersRow_46 hf3953).deep (by decide)) ?_
            refine mg_Ev.go 2 (pc' := 292) (loc' := [some (.ref 43), some (.int x1602), none, none, none]) (st' := [.int x1602, .ref 43]) (w' := (hp u1627 fL fD, c, z)) rfl ?_
            obtain ⟨⟨v1628, u1629⟩, hf3954, h⟩ := Option.bind_eq_some_iff.mp h
            try dsimp only at h
            refine mg_Ev.call (y := 60) (as := [.ref 43, .int x1602]) (rest := []) (v := some (.int v1628)) (w1 := (hp u1629 fL fD, c, z)) rfl rfl (Nat.le_of_ble_eq_true rfl) ((ev_M_done hf3954).deep (by decide)) ?_
            cases h
            exact mg_Ev.fin rfl rfl rfl
      · rw [if_neg hc3943] at h
        refine mg_Ev.go 3 (pc' := 99) (loc' := [some (.ref 43), some (.int x1602), none, none, none]) (st' := [.int ((mg_up (mg_up u1603 42 14 ((u1603 42 14) ||| 0)) 42 10 0) 42 13), .ref 43]) (w' := (hp (mg_up (mg_up u1603 42 14 ((u1603 42 14) ||| 0)) 42 10 0) fL fD, c, z)) rfl ?_
        refine mg_Ev.put rfl (hpg_42 _ _ _) (Nat.le_of_ble_eq_true rfl) rfl (hpf_42_11 _ _ _ _ _ _) ?_
        refine mg_Ev.go 2 (pc' := 104) (loc' := [some (.ref 43), some (.int x1602), none, none, none]) (st' := [.int 1, .ref 43]) (w' := (hp (mg_up (mg_up (mg_up u1603 42 14 ((u1603 42 14) ||| 0)) 42 10 0) 42 11 ((mg_up (mg_up u1603 42 14 ((u1603 42 14) ||| 0)) 42 10 0) 42 13)) fL fD, c, z)) rfl ?_
        obtain ⟨⟨v1631, u1632⟩, hf3955, h⟩ := Option.bind_eq_some_iff.mp h
        try dsimp only at h
        refine mg_Ev.call (y := 59) (as := [.ref 43, .int 1]) (rest := []) (v := some (.int v1631)) (w1 := (hp u1632 fL fD, c, z)) rfl rfl (Nat.le_of_ble_eq_true rfl) ((ev_M_fails hf3955).deep (by decide)) ?_
        cases h
        exact mg_Ev.fin rfl rfl rfl
    · rw [if_neg hb3942] at h
      cases h
  · rw [if_neg hc3941] at h
    refine mg_Ev.go 3 (pc' := 79) (loc' := [some (.ref 43), some (.int x1602), none, none, none]) (st' := [.int ((u1603 42 14) ||| 1), .ref 43]) (w' := (hp u1603 fL fD, c, z)) rfl ?_
    by_cases hb3956 : ((u1603 42 14) ||| 1) = 0 ∨ ((u1603 42 14) ||| 1) = 1
    · rw [if_pos hb3956] at h
      refine mg_Ev.putb rfl (hpg_42 _ _ _) (Nat.le_of_ble_eq_true rfl) rfl hb3956 (hpf_42_14 _ _ _ _ _ _) ?_
      refine mg_Ev.go 2 (pc' := 84) (loc' := [some (.ref 43), some (.int x1602), none, none, none]) (st' := [.int 0, .ref 43]) (w' := (hp (mg_up u1603 42 14 ((u1603 42 14) ||| 1)) fL fD, c, z)) rfl ?_
      refine mg_Ev.put rfl (hpg_42 _ _ _) (Nat.le_of_ble_eq_true rfl) rfl (hpf_42_10 _ _ _ _ _ _) ?_
      refine mg_Ev.go 2 (pc' := 91) (loc' := [some (.ref 43), some (.int x1602), none, none, none]) (st' := [.int ((mg_up (mg_up u1603 42 14 ((u1603 42 14) ||| 1)) 42 10 0) 42 14)]) (w' := (hp (mg_up (mg_up u1603 42 14 ((u1603 42 14) ||| 1)) 42 10 0) fL fD, c, z)) rfl ?_
      refine mg_Ev.br (P := ((mg_up (mg_up u1603 42 14 ((u1603 42 14) ||| 1)) 42 10 0) 42 14) = 0) (t := 108) (nx := 94) (st' := []) rfl rfl rfl rfl (fun hc3957 => ?_) (fun hc3957 => ?_)
      · rw [if_pos hc3957] at h
        refine mg_Ev.go 4 (pc' := 112) (loc' := [some (.ref 43), some (.int x1602), some (.int 1), some (.int 0), none]) (st' := []) (w' := (hp (mg_up (mg_up u1603 42 14 ((u1603 42 14) ||| 1)) 42 10 0) fL fD, c, z)) rfl ?_
        obtain ⟨⟨x1634, u1635⟩, hl3958, h⟩ := Option.bind_eq_some_iff.mp h
        try dsimp only at h
        refine mg_Ev.more (loc := [some (.ref 43), some (.int x1602), some (.int 1), some (.int 0), none]) (ev_M_lodge_L112 _ _ _ _ _ _ hl3958 _ ?_) ⟨rfl, ⟨rfl, ⟨rfl, ⟨rfl, trivial⟩⟩⟩⟩
        show mg_Ev _ _ _ 148 [some (.ref 43), some (.int x1602), some (.int x1634), none, none] [] (hp u1635 fL fD, c, z) _
        refine mg_Ev.go 1 (pc' := 149) (loc' := [some (.ref 43), some (.int x1602), some (.int x1634), none, none]) (st' := [.int x1634]) (w' := (hp u1635 fL fD, c, z)) rfl ?_
        refine mg_Ev.br (P := x1634 = 0) (t := 152) (nx := 158) (st' := []) rfl rfl rfl rfl (fun hc3959 => ?_) (fun hc3959 => ?_)
        · rw [if_pos hc3959] at h
          refine mg_Ev.go 2 (pc' := 154) (loc' := [some (.ref 43), some (.int x1602), some (.int x1634), none, none]) (st' := [.int 2, .ref 43]) (w' := (hp u1635 fL fD, c, z)) rfl ?_
          obtain ⟨⟨v1636, u1637⟩, hf3960, h⟩ := Option.bind_eq_some_iff.mp h
          try dsimp only at h
          refine mg_Ev.call (y := 59) (as := [.ref 43, .int 2]) (rest := []) (v := some (.int v1636)) (w1 := (hp u1637 fL fD, c, z)) rfl rfl (Nat.le_of_ble_eq_true rfl) ((ev_M_fails hf3960).deep (by decide)) ?_
          cases h
          exact mg_Ev.fin rfl rfl rfl
        · rw [if_neg hc3959] at h
          refine mg_Ev.go 6 (pc' := 168) (loc' := [some (.ref 43), some (.int x1602), some (.int x1634), none, none]) (st' := [.int 0, .ref 47, .int 0, .ref 44]) (w' := (hp u1635 fL fD, c, z)) rfl ?_
          obtain ⟨u1639, hf3961, h⟩ := Option.bind_eq_some_iff.mp h
          refine mg_Ev.call (y := 61) (as := [.ref 44, .int 0, .ref 47, .int 0]) (rest := []) (v := none) (w1 := (hp u1639 fL fD, c, z)) rfl rfl (Nat.le_of_ble_eq_true rfl) ((ev_M_copy_43_46 hf3961).deep (by decide)) ?_
          refine mg_Ev.go 2 (pc' := 173) (loc' := [some (.ref 43), some (.int x1602), some (.int x1634), none, none]) (st' := [.int 1, .ref 43]) (w' := (hp u1639 fL fD, c, z)) rfl ?_
          refine mg_Ev.put rfl (hpg_42 _ _ _) (Nat.le_of_ble_eq_true rfl) rfl (hpf_42_7 _ _ _ _ _ _) ?_
          refine mg_Ev.go 4 (pc' := 181) (loc' := [some (.ref 43), some (.int x1602), some (.int x1634), some (.int 1), some (.int 0)]) (st' := []) (w' := (hp (mg_up u1639 42 7 1) fL fD, c, z)) rfl ?_
          obtain ⟨⟨x1640, u1641⟩, hl3962, h⟩ := Option.bind_eq_some_iff.mp h
          try dsimp only at h
          refine mg_Ev.more (loc := [some (.ref 43), some (.int x1602), none, some (.int 1), some (.int 0)]) (ev_M_lodge_L181 _ _ _ _ _ _ hl3962 _ ?_) ⟨rfl, ⟨rfl, ⟨rfl, ⟨rfl, trivial⟩⟩⟩⟩
          show mg_Ev _ _ _ 207 [some (.ref 43), some (.int x1602), none, some (.int x1640), none] [] (hp u1641 fL fD, c, z) _
          refine mg_Ev.go 2 (pc' := 209) (loc' := [some (.ref 43), some (.int x1602), none, some (.int x1640), none]) (st' := [.int 0, .ref 43]) (w' := (hp u1641 fL fD, c, z)) rfl ?_
          refine mg_Ev.put rfl (hpg_42 _ _ _) (Nat.le_of_ble_eq_true rfl) rfl (hpf_42_7 _ _ _ _ _ _) ?_
          refine mg_Ev.go 1 (pc' := 213) (loc' := [some (.ref 43), some (.int x1602), none, some (.int x1640), none]) (st' := [.int x1640]) (w' := (hp (mg_up u1641 42 7 0) fL fD, c, z)) rfl ?_
          refine mg_Ev.br (P := x1640 = 0) (t := 216) (nx := 235) (st' := []) rfl rfl rfl rfl (fun hc3963 => ?_) (fun hc3963 => ?_)
          · rw [if_pos hc3963] at h
            refine mg_Ev.go 6 (pc' := 226) (loc' := [some (.ref 43), some (.int x1602), none, some (.int x1640), none]) (st' := [.int 0, .ref 44, .int 0, .ref 47]) (w' := (hp (mg_up u1641 42 7 0) fL fD, c, z)) rfl ?_
            obtain ⟨u1642, hf3964, h⟩ := Option.bind_eq_some_iff.mp h
            refine mg_Ev.call (y := 61) (as := [.ref 47, .int 0, .ref 44, .int 0]) (rest := []) (v := none) (w1 := (hp u1642 fL fD, c, z)) rfl rfl (Nat.le_of_ble_eq_true rfl) ((ev_M_copy_46_43 hf3964).deep (by decide)) ?_
            refine mg_Ev.go 2 (pc' := 231) (loc' := [some (.ref 43), some (.int x1602), none, some (.int x1640), none]) (st' := [.int 3, .ref 43]) (w' := (hp u1642 fL fD, c, z)) rfl ?_
            obtain ⟨⟨v1643, u1644⟩, hf3965, h⟩ := Option.bind_eq_some_iff.mp h
            try dsimp only at h
            refine mg_Ev.call (y := 59) (as := [.ref 43, .int 3]) (rest := []) (v := some (.int v1643)) (w1 := (hp u1644 fL fD, c, z)) rfl rfl (Nat.le_of_ble_eq_true rfl) ((ev_M_fails hf3965).deep (by decide)) ?_
            cases h
            exact mg_Ev.fin rfl rfl rfl
          · rw [if_neg hc3963] at h
            refine mg_Ev.go 2 (pc' := 240) (loc' := [some (.ref 43), some (.int x1602), none, some (.int x1640), some (.int 192)]) (st' := []) (w' := (hp (mg_up u1641 42 7 0) fL fD, c, z)) rfl ?_
            obtain ⟨u1646, hl3966, h⟩ := Option.bind_eq_some_iff.mp h
            try dsimp only at h
            refine mg_Ev.more (loc := [some (.ref 43), some (.int x1602), none, none, some (.int 192)]) (ev_M_lodge_L240 _ _ _ _ _ hl3966 _ ?_) ⟨rfl, ⟨rfl, ⟨rfl, trivial⟩⟩⟩
            show mg_Ev _ _ _ 268 [some (.ref 43), some (.int x1602), none, none, none] [] (hp u1646 fL fD, c, z) _
            refine mg_Ev.go 6 (pc' := 280) (loc' := [some (.ref 43), some (.int x1602), none, none, none]) (st' := [.int 6, .ref 47, .int 6, .ref 44]) (w' := (hp u1646 fL fD, c, z)) rfl ?_
            refine mg_Ev.iald (a := 46) (n := 690) (f := u1646 46) (j := 6) rfl (hpg_46 _ _ _) (by decide) (by decide) ?_
            refine mg_Ev.iast (a := 43) (n := 690) (j := 6) rfl (hpg_43 _ _ _) (by decide) (by decide) (hpa_43 _ _ _ _ _ _ _) ?_
            refine mg_Ev.go 3 (pc' := 287) (loc' := [some (.ref 43), some (.int x1602), none, none, none]) (st' := [.ref 47, .ref 43]) (w' := (hp (mg_up u1646 43 6 (u1646 46 6)) fL fD, c, z)) rfl ?_
            obtain ⟨u1647, hf3967, h⟩ := Option.bind_eq_some_iff.mp h
            refine mg_Ev.call (y := 62) (as := [.ref 43, .ref 47]) (rest := []) (v := none) (w1 := (hp u1647 fL fD, c, z)) rfl rfl (Nat.le_of_ble_eq_true rfl) ((ev_M_remembersRow_46 hf3967).deep (by decide)) ?_
            refine mg_Ev.go 2 (pc' := 292) (loc' := [some (.ref 43), some (.int x1602), none, none, none]) (st' := [.int x1602, .ref 43]) (w' := (hp u1647 fL fD, c, z)) rfl ?_
            obtain ⟨⟨v1648, u1649⟩, hf3968, h⟩ := Option.bind_eq_some_iff.mp h
            try dsimp only at h
            refine mg_Ev.call (y := 60) (as := [.ref 43, .int x1602]) (rest := []) (v := some (.int v1648)) (w1 := (hp u1649 fL fD, c, z)) rfl rfl (Nat.le_of_ble_eq_true rfl) ((ev_M_done hf3968).deep (by decide)) ?_
            cases h
            exact mg_Ev.fin rfl rfl rfl
      · rw [if_neg hc3957] at h
        refine mg_Ev.go 3 (pc' := 99) (loc' := [some (.ref 43), some (.int x1602), none, none, none]) (st' := [.int ((mg_up (mg_up u1603 42 14 ((u1603 42 14) ||| 1)) 42 10 0) 42 13), .ref 43]) (w' := (hp (mg_up (mg_up u1603 42 14 ((u1603 42 14) ||| 1)) 42 10 0) fL fD, c, z)) rfl ?_
        refine mg_Ev.put rfl (hpg_42 _ _ _) (Nat.le_of_ble_eq_true rfl) rfl (hpf_42_11 _ _ _ _ _ _) ?_
        refine mg_Ev.go 2 (pc' := 104) (loc' := [some (.ref 43), some (.int x1602), none, none, none]) (st' := [.int 1, .ref 43]) (w' := (hp (mg_up (mg_up (mg_up u1603 42 14 ((u1603 42 14) ||| 1)) 42 10 0) 42 11 ((mg_up (mg_up u1603 42 14 ((u1603 42 14) ||| 1)) 42 10 0) 42 13)) fL fD, c, z)) rfl ?_
        obtain ⟨⟨v1651, u1652⟩, hf3969, h⟩ := Option.bind_eq_some_iff.mp h
        try dsimp only at h
        refine mg_Ev.call (y := 59) (as := [.ref 43, .int 1]) (rest := []) (v := some (.int v1651)) (w1 := (hp u1652 fL fD, c, z)) rfl rfl (Nat.le_of_ble_eq_true rfl) ((ev_M_fails hf3969).deep (by decide)) ?_
        cases h
        exact mg_Ev.fin rfl rfl rfl
    · rw [if_neg hb3956] at h
      cases h

def M_errorPosition (u : mg_Rg) : Option (Int32 × mg_Rg) :=
  if (u 42 11) = (-1) then
  (M_fails 1 u).bind fun p1656 => match p1656 with
    | (v1654, u1655) =>
      some (v1654, u1655)
  else
  (M_done (u 42 11) u).bind fun p1659 => match p1659 with
    | (v1657, u1658) =>
      some (v1657, u1658)

set_option maxRecDepth 10000 in
set_option maxHeartbeats 4000000 in
theorem ev_M_errorPosition {sc : mg_Sc} {c z : Nat} {fL : Nat → Int64} {fD : Nat → UInt64} {u : mg_Rg} {p : Int32 × mg_Rg} (h : M_errorPosition u = some p) : mg_Ev sc 1 136 0 (mg_entry 136 [.ref 43]) [] (hp u fL fD, c, z) (.inl (some (.int p.1)), (hp p.2 fL fD, c, z)) := by
  unfold M_errorPosition at h
  show mg_Ev _ _ _ 0 [some (.ref 43)] [] _ _
  refine mg_Ev.go 3 (pc' := 5) (loc' := [some (.ref 43)]) (st' := [.int (-1), .int (u 42 11)]) (w' := (hp u fL fD, c, z)) rfl ?_
  refine mg_Ev.br (P := (u 42 11) = (-1)) (t := 8) (nx := 16) (st' := []) rfl rfl rfl rfl (fun hc3970 => ?_) (fun hc3970 => ?_)
  · rw [if_pos hc3970] at h
    refine mg_Ev.go 2 (pc' := 10) (loc' := [some (.ref 43)]) (st' := [.int 1, .ref 43]) (w' := (hp u fL fD, c, z)) rfl ?_
    obtain ⟨⟨v1654, u1655⟩, hf3971, h⟩ := Option.bind_eq_some_iff.mp h
    try dsimp only at h
    refine mg_Ev.call (y := 59) (as := [.ref 43, .int 1]) (rest := []) (v := some (.int v1654)) (w1 := (hp u1655 fL fD, c, z)) rfl rfl (Nat.le_of_ble_eq_true rfl) ((ev_M_fails hf3971).deep (by decide)) ?_
    refine mg_Ev.go 1 (pc' := 24) (loc' := [some (.ref 43)]) (st' := [.int v1654]) (w' := (hp u1655 fL fD, c, z)) rfl ?_
    cases h
    exact mg_Ev.fin rfl rfl rfl
  · rw [if_neg hc3970] at h
    refine mg_Ev.go 3 (pc' := 21) (loc' := [some (.ref 43)]) (st' := [.int (u 42 11), .ref 43]) (w' := (hp u fL fD, c, z)) rfl ?_
    obtain ⟨⟨v1657, u1658⟩, hf3972, h⟩ := Option.bind_eq_some_iff.mp h
    try dsimp only at h
    refine mg_Ev.call (y := 60) (as := [.ref 43, .int (u 42 11)]) (rest := []) (v := some (.int v1657)) (w1 := (hp u1658 fL fD, c, z)) rfl rfl (Nat.le_of_ble_eq_true rfl) ((ev_M_done hf3972).deep (by decide)) ?_
    cases h
    exact mg_Ev.fin rfl rfl rfl

def M_changes (u : mg_Rg) : Option (Int32 × mg_Rg) :=
  (M_done (u 42 3) u).bind fun p1662 => match p1662 with
  | (v1660, u1661) =>
    some (v1660, u1661)

set_option maxRecDepth 10000 in
set_option maxHeartbeats 4000000 in
theorem ev_M_changes {sc : mg_Sc} {c z : Nat} {fL : Nat → Int64} {fD : Nat → UInt64} {u : mg_Rg} {p : Int32 × mg_Rg} (h : M_changes u = some p) : mg_Ev sc 1 137 0 (mg_entry 137 [.ref 43]) [] (hp u fL fD, c, z) (.inl (some (.int p.1)), (hp p.2 fL fD, c, z)) := by
  unfold M_changes at h
  show mg_Ev _ _ _ 0 [some (.ref 43)] [] _ _
  refine mg_Ev.go 3 (pc' := 5) (loc' := [some (.ref 43)]) (st' := [.int (u 42 3), .ref 43]) (w' := (hp u fL fD, c, z)) rfl ?_
  obtain ⟨⟨v1660, u1661⟩, hf3973, h⟩ := Option.bind_eq_some_iff.mp h
  try dsimp only at h
  refine mg_Ev.call (y := 60) (as := [.ref 43, .int (u 42 3)]) (rest := []) (v := some (.int v1660)) (w1 := (hp u1661 fL fD, c, z)) rfl rfl (Nat.le_of_ble_eq_true rfl) ((ev_M_done hf3973).deep (by decide)) ?_
  cases h
  exact mg_Ev.fin rfl rfl rfl

def M_copy_44_43_L3 : Nat → Int32 → Int32 → Int32 → mg_Rg → Option (mg_Rg)
  | 0, _, _, _, _ => none
  | n + 1, x1, x3, x4, u =>
    if 690 ≤ x4 then
    some (u)
    else
    if (x1 + x4) < 0 ∨ 5520 ≤ (x1 + x4).toNatClampNeg then none else
      if (x3 + x4) < 0 ∨ 690 ≤ (x3 + x4).toNatClampNeg then none else
      M_copy_44_43_L3 n x1 x3 (x4 + 1) (mg_up u 43 ((x3 + x4).toNatClampNeg) (u 44 ((x1 + x4).toNatClampNeg)))
set_option maxRecDepth 10000 in
set_option maxHeartbeats 4000000 in
theorem ev_M_copy_44_43_L3 {sc : mg_Sc} {c z : Nat} {fL : Nat → Int64} {fD : Nat → UInt64} : ∀ (n : Nat) (x1 : Int32) (x3 : Int32) (x4 : Int32) (u : mg_Rg) (res : mg_Rg), M_copy_44_43_L3 n x1 x3 x4 u = some res → ∀ r, (match res with | yu => mg_Ev sc 0 61 29 [none, none, none, none, none] [] (hp yu fL fD, c, z) r) → mg_Ev sc 0 61 3 [some (.ref 45), some (.int x1), some (.ref 44), some (.int x3), some (.int x4)] [] (hp u fL fD, c, z) r := by
  intro n
  induction n with
  | zero => intro x1 x3 x4 u res h; cases h
  | succ n ih =>
    intro x1 x3 x4 u res h r K
    unfold M_copy_44_43_L3 at h
    refine mg_Ev.go 2 (pc' := 8) (loc' := [some (.ref 45), some (.int x1), some (.ref 44), some (.int x3), some (.int x4)]) (st' := [.int 690, .int x4]) (w' := (hp u fL fD, c, z)) rfl ?_
    refine mg_Ev.br (P := 690 ≤ x4) (t := 29) (nx := 11) (st' := []) rfl rfl rfl rfl (fun hc3974 => ?_) (fun hc3974 => ?_)
    · rw [if_pos hc3974] at h
      cases h
      exact mg_Ev.more (loc := [none, none, none, none, none]) K trivial
    · rw [if_neg hc3974] at h
      refine mg_Ev.go 8 (pc' := 21) (loc' := [some (.ref 45), some (.int x1), some (.ref 44), some (.int x3), some (.int x4)]) (st' := [.int (x1 + x4), .ref 45, .int (x3 + x4), .ref 44]) (w' := (hp u fL fD, c, z)) rfl ?_
      by_cases hb3975 : (x1 + x4) < 0 ∨ 5520 ≤ (x1 + x4).toNatClampNeg
      · rw [if_pos hb3975] at h
        cases h
      · rw [if_neg hb3975] at h
        refine mg_Ev.iald (a := 44) (n := 5520) (f := u 44) rfl (hpg_44 _ _ _) rfl hb3975 ?_
        by_cases hb3976 : (x3 + x4) < 0 ∨ 690 ≤ (x3 + x4).toNatClampNeg
        · rw [if_pos hb3976] at h
          cases h
        · rw [if_neg hb3976] at h
          refine mg_Ev.iast (a := 43) (n := 690) rfl (hpg_43 _ _ _) rfl hb3976 (hpa_43 _ _ _ _ _ _ _) ?_
          refine mg_Ev.go 2 (pc' := 3) (loc' := [some (.ref 45), some (.int x1), some (.ref 44), some (.int x3), some (.int (x4 + 1))]) (st' := []) (w' := (hp (mg_up u 43 ((x3 + x4).toNatClampNeg) (u 44 ((x1 + x4).toNatClampNeg))) fL fD, c, z)) rfl ?_
          exact mg_Ev.more (loc := [some (.ref 45), some (.int x1), some (.ref 44), some (.int x3), some (.int (x4 + 1))]) (ih _ _ _ _ _ h _ K) ⟨rfl, ⟨rfl, ⟨rfl, ⟨rfl, ⟨rfl, trivial⟩⟩⟩⟩⟩

def M_copy_44_43 (a0 : Int32) (a1 : Int32) (u : mg_Rg) : Option (mg_Rg) :=
  (M_copy_44_43_L3 mg_F a0 a1 0 u).bind fun q3977 => match q3977 with
  | u1666 =>
    some u1666

set_option maxRecDepth 10000 in
set_option maxHeartbeats 4000000 in
theorem ev_M_copy_44_43 {sc : mg_Sc} {c z : Nat} {fL : Nat → Int64} {fD : Nat → UInt64} {a0 : Int32} {a1 : Int32} {u : mg_Rg} {v : mg_Rg} (h : M_copy_44_43 a0 a1 u = some v) : mg_Ev sc 0 61 0 (mg_entry 61 [.ref 45, .int a0, .ref 44, .int a1]) [] (hp u fL fD, c, z) (.inl none, (hp v fL fD, c, z)) := by
  unfold M_copy_44_43 at h
  show mg_Ev _ _ _ 0 [some (.ref 45), some (.int a0), some (.ref 44), some (.int a1), none] [] _ _
  refine mg_Ev.go 2 (pc' := 3) (loc' := [some (.ref 45), some (.int a0), some (.ref 44), some (.int a1), some (.int 0)]) (st' := []) (w' := (hp u fL fD, c, z)) rfl ?_
  obtain ⟨u1666, hl3978, h⟩ := Option.bind_eq_some_iff.mp h
  try dsimp only at h
  refine mg_Ev.more (loc := [some (.ref 45), some (.int a0), some (.ref 44), some (.int a1), some (.int 0)]) (ev_M_copy_44_43_L3 _ _ _ _ _ _ hl3978 _ ?_) ⟨rfl, ⟨rfl, ⟨rfl, ⟨rfl, ⟨rfl, trivial⟩⟩⟩⟩⟩
  show mg_Ev _ _ _ 29 [none, none, none, none, none] [] (hp u1666 fL fD, c, z) _
  cases h
  exact mg_Ev.fin rfl rfl rfl

def M_undo (u : mg_Rg) : Option (Int32 × mg_Rg) :=
  if (u 42 3) = 0 then
  (M_fails 1 u).bind fun p1665 => match p1665 with
    | (v1663, u1664) =>
      some (v1663, u1664)
  else
  (M_copy_44_43 (((mg_up u 42 3 ((u 42 3) - 1)) 42 3) * 690) 0 (mg_up u 42 3 ((u 42 3) - 1))).bind fun u1667 =>
    (M_done (u1667 42 3) u1667).bind fun p1670 => match p1670 with
    | (v1668, u1669) =>
      some (v1668, u1669)

set_option maxRecDepth 10000 in
set_option maxHeartbeats 4000000 in
theorem ev_M_undo {sc : mg_Sc} {c z : Nat} {fL : Nat → Int64} {fD : Nat → UInt64} {u : mg_Rg} {p : Int32 × mg_Rg} (h : M_undo u = some p) : mg_Ev sc 1 138 0 (mg_entry 138 [.ref 43]) [] (hp u fL fD, c, z) (.inl (some (.int p.1)), (hp p.2 fL fD, c, z)) := by
  unfold M_undo at h
  show mg_Ev _ _ _ 0 [some (.ref 43)] [] _ _
  refine mg_Ev.go 2 (pc' := 4) (loc' := [some (.ref 43)]) (st' := [.int (u 42 3)]) (w' := (hp u fL fD, c, z)) rfl ?_
  refine mg_Ev.br (P := (u 42 3) = 0) (t := 7) (nx := 13) (st' := []) rfl rfl rfl rfl (fun hc3979 => ?_) (fun hc3979 => ?_)
  · rw [if_pos hc3979] at h
    refine mg_Ev.go 2 (pc' := 9) (loc' := [some (.ref 43)]) (st' := [.int 1, .ref 43]) (w' := (hp u fL fD, c, z)) rfl ?_
    obtain ⟨⟨v1663, u1664⟩, hf3980, h⟩ := Option.bind_eq_some_iff.mp h
    try dsimp only at h
    refine mg_Ev.call (y := 59) (as := [.ref 43, .int 1]) (rest := []) (v := some (.int v1663)) (w1 := (hp u1664 fL fD, c, z)) rfl rfl (Nat.le_of_ble_eq_true rfl) ((ev_M_fails hf3980).deep (by decide)) ?_
    cases h
    exact mg_Ev.fin rfl rfl rfl
  · rw [if_neg hc3979] at h
    refine mg_Ev.go 5 (pc' := 20) (loc' := [some (.ref 43)]) (st' := [.int ((u 42 3) - 1), .ref 43]) (w' := (hp u fL fD, c, z)) rfl ?_
    refine mg_Ev.put rfl (hpg_42 _ _ _) (Nat.le_of_ble_eq_true rfl) rfl (hpf_42_3 _ _ _ _ _ _) ?_
    refine mg_Ev.go 9 (pc' := 40) (loc' := [some (.ref 43)]) (st' := [.int 0, .ref 44, .int (((mg_up u 42 3 ((u 42 3) - 1)) 42 3) * 690), .ref 45]) (w' := (hp (mg_up u 42 3 ((u 42 3) - 1)) fL fD, c, z)) rfl ?_
    obtain ⟨u1667, hf3981, h⟩ := Option.bind_eq_some_iff.mp h
    refine mg_Ev.call (y := 61) (as := [.ref 45, .int (((mg_up u 42 3 ((u 42 3) - 1)) 42 3) * 690), .ref 44, .int 0]) (rest := []) (v := none) (w1 := (hp u1667 fL fD, c, z)) rfl rfl (Nat.le_of_ble_eq_true rfl) ((ev_M_copy_44_43 hf3981).deep (by decide)) ?_
    refine mg_Ev.go 3 (pc' := 48) (loc' := [some (.ref 43)]) (st' := [.int (u1667 42 3), .ref 43]) (w' := (hp u1667 fL fD, c, z)) rfl ?_
    obtain ⟨⟨v1668, u1669⟩, hf3982, h⟩ := Option.bind_eq_some_iff.mp h
    try dsimp only at h
    refine mg_Ev.call (y := 60) (as := [.ref 43, .int (u1667 42 3)]) (rest := []) (v := some (.int v1668)) (w1 := (hp u1669 fL fD, c, z)) rfl rfl (Nat.le_of_ble_eq_true rfl) ((ev_M_done hf3982).deep (by decide)) ?_
    cases h
    exact mg_Ev.fin rfl rfl rfl

def M_copy_43_45_L3 : Nat → Int32 → Int32 → Int32 → mg_Rg → Option (mg_Rg)
  | 0, _, _, _, _ => none
  | n + 1, x1, x3, x4, u =>
    if 690 ≤ x4 then
    some (u)
    else
    if (x1 + x4) < 0 ∨ 690 ≤ (x1 + x4).toNatClampNeg then none else
      if (x3 + x4) < 0 ∨ 690 ≤ (x3 + x4).toNatClampNeg then none else
      M_copy_43_45_L3 n x1 x3 (x4 + 1) (mg_up u 45 ((x3 + x4).toNatClampNeg) (u 43 ((x1 + x4).toNatClampNeg)))
set_option maxRecDepth 10000 in
set_option maxHeartbeats 4000000 in
theorem ev_M_copy_43_45_L3 {sc : mg_Sc} {c z : Nat} {fL : Nat → Int64} {fD : Nat → UInt64} : ∀ (n : Nat) (x1 : Int32) (x3 : Int32) (x4 : Int32) (u : mg_Rg) (res : mg_Rg), M_copy_43_45_L3 n x1 x3 x4 u = some res → ∀ r, (match res with | yu => mg_Ev sc 0 61 29 [none, none, none, none, none] [] (hp yu fL fD, c, z) r) → mg_Ev sc 0 61 3 [some (.ref 44), some (.int x1), some (.ref 46), some (.int x3), some (.int x4)] [] (hp u fL fD, c, z) r := by
  intro n
  induction n with
  | zero => intro x1 x3 x4 u res h; cases h
  | succ n ih =>
    intro x1 x3 x4 u res h r K
    unfold M_copy_43_45_L3 at h
    refine mg_Ev.go 2 (pc' := 8) (loc' := [some (.ref 44), some (.int x1), some (.ref 46), some (.int x3), some (.int x4)]) (st' := [.int 690, .int x4]) (w' := (hp u fL fD, c, z)) rfl ?_
    refine mg_Ev.br (P := 690 ≤ x4) (t := 29) (nx := 11) (st' := []) rfl rfl rfl rfl (fun hc3983 => ?_) (fun hc3983 => ?_)
    · rw [if_pos hc3983] at h
      cases h
      exact mg_Ev.more (loc := [none, none, none, none, none]) K trivial
    · rw [if_neg hc3983] at h
      refine mg_Ev.go 8 (pc' := 21) (loc' := [some (.ref 44), some (.int x1), some (.ref 46), some (.int x3), some (.int x4)]) (st' := [.int (x1 + x4), .ref 44, .int (x3 + x4), .ref 46]) (w' := (hp u fL fD, c, z)) rfl ?_
      by_cases hb3984 : (x1 + x4) < 0 ∨ 690 ≤ (x1 + x4).toNatClampNeg
      · rw [if_pos hb3984] at h
        cases h
      · rw [if_neg hb3984] at h
        refine mg_Ev.iald (a := 43) (n := 690) (f := u 43) rfl (hpg_43 _ _ _) rfl hb3984 ?_
        by_cases hb3985 : (x3 + x4) < 0 ∨ 690 ≤ (x3 + x4).toNatClampNeg
        · rw [if_pos hb3985] at h
          cases h
        · rw [if_neg hb3985] at h
          refine mg_Ev.iast (a := 45) (n := 690) rfl (hpg_45 _ _ _) rfl hb3985 (hpa_45 _ _ _ _ _ _ _) ?_
          refine mg_Ev.go 2 (pc' := 3) (loc' := [some (.ref 44), some (.int x1), some (.ref 46), some (.int x3), some (.int (x4 + 1))]) (st' := []) (w' := (hp (mg_up u 45 ((x3 + x4).toNatClampNeg) (u 43 ((x1 + x4).toNatClampNeg))) fL fD, c, z)) rfl ?_
          exact mg_Ev.more (loc := [some (.ref 44), some (.int x1), some (.ref 46), some (.int x3), some (.int (x4 + 1))]) (ih _ _ _ _ _ h _ K) ⟨rfl, ⟨rfl, ⟨rfl, ⟨rfl, ⟨rfl, trivial⟩⟩⟩⟩⟩

def M_copy_43_45 (a0 : Int32) (a1 : Int32) (u : mg_Rg) : Option (mg_Rg) :=
  (M_copy_43_45_L3 mg_F a0 a1 0 u).bind fun q3986 => match q3986 with
  | u1671 =>
    some u1671

set_option maxRecDepth 10000 in
set_option maxHeartbeats 4000000 in
theorem ev_M_copy_43_45 {sc : mg_Sc} {c z : Nat} {fL : Nat → Int64} {fD : Nat → UInt64} {a0 : Int32} {a1 : Int32} {u : mg_Rg} {v : mg_Rg} (h : M_copy_43_45 a0 a1 u = some v) : mg_Ev sc 0 61 0 (mg_entry 61 [.ref 44, .int a0, .ref 46, .int a1]) [] (hp u fL fD, c, z) (.inl none, (hp v fL fD, c, z)) := by
  unfold M_copy_43_45 at h
  show mg_Ev _ _ _ 0 [some (.ref 44), some (.int a0), some (.ref 46), some (.int a1), none] [] _ _
  refine mg_Ev.go 2 (pc' := 3) (loc' := [some (.ref 44), some (.int a0), some (.ref 46), some (.int a1), some (.int 0)]) (st' := []) (w' := (hp u fL fD, c, z)) rfl ?_
  obtain ⟨u1671, hl3987, h⟩ := Option.bind_eq_some_iff.mp h
  try dsimp only at h
  refine mg_Ev.more (loc := [some (.ref 44), some (.int a0), some (.ref 46), some (.int a1), some (.int 0)]) (ev_M_copy_43_45_L3 _ _ _ _ _ _ hl3987 _ ?_) ⟨rfl, ⟨rfl, ⟨rfl, ⟨rfl, ⟨rfl, trivial⟩⟩⟩⟩⟩
  show mg_Ev _ _ _ 29 [none, none, none, none, none] [] (hp u1671 fL fD, c, z) _
  cases h
  exact mg_Ev.fin rfl rfl rfl

def M_save (u : mg_Rg) : Option (Int32 × mg_Rg) :=
  (M_copy_43_45 0 0 u).bind fun u1672 =>
  (M_done ((mg_up u1672 42 5 1) 43 5) (mg_up u1672 42 5 1)).bind fun p1675 => match p1675 with
  | (v1673, u1674) =>
    some (v1673, u1674)

set_option maxRecDepth 10000 in
set_option maxHeartbeats 4000000 in
theorem ev_M_save {sc : mg_Sc} {c z : Nat} {fL : Nat → Int64} {fD : Nat → UInt64} {u : mg_Rg} {p : Int32 × mg_Rg} (h : M_save u = some p) : mg_Ev sc 1 139 0 (mg_entry 139 [.ref 43]) [] (hp u fL fD, c, z) (.inl (some (.int p.1)), (hp p.2 fL fD, c, z)) := by
  unfold M_save at h
  show mg_Ev _ _ _ 0 [some (.ref 43)] [] _ _
  refine mg_Ev.go 6 (pc' := 10) (loc' := [some (.ref 43)]) (st' := [.int 0, .ref 46, .int 0, .ref 44]) (w' := (hp u fL fD, c, z)) rfl ?_
  obtain ⟨u1672, hf3988, h⟩ := Option.bind_eq_some_iff.mp h
  refine mg_Ev.call (y := 61) (as := [.ref 44, .int 0, .ref 46, .int 0]) (rest := []) (v := none) (w1 := (hp u1672 fL fD, c, z)) rfl rfl (Nat.le_of_ble_eq_true rfl) ((ev_M_copy_43_45 hf3988).deep (by decide)) ?_
  refine mg_Ev.go 2 (pc' := 15) (loc' := [some (.ref 43)]) (st' := [.int 1, .ref 43]) (w' := (hp u1672 fL fD, c, z)) rfl ?_
  refine mg_Ev.put rfl (hpg_42 _ _ _) (Nat.le_of_ble_eq_true rfl) rfl (hpf_42_5 _ _ _ _ _ _) ?_
  refine mg_Ev.go 4 (pc' := 24) (loc' := [some (.ref 43)]) (st' := [.int 5, .ref 44, .ref 43]) (w' := (hp (mg_up u1672 42 5 1) fL fD, c, z)) rfl ?_
  refine mg_Ev.iald (a := 43) (n := 690) (f := (mg_up u1672 42 5 1) 43) (j := 5) rfl (hpg_43 _ _ _) (by decide) (by decide) ?_
  obtain ⟨⟨v1673, u1674⟩, hf3989, h⟩ := Option.bind_eq_some_iff.mp h
  try dsimp only at h
  refine mg_Ev.call (y := 60) (as := [.ref 43, .int ((mg_up u1672 42 5 1) 43 5)]) (rest := []) (v := some (.int v1673)) (w1 := (hp u1674 fL fD, c, z)) rfl rfl (Nat.le_of_ble_eq_true rfl) ((ev_M_done hf3989).deep (by decide)) ?_
  cases h
  exact mg_Ev.fin rfl rfl rfl

def M_copy_45_43_L3 : Nat → Int32 → Int32 → Int32 → mg_Rg → Option (mg_Rg)
  | 0, _, _, _, _ => none
  | n + 1, x1, x3, x4, u =>
    if 690 ≤ x4 then
    some (u)
    else
    if (x1 + x4) < 0 ∨ 690 ≤ (x1 + x4).toNatClampNeg then none else
      if (x3 + x4) < 0 ∨ 690 ≤ (x3 + x4).toNatClampNeg then none else
      M_copy_45_43_L3 n x1 x3 (x4 + 1) (mg_up u 43 ((x3 + x4).toNatClampNeg) (u 45 ((x1 + x4).toNatClampNeg)))
set_option maxRecDepth 10000 in
set_option maxHeartbeats 4000000 in
theorem ev_M_copy_45_43_L3 {sc : mg_Sc} {c z : Nat} {fL : Nat → Int64} {fD : Nat → UInt64} : ∀ (n : Nat) (x1 : Int32) (x3 : Int32) (x4 : Int32) (u : mg_Rg) (res : mg_Rg), M_copy_45_43_L3 n x1 x3 x4 u = some res → ∀ r, (match res with | yu => mg_Ev sc 0 61 29 [none, none, none, none, none] [] (hp yu fL fD, c, z) r) → mg_Ev sc 0 61 3 [some (.ref 46), some (.int x1), some (.ref 44), some (.int x3), some (.int x4)] [] (hp u fL fD, c, z) r := by
  intro n
  induction n with
  | zero => intro x1 x3 x4 u res h; cases h
  | succ n ih =>
    intro x1 x3 x4 u res h r K
    unfold M_copy_45_43_L3 at h
    refine mg_Ev.go 2 (pc' := 8) (loc' := [some (.ref 46), some (.int x1), some (.ref 44), some (.int x3), some (.int x4)]) (st' := [.int 690, .int x4]) (w' := (hp u fL fD, c, z)) rfl ?_
    refine mg_Ev.br (P := 690 ≤ x4) (t := 29) (nx := 11) (st' := []) rfl rfl rfl rfl (fun hc3990 => ?_) (fun hc3990 => ?_)
    · rw [if_pos hc3990] at h
      cases h
      exact mg_Ev.more (loc := [none, none, none, none, none]) K trivial
    · rw [if_neg hc3990] at h
      refine mg_Ev.go 8 (pc' := 21) (loc' := [some (.ref 46), some (.int x1), some (.ref 44), some (.int x3), some (.int x4)]) (st' := [.int (x1 + x4), .ref 46, .int (x3 + x4), .ref 44]) (w' := (hp u fL fD, c, z)) rfl ?_
      by_cases hb3991 : (x1 + x4) < 0 ∨ 690 ≤ (x1 + x4).toNatClampNeg
      · rw [if_pos hb3991] at h
        cases h
      · rw [if_neg hb3991] at h
        refine mg_Ev.iald (a := 45) (n := 690) (f := u 45) rfl (hpg_45 _ _ _) rfl hb3991 ?_
        by_cases hb3992 : (x3 + x4) < 0 ∨ 690 ≤ (x3 + x4).toNatClampNeg
        · rw [if_pos hb3992] at h
          cases h
        · rw [if_neg hb3992] at h
          refine mg_Ev.iast (a := 43) (n := 690) rfl (hpg_43 _ _ _) rfl hb3992 (hpa_43 _ _ _ _ _ _ _) ?_
          refine mg_Ev.go 2 (pc' := 3) (loc' := [some (.ref 46), some (.int x1), some (.ref 44), some (.int x3), some (.int (x4 + 1))]) (st' := []) (w' := (hp (mg_up u 43 ((x3 + x4).toNatClampNeg) (u 45 ((x1 + x4).toNatClampNeg))) fL fD, c, z)) rfl ?_
          exact mg_Ev.more (loc := [some (.ref 46), some (.int x1), some (.ref 44), some (.int x3), some (.int (x4 + 1))]) (ih _ _ _ _ _ h _ K) ⟨rfl, ⟨rfl, ⟨rfl, ⟨rfl, ⟨rfl, trivial⟩⟩⟩⟩⟩

def M_copy_45_43 (a0 : Int32) (a1 : Int32) (u : mg_Rg) : Option (mg_Rg) :=
  (M_copy_45_43_L3 mg_F a0 a1 0 u).bind fun q3993 => match q3993 with
  | u1680 =>
    some u1680

set_option maxRecDepth 10000 in
set_option maxHeartbeats 4000000 in
theorem ev_M_copy_45_43 {sc : mg_Sc} {c z : Nat} {fL : Nat → Int64} {fD : Nat → UInt64} {a0 : Int32} {a1 : Int32} {u : mg_Rg} {v : mg_Rg} (h : M_copy_45_43 a0 a1 u = some v) : mg_Ev sc 0 61 0 (mg_entry 61 [.ref 46, .int a0, .ref 44, .int a1]) [] (hp u fL fD, c, z) (.inl none, (hp v fL fD, c, z)) := by
  unfold M_copy_45_43 at h
  show mg_Ev _ _ _ 0 [some (.ref 46), some (.int a0), some (.ref 44), some (.int a1), none] [] _ _
  refine mg_Ev.go 2 (pc' := 3) (loc' := [some (.ref 46), some (.int a0), some (.ref 44), some (.int a1), some (.int 0)]) (st' := []) (w' := (hp u fL fD, c, z)) rfl ?_
  obtain ⟨u1680, hl3994, h⟩ := Option.bind_eq_some_iff.mp h
  try dsimp only at h
  refine mg_Ev.more (loc := [some (.ref 46), some (.int a0), some (.ref 44), some (.int a1), some (.int 0)]) (ev_M_copy_45_43_L3 _ _ _ _ _ _ hl3994 _ ?_) ⟨rfl, ⟨rfl, ⟨rfl, ⟨rfl, ⟨rfl, trivial⟩⟩⟩⟩⟩
  show mg_Ev _ _ _ 29 [none, none, none, none, none] [] (hp u1680 fL fD, c, z) _
  cases h
  exact mg_Ev.fin rfl rfl rfl

def M_restore (u : mg_Rg) : Option (Int32 × mg_Rg) :=
  if (u 42 5) = 0 then
  (M_fails 1 u).bind fun p1678 => match p1678 with
    | (v1676, u1677) =>
      some (v1676, u1677)
  else
  (M_remembers u).bind fun u1679 =>
    (M_copy_45_43 0 0 u1679).bind fun u1681 =>
    (M_done (u1681 43 5) u1681).bind fun p1684 => match p1684 with
    | (v1682, u1683) =>
      some (v1682, u1683)

set_option maxRecDepth 10000 in
set_option maxHeartbeats 4000000 in
theorem ev_M_restore {sc : mg_Sc} {c z : Nat} {fL : Nat → Int64} {fD : Nat → UInt64} {u : mg_Rg} {p : Int32 × mg_Rg} (h : M_restore u = some p) : mg_Ev sc 3 140 0 (mg_entry 140 [.ref 43]) [] (hp u fL fD, c, z) (.inl (some (.int p.1)), (hp p.2 fL fD, c, z)) := by
  unfold M_restore at h
  show mg_Ev _ _ _ 0 [some (.ref 43)] [] _ _
  refine mg_Ev.go 2 (pc' := 4) (loc' := [some (.ref 43)]) (st' := [.int (u 42 5)]) (w' := (hp u fL fD, c, z)) rfl ?_
  refine mg_Ev.br (P := (u 42 5) = 0) (t := 7) (nx := 13) (st' := []) rfl rfl rfl rfl (fun hc3995 => ?_) (fun hc3995 => ?_)
  · rw [if_pos hc3995] at h
    refine mg_Ev.go 2 (pc' := 9) (loc' := [some (.ref 43)]) (st' := [.int 1, .ref 43]) (w' := (hp u fL fD, c, z)) rfl ?_
    obtain ⟨⟨v1676, u1677⟩, hf3996, h⟩ := Option.bind_eq_some_iff.mp h
    try dsimp only at h
    refine mg_Ev.call (y := 59) (as := [.ref 43, .int 1]) (rest := []) (v := some (.int v1676)) (w1 := (hp u1677 fL fD, c, z)) rfl rfl (Nat.le_of_ble_eq_true rfl) ((ev_M_fails hf3996).deep (by decide)) ?_
    cases h
    exact mg_Ev.fin rfl rfl rfl
  · rw [if_neg hc3995] at h
    refine mg_Ev.go 1 (pc' := 14) (loc' := [some (.ref 43)]) (st' := [.ref 43]) (w' := (hp u fL fD, c, z)) rfl ?_
    obtain ⟨u1679, hf3997, h⟩ := Option.bind_eq_some_iff.mp h
    refine mg_Ev.call (y := 63) (as := [.ref 43]) (rest := []) (v := none) (w1 := (hp u1679 fL fD, c, z)) rfl rfl (Nat.le_of_ble_eq_true rfl) ((ev_M_remembers hf3997).deep (by decide)) ?_
    refine mg_Ev.go 6 (pc' := 27) (loc' := [some (.ref 43)]) (st' := [.int 0, .ref 44, .int 0, .ref 46]) (w' := (hp u1679 fL fD, c, z)) rfl ?_
    obtain ⟨u1681, hf3998, h⟩ := Option.bind_eq_some_iff.mp h
    refine mg_Ev.call (y := 61) (as := [.ref 46, .int 0, .ref 44, .int 0]) (rest := []) (v := none) (w1 := (hp u1681 fL fD, c, z)) rfl rfl (Nat.le_of_ble_eq_true rfl) ((ev_M_copy_45_43 hf3998).deep (by decide)) ?_
    refine mg_Ev.go 4 (pc' := 36) (loc' := [some (.ref 43)]) (st' := [.int 5, .ref 44, .ref 43]) (w' := (hp u1681 fL fD, c, z)) rfl ?_
    refine mg_Ev.iald (a := 43) (n := 690) (f := u1681 43) (j := 5) rfl (hpg_43 _ _ _) (by decide) (by decide) ?_
    obtain ⟨⟨v1682, u1683⟩, hf3999, h⟩ := Option.bind_eq_some_iff.mp h
    try dsimp only at h
    refine mg_Ev.call (y := 60) (as := [.ref 43, .int (u1681 43 5)]) (rest := []) (v := some (.int v1682)) (w1 := (hp u1683 fL fD, c, z)) rfl rfl (Nat.le_of_ble_eq_true rfl) ((ev_M_done hf3999).deep (by decide)) ?_
    cases h
    exact mg_Ev.fin rfl rfl rfl

