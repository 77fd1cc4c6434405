def C_rate (a0 : Int32) (a1 : Int32) (u : mg_Rg) : Option ((Int32 ⊕ Nat) × mg_Rg) :=
  (C_requireHeading a0 u).bind fun p60 => match p60 with
  | (.inr ee, u62) => some (.inr ee, u62)
  | (.inl _, u62) =>
    (C_isWithin a1 (-1) 1000 u62).bind fun v63 =>
    if v63 = 0 then
    some (.inr 1, u62)
    else
    (C_keepForUndo u62).bind fun u64 =>
      (T_get_3 a0 2 u64).bind fun v65 =>
      (T_put_3 a0 2 a1 u64).bind fun u66 =>
      some (.inl v65, u66)

set_option maxRecDepth 10000 in
set_option maxHeartbeats 4000000 in
theorem ev_C_rate {sc : mg_Sc} {c z : Nat} {fL : Nat → Int64} {fD : Nat → UInt64} {a0 : Int32} {a1 : Int32} {u : mg_Rg} {p : (Int32 ⊕ Nat) × mg_Rg} (h : C_rate a0 a1 u = some p) : mg_Ev sc 6 2 0 (mg_entry 2 [.ref 1, .int a0, .int a1]) [] (hp u fL fD, c, z) (xri p.1, xw p.1 (hp p.2 fL fD) c z) := by
  unfold C_rate at h
  show mg_Ev _ _ _ 0 [some (.ref 1), some (.int a0), some (.int a1), none] [] _ _
  refine mg_Ev.go 2 (pc' := 2) (loc' := [some (.ref 1), some (.int a0), some (.int a1), none]) (st' := [.int a0, .ref 1]) (w' := (hp u fL fD, c, z)) rfl ?_
  obtain ⟨⟨⟨⟩ | ee, u62⟩, hf1826, h⟩ := Option.bind_eq_some_iff.mp h
  · try dsimp only at h
    refine mg_Ev.call (y := 41) (as := [.ref 1, .int a0]) (rest := []) (v := none) (w1 := (hp u62 fL fD, c, z)) rfl rfl (Nat.le_of_ble_eq_true rfl) ((ev_C_requireHeading hf1826).deep (by decide)) ?_
    refine mg_Ev.go 3 (pc' := 10) (loc' := [some (.ref 1), some (.int a0), some (.int a1), none]) (st' := [.int 1000, .int (-1), .int a1]) (w' := (hp u62 fL fD, c, z)) rfl ?_
    obtain ⟨v63, hf1827, h⟩ := Option.bind_eq_some_iff.mp h
    refine mg_Ev.call (y := 54) (as := [.int a1, .int (-1), .int 1000]) (rest := []) (v := some (.int v63)) (w1 := (hp u62 fL fD, c, z)) rfl rfl (Nat.le_of_ble_eq_true rfl) ((ev_C_isWithin hf1827).deep (by decide)) ?_
    refine mg_Ev.br (P := v63 = 0) (t := 16) (nx := 26) (st' := []) rfl rfl rfl rfl (fun hc1828 => ?_) (fun hc1828 => ?_)
    · rw [if_pos hc1828] at h
      cases h
      exact mg_Ev.fin rfl rfl rfl
    · rw [if_neg hc1828] at h
      refine mg_Ev.go 1 (pc' := 27) (loc' := [some (.ref 1), some (.int a0), some (.int a1), none]) (st' := [.ref 1]) (w' := (hp u62 fL fD, c, z)) rfl ?_
      obtain ⟨u64, hf1829, h⟩ := Option.bind_eq_some_iff.mp h
      refine mg_Ev.call (y := 38) (as := [.ref 1]) (rest := []) (v := none) (w1 := (hp u64 fL fD, c, z)) rfl rfl (Nat.le_of_ble_eq_true rfl) ((ev_C_keepForUndo hf1829).deep (by decide)) ?_
      refine mg_Ev.go 5 (pc' := 39) (loc' := [some (.ref 1), some (.int a0), some (.int a1), none]) (st' := [.int 2, .int a0, .ref 4]) (w' := (hp u64 fL fD, c, z)) rfl ?_
      obtain ⟨v65, hf1830, h⟩ := Option.bind_eq_some_iff.mp h
      refine mg_Ev.call (y := 184) (as := [.ref 4, .int a0, .int 2]) (rest := []) (v := some (.int v65)) (w1 := (hp u64 fL fD, c, z)) rfl rfl (Nat.le_of_ble_eq_true rfl) ((ev_T_get_3 hf1830).deep (by decide)) ?_
      refine mg_Ev.go 7 (pc' := 53) (loc' := [some (.ref 1), some (.int a0), some (.int a1), some (.int v65)]) (st' := [.int a1, .int 2, .int a0, .ref 4]) (w' := (hp u64 fL fD, c, z)) rfl ?_
      obtain ⟨u66, hf1831, h⟩ := Option.bind_eq_some_iff.mp h
      refine mg_Ev.call (y := 185) (as := [.ref 4, .int a0, .int 2, .int a1]) (rest := []) (v := none) (w1 := (hp u66 fL fD, c, z)) rfl rfl (Nat.le_of_ble_eq_true rfl) ((ev_T_put_3 hf1831).deep (by decide)) ?_
      refine mg_Ev.go 1 (pc' := 57) (loc' := [some (.ref 1), some (.int a0), some (.int a1), some (.int v65)]) (st' := [.int v65]) (w' := (hp u66 fL fD, c, z)) rfl ?_
      cases h
      exact mg_Ev.fin rfl rfl rfl
  · cases h
    exact mg_Ev.callX (y := 41) (as := [.ref 1, .int a0]) (rest := []) rfl rfl (Nat.le_of_ble_eq_true rfl) ((ev_C_requireHeading hf1826).deep (by decide)) rfl

def Tf_rateOfHeading_L4 : Nat → Int32 → Int32 → mg_Rg → Option ((Unit) ⊕ (Int32))
  | 0, _, _, _ => none
  | n + 1, x2, x3, u =>
    if x2 = (-1) then
    some (.inl ())
    else
    if 4 ≤ x3 then
      some (.inl ())
      else
      (T_get_3 x2 2 u).bind fun v73 =>
        if v73 = (-1) then
        (T_get_3 x2 0 u).bind fun v74 =>
          Tf_rateOfHeading_L4 n v74 (x3 + 1) u
        else
        some (.inr v73)
set_option maxRecDepth 10000 in
set_option maxHeartbeats 4000000 in
theorem ev_Tf_rateOfHeading_L4 {sc : mg_Sc} {c z : Nat} {fL : Nat → Int64} {fD : Nat → UInt64} : ∀ (n : Nat) (x2 : Int32) (x3 : Int32) (u : mg_Rg) (res : (Unit) ⊕ (Int32)), Tf_rateOfHeading_L4 n x2 x3 u = some res → ∀ r, (match res with | .inl _ => mg_Ev sc 1 202 50 [none, none, none, none, none] [] (hp u fL fD, c, z) r | .inr rv => r = (.inl (some (.int rv)), (hp u fL fD, c, z))) → mg_Ev sc 1 202 4 [some (.ref 3), none, some (.int x2), some (.int x3), none] [] (hp u fL fD, c, z) r := by
  intro n
  induction n with
  | zero => intro x2 x3 u res h; cases h
  | succ n ih =>
    intro x2 x3 u res h r K
    unfold Tf_rateOfHeading_L4 at h
    refine mg_Ev.go 2 (pc' := 6) (loc' := [some (.ref 3), none, some (.int x2), some (.int x3), none]) (st' := [.int (-1), .int x2]) (w' := (hp u fL fD, c, z)) rfl ?_
    refine mg_Ev.br (P := x2 = (-1)) (t := 50) (nx := 9) (st' := []) rfl rfl rfl rfl (fun hc1832 => ?_) (fun hc1832 => ?_)
    · rw [if_pos hc1832] at h
      cases h
      exact mg_Ev.more (loc := [none, none, none, none, none]) K trivial
    · rw [if_neg hc1832] at h
      refine mg_Ev.go 2 (pc' := 11) (loc' := [some (.ref 3), none, some (.int x2), some (.int x3), none]) (st' := [.int 4, .int x3]) (w' := (hp u fL fD, c, z)) rfl ?_
      refine mg_Ev.br (P := 4 ≤ x3) (t := 50) (nx := 14) (st' := []) rfl rfl rfl rfl (fun hc1833 => ?_) (fun hc1833 => ?_)
      · rw [if_pos hc1833] at h
        cases h
        exact mg_Ev.more (loc := [none, none, none, none, none]) K trivial
      · rw [if_neg hc1833] at h
        refine mg_Ev.go 4 (pc' := 20) (loc' := [some (.ref 3), none, some (.int x2), some (.int x3), none]) (st' := [.int 2, .int x2, .ref 4]) (w' := (hp u fL fD, c, z)) rfl ?_
        obtain ⟨v73, hf1834, h⟩ := Option.bind_eq_some_iff.mp h
        refine mg_Ev.call (y := 184) (as := [.ref 4, .int x2, .int 2]) (rest := []) (v := some (.int v73)) (w1 := (hp u fL fD, c, z)) rfl rfl (Nat.le_of_ble_eq_true rfl) ((ev_T_get_3 hf1834).deep (by decide)) ?_
        refine mg_Ev.go 3 (pc' := 28) (loc' := [some (.ref 3), none, some (.int x2), some (.int x3), some (.int v73)]) (st' := [.int (-1), .int v73]) (w' := (hp u fL fD, c, z)) rfl ?_
        refine mg_Ev.br (P := v73 = (-1)) (t := 34) (nx := 31) (st' := []) rfl rfl rfl rfl (fun hc1835 => ?_) (fun hc1835 => ?_)
        · rw [if_pos hc1835] at h
          refine mg_Ev.go 4 (pc' := 40) (loc' := [some (.ref 3), none, some (.int x2), some (.int x3), some (.int v73)]) (st' := [.int 0, .int x2, .ref 4]) (w' := (hp u fL fD, c, z)) rfl ?_
          obtain ⟨v74, hf1836, h⟩ := Option.bind_eq_some_iff.mp h
          refine mg_Ev.call (y := 184) (as := [.ref 4, .int x2, .int 0]) (rest := []) (v := some (.int v74)) (w1 := (hp u fL fD, c, z)) rfl rfl (Nat.le_of_ble_eq_true rfl) ((ev_T_get_3 hf1836).deep (by decide)) ?_
          refine mg_Ev.go 3 (pc' := 4) (loc' := [some (.ref 3), none, some (.int v74), some (.int (x3 + 1)), some (.int v73)]) (st' := []) (w' := (hp u fL fD, c, z)) rfl ?_
          exact mg_Ev.more (loc := [some (.ref 3), none, some (.int v74), some (.int (x3 + 1)), none]) (ih _ _ _ _ h _ K) ⟨rfl, ⟨rfl, ⟨rfl, trivial⟩⟩⟩
        · rw [if_neg hc1835] at h
          refine mg_Ev.go 1 (pc' := 33) (loc' := [some (.ref 3), none, some (.int x2), some (.int x3), some (.int v73)]) (st' := [.int v73]) (w' := (hp u fL fD, c, z)) rfl ?_
          cases h
          cases K
          exact mg_Ev.fin rfl rfl rfl

def Tf_rateOfHeading (a0 : Int32) (u : mg_Rg) : Option (Int32) :=
  (Tf_rateOfHeading_L4 mg_F a0 0 u).bind fun q1837 => match q1837 with
  | .inl _ =>
    some 0
  | .inr v75 =>
    some v75

set_option maxRecDepth 10000 in
set_option maxHeartbeats 4000000 in
theorem ev_Tf_rateOfHeading {sc : mg_Sc} {c z : Nat} {fL : Nat → Int64} {fD : Nat → UInt64} {a0 : Int32} {u : mg_Rg} {v : Int32} (h : Tf_rateOfHeading a0 u = some v) : mg_Ev sc 1 202 0 (mg_entry 202 [.ref 3, .int a0]) [] (hp u fL fD, c, z) (.inl (some (.int v)), (hp u fL fD, c, z)) := by
  unfold Tf_rateOfHeading at h
  show mg_Ev _ _ _ 0 [some (.ref 3), some (.int a0), none, none, none] [] _ _
  refine mg_Ev.go 4 (pc' := 4) (loc' := [some (.ref 3), some (.int a0), some (.int a0), some (.int 0), none]) (st' := []) (w' := (hp u fL fD, c, z)) rfl ?_
  obtain ⟨(⟨⟩ | v75), hl1838, h⟩ := Option.bind_eq_some_iff.mp h
  · try dsimp only at h
    refine mg_Ev.more (loc := [some (.ref 3), none, some (.int a0), some (.int 0), none]) (ev_Tf_rateOfHeading_L4 _ _ _ _ _ hl1838 _ ?_) ⟨rfl, ⟨rfl, ⟨rfl, trivial⟩⟩⟩
    show mg_Ev _ _ _ 50 [none, none, none, none, none] [] (hp u fL fD, c, z) _
    refine mg_Ev.go 1 (pc' := 51) (loc' := [none, none, none, none, none]) (st' := [.int 0]) (w' := (hp u fL fD, c, z)) rfl ?_
    cases h
    exact mg_Ev.fin rfl rfl rfl
  · try dsimp only at h
    cases h
    refine mg_Ev.more (loc := [some (.ref 3), none, some (.int a0), some (.int 0), none]) (ev_Tf_rateOfHeading_L4 _ _ _ _ _ hl1838 _ ?_) ⟨rfl, ⟨rfl, ⟨rfl, trivial⟩⟩⟩
    rfl

def Tf_childrenOf_L4 : Nat → Int32 → Int32 → Int32 → mg_Rg → Option (Int32)
  | 0, _, _, _, _ => none
  | n + 1, x1, x2, x3, u =>
    (T_count_3 u).bind fun v78 =>
    if v78 ≤ x3 then
    some (x2)
    else
    (T_get_3 x3 0 u).bind fun v79 =>
      if v79 = x1 then
      Tf_childrenOf_L4 n x1 (x2 + 1) (x3 + 1) u
      else
      Tf_childrenOf_L4 n x1 x2 (x3 + 1) u
set_option maxRecDepth 10000 in
set_option maxHeartbeats 4000000 in
theorem ev_Tf_childrenOf_L4 {sc : mg_Sc} {c z : Nat} {fL : Nat → Int64} {fD : Nat → UInt64} : ∀ (n : Nat) (x1 : Int32) (x2 : Int32) (x3 : Int32) (u : mg_Rg) (res : Int32), Tf_childrenOf_L4 n x1 x2 x3 u = some res → ∀ r, (match res with | y2 => mg_Ev sc 1 200 37 [none, none, some (.int y2), none] [] (hp u fL fD, c, z) r) → mg_Ev sc 1 200 4 [some (.ref 3), some (.int x1), some (.int x2), some (.int x3)] [] (hp u fL fD, c, z) r := by
  intro n
  induction n with
  | zero => intro x1 x2 x3 u res h; cases h
  | succ n ih =>
    intro x1 x2 x3 u res h r K
    unfold Tf_childrenOf_L4 at h
    refine mg_Ev.go 3 (pc' := 9) (loc' := [some (.ref 3), some (.int x1), some (.int x2), some (.int x3)]) (st' := [.ref 4, .int x3]) (w' := (hp u fL fD, c, z)) rfl ?_
    obtain ⟨v78, hf1839, h⟩ := Option.bind_eq_some_iff.mp h
    refine mg_Ev.call (y := 181) (as := [.ref 4]) (rest := [.int x3]) (v := some (.int v78)) (w1 := (hp u fL fD, c, z)) rfl rfl (Nat.le_of_ble_eq_true rfl) ((ev_T_count_3 hf1839).deep (by decide)) ?_
    refine mg_Ev.br (P := v78 ≤ x3) (t := 37) (nx := 15) (st' := []) rfl rfl rfl rfl (fun hc1840 => ?_) (fun hc1840 => ?_)
    · rw [if_pos hc1840] at h
      cases h
      exact mg_Ev.more (loc := [none, none, some (.int x2), none]) K ⟨rfl, trivial⟩
    · rw [if_neg hc1840] at h
      refine mg_Ev.go 4 (pc' := 21) (loc' := [some (.ref 3), some (.int x1), some (.int x2), some (.int x3)]) (st' := [.int 0, .int x3, .ref 4]) (w' := (hp u fL fD, c, z)) rfl ?_
      obtain ⟨v79, hf1841, h⟩ := Option.bind_eq_some_iff.mp h
      refine mg_Ev.call (y := 184) (as := [.ref 4, .int x3, .int 0]) (rest := []) (v := some (.int v79)) (w1 := (hp u fL fD, c, z)) rfl rfl (Nat.le_of_ble_eq_true rfl) ((ev_T_get_3 hf1841).deep (by decide)) ?_
      refine mg_Ev.go 1 (pc' := 25) (loc' := [some (.ref 3), some (.int x1), some (.int x2), some (.int x3)]) (st' := [.int x1, .int v79]) (w' := (hp u fL fD, c, z)) rfl ?_
      refine mg_Ev.br (P := v79 = x1) (t := 28) (nx := 31) (st' := []) rfl rfl rfl rfl (fun hc1842 => ?_) (fun hc1842 => ?_)
      · rw [if_pos hc1842] at h
        refine mg_Ev.go 3 (pc' := 4) (loc' := [some (.ref 3), some (.int x1), some (.int (x2 + 1)), some (.int (x3 + 1))]) (st' := []) (w' := (hp u fL fD, c, z)) rfl ?_
        exact mg_Ev.more (loc := [some (.ref 3), some (.int x1), some (.int (x2 + 1)), some (.int (x3 + 1))]) (ih _ _ _ _ _ h _ K) ⟨rfl, ⟨rfl, ⟨rfl, ⟨rfl, trivial⟩⟩⟩⟩
      · rw [if_neg hc1842] at h
        refine mg_Ev.go 2 (pc' := 4) (loc' := [some (.ref 3), some (.int x1), some (.int x2), some (.int (x3 + 1))]) (st' := []) (w' := (hp u fL fD, c, z)) rfl ?_
        exact mg_Ev.more (loc := [some (.ref 3), some (.int x1), some (.int x2), some (.int (x3 + 1))]) (ih _ _ _ _ _ h _ K) ⟨rfl, ⟨rfl, ⟨rfl, ⟨rfl, trivial⟩⟩⟩⟩

def Tf_childrenOf (a0 : Int32) (u : mg_Rg) : Option (Int32) :=
  (Tf_childrenOf_L4 mg_F a0 0 0 u).bind fun q1843 => match q1843 with
  | x80 =>
    some x80

set_option maxRecDepth 10000 in
set_option maxHeartbeats 4000000 in
theorem ev_Tf_childrenOf {sc : mg_Sc} {c z : Nat} {fL : Nat → Int64} {fD : Nat → UInt64} {a0 : Int32} {u : mg_Rg} {v : Int32} (h : Tf_childrenOf a0 u = some v) : mg_Ev sc 1 200 0 (mg_entry 200 [.ref 3, .int a0]) [] (hp u fL fD, c, z) (.inl (some (.int v)), (hp u fL fD, c, z)) := by
  unfold Tf_childrenOf at h
  show mg_Ev _ _ _ 0 [some (.ref 3), some (.int a0), none, none] [] _ _
  refine mg_Ev.go 4 (pc' := 4) (loc' := [some (.ref 3), some (.int a0), some (.int 0), some (.int 0)]) (st' := []) (w' := (hp u fL fD, c, z)) rfl ?_
  obtain ⟨x80, hl1844, h⟩ := Option.bind_eq_some_iff.mp h
  try dsimp only at h
  refine mg_Ev.more (loc := [some (.ref 3), some (.int a0), some (.int 0), some (.int 0)]) (ev_Tf_childrenOf_L4 _ _ _ _ _ _ hl1844 _ ?_) ⟨rfl, ⟨rfl, ⟨rfl, ⟨rfl, trivial⟩⟩⟩⟩
  show mg_Ev _ _ _ 37 [none, none, some (.int x80), none] [] (hp u fL fD, c, z) _
  refine mg_Ev.go 1 (pc' := 38) (loc' := [none, none, some (.int x80), none]) (st' := [.int x80]) (w' := (hp u fL fD, c, z)) rfl ?_
  cases h
  exact mg_Ev.fin rfl rfl rfl

def Tf_codeOf_L10 : Nat → Int32 → Int32 → Int32 → Int32 → mg_Rg → Option (Int32)
  | 0, _, _, _, _, _ => none
  | n + 1, x2, x3, x4, x5, u =>
    if x4 = (-1) then
    some (x2)
    else
    if 4 ≤ x5 then
      some (x2)
      else
      (T_get_3 x4 1 u).bind fun v83 =>
        (T_get_3 x4 0 u).bind fun v84 =>
        Tf_codeOf_L10 n (x2 + (x3 * v83)) (x3 * 10) v84 (x5 + 1) u
set_option maxRecDepth 10000 in
set_option maxHeartbeats 4000000 in
theorem ev_Tf_codeOf_L10 {sc : mg_Sc} {c z : Nat} {fL : Nat → Int64} {fD : Nat → UInt64} : ∀ (n : Nat) (x2 : Int32) (x3 : Int32) (x4 : Int32) (x5 : Int32) (u : mg_Rg) (res : Int32), Tf_codeOf_L10 n x2 x3 x4 x5 u = some res → ∀ r, (match res with | y2 => mg_Ev sc 1 198 60 [none, none, some (.int y2), none, none, none] [] (hp u fL fD, c, z) r) → mg_Ev sc 1 198 10 [some (.ref 3), none, some (.int x2), some (.int x3), some (.int x4), some (.int x5)] [] (hp u fL fD, c, z) r := by
  intro n
  induction n with
  | zero => intro x2 x3 x4 x5 u res h; cases h
  | succ n ih =>
    intro x2 x3 x4 x5 u res h r K
    unfold Tf_codeOf_L10 at h
    refine mg_Ev.go 2 (pc' := 13) (loc' := [some (.ref 3), none, some (.int x2), some (.int x3), some (.int x4), some (.int x5)]) (st' := [.int (-1), .int x4]) (w' := (hp u fL fD, c, z)) rfl ?_
    refine mg_Ev.br (P := x4 = (-1)) (t := 60) (nx := 16) (st' := []) rfl rfl rfl rfl (fun hc1845 => ?_) (fun hc1845 => ?_)
    · rw [if_pos hc1845] at h
      cases h
      exact mg_Ev.more (loc := [none, none, some (.int x2), none, none, none]) K ⟨rfl, trivial⟩
    · rw [if_neg hc1845] at h
      refine mg_Ev.go 2 (pc' := 19) (loc' := [some (.ref 3), none, some (.int x2), some (.int x3), some (.int x4), some (.int x5)]) (st' := [.int 4, .int x5]) (w' := (hp u fL fD, c, z)) rfl ?_
      refine mg_Ev.br (P := 4 ≤ x5) (t := 60) (nx := 22) (st' := []) rfl rfl rfl rfl (fun hc1846 => ?_) (fun hc1846 => ?_)
      · rw [if_pos hc1846] at h
        cases h
        exact mg_Ev.more (loc := [none, none, some (.int x2), none, none, none]) K ⟨rfl, trivial⟩
      · rw [if_neg hc1846] at h
        refine mg_Ev.go 6 (pc' := 31) (loc' := [some (.ref 3), none, some (.int x2), some (.int x3), some (.int x4), some (.int x5)]) (st' := [.int 1, .int x4, .ref 4, .int x3, .int x2]) (w' := (hp u fL fD, c, z)) rfl ?_
        obtain ⟨v83, hf1847, h⟩ := Option.bind_eq_some_iff.mp h
        refine mg_Ev.call (y := 184) (as := [.ref 4, .int x4, .int 1]) (rest := [.int x3, .int x2]) (v := some (.int v83)) (w1 := (hp u fL fD, c, z)) rfl rfl (Nat.le_of_ble_eq_true rfl) ((ev_T_get_3 hf1847).deep (by decide)) ?_
        refine mg_Ev.go 10 (pc' := 48) (loc' := [some (.ref 3), none, some (.int (x2 + (x3 * v83))), some (.int (x3 * 10)), some (.int x4), some (.int x5)]) (st' := [.int x4, .ref 4]) (w' := (hp u fL fD, c, z)) rfl ?_
        refine mg_Ev.go 1 (pc' := 49) (loc' := [some (.ref 3), none, some (.int (x2 + (x3 * v83))), some (.int (x3 * 10)), some (.int x4), some (.int x5)]) (st' := [.int 0, .int x4, .ref 4]) (w' := (hp u fL fD, c, z)) rfl ?_
        obtain ⟨v84, hf1848, h⟩ := Option.bind_eq_some_iff.mp h
        refine mg_Ev.call (y := 184) (as := [.ref 4, .int x4, .int 0]) (rest := []) (v := some (.int v84)) (w1 := (hp u fL fD, c, z)) rfl rfl (Nat.le_of_ble_eq_true rfl) ((ev_T_get_3 hf1848).deep (by decide)) ?_
        refine mg_Ev.go 3 (pc' := 10) (loc' := [some (.ref 3), none, some (.int (x2 + (x3 * v83))), some (.int (x3 * 10)), some (.int v84), some (.int (x5 + 1))]) (st' := []) (w' := (hp u fL fD, c, z)) rfl ?_
        exact mg_Ev.more (loc := [some (.ref 3), none, some (.int (x2 + (x3 * v83))), some (.int (x3 * 10)), some (.int v84), some (.int (x5 + 1))]) (ih _ _ _ _ _ _ h _ K) ⟨rfl, ⟨rfl, ⟨rfl, ⟨rfl, ⟨rfl, trivial⟩⟩⟩⟩⟩

def Tf_codeOf (a0 : Int32) (u : mg_Rg) : Option (Int32) :=
  (Tf_codeOf_L10 mg_F 0 1 a0 0 u).bind fun q1849 => match q1849 with
  | x85 =>
    some x85

set_option maxRecDepth 10000 in
set_option maxHeartbeats 4000000 in
theorem ev_Tf_codeOf {sc : mg_Sc} {c z : Nat} {fL : Nat → Int64} {fD : Nat → UInt64} {a0 : Int32} {u : mg_Rg} {v : Int32} (h : Tf_codeOf a0 u = some v) : mg_Ev sc 1 198 0 (mg_entry 198 [.ref 3, .int a0]) [] (hp u fL fD, c, z) (.inl (some (.int v)), (hp u fL fD, c, z)) := by
  unfold Tf_codeOf at h
  show mg_Ev _ _ _ 0 [some (.ref 3), some (.int a0), none, none, none, none] [] _ _
  refine mg_Ev.go 8 (pc' := 10) (loc' := [some (.ref 3), some (.int a0), some (.int 0), some (.int 1), some (.int a0), some (.int 0)]) (st' := []) (w' := (hp u fL fD, c, z)) rfl ?_
  obtain ⟨x85, hl1850, h⟩ := Option.bind_eq_some_iff.mp h
  try dsimp only at h
  refine mg_Ev.more (loc := [some (.ref 3), none, some (.int 0), some (.int 1), some (.int a0), some (.int 0)]) (ev_Tf_codeOf_L10 _ _ _ _ _ _ _ hl1850 _ ?_) ⟨rfl, ⟨rfl, ⟨rfl, ⟨rfl, ⟨rfl, trivial⟩⟩⟩⟩⟩
  show mg_Ev _ _ _ 60 [none, none, some (.int x85), none, none, none] [] (hp u fL fD, c, z) _
  refine mg_Ev.go 1 (pc' := 61) (loc' := [none, none, some (.int x85), none, none, none]) (st' := [.int x85]) (w' := (hp u fL fD, c, z)) rfl ?_
  cases h
  exact mg_Ev.fin rfl rfl rfl

def C_told (a0 : Int32) (a1 : Int32) (u : mg_Rg) : Option ((Int32 ⊕ Nat) × mg_Rg) :=
  (C_requireHeading a0 u).bind fun p67 => match p67 with
  | (.inr ee, u69) => some (.inr ee, u69)
  | (.inl _, u69) =>
    if (a1).toInt < 0 ∨ 6 < (a1).toInt then
    some (.inr 1, u69)
    else if a1 = 0 then
    (T_get_3 a0 a1 u69).bind fun v70 =>
      some (.inl v70, u69)
    else if a1 = 1 then
    (T_get_3 a0 a1 u69).bind fun v71 =>
      some (.inl v71, u69)
    else if a1 = 2 then
    (T_get_3 a0 a1 u69).bind fun v72 =>
      some (.inl v72, u69)
    else if a1 = 3 then
    (Tf_rateOfHeading a0 u69).bind fun v77 =>
      some (.inl v77, u69)
    else if a1 = 4 then
    (Tf_childrenOf a0 u69).bind fun v81 =>
      some (.inl v81, u69)
    else if a1 = 5 then
    (Tf_levelOf a0 u69).bind fun v82 =>
      some (.inl v82, u69)
    else if a1 = 6 then
    (Tf_codeOf a0 u69).bind fun v86 =>
      some (.inl v86, u69)
    else none

set_option maxRecDepth 10000 in
set_option maxHeartbeats 4000000 in
theorem ev_C_told {sc : mg_Sc} {c z : Nat} {fL : Nat → Int64} {fD : Nat → UInt64} {a0 : Int32} {a1 : Int32} {u : mg_Rg} {p : (Int32 ⊕ Nat) × mg_Rg} (h : C_told a0 a1 u = some p) : mg_Ev sc 3 3 0 (mg_entry 3 [.ref 1, .int a0, .int a1]) [] (hp u fL fD, c, z) (xri p.1, xw p.1 (hp p.2 fL fD) c z) := by
  unfold C_told at h
  show mg_Ev _ _ _ 0 [some (.ref 1), some (.int a0), some (.int a1)] [] _ _
  refine mg_Ev.go 2 (pc' := 2) (loc' := [some (.ref 1), some (.int a0), some (.int a1)]) (st' := [.int a0, .ref 1]) (w' := (hp u fL fD, c, z)) rfl ?_
  obtain ⟨⟨⟨⟩ | ee, u69⟩, hf1851, h⟩ := Option.bind_eq_some_iff.mp h
  · try dsimp only at h
    refine mg_Ev.call (y := 41) (as := [.ref 1, .int a0]) (rest := []) (v := none) (w1 := (hp u69 fL fD, c, z)) rfl rfl (Nat.le_of_ble_eq_true rfl) ((ev_C_requireHeading hf1851).deep (by decide)) ?_
    refine mg_Ev.go 1 (pc' := 6) (loc' := [some (.ref 1), some (.int a0), some (.int a1)]) (st' := [.int a1]) (w' := (hp u69 fL fD, c, z)) rfl ?_
    by_cases hs1852 : (a1).toInt < 0 ∨ 6 < (a1).toInt
    · rw [if_pos hs1852] at h
      refine mg_Ev.swD rfl hs1852 ?_
      cases h
      exact mg_Ev.fin rfl rfl rfl
    · rw [if_neg hs1852] at h
      by_cases hk1853 : a1 = 0
      · rw [if_pos hk1853] at h
        refine mg_Ev.swK (k := 0) (t := 48) rfl hk1853 (by decide) (by decide) rfl ?_
        refine mg_Ev.go 5 (pc' := 57) (loc' := [some (.ref 1), some (.int a0), some (.int a1)]) (st' := [.int a1, .int a0, .ref 4]) (w' := (hp u69 fL fD, c, z)) rfl ?_
        obtain ⟨v70, hf1854, h⟩ := Option.bind_eq_some_iff.mp h
        refine mg_Ev.call (y := 184) (as := [.ref 4, .int a0, .int a1]) (rest := []) (v := some (.int v70)) (w1 := (hp u69 fL fD, c, z)) rfl rfl (Nat.le_of_ble_eq_true rfl) ((ev_T_get_3 hf1854).deep (by decide)) ?_
        cases h
        exact mg_Ev.fin rfl rfl rfl
      · rw [if_neg hk1853] at h
        by_cases hk1855 : a1 = 1
        · rw [if_pos hk1855] at h
          refine mg_Ev.swK (k := 1) (t := 48) rfl hk1855 (by decide) (by decide) rfl ?_
          refine mg_Ev.go 5 (pc' := 57) (loc' := [some (.ref 1), some (.int a0), some (.int a1)]) (st' := [.int a1, .int a0, .ref 4]) (w' := (hp u69 fL fD, c, z)) rfl ?_
          obtain ⟨v71, hf1856, h⟩ := Option.bind_eq_some_iff.mp h
          refine mg_Ev.call (y := 184) (as := [.ref 4, .int a0, .int a1]) (rest := []) (v := some (.int v71)) (w1 := (hp u69 fL fD, c, z)) rfl rfl (Nat.le_of_ble_eq_true rfl) ((ev_T_get_3 hf1856).deep (by decide)) ?_
          cases h
          exact mg_Ev.fin rfl rfl rfl
        · rw [if_neg hk1855] at h
          by_cases hk1857 : a1 = 2
          · rw [if_pos hk1857] at h
            refine mg_Ev.swK (k := 2) (t := 48) rfl hk1857 (by decide) (by decide) rfl ?_
            refine mg_Ev.go 5 (pc' := 57) (loc' := [some (.ref 1), some (.int a0), some (.int a1)]) (st' := [.int a1, .int a0, .ref 4]) (w' := (hp u69 fL fD, c, z)) rfl ?_
            obtain ⟨v72, hf1858, h⟩ := Option.bind_eq_some_iff.mp h
            refine mg_Ev.call (y := 184) (as := [.ref 4, .int a0, .int a1]) (rest := []) (v := some (.int v72)) (w1 := (hp u69 fL fD, c, z)) rfl rfl (Nat.le_of_ble_eq_true rfl) ((ev_T_get_3 hf1858).deep (by decide)) ?_
            cases h
            exact mg_Ev.fin rfl rfl rfl
          · rw [if_neg hk1857] at h
            by_cases hk1859 : a1 = 3
            · rw [if_pos hk1859] at h
              refine mg_Ev.swK (k := 3) (t := 61) rfl hk1859 (by decide) (by decide) rfl ?_
              refine mg_Ev.go 3 (pc' := 66) (loc' := [some (.ref 1), some (.int a0), some (.int a1)]) (st' := [.int a0, .ref 3]) (w' := (hp u69 fL fD, c, z)) rfl ?_
              obtain ⟨v77, hf1860, h⟩ := Option.bind_eq_some_iff.mp h
              refine mg_Ev.call (y := 202) (as := [.ref 3, .int a0]) (rest := []) (v := some (.int v77)) (w1 := (hp u69 fL fD, c, z)) rfl rfl (Nat.le_of_ble_eq_true rfl) ((ev_Tf_rateOfHeading hf1860).deep (by decide)) ?_
              cases h
              exact mg_Ev.fin rfl rfl rfl
            · rw [if_neg hk1859] at h
              by_cases hk1861 : a1 = 4
              · rw [if_pos hk1861] at h
                refine mg_Ev.swK (k := 4) (t := 70) rfl hk1861 (by decide) (by decide) rfl ?_
                refine mg_Ev.go 3 (pc' := 75) (loc' := [some (.ref 1), some (.int a0), some (.int a1)]) (st' := [.int a0, .ref 3]) (w' := (hp u69 fL fD, c, z)) rfl ?_
                obtain ⟨v81, hf1862, h⟩ := Option.bind_eq_some_iff.mp h
                refine mg_Ev.call (y := 200) (as := [.ref 3, .int a0]) (rest := []) (v := some (.int v81)) (w1 := (hp u69 fL fD, c, z)) rfl rfl (Nat.le_of_ble_eq_true rfl) ((ev_Tf_childrenOf hf1862).deep (by decide)) ?_
                cases h
                exact mg_Ev.fin rfl rfl rfl
              · rw [if_neg hk1861] at h
                by_cases hk1863 : a1 = 5
                · rw [if_pos hk1863] at h
                  refine mg_Ev.swK (k := 5) (t := 79) rfl hk1863 (by decide) (by decide) rfl ?_
                  refine mg_Ev.go 3 (pc' := 84) (loc' := [some (.ref 1), some (.int a0), some (.int a1)]) (st' := [.int a0, .ref 3]) (w' := (hp u69 fL fD, c, z)) rfl ?_
                  obtain ⟨v82, hf1864, h⟩ := Option.bind_eq_some_iff.mp h
                  refine mg_Ev.call (y := 197) (as := [.ref 3, .int a0]) (rest := []) (v := some (.int v82)) (w1 := (hp u69 fL fD, c, z)) rfl rfl (Nat.le_of_ble_eq_true rfl) ((ev_Tf_levelOf hf1864).deep (by decide)) ?_
                  cases h
                  exact mg_Ev.fin rfl rfl rfl
                · rw [if_neg hk1863] at h
                  by_cases hk1865 : a1 = 6
                  · rw [if_pos hk1865] at h
                    refine mg_Ev.swK (k := 6) (t := 88) rfl hk1865 (by decide) (by decide) rfl ?_
                    refine mg_Ev.go 3 (pc' := 93) (loc' := [some (.ref 1), some (.int a0), some (.int a1)]) (st' := [.int a0, .ref 3]) (w' := (hp u69 fL fD, c, z)) rfl ?_
                    obtain ⟨v86, hf1866, h⟩ := Option.bind_eq_some_iff.mp h
                    refine mg_Ev.call (y := 198) (as := [.ref 3, .int a0]) (rest := []) (v := some (.int v86)) (w1 := (hp u69 fL fD, c, z)) rfl rfl (Nat.le_of_ble_eq_true rfl) ((ev_Tf_codeOf hf1866).deep (by decide)) ?_
                    cases h
                    exact mg_Ev.fin rfl rfl rfl
                  · rw [if_neg hk1865] at h
                    cases h
  · cases h
    exact mg_Ev.callX (y := 41) (as := [.ref 1, .int a0]) (rest := []) rfl rfl (Nat.le_of_ble_eq_true rfl) ((ev_C_requireHeading hf1851).deep (by decide)) rfl

def Tf_headingWithCode_L2 : Nat → Int32 → Int32 → mg_Rg → Option ((Unit) ⊕ (Int32))
  | 0, _, _, _ => none
  | n + 1, x1, x2, u =>
    (T_count_3 u).bind fun v87 =>
    if v87 ≤ x2 then
    some (.inl ())
    else
    (Tf_codeOf x2 u).bind fun v88 =>
      if v88 = x1 then
      some (.inr x2)
      else
      Tf_headingWithCode_L2 n x1 (x2 + 1) u
set_option maxRecDepth 10000 in
set_option maxHeartbeats 4000000 in
theorem ev_Tf_headingWithCode_L2 {sc : mg_Sc} {c z : Nat} {fL : Nat → Int64} {fD : Nat → UInt64} : ∀ (n : Nat) (x1 : Int32) (x2 : Int32) (u : mg_Rg) (res : (Unit) ⊕ (Int32)), Tf_headingWithCode_L2 n x1 x2 u = some res → ∀ r, (match res with | .inl _ => mg_Ev sc 2 199 30 [none, none, none] [] (hp u fL fD, c, z) r | .inr rv => r = (.inl (some (.int rv)), (hp u fL fD, c, z))) → mg_Ev sc 2 199 2 [some (.ref 3), some (.int x1), some (.int x2)] [] (hp u fL fD, c, z) r := by
  intro n
  induction n with
  | zero => intro x1 x2 u res h; cases h
  | succ n ih =>
    intro x1 x2 u res h r K
    unfold Tf_headingWithCode_L2 at h
    refine mg_Ev.go 3 (pc' := 7) (loc' := [some (.ref 3), some (.int x1), some (.int x2)]) (st' := [.ref 4, .int x2]) (w' := (hp u fL fD, c, z)) rfl ?_
    obtain ⟨v87, hf1867, h⟩ := Option.bind_eq_some_iff.mp h
    refine mg_Ev.call (y := 181) (as := [.ref 4]) (rest := [.int x2]) (v := some (.int v87)) (w1 := (hp u fL fD, c, z)) rfl rfl (Nat.le_of_ble_eq_true rfl) ((ev_T_count_3 hf1867).deep (by decide)) ?_
    refine mg_Ev.br (P := v87 ≤ x2) (t := 30) (nx := 13) (st' := []) rfl rfl rfl rfl (fun hc1868 => ?_) (fun hc1868 => ?_)
    · rw [if_pos hc1868] at h
      cases h
      exact mg_Ev.more (loc := [none, none, none]) K trivial
    · rw [if_neg hc1868] at h
      refine mg_Ev.go 2 (pc' := 15) (loc' := [some (.ref 3), some (.int x1), some (.int x2)]) (st' := [.int x2, .ref 3]) (w' := (hp u fL fD, c, z)) rfl ?_
      obtain ⟨v88, hf1869, h⟩ := Option.bind_eq_some_iff.mp h
      refine mg_Ev.call (y := 198) (as := [.ref 3, .int x2]) (rest := []) (v := some (.int v88)) (w1 := (hp u fL fD, c, z)) rfl rfl (Nat.le_of_ble_eq_true rfl) ((ev_Tf_codeOf hf1869).deep (by decide)) ?_
      refine mg_Ev.go 1 (pc' := 19) (loc' := [some (.ref 3), some (.int x1), some (.int x2)]) (st' := [.int x1, .int v88]) (w' := (hp u fL fD, c, z)) rfl ?_
      refine mg_Ev.br (P := v88 = x1) (t := 22) (nx := 24) (st' := []) rfl rfl rfl rfl (fun hc1870 => ?_) (fun hc1870 => ?_)
      · rw [if_pos hc1870] at h
        refine mg_Ev.go 1 (pc' := 23) (loc' := [some (.ref 3), some (.int x1), some (.int x2)]) (st' := [.int x2]) (w' := (hp u fL fD, c, z)) rfl ?_
        cases h
        cases K
        exact mg_Ev.fin rfl rfl rfl
      · rw [if_neg hc1870] at h
        refine mg_Ev.go 2 (pc' := 2) (loc' := [some (.ref 3), some (.int x1), some (.int (x2 + 1))]) (st' := []) (w' := (hp u fL fD, c, z)) rfl ?_
        exact mg_Ev.more (loc := [some (.ref 3), some (.int x1), some (.int (x2 + 1))]) (ih _ _ _ _ h _ K) ⟨rfl, ⟨rfl, ⟨rfl, trivial⟩⟩⟩

def Tf_headingWithCode (a0 : Int32) (u : mg_Rg) : Option (Int32) :=
  (Tf_headingWithCode_L2 mg_F a0 0 u).bind fun q1871 => match q1871 with
  | .inl _ =>
    some (-1)
  | .inr v89 =>
    some v89

set_option maxRecDepth 10000 in
set_option maxHeartbeats 4000000 in
theorem ev_Tf_headingWithCode {sc : mg_Sc} {c z : Nat} {fL : Nat → Int64} {fD : Nat → UInt64} {a0 : Int32} {u : mg_Rg} {v : Int32} (h : Tf_headingWithCode a0 u = some v) : mg_Ev sc 2 199 0 (mg_entry 199 [.ref 3, .int a0]) [] (hp u fL fD, c, z) (.inl (some (.int v)), (hp u fL fD, c, z)) := by
  unfold Tf_headingWithCode at h
  show mg_Ev _ _ _ 0 [some (.ref 3), some (.int a0), none] [] _ _
  refine mg_Ev.go 2 (pc' := 2) (loc' := [some (.ref 3), some (.int a0), some (.int 0)]) (st' := []) (w' := (hp u fL fD, c, z)) rfl ?_
  obtain ⟨(⟨⟩ | v89), hl1872, h⟩ := Option.bind_eq_some_iff.mp h
  · try dsimp only at h
    refine mg_Ev.more (loc := [some (.ref 3), some (.int a0), some (.int 0)]) (ev_Tf_headingWithCode_L2 _ _ _ _ _ hl1872 _ ?_) ⟨rfl, ⟨rfl, ⟨rfl, trivial⟩⟩⟩
    show mg_Ev _ _ _ 30 [none, none, none] [] (hp u fL fD, c, z) _
    refine mg_Ev.go 1 (pc' := 31) (loc' := [none, none, none]) (st' := [.int (-1)]) (w' := (hp u fL fD, c, z)) rfl ?_
    cases h
    exact mg_Ev.fin rfl rfl rfl
  · try dsimp only at h
    cases h
    refine mg_Ev.more (loc := [some (.ref 3), some (.int a0), some (.int 0)]) (ev_Tf_headingWithCode_L2 _ _ _ _ _ hl1872 _ ?_) ⟨rfl, ⟨rfl, ⟨rfl, trivial⟩⟩⟩
    rfl

def C_find (a0 : Int32) (u : mg_Rg) : Option ((Int32 ⊕ Nat) × mg_Rg) :=
  (Tf_headingWithCode a0 u).bind fun v91 =>
  if v91 = (-1) then
  some (.inr 3, u)
  else
  some (.inl v91, u)

set_option maxRecDepth 10000 in
set_option maxHeartbeats 4000000 in
theorem ev_C_find {sc : mg_Sc} {c z : Nat} {fL : Nat → Int64} {fD : Nat → UInt64} {a0 : Int32} {u : mg_Rg} {p : (Int32 ⊕ Nat) × mg_Rg} (h : C_find a0 u = some p) : mg_Ev sc 3 4 0 (mg_entry 4 [.ref 1, .int a0]) [] (hp u fL fD, c, z) (xri p.1, xw p.1 (hp p.2 fL fD) c z) := by
  unfold C_find at h
  show mg_Ev _ _ _ 0 [some (.ref 1), some (.int a0), none] [] _ _
  refine mg_Ev.go 3 (pc' := 5) (loc' := [some (.ref 1), some (.int a0), none]) (st' := [.int a0, .ref 3]) (w' := (hp u fL fD, c, z)) rfl ?_
  obtain ⟨v91, hf1873, h⟩ := Option.bind_eq_some_iff.mp h
  refine mg_Ev.call (y := 199) (as := [.ref 3, .int a0]) (rest := []) (v := some (.int v91)) (w1 := (hp u fL fD, c, z)) rfl rfl (Nat.le_of_ble_eq_true rfl) ((ev_Tf_headingWithCode hf1873).deep (by decide)) ?_
  refine mg_Ev.go 3 (pc' := 11) (loc' := [some (.ref 1), some (.int a0), some (.int v91)]) (st' := [.int (-1), .int v91]) (w' := (hp u fL fD, c, z)) rfl ?_
  refine mg_Ev.br (P := v91 = (-1)) (t := 14) (nx := 24) (st' := []) rfl rfl rfl rfl (fun hc1874 => ?_) (fun hc1874 => ?_)
  · rw [if_pos hc1874] at h
    cases h
    exact mg_Ev.fin rfl rfl rfl
  · rw [if_neg hc1874] at h
    refine mg_Ev.go 1 (pc' := 25) (loc' := [some (.ref 1), some (.int a0), some (.int v91)]) (st' := [.int v91]) (w' := (hp u fL fD, c, z)) rfl ?_
    cases h
    exact mg_Ev.fin rfl rfl rfl

def C_isCountry (a0 : Int32) (u : mg_Rg) : Option (Int32) :=
  (C_isWithin a0 0 7 u).bind fun v95 =>
  if v95 = 0 ∨ v95 = 1 then some v95 else none

set_option maxRecDepth 10000 in
set_option maxHeartbeats 4000000 in
theorem ev_C_isCountry {sc : mg_Sc} {c z : Nat} {fL : Nat → Int64} {fD : Nat → UInt64} {a0 : Int32} {u : mg_Rg} {v : Int32} (h : C_isCountry a0 u = some v) : mg_Ev sc 1 53 0 (mg_entry 53 [.int a0]) [] (hp u fL fD, c, z) (.inl (some (.int v)), (hp u fL fD, c, z)) := by
  unfold C_isCountry at h
  show mg_Ev _ _ _ 0 [some (.int a0)] [] _ _
  refine mg_Ev.go 3 (pc' := 4) (loc' := [some (.int a0)]) (st' := [.int 7, .int 0, .int a0]) (w' := (hp u fL fD, c, z)) rfl ?_
  obtain ⟨v95, hf1875, h⟩ := Option.bind_eq_some_iff.mp h
  refine mg_Ev.call (y := 54) (as := [.int a0, .int 0, .int 7]) (rest := []) (v := some (.int v95)) (w1 := (hp u fL fD, c, z)) rfl rfl (Nat.le_of_ble_eq_true rfl) ((ev_C_isWithin hf1875).deep (by decide)) ?_
  by_cases hz1876 : v95 = 0 ∨ v95 = 1
  · rw [if_pos hz1876] at h
    cases h
    exact mg_Ev.zret rfl rfl rfl hz1876
  · rw [if_neg hz1876] at h
    cases h

def C_requireCountry (a0 : Int32) (u : mg_Rg) : Option ((Unit ⊕ Nat) × mg_Rg) :=
  (C_isCountry a0 u).bind fun v96 =>
  if v96 = 0 then
  some (.inr 0, u)
  else
  some (.inl (), u)

set_option maxRecDepth 10000 in
set_option maxHeartbeats 4000000 in
theorem ev_C_requireCountry {sc : mg_Sc} {c z : Nat} {fL : Nat → Int64} {fD : Nat → UInt64} {a0 : Int32} {u : mg_Rg} {p : (Unit ⊕ Nat) × mg_Rg} (h : C_requireCountry a0 u = some p) : mg_Ev sc 2 42 0 (mg_entry 42 [.ref 1, .int a0]) [] (hp u fL fD, c, z) (xru p.1, xw p.1 (hp p.2 fL fD) c z) := by
  unfold C_requireCountry at h
  show mg_Ev _ _ _ 0 [some (.ref 1), some (.int a0)] [] _ _
  refine mg_Ev.go 1 (pc' := 1) (loc' := [some (.ref 1), some (.int a0)]) (st' := [.int a0]) (w' := (hp u fL fD, c, z)) rfl ?_
  obtain ⟨v96, hf1877, h⟩ := Option.bind_eq_some_iff.mp h
  refine mg_Ev.call (y := 53) (as := [.int a0]) (rest := []) (v := some (.int v96)) (w1 := (hp u fL fD, c, z)) rfl rfl (Nat.le_of_ble_eq_true rfl) ((ev_C_isCountry hf1877).deep (by decide)) ?_
  refine mg_Ev.br (P := v96 = 0) (t := 7) (nx := 18) (st' := []) rfl rfl rfl rfl (fun hc1878 => ?_) (fun hc1878 => ?_)
  · rw [if_pos hc1878] at h
    cases h
    exact mg_Ev.fin rfl rfl rfl
  · rw [if_neg hc1878] at h
    cases h
    exact mg_Ev.fin rfl rfl rfl

def T_count_6 (u : mg_Rg) : Option (Int32) :=
  some (u 7 0)

set_option maxRecDepth 10000 in
set_option maxHeartbeats 4000000 in
theorem ev_T_count_6 {sc : mg_Sc} {c z : Nat} {fL : Nat → Int64} {fD : Nat → UInt64} {u : mg_Rg} {v : Int32} (h : T_count_6 u = some v) : mg_Ev sc 0 181 0 (mg_entry 181 [.ref 7]) [] (hp u fL fD, c, z) (.inl (some (.int v)), (hp u fL fD, c, z)) := by
  unfold T_count_6 at h
  show mg_Ev _ _ _ 0 [some (.ref 7)] [] _ _
  refine mg_Ev.go 3 (pc' := 5) (loc' := [some (.ref 7)]) (st' := [.int 41]) (w' := (hp u fL fD, c, z)) rfl ?_
  refine mg_Ev.br (P := (41 : Int32) ≤ 0) (t := 17) (nx := 8) (st' := []) rfl rfl rfl rfl (fun q => absurd q (by decide)) (fun _ => ?_)
  refine mg_Ev.go 3 (pc' := 13) (loc' := [some (.ref 7)]) (st' := [.int 0, .ref 8]) (w' := (hp u fL fD, c, z)) rfl ?_
  refine mg_Ev.iald (a := 7) (n := 41) (f := u 7) (j := 0) rfl (hpg_7 _ _ _) (by decide) (by decide) ?_
  refine mg_Ev.go 1 (pc' := 18) (loc' := [some (.ref 7)]) (st' := [.int (u 7 0)]) (w' := (hp u fL fD, c, z)) rfl ?_
  cases h
  exact mg_Ev.fin rfl rfl rfl

def T_isFull_6 (u : mg_Rg) : Option (Int32) :=
  (T_count_6 u).bind fun v102 =>
  if v102 < 10 then
  some 0
  else
  some 1

set_option maxRecDepth 10000 in
set_option maxHeartbeats 4000000 in
theorem ev_T_isFull_6 {sc : mg_Sc} {c z : Nat} {fL : Nat → Int64} {fD : Nat → UInt64} {u : mg_Rg} {v : Int32} (h : T_isFull_6 u = some v) : mg_Ev sc 1 183 0 (mg_entry 183 [.ref 7]) [] (hp u fL fD, c, z) (.inl (some (.int v)), (hp u fL fD, c, z)) := by
  unfold T_isFull_6 at h
  show mg_Ev _ _ _ 0 [some (.ref 7)] [] _ _
  refine mg_Ev.go 1 (pc' := 1) (loc' := [some (.ref 7)]) (st' := [.ref 7]) (w' := (hp u fL fD, c, z)) rfl ?_
  obtain ⟨v102, hf1880, h⟩ := Option.bind_eq_some_iff.mp h
  refine mg_Ev.call (y := 181) (as := [.ref 7]) (rest := []) (v := some (.int v102)) (w1 := (hp u fL fD, c, z)) rfl rfl (Nat.le_of_ble_eq_true rfl) ((ev_T_count_6 hf1880).deep (by decide)) ?_
  refine mg_Ev.go 2 (pc' := 8) (loc' := [some (.ref 7)]) (st' := [.int 10, .int v102]) (w' := (hp u fL fD, c, z)) rfl ?_
  refine mg_Ev.br (P := v102 < 10) (t := 15) (nx := 11) (st' := []) rfl rfl rfl rfl (fun hc1881 => ?_) (fun hc1881 => ?_)
  · rw [if_pos hc1881] at h
    refine mg_Ev.go 1 (pc' := 16) (loc' := [some (.ref 7)]) (st' := [.int 0]) (w' := (hp u fL fD, c, z)) rfl ?_
    cases h
    exact mg_Ev.fin rfl rfl rfl
  · rw [if_neg hc1881] at h
    refine mg_Ev.go 2 (pc' := 16) (loc' := [some (.ref 7)]) (st' := [.int 1]) (w' := (hp u fL fD, c, z)) rfl ?_
    cases h
    exact mg_Ev.fin rfl rfl rfl

def T_put_6 (a0 : Int32) (a1 : Int32) (a2 : Int32) (u : mg_Rg) : Option (mg_Rg) :=
  if a0 < 0 then
  some u
  else
  if 10 ≤ a0 then
    some u
    else
    if a1 < 0 then
      some u
      else
      if a1 < 4 then
        if ((1 + (a0 * 4)) + a1) < 0 then
          some u
          else
          if 41 ≤ ((1 + (a0 * 4)) + a1) then
            some u
            else
            if ((1 + (a0 * 4)) + a1) < 0 ∨ 41 ≤ ((1 + (a0 * 4)) + a1).toNatClampNeg then none else
              some (mg_up u 7 (((1 + (a0 * 4)) + a1).toNatClampNeg) a2)
        else
        some u

set_option maxRecDepth 10000 in
set_option maxHeartbeats 4000000 in
theorem ev_T_put_6 {sc : mg_Sc} {c z : Nat} {fL : Nat → Int64} {fD : Nat → UInt64} {a0 : Int32} {a1 : Int32} {a2 : Int32} {u : mg_Rg} {v : mg_Rg} (h : T_put_6 a0 a1 a2 u = some v) : mg_Ev sc 0 185 0 (mg_entry 185 [.ref 7, .int a0, .int a1, .int a2]) [] (hp u fL fD, c, z) (.inl none, (hp v fL fD, c, z)) := by
  unfold T_put_6 at h
  show mg_Ev _ _ _ 0 [some (.ref 7), some (.int a0), some (.int a1), some (.int a2), none] [] _ _
  refine mg_Ev.go 1 (pc' := 1) (loc' := [some (.ref 7), some (.int a0), some (.int a1), some (.int a2), none]) (st' := [.int a0]) (w' := (hp u fL fD, c, z)) rfl ?_
  refine mg_Ev.br (P := a0 < 0) (t := 24) (nx := 4) (st' := []) rfl rfl rfl rfl (fun hc1882 => ?_) (fun hc1882 => ?_)
  · rw [if_pos hc1882] at h
    cases h
    exact mg_Ev.fin rfl rfl rfl
  · rw [if_neg hc1882] at h
    refine mg_Ev.go 3 (pc' := 9) (loc' := [some (.ref 7), some (.int a0), some (.int a1), some (.int a2), none]) (st' := [.int 10, .int a0]) (w' := (hp u fL fD, c, z)) rfl ?_
    refine mg_Ev.br (P := 10 ≤ a0) (t := 24) (nx := 12) (st' := []) rfl rfl rfl rfl (fun hc1883 => ?_) (fun hc1883 => ?_)
    · rw [if_pos hc1883] at h
      cases h
      exact mg_Ev.fin rfl rfl rfl
    · rw [if_neg hc1883] at h
      refine mg_Ev.go 1 (pc' := 13) (loc' := [some (.ref 7), some (.int a0), some (.int a1), some (.int a2), none]) (st' := [.int a1]) (w' := (hp u fL fD, c, z)) rfl ?_
      refine mg_Ev.br (P := a1 < 0) (t := 24) (nx := 16) (st' := []) rfl rfl rfl rfl (fun hc1884 => ?_) (fun hc1884 => ?_)
      · rw [if_pos hc1884] at h
        cases h
        exact mg_Ev.fin rfl rfl rfl
      · rw [if_neg hc1884] at h
        refine mg_Ev.go 3 (pc' := 21) (loc' := [some (.ref 7), some (.int a0), some (.int a1), some (.int a2), none]) (st' := [.int 4, .int a1]) (w' := (hp u fL fD, c, z)) rfl ?_
        refine mg_Ev.br (P := a1 < 4) (t := 25) (nx := 24) (st' := []) rfl rfl rfl rfl (fun hc1885 => ?_) (fun hc1885 => ?_)
        · rw [if_pos hc1885] at h
          refine mg_Ev.go 10 (pc' := 39) (loc' := [some (.ref 7), some (.int a0), some (.int a1), some (.int a2), some (.int ((1 + (a0 * 4)) + a1))]) (st' := [.int ((1 + (a0 * 4)) + a1)]) (w' := (hp u fL fD, c, z)) rfl ?_
          refine mg_Ev.br (P := ((1 + (a0 * 4)) + a1) < 0) (t := 60) (nx := 42) (st' := []) rfl rfl rfl rfl (fun hc1886 => ?_) (fun hc1886 => ?_)
          · rw [if_pos hc1886] at h
            cases h
            exact mg_Ev.fin rfl rfl rfl
          · rw [if_neg hc1886] at h
            refine mg_Ev.go 4 (pc' := 49) (loc' := [some (.ref 7), some (.int a0), some (.int a1), some (.int a2), some (.int ((1 + (a0 * 4)) + a1))]) (st' := [.int 41, .int ((1 + (a0 * 4)) + a1)]) (w' := (hp u fL fD, c, z)) rfl ?_
            refine mg_Ev.br (P := 41 ≤ ((1 + (a0 * 4)) + a1)) (t := 60) (nx := 52) (st' := []) rfl rfl rfl rfl (fun hc1887 => ?_) (fun hc1887 => ?_)
            · rw [if_pos hc1887] at h
              cases h
              exact mg_Ev.fin rfl rfl rfl
            · rw [if_neg hc1887] at h
              refine mg_Ev.go 4 (pc' := 59) (loc' := [some (.ref 7), some (.int a0), some (.int a1), some (.int a2), some (.int ((1 + (a0 * 4)) + a1))]) (st' := [.int a2, .int ((1 + (a0 * 4)) + a1), .ref 8]) (w' := (hp u fL fD, c, z)) rfl ?_
              by_cases hb1888 : ((1 + (a0 * 4)) + a1) < 0 ∨ 41 ≤ ((1 + (a0 * 4)) + a1).toNatClampNeg
              · rw [if_pos hb1888] at h
                cases h
              · rw [if_neg hb1888] at h
                refine mg_Ev.iast (a := 7) (n := 41) rfl (hpg_7 _ _ _) rfl hb1888 (hpa_7 _ _ _ _ _ _ _) ?_
                cases h
                exact mg_Ev.fin rfl rfl rfl
        · rw [if_neg hc1885] at h
          cases h
          exact mg_Ev.fin rfl rfl rfl

def T_setCount_6 (a0 : Int32) (u : mg_Rg) : Option (mg_Rg) :=
  some (mg_up u 7 0 a0)

set_option maxRecDepth 10000 in
set_option maxHeartbeats 4000000 in
theorem ev_T_setCount_6 {sc : mg_Sc} {c z : Nat} {fL : Nat → Int64} {fD : Nat → UInt64} {a0 : Int32} {u : mg_Rg} {v : mg_Rg} (h : T_setCount_6 a0 u = some v) : mg_Ev sc 0 193 0 (mg_entry 193 [.ref 7, .int a0]) [] (hp u fL fD, c, z) (.inl none, (hp v fL fD, c, z)) := by
  unfold T_setCount_6 at h
  show mg_Ev _ _ _ 0 [some (.ref 7), some (.int a0)] [] _ _
  refine mg_Ev.go 3 (pc' := 5) (loc' := [some (.ref 7), some (.int a0)]) (st' := [.int 41]) (w' := (hp u fL fD, c, z)) rfl ?_
  refine mg_Ev.br (P := (41 : Int32) ≤ 0) (t := 15) (nx := 8) (st' := []) rfl rfl rfl rfl (fun q => absurd q (by decide)) (fun _ => ?_)
  refine mg_Ev.go 4 (pc' := 14) (loc' := [some (.ref 7), some (.int a0)]) (st' := [.int a0, .int 0, .ref 8]) (w' := (hp u fL fD, c, z)) rfl ?_
  refine mg_Ev.iast (a := 7) (n := 41) (j := 0) rfl (hpg_7 _ _ _) (by decide) (by decide) (hpa_7 _ _ _ _ _ _ _) ?_
  cases h
  exact mg_Ev.fin rfl rfl rfl

def T_add_6_L17 : Nat → Int32 → Int32 → mg_Rg → Option (mg_Rg)
  | 0, _, _, _ => none
  | n + 1, x1, x2, u =>
    if 4 ≤ x2 then
    some (u)
    else
    (T_put_6 x1 x2 0 u).bind fun u106 =>
      T_add_6_L17 n x1 (x2 + 1) u106
set_option maxRecDepth 10000 in
set_option maxHeartbeats 4000000 in
theorem ev_T_add_6_L17 {sc : mg_Sc} {c z : Nat} {fL : Nat → Int64} {fD : Nat → UInt64} : ∀ (n : Nat) (x1 : Int32) (x2 : Int32) (u : mg_Rg) (res : mg_Rg), T_add_6_L17 n x1 x2 u = some res → ∀ r, (match res with | yu => mg_Ev sc 1 187 38 [some (.ref 7), some (.int x1), none] [] (hp yu fL fD, c, z) r) → mg_Ev sc 1 187 17 [some (.ref 7), some (.int x1), some (.int x2)] [] (hp u fL fD, c, z) r := by
  intro n
  induction n with
  | zero => intro x1 x2 u res h; cases h
  | succ n ih =>
    intro x1 x2 u res h r K
    unfold T_add_6_L17 at h
    refine mg_Ev.go 3 (pc' := 22) (loc' := [some (.ref 7), some (.int x1), some (.int x2)]) (st' := [.int 4, .int x2]) (w' := (hp u fL fD, c, z)) rfl ?_
    refine mg_Ev.br (P := 4 ≤ x2) (t := 38) (nx := 25) (st' := []) rfl rfl rfl rfl (fun hc1890 => ?_) (fun hc1890 => ?_)
    · rw [if_pos hc1890] at h
      cases h
      exact mg_Ev.more (loc := [some (.ref 7), some (.int x1), none]) K ⟨rfl, ⟨rfl, trivial⟩⟩
    · rw [if_neg hc1890] at h
      refine mg_Ev.go 4 (pc' := 29) (loc' := [some (.ref 7), some (.int x1), some (.int x2)]) (st' := [.int 0, .int x2, .int x1, .ref 7]) (w' := (hp u fL fD, c, z)) rfl ?_
      obtain ⟨u106, hf1891, h⟩ := Option.bind_eq_some_iff.mp h
      refine mg_Ev.call (y := 185) (as := [.ref 7, .int x1, .int x2, .int 0]) (rest := []) (v := none) (w1 := (hp u106 fL fD, c, z)) rfl rfl (Nat.le_of_ble_eq_true rfl) ((ev_T_put_6 hf1891).deep (by decide)) ?_
      refine mg_Ev.go 2 (pc' := 17) (loc' := [some (.ref 7), some (.int x1), some (.int (x2 + 1))]) (st' := []) (w' := (hp u106 fL fD, c, z)) rfl ?_
      exact mg_Ev.more (loc := [some (.ref 7), some (.int x1), some (.int (x2 + 1))]) (ih _ _ _ _ h _ K) ⟨rfl, ⟨rfl, ⟨rfl, trivial⟩⟩⟩

def T_add_6 (u : mg_Rg) : Option (Int32 × mg_Rg) :=
  (T_count_6 u).bind fun v105 =>
  if v105 < 10 then
  (T_add_6_L17 mg_F v105 0 u).bind fun q1892 => match q1892 with
    | u107 =>
      (T_setCount_6 (v105 + 1) u107).bind fun u108 =>
      some (v105, u108)
  else
  some ((-1), u)

set_option maxRecDepth 10000 in
set_option maxHeartbeats 4000000 in
theorem ev_T_add_6 {sc : mg_Sc} {c z : Nat} {fL : Nat → Int64} {fD : Nat → UInt64} {u : mg_Rg} {p : Int32 × mg_Rg} (h : T_add_6 u = some p) : mg_Ev sc 1 187 0 (mg_entry 187 [.ref 7]) [] (hp u fL fD, c, z) (.inl (some (.int p.1)), (hp p.2 fL fD, c, z)) := by
  unfold T_add_6 at h
  show mg_Ev _ _ _ 0 [some (.ref 7), none, none] [] _ _
  refine mg_Ev.go 1 (pc' := 1) (loc' := [some (.ref 7), none, none]) (st' := [.ref 7]) (w' := (hp u fL fD, c, z)) rfl ?_
  obtain ⟨v105, hf1893, h⟩ := Option.bind_eq_some_iff.mp h
  refine mg_Ev.call (y := 181) (as := [.ref 7]) (rest := []) (v := some (.int v105)) (w1 := (hp u fL fD, c, z)) rfl rfl (Nat.le_of_ble_eq_true rfl) ((ev_T_count_6 hf1893).deep (by decide)) ?_
  refine mg_Ev.go 4 (pc' := 10) (loc' := [some (.ref 7), some (.int v105), none]) (st' := [.int 10, .int v105]) (w' := (hp u fL fD, c, z)) rfl ?_
  refine mg_Ev.br (P := v105 < 10) (t := 15) (nx := 13) (st' := []) rfl rfl rfl rfl (fun hc1894 => ?_) (fun hc1894 => ?_)
  · rw [if_pos hc1894] at h
    refine mg_Ev.go 2 (pc' := 17) (loc' := [some (.ref 7), some (.int v105), some (.int 0)]) (st' := []) (w' := (hp u fL fD, c, z)) rfl ?_
    obtain ⟨u107, hl1895, h⟩ := Option.bind_eq_some_iff.mp h
    try dsimp only at h
    refine mg_Ev.more (loc := [some (.ref 7), some (.int v105), some (.int 0)]) (ev_T_add_6_L17 _ _ _ _ _ hl1895 _ ?_) ⟨rfl, ⟨rfl, ⟨rfl, trivial⟩⟩⟩
    show mg_Ev _ _ _ 38 [some (.ref 7), some (.int v105), none] [] (hp u107 fL fD, c, z) _
    refine mg_Ev.go 4 (pc' := 42) (loc' := [some (.ref 7), some (.int v105), none]) (st' := [.int (v105 + 1), .ref 7]) (w' := (hp u107 fL fD, c, z)) rfl ?_
    obtain ⟨u108, hf1896, h⟩ := Option.bind_eq_some_iff.mp h
    refine mg_Ev.call (y := 193) (as := [.ref 7, .int (v105 + 1)]) (rest := []) (v := none) (w1 := (hp u108 fL fD, c, z)) rfl rfl (Nat.le_of_ble_eq_true rfl) ((ev_T_setCount_6 hf1896).deep (by decide)) ?_
    refine mg_Ev.go 1 (pc' := 46) (loc' := [some (.ref 7), some (.int v105), none]) (st' := [.int v105]) (w' := (hp u108 fL fD, c, z)) rfl ?_
    cases h
    exact mg_Ev.fin rfl rfl rfl
  · rw [if_neg hc1894] at h
    refine mg_Ev.go 1 (pc' := 14) (loc' := [some (.ref 7), some (.int v105), none]) (st' := [.int (-1)]) (w' := (hp u fL fD, c, z)) rfl ?_
    cases h
    exact mg_Ev.fin rfl rfl rfl

def C_prefer (a0 : Int32) (a1 : Int32) (a2 : Int32) (a3 : Int32) (u : mg_Rg) : Option ((Int32 ⊕ Nat) × mg_Rg) :=
  (C_requireHeading a0 u).bind fun p92 => match p92 with
  | (.inr ee, u94) => some (.inr ee, u94)
  | (.inl _, u94) =>
    (C_requireCountry a1 u94).bind fun p97 => match p97 with
    | (.inr ee, u99) => some (.inr ee, u99)
    | (.inl _, u99) =>
      (C_isWithin a2 0 1000 u99).bind fun v100 =>
      if v100 = 0 then
      some (.inr 1, u99)
      else
      (C_isWithin a3 0 2 u99).bind fun v101 =>
        if v101 = 0 then
        some (.inr 1, u99)
        else
        (T_isFull_6 u99).bind fun v103 =>
          if v103 = 0 then
          (C_keepForUndo u99).bind fun u104 =>
            (T_add_6 u104).bind fun p111 => match p111 with
            | (v109, u110) =>
              (T_put_6 v109 0 a0 u110).bind fun u112 =>
              (T_put_6 v109 1 a1 u112).bind fun u113 =>
              (T_put_6 v109 2 a2 u113).bind fun u114 =>
              (T_put_6 v109 3 a3 u114).bind fun u115 =>
              some (.inl v109, u115)
          else
          some (.inr 2, u99)

set_option maxRecDepth 10000 in
set_option maxHeartbeats 4000000 in
theorem ev_C_prefer {sc : mg_Sc} {c z : Nat} {fL : Nat → Int64} {fD : Nat → UInt64} {a0 : Int32} {a1 : Int32} {a2 : Int32} {a3 : Int32} {u : mg_Rg} {p : (Int32 ⊕ Nat) × mg_Rg} (h : C_prefer a0 a1 a2 a3 u = some p) : mg_Ev sc 6 5 0 (mg_entry 5 [.ref 1, .int a0, .int a1, .int a2, .int a3]) [] (hp u fL fD, c, z) (xri p.1, xw p.1 (hp p.2 fL fD) c z) := by
  unfold C_prefer at h
  show mg_Ev _ _ _ 0 [some (.ref 1), some (.int a0), some (.int a1), some (.int a2), some (.int a3), none] [] _ _
  refine mg_Ev.go 2 (pc' := 2) (loc' := [some (.ref 1), some (.int a0), some (.int a1), some (.int a2), some (.int a3), none]) (st' := [.int a0, .ref 1]) (w' := (hp u fL fD, c, z)) rfl ?_
  obtain ⟨⟨⟨⟩ | ee, u94⟩, hf1897, h⟩ := Option.bind_eq_some_iff.mp h
  · try dsimp only at h
    refine mg_Ev.call (y := 41) (as := [.ref 1, .int a0]) (rest := []) (v := none) (w1 := (hp u94 fL fD, c, z)) rfl rfl (Nat.le_of_ble_eq_true rfl) ((ev_C_requireHeading hf1897).deep (by decide)) ?_
    refine mg_Ev.go 2 (pc' := 7) (loc' := [some (.ref 1), some (.int a0), some (.int a1), some (.int a2), some (.int a3), none]) (st' := [.int a1, .ref 1]) (w' := (hp u94 fL fD, c, z)) rfl ?_
    obtain ⟨⟨⟨⟩ | ee, u99⟩, hf1898, h⟩ := Option.bind_eq_some_iff.mp h
    · try dsimp only at h
      refine mg_Ev.call (y := 42) (as := [.ref 1, .int a1]) (rest := []) (v := none) (w1 := (hp u99 fL fD, c, z)) rfl rfl (Nat.le_of_ble_eq_true rfl) ((ev_C_requireCountry hf1898).deep (by decide)) ?_
      refine mg_Ev.go 3 (pc' := 15) (loc' := [some (.ref 1), some (.int a0), some (.int a1), some (.int a2), some (.int a3), none]) (st' := [.int 1000, .int 0, .int a2]) (w' := (hp u99 fL fD, c, z)) rfl ?_
      obtain ⟨v100, hf1899, h⟩ := Option.bind_eq_some_iff.mp h
      refine mg_Ev.call (y := 54) (as := [.int a2, .int 0, .int 1000]) (rest := []) (v := some (.int v100)) (w1 := (hp u99 fL fD, c, z)) rfl rfl (Nat.le_of_ble_eq_true rfl) ((ev_C_isWithin hf1899).deep (by decide)) ?_
      refine mg_Ev.br (P := v100 = 0) (t := 31) (nx := 21) (st' := []) rfl rfl rfl rfl (fun hc1900 => ?_) (fun hc1900 => ?_)
      · rw [if_pos hc1900] at h
        cases h
        exact mg_Ev.fin rfl rfl rfl
      · rw [if_neg hc1900] at h
        refine mg_Ev.go 3 (pc' := 25) (loc' := [some (.ref 1), some (.int a0), some (.int a1), some (.int a2), some (.int a3), none]) (st' := [.int 2, .int 0, .int a3]) (w' := (hp u99 fL fD, c, z)) rfl ?_
        obtain ⟨v101, hf1901, h⟩ := Option.bind_eq_some_iff.mp h
        refine mg_Ev.call (y := 54) (as := [.int a3, .int 0, .int 2]) (rest := []) (v := some (.int v101)) (w1 := (hp u99 fL fD, c, z)) rfl rfl (Nat.le_of_ble_eq_true rfl) ((ev_C_isWithin hf1901).deep (by decide)) ?_
        refine mg_Ev.br (P := v101 = 0) (t := 31) (nx := 41) (st' := []) rfl rfl rfl rfl (fun hc1902 => ?_) (fun hc1902 => ?_)
        · rw [if_pos hc1902] at h
          cases h
          exact mg_Ev.fin rfl rfl rfl
        · rw [if_neg hc1902] at h
          refine mg_Ev.go 3 (pc' := 48) (loc' := [some (.ref 1), some (.int a0), some (.int a1), some (.int a2), some (.int a3), none]) (st' := [.ref 7]) (w' := (hp u99 fL fD, c, z)) rfl ?_
          obtain ⟨v103, hf1903, h⟩ := Option.bind_eq_some_iff.mp h
          refine mg_Ev.call (y := 183) (as := [.ref 7]) (rest := []) (v := some (.int v103)) (w1 := (hp u99 fL fD, c, z)) rfl rfl (Nat.le_of_ble_eq_true rfl) ((ev_T_isFull_6 hf1903).deep (by decide)) ?_
          refine mg_Ev.br (P := v103 = 0) (t := 64) (nx := 54) (st' := []) rfl rfl rfl rfl (fun hc1904 => ?_) (fun hc1904 => ?_)
          · rw [if_pos hc1904] at h
            refine mg_Ev.go 1 (pc' := 65) (loc' := [some (.ref 1), some (.int a0), some (.int a1), some (.int a2), some (.int a3), none]) (st' := [.ref 1]) (w' := (hp u99 fL fD, c, z)) rfl ?_
            obtain ⟨u104, hf1905, h⟩ := Option.bind_eq_some_iff.mp h
            refine mg_Ev.call (y := 38) (as := [.ref 1]) (rest := []) (v := none) (w1 := (hp u104 fL fD, c, z)) rfl rfl (Nat.le_of_ble_eq_true rfl) ((ev_C_keepForUndo hf1905).deep (by decide)) ?_
            refine mg_Ev.go 3 (pc' := 75) (loc' := [some (.ref 1), some (.int a0), some (.int a1), some (.int a2), some (.int a3), none]) (st' := [.ref 7]) (w' := (hp u104 fL fD, c, z)) rfl ?_
            obtain ⟨⟨v109, u110⟩, hf1906, h⟩ := Option.bind_eq_some_iff.mp h
            try dsimp only at h
            refine mg_Ev.call (y := 187) (as := [.ref 7]) (rest := []) (v := some (.int v109)) (w1 := (hp u110 fL fD, c, z)) rfl rfl (Nat.le_of_ble_eq_true rfl) ((ev_T_add_6 hf1906).deep (by decide)) ?_
            refine mg_Ev.go 7 (pc' := 91) (loc' := [some (.ref 1), some (.int a0), some (.int a1), some (.int a2), some (.int a3), some (.int v109)]) (st' := [.int a0, .int 0, .int v109, .ref 7]) (w' := (hp u110 fL fD, c, z)) rfl ?_
            obtain ⟨u112, hf1907, h⟩ := Option.bind_eq_some_iff.mp h
            refine mg_Ev.call (y := 185) (as := [.ref 7, .int v109, .int 0, .int a0]) (rest := []) (v := none) (w1 := (hp u112 fL fD, c, z)) rfl rfl (Nat.le_of_ble_eq_true rfl) ((ev_T_put_6 hf1907).deep (by decide)) ?_
            refine mg_Ev.go 6 (pc' := 105) (loc' := [some (.ref 1), some (.int a0), some (.int a1), some (.int a2), some (.int a3), some (.int v109)]) (st' := [.int a1, .int 1, .int v109, .ref 7]) (w' := (hp u112 fL fD, c, z)) rfl ?_
            obtain ⟨u113, hf1908, h⟩ := Option.bind_eq_some_iff.mp h
            refine mg_Ev.call (y := 185) (as := [.ref 7, .int v109, .int 1, .int a1]) (rest := []) (v := none) (w1 := (hp u113 fL fD, c, z)) rfl rfl (Nat.le_of_ble_eq_true rfl) ((ev_T_put_6 hf1908).deep (by decide)) ?_
            refine mg_Ev.go 6 (pc' := 119) (loc' := [some (.ref 1), some (.int a0), some (.int a1), some (.int a2), some (.int a3), some (.int v109)]) (st' := [.int a2, .int 2, .int v109, .ref 7]) (w' := (hp u113 fL fD, c, z)) rfl ?_
            obtain ⟨u114, hf1909, h⟩ := Option.bind_eq_some_iff.mp h
            refine mg_Ev.call (y := 185) (as := [.ref 7, .int v109, .int 2, .int a2]) (rest := []) (v := none) (w1 := (hp u114 fL fD, c, z)) rfl rfl (Nat.le_of_ble_eq_true rfl) ((ev_T_put_6 hf1909).deep (by decide)) ?_
            refine mg_Ev.go 6 (pc' := 134) (loc' := [some (.ref 1), some (.int a0), some (.int a1), some (.int a2), some (.int a3), some (.int v109)]) (st' := [.int a3, .int 3, .int v109, .ref 7]) (w' := (hp u114 fL fD, c, z)) rfl ?_
            obtain ⟨u115, hf1910, h⟩ := Option.bind_eq_some_iff.mp h
            refine mg_Ev.call (y := 185) (as := [.ref 7, .int v109, .int 3, .int a3]) (rest := []) (v := none) (w1 := (hp u115 fL fD, c, z)) rfl rfl (Nat.le_of_ble_eq_true rfl) ((ev_T_put_6 hf1910).deep (by decide)) ?_
            refine mg_Ev.go 1 (pc' := 139) (loc' := [some (.ref 1), some (.int a0), some (.int a1), some (.int a2), some (.int a3), some (.int v109)]) (st' := [.int v109]) (w' := (hp u115 fL fD, c, z)) rfl ?_
            cases h
            exact mg_Ev.fin rfl rfl rfl
          · rw [if_neg hc1904] at h
            cases h
            exact mg_Ev.fin rfl rfl rfl
    · cases h
      exact mg_Ev.callX (y := 42) (as := [.ref 1, .int a1]) (rest := []) rfl rfl (Nat.le_of_ble_eq_true rfl) ((ev_C_requireCountry hf1898).deep (by decide)) rfl
  · cases h
    exact mg_Ev.callX (y := 41) (as := [.ref 1, .int a0]) (rest := []) rfl rfl (Nat.le_of_ble_eq_true rfl) ((ev_C_requireHeading hf1897).deep (by decide)) rfl

def T_has_6 (a0 : Int32) (u : mg_Rg) : Option (Int32) :=
  if a0 < 0 then
  some 0
  else
  (T_count_6 u).bind fun v116 =>
    if v116 ≤ a0 then
    some 0
    else
    some 1

set_option maxRecDepth 10000 in
set_option maxHeartbeats 4000000 in
theorem ev_T_has_6 {sc : mg_Sc} {c z : Nat} {fL : Nat → Int64} {fD : Nat → UInt64} {a0 : Int32} {u : mg_Rg} {v : Int32} (h : T_has_6 a0 u = some v) : mg_Ev sc 1 182 0 (mg_entry 182 [.ref 7, .int a0]) [] (hp u fL fD, c, z) (.inl (some (.int v)), (hp u fL fD, c, z)) := by
  unfold T_has_6 at h
  show mg_Ev _ _ _ 0 [some (.ref 7), some (.int a0)] [] _ _
  refine mg_Ev.go 1 (pc' := 1) (loc' := [some (.ref 7), some (.int a0)]) (st' := [.int a0]) (w' := (hp u fL fD, c, z)) rfl ?_
  refine mg_Ev.br (P := a0 < 0) (t := 16) (nx := 4) (st' := []) rfl rfl rfl rfl (fun hc1911 => ?_) (fun hc1911 => ?_)
  · rw [if_pos hc1911] at h
    refine mg_Ev.go 1 (pc' := 17) (loc' := [some (.ref 7), some (.int a0)]) (st' := [.int 0]) (w' := (hp u fL fD, c, z)) rfl ?_
    cases h
    exact mg_Ev.fin rfl rfl rfl
  · rw [if_neg hc1911] at h
    refine mg_Ev.go 2 (pc' := 6) (loc' := [some (.ref 7), some (.int a0)]) (st' := [.ref 7, .int a0]) (w' := (hp u fL fD, c, z)) rfl ?_
    obtain ⟨v116, hf1912, h⟩ := Option.bind_eq_some_iff.mp h
    refine mg_Ev.call (y := 181) (as := [.ref 7]) (rest := [.int a0]) (v := some (.int v116)) (w1 := (hp u fL fD, c, z)) rfl rfl (Nat.le_of_ble_eq_true rfl) ((ev_T_count_6 hf1912).deep (by decide)) ?_
    refine mg_Ev.br (P := v116 ≤ a0) (t := 16) (nx := 12) (st' := []) rfl rfl rfl rfl (fun hc1913 => ?_) (fun hc1913 => ?_)
    · rw [if_pos hc1913] at h
      refine mg_Ev.go 1 (pc' := 17) (loc' := [some (.ref 7), some (.int a0)]) (st' := [.int 0]) (w' := (hp u fL fD, c, z)) rfl ?_
      cases h
      exact mg_Ev.fin rfl rfl rfl
    · rw [if_neg hc1913] at h
      refine mg_Ev.go 2 (pc' := 17) (loc' := [some (.ref 7), some (.int a0)]) (st' := [.int 1]) (w' := (hp u fL fD, c, z)) rfl ?_
      cases h
      exact mg_Ev.fin rfl rfl rfl

def T_get_6 (a0 : Int32) (a1 : Int32) (u : mg_Rg) : Option (Int32) :=
  if a0 < 0 then
  some 0
  else
  if 10 ≤ a0 then
    some 0
    else
    if a1 < 0 then
      some 0
      else
      if a1 < 4 then
        if ((1 + (a0 * 4)) + a1) < 0 then
          some 0
          else
          if 41 ≤ ((1 + (a0 * 4)) + a1) then
            some 0
            else
            if ((1 + (a0 * 4)) + a1) < 0 ∨ 41 ≤ ((1 + (a0 * 4)) + a1).toNatClampNeg then none else
              some (u 7 (((1 + (a0 * 4)) + a1).toNatClampNeg))
        else
        some 0

set_option maxRecDepth 10000 in
set_option maxHeartbeats 4000000 in
theorem ev_T_get_6 {sc : mg_Sc} {c z : Nat} {fL : Nat → Int64} {fD : Nat → UInt64} {a0 : Int32} {a1 : Int32} {u : mg_Rg} {v : Int32} (h : T_get_6 a0 a1 u = some v) : mg_Ev sc 0 184 0 (mg_entry 184 [.ref 7, .int a0, .int a1]) [] (hp u fL fD, c, z) (.inl (some (.int v)), (hp u fL fD, c, z)) := by
  unfold T_get_6 at h
  show mg_Ev _ _ _ 0 [some (.ref 7), some (.int a0), some (.int a1), none] [] _ _
  refine mg_Ev.go 1 (pc' := 1) (loc' := [some (.ref 7), some (.int a0), some (.int a1), none]) (st' := [.int a0]) (w' := (hp u fL fD, c, z)) rfl ?_
  refine mg_Ev.br (P := a0 < 0) (t := 24) (nx := 4) (st' := []) rfl rfl rfl rfl (fun hc1914 => ?_) (fun hc1914 => ?_)
  · rw [if_pos hc1914] at h
    refine mg_Ev.go 1 (pc' := 25) (loc' := [some (.ref 7), some (.int a0), some (.int a1), none]) (st' := [.int 0]) (w' := (hp u fL fD, c, z)) rfl ?_
    cases h
    exact mg_Ev.fin rfl rfl rfl
  · rw [if_neg hc1914] at h
    refine mg_Ev.go 3 (pc' := 9) (loc' := [some (.ref 7), some (.int a0), some (.int a1), none]) (st' := [.int 10, .int a0]) (w' := (hp u fL fD, c, z)) rfl ?_
    refine mg_Ev.br (P := 10 ≤ a0) (t := 24) (nx := 12) (st' := []) rfl rfl rfl rfl (fun hc1915 => ?_) (fun hc1915 => ?_)
    · rw [if_pos hc1915] at h
      refine mg_Ev.go 1 (pc' := 25) (loc' := [some (.ref 7), some (.int a0), some (.int a1), none]) (st' := [.int 0]) (w' := (hp u fL fD, c, z)) rfl ?_
      cases h
      exact mg_Ev.fin rfl rfl rfl
    · rw [if_neg hc1915] at h
      refine mg_Ev.go 1 (pc' := 13) (loc' := [some (.ref 7), some (.int a0), some (.int a1), none]) (st' := [.int a1]) (w' := (hp u fL fD, c, z)) rfl ?_
      refine mg_Ev.br (P := a1 < 0) (t := 24) (nx := 16) (st' := []) rfl rfl rfl rfl (fun hc1916 => ?_) (fun hc1916 => ?_)
      · rw [if_pos hc1916] at h
        refine mg_Ev.go 1 (pc' := 25) (loc' := [some (.ref 7), some (.int a0), some (.int a1), none]) (st' := [.int 0]) (w' := (hp u fL fD, c, z)) rfl ?_
        cases h
        exact mg_Ev.fin rfl rfl rfl
      · rw [if_neg hc1916] at h
        refine mg_Ev.go 3 (pc' := 21) (loc' := [some (.ref 7), some (.int a0), some (.int a1), none]) (st' := [.int 4, .int a1]) (w' := (hp u fL fD, c, z)) rfl ?_
        refine mg_Ev.br (P := a1 < 4) (t := 26) (nx := 24) (st' := []) rfl rfl rfl rfl (fun hc1917 => ?_) (fun hc1917 => ?_)
        · rw [if_pos hc1917] at h
          refine mg_Ev.go 10 (pc' := 38) (loc' := [some (.ref 7), some (.int a0), some (.int a1), some (.int ((1 + (a0 * 4)) + a1))]) (st' := [.int ((1 + (a0 * 4)) + a1)]) (w' := (hp u fL fD, c, z)) rfl ?_
          refine mg_Ev.br (P := ((1 + (a0 * 4)) + a1) < 0) (t := 59) (nx := 41) (st' := []) rfl rfl rfl rfl (fun hc1918 => ?_) (fun hc1918 => ?_)
          · rw [if_pos hc1918] at h
            refine mg_Ev.go 1 (pc' := 60) (loc' := [some (.ref 7), some (.int a0), some (.int a1), some (.int ((1 + (a0 * 4)) + a1))]) (st' := [.int 0]) (w' := (hp u fL fD, c, z)) rfl ?_
            cases h
            exact mg_Ev.fin rfl rfl rfl
          · rw [if_neg hc1918] at h
            refine mg_Ev.go 4 (pc' := 47) (loc' := [some (.ref 7), some (.int a0), some (.int a1), some (.int ((1 + (a0 * 4)) + a1))]) (st' := [.int 41, .int ((1 + (a0 * 4)) + a1)]) (w' := (hp u fL fD, c, z)) rfl ?_
            refine mg_Ev.br (P := 41 ≤ ((1 + (a0 * 4)) + a1)) (t := 59) (nx := 50) (st' := []) rfl rfl rfl rfl (fun hc1919 => ?_) (fun hc1919 => ?_)
            · rw [if_pos hc1919] at h
              refine mg_Ev.go 1 (pc' := 60) (loc' := [some (.ref 7), some (.int a0), some (.int a1), some (.int ((1 + (a0 * 4)) + a1))]) (st' := [.int 0]) (w' := (hp u fL fD, c, z)) rfl ?_
              cases h
              exact mg_Ev.fin rfl rfl rfl
            · rw [if_neg hc1919] at h
              refine mg_Ev.go 3 (pc' := 55) (loc' := [some (.ref 7), some (.int a0), some (.int a1), some (.int ((1 + (a0 * 4)) + a1))]) (st' := [.int ((1 + (a0 * 4)) + a1), .ref 8]) (w' := (hp u fL fD, c, z)) rfl ?_
              by_cases hb1920 : ((1 + (a0 * 4)) + a1) < 0 ∨ 41 ≤ ((1 + (a0 * 4)) + a1).toNatClampNeg
              · rw [if_pos hb1920] at h
                cases h
              · rw [if_neg hb1920] at h
                refine mg_Ev.iald (a := 7) (n := 41) (f := u 7) rfl (hpg_7 _ _ _) rfl hb1920 ?_
                refine mg_Ev.go 1 (pc' := 60) (loc' := [some (.ref 7), some (.int a0), some (.int a1), some (.int ((1 + (a0 * 4)) + a1))]) (st' := [.int (u 7 (((1 + (a0 * 4)) + a1).toNatClampNeg))]) (w' := (hp u fL fD, c, z)) rfl ?_
                cases h
                exact mg_Ev.fin rfl rfl rfl
        · rw [if_neg hc1917] at h
          refine mg_Ev.go 1 (pc' := 25) (loc' := [some (.ref 7), some (.int a0), some (.int a1), none]) (st' := [.int 0]) (w' := (hp u fL fD, c, z)) rfl ?_
          cases h
          exact mg_Ev.fin rfl rfl rfl

def T_remove_6_L27 : Nat → Int32 → Int32 → Int32 → mg_Rg → Option (mg_Rg)
  | 0, _, _, _, _ => none
  | n + 1, x2, x3, x4, u =>
    if 4 ≤ x4 then
    some (u)
    else
    (T_get_6 (x3 + 1) x4 u).bind fun v120 =>
      (T_put_6 x3 x4 v120 u).bind fun u121 =>
      T_remove_6_L27 n x2 x3 (x4 + 1) u121
set_option maxRecDepth 10000 in
set_option maxHeartbeats 4000000 in
theorem ev_T_remove_6_L27 {sc : mg_Sc} {c z : Nat} {fL : Nat → Int64} {fD : Nat → UInt64} : ∀ (n : Nat) (x2 : Int32) (x3 : Int32) (x4 : Int32) (u : mg_Rg) (res : mg_Rg), T_remove_6_L27 n x2 x3 x4 u = some res → ∀ r, (match res with | yu => mg_Ev sc 1 188 58 [some (.ref 7), none, some (.int x2), some (.int x3), none] [] (hp yu fL fD, c, z) r) → mg_Ev sc 1 188 27 [some (.ref 7), none, some (.int x2), some (.int x3), some (.int x4)] [] (hp u fL fD, c, z) r := by
  intro n
  induction n with
  | zero => intro x2 x3 x4 u res h; cases h
  | succ n ih =>
    intro x2 x3 x4 u res h r K
    unfold T_remove_6_L27 at h
    refine mg_Ev.go 3 (pc' := 33) (loc' := [some (.ref 7), none, some (.int x2), some (.int x3), some (.int x4)]) (st' := [.int 4, .int x4]) (w' := (hp u fL fD, c, z)) rfl ?_
    refine mg_Ev.br (P := 4 ≤ x4) (t := 58) (nx := 36) (st' := []) rfl rfl rfl rfl (fun hc1921 => ?_) (fun hc1921 => ?_)
    · rw [if_pos hc1921] at h
      cases h
      exact mg_Ev.more (loc := [some (.ref 7), none, some (.int x2), some (.int x3), none]) K ⟨rfl, ⟨rfl, ⟨rfl, trivial⟩⟩⟩
    · rw [if_neg hc1921] at h
      refine mg_Ev.go 8 (pc' := 46) (loc' := [some (.ref 7), none, some (.int x2), some (.int x3), some (.int x4)]) (st' := [.int x4, .int (x3 + 1), .ref 7, .int x4, .int x3, .ref 7]) (w' := (hp u fL fD, c, z)) rfl ?_
      obtain ⟨v120, hf1922, h⟩ := Option.bind_eq_some_iff.mp h
      refine mg_Ev.call (y := 184) (as := [.ref 7, .int (x3 + 1), .int x4]) (rest := [.int x4, .int x3, .ref 7]) (v := some (.int v120)) (w1 := (hp u fL fD, c, z)) rfl rfl (Nat.le_of_ble_eq_true rfl) ((ev_T_get_6 hf1922).deep (by decide)) ?_
      obtain ⟨u121, hf1923, h⟩ := Option.bind_eq_some_iff.mp h
      refine mg_Ev.call (y := 185) (as := [.ref 7, .int x3, .int x4, .int v120]) (rest := []) (v := none) (w1 := (hp u121 fL fD, c, z)) rfl rfl (Nat.le_of_ble_eq_true rfl) ((ev_T_put_6 hf1923).deep (by decide)) ?_
      refine mg_Ev.go 2 (pc' := 27) (loc' := [some (.ref 7), none, some (.int x2), some (.int x3), some (.int (x4 + 1))]) (st' := []) (w' := (hp u121 fL fD, c, z)) rfl ?_
      exact mg_Ev.more (loc := [some (.ref 7), none, some (.int x2), some (.int x3), some (.int (x4 + 1))]) (ih _ _ _ _ _ h _ K) ⟨rfl, ⟨rfl, ⟨rfl, ⟨rfl, trivial⟩⟩⟩⟩

def T_remove_6_L19 : Nat → Int32 → Int32 → mg_Rg → Option (mg_Rg)
  | 0, _, _, _ => none
  | n + 1, x2, x3, u =>
    if x2 ≤ x3 then
    some (u)
    else
    (T_remove_6_L27 mg_F x2 x3 0 u).bind fun q1924 => match q1924 with
      | u122 =>
        T_remove_6_L19 n x2 (x3 + 1) u122
set_option maxRecDepth 10000 in
set_option maxHeartbeats 4000000 in
theorem ev_T_remove_6_L19 {sc : mg_Sc} {c z : Nat} {fL : Nat → Int64} {fD : Nat → UInt64} : ∀ (n : Nat) (x2 : Int32) (x3 : Int32) (u : mg_Rg) (res : mg_Rg), T_remove_6_L19 n x2 x3 u = some res → ∀ r, (match res with | yu => mg_Ev sc 1 188 64 [some (.ref 7), none, some (.int x2), none, none] [] (hp yu fL fD, c, z) r) → mg_Ev sc 1 188 19 [some (.ref 7), none, some (.int x2), some (.int x3), none] [] (hp u fL fD, c, z) r := by
  intro n
  induction n with
  | zero => intro x2 x3 u res h; cases h
  | succ n ih =>
    intro x2 x3 u res h r K
    unfold T_remove_6_L19 at h
    refine mg_Ev.go 2 (pc' := 21) (loc' := [some (.ref 7), none, some (.int x2), some (.int x3), none]) (st' := [.int x2, .int x3]) (w' := (hp u fL fD, c, z)) rfl ?_
    refine mg_Ev.br (P := x2 ≤ x3) (t := 64) (nx := 24) (st' := []) rfl rfl rfl rfl (fun hc1925 => ?_) (fun hc1925 => ?_)
    · rw [if_pos hc1925] at h
      cases h
      exact mg_Ev.more (loc := [some (.ref 7), none, some (.int x2), none, none]) K ⟨rfl, ⟨rfl, trivial⟩⟩
    · rw [if_neg hc1925] at h
      refine mg_Ev.go 2 (pc' := 27) (loc' := [some (.ref 7), none, some (.int x2), some (.int x3), some (.int 0)]) (st' := []) (w' := (hp u fL fD, c, z)) rfl ?_
      obtain ⟨u122, hl1926, h⟩ := Option.bind_eq_some_iff.mp h
      try dsimp only at h
      refine mg_Ev.more (loc := [some (.ref 7), none, some (.int x2), some (.int x3), some (.int 0)]) (ev_T_remove_6_L27 _ _ _ _ _ _ hl1926 _ ?_) ⟨rfl, ⟨rfl, ⟨rfl, ⟨rfl, trivial⟩⟩⟩⟩
      show mg_Ev _ _ _ 58 [some (.ref 7), none, some (.int x2), some (.int x3), none] [] (hp u122 fL fD, c, z) _
      refine mg_Ev.go 2 (pc' := 19) (loc' := [some (.ref 7), none, some (.int x2), some (.int (x3 + 1)), none]) (st' := []) (w' := (hp u122 fL fD, c, z)) rfl ?_
      exact mg_Ev.more (loc := [some (.ref 7), none, some (.int x2), some (.int (x3 + 1)), none]) (ih _ _ _ _ h _ K) ⟨rfl, ⟨rfl, ⟨rfl, trivial⟩⟩⟩

def T_remove_6 (a0 : Int32) (u : mg_Rg) : Option (mg_Rg) :=
  (T_count_6 u).bind fun v119 =>
  if a0 < 0 then
  some u
  else
  if a0 ≤ (v119 - 1) then
    (T_remove_6_L19 mg_F (v119 - 1) a0 u).bind fun q1927 => match q1927 with
      | u123 =>
        (T_setCount_6 (v119 - 1) u123).bind fun u124 =>
        some u124
    else
    some u

set_option maxRecDepth 10000 in
set_option maxHeartbeats 4000000 in
theorem ev_T_remove_6 {sc : mg_Sc} {c z : Nat} {fL : Nat → Int64} {fD : Nat → UInt64} {a0 : Int32} {u : mg_Rg} {v : mg_Rg} (h : T_remove_6 a0 u = some v) : mg_Ev sc 1 188 0 (mg_entry 188 [.ref 7, .int a0]) [] (hp u fL fD, c, z) (.inl none, (hp v fL fD, c, z)) := by
  unfold T_remove_6 at h
  show mg_Ev _ _ _ 0 [some (.ref 7), some (.int a0), none, none, none] [] _ _
  refine mg_Ev.go 1 (pc' := 1) (loc' := [some (.ref 7), some (.int a0), none, none, none]) (st' := [.ref 7]) (w' := (hp u fL fD, c, z)) rfl ?_
  obtain ⟨v119, hf1928, h⟩ := Option.bind_eq_some_iff.mp h
  refine mg_Ev.call (y := 181) (as := [.ref 7]) (rest := []) (v := some (.int v119)) (w1 := (hp u fL fD, c, z)) rfl rfl (Nat.le_of_ble_eq_true rfl) ((ev_T_count_6 hf1928).deep (by decide)) ?_
  refine mg_Ev.go 4 (pc' := 8) (loc' := [some (.ref 7), some (.int a0), some (.int (v119 - 1)), none, none]) (st' := [.int a0]) (w' := (hp u fL fD, c, z)) rfl ?_
  refine mg_Ev.br (P := a0 < 0) (t := 16) (nx := 11) (st' := []) rfl rfl rfl rfl (fun hc1929 => ?_) (fun hc1929 => ?_)
  · rw [if_pos hc1929] at h
    cases h
    exact mg_Ev.fin rfl rfl rfl
  · rw [if_neg hc1929] at h
    refine mg_Ev.go 2 (pc' := 13) (loc' := [some (.ref 7), some (.int a0), some (.int (v119 - 1)), none, none]) (st' := [.int (v119 - 1), .int a0]) (w' := (hp u fL fD, c, z)) rfl ?_
    refine mg_Ev.br (P := a0 ≤ (v119 - 1)) (t := 17) (nx := 16) (st' := []) rfl rfl rfl rfl (fun hc1930 => ?_) (fun hc1930 => ?_)
    · rw [if_pos hc1930] at h
      refine mg_Ev.go 2 (pc' := 19) (loc' := [some (.ref 7), some (.int a0), some (.int (v119 - 1)), some (.int a0), none]) (st' := []) (w' := (hp u fL fD, c, z)) rfl ?_
      obtain ⟨u123, hl1931, h⟩ := Option.bind_eq_some_iff.mp h
      try dsimp only at h
      refine mg_Ev.more (loc := [some (.ref 7), none, some (.int (v119 - 1)), some (.int a0), none]) (ev_T_remove_6_L19 _ _ _ _ _ hl1931 _ ?_) ⟨rfl, ⟨rfl, ⟨rfl, trivial⟩⟩⟩
      show mg_Ev _ _ _ 64 [some (.ref 7), none, some (.int (v119 - 1)), none, none] [] (hp u123 fL fD, c, z) _
      refine mg_Ev.go 2 (pc' := 66) (loc' := [some (.ref 7), none, some (.int (v119 - 1)), none, none]) (st' := [.int (v119 - 1), .ref 7]) (w' := (hp u123 fL fD, c, z)) rfl ?_
      obtain ⟨u124, hf1932, h⟩ := Option.bind_eq_some_iff.mp h
      refine mg_Ev.call (y := 193) (as := [.ref 7, .int (v119 - 1)]) (rest := []) (v := none) (w1 := (hp u124 fL fD, c, z)) rfl rfl (Nat.le_of_ble_eq_true rfl) ((ev_T_setCount_6 hf1932).deep (by decide)) ?_
      cases h
      exact mg_Ev.fin rfl rfl rfl
    · rw [if_neg hc1930] at h
      cases h
      exact mg_Ev.fin rfl rfl rfl

def C_drop (a0 : Int32) (u : mg_Rg) : Option ((Int32 ⊕ Nat) × mg_Rg) :=
  (T_has_6 a0 u).bind fun v117 =>
  if v117 = 0 then
  some (.inr 0, u)
  else
  (C_keepForUndo u).bind fun u118 =>
    (T_remove_6 a0 u118).bind fun u125 =>
    (T_count_6 u125).bind fun v126 =>
    some (.inl v126, u125)

set_option maxRecDepth 10000 in
set_option maxHeartbeats 4000000 in
theorem ev_C_drop {sc : mg_Sc} {c z : Nat} {fL : Nat → Int64} {fD : Nat → UInt64} {a0 : Int32} {u : mg_Rg} {p : (Int32 ⊕ Nat) × mg_Rg} (h : C_drop a0 u = some p) : mg_Ev sc 6 6 0 (mg_entry 6 [.ref 1, .int a0]) [] (hp u fL fD, c, z) (xri p.1, xw p.1 (hp p.2 fL fD) c z) := by
  unfold C_drop at h
  show mg_Ev _ _ _ 0 [some (.ref 1), some (.int a0)] [] _ _
  refine mg_Ev.go 4 (pc' := 8) (loc' := [some (.ref 1), some (.int a0)]) (st' := [.int a0, .ref 7]) (w' := (hp u fL fD, c, z)) rfl ?_
  obtain ⟨v117, hf1933, h⟩ := Option.bind_eq_some_iff.mp h
  refine mg_Ev.call (y := 182) (as := [.ref 7, .int a0]) (rest := []) (v := some (.int v117)) (w1 := (hp u fL fD, c, z)) rfl rfl (Nat.le_of_ble_eq_true rfl) ((ev_T_has_6 hf1933).deep (by decide)) ?_
  refine mg_Ev.br (P := v117 = 0) (t := 14) (nx := 24) (st' := []) rfl rfl rfl rfl (fun hc1934 => ?_) (fun hc1934 => ?_)
  · rw [if_pos hc1934] at h
    cases h
    exact mg_Ev.fin rfl rfl rfl
  · rw [if_neg hc1934] at h
    refine mg_Ev.go 1 (pc' := 25) (loc' := [some (.ref 1), some (.int a0)]) (st' := [.ref 1]) (w' := (hp u fL fD, c, z)) rfl ?_
    obtain ⟨u118, hf1935, h⟩ := Option.bind_eq_some_iff.mp h
    refine mg_Ev.call (y := 38) (as := [.ref 1]) (rest := []) (v := none) (w1 := (hp u118 fL fD, c, z)) rfl rfl (Nat.le_of_ble_eq_true rfl) ((ev_C_keepForUndo hf1935).deep (by decide)) ?_
    refine mg_Ev.go 4 (pc' := 36) (loc' := [some (.ref 1), some (.int a0)]) (st' := [.int a0, .ref 7]) (w' := (hp u118 fL fD, c, z)) rfl ?_
    obtain ⟨u125, hf1936, h⟩ := Option.bind_eq_some_iff.mp h
    refine mg_Ev.call (y := 188) (as := [.ref 7, .int a0]) (rest := []) (v := none) (w1 := (hp u125 fL fD, c, z)) rfl rfl (Nat.le_of_ble_eq_true rfl) ((ev_T_remove_6 hf1936).deep (by decide)) ?_
    refine mg_Ev.go 3 (pc' := 46) (loc' := [some (.ref 1), some (.int a0)]) (st' := [.ref 7]) (w' := (hp u125 fL fD, c, z)) rfl ?_
    obtain ⟨v126, hf1937, h⟩ := Option.bind_eq_some_iff.mp h
    refine mg_Ev.call (y := 181) (as := [.ref 7]) (rest := []) (v := some (.int v126)) (w1 := (hp u125 fL fD, c, z)) rfl rfl (Nat.le_of_ble_eq_true rfl) ((ev_T_count_6 hf1937).deep (by decide)) ?_
    cases h
    exact mg_Ev.fin rfl rfl rfl

def T_count_9 (u : mg_Rg) : Option (Int32) :=
  some (u 10 0)

set_option maxRecDepth 10000 in
set_option maxHeartbeats 4000000 in
theorem ev_T_count_9 {sc : mg_Sc} {c z : Nat} {fL : Nat → Int64} {fD : Nat → UInt64} {u : mg_Rg} {v : Int32} (h : T_count_9 u = some v) : mg_Ev sc 0 181 0 (mg_entry 181 [.ref 10]) [] (hp u fL fD, c, z) (.inl (some (.int v)), (hp u fL fD, c, z)) := by
  unfold T_count_9 at h
  show mg_Ev _ _ _ 0 [some (.ref 10)] [] _ _
  refine mg_Ev.go 3 (pc' := 5) (loc' := [some (.ref 10)]) (st' := [.int 19]) (w' := (hp u fL fD, c, z)) rfl ?_
  refine mg_Ev.br (P := (19 : Int32) ≤ 0) (t := 17) (nx := 8) (st' := []) rfl rfl rfl rfl (fun q => absurd q (by decide)) (fun _ => ?_)
  refine mg_Ev.go 3 (pc' := 13) (loc' := [some (.ref 10)]) (st' := [.int 0, .ref 11]) (w' := (hp u fL fD, c, z)) rfl ?_
  refine mg_Ev.iald (a := 10) (n := 19) (f := u 10) (j := 0) rfl (hpg_10 _ _ _) (by decide) (by decide) ?_
  refine mg_Ev.go 1 (pc' := 18) (loc' := [some (.ref 10)]) (st' := [.int (u 10 0)]) (w' := (hp u fL fD, c, z)) rfl ?_
  cases h
  exact mg_Ev.fin rfl rfl rfl

def T_isFull_9 (u : mg_Rg) : Option (Int32) :=
  (T_count_9 u).bind fun v132 =>
  if v132 < 6 then
  some 0
  else
  some 1

set_option maxRecDepth 10000 in
set_option maxHeartbeats 4000000 in
theorem ev_T_isFull_9 {sc : mg_Sc} {c z : Nat} {fL : Nat → Int64} {fD : Nat → UInt64} {u : mg_Rg} {v : Int32} (h : T_isFull_9 u = some v) : mg_Ev sc 1 183 0 (mg_entry 183 [.ref 10]) [] (hp u fL fD, c, z) (.inl (some (.int v)), (hp u fL fD, c, z)) := by
  unfold T_isFull_9 at h
  show mg_Ev _ _ _ 0 [some (.ref 10)] [] _ _
  refine mg_Ev.go 1 (pc' := 1) (loc' := [some (.ref 10)]) (st' := [.ref 10]) (w' := (hp u fL fD, c, z)) rfl ?_
  obtain ⟨v132, hf1939, h⟩ := Option.bind_eq_some_iff.mp h
  refine mg_Ev.call (y := 181) (as := [.ref 10]) (rest := []) (v := some (.int v132)) (w1 := (hp u fL fD, c, z)) rfl rfl (Nat.le_of_ble_eq_true rfl) ((ev_T_count_9 hf1939).deep (by decide)) ?_
  refine mg_Ev.go 2 (pc' := 8) (loc' := [some (.ref 10)]) (st' := [.int 6, .int v132]) (w' := (hp u fL fD, c, z)) rfl ?_
  refine mg_Ev.br (P := v132 < 6) (t := 15) (nx := 11) (st' := []) rfl rfl rfl rfl (fun hc1940 => ?_) (fun hc1940 => ?_)
  · rw [if_pos hc1940] at h
    refine mg_Ev.go 1 (pc' := 16) (loc' := [some (.ref 10)]) (st' := [.int 0]) (w' := (hp u fL fD, c, z)) rfl ?_
    cases h
    exact mg_Ev.fin rfl rfl rfl
  · rw [if_neg hc1940] at h
    refine mg_Ev.go 2 (pc' := 16) (loc' := [some (.ref 10)]) (st' := [.int 1]) (w' := (hp u fL fD, c, z)) rfl ?_
    cases h
    exact mg_Ev.fin rfl rfl rfl

def T_put_9 (a0 : Int32) (a1 : Int32) (a2 : Int32) (u : mg_Rg) : Option (mg_Rg) :=
  if a0 < 0 then
  some u
  else
  if 6 ≤ a0 then
    some u
    else
    if a1 < 0 then
      some u
      else
      if a1 < 3 then
        if ((1 + (a0 * 3)) + a1) < 0 then
          some u
          else
          if 19 ≤ ((1 + (a0 * 3)) + a1) then
            some u
            else
            if ((1 + (a0 * 3)) + a1) < 0 ∨ 19 ≤ ((1 + (a0 * 3)) + a1).toNatClampNeg then none else
              some (mg_up u 10 (((1 + (a0 * 3)) + a1).toNatClampNeg) a2)
        else
        some u

set_option maxRecDepth 10000 in
set_option maxHeartbeats 4000000 in
theorem ev_T_put_9 {sc : mg_Sc} {c z : Nat} {fL : Nat → Int64} {fD : Nat → UInt64} {a0 : Int32} {a1 : Int32} {a2 : Int32} {u : mg_Rg} {v : mg_Rg} (h : T_put_9 a0 a1 a2 u = some v) : mg_Ev sc 0 185 0 (mg_entry 185 [.ref 10, .int a0, .int a1, .int a2]) [] (hp u fL fD, c, z) (.inl none, (hp v fL fD, c, z)) := by
  unfold T_put_9 at h
  show mg_Ev _ _ _ 0 [some (.ref 10), some (.int a0), some (.int a1), some (.int a2), none] [] _ _
  refine mg_Ev.go 1 (pc' := 1) (loc' := [some (.ref 10), some (.int a0), some (.int a1), some (.int a2), none]) (st' := [.int a0]) (w' := (hp u fL fD, c, z)) rfl ?_
  refine mg_Ev.br (P := a0 < 0) (t := 24) (nx := 4) (st' := []) rfl rfl rfl rfl (fun hc1941 => ?_) (fun hc1941 => ?_)
  · rw [if_pos hc1941] at h
    cases h
    exact mg_Ev.fin rfl rfl rfl
  · rw [if_neg hc1941] at h
    refine mg_Ev.go 3 (pc' := 9) (loc' := [some (.ref 10), some (.int a0), some (.int a1), some (.int a2), none]) (st' := [.int 6, .int a0]) (w' := (hp u fL fD, c, z)) rfl ?_
    refine mg_Ev.br (P := 6 ≤ a0) (t := 24) (nx := 12) (st' := []) rfl rfl rfl rfl (fun hc1942 => ?_) (fun hc1942 => ?_)
    · rw [if_pos hc1942] at h
      cases h
      exact mg_Ev.fin rfl rfl rfl
    · rw [if_neg hc1942] at h
      refine mg_Ev.go 1 (pc' := 13) (loc' := [some (.ref 10), some (.int a0), some (.int a1), some (.int a2), none]) (st' := [.int a1]) (w' := (hp u fL fD, c, z)) rfl ?_
      refine mg_Ev.br (P := a1 < 0) (t := 24) (nx := 16) (st' := []) rfl rfl rfl rfl (fun hc1943 => ?_) (fun hc1943 => ?_)
      · rw [if_pos hc1943] at h
        cases h
        exact mg_Ev.fin rfl rfl rfl
      · rw [if_neg hc1943] at h
        refine mg_Ev.go 3 (pc' := 21) (loc' := [some (.ref 10), some (.int a0), some (.int a1), some (.int a2), none]) (st' := [.int 3, .int a1]) (w' := (hp u fL fD, c, z)) rfl ?_
        refine mg_Ev.br (P := a1 < 3) (t := 25) (nx := 24) (st' := []) rfl rfl rfl rfl (fun hc1944 => ?_) (fun hc1944 => ?_)
        · rw [if_pos hc1944] at h
          refine mg_Ev.go 10 (pc' := 39) (loc' := [some (.ref 10), some (.int a0), some (.int a1), some (.int a2), some (.int ((1 + (a0 * 3)) + a1))]) (st' := [.int ((1 + (a0 * 3)) + a1)]) (w' := (hp u fL fD, c, z)) rfl ?_
          refine mg_Ev.br (P := ((1 + (a0 * 3)) + a1) < 0) (t := 60) (nx := 42) (st' := []) rfl rfl rfl rfl (fun hc1945 => ?_) (fun hc1945 => ?_)
          · rw [if_pos hc1945] at h
            cases h
            exact mg_Ev.fin rfl rfl rfl
          · rw [if_neg hc1945] at h
            refine mg_Ev.go 4 (pc' := 49) (loc' := [some (.ref 10), some (.int a0), some (.int a1), some (.int a2), some (.int ((1 + (a0 * 3)) + a1))]) (st' := [.int 19, .int ((1 + (a0 * 3)) + a1)]) (w' := (hp u fL fD, c, z)) rfl ?_
            refine mg_Ev.br (P := 19 ≤ ((1 + (a0 * 3)) + a1)) (t := 60) (nx := 52) (st' := []) rfl rfl rfl rfl (fun hc1946 => ?_) (fun hc1946 => ?_)
            · rw [if_pos hc1946] at h
              cases h
              exact mg_Ev.fin rfl rfl rfl
            · rw [if_neg hc1946] at h
              refine mg_Ev.go 4 (pc' := 59) (loc' := [some (.ref 10), some (.int a0), some (.int a1), some (.int a2), some (.int ((1 + (a0 * 3)) + a1))]) (st' := [.int a2, .int ((1 + (a0 * 3)) + a1), .ref 11]) (w' := (hp u fL fD, c, z)) rfl ?_
              by_cases hb1947 : ((1 + (a0 * 3)) + a1) < 0 ∨ 19 ≤ ((1 + (a0 * 3)) + a1).toNatClampNeg
              · rw [if_pos hb1947] at h
                cases h
              · rw [if_neg hb1947] at h
                refine mg_Ev.iast (a := 10) (n := 19) rfl (hpg_10 _ _ _) rfl hb1947 (hpa_10 _ _ _ _ _ _ _) ?_
                cases h
                exact mg_Ev.fin rfl rfl rfl
        · rw [if_neg hc1944] at h
          cases h
          exact mg_Ev.fin rfl rfl rfl

def T_setCount_9 (a0 : Int32) (u : mg_Rg) : Option (mg_Rg) :=
  some (mg_up u 10 0 a0)

set_option maxRecDepth 10000 in
set_option maxHeartbeats 4000000 in
theorem ev_T_setCount_9 {sc : mg_Sc} {c z : Nat} {fL : Nat → Int64} {fD : Nat → UInt64} {a0 : Int32} {u : mg_Rg} {v : mg_Rg} (h : T_setCount_9 a0 u = some v) : mg_Ev sc 0 193 0 (mg_entry 193 [.ref 10, .int a0]) [] (hp u fL fD, c, z) (.inl none, (hp v fL fD, c, z)) := by
  unfold T_setCount_9 at h
  show mg_Ev _ _ _ 0 [some (.ref 10), some (.int a0)] [] _ _
  refine mg_Ev.go 3 (pc' := 5) (loc' := [some (.ref 10), some (.int a0)]) (st' := [.int 19]) (w' := (hp u fL fD, c, z)) rfl ?_
  refine mg_Ev.br (P := (19 : Int32) ≤ 0) (t := 15) (nx := 8) (st' := []) rfl rfl rfl rfl (fun q => absurd q (by decide)) (fun _ => ?_)
  refine mg_Ev.go 4 (pc' := 14) (loc' := [some (.ref 10), some (.int a0)]) (st' := [.int a0, .int 0, .ref 11]) (w' := (hp u fL fD, c, z)) rfl ?_
  refine mg_Ev.iast (a := 10) (n := 19) (j := 0) rfl (hpg_10 _ _ _) (by decide) (by decide) (hpa_10 _ _ _ _ _ _ _) ?_
  cases h
  exact mg_Ev.fin rfl rfl rfl

def T_add_9_L17 : Nat → Int32 → Int32 → mg_Rg → Option (mg_Rg)
  | 0, _, _, _ => none
  | n + 1, x1, x2, u =>
    if 3 ≤ x2 then
    some (u)
    else
    (T_put_9 x1 x2 0 u).bind fun u136 =>
      T_add_9_L17 n x1 (x2 + 1) u136
set_option maxRecDepth 10000 in
set_option maxHeartbeats 4000000 in
theorem ev_T_add_9_L17 {sc : mg_Sc} {c z : Nat} {fL : Nat → Int64} {fD : Nat → UInt64} : ∀ (n : Nat) (x1 : Int32) (x2 : Int32) (u : mg_Rg) (res : mg_Rg), T_add_9_L17 n x1 x2 u = some res → ∀ r, (match res with | yu => mg_Ev sc 1 187 38 [some (.ref 10), some (.int x1), none] [] (hp yu fL fD, c, z) r) → mg_Ev sc 1 187 17 [some (.ref 10), some (.int x1), some (.int x2)] [] (hp u fL fD, c, z) r := by
  intro n
  induction n with
  | zero => intro x1 x2 u res h; cases h
  | succ n ih =>
    intro x1 x2 u res h r K
    unfold T_add_9_L17 at h
    refine mg_Ev.go 3 (pc' := 22) (loc' := [some (.ref 10), some (.int x1), some (.int x2)]) (st' := [.int 3, .int x2]) (w' := (hp u fL fD, c, z)) rfl ?_
    refine mg_Ev.br (P := 3 ≤ x2) (t := 38) (nx := 25) (st' := []) rfl rfl rfl rfl (fun hc1949 => ?_) (fun hc1949 => ?_)
    · rw [if_pos hc1949] at h
      cases h
      exact mg_Ev.more (loc := [some (.ref 10), some (.int x1), none]) K ⟨rfl, ⟨rfl, trivial⟩⟩
    · rw [if_neg hc1949] at h
      refine mg_Ev.go 4 (pc' := 29) (loc' := [some (.ref 10), some (.int x1), some (.int x2)]) (st' := [.int 0, .int x2, .int x1, .ref 10]) (w' := (hp u fL fD, c, z)) rfl ?_
      obtain ⟨u136, hf1950, h⟩ := Option.bind_eq_some_iff.mp h
      refine mg_Ev.call (y := 185) (as := [.ref 10, .int x1, .int x2, .int 0]) (rest := []) (v := none) (w1 := (hp u136 fL fD, c, z)) rfl rfl (Nat.le_of_ble_eq_true rfl) ((ev_T_put_9 hf1950).deep (by decide)) ?_
      refine mg_Ev.go 2 (pc' := 17) (loc' := [some (.ref 10), some (.int x1), some (.int (x2 + 1))]) (st' := []) (w' := (hp u136 fL fD, c, z)) rfl ?_
      exact mg_Ev.more (loc := [some (.ref 10), some (.int x1), some (.int (x2 + 1))]) (ih _ _ _ _ h _ K) ⟨rfl, ⟨rfl, ⟨rfl, trivial⟩⟩⟩

def T_add_9 (u : mg_Rg) : Option (Int32 × mg_Rg) :=
  (T_count_9 u).bind fun v135 =>
  if v135 < 6 then
  (T_add_9_L17 mg_F v135 0 u).bind fun q1951 => match q1951 with
    | u137 =>
      (T_setCount_9 (v135 + 1) u137).bind fun u138 =>
      some (v135, u138)
  else
  some ((-1), u)

set_option maxRecDepth 10000 in
set_option maxHeartbeats 4000000 in
theorem ev_T_add_9 {sc : mg_Sc} {c z : Nat} {fL : Nat → Int64} {fD : Nat → UInt64} {u : mg_Rg} {p : Int32 × mg_Rg} (h : T_add_9 u = some p) : mg_Ev sc 1 187 0 (mg_entry 187 [.ref 10]) [] (hp u fL fD, c, z) (.inl (some (.int p.1)), (hp p.2 fL fD, c, z)) := by
  unfold T_add_9 at h
  show mg_Ev _ _ _ 0 [some (.ref 10), none, none] [] _ _
  refine mg_Ev.go 1 (pc' := 1) (loc' := [some (.ref 10), none, none]) (st' := [.ref 10]) (w' := (hp u fL fD, c, z)) rfl ?_
  obtain ⟨v135, hf1952, h⟩ := Option.bind_eq_some_iff.mp h
  refine mg_Ev.call (y := 181) (as := [.ref 10]) (rest := []) (v := some (.int v135)) (w1 := (hp u fL fD, c, z)) rfl rfl (Nat.le_of_ble_eq_true rfl) ((ev_T_count_9 hf1952).deep (by decide)) ?_
  refine mg_Ev.go 4 (pc' := 10) (loc' := [some (.ref 10), some (.int v135), none]) (st' := [.int 6, .int v135]) (w' := (hp u fL fD, c, z)) rfl ?_
  refine mg_Ev.br (P := v135 < 6) (t := 15) (nx := 13) (st' := []) rfl rfl rfl rfl (fun hc1953 => ?_) (fun hc1953 => ?_)
  · rw [if_pos hc1953] at h
    refine mg_Ev.go 2 (pc' := 17) (loc' := [some (.ref 10), some (.int v135), some (.int 0)]) (st' := []) (w' := (hp u fL fD, c, z)) rfl ?_
    obtain ⟨u137, hl1954, h⟩ := Option.bind_eq_some_iff.mp h
    try dsimp only at h
    refine mg_Ev.more (loc := [some (.ref 10), some (.int v135), some (.int 0)]) (ev_T_add_9_L17 _ _ _ _ _ hl1954 _ ?_) ⟨rfl, ⟨rfl, ⟨rfl, trivial⟩⟩⟩
    show mg_Ev _ _ _ 38 [some (.ref 10), some (.int v135), none] [] (hp u137 fL fD, c, z) _
    refine mg_Ev.go 4 (pc' := 42) (loc' := [some (.ref 10), some (.int v135), none]) (st' := [.int (v135 + 1), .ref 10]) (w' := (hp u137 fL fD, c, z)) rfl ?_
    obtain ⟨u138, hf1955, h⟩ := Option.bind_eq_some_iff.mp h
    refine mg_Ev.call (y := 193) (as := [.ref 10, .int (v135 + 1)]) (rest := []) (v := none) (w1 := (hp u138 fL fD, c, z)) rfl rfl (Nat.le_of_ble_eq_true rfl) ((ev_T_setCount_9 hf1955).deep (by decide)) ?_
    refine mg_Ev.go 1 (pc' := 46) (loc' := [some (.ref 10), some (.int v135), none]) (st' := [.int v135]) (w' := (hp u138 fL fD, c, z)) rfl ?_
    cases h
    exact mg_Ev.fin rfl rfl rfl
  · rw [if_neg hc1953] at h
    refine mg_Ev.go 1 (pc' := 14) (loc' := [some (.ref 10), some (.int v135), none]) (st' := [.int (-1)]) (w' := (hp u fL fD, c, z)) rfl ?_
    cases h
    exact mg_Ev.fin rfl rfl rfl

def C_suspend (a0 : Int32) (a1 : Int32) (a2 : Int32) (u : mg_Rg) : Option ((Int32 ⊕ Nat) × mg_Rg) :=
  (C_requireHeading a0 u).bind fun p127 => match p127 with
  | (.inr ee, u129) => some (.inr ee, u129)
  | (.inl _, u129) =>
    (C_isWithin a1 0 999 u129).bind fun v130 =>
    if v130 = 0 then
    some (.inr 1, u129)
    else
    (C_isWithin a2 a1 999 u129).bind fun v131 =>
      if v131 = 0 then
      some (.inr 1, u129)
      else
      (T_isFull_9 u129).bind fun v133 =>
        if v133 = 0 then
        (C_keepForUndo u129).bind fun u134 =>
          (T_add_9 u134).bind fun p141 => match p141 with
          | (v139, u140) =>
            (T_put_9 v139 0 a0 u140).bind fun u142 =>
            (T_put_9 v139 1 a1 u142).bind fun u143 =>
            (T_put_9 v139 2 a2 u143).bind fun u144 =>
            some (.inl v139, u144)
        else
        some (.inr 2, u129)

set_option maxRecDepth 10000 in
set_option maxHeartbeats 4000000 in
theorem ev_C_suspend {sc : mg_Sc} {c z : Nat} {fL : Nat → Int64} {fD : Nat → UInt64} {a0 : Int32} {a1 : Int32} {a2 : Int32} {u : mg_Rg} {p : (Int32 ⊕ Nat) × mg_Rg} (h : C_suspend a0 a1 a2 u = some p) : mg_Ev sc 6 7 0 (mg_entry 7 [.ref 1, .int a0, .int a1, .int a2]) [] (hp u fL fD, c, z) (xri p.1, xw p.1 (hp p.2 fL fD) c z) := by
  unfold C_suspend at h
  show mg_Ev _ _ _ 0 [some (.ref 1), some (.int a0), some (.int a1), some (.int a2), none] [] _ _
  refine mg_Ev.go 2 (pc' := 2) (loc' := [some (.ref 1), some (.int a0), some (.int a1), some (.int a2), none]) (st' := [.int a0, .ref 1]) (w' := (hp u fL fD, c, z)) rfl ?_
  obtain ⟨⟨⟨⟩ | ee, u129⟩, hf1956, h⟩ := Option.bind_eq_some_iff.mp h
  · try dsimp only at h
    refine mg_Ev.call (y := 41) (as := [.ref 1, .int a0]) (rest := []) (v := none) (w1 := (hp u129 fL fD, c, z)) rfl rfl (Nat.le_of_ble_eq_true rfl) ((ev_C_requireHeading hf1956).deep (by decide)) ?_
    refine mg_Ev.go 3 (pc' := 10) (loc' := [some (.ref 1), some (.int a0), some (.int a1), some (.int a2), none]) (st' := [.int 999, .int 0, .int a1]) (w' := (hp u129 fL fD, c, z)) rfl ?_
    obtain ⟨v130, hf1957, h⟩ := Option.bind_eq_some_iff.mp h
    refine mg_Ev.call (y := 54) (as := [.int a1, .int 0, .int 999]) (rest := []) (v := some (.int v130)) (w1 := (hp u129 fL fD, c, z)) rfl rfl (Nat.le_of_ble_eq_true rfl) ((ev_C_isWithin hf1957).deep (by decide)) ?_
    refine mg_Ev.br (P := v130 = 0) (t := 27) (nx := 16) (st' := []) rfl rfl rfl rfl (fun hc1958 => ?_) (fun hc1958 => ?_)
    · rw [if_pos hc1958] at h
      cases h
      exact mg_Ev.fin rfl rfl rfl
    · rw [if_neg hc1958] at h
      refine mg_Ev.go 3 (pc' := 21) (loc' := [some (.ref 1), some (.int a0), some (.int a1), some (.int a2), none]) (st' := [.int 999, .int a1, .int a2]) (w' := (hp u129 fL fD, c, z)) rfl ?_
      obtain ⟨v131, hf1959, h⟩ := Option.bind_eq_some_iff.mp h
      refine mg_Ev.call (y := 54) (as := [.int a2, .int a1, .int 999]) (rest := []) (v := some (.int v131)) (w1 := (hp u129 fL fD, c, z)) rfl rfl (Nat.le_of_ble_eq_true rfl) ((ev_C_isWithin hf1959).deep (by decide)) ?_
      refine mg_Ev.br (P := v131 = 0) (t := 27) (nx := 37) (st' := []) rfl rfl rfl rfl (fun hc1960 => ?_) (fun hc1960 => ?_)
      · rw [if_pos hc1960] at h
        cases h
        exact mg_Ev.fin rfl rfl rfl
      · rw [if_neg hc1960] at h
        refine mg_Ev.go 3 (pc' := 44) (loc' := [some (.ref 1), some (.int a0), some (.int a1), some (.int a2), none]) (st' := [.ref 10]) (w' := (hp u129 fL fD, c, z)) rfl ?_
        obtain ⟨v133, hf1961, h⟩ := Option.bind_eq_some_iff.mp h
        refine mg_Ev.call (y := 183) (as := [.ref 10]) (rest := []) (v := some (.int v133)) (w1 := (hp u129 fL fD, c, z)) rfl rfl (Nat.le_of_ble_eq_true rfl) ((ev_T_isFull_9 hf1961).deep (by decide)) ?_
        refine mg_Ev.br (P := v133 = 0) (t := 60) (nx := 50) (st' := []) rfl rfl rfl rfl (fun hc1962 => ?_) (fun hc1962 => ?_)
        · rw [if_pos hc1962] at h
          refine mg_Ev.go 1 (pc' := 61) (loc' := [some (.ref 1), some (.int a0), some (.int a1), some (.int a2), none]) (st' := [.ref 1]) (w' := (hp u129 fL fD, c, z)) rfl ?_
          obtain ⟨u134, hf1963, h⟩ := Option.bind_eq_some_iff.mp h
          refine mg_Ev.call (y := 38) (as := [.ref 1]) (rest := []) (v := none) (w1 := (hp u134 fL fD, c, z)) rfl rfl (Nat.le_of_ble_eq_true rfl) ((ev_C_keepForUndo hf1963).deep (by decide)) ?_
          refine mg_Ev.go 3 (pc' := 71) (loc' := [some (.ref 1), some (.int a0), some (.int a1), some (.int a2), none]) (st' := [.ref 10]) (w' := (hp u134 fL fD, c, z)) rfl ?_
          obtain ⟨⟨v139, u140⟩, hf1964, h⟩ := Option.bind_eq_some_iff.mp h
          try dsimp only at h
          refine mg_Ev.call (y := 187) (as := [.ref 10]) (rest := []) (v := some (.int v139)) (w1 := (hp u140 fL fD, c, z)) rfl rfl (Nat.le_of_ble_eq_true rfl) ((ev_T_add_9 hf1964).deep (by decide)) ?_
          refine mg_Ev.go 7 (pc' := 87) (loc' := [some (.ref 1), some (.int a0), some (.int a1), some (.int a2), some (.int v139)]) (st' := [.int a0, .int 0, .int v139, .ref 10]) (w' := (hp u140 fL fD, c, z)) rfl ?_
          obtain ⟨u142, hf1965, h⟩ := Option.bind_eq_some_iff.mp h
          refine mg_Ev.call (y := 185) (as := [.ref 10, .int v139, .int 0, .int a0]) (rest := []) (v := none) (w1 := (hp u142 fL fD, c, z)) rfl rfl (Nat.le_of_ble_eq_true rfl) ((ev_T_put_9 hf1965).deep (by decide)) ?_
          refine mg_Ev.go 6 (pc' := 101) (loc' := [some (.ref 1), some (.int a0), some (.int a1), some (.int a2), some (.int v139)]) (st' := [.int a1, .int 1, .int v139, .ref 10]) (w' := (hp u142 fL fD, c, z)) rfl ?_
          obtain ⟨u143, hf1966, h⟩ := Option.bind_eq_some_iff.mp h
          refine mg_Ev.call (y := 185) (as := [.ref 10, .int v139, .int 1, .int a1]) (rest := []) (v := none) (w1 := (hp u143 fL fD, c, z)) rfl rfl (Nat.le_of_ble_eq_true rfl) ((ev_T_put_9 hf1966).deep (by decide)) ?_
          refine mg_Ev.go 6 (pc' := 115) (loc' := [some (.ref 1), some (.int a0), some (.int a1), some (.int a2), some (.int v139)]) (st' := [.int a2, .int 2, .int v139, .ref 10]) (w' := (hp u143 fL fD, c, z)) rfl ?_
          obtain ⟨u144, hf1967, h⟩ := Option.bind_eq_some_iff.mp h
          refine mg_Ev.call (y := 185) (as := [.ref 10, .int v139, .int 2, .int a2]) (rest := []) (v := none) (w1 := (hp u144 fL fD, c, z)) rfl rfl (Nat.le_of_ble_eq_true rfl) ((ev_T_put_9 hf1967).deep (by decide)) ?_
          refine mg_Ev.go 1 (pc' := 120) (loc' := [some (.ref 1), some (.int a0), some (.int a1), some (.int a2), some (.int v139)]) (st' := [.int v139]) (w' := (hp u144 fL fD, c, z)) rfl ?_
          cases h
          exact mg_Ev.fin rfl rfl rfl
        · rw [if_neg hc1962] at h
          cases h
          exact mg_Ev.fin rfl rfl rfl
  · cases h
    exact mg_Ev.callX (y := 41) (as := [.ref 1, .int a0]) (rest := []) rfl rfl (Nat.le_of_ble_eq_true rfl) ((ev_C_requireHeading hf1956).deep (by decide)) rfl

def T_get_16 (a0 : Int32) (a1 : Int32) (u : mg_Rg) : Option (Int32) :=
  if a0 < 0 then
  some 0
  else
  if 3 ≤ a0 then
    some 0
    else
    if a1 < 0 then
      some 0
      else
      if a1 < 1 then
        if ((1 + (a0 * 1)) + a1) < 0 then
          some 0
          else
          if 4 ≤ ((1 + (a0 * 1)) + a1) then
            some 0
            else
            if ((1 + (a0 * 1)) + a1) < 0 ∨ 4 ≤ ((1 + (a0 * 1)) + a1).toNatClampNeg then none else
              some (u 17 (((1 + (a0 * 1)) + a1).toNatClampNeg))
        else
        some 0

set_option maxRecDepth 10000 in
set_option maxHeartbeats 4000000 in
theorem ev_T_get_16 {sc : mg_Sc} {c z : Nat} {fL : Nat → Int64} {fD : Nat → UInt64} {a0 : Int32} {a1 : Int32} {u : mg_Rg} {v : Int32} (h : T_get_16 a0 a1 u = some v) : mg_Ev sc 0 184 0 (mg_entry 184 [.ref 17, .int a0, .int a1]) [] (hp u fL fD, c, z) (.inl (some (.int v)), (hp u fL fD, c, z)) := by
  unfold T_get_16 at h
  show mg_Ev _ _ _ 0 [some (.ref 17), some (.int a0), some (.int a1), none] [] _ _
  refine mg_Ev.go 1 (pc' := 1) (loc' := [some (.ref 17), some (.int a0), some (.int a1), none]) (st' := [.int a0]) (w' := (hp u fL fD, c, z)) rfl ?_
  refine mg_Ev.br (P := a0 < 0) (t := 24) (nx := 4) (st' := []) rfl rfl rfl rfl (fun hc1968 => ?_) (fun hc1968 => ?_)
  · rw [if_pos hc1968] at h
    refine mg_Ev.go 1 (pc' := 25) (loc' := [some (.ref 17), some (.int a0), some (.int a1), none]) (st' := [.int 0]) (w' := (hp u fL fD, c, z)) rfl ?_
    cases h
    exact mg_Ev.fin rfl rfl rfl
  · rw [if_neg hc1968] at h
    refine mg_Ev.go 3 (pc' := 9) (loc' := [some (.ref 17), some (.int a0), some (.int a1), none]) (st' := [.int 3, .int a0]) (w' := (hp u fL fD, c, z)) rfl ?_
    refine mg_Ev.br (P := 3 ≤ a0) (t := 24) (nx := 12) (st' := []) rfl rfl rfl rfl (fun hc1969 => ?_) (fun hc1969 => ?_)
    · rw [if_pos hc1969] at h
      refine mg_Ev.go 1 (pc' := 25) (loc' := [some (.ref 17), some (.int a0), some (.int a1), none]) (st' := [.int 0]) (w' := (hp u fL fD, c, z)) rfl ?_
      cases h
      exact mg_Ev.fin rfl rfl rfl
    · rw [if_neg hc1969] at h
      refine mg_Ev.go 1 (pc' := 13) (loc' := [some (.ref 17), some (.int a0), some (.int a1), none]) (st' := [.int a1]) (w' := (hp u fL fD, c, z)) rfl ?_
      refine mg_Ev.br (P := a1 < 0) (t := 24) (nx := 16) (st' := []) rfl rfl rfl rfl (fun hc1970 => ?_) (fun hc1970 => ?_)
      · rw [if_pos hc1970] at h
        refine mg_Ev.go 1 (pc' := 25) (loc' := [some (.ref 17), some (.int a0), some (.int a1), none]) (st' := [.int 0]) (w' := (hp u fL fD, c, z)) rfl ?_
        cases h
        exact mg_Ev.fin rfl rfl rfl
      · rw [if_neg hc1970] at h
        refine mg_Ev.go 3 (pc' := 21) (loc' := [some (.ref 17), some (.int a0), some (.int a1), none]) (st' := [.int 1, .int a1]) (w' := (hp u fL fD, c, z)) rfl ?_
        refine mg_Ev.br (P := a1 < 1) (t := 26) (nx := 24) (st' := []) rfl rfl rfl rfl (fun hc1971 => ?_) (fun hc1971 => ?_)
        · rw [if_pos hc1971] at h
          refine mg_Ev.go 10 (pc' := 38) (loc' := [some (.ref 17), some (.int a0), some (.int a1), some (.int ((1 + (a0 * 1)) + a1))]) (st' := [.int ((1 + (a0 * 1)) + a1)]) (w' := (hp u fL fD, c, z)) rfl ?_
          refine mg_Ev.br (P := ((1 + (a0 * 1)) + a1) < 0) (t := 59) (nx := 41) (st' := []) rfl rfl rfl rfl (fun hc1972 => ?_) (fun hc1972 => ?_)
          · rw [if_pos hc1972] at h
            refine mg_Ev.go 1 (pc' := 60) (loc' := [some (.ref 17), some (.int a0), some (.int a1), some (.int ((1 + (a0 * 1)) + a1))]) (st' := [.int 0]) (w' := (hp u fL fD, c, z)) rfl ?_
            cases h
            exact mg_Ev.fin rfl rfl rfl
          · rw [if_neg hc1972] at h
            refine mg_Ev.go 4 (pc' := 47) (loc' := [some (.ref 17), some (.int a0), some (.int a1), some (.int ((1 + (a0 * 1)) + a1))]) (st' := [.int 4, .int ((1 + (a0 * 1)) + a1)]) (w' := (hp u fL fD, c, z)) rfl ?_
            refine mg_Ev.br (P := 4 ≤ ((1 + (a0 * 1)) + a1)) (t := 59) (nx := 50) (st' := []) rfl rfl rfl rfl (fun hc1973 => ?_) (fun hc1973 => ?_)
            · rw [if_pos hc1973] at h
              refine mg_Ev.go 1 (pc' := 60) (loc' := [some (.ref 17), some (.int a0), some (.int a1), some (.int ((1 + (a0 * 1)) + a1))]) (st' := [.int 0]) (w' := (hp u fL fD, c, z)) rfl ?_
              cases h
              exact mg_Ev.fin rfl rfl rfl
            · rw [if_neg hc1973] at h
              refine mg_Ev.go 3 (pc' := 55) (loc' := [some (.ref 17), some (.int a0), some (.int a1), some (.int ((1 + (a0 * 1)) + a1))]) (st' := [.int ((1 + (a0 * 1)) + a1), .ref 18]) (w' := (hp u fL fD, c, z)) rfl ?_
              by_cases hb1974 : ((1 + (a0 * 1)) + a1) < 0 ∨ 4 ≤ ((1 + (a0 * 1)) + a1).toNatClampNeg
              · rw [if_pos hb1974] at h
                cases h
              · rw [if_neg hb1974] at h
                refine mg_Ev.iald (a := 17) (n := 4) (f := u 17) rfl (hpg_17 _ _ _) rfl hb1974 ?_
                refine mg_Ev.go 1 (pc' := 60) (loc' := [some (.ref 17), some (.int a0), some (.int a1), some (.int ((1 + (a0 * 1)) + a1))]) (st' := [.int (u 17 (((1 + (a0 * 1)) + a1).toNatClampNeg))]) (w' := (hp u fL fD, c, z)) rfl ?_
                cases h
                exact mg_Ev.fin rfl rfl rfl
        · rw [if_neg hc1971] at h
          refine mg_Ev.go 1 (pc' := 25) (loc' := [some (.ref 17), some (.int a0), some (.int a1), none]) (st' := [.int 0]) (w' := (hp u fL fD, c, z)) rfl ?_
          cases h
          exact mg_Ev.fin rfl rfl rfl

def Lg_day (u : mg_Rg) : Option (Int32) :=
  (T_get_16 0 0 u).bind fun v148 =>
  some v148

set_option maxRecDepth 10000 in
set_option maxHeartbeats 4000000 in
theorem ev_Lg_day {sc : mg_Sc} {c z : Nat} {fL : Nat → Int64} {fD : Nat → UInt64} {u : mg_Rg} {v : Int32} (h : Lg_day u = some v) : mg_Ev sc 1 144 0 (mg_entry 144 [.ref 16]) [] (hp u fL fD, c, z) (.inl (some (.int v)), (hp u fL fD, c, z)) := by
  unfold Lg_day at h
  show mg_Ev _ _ _ 0 [some (.ref 16)] [] _ _
  refine mg_Ev.go 4 (pc' := 6) (loc' := [some (.ref 16)]) (st' := [.int 0, .int 0, .ref 17]) (w' := (hp u fL fD, c, z)) rfl ?_
  obtain ⟨v148, hf1975, h⟩ := Option.bind_eq_some_iff.mp h
  refine mg_Ev.call (y := 184) (as := [.ref 17, .int 0, .int 0]) (rest := []) (v := some (.int v148)) (w1 := (hp u fL fD, c, z)) rfl rfl (Nat.le_of_ble_eq_true rfl) ((ev_T_get_16 hf1975).deep (by decide)) ?_
  cases h
  exact mg_Ev.fin rfl rfl rfl

