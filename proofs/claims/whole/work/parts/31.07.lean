def C_areEntryPartsInRange_L2 : Nat → Int32 → Int32 → mg_Rg → Option ((Unit) ⊕ (Int32))
  | 0, _, _, _ => none
  | n + 1, x1, x2, u =>
    (T_get_39 x1 4 u).bind fun v691 =>
    if v691 ≤ x2 then
    some (.inl ())
    else
    (X_partNumber x1 x2 0 u).bind fun v694 =>
      (C_isCountry v694 u).bind fun v695 =>
      if v695 = 0 then
      some (.inr 0)
      else
      (X_partNumber x1 x2 1 u).bind fun v696 =>
        (C_isWithin v696 1 9999 u).bind fun v697 =>
        if v697 = 0 then
        some (.inr 0)
        else
        C_areEntryPartsInRange_L2 n x1 (x2 + 1) u
set_option maxRecDepth 10000 in
set_option maxHeartbeats 4000000 in
theorem ev_C_areEntryPartsInRange_L2 {sc : mg_Sc} {c z : Nat} {fL : Nat → Int64} {fD : Nat → UInt64} : ∀ (n : Nat) (x1 : Int32) (x2 : Int32) (u : mg_Rg) (res : (Unit) ⊕ (Int32)), C_areEntryPartsInRange_L2 n x1 x2 u = some res → ∀ r, (match res with | .inl _ => mg_Ev sc 2 50 62 [none, none, none] [] (hp u fL fD, c, z) r | .inr rv => r = (.inl (some (.int rv)), (hp u fL fD, c, z))) → mg_Ev sc 2 50 2 [some (.ref 1), some (.int x1), some (.int x2)] [] (hp u fL fD, c, z) r := by
  intro n
  induction n with
  | zero => intro x1 x2 u res h; cases h
  | succ n ih =>
    intro x1 x2 u res h r K
    unfold C_areEntryPartsInRange_L2 at h
    refine mg_Ev.go 6 (pc' := 12) (loc' := [some (.ref 1), some (.int x1), some (.int x2)]) (st' := [.int 4, .int x1, .ref 40, .int x2]) (w' := (hp u fL fD, c, z)) rfl ?_
    obtain ⟨v691, hf2718, h⟩ := Option.bind_eq_some_iff.mp h
    refine mg_Ev.call (y := 184) (as := [.ref 40, .int x1, .int 4]) (rest := [.int x2]) (v := some (.int v691)) (w1 := (hp u fL fD, c, z)) rfl rfl (Nat.le_of_ble_eq_true rfl) ((ev_T_get_39 hf2718).deep (by decide)) ?_
    refine mg_Ev.br (P := v691 ≤ x2) (t := 62) (nx := 18) (st' := []) rfl rfl rfl rfl (fun hc2719 => ?_) (fun hc2719 => ?_)
    · rw [if_pos hc2719] at h
      cases h
      exact mg_Ev.more (loc := [none, none, none]) K trivial
    · rw [if_neg hc2719] at h
      refine mg_Ev.go 5 (pc' := 25) (loc' := [some (.ref 1), some (.int x1), some (.int x2)]) (st' := [.int 0, .int x2, .int x1, .ref 38]) (w' := (hp u fL fD, c, z)) rfl ?_
      obtain ⟨v694, hf2720, h⟩ := Option.bind_eq_some_iff.mp h
      refine mg_Ev.call (y := 214) (as := [.ref 38, .int x1, .int x2, .int 0]) (rest := []) (v := some (.int v694)) (w1 := (hp u fL fD, c, z)) rfl rfl (Nat.le_of_ble_eq_true rfl) ((ev_X_partNumber hf2720).deep (by decide)) ?_
      obtain ⟨v695, hf2721, h⟩ := Option.bind_eq_some_iff.mp h
      refine mg_Ev.call (y := 53) (as := [.int v694]) (rest := []) (v := some (.int v695)) (w1 := (hp u fL fD, c, z)) rfl rfl (Nat.le_of_ble_eq_true rfl) ((ev_C_isCountry hf2721).deep (by decide)) ?_
      refine mg_Ev.br (P := v695 = 0) (t := 54) (nx := 34) (st' := []) rfl rfl rfl rfl (fun hc2722 => ?_) (fun hc2722 => ?_)
      · rw [if_pos hc2722] at h
        refine mg_Ev.go 1 (pc' := 55) (loc' := [some (.ref 1), some (.int x1), some (.int x2)]) (st' := [.int 0]) (w' := (hp u fL fD, c, z)) rfl ?_
        cases h
        cases K
        exact mg_Ev.fin rfl rfl rfl
      · rw [if_neg hc2722] at h
        refine mg_Ev.go 5 (pc' := 41) (loc' := [some (.ref 1), some (.int x1), some (.int x2)]) (st' := [.int 1, .int x2, .int x1, .ref 38]) (w' := (hp u fL fD, c, z)) rfl ?_
        obtain ⟨v696, hf2723, h⟩ := Option.bind_eq_some_iff.mp h
        refine mg_Ev.call (y := 214) (as := [.ref 38, .int x1, .int x2, .int 1]) (rest := []) (v := some (.int v696)) (w1 := (hp u fL fD, c, z)) rfl rfl (Nat.le_of_ble_eq_true rfl) ((ev_X_partNumber hf2723).deep (by decide)) ?_
        refine mg_Ev.go 2 (pc' := 48) (loc' := [some (.ref 1), some (.int x1), some (.int x2)]) (st' := [.int 9999, .int 1, .int v696]) (w' := (hp u fL fD, c, z)) rfl ?_
        obtain ⟨v697, hf2724, h⟩ := Option.bind_eq_some_iff.mp h
        refine mg_Ev.call (y := 54) (as := [.int v696, .int 1, .int 9999]) (rest := []) (v := some (.int v697)) (w1 := (hp u fL fD, c, z)) rfl rfl (Nat.le_of_ble_eq_true rfl) ((ev_C_isWithin hf2724).deep (by decide)) ?_
        refine mg_Ev.br (P := v697 = 0) (t := 54) (nx := 56) (st' := []) rfl rfl rfl rfl (fun hc2725 => ?_) (fun hc2725 => ?_)
        · rw [if_pos hc2725] at h
          refine mg_Ev.go 1 (pc' := 55) (loc' := [some (.ref 1), some (.int x1), some (.int x2)]) (st' := [.int 0]) (w' := (hp u fL fD, c, z)) rfl ?_
          cases h
          cases K
          exact mg_Ev.fin rfl rfl rfl
        · rw [if_neg hc2725] at h
          refine mg_Ev.go 2 (pc' := 2) (loc' := [some (.ref 1), some (.int x1), some (.int (x2 + 1))]) (st' := []) (w' := (hp u fL fD, c, z)) rfl ?_
          exact mg_Ev.more (loc := [some (.ref 1), some (.int x1), some (.int (x2 + 1))]) (ih _ _ _ _ h _ K) ⟨rfl, ⟨rfl, ⟨rfl, trivial⟩⟩⟩

def C_areEntryPartsInRange (a0 : Int32) (u : mg_Rg) : Option (Int32) :=
  (C_areEntryPartsInRange_L2 mg_F a0 0 u).bind fun q2726 => match q2726 with
  | .inl _ =>
    some 1
  | .inr v698 =>
    some v698

set_option maxRecDepth 10000 in
set_option maxHeartbeats 4000000 in
theorem ev_C_areEntryPartsInRange {sc : mg_Sc} {c z : Nat} {fL : Nat → Int64} {fD : Nat → UInt64} {a0 : Int32} {u : mg_Rg} {v : Int32} (h : C_areEntryPartsInRange a0 u = some v) : mg_Ev sc 2 50 0 (mg_entry 50 [.ref 1, .int a0]) [] (hp u fL fD, c, z) (.inl (some (.int v)), (hp u fL fD, c, z)) := by
  unfold C_areEntryPartsInRange at h
  show mg_Ev _ _ _ 0 [some (.ref 1), some (.int a0), none] [] _ _
  refine mg_Ev.go 2 (pc' := 2) (loc' := [some (.ref 1), some (.int a0), some (.int 0)]) (st' := []) (w' := (hp u fL fD, c, z)) rfl ?_
  obtain ⟨(⟨⟩ | v698), hl2727, h⟩ := Option.bind_eq_some_iff.mp h
  · try dsimp only at h
    refine mg_Ev.more (loc := [some (.ref 1), some (.int a0), some (.int 0)]) (ev_C_areEntryPartsInRange_L2 _ _ _ _ _ hl2727 _ ?_) ⟨rfl, ⟨rfl, ⟨rfl, trivial⟩⟩⟩
    show mg_Ev _ _ _ 62 [none, none, none] [] (hp u fL fD, c, z) _
    refine mg_Ev.go 1 (pc' := 63) (loc' := [none, none, none]) (st' := [.int 1]) (w' := (hp u fL fD, c, z)) rfl ?_
    cases h
    exact mg_Ev.fin rfl rfl rfl
  · try dsimp only at h
    cases h
    refine mg_Ev.more (loc := [some (.ref 1), some (.int a0), some (.int 0)]) (ev_C_areEntryPartsInRange_L2 _ _ _ _ _ hl2727 _ ?_) ⟨rfl, ⟨rfl, ⟨rfl, trivial⟩⟩⟩
    rfl

def C_canDeclareEntry (a0 : Int32) (u : mg_Rg) : Option (Int32) :=
  (T_get_39 a0 3 u).bind fun v683 =>
  (T_get_39 a0 0 u).bind fun v684 =>
  (Tf_headingWithCode v684 u).bind fun v685 =>
  (Tf_childrenOf v685 u).bind fun v686 =>
  if v686 = 0 then
  (T_get_39 a0 1 u).bind fun v687 =>
    (C_isWithin v687 1 999 u).bind fun v688 =>
    if v688 = 0 then
    some 0
    else
    (T_get_39 a0 2 u).bind fun v689 =>
      (C_isWithin v689 0 2 u).bind fun v690 =>
      if v690 = 0 then
      some 0
      else
      if v683 = (-1) then
        (C_areEntryPartsInRange a0 u).bind fun v700 =>
          if v700 = 0 then
          some 0
          else
          some 1
        else
        (T_has_22 v683 u).bind fun v701 =>
          if v701 = 0 then
          some 0
          else
          (C_areEntryPartsInRange a0 u).bind fun v702 =>
            if v702 = 0 then
            some 0
            else
            some 1
  else
  some 0

set_option maxRecDepth 10000 in
set_option maxHeartbeats 4000000 in
theorem ev_C_canDeclareEntry {sc : mg_Sc} {c z : Nat} {fL : Nat → Int64} {fD : Nat → UInt64} {a0 : Int32} {u : mg_Rg} {v : Int32} (h : C_canDeclareEntry a0 u = some v) : mg_Ev sc 3 49 0 (mg_entry 49 [.ref 1, .int a0]) [] (hp u fL fD, c, z) (.inl (some (.int v)), (hp u fL fD, c, z)) := by
  unfold C_canDeclareEntry at h
  show mg_Ev _ _ _ 0 [some (.ref 1), some (.int a0), none, none] [] _ _
  refine mg_Ev.go 5 (pc' := 9) (loc' := [some (.ref 1), some (.int a0), none, none]) (st' := [.int 3, .int a0, .ref 40]) (w' := (hp u fL fD, c, z)) rfl ?_
  obtain ⟨v683, hf2728, h⟩ := Option.bind_eq_some_iff.mp h
  refine mg_Ev.call (y := 184) (as := [.ref 40, .int a0, .int 3]) (rest := []) (v := some (.int v683)) (w1 := (hp u fL fD, c, z)) rfl rfl (Nat.le_of_ble_eq_true rfl) ((ev_T_get_39 hf2728).deep (by decide)) ?_
  refine mg_Ev.go 8 (pc' := 26) (loc' := [some (.ref 1), some (.int a0), some (.int v683), none]) (st' := [.int 0, .int a0, .ref 40, .ref 3]) (w' := (hp u fL fD, c, z)) rfl ?_
  obtain ⟨v684, hf2729, h⟩ := Option.bind_eq_some_iff.mp h
  refine mg_Ev.call (y := 184) (as := [.ref 40, .int a0, .int 0]) (rest := [.ref 3]) (v := some (.int v684)) (w1 := (hp u fL fD, c, z)) rfl rfl (Nat.le_of_ble_eq_true rfl) ((ev_T_get_39 hf2729).deep (by decide)) ?_
  obtain ⟨v685, hf2730, h⟩ := Option.bind_eq_some_iff.mp h
  refine mg_Ev.call (y := 199) (as := [.ref 3, .int v684]) (rest := []) (v := some (.int v685)) (w1 := (hp u fL fD, c, z)) rfl rfl (Nat.le_of_ble_eq_true rfl) ((ev_Tf_headingWithCode hf2730).deep (by decide)) ?_
  refine mg_Ev.go 4 (pc' := 38) (loc' := [some (.ref 1), some (.int a0), some (.int v683), some (.int v685)]) (st' := [.int v685, .ref 3]) (w' := (hp u fL fD, c, z)) rfl ?_
  obtain ⟨v686, hf2731, h⟩ := Option.bind_eq_some_iff.mp h
  refine mg_Ev.call (y := 200) (as := [.ref 3, .int v685]) (rest := []) (v := some (.int v686)) (w1 := (hp u fL fD, c, z)) rfl rfl (Nat.le_of_ble_eq_true rfl) ((ev_Tf_childrenOf hf2731).deep (by decide)) ?_
  refine mg_Ev.br (P := v686 = 0) (t := 44) (nx := 117) (st' := []) rfl rfl rfl rfl (fun hc2732 => ?_) (fun hc2732 => ?_)
  · rw [if_pos hc2732] at h
    refine mg_Ev.go 5 (pc' := 53) (loc' := [some (.ref 1), some (.int a0), some (.int v683), some (.int v685)]) (st' := [.int 1, .int a0, .ref 40]) (w' := (hp u fL fD, c, z)) rfl ?_
    obtain ⟨v687, hf2733, h⟩ := Option.bind_eq_some_iff.mp h
    refine mg_Ev.call (y := 184) (as := [.ref 40, .int a0, .int 1]) (rest := []) (v := some (.int v687)) (w1 := (hp u fL fD, c, z)) rfl rfl (Nat.le_of_ble_eq_true rfl) ((ev_T_get_39 hf2733).deep (by decide)) ?_
    refine mg_Ev.go 2 (pc' := 60) (loc' := [some (.ref 1), some (.int a0), some (.int v683), some (.int v685)]) (st' := [.int 999, .int 1, .int v687]) (w' := (hp u fL fD, c, z)) rfl ?_
    obtain ⟨v688, hf2734, h⟩ := Option.bind_eq_some_iff.mp h
    refine mg_Ev.call (y := 54) (as := [.int v687, .int 1, .int 999]) (rest := []) (v := some (.int v688)) (w1 := (hp u fL fD, c, z)) rfl rfl (Nat.le_of_ble_eq_true rfl) ((ev_C_isWithin hf2734).deep (by decide)) ?_
    refine mg_Ev.br (P := v688 = 0) (t := 117) (nx := 66) (st' := []) rfl rfl rfl rfl (fun hc2735 => ?_) (fun hc2735 => ?_)
    · rw [if_pos hc2735] at h
      refine mg_Ev.go 1 (pc' := 118) (loc' := [some (.ref 1), some (.int a0), some (.int v683), some (.int v685)]) (st' := [.int 0]) (w' := (hp u fL fD, c, z)) rfl ?_
      cases h
      exact mg_Ev.fin rfl rfl rfl
    · rw [if_neg hc2735] at h
      refine mg_Ev.go 5 (pc' := 75) (loc' := [some (.ref 1), some (.int a0), some (.int v683), some (.int v685)]) (st' := [.int 2, .int a0, .ref 40]) (w' := (hp u fL fD, c, z)) rfl ?_
      obtain ⟨v689, hf2736, h⟩ := Option.bind_eq_some_iff.mp h
      refine mg_Ev.call (y := 184) (as := [.ref 40, .int a0, .int 2]) (rest := []) (v := some (.int v689)) (w1 := (hp u fL fD, c, z)) rfl rfl (Nat.le_of_ble_eq_true rfl) ((ev_T_get_39 hf2736).deep (by decide)) ?_
      refine mg_Ev.go 2 (pc' := 80) (loc' := [some (.ref 1), some (.int a0), some (.int v683), some (.int v685)]) (st' := [.int 2, .int 0, .int v689]) (w' := (hp u fL fD, c, z)) rfl ?_
      obtain ⟨v690, hf2737, h⟩ := Option.bind_eq_some_iff.mp h
      refine mg_Ev.call (y := 54) (as := [.int v689, .int 0, .int 2]) (rest := []) (v := some (.int v690)) (w1 := (hp u fL fD, c, z)) rfl rfl (Nat.le_of_ble_eq_true rfl) ((ev_C_isWithin hf2737).deep (by decide)) ?_
      refine mg_Ev.br (P := v690 = 0) (t := 117) (nx := 86) (st' := []) rfl rfl rfl rfl (fun hc2738 => ?_) (fun hc2738 => ?_)
      · rw [if_pos hc2738] at h
        refine mg_Ev.go 1 (pc' := 118) (loc' := [some (.ref 1), some (.int a0), some (.int v683), some (.int v685)]) (st' := [.int 0]) (w' := (hp u fL fD, c, z)) rfl ?_
        cases h
        exact mg_Ev.fin rfl rfl rfl
      · rw [if_neg hc2738] at h
        refine mg_Ev.go 2 (pc' := 88) (loc' := [some (.ref 1), some (.int a0), some (.int v683), some (.int v685)]) (st' := [.int (-1), .int v683]) (w' := (hp u fL fD, c, z)) rfl ?_
        refine mg_Ev.br (P := v683 = (-1)) (t := 105) (nx := 91) (st' := []) rfl rfl rfl rfl (fun hc2739 => ?_) (fun hc2739 => ?_)
        · rw [if_pos hc2739] at h
          refine mg_Ev.go 2 (pc' := 107) (loc' := [some (.ref 1), some (.int a0), some (.int v683), some (.int v685)]) (st' := [.int a0, .ref 1]) (w' := (hp u fL fD, c, z)) rfl ?_
          obtain ⟨v700, hf2740, h⟩ := Option.bind_eq_some_iff.mp h
          refine mg_Ev.call (y := 50) (as := [.ref 1, .int a0]) (rest := []) (v := some (.int v700)) (w1 := (hp u fL fD, c, z)) rfl rfl (Nat.le_of_ble_eq_true rfl) ((ev_C_areEntryPartsInRange hf2740).deep (by decide)) ?_
          refine mg_Ev.br (P := v700 = 0) (t := 117) (nx := 113) (st' := []) rfl rfl rfl rfl (fun hc2741 => ?_) (fun hc2741 => ?_)
          · rw [if_pos hc2741] at h
            refine mg_Ev.go 1 (pc' := 118) (loc' := [some (.ref 1), some (.int a0), some (.int v683), some (.int v685)]) (st' := [.int 0]) (w' := (hp u fL fD, c, z)) rfl ?_
            cases h
            exact mg_Ev.fin rfl rfl rfl
          · rw [if_neg hc2741] at h
            refine mg_Ev.go 2 (pc' := 118) (loc' := [some (.ref 1), some (.int a0), some (.int v683), some (.int v685)]) (st' := [.int 1]) (w' := (hp u fL fD, c, z)) rfl ?_
            cases h
            exact mg_Ev.fin rfl rfl rfl
        · rw [if_neg hc2739] at h
          refine mg_Ev.go 4 (pc' := 99) (loc' := [some (.ref 1), some (.int a0), some (.int v683), some (.int v685)]) (st' := [.int v683, .ref 23]) (w' := (hp u fL fD, c, z)) rfl ?_
          obtain ⟨v701, hf2742, h⟩ := Option.bind_eq_some_iff.mp h
          refine mg_Ev.call (y := 182) (as := [.ref 23, .int v683]) (rest := []) (v := some (.int v701)) (w1 := (hp u fL fD, c, z)) rfl rfl (Nat.le_of_ble_eq_true rfl) ((ev_T_has_22 hf2742).deep (by decide)) ?_
          refine mg_Ev.br (P := v701 = 0) (t := 117) (nx := 105) (st' := []) rfl rfl rfl rfl (fun hc2743 => ?_) (fun hc2743 => ?_)
          · rw [if_pos hc2743] at h
            refine mg_Ev.go 1 (pc' := 118) (loc' := [some (.ref 1), some (.int a0), some (.int v683), some (.int v685)]) (st' := [.int 0]) (w' := (hp u fL fD, c, z)) rfl ?_
            cases h
            exact mg_Ev.fin rfl rfl rfl
          · rw [if_neg hc2743] at h
            refine mg_Ev.go 2 (pc' := 107) (loc' := [some (.ref 1), some (.int a0), some (.int v683), some (.int v685)]) (st' := [.int a0, .ref 1]) (w' := (hp u fL fD, c, z)) rfl ?_
            obtain ⟨v702, hf2744, h⟩ := Option.bind_eq_some_iff.mp h
            refine mg_Ev.call (y := 50) (as := [.ref 1, .int a0]) (rest := []) (v := some (.int v702)) (w1 := (hp u fL fD, c, z)) rfl rfl (Nat.le_of_ble_eq_true rfl) ((ev_C_areEntryPartsInRange hf2744).deep (by decide)) ?_
            refine mg_Ev.br (P := v702 = 0) (t := 117) (nx := 113) (st' := []) rfl rfl rfl rfl (fun hc2745 => ?_) (fun hc2745 => ?_)
            · rw [if_pos hc2745] at h
              refine mg_Ev.go 1 (pc' := 118) (loc' := [some (.ref 1), some (.int a0), some (.int v683), some (.int v685)]) (st' := [.int 0]) (w' := (hp u fL fD, c, z)) rfl ?_
              cases h
              exact mg_Ev.fin rfl rfl rfl
            · rw [if_neg hc2745] at h
              refine mg_Ev.go 2 (pc' := 118) (loc' := [some (.ref 1), some (.int a0), some (.int v683), some (.int v685)]) (st' := [.int 1]) (w' := (hp u fL fD, c, z)) rfl ?_
              cases h
              exact mg_Ev.fin rfl rfl rfl
  · rw [if_neg hc2732] at h
    refine mg_Ev.go 1 (pc' := 118) (loc' := [some (.ref 1), some (.int a0), some (.int v683), some (.int v685)]) (st' := [.int 0]) (w' := (hp u fL fD, c, z)) rfl ?_
    cases h
    exact mg_Ev.fin rfl rfl rfl

def C_canDeclareEntries_L30 : Nat → Int32 → mg_Rg → Option ((Unit) ⊕ (Int32))
  | 0, _, _ => none
  | n + 1, x1, u =>
    (T_count_39 u).bind fun v682 =>
    if v682 ≤ x1 then
    some (.inl ())
    else
    (C_canDeclareEntry x1 u).bind fun v703 =>
      if v703 = 0 then
      some (.inr 0)
      else
      C_canDeclareEntries_L30 n (x1 + 1) u
set_option maxRecDepth 10000 in
set_option maxHeartbeats 4000000 in
theorem ev_C_canDeclareEntries_L30 {sc : mg_Sc} {c z : Nat} {fL : Nat → Int64} {fD : Nat → UInt64} : ∀ (n : Nat) (x1 : Int32) (u : mg_Rg) (res : (Unit) ⊕ (Int32)), C_canDeclareEntries_L30 n x1 u = some res → ∀ r, (match res with | .inl _ => mg_Ev sc 4 48 60 [none, none] [] (hp u fL fD, c, z) r | .inr rv => r = (.inl (some (.int rv)), (hp u fL fD, c, z))) → mg_Ev sc 4 48 30 [some (.ref 1), some (.int x1)] [] (hp u fL fD, c, z) r := by
  intro n
  induction n with
  | zero => intro x1 u res h; cases h
  | succ n ih =>
    intro x1 u res h r K
    unfold C_canDeclareEntries_L30 at h
    refine mg_Ev.go 4 (pc' := 38) (loc' := [some (.ref 1), some (.int x1)]) (st' := [.ref 40, .int x1]) (w' := (hp u fL fD, c, z)) rfl ?_
    obtain ⟨v682, hf2746, h⟩ := Option.bind_eq_some_iff.mp h
    refine mg_Ev.call (y := 181) (as := [.ref 40]) (rest := [.int x1]) (v := some (.int v682)) (w1 := (hp u fL fD, c, z)) rfl rfl (Nat.le_of_ble_eq_true rfl) ((ev_T_count_39 hf2746).deep (by decide)) ?_
    refine mg_Ev.br (P := v682 ≤ x1) (t := 60) (nx := 44) (st' := []) rfl rfl rfl rfl (fun hc2747 => ?_) (fun hc2747 => ?_)
    · rw [if_pos hc2747] at h
      cases h
      exact mg_Ev.more (loc := [none, none]) K trivial
    · rw [if_neg hc2747] at h
      refine mg_Ev.go 2 (pc' := 46) (loc' := [some (.ref 1), some (.int x1)]) (st' := [.int x1, .ref 1]) (w' := (hp u fL fD, c, z)) rfl ?_
      obtain ⟨v703, hf2748, h⟩ := Option.bind_eq_some_iff.mp h
      refine mg_Ev.call (y := 49) (as := [.ref 1, .int x1]) (rest := []) (v := some (.int v703)) (w1 := (hp u fL fD, c, z)) rfl rfl (Nat.le_of_ble_eq_true rfl) ((ev_C_canDeclareEntry hf2748).deep (by decide)) ?_
      refine mg_Ev.br (P := v703 = 0) (t := 52) (nx := 54) (st' := []) rfl rfl rfl rfl (fun hc2749 => ?_) (fun hc2749 => ?_)
      · rw [if_pos hc2749] at h
        refine mg_Ev.go 1 (pc' := 53) (loc' := [some (.ref 1), some (.int x1)]) (st' := [.int 0]) (w' := (hp u fL fD, c, z)) rfl ?_
        cases h
        cases K
        exact mg_Ev.fin rfl rfl rfl
      · rw [if_neg hc2749] at h
        refine mg_Ev.go 2 (pc' := 30) (loc' := [some (.ref 1), some (.int (x1 + 1))]) (st' := []) (w' := (hp u fL fD, c, z)) rfl ?_
        exact mg_Ev.more (loc := [some (.ref 1), some (.int (x1 + 1))]) (ih _ _ _ h _ K) ⟨rfl, ⟨rfl, trivial⟩⟩

def C_canDeclareEntries (u : mg_Rg) : Option (Int32) :=
  (T_count_25 u).bind fun v680 =>
  (T_count_39 u).bind fun v681 =>
  if (v680 + v681) ≤ 30 then
  (C_canDeclareEntries_L30 mg_F 0 u).bind fun q2750 => match q2750 with
    | .inl _ =>
      some 1
    | .inr v704 =>
      some v704
  else
  some 0

set_option maxRecDepth 10000 in
set_option maxHeartbeats 4000000 in
theorem ev_C_canDeclareEntries {sc : mg_Sc} {c z : Nat} {fL : Nat → Int64} {fD : Nat → UInt64} {u : mg_Rg} {v : Int32} (h : C_canDeclareEntries u = some v) : mg_Ev sc 4 48 0 (mg_entry 48 [.ref 1]) [] (hp u fL fD, c, z) (.inl (some (.int v)), (hp u fL fD, c, z)) := by
  unfold C_canDeclareEntries at h
  show mg_Ev _ _ _ 0 [some (.ref 1), none] [] _ _
  refine mg_Ev.go 3 (pc' := 7) (loc' := [some (.ref 1), none]) (st' := [.ref 26]) (w' := (hp u fL fD, c, z)) rfl ?_
  obtain ⟨v680, hf2751, h⟩ := Option.bind_eq_some_iff.mp h
  refine mg_Ev.call (y := 181) (as := [.ref 26]) (rest := []) (v := some (.int v680)) (w1 := (hp u fL fD, c, z)) rfl rfl (Nat.le_of_ble_eq_true rfl) ((ev_T_count_25 hf2751).deep (by decide)) ?_
  refine mg_Ev.go 3 (pc' := 17) (loc' := [some (.ref 1), none]) (st' := [.ref 40, .int v680]) (w' := (hp u fL fD, c, z)) rfl ?_
  obtain ⟨v681, hf2752, h⟩ := Option.bind_eq_some_iff.mp h
  refine mg_Ev.call (y := 181) (as := [.ref 40]) (rest := [.int v680]) (v := some (.int v681)) (w1 := (hp u fL fD, c, z)) rfl rfl (Nat.le_of_ble_eq_true rfl) ((ev_T_count_39 hf2752).deep (by decide)) ?_
  refine mg_Ev.go 2 (pc' := 23) (loc' := [some (.ref 1), none]) (st' := [.int 30, .int (v680 + v681)]) (w' := (hp u fL fD, c, z)) rfl ?_
  refine mg_Ev.br (P := (v680 + v681) ≤ 30) (t := 28) (nx := 26) (st' := []) rfl rfl rfl rfl (fun hc2753 => ?_) (fun hc2753 => ?_)
  · rw [if_pos hc2753] at h
    refine mg_Ev.go 2 (pc' := 30) (loc' := [some (.ref 1), some (.int 0)]) (st' := []) (w' := (hp u fL fD, c, z)) rfl ?_
    obtain ⟨(⟨⟩ | v704), hl2754, h⟩ := Option.bind_eq_some_iff.mp h
    · try dsimp only at h
      refine mg_Ev.more (loc := [some (.ref 1), some (.int 0)]) (ev_C_canDeclareEntries_L30 _ _ _ _ hl2754 _ ?_) ⟨rfl, ⟨rfl, trivial⟩⟩
      show mg_Ev _ _ _ 60 [none, none] [] (hp u fL fD, c, z) _
      refine mg_Ev.go 1 (pc' := 61) (loc' := [none, none]) (st' := [.int 1]) (w' := (hp u fL fD, c, z)) rfl ?_
      cases h
      exact mg_Ev.fin rfl rfl rfl
    · try dsimp only at h
      cases h
      refine mg_Ev.more (loc := [some (.ref 1), some (.int 0)]) (ev_C_canDeclareEntries_L30 _ _ _ _ hl2754 _ ?_) ⟨rfl, ⟨rfl, trivial⟩⟩
      rfl
  · rw [if_neg hc2753] at h
    refine mg_Ev.go 1 (pc' := 27) (loc' := [some (.ref 1), none]) (st' := [.int 0]) (w' := (hp u fL fD, c, z)) rfl ?_
    cases h
    exact mg_Ev.fin rfl rfl rfl

def T_setCount_34 (a0 : Int32) (u : mg_Rg) : Option (mg_Rg) :=
  some (mg_up u 35 0 a0)

set_option maxRecDepth 10000 in
set_option maxHeartbeats 4000000 in
theorem ev_T_setCount_34 {sc : mg_Sc} {c z : Nat} {fL : Nat → Int64} {fD : Nat → UInt64} {a0 : Int32} {u : mg_Rg} {v : mg_Rg} (h : T_setCount_34 a0 u = some v) : mg_Ev sc 0 193 0 (mg_entry 193 [.ref 35, .int a0]) [] (hp u fL fD, c, z) (.inl none, (hp v fL fD, c, z)) := by
  unfold T_setCount_34 at h
  show mg_Ev _ _ _ 0 [some (.ref 35), some (.int a0)] [] _ _
  refine mg_Ev.go 3 (pc' := 5) (loc' := [some (.ref 35), some (.int a0)]) (st' := [.int 9]) (w' := (hp u fL fD, c, z)) rfl ?_
  refine mg_Ev.br (P := (9 : Int32) ≤ 0) (t := 15) (nx := 8) (st' := []) rfl rfl rfl rfl (fun q => absurd q (by decide)) (fun _ => ?_)
  refine mg_Ev.go 4 (pc' := 14) (loc' := [some (.ref 35), some (.int a0)]) (st' := [.int a0, .int 0, .ref 36]) (w' := (hp u fL fD, c, z)) rfl ?_
  refine mg_Ev.iast (a := 35) (n := 9) (j := 0) rfl (hpg_35 _ _ _) (by decide) (by decide) (hpa_35 _ _ _ _ _ _ _) ?_
  cases h
  exact mg_Ev.fin rfl rfl rfl

def T_clear_34 (u : mg_Rg) : Option (mg_Rg) :=
  (T_setCount_34 0 u).bind fun u709 =>
  some u709

set_option maxRecDepth 10000 in
set_option maxHeartbeats 4000000 in
theorem ev_T_clear_34 {sc : mg_Sc} {c z : Nat} {fL : Nat → Int64} {fD : Nat → UInt64} {u : mg_Rg} {v : mg_Rg} (h : T_clear_34 u = some v) : mg_Ev sc 1 189 0 (mg_entry 189 [.ref 35]) [] (hp u fL fD, c, z) (.inl none, (hp v fL fD, c, z)) := by
  unfold T_clear_34 at h
  show mg_Ev _ _ _ 0 [some (.ref 35)] [] _ _
  refine mg_Ev.go 2 (pc' := 2) (loc' := [some (.ref 35)]) (st' := [.int 0, .ref 35]) (w' := (hp u fL fD, c, z)) rfl ?_
  obtain ⟨u709, hf2756, h⟩ := Option.bind_eq_some_iff.mp h
  refine mg_Ev.call (y := 193) (as := [.ref 35, .int 0]) (rest := []) (v := none) (w1 := (hp u709 fL fD, c, z)) rfl rfl (Nat.le_of_ble_eq_true rfl) ((ev_T_setCount_34 hf2756).deep (by decide)) ?_
  cases h
  exact mg_Ev.fin rfl rfl rfl

def T_count_34 (u : mg_Rg) : Option (Int32) :=
  some (u 35 0)

set_option maxRecDepth 10000 in
set_option maxHeartbeats 4000000 in
theorem ev_T_count_34 {sc : mg_Sc} {c z : Nat} {fL : Nat → Int64} {fD : Nat → UInt64} {u : mg_Rg} {v : Int32} (h : T_count_34 u = some v) : mg_Ev sc 0 181 0 (mg_entry 181 [.ref 35]) [] (hp u fL fD, c, z) (.inl (some (.int v)), (hp u fL fD, c, z)) := by
  unfold T_count_34 at h
  show mg_Ev _ _ _ 0 [some (.ref 35)] [] _ _
  refine mg_Ev.go 3 (pc' := 5) (loc' := [some (.ref 35)]) (st' := [.int 9]) (w' := (hp u fL fD, c, z)) rfl ?_
  refine mg_Ev.br (P := (9 : Int32) ≤ 0) (t := 17) (nx := 8) (st' := []) rfl rfl rfl rfl (fun q => absurd q (by decide)) (fun _ => ?_)
  refine mg_Ev.go 3 (pc' := 13) (loc' := [some (.ref 35)]) (st' := [.int 0, .ref 36]) (w' := (hp u fL fD, c, z)) rfl ?_
  refine mg_Ev.iald (a := 35) (n := 9) (f := u 35) (j := 0) rfl (hpg_35 _ _ _) (by decide) (by decide) ?_
  refine mg_Ev.go 1 (pc' := 18) (loc' := [some (.ref 35)]) (st' := [.int (u 35 0)]) (w' := (hp u fL fD, c, z)) rfl ?_
  cases h
  exact mg_Ev.fin rfl rfl rfl

def T_put_34 (a0 : Int32) (a1 : Int32) (a2 : Int32) (u : mg_Rg) : Option (mg_Rg) :=
  if a0 < 0 then
  some u
  else
  if 4 ≤ a0 then
    some u
    else
    if a1 < 0 then
      some u
      else
      if a1 < 2 then
        if ((1 + (a0 * 2)) + a1) < 0 then
          some u
          else
          if 9 ≤ ((1 + (a0 * 2)) + a1) then
            some u
            else
            if ((1 + (a0 * 2)) + a1) < 0 ∨ 9 ≤ ((1 + (a0 * 2)) + a1).toNatClampNeg then none else
              some (mg_up u 35 (((1 + (a0 * 2)) + a1).toNatClampNeg) a2)
        else
        some u

set_option maxRecDepth 10000 in
set_option maxHeartbeats 4000000 in
theorem ev_T_put_34 {sc : mg_Sc} {c z : Nat} {fL : Nat → Int64} {fD : Nat → UInt64} {a0 : Int32} {a1 : Int32} {a2 : Int32} {u : mg_Rg} {v : mg_Rg} (h : T_put_34 a0 a1 a2 u = some v) : mg_Ev sc 0 185 0 (mg_entry 185 [.ref 35, .int a0, .int a1, .int a2]) [] (hp u fL fD, c, z) (.inl none, (hp v fL fD, c, z)) := by
  unfold T_put_34 at h
  show mg_Ev _ _ _ 0 [some (.ref 35), some (.int a0), some (.int a1), some (.int a2), none] [] _ _
  refine mg_Ev.go 1 (pc' := 1) (loc' := [some (.ref 35), some (.int a0), some (.int a1), some (.int a2), none]) (st' := [.int a0]) (w' := (hp u fL fD, c, z)) rfl ?_
  refine mg_Ev.br (P := a0 < 0) (t := 24) (nx := 4) (st' := []) rfl rfl rfl rfl (fun hc2758 => ?_) (fun hc2758 => ?_)
  · rw [if_pos hc2758] at h
    cases h
    exact mg_Ev.fin rfl rfl rfl
  · rw [if_neg hc2758] at h
    refine mg_Ev.go 3 (pc' := 9) (loc' := [some (.ref 35), some (.int a0), some (.int a1), some (.int a2), none]) (st' := [.int 4, .int a0]) (w' := (hp u fL fD, c, z)) rfl ?_
    refine mg_Ev.br (P := 4 ≤ a0) (t := 24) (nx := 12) (st' := []) rfl rfl rfl rfl (fun hc2759 => ?_) (fun hc2759 => ?_)
    · rw [if_pos hc2759] at h
      cases h
      exact mg_Ev.fin rfl rfl rfl
    · rw [if_neg hc2759] at h
      refine mg_Ev.go 1 (pc' := 13) (loc' := [some (.ref 35), some (.int a0), some (.int a1), some (.int a2), none]) (st' := [.int a1]) (w' := (hp u fL fD, c, z)) rfl ?_
      refine mg_Ev.br (P := a1 < 0) (t := 24) (nx := 16) (st' := []) rfl rfl rfl rfl (fun hc2760 => ?_) (fun hc2760 => ?_)
      · rw [if_pos hc2760] at h
        cases h
        exact mg_Ev.fin rfl rfl rfl
      · rw [if_neg hc2760] at h
        refine mg_Ev.go 3 (pc' := 21) (loc' := [some (.ref 35), some (.int a0), some (.int a1), some (.int a2), none]) (st' := [.int 2, .int a1]) (w' := (hp u fL fD, c, z)) rfl ?_
        refine mg_Ev.br (P := a1 < 2) (t := 25) (nx := 24) (st' := []) rfl rfl rfl rfl (fun hc2761 => ?_) (fun hc2761 => ?_)
        · rw [if_pos hc2761] at h
          refine mg_Ev.go 10 (pc' := 39) (loc' := [some (.ref 35), some (.int a0), some (.int a1), some (.int a2), some (.int ((1 + (a0 * 2)) + a1))]) (st' := [.int ((1 + (a0 * 2)) + a1)]) (w' := (hp u fL fD, c, z)) rfl ?_
          refine mg_Ev.br (P := ((1 + (a0 * 2)) + a1) < 0) (t := 60) (nx := 42) (st' := []) rfl rfl rfl rfl (fun hc2762 => ?_) (fun hc2762 => ?_)
          · rw [if_pos hc2762] at h
            cases h
            exact mg_Ev.fin rfl rfl rfl
          · rw [if_neg hc2762] at h
            refine mg_Ev.go 4 (pc' := 49) (loc' := [some (.ref 35), some (.int a0), some (.int a1), some (.int a2), some (.int ((1 + (a0 * 2)) + a1))]) (st' := [.int 9, .int ((1 + (a0 * 2)) + a1)]) (w' := (hp u fL fD, c, z)) rfl ?_
            refine mg_Ev.br (P := 9 ≤ ((1 + (a0 * 2)) + a1)) (t := 60) (nx := 52) (st' := []) rfl rfl rfl rfl (fun hc2763 => ?_) (fun hc2763 => ?_)
            · rw [if_pos hc2763] at h
              cases h
              exact mg_Ev.fin rfl rfl rfl
            · rw [if_neg hc2763] at h
              refine mg_Ev.go 4 (pc' := 59) (loc' := [some (.ref 35), some (.int a0), some (.int a1), some (.int a2), some (.int ((1 + (a0 * 2)) + a1))]) (st' := [.int a2, .int ((1 + (a0 * 2)) + a1), .ref 36]) (w' := (hp u fL fD, c, z)) rfl ?_
              by_cases hb2764 : ((1 + (a0 * 2)) + a1) < 0 ∨ 9 ≤ ((1 + (a0 * 2)) + a1).toNatClampNeg
              · rw [if_pos hb2764] at h
                cases h
              · rw [if_neg hb2764] at h
                refine mg_Ev.iast (a := 35) (n := 9) rfl (hpg_35 _ _ _) rfl hb2764 (hpa_35 _ _ _ _ _ _ _) ?_
                cases h
                exact mg_Ev.fin rfl rfl rfl
        · rw [if_neg hc2761] at h
          cases h
          exact mg_Ev.fin rfl rfl rfl

def T_add_34_L17 : Nat → Int32 → Int32 → mg_Rg → Option (mg_Rg)
  | 0, _, _, _ => none
  | n + 1, x1, x2, u =>
    if 2 ≤ x2 then
    some (u)
    else
    (T_put_34 x1 x2 0 u).bind fun u715 =>
      T_add_34_L17 n x1 (x2 + 1) u715
set_option maxRecDepth 10000 in
set_option maxHeartbeats 4000000 in
theorem ev_T_add_34_L17 {sc : mg_Sc} {c z : Nat} {fL : Nat → Int64} {fD : Nat → UInt64} : ∀ (n : Nat) (x1 : Int32) (x2 : Int32) (u : mg_Rg) (res : mg_Rg), T_add_34_L17 n x1 x2 u = some res → ∀ r, (match res with | yu => mg_Ev sc 1 187 38 [some (.ref 35), some (.int x1), none] [] (hp yu fL fD, c, z) r) → mg_Ev sc 1 187 17 [some (.ref 35), some (.int x1), some (.int x2)] [] (hp u fL fD, c, z) r := by
  intro n
  induction n with
  | zero => intro x1 x2 u res h; cases h
  | succ n ih =>
    intro x1 x2 u res h r K
    unfold T_add_34_L17 at h
    refine mg_Ev.go 3 (pc' := 22) (loc' := [some (.ref 35), some (.int x1), some (.int x2)]) (st' := [.int 2, .int x2]) (w' := (hp u fL fD, c, z)) rfl ?_
    refine mg_Ev.br (P := 2 ≤ x2) (t := 38) (nx := 25) (st' := []) rfl rfl rfl rfl (fun hc2765 => ?_) (fun hc2765 => ?_)
    · rw [if_pos hc2765] at h
      cases h
      exact mg_Ev.more (loc := [some (.ref 35), some (.int x1), none]) K ⟨rfl, ⟨rfl, trivial⟩⟩
    · rw [if_neg hc2765] at h
      refine mg_Ev.go 4 (pc' := 29) (loc' := [some (.ref 35), some (.int x1), some (.int x2)]) (st' := [.int 0, .int x2, .int x1, .ref 35]) (w' := (hp u fL fD, c, z)) rfl ?_
      obtain ⟨u715, hf2766, h⟩ := Option.bind_eq_some_iff.mp h
      refine mg_Ev.call (y := 185) (as := [.ref 35, .int x1, .int x2, .int 0]) (rest := []) (v := none) (w1 := (hp u715 fL fD, c, z)) rfl rfl (Nat.le_of_ble_eq_true rfl) ((ev_T_put_34 hf2766).deep (by decide)) ?_
      refine mg_Ev.go 2 (pc' := 17) (loc' := [some (.ref 35), some (.int x1), some (.int (x2 + 1))]) (st' := []) (w' := (hp u715 fL fD, c, z)) rfl ?_
      exact mg_Ev.more (loc := [some (.ref 35), some (.int x1), some (.int (x2 + 1))]) (ih _ _ _ _ h _ K) ⟨rfl, ⟨rfl, ⟨rfl, trivial⟩⟩⟩

def T_add_34 (u : mg_Rg) : Option (Int32 × mg_Rg) :=
  (T_count_34 u).bind fun v714 =>
  if v714 < 4 then
  (T_add_34_L17 mg_F v714 0 u).bind fun q2767 => match q2767 with
    | u716 =>
      (T_setCount_34 (v714 + 1) u716).bind fun u717 =>
      some (v714, u717)
  else
  some ((-1), u)

set_option maxRecDepth 10000 in
set_option maxHeartbeats 4000000 in
theorem ev_T_add_34 {sc : mg_Sc} {c z : Nat} {fL : Nat → Int64} {fD : Nat → UInt64} {u : mg_Rg} {p : Int32 × mg_Rg} (h : T_add_34 u = some p) : mg_Ev sc 1 187 0 (mg_entry 187 [.ref 35]) [] (hp u fL fD, c, z) (.inl (some (.int p.1)), (hp p.2 fL fD, c, z)) := by
  unfold T_add_34 at h
  show mg_Ev _ _ _ 0 [some (.ref 35), none, none] [] _ _
  refine mg_Ev.go 1 (pc' := 1) (loc' := [some (.ref 35), none, none]) (st' := [.ref 35]) (w' := (hp u fL fD, c, z)) rfl ?_
  obtain ⟨v714, hf2768, h⟩ := Option.bind_eq_some_iff.mp h
  refine mg_Ev.call (y := 181) (as := [.ref 35]) (rest := []) (v := some (.int v714)) (w1 := (hp u fL fD, c, z)) rfl rfl (Nat.le_of_ble_eq_true rfl) ((ev_T_count_34 hf2768).deep (by decide)) ?_
  refine mg_Ev.go 4 (pc' := 10) (loc' := [some (.ref 35), some (.int v714), none]) (st' := [.int 4, .int v714]) (w' := (hp u fL fD, c, z)) rfl ?_
  refine mg_Ev.br (P := v714 < 4) (t := 15) (nx := 13) (st' := []) rfl rfl rfl rfl (fun hc2769 => ?_) (fun hc2769 => ?_)
  · rw [if_pos hc2769] at h
    refine mg_Ev.go 2 (pc' := 17) (loc' := [some (.ref 35), some (.int v714), some (.int 0)]) (st' := []) (w' := (hp u fL fD, c, z)) rfl ?_
    obtain ⟨u716, hl2770, h⟩ := Option.bind_eq_some_iff.mp h
    try dsimp only at h
    refine mg_Ev.more (loc := [some (.ref 35), some (.int v714), some (.int 0)]) (ev_T_add_34_L17 _ _ _ _ _ hl2770 _ ?_) ⟨rfl, ⟨rfl, ⟨rfl, trivial⟩⟩⟩
    show mg_Ev _ _ _ 38 [some (.ref 35), some (.int v714), none] [] (hp u716 fL fD, c, z) _
    refine mg_Ev.go 4 (pc' := 42) (loc' := [some (.ref 35), some (.int v714), none]) (st' := [.int (v714 + 1), .ref 35]) (w' := (hp u716 fL fD, c, z)) rfl ?_
    obtain ⟨u717, hf2771, h⟩ := Option.bind_eq_some_iff.mp h
    refine mg_Ev.call (y := 193) (as := [.ref 35, .int (v714 + 1)]) (rest := []) (v := none) (w1 := (hp u717 fL fD, c, z)) rfl rfl (Nat.le_of_ble_eq_true rfl) ((ev_T_setCount_34 hf2771).deep (by decide)) ?_
    refine mg_Ev.go 1 (pc' := 46) (loc' := [some (.ref 35), some (.int v714), none]) (st' := [.int v714]) (w' := (hp u717 fL fD, c, z)) rfl ?_
    cases h
    exact mg_Ev.fin rfl rfl rfl
  · rw [if_neg hc2769] at h
    refine mg_Ev.go 1 (pc' := 14) (loc' := [some (.ref 35), some (.int v714), none]) (st' := [.int (-1)]) (w' := (hp u fL fD, c, z)) rfl ?_
    cases h
    exact mg_Ev.fin rfl rfl rfl

def P_addPart_33 (a0 : Int32) (a1 : Int32) (u : mg_Rg) : Option (mg_Rg) :=
  (T_add_34 u).bind fun p720 => match p720 with
  | (v718, u719) =>
    (T_put_34 v718 0 a0 u719).bind fun u721 =>
    (T_put_34 v718 1 a1 u721).bind fun u722 =>
    some u722

set_option maxRecDepth 10000 in
set_option maxHeartbeats 4000000 in
theorem ev_P_addPart_33 {sc : mg_Sc} {c z : Nat} {fL : Nat → Int64} {fD : Nat → UInt64} {a0 : Int32} {a1 : Int32} {u : mg_Rg} {v : mg_Rg} (h : P_addPart_33 a0 a1 u = some v) : mg_Ev sc 2 176 0 (mg_entry 176 [.ref 34, .int a0, .int a1]) [] (hp u fL fD, c, z) (.inl none, (hp v fL fD, c, z)) := by
  unfold P_addPart_33 at h
  show mg_Ev _ _ _ 0 [some (.ref 34), some (.int a0), some (.int a1), none] [] _ _
  refine mg_Ev.go 2 (pc' := 4) (loc' := [some (.ref 34), some (.int a0), some (.int a1), none]) (st' := [.ref 35]) (w' := (hp u fL fD, c, z)) rfl ?_
  obtain ⟨⟨v718, u719⟩, hf2772, h⟩ := Option.bind_eq_some_iff.mp h
  try dsimp only at h
  refine mg_Ev.call (y := 187) (as := [.ref 35]) (rest := []) (v := some (.int v718)) (w1 := (hp u719 fL fD, c, z)) rfl rfl (Nat.le_of_ble_eq_true rfl) ((ev_T_add_34 hf2772).deep (by decide)) ?_
  refine mg_Ev.go 6 (pc' := 15) (loc' := [some (.ref 34), some (.int a0), some (.int a1), some (.int v718)]) (st' := [.int a0, .int 0, .int v718, .ref 35]) (w' := (hp u719 fL fD, c, z)) rfl ?_
  obtain ⟨u721, hf2773, h⟩ := Option.bind_eq_some_iff.mp h
  refine mg_Ev.call (y := 185) (as := [.ref 35, .int v718, .int 0, .int a0]) (rest := []) (v := none) (w1 := (hp u721 fL fD, c, z)) rfl rfl (Nat.le_of_ble_eq_true rfl) ((ev_T_put_34 hf2773).deep (by decide)) ?_
  refine mg_Ev.go 5 (pc' := 25) (loc' := [some (.ref 34), some (.int a0), some (.int a1), some (.int v718)]) (st' := [.int a1, .int 1, .int v718, .ref 35]) (w' := (hp u721 fL fD, c, z)) rfl ?_
  obtain ⟨u722, hf2774, h⟩ := Option.bind_eq_some_iff.mp h
  refine mg_Ev.call (y := 185) (as := [.ref 35, .int v718, .int 1, .int a1]) (rest := []) (v := none) (w1 := (hp u722 fL fD, c, z)) rfl rfl (Nat.le_of_ble_eq_true rfl) ((ev_T_put_34 hf2774).deep (by decide)) ?_
  cases h
  exact mg_Ev.fin rfl rfl rfl

def T_get_34 (a0 : Int32) (a1 : Int32) (u : mg_Rg) : Option (Int32) :=
  if a0 < 0 then
  some 0
  else
  if 4 ≤ a0 then
    some 0
    else
    if a1 < 0 then
      some 0
      else
      if a1 < 2 then
        if ((1 + (a0 * 2)) + a1) < 0 then
          some 0
          else
          if 9 ≤ ((1 + (a0 * 2)) + a1) then
            some 0
            else
            if ((1 + (a0 * 2)) + a1) < 0 ∨ 9 ≤ ((1 + (a0 * 2)) + a1).toNatClampNeg then none else
              some (u 35 (((1 + (a0 * 2)) + a1).toNatClampNeg))
        else
        some 0

set_option maxRecDepth 10000 in
set_option maxHeartbeats 4000000 in
theorem ev_T_get_34 {sc : mg_Sc} {c z : Nat} {fL : Nat → Int64} {fD : Nat → UInt64} {a0 : Int32} {a1 : Int32} {u : mg_Rg} {v : Int32} (h : T_get_34 a0 a1 u = some v) : mg_Ev sc 0 184 0 (mg_entry 184 [.ref 35, .int a0, .int a1]) [] (hp u fL fD, c, z) (.inl (some (.int v)), (hp u fL fD, c, z)) := by
  unfold T_get_34 at h
  show mg_Ev _ _ _ 0 [some (.ref 35), some (.int a0), some (.int a1), none] [] _ _
  refine mg_Ev.go 1 (pc' := 1) (loc' := [some (.ref 35), some (.int a0), some (.int a1), none]) (st' := [.int a0]) (w' := (hp u fL fD, c, z)) rfl ?_
  refine mg_Ev.br (P := a0 < 0) (t := 24) (nx := 4) (st' := []) rfl rfl rfl rfl (fun hc2775 => ?_) (fun hc2775 => ?_)
  · rw [if_pos hc2775] at h
    refine mg_Ev.go 1 (pc' := 25) (loc' := [some (.ref 35), some (.int a0), some (.int a1), none]) (st' := [.int 0]) (w' := (hp u fL fD, c, z)) rfl ?_
    cases h
    exact mg_Ev.fin rfl rfl rfl
  · rw [if_neg hc2775] at h
    refine mg_Ev.go 3 (pc' := 9) (loc' := [some (.ref 35), some (.int a0), some (.int a1), none]) (st' := [.int 4, .int a0]) (w' := (hp u fL fD, c, z)) rfl ?_
    refine mg_Ev.br (P := 4 ≤ a0) (t := 24) (nx := 12) (st' := []) rfl rfl rfl rfl (fun hc2776 => ?_) (fun hc2776 => ?_)
    · rw [if_pos hc2776] at h
      refine mg_Ev.go 1 (pc' := 25) (loc' := [some (.ref 35), some (.int a0), some (.int a1), none]) (st' := [.int 0]) (w' := (hp u fL fD, c, z)) rfl ?_
      cases h
      exact mg_Ev.fin rfl rfl rfl
    · rw [if_neg hc2776] at h
      refine mg_Ev.go 1 (pc' := 13) (loc' := [some (.ref 35), some (.int a0), some (.int a1), none]) (st' := [.int a1]) (w' := (hp u fL fD, c, z)) rfl ?_
      refine mg_Ev.br (P := a1 < 0) (t := 24) (nx := 16) (st' := []) rfl rfl rfl rfl (fun hc2777 => ?_) (fun hc2777 => ?_)
      · rw [if_pos hc2777] at h
        refine mg_Ev.go 1 (pc' := 25) (loc' := [some (.ref 35), some (.int a0), some (.int a1), none]) (st' := [.int 0]) (w' := (hp u fL fD, c, z)) rfl ?_
        cases h
        exact mg_Ev.fin rfl rfl rfl
      · rw [if_neg hc2777] at h
        refine mg_Ev.go 3 (pc' := 21) (loc' := [some (.ref 35), some (.int a0), some (.int a1), none]) (st' := [.int 2, .int a1]) (w' := (hp u fL fD, c, z)) rfl ?_
        refine mg_Ev.br (P := a1 < 2) (t := 26) (nx := 24) (st' := []) rfl rfl rfl rfl (fun hc2778 => ?_) (fun hc2778 => ?_)
        · rw [if_pos hc2778] at h
          refine mg_Ev.go 10 (pc' := 38) (loc' := [some (.ref 35), some (.int a0), some (.int a1), some (.int ((1 + (a0 * 2)) + a1))]) (st' := [.int ((1 + (a0 * 2)) + a1)]) (w' := (hp u fL fD, c, z)) rfl ?_
          refine mg_Ev.br (P := ((1 + (a0 * 2)) + a1) < 0) (t := 59) (nx := 41) (st' := []) rfl rfl rfl rfl (fun hc2779 => ?_) (fun hc2779 => ?_)
          · rw [if_pos hc2779] at h
            refine mg_Ev.go 1 (pc' := 60) (loc' := [some (.ref 35), some (.int a0), some (.int a1), some (.int ((1 + (a0 * 2)) + a1))]) (st' := [.int 0]) (w' := (hp u fL fD, c, z)) rfl ?_
            cases h
            exact mg_Ev.fin rfl rfl rfl
          · rw [if_neg hc2779] at h
            refine mg_Ev.go 4 (pc' := 47) (loc' := [some (.ref 35), some (.int a0), some (.int a1), some (.int ((1 + (a0 * 2)) + a1))]) (st' := [.int 9, .int ((1 + (a0 * 2)) + a1)]) (w' := (hp u fL fD, c, z)) rfl ?_
            refine mg_Ev.br (P := 9 ≤ ((1 + (a0 * 2)) + a1)) (t := 59) (nx := 50) (st' := []) rfl rfl rfl rfl (fun hc2780 => ?_) (fun hc2780 => ?_)
            · rw [if_pos hc2780] at h
              refine mg_Ev.go 1 (pc' := 60) (loc' := [some (.ref 35), some (.int a0), some (.int a1), some (.int ((1 + (a0 * 2)) + a1))]) (st' := [.int 0]) (w' := (hp u fL fD, c, z)) rfl ?_
              cases h
              exact mg_Ev.fin rfl rfl rfl
            · rw [if_neg hc2780] at h
              refine mg_Ev.go 3 (pc' := 55) (loc' := [some (.ref 35), some (.int a0), some (.int a1), some (.int ((1 + (a0 * 2)) + a1))]) (st' := [.int ((1 + (a0 * 2)) + a1), .ref 36]) (w' := (hp u fL fD, c, z)) rfl ?_
              by_cases hb2781 : ((1 + (a0 * 2)) + a1) < 0 ∨ 9 ≤ ((1 + (a0 * 2)) + a1).toNatClampNeg
              · rw [if_pos hb2781] at h
                cases h
              · rw [if_neg hb2781] at h
                refine mg_Ev.iald (a := 35) (n := 9) (f := u 35) rfl (hpg_35 _ _ _) rfl hb2781 ?_
                refine mg_Ev.go 1 (pc' := 60) (loc' := [some (.ref 35), some (.int a0), some (.int a1), some (.int ((1 + (a0 * 2)) + a1))]) (st' := [.int (u 35 (((1 + (a0 * 2)) + a1).toNatClampNeg))]) (w' := (hp u fL fD, c, z)) rfl ?_
                cases h
                exact mg_Ev.fin rfl rfl rfl
        · rw [if_neg hc2778] at h
          refine mg_Ev.go 1 (pc' := 25) (loc' := [some (.ref 35), some (.int a0), some (.int a1), none]) (st' := [.int 0]) (w' := (hp u fL fD, c, z)) rfl ?_
          cases h
          exact mg_Ev.fin rfl rfl rfl

def P_wholeValue_33_L4 : Nat → Int32 → Int32 → mg_Rg → Option (Int32)
  | 0, _, _, _ => none
  | n + 1, x1, x2, u =>
    (T_count_34 u).bind fun v735 =>
    if v735 ≤ x2 then
    some (x1)
    else
    (T_get_34 x2 1 u).bind fun v736 =>
      P_wholeValue_33_L4 n (x1 + v736) (x2 + 1) u
set_option maxRecDepth 10000 in
set_option maxHeartbeats 4000000 in
theorem ev_P_wholeValue_33_L4 {sc : mg_Sc} {c z : Nat} {fL : Nat → Int64} {fD : Nat → UInt64} : ∀ (n : Nat) (x1 : Int32) (x2 : Int32) (u : mg_Rg) (res : Int32), P_wholeValue_33_L4 n x1 x2 u = some res → ∀ r, (match res with | y1 => mg_Ev sc 1 177 33 [none, some (.int y1), none] [] (hp u fL fD, c, z) r) → mg_Ev sc 1 177 4 [some (.ref 34), some (.int x1), some (.int x2)] [] (hp u fL fD, c, z) r := by
  intro n
  induction n with
  | zero => intro x1 x2 u res h; cases h
  | succ n ih =>
    intro x1 x2 u res h r K
    unfold P_wholeValue_33_L4 at h
    refine mg_Ev.go 3 (pc' := 9) (loc' := [some (.ref 34), some (.int x1), some (.int x2)]) (st' := [.ref 35, .int x2]) (w' := (hp u fL fD, c, z)) rfl ?_
    obtain ⟨v735, hf2782, h⟩ := Option.bind_eq_some_iff.mp h
    refine mg_Ev.call (y := 181) (as := [.ref 35]) (rest := [.int x2]) (v := some (.int v735)) (w1 := (hp u fL fD, c, z)) rfl rfl (Nat.le_of_ble_eq_true rfl) ((ev_T_count_34 hf2782).deep (by decide)) ?_
    refine mg_Ev.br (P := v735 ≤ x2) (t := 33) (nx := 15) (st' := []) rfl rfl rfl rfl (fun hc2783 => ?_) (fun hc2783 => ?_)
    · rw [if_pos hc2783] at h
      cases h
      exact mg_Ev.more (loc := [none, some (.int x1), none]) K ⟨rfl, trivial⟩
    · rw [if_neg hc2783] at h
      refine mg_Ev.go 5 (pc' := 22) (loc' := [some (.ref 34), some (.int x1), some (.int x2)]) (st' := [.int 1, .int x2, .ref 35, .int x1]) (w' := (hp u fL fD, c, z)) rfl ?_
      obtain ⟨v736, hf2784, h⟩ := Option.bind_eq_some_iff.mp h
      refine mg_Ev.call (y := 184) (as := [.ref 35, .int x2, .int 1]) (rest := [.int x1]) (v := some (.int v736)) (w1 := (hp u fL fD, c, z)) rfl rfl (Nat.le_of_ble_eq_true rfl) ((ev_T_get_34 hf2784).deep (by decide)) ?_
      refine mg_Ev.go 4 (pc' := 4) (loc' := [some (.ref 34), some (.int (x1 + v736)), some (.int (x2 + 1))]) (st' := []) (w' := (hp u fL fD, c, z)) rfl ?_
      exact mg_Ev.more (loc := [some (.ref 34), some (.int (x1 + v736)), some (.int (x2 + 1))]) (ih _ _ _ _ h _ K) ⟨rfl, ⟨rfl, ⟨rfl, trivial⟩⟩⟩

def P_wholeValue_33 (u : mg_Rg) : Option (Int32) :=
  (P_wholeValue_33_L4 mg_F 0 0 u).bind fun q2785 => match q2785 with
  | x737 =>
    some x737

set_option maxRecDepth 10000 in
set_option maxHeartbeats 4000000 in
theorem ev_P_wholeValue_33 {sc : mg_Sc} {c z : Nat} {fL : Nat → Int64} {fD : Nat → UInt64} {u : mg_Rg} {v : Int32} (h : P_wholeValue_33 u = some v) : mg_Ev sc 1 177 0 (mg_entry 177 [.ref 34]) [] (hp u fL fD, c, z) (.inl (some (.int v)), (hp u fL fD, c, z)) := by
  unfold P_wholeValue_33 at h
  show mg_Ev _ _ _ 0 [some (.ref 34), none, none] [] _ _
  refine mg_Ev.go 4 (pc' := 4) (loc' := [some (.ref 34), some (.int 0), some (.int 0)]) (st' := []) (w' := (hp u fL fD, c, z)) rfl ?_
  obtain ⟨x737, hl2786, h⟩ := Option.bind_eq_some_iff.mp h
  try dsimp only at h
  refine mg_Ev.more (loc := [some (.ref 34), some (.int 0), some (.int 0)]) (ev_P_wholeValue_33_L4 _ _ _ _ _ hl2786 _ ?_) ⟨rfl, ⟨rfl, ⟨rfl, trivial⟩⟩⟩
  show mg_Ev _ _ _ 33 [none, some (.int x737), none] [] (hp u fL fD, c, z) _
  refine mg_Ev.go 1 (pc' := 34) (loc' := [none, some (.int x737), none]) (st' := [.int x737]) (w' := (hp u fL fD, c, z)) rfl ?_
  cases h
  exact mg_Ev.fin rfl rfl rfl

def P_amountOf_33_L4 : Nat → Int32 → Int32 → Int32 → mg_Rg → Option (Int32)
  | 0, _, _, _, _ => none
  | n + 1, x1, x2, x3, u =>
    (T_count_34 u).bind fun v744 =>
    if v744 ≤ x3 then
    some (x2)
    else
    (T_get_34 x3 0 u).bind fun v745 =>
      if v745 = x1 then
      (T_get_34 x3 1 u).bind fun v746 =>
        P_amountOf_33_L4 n x1 (x2 + v746) (x3 + 1) u
      else
      P_amountOf_33_L4 n x1 x2 (x3 + 1) u
set_option maxRecDepth 10000 in
set_option maxHeartbeats 4000000 in
theorem ev_P_amountOf_33_L4 {sc : mg_Sc} {c z : Nat} {fL : Nat → Int64} {fD : Nat → UInt64} : ∀ (n : Nat) (x1 : Int32) (x2 : Int32) (x3 : Int32) (u : mg_Rg) (res : Int32), P_amountOf_33_L4 n x1 x2 x3 u = some res → ∀ r, (match res with | y2 => mg_Ev sc 1 178 46 [none, none, some (.int y2), none] [] (hp u fL fD, c, z) r) → mg_Ev sc 1 178 4 [some (.ref 34), some (.int x1), some (.int x2), some (.int x3)] [] (hp u fL fD, c, z) r := by
  intro n
  induction n with
  | zero => intro x1 x2 x3 u res h; cases h
  | succ n ih =>
    intro x1 x2 x3 u res h r K
    unfold P_amountOf_33_L4 at h
    refine mg_Ev.go 3 (pc' := 9) (loc' := [some (.ref 34), some (.int x1), some (.int x2), some (.int x3)]) (st' := [.ref 35, .int x3]) (w' := (hp u fL fD, c, z)) rfl ?_
    obtain ⟨v744, hf2787, h⟩ := Option.bind_eq_some_iff.mp h
    refine mg_Ev.call (y := 181) (as := [.ref 35]) (rest := [.int x3]) (v := some (.int v744)) (w1 := (hp u fL fD, c, z)) rfl rfl (Nat.le_of_ble_eq_true rfl) ((ev_T_count_34 hf2787).deep (by decide)) ?_
    refine mg_Ev.br (P := v744 ≤ x3) (t := 46) (nx := 15) (st' := []) rfl rfl rfl rfl (fun hc2788 => ?_) (fun hc2788 => ?_)
    · rw [if_pos hc2788] at h
      cases h
      exact mg_Ev.more (loc := [none, none, some (.int x2), none]) K ⟨rfl, trivial⟩
    · rw [if_neg hc2788] at h
      refine mg_Ev.go 4 (pc' := 21) (loc' := [some (.ref 34), some (.int x1), some (.int x2), some (.int x3)]) (st' := [.int 0, .int x3, .ref 35]) (w' := (hp u fL fD, c, z)) rfl ?_
      obtain ⟨v745, hf2789, h⟩ := Option.bind_eq_some_iff.mp h
      refine mg_Ev.call (y := 184) (as := [.ref 35, .int x3, .int 0]) (rest := []) (v := some (.int v745)) (w1 := (hp u fL fD, c, z)) rfl rfl (Nat.le_of_ble_eq_true rfl) ((ev_T_get_34 hf2789).deep (by decide)) ?_
      refine mg_Ev.go 1 (pc' := 25) (loc' := [some (.ref 34), some (.int x1), some (.int x2), some (.int x3)]) (st' := [.int x1, .int v745]) (w' := (hp u fL fD, c, z)) rfl ?_
      refine mg_Ev.br (P := v745 = x1) (t := 28) (nx := 40) (st' := []) rfl rfl rfl rfl (fun hc2790 => ?_) (fun hc2790 => ?_)
      · rw [if_pos hc2790] at h
        refine mg_Ev.go 5 (pc' := 35) (loc' := [some (.ref 34), some (.int x1), some (.int x2), some (.int x3)]) (st' := [.int 1, .int x3, .ref 35, .int x2]) (w' := (hp u fL fD, c, z)) rfl ?_
        obtain ⟨v746, hf2791, h⟩ := Option.bind_eq_some_iff.mp h
        refine mg_Ev.call (y := 184) (as := [.ref 35, .int x3, .int 1]) (rest := [.int x2]) (v := some (.int v746)) (w1 := (hp u fL fD, c, z)) rfl rfl (Nat.le_of_ble_eq_true rfl) ((ev_T_get_34 hf2791).deep (by decide)) ?_
        refine mg_Ev.go 4 (pc' := 4) (loc' := [some (.ref 34), some (.int x1), some (.int (x2 + v746)), some (.int (x3 + 1))]) (st' := []) (w' := (hp u fL fD, c, z)) rfl ?_
        exact mg_Ev.more (loc := [some (.ref 34), some (.int x1), some (.int (x2 + v746)), some (.int (x3 + 1))]) (ih _ _ _ _ _ h _ K) ⟨rfl, ⟨rfl, ⟨rfl, ⟨rfl, trivial⟩⟩⟩⟩
      · rw [if_neg hc2790] at h
        refine mg_Ev.go 2 (pc' := 4) (loc' := [some (.ref 34), some (.int x1), some (.int x2), some (.int (x3 + 1))]) (st' := []) (w' := (hp u fL fD, c, z)) rfl ?_
        exact mg_Ev.more (loc := [some (.ref 34), some (.int x1), some (.int x2), some (.int (x3 + 1))]) (ih _ _ _ _ _ h _ K) ⟨rfl, ⟨rfl, ⟨rfl, ⟨rfl, trivial⟩⟩⟩⟩

def P_amountOf_33 (a0 : Int32) (u : mg_Rg) : Option (Int32) :=
  (P_amountOf_33_L4 mg_F a0 0 0 u).bind fun q2792 => match q2792 with
  | x747 =>
    some x747

set_option maxRecDepth 10000 in
set_option maxHeartbeats 4000000 in
theorem ev_P_amountOf_33 {sc : mg_Sc} {c z : Nat} {fL : Nat → Int64} {fD : Nat → UInt64} {a0 : Int32} {u : mg_Rg} {v : Int32} (h : P_amountOf_33 a0 u = some v) : mg_Ev sc 1 178 0 (mg_entry 178 [.ref 34, .int a0]) [] (hp u fL fD, c, z) (.inl (some (.int v)), (hp u fL fD, c, z)) := by
  unfold P_amountOf_33 at h
  show mg_Ev _ _ _ 0 [some (.ref 34), some (.int a0), none, none] [] _ _
  refine mg_Ev.go 4 (pc' := 4) (loc' := [some (.ref 34), some (.int a0), some (.int 0), some (.int 0)]) (st' := []) (w' := (hp u fL fD, c, z)) rfl ?_
  obtain ⟨x747, hl2793, h⟩ := Option.bind_eq_some_iff.mp h
  try dsimp only at h
  refine mg_Ev.more (loc := [some (.ref 34), some (.int a0), some (.int 0), some (.int 0)]) (ev_P_amountOf_33_L4 _ _ _ _ _ _ hl2793 _ ?_) ⟨rfl, ⟨rfl, ⟨rfl, ⟨rfl, trivial⟩⟩⟩⟩
  show mg_Ev _ _ _ 46 [none, none, some (.int x747), none] [] (hp u fL fD, c, z) _
  refine mg_Ev.go 1 (pc' := 47) (loc' := [none, none, some (.int x747), none]) (st' := [.int x747]) (w' := (hp u fL fD, c, z)) rfl ?_
  cases h
  exact mg_Ev.fin rfl rfl rfl

def P_originBy_33_L31 : Nat → Int32 → Int32 → Int32 → Int32 → mg_Rg → Option (Int32)
  | 0, _, _, _, _, _ => none
  | n + 1, x2, x3, x4, x5, u =>
    if 8 ≤ x5 then
    some (x4)
    else
    (P_amountOf_33 x5 u).bind fun v748 =>
      if v748 ≤ x3 then
      P_originBy_33_L31 n x2 x3 x4 (x5 + 1) u
      else
      if (v748 * 100) < x2 then
        P_originBy_33_L31 n x2 x3 x4 (x5 + 1) u
        else
        P_originBy_33_L31 n x2 v748 x5 (x5 + 1) u
set_option maxRecDepth 10000 in
set_option maxHeartbeats 4000000 in
theorem ev_P_originBy_33_L31 {sc : mg_Sc} {c z : Nat} {fL : Nat → Int64} {fD : Nat → UInt64} : ∀ (n : Nat) (x2 : Int32) (x3 : Int32) (x4 : Int32) (x5 : Int32) (u : mg_Rg) (res : Int32), P_originBy_33_L31 n x2 x3 x4 x5 u = some res → ∀ r, (match res with | y4 => mg_Ev sc 2 179 74 [none, none, none, none, some (.int y4), none, none] [] (hp u fL fD, c, z) r) → mg_Ev sc 2 179 31 [some (.ref 34), none, some (.int x2), some (.int x3), some (.int x4), some (.int x5), none] [] (hp u fL fD, c, z) r := by
  intro n
  induction n with
  | zero => intro x2 x3 x4 x5 u res h; cases h
  | succ n ih =>
    intro x2 x3 x4 x5 u res h r K
    unfold P_originBy_33_L31 at h
    refine mg_Ev.go 2 (pc' := 35) (loc' := [some (.ref 34), none, some (.int x2), some (.int x3), some (.int x4), some (.int x5), none]) (st' := [.int 8, .int x5]) (w' := (hp u fL fD, c, z)) rfl ?_
    refine mg_Ev.br (P := 8 ≤ x5) (t := 74) (nx := 38) (st' := []) rfl rfl rfl rfl (fun hc2794 => ?_) (fun hc2794 => ?_)
    · rw [if_pos hc2794] at h
      cases h
      exact mg_Ev.more (loc := [none, none, none, none, some (.int x4), none, none]) K ⟨rfl, trivial⟩
    · rw [if_neg hc2794] at h
      refine mg_Ev.go 2 (pc' := 41) (loc' := [some (.ref 34), none, some (.int x2), some (.int x3), some (.int x4), some (.int x5), none]) (st' := [.int x5, .ref 34]) (w' := (hp u fL fD, c, z)) rfl ?_
      obtain ⟨v748, hf2795, h⟩ := Option.bind_eq_some_iff.mp h
      refine mg_Ev.call (y := 178) (as := [.ref 34, .int x5]) (rest := []) (v := some (.int v748)) (w1 := (hp u fL fD, c, z)) rfl rfl (Nat.le_of_ble_eq_true rfl) ((ev_P_amountOf_33 hf2795).deep (by decide)) ?_
      refine mg_Ev.go 3 (pc' := 49) (loc' := [some (.ref 34), none, some (.int x2), some (.int x3), some (.int x4), some (.int x5), some (.int v748)]) (st' := [.int x3, .int v748]) (w' := (hp u fL fD, c, z)) rfl ?_
      refine mg_Ev.br (P := v748 ≤ x3) (t := 68) (nx := 52) (st' := []) rfl rfl rfl rfl (fun hc2796 => ?_) (fun hc2796 => ?_)
      · rw [if_pos hc2796] at h
        refine mg_Ev.go 2 (pc' := 31) (loc' := [some (.ref 34), none, some (.int x2), some (.int x3), some (.int x4), some (.int (x5 + 1)), some (.int v748)]) (st' := []) (w' := (hp u fL fD, c, z)) rfl ?_
        exact mg_Ev.more (loc := [some (.ref 34), none, some (.int x2), some (.int x3), some (.int x4), some (.int (x5 + 1)), none]) (ih _ _ _ _ _ _ h _ K) ⟨rfl, ⟨rfl, ⟨rfl, ⟨rfl, ⟨rfl, trivial⟩⟩⟩⟩⟩
      · rw [if_neg hc2796] at h
        refine mg_Ev.go 4 (pc' := 58) (loc' := [some (.ref 34), none, some (.int x2), some (.int x3), some (.int x4), some (.int x5), some (.int v748)]) (st' := [.int x2, .int (v748 * 100)]) (w' := (hp u fL fD, c, z)) rfl ?_
        refine mg_Ev.br (P := (v748 * 100) < x2) (t := 68) (nx := 61) (st' := []) rfl rfl rfl rfl (fun hc2797 => ?_) (fun hc2797 => ?_)
        · rw [if_pos hc2797] at h
          refine mg_Ev.go 2 (pc' := 31) (loc' := [some (.ref 34), none, some (.int x2), some (.int x3), some (.int x4), some (.int (x5 + 1)), some (.int v748)]) (st' := []) (w' := (hp u fL fD, c, z)) rfl ?_
          exact mg_Ev.more (loc := [some (.ref 34), none, some (.int x2), some (.int x3), some (.int x4), some (.int (x5 + 1)), none]) (ih _ _ _ _ _ _ h _ K) ⟨rfl, ⟨rfl, ⟨rfl, ⟨rfl, ⟨rfl, trivial⟩⟩⟩⟩⟩
        · rw [if_neg hc2797] at h
          refine mg_Ev.go 6 (pc' := 31) (loc' := [some (.ref 34), none, some (.int x2), some (.int v748), some (.int x5), some (.int (x5 + 1)), some (.int v748)]) (st' := []) (w' := (hp u fL fD, c, z)) rfl ?_
          exact mg_Ev.more (loc := [some (.ref 34), none, some (.int x2), some (.int v748), some (.int x5), some (.int (x5 + 1)), none]) (ih _ _ _ _ _ _ h _ K) ⟨rfl, ⟨rfl, ⟨rfl, ⟨rfl, ⟨rfl, trivial⟩⟩⟩⟩⟩

def P_originBy_33 (a0 : Int32) (u : mg_Rg) : Option (Int32) :=
  (P_wholeValue_33 u).bind fun v741 =>
  (T_count_34 u).bind fun v742 =>
  (T_get_34 (v742 - 1) 0 u).bind fun v743 =>
  (P_originBy_33_L31 mg_F (a0 * v741) 0 v743 0 u).bind fun q2798 => match q2798 with
  | x749 =>
    some x749

set_option maxRecDepth 10000 in
set_option maxHeartbeats 4000000 in
theorem ev_P_originBy_33 {sc : mg_Sc} {c z : Nat} {fL : Nat → Int64} {fD : Nat → UInt64} {a0 : Int32} {u : mg_Rg} {v : Int32} (h : P_originBy_33 a0 u = some v) : mg_Ev sc 2 179 0 (mg_entry 179 [.ref 34, .int a0]) [] (hp u fL fD, c, z) (.inl (some (.int v)), (hp u fL fD, c, z)) := by
  unfold P_originBy_33 at h
  show mg_Ev _ _ _ 0 [some (.ref 34), some (.int a0), none, none, none, none, none] [] _ _
  refine mg_Ev.go 2 (pc' := 2) (loc' := [some (.ref 34), some (.int a0), none, none, none, none, none]) (st' := [.ref 34, .int a0]) (w' := (hp u fL fD, c, z)) rfl ?_
  obtain ⟨v741, hf2799, h⟩ := Option.bind_eq_some_iff.mp h
  refine mg_Ev.call (y := 177) (as := [.ref 34]) (rest := [.int a0]) (v := some (.int v741)) (w1 := (hp u fL fD, c, z)) rfl rfl (Nat.le_of_ble_eq_true rfl) ((ev_P_wholeValue_33 hf2799).deep (by decide)) ?_
  refine mg_Ev.go 8 (pc' := 17) (loc' := [some (.ref 34), some (.int a0), some (.int (a0 * v741)), some (.int 0), none, none, none]) (st' := [.ref 35, .ref 35]) (w' := (hp u fL fD, c, z)) rfl ?_
  obtain ⟨v742, hf2800, h⟩ := Option.bind_eq_some_iff.mp h
  refine mg_Ev.call (y := 181) (as := [.ref 35]) (rest := [.ref 35]) (v := some (.int v742)) (w1 := (hp u fL fD, c, z)) rfl rfl (Nat.le_of_ble_eq_true rfl) ((ev_T_count_34 hf2800).deep (by decide)) ?_
  refine mg_Ev.go 3 (pc' := 23) (loc' := [some (.ref 34), some (.int a0), some (.int (a0 * v741)), some (.int 0), none, none, none]) (st' := [.int 0, .int (v742 - 1), .ref 35]) (w' := (hp u fL fD, c, z)) rfl ?_
  obtain ⟨v743, hf2801, h⟩ := Option.bind_eq_some_iff.mp h
  refine mg_Ev.call (y := 184) (as := [.ref 35, .int (v742 - 1), .int 0]) (rest := []) (v := some (.int v743)) (w1 := (hp u fL fD, c, z)) rfl rfl (Nat.le_of_ble_eq_true rfl) ((ev_T_get_34 hf2801).deep (by decide)) ?_
  refine mg_Ev.go 3 (pc' := 31) (loc' := [some (.ref 34), some (.int a0), some (.int (a0 * v741)), some (.int 0), some (.int v743), some (.int 0), none]) (st' := []) (w' := (hp u fL fD, c, z)) rfl ?_
  obtain ⟨x749, hl2802, h⟩ := Option.bind_eq_some_iff.mp h
  try dsimp only at h
  refine mg_Ev.more (loc := [some (.ref 34), none, some (.int (a0 * v741)), some (.int 0), some (.int v743), some (.int 0), none]) (ev_P_originBy_33_L31 _ _ _ _ _ _ _ hl2802 _ ?_) ⟨rfl, ⟨rfl, ⟨rfl, ⟨rfl, ⟨rfl, trivial⟩⟩⟩⟩⟩
  show mg_Ev _ _ _ 74 [none, none, none, none, some (.int x749), none, none] [] (hp u fL fD, c, z) _
  refine mg_Ev.go 1 (pc' := 76) (loc' := [none, none, none, none, some (.int x749), none, none]) (st' := [.int x749]) (w' := (hp u fL fD, c, z)) rfl ?_
  cases h
  exact mg_Ev.fin rfl rfl rfl

def O_enter_33 (a0 : Int32) (a1 : Int32) (a2 : Int32) (a3 : Int32) (u : mg_Rg) : Option (Int32 × mg_Rg) :=
  (T_add_25 u).bind fun p732 => match p732 with
  | (v730, u731) =>
    (T_put_25 v730 0 a0 u731).bind fun u733 =>
    (T_put_25 v730 1 a1 u733).bind fun u734 =>
    (P_wholeValue_33 u734).bind fun v738 =>
    (T_put_25 v730 2 v738 u734).bind fun u739 =>
    (Tf_setting 0 u739).bind fun v740 =>
    (P_originBy_33 v740 u739).bind fun v750 =>
    (T_put_25 v730 3 v750 u739).bind fun u751 =>
    (T_put_25 v730 4 a2 u751).bind fun u752 =>
    (T_put_25 v730 5 a3 u752).bind fun u753 =>
    (Lg_day u753).bind fun v754 =>
    (T_put_25 v730 6 v754 u753).bind fun u755 =>
    (T_put_25 v730 7 0 u755).bind fun u756 =>
    (T_put_25 v730 12 (-1) u756).bind fun u757 =>
    (T_put_25 v730 13 (-1) u757).bind fun u758 =>
    (T_put_25 v730 14 (-1) u758).bind fun u759 =>
    some (v730, u759)

set_option maxRecDepth 10000 in
set_option maxHeartbeats 4000000 in
theorem ev_O_enter_33 {sc : mg_Sc} {c z : Nat} {fL : Nat → Int64} {fD : Nat → UInt64} {a0 : Int32} {a1 : Int32} {a2 : Int32} {a3 : Int32} {u : mg_Rg} {p : Int32 × mg_Rg} (h : O_enter_33 a0 a1 a2 a3 u = some p) : mg_Ev sc 3 152 0 (mg_entry 152 [.ref 2, .int a0, .int a1, .int a2, .int a3, .ref 34]) [] (hp u fL fD, c, z) (.inl (some (.int p.1)), (hp p.2 fL fD, c, z)) := by
  unfold O_enter_33 at h
  show mg_Ev _ _ _ 0 [some (.ref 2), some (.int a0), some (.int a1), some (.int a2), some (.int a3), some (.ref 34), none] [] _ _
  refine mg_Ev.go 2 (pc' := 4) (loc' := [some (.ref 2), some (.int a0), some (.int a1), some (.int a2), some (.int a3), some (.ref 34), none]) (st' := [.ref 26]) (w' := (hp u fL fD, c, z)) rfl ?_
  obtain ⟨⟨v730, u731⟩, hf2803, h⟩ := Option.bind_eq_some_iff.mp h
  try dsimp only at h
  refine mg_Ev.call (y := 187) (as := [.ref 26]) (rest := []) (v := some (.int v730)) (w1 := (hp u731 fL fD, c, z)) rfl rfl (Nat.le_of_ble_eq_true rfl) ((ev_T_add_25 hf2803).deep (by decide)) ?_
  refine mg_Ev.go 6 (pc' := 17) (loc' := [some (.ref 2), some (.int a0), some (.int a1), some (.int a2), some (.int a3), some (.ref 34), some (.int v730)]) (st' := [.int a0, .int 0, .int v730, .ref 26]) (w' := (hp u731 fL fD, c, z)) rfl ?_
  obtain ⟨u733, hf2804, h⟩ := Option.bind_eq_some_iff.mp h
  refine mg_Ev.call (y := 185) (as := [.ref 26, .int v730, .int 0, .int a0]) (rest := []) (v := none) (w1 := (hp u733 fL fD, c, z)) rfl rfl (Nat.le_of_ble_eq_true rfl) ((ev_T_put_25 hf2804).deep (by decide)) ?_
  refine mg_Ev.go 5 (pc' := 28) (loc' := [some (.ref 2), some (.int a0), some (.int a1), some (.int a2), some (.int a3), some (.ref 34), some (.int v730)]) (st' := [.int a1, .int 1, .int v730, .ref 26]) (w' := (hp u733 fL fD, c, z)) rfl ?_
  obtain ⟨u734, hf2805, h⟩ := Option.bind_eq_some_iff.mp h
  refine mg_Ev.call (y := 185) (as := [.ref 26, .int v730, .int 1, .int a1]) (rest := []) (v := none) (w1 := (hp u734 fL fD, c, z)) rfl rfl (Nat.le_of_ble_eq_true rfl) ((ev_T_put_25 hf2805).deep (by decide)) ?_
  refine mg_Ev.go 5 (pc' := 40) (loc' := [some (.ref 2), some (.int a0), some (.int a1), some (.int a2), some (.int a3), some (.ref 34), some (.int v730)]) (st' := [.ref 34, .int 2, .int v730, .ref 26]) (w' := (hp u734 fL fD, c, z)) rfl ?_
  obtain ⟨v738, hf2806, h⟩ := Option.bind_eq_some_iff.mp h
  refine mg_Ev.call (y := 177) (as := [.ref 34]) (rest := [.int 2, .int v730, .ref 26]) (v := some (.int v738)) (w1 := (hp u734 fL fD, c, z)) rfl rfl (Nat.le_of_ble_eq_true rfl) ((ev_P_wholeValue_33 hf2806).deep (by decide)) ?_
  obtain ⟨u739, hf2807, h⟩ := Option.bind_eq_some_iff.mp h
  refine mg_Ev.call (y := 185) (as := [.ref 26, .int v730, .int 2, .int v738]) (rest := []) (v := none) (w1 := (hp u739 fL fD, c, z)) rfl rfl (Nat.le_of_ble_eq_true rfl) ((ev_T_put_25 hf2807).deep (by decide)) ?_
  refine mg_Ev.go 8 (pc' := 60) (loc' := [some (.ref 2), some (.int a0), some (.int a1), some (.int a2), some (.int a3), some (.ref 34), some (.int v730)]) (st' := [.int 0, .ref 3, .ref 34, .int 3, .int v730, .ref 26]) (w' := (hp u739 fL fD, c, z)) rfl ?_
  obtain ⟨v740, hf2808, h⟩ := Option.bind_eq_some_iff.mp h
  refine mg_Ev.call (y := 195) (as := [.ref 3, .int 0]) (rest := [.ref 34, .int 3, .int v730, .ref 26]) (v := some (.int v740)) (w1 := (hp u739 fL fD, c, z)) rfl rfl (Nat.le_of_ble_eq_true rfl) ((ev_Tf_setting hf2808).deep (by decide)) ?_
  obtain ⟨v750, hf2809, h⟩ := Option.bind_eq_some_iff.mp h
  refine mg_Ev.call (y := 179) (as := [.ref 34, .int v740]) (rest := [.int 3, .int v730, .ref 26]) (v := some (.int v750)) (w1 := (hp u739 fL fD, c, z)) rfl rfl (Nat.le_of_ble_eq_true rfl) ((ev_P_originBy_33 hf2809).deep (by decide)) ?_
  obtain ⟨u751, hf2810, h⟩ := Option.bind_eq_some_iff.mp h
  refine mg_Ev.call (y := 185) (as := [.ref 26, .int v730, .int 3, .int v750]) (rest := []) (v := none) (w1 := (hp u751 fL fD, c, z)) rfl rfl (Nat.le_of_ble_eq_true rfl) ((ev_T_put_25 hf2810).deep (by decide)) ?_
  refine mg_Ev.go 5 (pc' := 77) (loc' := [some (.ref 2), some (.int a0), some (.int a1), some (.int a2), some (.int a3), some (.ref 34), some (.int v730)]) (st' := [.int a2, .int 4, .int v730, .ref 26]) (w' := (hp u751 fL fD, c, z)) rfl ?_
  obtain ⟨u752, hf2811, h⟩ := Option.bind_eq_some_iff.mp h
  refine mg_Ev.call (y := 185) (as := [.ref 26, .int v730, .int 4, .int a2]) (rest := []) (v := none) (w1 := (hp u752 fL fD, c, z)) rfl rfl (Nat.le_of_ble_eq_true rfl) ((ev_T_put_25 hf2811).deep (by decide)) ?_
  refine mg_Ev.go 5 (pc' := 89) (loc' := [some (.ref 2), some (.int a0), some (.int a1), some (.int a2), some (.int a3), some (.ref 34), some (.int v730)]) (st' := [.int a3, .int 5, .int v730, .ref 26]) (w' := (hp u752 fL fD, c, z)) rfl ?_
  obtain ⟨u753, hf2812, h⟩ := Option.bind_eq_some_iff.mp h
  refine mg_Ev.call (y := 185) (as := [.ref 26, .int v730, .int 5, .int a3]) (rest := []) (v := none) (w1 := (hp u753 fL fD, c, z)) rfl rfl (Nat.le_of_ble_eq_true rfl) ((ev_T_put_25 hf2812).deep (by decide)) ?_
  refine mg_Ev.go 6 (pc' := 104) (loc' := [some (.ref 2), some (.int a0), some (.int a1), some (.int a2), some (.int a3), some (.ref 34), some (.int v730)]) (st' := [.ref 16, .int 6, .int v730, .ref 26]) (w' := (hp u753 fL fD, c, z)) rfl ?_
  obtain ⟨v754, hf2813, h⟩ := Option.bind_eq_some_iff.mp h
  refine mg_Ev.call (y := 144) (as := [.ref 16]) (rest := [.int 6, .int v730, .ref 26]) (v := some (.int v754)) (w1 := (hp u753 fL fD, c, z)) rfl rfl (Nat.le_of_ble_eq_true rfl) ((ev_Lg_day hf2813).deep (by decide)) ?_
  obtain ⟨u755, hf2814, h⟩ := Option.bind_eq_some_iff.mp h
  refine mg_Ev.call (y := 185) (as := [.ref 26, .int v730, .int 6, .int v754]) (rest := []) (v := none) (w1 := (hp u755 fL fD, c, z)) rfl rfl (Nat.le_of_ble_eq_true rfl) ((ev_T_put_25 hf2814).deep (by decide)) ?_
  refine mg_Ev.go 5 (pc' := 119) (loc' := [some (.ref 2), some (.int a0), some (.int a1), some (.int a2), some (.int a3), some (.ref 34), some (.int v730)]) (st' := [.int 0, .int 7, .int v730, .ref 26]) (w' := (hp u755 fL fD, c, z)) rfl ?_
  obtain ⟨u756, hf2815, h⟩ := Option.bind_eq_some_iff.mp h
  refine mg_Ev.call (y := 185) (as := [.ref 26, .int v730, .int 7, .int 0]) (rest := []) (v := none) (w1 := (hp u756 fL fD, c, z)) rfl rfl (Nat.le_of_ble_eq_true rfl) ((ev_T_put_25 hf2815).deep (by decide)) ?_
  refine mg_Ev.go 5 (pc' := 131) (loc' := [some (.ref 2), some (.int a0), some (.int a1), some (.int a2), some (.int a3), some (.ref 34), some (.int v730)]) (st' := [.int (-1), .int 12, .int v730, .ref 26]) (w' := (hp u756 fL fD, c, z)) rfl ?_
  obtain ⟨u757, hf2816, h⟩ := Option.bind_eq_some_iff.mp h
  refine mg_Ev.call (y := 185) (as := [.ref 26, .int v730, .int 12, .int (-1)]) (rest := []) (v := none) (w1 := (hp u757 fL fD, c, z)) rfl rfl (Nat.le_of_ble_eq_true rfl) ((ev_T_put_25 hf2816).deep (by decide)) ?_
  refine mg_Ev.go 5 (pc' := 143) (loc' := [some (.ref 2), some (.int a0), some (.int a1), some (.int a2), some (.int a3), some (.ref 34), some (.int v730)]) (st' := [.int (-1), .int 13, .int v730, .ref 26]) (w' := (hp u757 fL fD, c, z)) rfl ?_
  obtain ⟨u758, hf2817, h⟩ := Option.bind_eq_some_iff.mp h
  refine mg_Ev.call (y := 185) (as := [.ref 26, .int v730, .int 13, .int (-1)]) (rest := []) (v := none) (w1 := (hp u758 fL fD, c, z)) rfl rfl (Nat.le_of_ble_eq_true rfl) ((ev_T_put_25 hf2817).deep (by decide)) ?_
  refine mg_Ev.go 5 (pc' := 155) (loc' := [some (.ref 2), some (.int a0), some (.int a1), some (.int a2), some (.int a3), some (.ref 34), some (.int v730)]) (st' := [.int (-1), .int 14, .int v730, .ref 26]) (w' := (hp u758 fL fD, c, z)) rfl ?_
  obtain ⟨u759, hf2818, h⟩ := Option.bind_eq_some_iff.mp h
  refine mg_Ev.call (y := 185) (as := [.ref 26, .int v730, .int 14, .int (-1)]) (rest := []) (v := none) (w1 := (hp u759 fL fD, c, z)) rfl rfl (Nat.le_of_ble_eq_true rfl) ((ev_T_put_25 hf2818).deep (by decide)) ?_
  refine mg_Ev.go 1 (pc' := 160) (loc' := [some (.ref 2), some (.int a0), some (.int a1), some (.int a2), some (.int a3), some (.ref 34), some (.int v730)]) (st' := [.int v730]) (w' := (hp u759 fL fD, c, z)) rfl ?_
  cases h
  exact mg_Ev.fin rfl rfl rfl

def C_declareEntry_L12 : Nat → Int32 → Int32 → mg_Rg → Option (mg_Rg)
  | 0, _, _, _ => none
  | n + 1, x1, x2, u =>
    (T_get_39 x1 4 u).bind fun v711 =>
    if v711 ≤ x2 then
    some (u)
    else
    (X_partNumber x1 x2 0 u).bind fun v712 =>
      (X_partNumber x1 x2 1 u).bind fun v713 =>
      (P_addPart_33 v712 v713 u).bind fun u723 =>
      C_declareEntry_L12 n x1 (x2 + 1) u723
set_option maxRecDepth 10000 in
set_option maxHeartbeats 4000000 in
theorem ev_C_declareEntry_L12 {sc : mg_Sc} {c z : Nat} {fL : Nat → Int64} {fD : Nat → UInt64} : ∀ (n : Nat) (x1 : Int32) (x2 : Int32) (u : mg_Rg) (res : mg_Rg), C_declareEntry_L12 n x1 x2 u = some res → ∀ r, (match res with | yu => mg_Ev sc 4 51 61 [some (.ref 1), some (.int x1), none] [] (hp yu fL fD, c, z) r) → mg_Ev sc 4 51 12 [some (.ref 1), some (.int x1), some (.int x2)] [] (hp u fL fD, c, z) r := by
  intro n
  induction n with
  | zero => intro x1 x2 u res h; cases h
  | succ n ih =>
    intro x1 x2 u res h r K
    unfold C_declareEntry_L12 at h
    refine mg_Ev.go 6 (pc' := 22) (loc' := [some (.ref 1), some (.int x1), some (.int x2)]) (st' := [.int 4, .int x1, .ref 40, .int x2]) (w' := (hp u fL fD, c, z)) rfl ?_
    obtain ⟨v711, hf2819, h⟩ := Option.bind_eq_some_iff.mp h
    refine mg_Ev.call (y := 184) (as := [.ref 40, .int x1, .int 4]) (rest := [.int x2]) (v := some (.int v711)) (w1 := (hp u fL fD, c, z)) rfl rfl (Nat.le_of_ble_eq_true rfl) ((ev_T_get_39 hf2819).deep (by decide)) ?_
    refine mg_Ev.br (P := v711 ≤ x2) (t := 61) (nx := 28) (st' := []) rfl rfl rfl rfl (fun hc2820 => ?_) (fun hc2820 => ?_)
    · rw [if_pos hc2820] at h
      cases h
      exact mg_Ev.more (loc := [some (.ref 1), some (.int x1), none]) K ⟨rfl, ⟨rfl, trivial⟩⟩
    · rw [if_neg hc2820] at h
      refine mg_Ev.go 7 (pc' := 39) (loc' := [some (.ref 1), some (.int x1), some (.int x2)]) (st' := [.int 0, .int x2, .int x1, .ref 38, .ref 34]) (w' := (hp u fL fD, c, z)) rfl ?_
      obtain ⟨v712, hf2821, h⟩ := Option.bind_eq_some_iff.mp h
      refine mg_Ev.call (y := 214) (as := [.ref 38, .int x1, .int x2, .int 0]) (rest := [.ref 34]) (v := some (.int v712)) (w1 := (hp u fL fD, c, z)) rfl rfl (Nat.le_of_ble_eq_true rfl) ((ev_X_partNumber hf2821).deep (by decide)) ?_
      refine mg_Ev.go 5 (pc' := 49) (loc' := [some (.ref 1), some (.int x1), some (.int x2)]) (st' := [.int 1, .int x2, .int x1, .ref 38, .int v712, .ref 34]) (w' := (hp u fL fD, c, z)) rfl ?_
      obtain ⟨v713, hf2822, h⟩ := Option.bind_eq_some_iff.mp h
      refine mg_Ev.call (y := 214) (as := [.ref 38, .int x1, .int x2, .int 1]) (rest := [.int v712, .ref 34]) (v := some (.int v713)) (w1 := (hp u fL fD, c, z)) rfl rfl (Nat.le_of_ble_eq_true rfl) ((ev_X_partNumber hf2822).deep (by decide)) ?_
      obtain ⟨u723, hf2823, h⟩ := Option.bind_eq_some_iff.mp h
      refine mg_Ev.call (y := 176) (as := [.ref 34, .int v712, .int v713]) (rest := []) (v := none) (w1 := (hp u723 fL fD, c, z)) rfl rfl (Nat.le_of_ble_eq_true rfl) ((ev_P_addPart_33 hf2823).deep (by decide)) ?_
      refine mg_Ev.go 2 (pc' := 12) (loc' := [some (.ref 1), some (.int x1), some (.int (x2 + 1))]) (st' := []) (w' := (hp u723 fL fD, c, z)) rfl ?_
      exact mg_Ev.more (loc := [some (.ref 1), some (.int x1), some (.int (x2 + 1))]) (ih _ _ _ _ h _ K) ⟨rfl, ⟨rfl, ⟨rfl, trivial⟩⟩⟩

def C_declareEntry (a0 : Int32) (u : mg_Rg) : Option (mg_Rg) :=
  (T_clear_34 u).bind fun u710 =>
  (C_declareEntry_L12 mg_F a0 0 u710).bind fun q2824 => match q2824 with
  | u724 =>
    (T_get_39 a0 0 u724).bind fun v725 =>
    (Tf_headingWithCode v725 u724).bind fun v726 =>
    (T_get_39 a0 1 u724).bind fun v727 =>
    (T_get_39 a0 2 u724).bind fun v728 =>
    (T_get_39 a0 3 u724).bind fun v729 =>
    (O_enter_33 v726 v727 v728 v729 u724).bind fun p762 => match p762 with
    | (v760, u761) =>
      some u761

set_option maxRecDepth 10000 in
set_option maxHeartbeats 4000000 in
theorem ev_C_declareEntry {sc : mg_Sc} {c z : Nat} {fL : Nat → Int64} {fD : Nat → UInt64} {a0 : Int32} {u : mg_Rg} {v : mg_Rg} (h : C_declareEntry a0 u = some v) : mg_Ev sc 4 51 0 (mg_entry 51 [.ref 1, .int a0]) [] (hp u fL fD, c, z) (.inl none, (hp v fL fD, c, z)) := by
  unfold C_declareEntry at h
  show mg_Ev _ _ _ 0 [some (.ref 1), some (.int a0), none] [] _ _
  refine mg_Ev.go 3 (pc' := 7) (loc' := [some (.ref 1), some (.int a0), none]) (st' := [.ref 35]) (w' := (hp u fL fD, c, z)) rfl ?_
  obtain ⟨u710, hf2825, h⟩ := Option.bind_eq_some_iff.mp h
  refine mg_Ev.call (y := 189) (as := [.ref 35]) (rest := []) (v := none) (w1 := (hp u710 fL fD, c, z)) rfl rfl (Nat.le_of_ble_eq_true rfl) ((ev_T_clear_34 hf2825).deep (by decide)) ?_
  refine mg_Ev.go 2 (pc' := 12) (loc' := [some (.ref 1), some (.int a0), some (.int 0)]) (st' := []) (w' := (hp u710 fL fD, c, z)) rfl ?_
  obtain ⟨u724, hl2826, h⟩ := Option.bind_eq_some_iff.mp h
  try dsimp only at h
  refine mg_Ev.more (loc := [some (.ref 1), some (.int a0), some (.int 0)]) (ev_C_declareEntry_L12 _ _ _ _ _ hl2826 _ ?_) ⟨rfl, ⟨rfl, ⟨rfl, trivial⟩⟩⟩
  show mg_Ev _ _ _ 61 [some (.ref 1), some (.int a0), none] [] (hp u724 fL fD, c, z) _
  refine mg_Ev.go 9 (pc' := 78) (loc' := [some (.ref 1), some (.int a0), none]) (st' := [.int 0, .int a0, .ref 40, .ref 3, .ref 2]) (w' := (hp u724 fL fD, c, z)) rfl ?_
  obtain ⟨v725, hf2827, h⟩ := Option.bind_eq_some_iff.mp h
  refine mg_Ev.call (y := 184) (as := [.ref 40, .int a0, .int 0]) (rest := [.ref 3, .ref 2]) (v := some (.int v725)) (w1 := (hp u724 fL fD, c, z)) rfl rfl (Nat.le_of_ble_eq_true rfl) ((ev_T_get_39 hf2827).deep (by decide)) ?_
  obtain ⟨v726, hf2828, h⟩ := Option.bind_eq_some_iff.mp h
  refine mg_Ev.call (y := 199) (as := [.ref 3, .int v725]) (rest := [.ref 2]) (v := some (.int v726)) (w1 := (hp u724 fL fD, c, z)) rfl rfl (Nat.le_of_ble_eq_true rfl) ((ev_Tf_headingWithCode hf2828).deep (by decide)) ?_
  refine mg_Ev.go 5 (pc' := 93) (loc' := [some (.ref 1), some (.int a0), none]) (st' := [.int 1, .int a0, .ref 40, .int v726, .ref 2]) (w' := (hp u724 fL fD, c, z)) rfl ?_
  obtain ⟨v727, hf2829, h⟩ := Option.bind_eq_some_iff.mp h
  refine mg_Ev.call (y := 184) (as := [.ref 40, .int a0, .int 1]) (rest := [.int v726, .ref 2]) (v := some (.int v727)) (w1 := (hp u724 fL fD, c, z)) rfl rfl (Nat.le_of_ble_eq_true rfl) ((ev_T_get_39 hf2829).deep (by decide)) ?_
  refine mg_Ev.go 5 (pc' := 105) (loc' := [some (.ref 1), some (.int a0), none]) (st' := [.int 2, .int a0, .ref 40, .int v727, .int v726, .ref 2]) (w' := (hp u724 fL fD, c, z)) rfl ?_
  obtain ⟨v728, hf2830, h⟩ := Option.bind_eq_some_iff.mp h
  refine mg_Ev.call (y := 184) (as := [.ref 40, .int a0, .int 2]) (rest := [.int v727, .int v726, .ref 2]) (v := some (.int v728)) (w1 := (hp u724 fL fD, c, z)) rfl rfl (Nat.le_of_ble_eq_true rfl) ((ev_T_get_39 hf2830).deep (by decide)) ?_
  refine mg_Ev.go 5 (pc' := 117) (loc' := [some (.ref 1), some (.int a0), none]) (st' := [.int 3, .int a0, .ref 40, .int v728, .int v727, .int v726, .ref 2]) (w' := (hp u724 fL fD, c, z)) rfl ?_
  obtain ⟨v729, hf2831, h⟩ := Option.bind_eq_some_iff.mp h
  refine mg_Ev.call (y := 184) (as := [.ref 40, .int a0, .int 3]) (rest := [.int v728, .int v727, .int v726, .ref 2]) (v := some (.int v729)) (w1 := (hp u724 fL fD, c, z)) rfl rfl (Nat.le_of_ble_eq_true rfl) ((ev_T_get_39 hf2831).deep (by decide)) ?_
  refine mg_Ev.go 2 (pc' := 124) (loc' := [some (.ref 1), some (.int a0), none]) (st' := [.ref 34, .int v729, .int v728, .int v727, .int v726, .ref 2]) (w' := (hp u724 fL fD, c, z)) rfl ?_
  obtain ⟨⟨v760, u761⟩, hf2832, h⟩ := Option.bind_eq_some_iff.mp h
  try dsimp only at h
  refine mg_Ev.call (y := 152) (as := [.ref 2, .int v726, .int v727, .int v728, .int v729, .ref 34]) (rest := []) (v := some (.int v760)) (w1 := (hp u761 fL fD, c, z)) rfl rfl (Nat.le_of_ble_eq_true rfl) ((ev_O_enter_33 hf2832).deep (by decide)) ?_
  refine mg_Ev.go 1 (pc' := 128) (loc' := [some (.ref 1), some (.int a0), none]) (st' := []) (w' := (hp u761 fL fD, c, z)) rfl ?_
  cases h
  exact mg_Ev.fin rfl rfl rfl

def C_lodge_L74 : Nat → Int32 → Int32 → mg_Rg → Option (mg_Rg)
  | 0, _, _, _ => none
  | n + 1, x1, x2, u =>
    if x1 ≤ x2 then
    some (u)
    else
    (C_declareEntry x2 u).bind fun u763 =>
      C_lodge_L74 n x1 (x2 + 1) u763
set_option maxRecDepth 10000 in
set_option maxHeartbeats 4000000 in
theorem ev_C_lodge_L74 {sc : mg_Sc} {c z : Nat} {fL : Nat → Int64} {fD : Nat → UInt64} : ∀ (n : Nat) (x1 : Int32) (x2 : Int32) (u : mg_Rg) (res : mg_Rg), C_lodge_L74 n x1 x2 u = some res → ∀ r, (match res with | yu => mg_Ev sc 6 32 90 [none, some (.int x1), none] [] (hp yu fL fD, c, z) r) → mg_Ev sc 6 32 74 [some (.ref 1), some (.int x1), some (.int x2)] [] (hp u fL fD, c, z) r := by
  intro n
  induction n with
  | zero => intro x1 x2 u res h; cases h
  | succ n ih =>
    intro x1 x2 u res h r K
    unfold C_lodge_L74 at h
    refine mg_Ev.go 2 (pc' := 76) (loc' := [some (.ref 1), some (.int x1), some (.int x2)]) (st' := [.int x1, .int x2]) (w' := (hp u fL fD, c, z)) rfl ?_
    refine mg_Ev.br (P := x1 ≤ x2) (t := 90) (nx := 79) (st' := []) rfl rfl rfl rfl (fun hc2833 => ?_) (fun hc2833 => ?_)
    · rw [if_pos hc2833] at h
      cases h
      exact mg_Ev.more (loc := [none, some (.int x1), none]) K ⟨rfl, trivial⟩
    · rw [if_neg hc2833] at h
      refine mg_Ev.go 2 (pc' := 81) (loc' := [some (.ref 1), some (.int x1), some (.int x2)]) (st' := [.int x2, .ref 1]) (w' := (hp u fL fD, c, z)) rfl ?_
      obtain ⟨u763, hf2834, h⟩ := Option.bind_eq_some_iff.mp h
      refine mg_Ev.call (y := 51) (as := [.ref 1, .int x2]) (rest := []) (v := none) (w1 := (hp u763 fL fD, c, z)) rfl rfl (Nat.le_of_ble_eq_true rfl) ((ev_C_declareEntry hf2834).deep (by decide)) ?_
      refine mg_Ev.go 2 (pc' := 74) (loc' := [some (.ref 1), some (.int x1), some (.int (x2 + 1))]) (st' := []) (w' := (hp u763 fL fD, c, z)) rfl ?_
      exact mg_Ev.more (loc := [some (.ref 1), some (.int x1), some (.int (x2 + 1))]) (ih _ _ _ _ h _ K) ⟨rfl, ⟨rfl, ⟨rfl, trivial⟩⟩⟩

def C_lodge (u : mg_Rg) : Option ((Int32 ⊕ Nat) × mg_Rg) :=
  (X_readAll u).bind fun p673 => match p673 with
  | (v671, u672) =>
    if v671 = 0 then
    some (.inr 1, u672)
    else
    (C_areCodesKnown u672).bind fun v679 =>
      if v679 = 0 then
      some (.inr 3, u672)
      else
      (C_canDeclareEntries u672).bind fun v706 =>
        if v706 = 0 then
        some (.inr 2, u672)
        else
        (C_keepForUndo u672).bind fun u707 =>
          (T_count_39 u707).bind fun v708 =>
          (C_lodge_L74 mg_F v708 0 u707).bind fun q2835 => match q2835 with
          | u764 =>
            some (.inl v708, u764)

set_option maxRecDepth 10000 in
set_option maxHeartbeats 4000000 in
theorem ev_C_lodge {sc : mg_Sc} {c z : Nat} {fL : Nat → Int64} {fD : Nat → UInt64} {u : mg_Rg} {p : (Int32 ⊕ Nat) × mg_Rg} (h : C_lodge u = some p) : mg_Ev sc 6 32 0 (mg_entry 32 [.ref 1]) [] (hp u fL fD, c, z) (xri p.1, xw p.1 (hp p.2 fL fD) c z) := by
  unfold C_lodge at h
  show mg_Ev _ _ _ 0 [some (.ref 1), none, none] [] _ _
  refine mg_Ev.go 2 (pc' := 4) (loc' := [some (.ref 1), none, none]) (st' := [.ref 38]) (w' := (hp u fL fD, c, z)) rfl ?_
  obtain ⟨⟨v671, u672⟩, hf2836, h⟩ := Option.bind_eq_some_iff.mp h
  try dsimp only at h
  refine mg_Ev.call (y := 213) (as := [.ref 38]) (rest := []) (v := some (.int v671)) (w1 := (hp u672 fL fD, c, z)) rfl rfl (Nat.le_of_ble_eq_true rfl) ((ev_X_readAll hf2836).deep (by decide)) ?_
  refine mg_Ev.br (P := v671 = 0) (t := 10) (nx := 21) (st' := []) rfl rfl rfl rfl (fun hc2837 => ?_) (fun hc2837 => ?_)
  · rw [if_pos hc2837] at h
    cases h
    exact mg_Ev.fin rfl rfl rfl
  · rw [if_neg hc2837] at h
    refine mg_Ev.go 1 (pc' := 22) (loc' := [some (.ref 1), none, none]) (st' := [.ref 1]) (w' := (hp u672 fL fD, c, z)) rfl ?_
    obtain ⟨v679, hf2838, h⟩ := Option.bind_eq_some_iff.mp h
    refine mg_Ev.call (y := 47) (as := [.ref 1]) (rest := []) (v := some (.int v679)) (w1 := (hp u672 fL fD, c, z)) rfl rfl (Nat.le_of_ble_eq_true rfl) ((ev_C_areCodesKnown hf2838).deep (by decide)) ?_
    refine mg_Ev.br (P := v679 = 0) (t := 28) (nx := 39) (st' := []) rfl rfl rfl rfl (fun hc2839 => ?_) (fun hc2839 => ?_)
    · rw [if_pos hc2839] at h
      cases h
      exact mg_Ev.fin rfl rfl rfl
    · rw [if_neg hc2839] at h
      refine mg_Ev.go 1 (pc' := 40) (loc' := [some (.ref 1), none, none]) (st' := [.ref 1]) (w' := (hp u672 fL fD, c, z)) rfl ?_
      obtain ⟨v706, hf2840, h⟩ := Option.bind_eq_some_iff.mp h
      refine mg_Ev.call (y := 48) (as := [.ref 1]) (rest := []) (v := some (.int v706)) (w1 := (hp u672 fL fD, c, z)) rfl rfl (Nat.le_of_ble_eq_true rfl) ((ev_C_canDeclareEntries hf2840).deep (by decide)) ?_
      refine mg_Ev.br (P := v706 = 0) (t := 46) (nx := 57) (st' := []) rfl rfl rfl rfl (fun hc2841 => ?_) (fun hc2841 => ?_)
      · rw [if_pos hc2841] at h
        cases h
        exact mg_Ev.fin rfl rfl rfl
      · rw [if_neg hc2841] at h
        refine mg_Ev.go 1 (pc' := 58) (loc' := [some (.ref 1), none, none]) (st' := [.ref 1]) (w' := (hp u672 fL fD, c, z)) rfl ?_
        obtain ⟨u707, hf2842, h⟩ := Option.bind_eq_some_iff.mp h
        refine mg_Ev.call (y := 38) (as := [.ref 1]) (rest := []) (v := none) (w1 := (hp u707 fL fD, c, z)) rfl rfl (Nat.le_of_ble_eq_true rfl) ((ev_C_keepForUndo hf2842).deep (by decide)) ?_
        refine mg_Ev.go 3 (pc' := 68) (loc' := [some (.ref 1), none, none]) (st' := [.ref 40]) (w' := (hp u707 fL fD, c, z)) rfl ?_
        obtain ⟨v708, hf2843, h⟩ := Option.bind_eq_some_iff.mp h
        refine mg_Ev.call (y := 181) (as := [.ref 40]) (rest := []) (v := some (.int v708)) (w1 := (hp u707 fL fD, c, z)) rfl rfl (Nat.le_of_ble_eq_true rfl) ((ev_T_count_39 hf2843).deep (by decide)) ?_
        refine mg_Ev.go 3 (pc' := 74) (loc' := [some (.ref 1), some (.int v708), some (.int 0)]) (st' := []) (w' := (hp u707 fL fD, c, z)) rfl ?_
        obtain ⟨u764, hl2844, h⟩ := Option.bind_eq_some_iff.mp h
        try dsimp only at h
        refine mg_Ev.more (loc := [some (.ref 1), some (.int v708), some (.int 0)]) (ev_C_lodge_L74 _ _ _ _ _ hl2844 _ ?_) ⟨rfl, ⟨rfl, ⟨rfl, trivial⟩⟩⟩
        show mg_Ev _ _ _ 90 [none, some (.int v708), none] [] (hp u764 fL fD, c, z) _
        refine mg_Ev.go 1 (pc' := 91) (loc' := [none, some (.int v708), none]) (st' := [.int v708]) (w' := (hp u764 fL fD, c, z)) rfl ?_
        cases h
        exact mg_Ev.fin rfl rfl rfl

def C_errorPosition (u : mg_Rg) : Option ((Int32 ⊕ Nat) × mg_Rg) :=
  if (u 37 4) = (-1) then
  some (.inr 3, u)
  else
  some (.inl (u 37 4), u)

set_option maxRecDepth 10000 in
set_option maxHeartbeats 4000000 in
theorem ev_C_errorPosition {sc : mg_Sc} {c z : Nat} {fL : Nat → Int64} {fD : Nat → UInt64} {u : mg_Rg} {p : (Int32 ⊕ Nat) × mg_Rg} (h : C_errorPosition u = some p) : mg_Ev sc 0 33 0 (mg_entry 33 [.ref 1]) [] (hp u fL fD, c, z) (xri p.1, xw p.1 (hp p.2 fL fD) c z) := by
  unfold C_errorPosition at h
  show mg_Ev _ _ _ 0 [some (.ref 1)] [] _ _
  refine mg_Ev.go 4 (pc' := 8) (loc' := [some (.ref 1)]) (st' := [.int (-1), .int (u 37 4)]) (w' := (hp u fL fD, c, z)) rfl ?_
  refine mg_Ev.br (P := (u 37 4) = (-1)) (t := 11) (nx := 22) (st' := []) rfl rfl rfl rfl (fun hc2845 => ?_) (fun hc2845 => ?_)
  · rw [if_pos hc2845] at h
    cases h
    exact mg_Ev.fin rfl rfl rfl
  · rw [if_neg hc2845] at h
    refine mg_Ev.go 3 (pc' := 29) (loc' := [some (.ref 1)]) (st' := [.int (u 37 4)]) (w' := (hp u fL fD, c, z)) rfl ?_
    cases h
    exact mg_Ev.fin rfl rfl rfl

def C_changes (u : mg_Rg) : Option (Int32) :=
  some (u 0 7)

set_option maxRecDepth 10000 in
set_option maxHeartbeats 4000000 in
theorem ev_C_changes {sc : mg_Sc} {c z : Nat} {fL : Nat → Int64} {fD : Nat → UInt64} {u : mg_Rg} {v : Int32} (h : C_changes u = some v) : mg_Ev sc 0 34 0 (mg_entry 34 [.ref 1]) [] (hp u fL fD, c, z) (.inl (some (.int v)), (hp u fL fD, c, z)) := by
  unfold C_changes at h
  show mg_Ev _ _ _ 0 [some (.ref 1)] [] _ _
  refine mg_Ev.go 2 (pc' := 4) (loc' := [some (.ref 1)]) (st' := [.int (u 0 7)]) (w' := (hp u fL fD, c, z)) rfl ?_
  cases h
  exact mg_Ev.fin rfl rfl rfl

def T_bringFrom_3 (a0 : Int32) (u : mg_Rg) : Option (mg_Rg) :=
  (T_hasSlot_3 a0 u).bind fun v765 =>
  if v765 = 0 then
  some u
  else
  if ¬ (a0 * 61) < 0 ∧ ¬ (0 : Int32) < 0 ∧ ¬ (61 : Int32) < 0 ∧ (a0 * 61).toNatClampNeg + (61 : Int32).toNatClampNeg ≤ 549 ∧ (0 : Int32).toNatClampNeg + (61 : Int32).toNatClampNeg ≤ 61 then
    some (mg_rw u 4 (va_cpy (u 5) (u 4) (a0 * 61).toNatClampNeg (0 : Int32).toNatClampNeg (61 : Int32).toNatClampNeg))
    else none

set_option maxRecDepth 10000 in
set_option maxHeartbeats 4000000 in
theorem ev_T_bringFrom_3 {sc : mg_Sc} {c z : Nat} {fL : Nat → Int64} {fD : Nat → UInt64} {a0 : Int32} {u : mg_Rg} {v : mg_Rg} (h : T_bringFrom_3 a0 u = some v) : mg_Ev sc 1 191 0 (mg_entry 191 [.ref 4, .int a0]) [] (hp u fL fD, c, z) (.inl none, (hp v fL fD, c, z)) := by
  unfold T_bringFrom_3 at h
  show mg_Ev _ _ _ 0 [some (.ref 4), some (.int a0)] [] _ _
  refine mg_Ev.go 2 (pc' := 2) (loc' := [some (.ref 4), some (.int a0)]) (st' := [.int a0, .ref 4]) (w' := (hp u fL fD, c, z)) rfl ?_
  obtain ⟨v765, hf2846, h⟩ := Option.bind_eq_some_iff.mp h
  refine mg_Ev.call (y := 192) (as := [.ref 4, .int a0]) (rest := []) (v := some (.int v765)) (w1 := (hp u fL fD, c, z)) rfl rfl (Nat.le_of_ble_eq_true rfl) ((ev_T_hasSlot_3 hf2846).deep (by decide)) ?_
  refine mg_Ev.br (P := v765 = 0) (t := 32) (nx := 8) (st' := []) rfl rfl rfl rfl (fun hc2847 => ?_) (fun hc2847 => ?_)
  · rw [if_pos hc2847] at h
    cases h
    exact mg_Ev.fin rfl rfl rfl
  · rw [if_neg hc2847] at h
    refine mg_Ev.go 10 (pc' := 24) (loc' := [some (.ref 4), some (.int a0)]) (st' := [.int 0, .ref 5, .int (a0 * 61), .ref 6]) (w' := (hp u fL fD, c, z)) rfl ?_
    refine mg_Ev.go 3 (pc' := 29) (loc' := [some (.ref 4), some (.int a0)]) (st' := [.int 61, .int 0, .ref 5, .int (a0 * 61), .ref 6]) (w' := (hp u fL fD, c, z)) rfl ?_
    by_cases hn2848 : ¬ (a0 * 61) < 0 ∧ ¬ (0 : Int32) < 0 ∧ ¬ (61 : Int32) < 0 ∧ (a0 * 61).toNatClampNeg + (61 : Int32).toNatClampNeg ≤ 549 ∧ (0 : Int32).toNatClampNeg + (61 : Int32).toNatClampNeg ≤ 61
    · rw [if_pos hn2848] at h
      refine mg_Ev.copy rfl (hpg_5 _ _ _) (hpg_4 _ _ _) hn2848 (hpr_4 _ _ _ _ _ _) ?_
      cases h
      exact mg_Ev.fin rfl rfl rfl
    · rw [if_neg hn2848] at h
      cases h

def T_bringFrom_6 (a0 : Int32) (u : mg_Rg) : Option (mg_Rg) :=
  (T_hasSlot_6 a0 u).bind fun v767 =>
  if v767 = 0 then
  some u
  else
  if ¬ (a0 * 41) < 0 ∧ ¬ (0 : Int32) < 0 ∧ ¬ (41 : Int32) < 0 ∧ (a0 * 41).toNatClampNeg + (41 : Int32).toNatClampNeg ≤ 369 ∧ (0 : Int32).toNatClampNeg + (41 : Int32).toNatClampNeg ≤ 41 then
    some (mg_rw u 7 (va_cpy (u 8) (u 7) (a0 * 41).toNatClampNeg (0 : Int32).toNatClampNeg (41 : Int32).toNatClampNeg))
    else none

set_option maxRecDepth 10000 in
set_option maxHeartbeats 4000000 in
theorem ev_T_bringFrom_6 {sc : mg_Sc} {c z : Nat} {fL : Nat → Int64} {fD : Nat → UInt64} {a0 : Int32} {u : mg_Rg} {v : mg_Rg} (h : T_bringFrom_6 a0 u = some v) : mg_Ev sc 1 191 0 (mg_entry 191 [.ref 7, .int a0]) [] (hp u fL fD, c, z) (.inl none, (hp v fL fD, c, z)) := by
  unfold T_bringFrom_6 at h
  show mg_Ev _ _ _ 0 [some (.ref 7), some (.int a0)] [] _ _
  refine mg_Ev.go 2 (pc' := 2) (loc' := [some (.ref 7), some (.int a0)]) (st' := [.int a0, .ref 7]) (w' := (hp u fL fD, c, z)) rfl ?_
  obtain ⟨v767, hf2849, h⟩ := Option.bind_eq_some_iff.mp h
  refine mg_Ev.call (y := 192) (as := [.ref 7, .int a0]) (rest := []) (v := some (.int v767)) (w1 := (hp u fL fD, c, z)) rfl rfl (Nat.le_of_ble_eq_true rfl) ((ev_T_hasSlot_6 hf2849).deep (by decide)) ?_
  refine mg_Ev.br (P := v767 = 0) (t := 32) (nx := 8) (st' := []) rfl rfl rfl rfl (fun hc2850 => ?_) (fun hc2850 => ?_)
  · rw [if_pos hc2850] at h
    cases h
    exact mg_Ev.fin rfl rfl rfl
  · rw [if_neg hc2850] at h
    refine mg_Ev.go 10 (pc' := 24) (loc' := [some (.ref 7), some (.int a0)]) (st' := [.int 0, .ref 8, .int (a0 * 41), .ref 9]) (w' := (hp u fL fD, c, z)) rfl ?_
    refine mg_Ev.go 3 (pc' := 29) (loc' := [some (.ref 7), some (.int a0)]) (st' := [.int 41, .int 0, .ref 8, .int (a0 * 41), .ref 9]) (w' := (hp u fL fD, c, z)) rfl ?_
    by_cases hn2851 : ¬ (a0 * 41) < 0 ∧ ¬ (0 : Int32) < 0 ∧ ¬ (41 : Int32) < 0 ∧ (a0 * 41).toNatClampNeg + (41 : Int32).toNatClampNeg ≤ 369 ∧ (0 : Int32).toNatClampNeg + (41 : Int32).toNatClampNeg ≤ 41
    · rw [if_pos hn2851] at h
      refine mg_Ev.copy rfl (hpg_8 _ _ _) (hpg_7 _ _ _) hn2851 (hpr_7 _ _ _ _ _ _) ?_
      cases h
      exact mg_Ev.fin rfl rfl rfl
    · rw [if_neg hn2851] at h
      cases h

def T_bringFrom_9 (a0 : Int32) (u : mg_Rg) : Option (mg_Rg) :=
  (T_hasSlot_9 a0 u).bind fun v769 =>
  if v769 = 0 then
  some u
  else
  if ¬ (a0 * 19) < 0 ∧ ¬ (0 : Int32) < 0 ∧ ¬ (19 : Int32) < 0 ∧ (a0 * 19).toNatClampNeg + (19 : Int32).toNatClampNeg ≤ 171 ∧ (0 : Int32).toNatClampNeg + (19 : Int32).toNatClampNeg ≤ 19 then
    some (mg_rw u 10 (va_cpy (u 11) (u 10) (a0 * 19).toNatClampNeg (0 : Int32).toNatClampNeg (19 : Int32).toNatClampNeg))
    else none

set_option maxRecDepth 10000 in
set_option maxHeartbeats 4000000 in
theorem ev_T_bringFrom_9 {sc : mg_Sc} {c z : Nat} {fL : Nat → Int64} {fD : Nat → UInt64} {a0 : Int32} {u : mg_Rg} {v : mg_Rg} (h : T_bringFrom_9 a0 u = some v) : mg_Ev sc 1 191 0 (mg_entry 191 [.ref 10, .int a0]) [] (hp u fL fD, c, z) (.inl none, (hp v fL fD, c, z)) := by
  unfold T_bringFrom_9 at h
  show mg_Ev _ _ _ 0 [some (.ref 10), some (.int a0)] [] _ _
  refine mg_Ev.go 2 (pc' := 2) (loc' := [some (.ref 10), some (.int a0)]) (st' := [.int a0, .ref 10]) (w' := (hp u fL fD, c, z)) rfl ?_
  obtain ⟨v769, hf2852, h⟩ := Option.bind_eq_some_iff.mp h
  refine mg_Ev.call (y := 192) (as := [.ref 10, .int a0]) (rest := []) (v := some (.int v769)) (w1 := (hp u fL fD, c, z)) rfl rfl (Nat.le_of_ble_eq_true rfl) ((ev_T_hasSlot_9 hf2852).deep (by decide)) ?_
  refine mg_Ev.br (P := v769 = 0) (t := 32) (nx := 8) (st' := []) rfl rfl rfl rfl (fun hc2853 => ?_) (fun hc2853 => ?_)
  · rw [if_pos hc2853] at h
    cases h
    exact mg_Ev.fin rfl rfl rfl
  · rw [if_neg hc2853] at h
    refine mg_Ev.go 10 (pc' := 24) (loc' := [some (.ref 10), some (.int a0)]) (st' := [.int 0, .ref 11, .int (a0 * 19), .ref 12]) (w' := (hp u fL fD, c, z)) rfl ?_
    refine mg_Ev.go 3 (pc' := 29) (loc' := [some (.ref 10), some (.int a0)]) (st' := [.int 19, .int 0, .ref 11, .int (a0 * 19), .ref 12]) (w' := (hp u fL fD, c, z)) rfl ?_
    by_cases hn2854 : ¬ (a0 * 19) < 0 ∧ ¬ (0 : Int32) < 0 ∧ ¬ (19 : Int32) < 0 ∧ (a0 * 19).toNatClampNeg + (19 : Int32).toNatClampNeg ≤ 171 ∧ (0 : Int32).toNatClampNeg + (19 : Int32).toNatClampNeg ≤ 19
    · rw [if_pos hn2854] at h
      refine mg_Ev.copy rfl (hpg_11 _ _ _) (hpg_10 _ _ _) hn2854 (hpr_10 _ _ _ _ _ _) ?_
      cases h
      exact mg_Ev.fin rfl rfl rfl
    · rw [if_neg hn2854] at h
      cases h

def T_bringFrom_12 (a0 : Int32) (u : mg_Rg) : Option (mg_Rg) :=
  (T_hasSlot_12 a0 u).bind fun v771 =>
  if v771 = 0 then
  some u
  else
  if ¬ (a0 * 4) < 0 ∧ ¬ (0 : Int32) < 0 ∧ ¬ (4 : Int32) < 0 ∧ (a0 * 4).toNatClampNeg + (4 : Int32).toNatClampNeg ≤ 36 ∧ (0 : Int32).toNatClampNeg + (4 : Int32).toNatClampNeg ≤ 4 then
    some (mg_rw u 13 (va_cpy (u 14) (u 13) (a0 * 4).toNatClampNeg (0 : Int32).toNatClampNeg (4 : Int32).toNatClampNeg))
    else none

set_option maxRecDepth 10000 in
set_option maxHeartbeats 4000000 in
theorem ev_T_bringFrom_12 {sc : mg_Sc} {c z : Nat} {fL : Nat → Int64} {fD : Nat → UInt64} {a0 : Int32} {u : mg_Rg} {v : mg_Rg} (h : T_bringFrom_12 a0 u = some v) : mg_Ev sc 1 191 0 (mg_entry 191 [.ref 13, .int a0]) [] (hp u fL fD, c, z) (.inl none, (hp v fL fD, c, z)) := by
  unfold T_bringFrom_12 at h
  show mg_Ev _ _ _ 0 [some (.ref 13), some (.int a0)] [] _ _
  refine mg_Ev.go 2 (pc' := 2) (loc' := [some (.ref 13), some (.int a0)]) (st' := [.int a0, .ref 13]) (w' := (hp u fL fD, c, z)) rfl ?_
  obtain ⟨v771, hf2855, h⟩ := Option.bind_eq_some_iff.mp h
  refine mg_Ev.call (y := 192) (as := [.ref 13, .int a0]) (rest := []) (v := some (.int v771)) (w1 := (hp u fL fD, c, z)) rfl rfl (Nat.le_of_ble_eq_true rfl) ((ev_T_hasSlot_12 hf2855).deep (by decide)) ?_
  refine mg_Ev.br (P := v771 = 0) (t := 32) (nx := 8) (st' := []) rfl rfl rfl rfl (fun hc2856 => ?_) (fun hc2856 => ?_)
  · rw [if_pos hc2856] at h
    cases h
    exact mg_Ev.fin rfl rfl rfl
  · rw [if_neg hc2856] at h
    refine mg_Ev.go 10 (pc' := 24) (loc' := [some (.ref 13), some (.int a0)]) (st' := [.int 0, .ref 14, .int (a0 * 4), .ref 15]) (w' := (hp u fL fD, c, z)) rfl ?_
    refine mg_Ev.go 3 (pc' := 29) (loc' := [some (.ref 13), some (.int a0)]) (st' := [.int 4, .int 0, .ref 14, .int (a0 * 4), .ref 15]) (w' := (hp u fL fD, c, z)) rfl ?_
    by_cases hn2857 : ¬ (a0 * 4) < 0 ∧ ¬ (0 : Int32) < 0 ∧ ¬ (4 : Int32) < 0 ∧ (a0 * 4).toNatClampNeg + (4 : Int32).toNatClampNeg ≤ 36 ∧ (0 : Int32).toNatClampNeg + (4 : Int32).toNatClampNeg ≤ 4
    · rw [if_pos hn2857] at h
      refine mg_Ev.copy rfl (hpg_14 _ _ _) (hpg_13 _ _ _) hn2857 (hpr_13 _ _ _ _ _ _) ?_
      cases h
      exact mg_Ev.fin rfl rfl rfl
    · rw [if_neg hn2857] at h
      cases h

def Tf_bringFrom (a0 : Int32) (u : mg_Rg) : Option (mg_Rg) :=
  (T_bringFrom_3 a0 u).bind fun u766 =>
  (T_bringFrom_6 a0 u766).bind fun u768 =>
  (T_bringFrom_9 a0 u768).bind fun u770 =>
  (T_bringFrom_12 a0 u770).bind fun u772 =>
  some u772

set_option maxRecDepth 10000 in
set_option maxHeartbeats 4000000 in
theorem ev_Tf_bringFrom {sc : mg_Sc} {c z : Nat} {fL : Nat → Int64} {fD : Nat → UInt64} {a0 : Int32} {u : mg_Rg} {v : mg_Rg} (h : Tf_bringFrom a0 u = some v) : mg_Ev sc 2 207 0 (mg_entry 207 [.ref 3, .int a0]) [] (hp u fL fD, c, z) (.inl none, (hp v fL fD, c, z)) := by
  unfold Tf_bringFrom at h
  show mg_Ev _ _ _ 0 [some (.ref 3), some (.int a0)] [] _ _
  refine mg_Ev.go 3 (pc' := 5) (loc' := [some (.ref 3), some (.int a0)]) (st' := [.int a0, .ref 4]) (w' := (hp u fL fD, c, z)) rfl ?_
  obtain ⟨u766, hf2858, h⟩ := Option.bind_eq_some_iff.mp h
  refine mg_Ev.call (y := 191) (as := [.ref 4, .int a0]) (rest := []) (v := none) (w1 := (hp u766 fL fD, c, z)) rfl rfl (Nat.le_of_ble_eq_true rfl) ((ev_T_bringFrom_3 hf2858).deep (by decide)) ?_
  refine mg_Ev.go 3 (pc' := 13) (loc' := [some (.ref 3), some (.int a0)]) (st' := [.int a0, .ref 7]) (w' := (hp u766 fL fD, c, z)) rfl ?_
  obtain ⟨u768, hf2859, h⟩ := Option.bind_eq_some_iff.mp h
  refine mg_Ev.call (y := 191) (as := [.ref 7, .int a0]) (rest := []) (v := none) (w1 := (hp u768 fL fD, c, z)) rfl rfl (Nat.le_of_ble_eq_true rfl) ((ev_T_bringFrom_6 hf2859).deep (by decide)) ?_
  refine mg_Ev.go 3 (pc' := 21) (loc' := [some (.ref 3), some (.int a0)]) (st' := [.int a0, .ref 10]) (w' := (hp u768 fL fD, c, z)) rfl ?_
  obtain ⟨u770, hf2860, h⟩ := Option.bind_eq_some_iff.mp h
  refine mg_Ev.call (y := 191) (as := [.ref 10, .int a0]) (rest := []) (v := none) (w1 := (hp u770 fL fD, c, z)) rfl rfl (Nat.le_of_ble_eq_true rfl) ((ev_T_bringFrom_9 hf2860).deep (by decide)) ?_
  refine mg_Ev.go 3 (pc' := 29) (loc' := [some (.ref 3), some (.int a0)]) (st' := [.int a0, .ref 13]) (w' := (hp u770 fL fD, c, z)) rfl ?_
  obtain ⟨u772, hf2861, h⟩ := Option.bind_eq_some_iff.mp h
  refine mg_Ev.call (y := 191) (as := [.ref 13, .int a0]) (rest := []) (v := none) (w1 := (hp u772 fL fD, c, z)) rfl rfl (Nat.le_of_ble_eq_true rfl) ((ev_T_bringFrom_12 hf2861).deep (by decide)) ?_
  cases h
  exact mg_Ev.fin rfl rfl rfl

def T_bringFrom_16 (a0 : Int32) (u : mg_Rg) : Option (mg_Rg) :=
  (T_hasSlot_16 a0 u).bind fun v774 =>
  if v774 = 0 then
  some u
  else
  if ¬ (a0 * 4) < 0 ∧ ¬ (0 : Int32) < 0 ∧ ¬ (4 : Int32) < 0 ∧ (a0 * 4).toNatClampNeg + (4 : Int32).toNatClampNeg ≤ 36 ∧ (0 : Int32).toNatClampNeg + (4 : Int32).toNatClampNeg ≤ 4 then
    some (mg_rw u 17 (va_cpy (u 18) (u 17) (a0 * 4).toNatClampNeg (0 : Int32).toNatClampNeg (4 : Int32).toNatClampNeg))
    else none

set_option maxRecDepth 10000 in
set_option maxHeartbeats 4000000 in
theorem ev_T_bringFrom_16 {sc : mg_Sc} {c z : Nat} {fL : Nat → Int64} {fD : Nat → UInt64} {a0 : Int32} {u : mg_Rg} {v : mg_Rg} (h : T_bringFrom_16 a0 u = some v) : mg_Ev sc 1 191 0 (mg_entry 191 [.ref 17, .int a0]) [] (hp u fL fD, c, z) (.inl none, (hp v fL fD, c, z)) := by
  unfold T_bringFrom_16 at h
  show mg_Ev _ _ _ 0 [some (.ref 17), some (.int a0)] [] _ _
  refine mg_Ev.go 2 (pc' := 2) (loc' := [some (.ref 17), some (.int a0)]) (st' := [.int a0, .ref 17]) (w' := (hp u fL fD, c, z)) rfl ?_
  obtain ⟨v774, hf2862, h⟩ := Option.bind_eq_some_iff.mp h
  refine mg_Ev.call (y := 192) (as := [.ref 17, .int a0]) (rest := []) (v := some (.int v774)) (w1 := (hp u fL fD, c, z)) rfl rfl (Nat.le_of_ble_eq_true rfl) ((ev_T_hasSlot_16 hf2862).deep (by decide)) ?_
  refine mg_Ev.br (P := v774 = 0) (t := 32) (nx := 8) (st' := []) rfl rfl rfl rfl (fun hc2863 => ?_) (fun hc2863 => ?_)
  · rw [if_pos hc2863] at h
    cases h
    exact mg_Ev.fin rfl rfl rfl
  · rw [if_neg hc2863] at h
    refine mg_Ev.go 10 (pc' := 24) (loc' := [some (.ref 17), some (.int a0)]) (st' := [.int 0, .ref 18, .int (a0 * 4), .ref 19]) (w' := (hp u fL fD, c, z)) rfl ?_
    refine mg_Ev.go 3 (pc' := 29) (loc' := [some (.ref 17), some (.int a0)]) (st' := [.int 4, .int 0, .ref 18, .int (a0 * 4), .ref 19]) (w' := (hp u fL fD, c, z)) rfl ?_
    by_cases hn2864 : ¬ (a0 * 4) < 0 ∧ ¬ (0 : Int32) < 0 ∧ ¬ (4 : Int32) < 0 ∧ (a0 * 4).toNatClampNeg + (4 : Int32).toNatClampNeg ≤ 36 ∧ (0 : Int32).toNatClampNeg + (4 : Int32).toNatClampNeg ≤ 4
    · rw [if_pos hn2864] at h
      refine mg_Ev.copy rfl (hpg_18 _ _ _) (hpg_17 _ _ _) hn2864 (hpr_17 _ _ _ _ _ _) ?_
      cases h
      exact mg_Ev.fin rfl rfl rfl
    · rw [if_neg hn2864] at h
      cases h

def T_bringFrom_19 (a0 : Int32) (u : mg_Rg) : Option (mg_Rg) :=
  (T_hasSlot_19 a0 u).bind fun v776 =>
  if v776 = 0 then
  some u
  else
  if ¬ (a0 * 9) < 0 ∧ ¬ (0 : Int32) < 0 ∧ ¬ (9 : Int32) < 0 ∧ (a0 * 9).toNatClampNeg + (9 : Int32).toNatClampNeg ≤ 81 ∧ (0 : Int32).toNatClampNeg + (9 : Int32).toNatClampNeg ≤ 9 then
    some (mg_rw u 20 (va_cpy (u 21) (u 20) (a0 * 9).toNatClampNeg (0 : Int32).toNatClampNeg (9 : Int32).toNatClampNeg))
    else none

set_option maxRecDepth 10000 in
set_option maxHeartbeats 4000000 in
theorem ev_T_bringFrom_19 {sc : mg_Sc} {c z : Nat} {fL : Nat → Int64} {fD : Nat → UInt64} {a0 : Int32} {u : mg_Rg} {v : mg_Rg} (h : T_bringFrom_19 a0 u = some v) : mg_Ev sc 1 191 0 (mg_entry 191 [.ref 20, .int a0]) [] (hp u fL fD, c, z) (.inl none, (hp v fL fD, c, z)) := by
  unfold T_bringFrom_19 at h
  show mg_Ev _ _ _ 0 [some (.ref 20), some (.int a0)] [] _ _
  refine mg_Ev.go 2 (pc' := 2) (loc' := [some (.ref 20), some (.int a0)]) (st' := [.int a0, .ref 20]) (w' := (hp u fL fD, c, z)) rfl ?_
  obtain ⟨v776, hf2865, h⟩ := Option.bind_eq_some_iff.mp h
  refine mg_Ev.call (y := 192) (as := [.ref 20, .int a0]) (rest := []) (v := some (.int v776)) (w1 := (hp u fL fD, c, z)) rfl rfl (Nat.le_of_ble_eq_true rfl) ((ev_T_hasSlot_19 hf2865).deep (by decide)) ?_
  refine mg_Ev.br (P := v776 = 0) (t := 32) (nx := 8) (st' := []) rfl rfl rfl rfl (fun hc2866 => ?_) (fun hc2866 => ?_)
  · rw [if_pos hc2866] at h
    cases h
    exact mg_Ev.fin rfl rfl rfl
  · rw [if_neg hc2866] at h
    refine mg_Ev.go 10 (pc' := 24) (loc' := [some (.ref 20), some (.int a0)]) (st' := [.int 0, .ref 21, .int (a0 * 9), .ref 22]) (w' := (hp u fL fD, c, z)) rfl ?_
    refine mg_Ev.go 3 (pc' := 29) (loc' := [some (.ref 20), some (.int a0)]) (st' := [.int 9, .int 0, .ref 21, .int (a0 * 9), .ref 22]) (w' := (hp u fL fD, c, z)) rfl ?_
    by_cases hn2867 : ¬ (a0 * 9) < 0 ∧ ¬ (0 : Int32) < 0 ∧ ¬ (9 : Int32) < 0 ∧ (a0 * 9).toNatClampNeg + (9 : Int32).toNatClampNeg ≤ 81 ∧ (0 : Int32).toNatClampNeg + (9 : Int32).toNatClampNeg ≤ 9
    · rw [if_pos hn2867] at h
      refine mg_Ev.copy rfl (hpg_21 _ _ _) (hpg_20 _ _ _) hn2867 (hpr_20 _ _ _ _ _ _) ?_
      cases h
      exact mg_Ev.fin rfl rfl rfl
    · rw [if_neg hn2867] at h
      cases h

def Lg_bringFrom (a0 : Int32) (u : mg_Rg) : Option (mg_Rg) :=
  (T_bringFrom_16 a0 u).bind fun u775 =>
  (T_bringFrom_19 a0 u775).bind fun u777 =>
  some u777

set_option maxRecDepth 10000 in
set_option maxHeartbeats 4000000 in
theorem ev_Lg_bringFrom {sc : mg_Sc} {c z : Nat} {fL : Nat → Int64} {fD : Nat → UInt64} {a0 : Int32} {u : mg_Rg} {v : mg_Rg} (h : Lg_bringFrom a0 u = some v) : mg_Ev sc 2 150 0 (mg_entry 150 [.ref 16, .int a0]) [] (hp u fL fD, c, z) (.inl none, (hp v fL fD, c, z)) := by
  unfold Lg_bringFrom at h
  show mg_Ev _ _ _ 0 [some (.ref 16), some (.int a0)] [] _ _
  refine mg_Ev.go 3 (pc' := 5) (loc' := [some (.ref 16), some (.int a0)]) (st' := [.int a0, .ref 17]) (w' := (hp u fL fD, c, z)) rfl ?_
  obtain ⟨u775, hf2868, h⟩ := Option.bind_eq_some_iff.mp h
  refine mg_Ev.call (y := 191) (as := [.ref 17, .int a0]) (rest := []) (v := none) (w1 := (hp u775 fL fD, c, z)) rfl rfl (Nat.le_of_ble_eq_true rfl) ((ev_T_bringFrom_16 hf2868).deep (by decide)) ?_
  refine mg_Ev.go 3 (pc' := 13) (loc' := [some (.ref 16), some (.int a0)]) (st' := [.int a0, .ref 20]) (w' := (hp u775 fL fD, c, z)) rfl ?_
  obtain ⟨u777, hf2869, h⟩ := Option.bind_eq_some_iff.mp h
  refine mg_Ev.call (y := 191) (as := [.ref 20, .int a0]) (rest := []) (v := none) (w1 := (hp u777 fL fD, c, z)) rfl rfl (Nat.le_of_ble_eq_true rfl) ((ev_T_bringFrom_19 hf2869).deep (by decide)) ?_
  cases h
  exact mg_Ev.fin rfl rfl rfl

