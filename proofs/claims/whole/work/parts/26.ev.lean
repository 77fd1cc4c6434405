/-! WHAT A RUN COMES TO: rules -/
def mg_Ev (sc : mg_Sc) (d mi pc : Nat) (loc : mg_L) (st : List Value) (w : mg_S) (r : mg_R) : Prop := ∃ n, mg_run sc n d mi pc loc st w = some r
theorem mg_run_le {sc : mg_Sc} : ∀ (n d mi pc : Nat) (loc : mg_L) (st : List Value) (w : mg_S) (r : mg_R), mg_run sc n d mi pc loc st w = some r → ∀ n' d', n ≤ n' → d ≤ d' → mg_run sc n' d' mi pc loc st w = some r := by
  intro n
  induction n with
  | zero => intro d mi pc loc st w r h; cases h
  | succ n ih =>
    intro d mi pc loc st w r h n' d' hn hd
    obtain ⟨n', rfl⟩ : ∃ k, n' = k + 1 := ⟨n' - 1, by omega⟩
    have hn : n ≤ n' := by omega
    unfold mg_run at h ⊢
    split at h
    · cases h
    · next e he =>
      split at h
      · next y as r9 hc =>
        dsimp only
        split at h
        · cases h
        · next d =>
          obtain ⟨d', rfl⟩ : ∃ k, d' = k + 1 := ⟨d' - 1, by omega⟩
          have hd : d ≤ d' := by omega
          dsimp only
          split at h
          · cases h
          · next hl =>
            rw [if_neg hl]
            split at h
            · next v w1 h1 =>
              rw [ih _ _ _ _ _ _ _ h1 n' d' hn hd]
              exact ih _ _ _ _ _ _ _ h n' (d' + 1) hn (by omega)
            · next E w1 h1 =>
              rw [ih _ _ _ _ _ _ _ h1 n' d' hn hd]
              dsimp only
              split at h
              · exact h
              · exact ih _ _ _ _ _ _ _ h n' (d' + 1) hn (by omega)
              · cases h
            · cases h
      · dsimp only
        split at h
        · exact h
        · dsimp only
          split at h
          · exact ih _ _ _ _ _ _ _ h n' d' hn hd
          · cases h
/-- more known locals -/
def mg_le : mg_L → mg_L → Prop
  | [], [] => True
  | none :: a, _ :: b => mg_le a b
  | some v :: a, some u :: b => v = u ∧ mg_le a b
  | _, _ => False
theorem mg_le_rfl : ∀ a : mg_L, mg_le a a
  | [] => trivial
  | none :: a => mg_le_rfl a
  | some _ :: a => ⟨rfl, mg_le_rfl a⟩
theorem mg_le_len : ∀ {a b : mg_L}, mg_le a b → a.length = b.length
  | [], [], _ => rfl
  | none :: _, _ :: _, h => congrArg (· + 1) (mg_le_len h)
  | some _ :: _, some _ :: _, h => congrArg (· + 1) (mg_le_len h.2)
theorem mg_le_at : ∀ {a b : mg_L} {i : Nat} {v : Value}, mg_le a b → a[i]? = some (some v) → b[i]? = some (some v)
  | none :: a, x :: b, 0, v, h, hi => by cases hi
  | none :: a, x :: b, i + 1, v, h, hi => by rw [List.getElem?_cons_succ] at hi ⊢; exact mg_le_at (a := a) h hi
  | some u :: a, some x :: b, 0, v, h, hi => by rw [List.getElem?_cons_zero] at hi ⊢; rw [← h.1]; exact hi
  | some u :: a, some x :: b, i + 1, v, h, hi => by rw [List.getElem?_cons_succ] at hi ⊢; exact mg_le_at (a := a) h.2 hi
theorem mg_le_of : ∀ {a b : mg_L}, a.length = b.length → (∀ i v, a[i]? = some (some v) → b[i]? = some (some v)) → mg_le a b
  | [], [], _, _ => trivial
  | [], _ :: _, h, _ => by cases h
  | _ :: _, [], h, _ => by cases h
  | none :: a, x :: b, h, k => mg_le_of (a := a) (by simpa using h) fun i v hi => by
      have := k (i + 1) v (by rw [List.getElem?_cons_succ]; exact hi)
      rwa [List.getElem?_cons_succ] at this
  | some u :: a, x :: b, h, k => by
      have h0 := k 0 u rfl
      rw [List.getElem?_cons_zero] at h0
      cases h0
      exact ⟨rfl, mg_le_of (a := a) (by simpa using h) fun i v hi => by
        have := k (i + 1) v (by rw [List.getElem?_cons_succ]; exact hi)
        rwa [List.getElem?_cons_succ] at this⟩
theorem mg_le_kill {a b : mg_L} (h : mg_le a b) (i : Nat) {j : Nat} {u : Value} (hj : (mg_kill a i)[j]? = some (some u)) : (mg_kill b i)[j]? = some (some u) := by
  obtain ⟨h1, h2⟩ := mg_kill_get hj
  have h3 := mg_le_at h h1
  unfold mg_kill
  cases i with
  | zero => exact h3
  | succ k =>
    dsimp only
    have key : ∀ z : Value, z.category = 2 → b[k]? = some (some z) → (b.set k none)[j]? = some (some u) := by
      intro z hz hk
      rw [List.getElem?_set]
      by_cases hkj : k = j
      · subst hkj
        rw [h3] at hk
        cases hk
        exact absurd ⟨rfl, hz⟩ h2
      · rw [if_neg hkj]; exact h3
    split
    · next z hz => exact key _ rfl hz
    · next z hz => exact key _ rfl hz
    · exact h3
theorem mg_le_set {a b : mg_L} (hl : a.length = b.length) (h : ∀ i v, a[i]? = some (some v) → b[i]? = some (some v)) (i : Nat) (o : Option Value) : mg_le (a.set i o) (b.set i o) := by
  refine mg_le_of (by simpa using hl) fun j v hj => ?_
  rw [List.getElem?_set] at hj ⊢
  by_cases hij : i = j
  · rw [if_pos hij] at hj ⊢
    rw [← hl]
    exact hj
  · rw [if_neg hij] at hj ⊢
    exact h j v hj
theorem mg_le_killed {a b : mg_L} (h : mg_le a b) (i : Nat) : mg_le (mg_kill a i) (mg_kill b i) := mg_le_of (by rw [mg_kill_len, mg_kill_len, mg_le_len h]) fun _ _ hj => mg_le_kill h i hj
theorem mg_le_st1 {a b : mg_L} (h : mg_le a b) (i : Nat) (v : Value) : mg_le (mg_st1 a i v) (mg_st1 b i v) := mg_le_set (by rw [mg_kill_len, mg_kill_len, mg_le_len h]) (fun _ _ hj => mg_le_kill h i hj) i (some v)
theorem mg_le_st2 {a b : mg_L} (h : mg_le a b) (i : Nat) (v : Value) : mg_le (mg_st2 a i v) (mg_st2 b i v) := by
  have h1 := mg_le_st1 h i v
  exact mg_le_set (mg_le_len h1) (fun _ _ hj => mg_le_at h1 hj) (i + 1) none
set_option maxHeartbeats 2000000 in
theorem mg_step_more {sc : mg_Sc} {pc : Nat} {ins : Instr} {len : Nat} {o : List Nat} {loc lo2 : mg_L} {st : List Value} {w : mg_S} {pc' : Nat} {loc' : mg_L} {st' : List Value} {w' : mg_S} (h : mg_step sc (pc, ins, len, o) loc st w = some (pc', loc', st', w')) (hm : mg_le loc lo2) :
    ∃ lo2', mg_step sc (pc, ins, len, o) lo2 st w = some (pc', lo2', st', w') ∧ mg_le loc' lo2' := by
  have hlen := mg_le_len hm
  unfold mg_step at h ⊢
  dsimp only at h ⊢
  cases ins <;> (try dsimp only at h ⊢) <;> first
    | (cases h; done)
    | (cases h; exact ⟨_, rfl, hm⟩)
    | skip
  case iload =>
    obtain ⟨v, hv, he⟩ := Option.map_eq_some_iff.mp h
    cases he
    obtain ⟨x, rfl, hl⟩ := mg_ldI_spec hv
    have hv2 : mg_ldI lo2 _ = some _ := by unfold mg_ldI; rw [mg_le_at hm hl]
    exact ⟨_, by rw [hv2]; rfl, hm⟩
  case iload_n =>
    obtain ⟨v, hv, he⟩ := Option.map_eq_some_iff.mp h
    cases he
    obtain ⟨x, rfl, hl⟩ := mg_ldI_spec hv
    have hv2 : mg_ldI lo2 _ = some _ := by unfold mg_ldI; rw [mg_le_at hm hl]
    exact ⟨_, by rw [hv2]; rfl, hm⟩
  case aload =>
    obtain ⟨v, hv, he⟩ := Option.map_eq_some_iff.mp h
    cases he
    obtain ⟨x, rfl, hl⟩ := mg_ldA_spec hv
    have hv2 : mg_ldA lo2 _ = some _ := by unfold mg_ldA; rw [mg_le_at hm hl]
    exact ⟨_, by rw [hv2]; rfl, hm⟩
  case aload_n =>
    obtain ⟨v, hv, he⟩ := Option.map_eq_some_iff.mp h
    cases he
    obtain ⟨x, rfl, hl⟩ := mg_ldA_spec hv
    have hv2 : mg_ldA lo2 _ = some _ := by unfold mg_ldA; rw [mg_le_at hm hl]
    exact ⟨_, by rw [hv2]; rfl, hm⟩
  case fload =>
    obtain ⟨v, hv, he⟩ := Option.map_eq_some_iff.mp h
    cases he
    obtain ⟨x, rfl, hl⟩ := mg_ldF_spec hv
    have hv2 : mg_ldF lo2 _ = some _ := by unfold mg_ldF; rw [mg_le_at hm hl]
    exact ⟨_, by rw [hv2]; rfl, hm⟩
  case dload =>
    obtain ⟨v, hv, he⟩ := Option.map_eq_some_iff.mp h
    cases he
    obtain ⟨x, rfl, hl⟩ := mg_ldD_spec hv
    have hv2 : mg_ldD lo2 _ = some _ := by unfold mg_ldD; rw [mg_le_at hm hl]
    exact ⟨_, by rw [hv2]; rfl, hm⟩
  case ldc =>
    split at h
    · cases h; exact ⟨_, rfl, hm⟩
    · cases h
  case ldc_w =>
    split at h
    · cases h; exact ⟨_, rfl, hm⟩
    · cases h
  case goto =>
    split at h
    · cases h; exact ⟨_, rfl, hm⟩
    · cases h
  case iadd =>
    split at h
    · cases h; exact ⟨_, rfl, hm⟩
    · cases h
  case isub =>
    split at h
    · cases h; exact ⟨_, rfl, hm⟩
    · cases h
  case imul =>
    split at h
    · cases h; exact ⟨_, rfl, hm⟩
    · cases h
  case iand =>
    split at h
    · cases h; exact ⟨_, rfl, hm⟩
    · cases h
  case ior =>
    split at h
    · cases h; exact ⟨_, rfl, hm⟩
    · cases h
  case ineg =>
    split at h
    · cases h; exact ⟨_, rfl, hm⟩
    · cases h
  case i2l =>
    split at h
    · cases h; exact ⟨_, rfl, hm⟩
    · cases h
  case i2c =>
    split at h
    · cases h; exact ⟨_, rfl, hm⟩
    · cases h
  case i2f =>
    split at h
    · cases h; exact ⟨_, rfl, hm⟩
    · cases h
  case i2d =>
    split at h
    · cases h; exact ⟨_, rfl, hm⟩
    · cases h
  case lcmp =>
    split at h
    · cases h; exact ⟨_, rfl, hm⟩
    · cases h
  case fcmp =>
    split at h
    · cases h; exact ⟨_, rfl, hm⟩
    · cases h
  case dcmp =>
    split at h
    · cases h; exact ⟨_, rfl, hm⟩
    · cases h
  case dup =>
    split at h
    · cases h; exact ⟨_, rfl, hm⟩
    · cases h; exact ⟨_, rfl, hm⟩
    · cases h
  case dup2 =>
    split at h
    · cases h; exact ⟨_, rfl, hm⟩
    · cases h; exact ⟨_, rfl, hm⟩
    · cases h
  case pop =>
    split at h
    · cases h; exact ⟨_, rfl, hm⟩
    · cases h; exact ⟨_, rfl, hm⟩
    · cases h
  case idiv =>
    split at h
    · split at h
      · cases h
      · next hc => cases h; exact ⟨_, by rw [if_neg hc], hm⟩
    · cases h
  case irem =>
    split at h
    · split at h
      · cases h
      · next hc => cases h; exact ⟨_, by rw [if_neg hc], hm⟩
    · cases h
  case f2d =>
    split at h
    · split at h
      · next hc => cases h; exact ⟨_, by rw [if_pos hc], hm⟩
      · cases h
    · cases h
  case fdiv =>
    split at h
    · split at h
      · next hc => cases h; exact ⟨_, by rw [if_pos hc], hm⟩
      · cases h
    · cases h
  case ddiv =>
    split at h
    · split at h
      · next hc => cases h; exact ⟨_, by rw [if_pos hc], hm⟩
      · cases h
    · cases h
  case istore =>
    split at h
    · split at h
      · next hc => cases h; exact ⟨_, by rw [if_pos (by rw [← hlen]; exact hc)], mg_le_st1 hm _ _⟩
      · cases h
    · cases h
  case istore_n =>
    split at h
    · split at h
      · next hc => cases h; exact ⟨_, by rw [if_pos (by rw [← hlen]; exact hc)], mg_le_st1 hm _ _⟩
      · cases h
    · cases h
  case astore =>
    split at h
    · split at h
      · next hc => cases h; exact ⟨_, by rw [if_pos (by rw [← hlen]; exact hc)], mg_le_st1 hm _ _⟩
      · cases h
    · cases h
  case astore_n =>
    split at h
    · split at h
      · next hc => cases h; exact ⟨_, by rw [if_pos (by rw [← hlen]; exact hc)], mg_le_st1 hm _ _⟩
      · cases h
    · cases h
  case fstore =>
    split at h
    · split at h
      · next hc => cases h; exact ⟨_, by rw [if_pos (by rw [← hlen]; exact hc)], mg_le_st1 hm _ _⟩
      · cases h
    · cases h
  case dstore =>
    split at h
    · split at h
      · next hc => cases h; exact ⟨_, by rw [if_pos (by rw [← hlen]; exact hc)], mg_le_st2 hm _ _⟩
      · cases h
    · cases h
  case iinc =>
    split at h
    · next x hx => cases h; exact ⟨_, by rw [mg_le_at hm hx], mg_le_st1 hm _ _⟩
    · cases h
  case fconst f =>
    match f, h with
    | 0, h => cases h; exact ⟨_, rfl, hm⟩
    | 1, h => cases h
    | 2, h => cases h
  case dconst f =>
    match f, h with
    | 0, h => cases h; exact ⟨_, rfl, hm⟩
    | 1, h => cases h
  case ifCond =>
    split at h
    · split at h <;> (unfold mg_br at h ⊢; cases h; exact ⟨_, rfl, hm⟩)
    · cases h
  case if_icmp =>
    split at h
    · split at h <;> (unfold mg_br at h ⊢; cases h; exact ⟨_, rfl, hm⟩)
    · cases h
  case tableswitch =>
    split at h
    · split at h
      · next hc => cases h; exact ⟨_, by rw [if_pos hc], hm⟩
      · next hc => obtain ⟨v, hv, he⟩ := Option.map_eq_some_iff.mp h; cases he; exact ⟨_, by rw [if_neg hc, hv]; rfl, hm⟩
    · cases h
  case getfield =>
    split at h
    · split at h
      · next hc1 =>
        split at h
        · next hc => obtain ⟨v, hv, he⟩ := Option.map_eq_some_iff.mp h; cases he; exact ⟨_, by rw [hc1]; dsimp only; rw [if_pos hc, hv]; rfl, hm⟩
        · cases h
      · cases h
    · cases h
  case putfield =>
    split at h
    · split at h
      · next hc1 =>
        split at h
        · next hc => cases h; exact ⟨_, by rw [hc1]; dsimp only; rw [if_pos hc], hm⟩
        · cases h
      · cases h
    · cases h
  case iaload =>
    split at h
    · obtain ⟨v, hv, he⟩ := Option.map_eq_some_iff.mp h; cases he; exact ⟨_, by rw [hv]; rfl, hm⟩
    · cases h
  case arraylength =>
    split at h
    · obtain ⟨v, hv, he⟩ := Option.map_eq_some_iff.mp h; cases he; exact ⟨_, by rw [hv]; rfl, hm⟩
    · cases h
  case caload =>
    split at h
    · split at h
      · next hc1 =>
        split at h
        · cases h
        · next hc => cases h; exact ⟨_, by rw [hc1]; dsimp only; rw [if_neg hc], hm⟩
      · cases h
    · cases h
  case laload =>
    split at h
    · split at h
      · next hc1 =>
        split at h
        · cases h
        · next hc => cases h; exact ⟨_, by rw [hc1]; dsimp only; rw [if_neg hc], hm⟩
      · cases h
    · cases h
  case daload =>
    split at h
    · split at h
      · next hc1 =>
        split at h
        · cases h
        · next hc => cases h; exact ⟨_, by rw [hc1]; dsimp only; rw [if_neg hc], hm⟩
      · cases h
    · cases h
  case iastore =>
    split at h
    · split at h
      · next hc1 =>
        split at h
        · cases h
        · next hc => cases h; exact ⟨_, by rw [hc1]; dsimp only; rw [if_neg hc], hm⟩
      · cases h
    · cases h
  case castore =>
    split at h
    · split at h
      · next hc1 =>
        split at h
        · cases h
        · next hc => cases h; exact ⟨_, by rw [hc1]; dsimp only; rw [if_neg hc], hm⟩
      · cases h
    · cases h
  case lastore =>
    split at h
    · split at h
      · next hc1 =>
        split at h
        · cases h
        · next hc => cases h; exact ⟨_, by rw [hc1]; dsimp only; rw [if_neg hc], hm⟩
      · cases h
    · cases h
  case dastore =>
    split at h
    · split at h
      · next hc1 =>
        split at h
        · cases h
        · next hc => cases h; exact ⟨_, by rw [hc1]; dsimp only; rw [if_neg hc], hm⟩
      · cases h
    · cases h
  case newarray =>
    split at h
    · split at h
      · cases h
      · next hc => obtain ⟨v, hv, he⟩ := Option.map_eq_some_iff.mp h; cases he; exact ⟨_, by rw [if_neg hc, hv]; rfl, hm⟩
    · cases h
  case new =>
    split at h
    · split at h
      · cases h
      · next hc => obtain ⟨v, hv, he⟩ := Option.map_eq_some_iff.mp h; cases he; exact ⟨_, by rw [if_neg hc, hv]; rfl, hm⟩
    · cases h
  case invokespecial =>
    split at h
    · split at h
      · next hc => cases h; exact ⟨_, by rw [if_pos hc], hm⟩
      · cases h
    · cases h
  case invokestatic =>
    split at h
    · split at h
      · next hc => cases h; exact ⟨_, by rw [if_pos hc], hm⟩
      · cases h
    · split at h
      · next hc => cases h; exact ⟨_, by rw [if_pos hc], hm⟩
      · cases h
    · split at h
      · next hc1 hc2 =>
        split at h
        · next hc => cases h; exact ⟨_, by rw [hc1, hc2]; dsimp only; rw [if_pos hc], hm⟩
        · cases h
      · cases h
    · cases h
theorem mg_run_more {sc : mg_Sc} : ∀ (n d mi pc : Nat) (loc lo2 : mg_L) (st : List Value) (w : mg_S) (r : mg_R), mg_run sc n d mi pc loc st w = some r → mg_le loc lo2 → mg_run sc n d mi pc lo2 st w = some r := by
  intro n
  induction n with
  | zero => intro d mi pc loc lo2 st w r h; cases h
  | succ n ih =>
    intro d mi pc loc lo2 st w r h hm
    unfold mg_run at h ⊢
    split at h
    · cases h
    · next e he =>
      dsimp only
      split at h
      · next y as r9 hc =>
        dsimp only
        split at h
        · cases h
        · next d =>
          dsimp only
          split at h
          · cases h
          · next hl =>
            rw [if_neg hl]
            split at h
            · next v w1 h1 => exact ih _ _ _ _ _ _ _ _ h hm
            · next E w1 h1 =>
              dsimp only
              split at h
              · exact h
              · refine ih _ _ _ _ _ _ _ _ h ?_
                exact mg_le_set (by rw [mg_kill_len, mg_kill_len, mg_le_len hm]) (fun _ _ hj => mg_le_kill hm _ hj) _ none
              · cases h
            · cases h
      · dsimp only
        split at h
        · exact h
        · dsimp only
          split at h
          · next pc' loc' st' w' h9 =>
            obtain ⟨pc0, ins, len, o⟩ := e
            obtain ⟨lo2', h8, h7⟩ := mg_step_more h9 hm
            rw [h8]
            exact ih _ _ _ _ _ _ _ _ h h7
          · cases h
section EV
variable {sc : mg_Sc} {d mi pc : Nat} {loc lo2 : mg_L} {st : List Value} {w : mg_S} {r : mg_R}
theorem mg_Ev.more (h : mg_Ev sc d mi pc loc st w r) (hm : mg_le loc lo2) : mg_Ev sc d mi pc lo2 st w r := by
  obtain ⟨n, h⟩ := h
  exact ⟨n, mg_run_more _ _ _ _ _ _ _ _ _ h hm⟩
theorem mg_Ev.deep (h : mg_Ev sc d mi pc loc st w r) {d' : Nat} (hd : d ≤ d') : mg_Ev sc d' mi pc loc st w r := by
  obtain ⟨n, h⟩ := h
  exact ⟨n, mg_run_le _ _ _ _ _ _ _ _ h n d' (Nat.le_refl _) hd⟩
/-- a stretch of rows that are no calls, no ends -/
def mg_go (sc : mg_Sc) (mi : Nat) : Nat → Nat × mg_L × List Value × mg_S → Option (Nat × mg_L × List Value × mg_S)
  | 0, s => some s
  | k + 1, (pc, loc, st, w) => match mg_at mi pc with
    | none => none
    | some e => match mg_call mg_cls e st w with
      | some _ => none
      | none => match mg_end (mg_ret mi) e st w with
        | some _ => none
        | none => match mg_step sc e loc st w with
          | some s => mg_go sc mi k s
          | none => none
theorem mg_Ev.go (k : Nat) {pc' : Nat} {loc' : mg_L} {st' : List Value} {w' : mg_S} (hg : mg_go sc mi k (pc, loc, st, w) = some (pc', loc', st', w')) (h : mg_Ev sc d mi pc' loc' st' w' r) : mg_Ev sc d mi pc loc st w r := by
  induction k generalizing pc loc st w with
  | zero => cases hg; exact h
  | succ k ih =>
    unfold mg_go at hg
    split at hg
    · cases hg
    · next e he =>
      split at hg
      · cases hg
      · next hc =>
        split at hg
        · cases hg
        · next hend =>
          split at hg
          · next s hs =>
            obtain ⟨p1, l1, s1, w1⟩ := s
            obtain ⟨n, hn⟩ := ih hg
            refine ⟨n + 1, ?_⟩
            unfold mg_run
            rw [he]
            dsimp only
            rw [hc]
            dsimp only
            rw [hend]
            dsimp only
            rw [hs]
            exact hn
          · cases hg
/-- an end -/
theorem mg_Ev.fin {e : mg_E} (he : mg_at mi pc = some e) (hc : mg_call mg_cls e st w = none) (hend : mg_end (mg_ret mi) e st w = some r) : mg_Ev sc d mi pc loc st w r := by
  refine ⟨1, ?_⟩
  unfold mg_run
  rw [he]
  dsimp only
  rw [hc]
  dsimp only
  rw [hend]
/-- a call that comes back -/
theorem mg_Ev.call {e : mg_E} {y : Nat} {as rest : List Value} {v : Option Value} {w1 : mg_S} (he : mg_at mi pc = some e) (hc : mg_call mg_cls e st w = some (y, as, rest)) (hl : as.length ≤ mg_mlen y)
    (h1 : mg_Ev sc d y 0 (mg_entry y as) [] w (.inl v, w1)) (h : mg_Ev sc (d + 1) mi (pc + 3) loc (v.toList ++ rest) w1 r) : mg_Ev sc (d + 1) mi pc loc st w r := by
  obtain ⟨n1, h1⟩ := h1
  obtain ⟨n2, h2⟩ := h
  refine ⟨max n1 n2 + 1, ?_⟩
  unfold mg_run
  rw [he]
  dsimp only
  rw [hc]
  dsimp only
  rw [if_neg (Nat.not_lt.mpr hl), mg_run_le _ _ _ _ _ _ _ _ h1 (max n1 n2) d (Nat.le_max_left _ _) (Nat.le_refl _)]
  exact mg_run_le _ _ _ _ _ _ _ _ h2 (max n1 n2) (d + 1) (Nat.le_max_right _ _) (Nat.le_refl _)
/-- a call that throws, not caught here -/
theorem mg_Ev.callX {e : mg_E} {y : Nat} {as rest : List Value} {E : Nat} {w1 : mg_S} (he : mg_at mi pc = some e) (hc : mg_call mg_cls e st w = some (y, as, rest)) (hl : as.length ≤ mg_mlen y)
    (h1 : mg_Ev sc d y 0 (mg_entry y as) [] w (.inr E, w1)) (hx : mg_caught (mg_hx mi) (mg_nxt mi) pc E = none) : mg_Ev sc (d + 1) mi pc loc st w (.inr E, w1) := by
  obtain ⟨n1, h1⟩ := h1
  refine ⟨n1 + 1, ?_⟩
  unfold mg_run
  rw [he]
  dsimp only
  rw [hc]
  dsimp only
  rw [if_neg (Nat.not_lt.mpr hl), h1]
  dsimp only
  rw [hx]
/-- .. caught here -/
theorem mg_Ev.callH {e : mg_E} {y : Nat} {as rest : List Value} {E i pc' : Nat} {w1 : mg_S} (he : mg_at mi pc = some e) (hc : mg_call mg_cls e st w = some (y, as, rest)) (hl : as.length ≤ mg_mlen y)
    (h1 : mg_Ev sc d y 0 (mg_entry y as) [] w (.inr E, w1)) (hx : mg_caught (mg_hx mi) (mg_nxt mi) pc E = some (some (i, pc'))) (h : mg_Ev sc (d + 1) mi pc' ((mg_kill loc i).set i none) [] w1 r) : mg_Ev sc (d + 1) mi pc loc st w r := by
  obtain ⟨n1, h1⟩ := h1
  obtain ⟨n2, h2⟩ := h
  refine ⟨max n1 n2 + 1, ?_⟩
  unfold mg_run
  rw [he]
  dsimp only
  rw [hc]
  dsimp only
  rw [if_neg (Nat.not_lt.mpr hl), mg_run_le _ _ _ _ _ _ _ _ h1 (max n1 n2) d (Nat.le_max_left _ _) (Nat.le_refl _)]
  dsimp only
  rw [hx]
  exact mg_run_le _ _ _ _ _ _ _ _ h2 (max n1 n2) (d + 1) (Nat.le_max_right _ _) (Nat.le_refl _)
/-- one row, by what it comes to -/
theorem mg_Ev.one {e : mg_E} (he : mg_at mi pc = some e) (hc : mg_call mg_cls e st w = none) (hend : mg_end (mg_ret mi) e st w = none) {pc' : Nat} {loc' : mg_L} {st' : List Value} {w' : mg_S} (hs : mg_step sc e loc st w = some (pc', loc', st', w')) (h : mg_Ev sc d mi pc' loc' st' w' r) : mg_Ev sc d mi pc loc st w r := by
  refine mg_Ev.go 1 (pc' := pc') (loc' := loc') (st' := st') (w' := w') ?_ h
  unfold mg_go
  rw [he]
  dsimp only
  rw [hc]
  dsimp only
  rw [hend]
  dsimp only
  rw [hs]
  rfl
/-- a branch: what the row answers is an if -/
theorem mg_Ev.br {e : mg_E} {P : Prop} [Decidable P] {t nx : Nat} {st' : List Value} (he : mg_at mi pc = some e) (hc : mg_call mg_cls e st w = none) (hend : mg_end (mg_ret mi) e st w = none) (hs : mg_step sc e loc st w = some (if P then t else nx, loc, st', w)) (ht : P → mg_Ev sc d mi t loc st' w r) (hn : ¬ P → mg_Ev sc d mi nx loc st' w r) : mg_Ev sc d mi pc loc st w r := by
  by_cases h : P
  · rw [if_pos h] at hs
    exact mg_Ev.one he hc hend hs (ht h)
  · rw [if_neg h] at hs
    exact mg_Ev.one he hc hend hs (hn h)
/-- a row that wants a condition -/
theorem mg_Ev.need {e : mg_E} {P : Prop} [Decidable P] {pc' : Nat} {loc' : mg_L} {st' : List Value} {w' : mg_S} (hP : P) (he : mg_at mi pc = some e) (hc : mg_call mg_cls e st w = none) (hend : mg_end (mg_ret mi) e st w = none) (hs : mg_step sc e loc st w = if P then some (pc', loc', st', w') else none) (h : mg_Ev sc d mi pc' loc' st' w' r) : mg_Ev sc d mi pc loc st w r := by
  rw [if_pos hP] at hs
  exact mg_Ev.one he hc hend hs h
theorem mg_Ev.deny {e : mg_E} {P : Prop} [Decidable P] {pc' : Nat} {loc' : mg_L} {st' : List Value} {w' : mg_S} (hP : ¬ P) (he : mg_at mi pc = some e) (hc : mg_call mg_cls e st w = none) (hend : mg_end (mg_ret mi) e st w = none) (hs : mg_step sc e loc st w = if P then none else some (pc', loc', st', w')) (h : mg_Ev sc d mi pc' loc' st' w' r) : mg_Ev sc d mi pc loc st w r := by
  rw [if_neg hP] at hs
  exact mg_Ev.one he hc hend hs h
end EV
