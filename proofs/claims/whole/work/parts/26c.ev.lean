theorem mg_ldF_le {a b : mg_L} {i : Nat} {v : Value} (hm : mg_le a b) (h : mg_ldF a i = some v) : mg_ldF b i = some v := by
  obtain ⟨x, rfl, hl⟩ := mg_ldF_spec h
  unfold mg_ldF
  rw [mg_le_at hm hl]
theorem mg_ldI_le {a b : mg_L} {i : Nat} {v : Value} (hm : mg_le a b) (h : mg_ldI a i = some v) : mg_ldI b i = some v := by
  obtain ⟨x, rfl, hl⟩ := mg_ldI_spec h
  unfold mg_ldI
  rw [mg_le_at hm hl]
theorem mg_ldA_le {a b : mg_L} {i : Nat} {v : Value} (hm : mg_le a b) (h : mg_ldA a i = some v) : mg_ldA b i = some v := by
  obtain ⟨x, rfl, hl⟩ := mg_ldA_spec h
  unfold mg_ldA
  rw [mg_le_at hm hl]
theorem mg_ldD_le {a b : mg_L} {i : Nat} {v : Value} (hm : mg_le a b) (h : mg_ldD a i = some v) : mg_ldD b i = some v := by
  obtain ⟨x, rfl, hl⟩ := mg_ldD_spec h
  unfold mg_ldD
  rw [mg_le_at hm hl]
set_option maxHeartbeats 2000000 in
theorem mg_step_more {sc : mg_Sc} {pc : Nat} {ins : Instr} {len : Nat} {o : List Nat} {loc lo2 : mg_L} {st : List Value} {w : mg_S} {pc' : Nat} {loc' : mg_L} {st' : List Value} {w' : mg_S} (h : mg_step sc (pc, ins, len, o) loc st w = some (pc', loc', st', w')) (hm : mg_le loc lo2) :
    ∃ lo2', mg_step sc (pc, ins, len, o) lo2 st w = some (pc', lo2', st', w') ∧ mg_le loc' lo2' := by
  have hlen := mg_le_len hm
  unfold mg_step at h ⊢
  dsimp only at h ⊢
  cases ins <;> (try dsimp only at h ⊢) <;> first
    | (cases h; done)
    | (cases h; exact ⟨_, rfl, hm⟩)
    | skip
  case iload =>
    obtain ⟨v, hv, he⟩ := Option.map_eq_some_iff.mp h
    cases he
    have hv2 := mg_ldI_le hm hv
    exact ⟨_, by rw [hv2]; rfl, hm⟩
  case iload_n =>
    obtain ⟨v, hv, he⟩ := Option.map_eq_some_iff.mp h
    cases he
    have hv2 := mg_ldI_le hm hv
    exact ⟨_, by rw [hv2]; rfl, hm⟩
  case aload =>
    obtain ⟨v, hv, he⟩ := Option.map_eq_some_iff.mp h
    cases he
    have hv2 := mg_ldA_le hm hv
    exact ⟨_, by rw [hv2]; rfl, hm⟩
  case aload_n =>
    obtain ⟨v, hv, he⟩ := Option.map_eq_some_iff.mp h
    cases he
    have hv2 := mg_ldA_le hm hv
    exact ⟨_, by rw [hv2]; rfl, hm⟩
  case fload =>
    obtain ⟨v, hv, he⟩ := Option.map_eq_some_iff.mp h
    cases he
    have hv2 := mg_ldF_le hm hv
    exact ⟨_, by rw [hv2]; rfl, hm⟩
  case dload =>
    obtain ⟨v, hv, he⟩ := Option.map_eq_some_iff.mp h
    cases he
    have hv2 := mg_ldD_le hm hv
    exact ⟨_, by rw [hv2]; rfl, hm⟩
  case ldc =>
    split at h
    · cases h; exact ⟨_, rfl, hm⟩
    · cases h
  case ldc_w =>
    split at h
    · cases h; exact ⟨_, rfl, hm⟩
    · cases h
  case goto =>
    split at h
    · cases h; exact ⟨_, rfl, hm⟩
    · cases h
  case iadd =>
    split at h
    · cases h; exact ⟨_, rfl, hm⟩
    · cases h
  case isub =>
    split at h
    · cases h; exact ⟨_, rfl, hm⟩
    · cases h
  case imul =>
    split at h
    · cases h; exact ⟨_, rfl, hm⟩
    · cases h
  case iand =>
    split at h
    · cases h; exact ⟨_, rfl, hm⟩
    · cases h
  case ior =>
    split at h
    · cases h; exact ⟨_, rfl, hm⟩
    · cases h
  case ineg =>
    split at h
    · cases h; exact ⟨_, rfl, hm⟩
    · cases h
  case i2l =>
    split at h
    · cases h; exact ⟨_, rfl, hm⟩
    · cases h
  case i2c =>
    split at h
    · cases h; exact ⟨_, rfl, hm⟩
    · cases h
  case i2f =>
    split at h
    · cases h; exact ⟨_, rfl, hm⟩
    · cases h
  case i2d =>
    split at h
    · cases h; exact ⟨_, rfl, hm⟩
    · cases h
  case lcmp =>
    split at h
    · cases h; exact ⟨_, rfl, hm⟩
    · cases h
  case fcmp =>
    split at h
    · cases h; exact ⟨_, rfl, hm⟩
    · cases h
  case dcmp =>
    split at h
    · cases h; exact ⟨_, rfl, hm⟩
    · cases h
  case dup =>
    split at h
    · cases h; exact ⟨_, rfl, hm⟩
    · cases h; exact ⟨_, rfl, hm⟩
    · cases h
  case dup2 =>
    split at h
    · cases h; exact ⟨_, rfl, hm⟩
    · cases h; exact ⟨_, rfl, hm⟩
    · cases h
  case pop =>
    split at h
    · cases h; exact ⟨_, rfl, hm⟩
    · cases h; exact ⟨_, rfl, hm⟩
    · cases h
  case idiv =>
    split at h
    · split at h
      · cases h
      · next hc => cases h; exact ⟨_, by rw [if_neg hc], hm⟩
    · cases h
  case irem =>
    split at h
    · split at h
      · cases h
      · next hc => cases h; exact ⟨_, by rw [if_neg hc], hm⟩
    · cases h
  case f2d =>
    split at h
    · split at h
      · next hc => cases h; exact ⟨_, by rw [if_pos hc], hm⟩
      · cases h
    · cases h
  case fdiv =>
    split at h
    · split at h
      · next hc => cases h; exact ⟨_, by rw [if_pos hc], hm⟩
      · cases h
    · cases h
  case ddiv =>
    split at h
    · split at h
      · next hc => cases h; exact ⟨_, by rw [if_pos hc], hm⟩
      · cases h
    · cases h
  case istore =>
    split at h
    · split at h
      · next hc => cases h; exact ⟨_, by rw [if_pos (by rw [← hlen]; exact hc)], mg_le_st1 hm _ _⟩
      · cases h
    · cases h
  case istore_n =>
    split at h
    · split at h
      · next hc => cases h; exact ⟨_, by rw [if_pos (by rw [← hlen]; exact hc)], mg_le_st1 hm _ _⟩
      · cases h
    · cases h
  case astore =>
    split at h
    · split at h
      · next hc => cases h; exact ⟨_, by rw [if_pos (by rw [← hlen]; exact hc)], mg_le_st1 hm _ _⟩
      · cases h
    · cases h
  case astore_n =>
    split at h
    · split at h
      · next hc => cases h; exact ⟨_, by rw [if_pos (by rw [← hlen]; exact hc)], mg_le_st1 hm _ _⟩
      · cases h
    · cases h
  case fstore =>
    split at h
    · split at h
      · next hc => cases h; exact ⟨_, by rw [if_pos (by rw [← hlen]; exact hc)], mg_le_st1 hm _ _⟩
      · cases h
    · cases h
  case dstore =>
    split at h
    · split at h
      · next hc => cases h; exact ⟨_, by rw [if_pos (by rw [← hlen]; exact hc)], mg_le_st2 hm _ _⟩
      · cases h
    · cases h
  case iinc =>
    split at h
    · next x hx => cases h; exact ⟨_, by rw [mg_le_at hm hx], mg_le_st1 hm _ _⟩
    · cases h
  case fconst f =>
    match f, h with
    | 0, h => cases h; exact ⟨_, rfl, hm⟩
    | 1, h => cases h
    | 2, h => cases h
  case dconst f =>
    match f, h with
    | 0, h => cases h; exact ⟨_, rfl, hm⟩
    | 1, h => cases h
  case ifCond =>
    split at h
    · split at h <;> (unfold mg_br at h ⊢; cases h; exact ⟨_, rfl, hm⟩)
    · cases h
  case if_icmp =>
    split at h
    · split at h <;> (unfold mg_br at h ⊢; cases h; exact ⟨_, rfl, hm⟩)
    · cases h
  case tableswitch =>
    split at h
    · split at h
      · next hc => cases h; exact ⟨_, by rw [if_pos hc], hm⟩
      · next hc => obtain ⟨v, hv, he⟩ := Option.map_eq_some_iff.mp h; cases he; exact ⟨_, by rw [if_neg hc, hv]; rfl, hm⟩
    · cases h
  case getfield =>
    split at h
    · split at h
      · next hc1 =>
        split at h
        · next hc => obtain ⟨v, hv, he⟩ := Option.map_eq_some_iff.mp h; cases he; exact ⟨_, by (try rw [hc1]); (try dsimp only); rw [if_pos hc, hv]; rfl, hm⟩
        · cases h
      · cases h
    · cases h
  case putfield =>
    split at h
    · split at h
      · next hc1 =>
        split at h
        · next hc => cases h; exact ⟨_, by (try rw [hc1]); (try dsimp only); rw [if_pos hc], hm⟩
        · cases h
      · cases h
    · cases h
  case iaload =>
    split at h
    · obtain ⟨v, hv, he⟩ := Option.map_eq_some_iff.mp h; cases he; exact ⟨_, by rw [hv]; rfl, hm⟩
    · cases h
  case arraylength =>
    split at h
    · obtain ⟨v, hv, he⟩ := Option.map_eq_some_iff.mp h; cases he; exact ⟨_, by rw [hv]; rfl, hm⟩
    · cases h
  case caload =>
    split at h
    · split at h
      · next hc1 =>
        split at h
        · cases h
        · next hc => cases h; exact ⟨_, by (try rw [hc1]); (try dsimp only); rw [if_neg hc], hm⟩
      · cases h
    · cases h
  case laload =>
    split at h
    · split at h
      · next hc1 =>
        split at h
        · cases h
        · next hc => cases h; exact ⟨_, by (try rw [hc1]); (try dsimp only); rw [if_neg hc], hm⟩
      · cases h
    · cases h
  case daload =>
    split at h
    · split at h
      · next hc1 =>
        split at h
        · cases h
        · next hc => cases h; exact ⟨_, by (try rw [hc1]); (try dsimp only); rw [if_neg hc], hm⟩
      · cases h
    · cases h
  case iastore =>
    split at h
    · split at h
      · next hc1 =>
        split at h
        · cases h
        · next hc => cases h; exact ⟨_, by (try rw [hc1]); (try dsimp only); rw [if_neg hc], hm⟩
      · cases h
    · cases h
  case castore =>
    split at h
    · split at h
      · next hc1 =>
        split at h
        · cases h
        · next hc => cases h; exact ⟨_, by (try rw [hc1]); (try dsimp only); rw [if_neg hc], hm⟩
      · cases h
    · cases h
  case lastore =>
    split at h
    · split at h
      · next hc1 =>
        split at h
        · cases h
        · next hc => cases h; exact ⟨_, by (try rw [hc1]); (try dsimp only); rw [if_neg hc], hm⟩
      · cases h
    · cases h
  case dastore =>
    split at h
    · split at h
      · next hc1 =>
        split at h
        · cases h
        · next hc => cases h; exact ⟨_, by (try rw [hc1]); (try dsimp only); rw [if_neg hc], hm⟩
      · cases h
    · cases h
  case newarray =>
    split at h
    · split at h
      · cases h
      · next hc => obtain ⟨v, hv, he⟩ := Option.map_eq_some_iff.mp h; cases he; exact ⟨_, by rw [if_neg hc, hv]; rfl, hm⟩
    · cases h
  case new =>
    split at h
    · split at h
      · cases h
      · next hc => obtain ⟨v, hv, he⟩ := Option.map_eq_some_iff.mp h; cases he; exact ⟨_, by rw [if_neg hc, hv]; rfl, hm⟩
    · cases h
  case invokespecial =>
    split at h
    · split at h
      · next hc => cases h; exact ⟨_, by rw [if_pos hc], hm⟩
      · cases h
    · cases h
  case invokestatic =>
    split at h
    · split at h
      · next hc => cases h; exact ⟨_, by rw [if_pos hc], hm⟩
      · cases h
    · split at h
      · next hc => cases h; exact ⟨_, by rw [if_pos hc], hm⟩
      · cases h
    · split at h
      · next hc1 hc2 =>
        split at h
        · next hc => cases h; exact ⟨_, by (try rw [hc1, hc2]); (try dsimp only); rw [if_pos hc], hm⟩
        · cases h
      · cases h
    · cases h
