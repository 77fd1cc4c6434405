/-! THE ENDS, AND THE WHOLE RUN -/
set_option maxHeartbeats 2000000 in
theorem mg_step_mono {sc : mg_Sc} {pc : Nat} {ins : Instr} {len : Nat} {o : List Nat} {loc : mg_L} {st : List Value} {w : mg_S} {pc' : Nat} {loc' : mg_L} {st' : List Value} {w' : mg_S} (h : mg_step sc (pc, ins, len, o) loc st w = some (pc', loc', st', w')) : w.2.1 ≤ w'.2.1 ∧ w.2.2 ≤ w'.2.2 := by
  have hr : w.2.1 ≤ w.2.1 ∧ w.2.2 ≤ w.2.2 := ⟨Nat.le_refl _, Nat.le_refl _⟩
  unfold mg_step at h
  dsimp only at h
  cases ins <;> (try dsimp only at h) <;> first
    | (cases h; done)
    | (cases h; exact hr)
    | (obtain ⟨v, -, he⟩ := Option.map_eq_some_iff.mp h; cases he; exact hr)
    | skip
  case ldc =>
    split at h
    · cases h; exact hr
    · cases h
  case ldc_w =>
    split at h
    · cases h; exact hr
    · cases h
  case goto =>
    split at h
    · cases h; exact hr
    · cases h
  case iadd =>
    split at h
    · cases h; exact hr
    · cases h
  case isub =>
    split at h
    · cases h; exact hr
    · cases h
  case imul =>
    split at h
    · cases h; exact hr
    · cases h
  case iand =>
    split at h
    · cases h; exact hr
    · cases h
  case ior =>
    split at h
    · cases h; exact hr
    · cases h
  case ineg =>
    split at h
    · cases h; exact hr
    · cases h
  case i2l =>
    split at h
    · cases h; exact hr
    · cases h
  case i2c =>
    split at h
    · cases h; exact hr
    · cases h
  case i2f =>
    split at h
    · cases h; exact hr
    · cases h
  case i2d =>
    split at h
    · cases h; exact hr
    · cases h
  case lcmp =>
    split at h
    · cases h; exact hr
    · cases h
  case fcmp =>
    split at h
    · cases h; exact hr
    · cases h
  case dcmp =>
    split at h
    · cases h; exact hr
    · cases h
  case dup =>
    split at h
    · cases h; exact hr
    · cases h; exact hr
    · cases h
  case dup2 =>
    split at h
    · cases h; exact hr
    · cases h; exact hr
    · cases h
  case pop =>
    split at h
    · cases h; exact hr
    · cases h; exact hr
    · cases h
  case idiv =>
    split at h
    · split at h
      · cases h
      · cases h; exact hr
    · cases h
  case irem =>
    split at h
    · split at h
      · cases h
      · cases h; exact hr
    · cases h
  case f2d =>
    split at h
    · split at h
      · cases h; exact hr
      · cases h
    · cases h
  case fdiv =>
    split at h
    · split at h
      · cases h; exact hr
      · cases h
    · cases h
  case ddiv =>
    split at h
    · split at h
      · cases h; exact hr
      · cases h
    · cases h
  case istore =>
    split at h
    · split at h
      · cases h; exact hr
      · cases h
    · cases h
  case istore_n =>
    split at h
    · split at h
      · cases h; exact hr
      · cases h
    · cases h
  case astore =>
    split at h
    · split at h
      · cases h; exact hr
      · cases h
    · cases h
  case astore_n =>
    split at h
    · split at h
      · cases h; exact hr
      · cases h
    · cases h
  case fstore =>
    split at h
    · split at h
      · cases h; exact hr
      · cases h
    · cases h
  case dstore =>
    split at h
    · split at h
      · cases h; exact hr
      · cases h
    · cases h
  case iinc =>
    split at h
    · cases h; exact hr
    · cases h
  case fconst f =>
    match f, h with
    | 0, h => cases h; exact hr
    | 1, h => cases h
    | 2, h => cases h
  case dconst f =>
    match f, h with
    | 0, h => cases h; exact hr
    | 1, h => cases h
  case ifCond =>
    split at h
    · split at h <;> (unfold mg_br at h; cases h; exact hr)
    · cases h
  case if_icmp =>
    split at h
    · split at h <;> (unfold mg_br at h; cases h; exact hr)
    · cases h
  case tableswitch =>
    split at h
    · split at h
      · cases h; exact hr
      · obtain ⟨v, -, he⟩ := Option.map_eq_some_iff.mp h; cases he; exact hr
    · cases h
  case getfield =>
    split at h
    · split at h
      · split at h
        · obtain ⟨v, -, he⟩ := Option.map_eq_some_iff.mp h; cases he; exact hr
        · cases h
      · cases h
    · cases h
  case putfield =>
    split at h
    · split at h
      · split at h
        · cases h; exact hr
        · cases h
      · cases h
    · cases h
  case iaload =>
    split at h
    · obtain ⟨v, -, he⟩ := Option.map_eq_some_iff.mp h; cases he; exact hr
    · cases h
  case arraylength =>
    split at h
    · obtain ⟨v, -, he⟩ := Option.map_eq_some_iff.mp h; cases he; exact hr
    · cases h
  case caload =>
    split at h
    · split at h
      · split at h
        · cases h
        · cases h; exact hr
      · cases h
    · cases h
  case laload =>
    split at h
    · split at h
      · split at h
        · cases h
        · cases h; exact hr
      · cases h
    · cases h
  case daload =>
    split at h
    · split at h
      · split at h
        · cases h
        · cases h; exact hr
      · cases h
    · cases h
  case iastore =>
    split at h
    · split at h
      · split at h
        · cases h
        · cases h; exact hr
      · cases h
    · cases h
  case castore =>
    split at h
    · split at h
      · split at h
        · cases h
        · cases h; exact hr
      · cases h
    · cases h
  case lastore =>
    split at h
    · split at h
      · split at h
        · cases h
        · cases h; exact hr
      · cases h
    · cases h
  case dastore =>
    split at h
    · split at h
      · split at h
        · cases h
        · cases h; exact hr
      · cases h
    · cases h
  case newarray =>
    split at h
    · split at h
      · cases h
      · obtain ⟨v, -, he⟩ := Option.map_eq_some_iff.mp h; cases he; exact ⟨Nat.le_succ _, Nat.le_add_right _ _⟩
    · cases h
  case new =>
    split at h
    · split at h
      · cases h
      · obtain ⟨v, -, he⟩ := Option.map_eq_some_iff.mp h; cases he; exact ⟨Nat.le_succ _, Nat.le_add_right _ _⟩
    · cases h
  case invokespecial =>
    split at h
    · split at h
      · cases h; exact hr
      · cases h
    · cases h
  case invokestatic =>
    split at h
    · split at h
      · cases h; exact hr
      · cases h
    · split at h
      · cases h; exact hr
      · cases h
    · split at h
      · split at h
        · cases h; exact hr
        · cases h
      · cases h
    · cases h
theorem mg_end_mono {ret : Option FieldType} {e : mg_E} {st : List Value} {w : mg_S} {r : mg_R} (h : mg_end ret e st w = some r) : w.2.1 ≤ r.2.2.1 ∧ w.2.2 ≤ r.2.2.2 := by
  have hr : w.2.1 ≤ w.2.1 ∧ w.2.2 ≤ w.2.2 := ⟨Nat.le_refl _, Nat.le_refl _⟩
  obtain ⟨pc, ins, len, o⟩ := e
  unfold mg_end at h
  dsimp only at h
  split at h
  · split at h
    · cases h; exact hr
    · split at h
      · cases h; exact hr
      · cases h
    · cases h
  · split at h
    · cases h; exact hr
    · cases h
  · split at h
    · cases h; exact hr
    · cases h
  · split at h
    · cases h; exact hr
    · cases h
  · split at h
    · cases h; exact hr
    · cases h
  · split at h
    · split at h
      · cases h; exact ⟨Nat.le_succ _, Nat.le_add_right _ _⟩
      · cases h
    · cases h
  · cases h
theorem mg_run_mono {sc : mg_Sc} : ∀ (n d mi pc : Nat) (loc : mg_L) (st : List Value) (w : mg_S) (r : mg_R), mg_run sc n d mi pc loc st w = some r → w.2.1 ≤ r.2.2.1 ∧ w.2.2 ≤ r.2.2.2 := by
  intro n
  induction n with
  | zero => intro d mi pc loc st w r h; cases h
  | succ n ih =>
    intro d mi pc loc st w r h
    unfold mg_run at h
    split at h
    · cases h
    · next e he =>
      split at h
      · next y as r9 hc =>
        split at h
        · cases h
        · next d =>
          split at h
          · cases h
          · split at h
            · next v w1 h1 =>
              have a := ih _ _ _ _ _ _ _ h1
              have b := ih _ _ _ _ _ _ _ h
              exact ⟨Nat.le_trans a.1 b.1, Nat.le_trans a.2 b.2⟩
            · next E w1 h1 =>
              have a := ih _ _ _ _ _ _ _ h1
              split at h
              · cases h; exact a
              · next q hq =>
                have b := ih _ _ _ _ _ _ _ h
                exact ⟨Nat.le_trans a.1 b.1, Nat.le_trans a.2 b.2⟩
              · cases h
            · cases h
      · split at h
        · next r9 h9 =>
          cases h
          exact mg_end_mono h9
        · split at h
          · next pc' loc' st' w' h9 =>
            obtain ⟨pc0, ins, len, o⟩ := e
            have a := mg_step_mono h9
            have b := ih _ _ _ _ _ _ _ h
            exact ⟨Nat.le_trans a.1 b.1, Nat.le_trans a.2 b.2⟩
          · cases h
theorem mg_tok {E : Nat} (h : E < 6) : mg_tchk "CustomsDesk" (mg_ics.getD E 0) E = true := by
  match E, h with
  | 0, _ => exact mg_tok_0
  | 1, _ => exact mg_tok_1
  | 2, _ => exact mg_tok_2
  | 3, _ => exact mg_tok_3
  | 4, _ => exact mg_tok_4
  | 5, _ => exact mg_tok_5
section MGE
variable {b n0 : Nat} {dT : Nat → ClassId} {D : va_G} {sc : mg_Sc}
variable {p : Program} {l : Launch} {e : Env} {R : Room} {s : State} {m : MethodId} {args : Array Value} {below : List Frame} {meth : Method} {c : Code}
set_option maxHeartbeats 2000000 in
theorem mg_end_sound {mi c0 z0 pc : Nat} (X : mg_X p l s m meth c mi) (V : mg_V b n0 dT D sc c0 s) {ins : Instr} {len : Nat} {o : List Nat} (hchk : mg_chk mi (pc, ins, len, o) = true) {loc : mg_L} {st : List Value} {w : mg_S} {r : mg_R}
    (he : mg_end (mg_ret mi) (pc, ins, len, o) st w = some r) (hRf : 7 ≤ R.frames) (hRl : 200 ≤ R.locals) (hRc : r.2.2.1 ≤ c0 + R.cells) (hRz : r.2.2.2 ≤ z0 + R.slots) :
    mg_K p l e R s m args below meth c (vx_MQ below (mg_Qc b n0 dT D r) (mg_XC b n0 dT D r) args s (r.2.2.1 - c0) (r.2.2.2 - z0) (fun q => n0 ≤ q)) b n0 dT D (mg_mlen mi) c0 z0 pc loc st w := by
  obtain ⟨hx, hb, hml, hown, hret, hlocks, hname, htab, hnt⟩ := X
  obtain ⟨hTb, hK, hstr, hnc, hZU, hZN, hXs, hbn, hnh, hup⟩ := V
  obtain ⟨hd1, hd2, hrest⟩ := mg_chk_at hchk
  intro H locs ls hW hS hL h1 h2
  cases ins with
  | ireturn =>
    have hd := hd1 rfl
    unfold mg_end at he
    dsimp only at he
    split at he
    · next x hr9 =>
      cases he
      exact vx_ret (W.iret hx hb (hret.trans hr9) (fun t ht hWm => ⟨⟨_, rfl, rfl⟩, by rw [ht]; exact hW, hS.F ht⟩) hS.2.2 hd hlocks)
    · next x hr9 =>
      split at he
      · next h01 =>
        cases he
        exact vx_ret (W.zret hx hb (hret.trans hr9) (by rcases h01 with rfl | rfl <;> rfl) (fun t ht hWm => ⟨⟨_, rfl, rfl⟩, by rw [ht]; exact hW, hS.F ht⟩) hS.2.2 hd hlocks)
      · cases he
    · cases he
  | return_ =>
    have hd := hd1 rfl
    unfold mg_end at he
    dsimp only at he
    split at he
    · next hr9 =>
      cases he
      exact vx_ret (W.vret hx hb (hret.trans hr9) (fun t ht hWm => ⟨⟨_, rfl, rfl⟩, by rw [ht]; exact hW, hS.F ht⟩) hS.2.2 hd hlocks)
    · cases he
  | areturn =>
    have hd := hd1 rfl
    unfold mg_end at he
    dsimp only at he
    split at he
    · next n9 x hr9 =>
      cases he
      exact vx_ret (W.aret hx hb (hret.trans hr9) (Or.inl ⟨_, rfl⟩) (Or.inr ⟨_, rfl⟩) (fun t ht hWm => ⟨⟨_, rfl, rfl⟩, by rw [ht]; exact hW, hS.F ht⟩) hS.2.2 hd hlocks)
    · cases he
  | freturn =>
    have hd := hd1 rfl
    unfold mg_end at he
    dsimp only at he
    split at he
    · next x hr9 =>
      cases he
      exact vx_ret (W.fret hx hb (hret.trans hr9) (fun t ht hWm => ⟨⟨_, rfl, rfl⟩, by rw [ht]; exact hW, hS.F ht⟩) hS.2.2 hd hlocks)
    · cases he
  | dreturn =>
    have hd := hd1 rfl
    unfold mg_end at he
    dsimp only at he
    split at he
    · next x hr9 =>
      cases he
      exact vx_ret (W.dret hx hb (hret.trans hr9) (fun t ht hWm => ⟨⟨_, rfl, rfl⟩, by rw [ht]; exact hW, hS.F ht⟩) hS.2.2 hd hlocks)
    · cases he
  | new idx =>
    have hd := hd1 rfl
    unfold mg_end at he
    dsimp only at he
    split at he
    · next E tl =>
      split at he
      · next hst =>
        subst hst
        cases he
        rcases tl with _ | ⟨is9, _ | ⟨ic, _ | ⟨wide, _ | ⟨p9, _ | ⟨ps, _ | ⟨x9, tl⟩⟩⟩⟩⟩⟩
        · exact absurd (show false = true from hrest) (by decide)
        · exact absurd (show false = true from hrest) (by decide)
        · exact absurd (show false = true from hrest) (by decide)
        · exact absurd (show false = true from hrest) (by decide)
        · exact absurd (show false = true from hrest) (by decide)
        · have hr2 := hrest
          unfold mg_rest at hr2
          dsimp only at hr2
          simp only [Bool.and_eq_true, decide_eq_true_eq] at hr2
          obtain ⟨⟨⟨⟨⟨⟨⟨⟨⟨⟨k1, k2⟩, k3⟩, k4⟩, k5⟩, k6⟩, k7⟩, k8⟩, k9⟩, k10⟩, k11⟩ := hr2
          have hE6 : E < 6 := by rwa [Nat.blt_eq] at k1
          have hic : mg_ics.getD E 0 = ic := Nat.eq_of_beq_eq_true k8
          have htk := mg_tok hE6
          rw [hic] at htk
          unfold mg_tchk at htk
          have hatx : ∀ w ∈ mg_ats "CustomsDesk" ic E, mg_mem w = true ∧ vx_ot w = true := fun w hw => by
            have h9 := List.all_eq_true.mp htk w hw
            simpa only [Bool.and_eq_true] using h9
          split at k9
          · next ow kk tx hps =>
            simp only [Bool.and_eq_true, decide_eq_true_eq] at k9
            obtain ⟨k9a, k9b⟩ := k9
            have hkk : kk = is9 := Nat.eq_of_beq_eq_true k9b
            subst hkk
            obtain ⟨sa, hsa⟩ := hstr ps ow kk tx hps
            rw [k9a] at hsa
            have hout : ∀ q : Nat, ∀ x ∈ c.exceptionTable.toList, covers x (q + 3) = false := fun q x hx9 => by
              rw [htab, k10] at hx9
              cases hx9
            have hq : ∃ q, ((q = pc + 6 ∧ decode (mg_B mi) (pc + 4) = .ok (.ldc kk, 2)) ∨ (q = pc + 7 ∧ decode (mg_B mi) (pc + 4) = .ok (.ldc_w kk, 3))) ∧ decode (mg_B mi) q = .ok (.invokespecial ic, 3) ∧ decode (mg_B mi) (q + 3) = .ok (.athrow, 1) := by
              split at k11
              · simp only [Bool.and_eq_true, decide_eq_true_eq] at k11
                exact ⟨pc + 6, Or.inl ⟨rfl, k11.1.1⟩, k11.1.2, k11.2⟩
              · simp only [Bool.and_eq_true, decide_eq_true_eq] at k11
                exact ⟨pc + 7, Or.inr ⟨rfl, k11.1.1⟩, k11.1.2, k11.2⟩
            obtain ⟨q, hq4, hq6, hq9⟩ := hq
            have hRc' : w.2.1 + 1 ≤ c0 + R.cells := hRc
            have hRz' : w.2.2 + 6 ≤ z0 + R.slots := hRz
            refine mg_throw (A := fun q => n0 ≤ q) (own := mg_own mi) (text := tx) (E := E) (ik := idx) (is := kk) (ic := ic) (sa := sa) hx hb hnt hE6 hown (hTb.use k2 args) (hTb.useM k3 args) hsa (fun w hw => hTb.useM (hatx w (by rw [← k7]; exact hw)).1 args) (fun w hw => ?_) hZU hZN hS (hL.1.trans hml.symm) hd k6 hq4 hq6 hq9 (hout q) (by omega) (by show 0 + 82 ≤ R.locals; omega) (by omega) (by omega) hlocks (fun t hal hz hkp => ?_) hS.2.2 (by show w.2.1 - c0 + 1 ≤ w.2.1 + 1 - c0; omega) (by show w.2.2 - z0 + 6 ≤ w.2.2 + 6 - z0; omega)
            · rcases List.mem_cons.mp hw with rfl | hw
              · exact k4
              · rcases List.mem_cons.mp hw with rfl | hw
                · exact k5
                · exact (hatx w (by rw [← k7]; exact hw)).2
            · refine ⟨⟨E, hE6, rfl, rfl⟩, ⟨hW.1.kept fun k9 q9 hk9 => hkp _ (hW.1 k9 q9 hk9).lt, Nat.le_succ_of_le hW.2⟩, Nat.le_trans hS.1 hz, fun q9 hq9 hA9 => ?_⟩
              rw [hkp q9 (Nat.lt_of_lt_of_le hq9 hS.1)]
              exact hS.2.1 q9 hq9 hA9
          · cases k9
        · exact absurd (show false = true from hrest) (by decide)
      · cases he
    · cases he
  | _ => cases he
end MGE
