/-! CALLS, AND THE WHOLE: what mg_run answers, the real machine does -/
theorem mg_ml40 (y : Nat) : mg_mlen y ≤ 40 := by
  have h : mg_infos.all (fun i => Nat.ble i.2.2.1 40) = true := by decide +kernel
  unfold mg_mlen mg_i
  rw [List.getD_eq_getElem?_getD]
  cases hi : mg_infos[y]? with
  | none => decide
  | some i => exact Nat.le_of_ble_eq_true (List.all_eq_true.mp h i (List.mem_of_getElem? hi))
def mg_rm (d mc ms : Nat) : Room := { frames := d + 7, cells := mc, slots := ms, locals := 60 * d + 200 }
section MGP
variable (b n0 : Nat) (dT : Nat → ClassId) (D : va_G) (sc : mg_Sc)
def mg_Pc (as : List Value) (w : mg_S) : Array Value → State → Prop := fun v U => v = (as.map (mg_cv b n0)).toArray ∧ mg_V b n0 dT D sc w.2.1 U ∧ mg_Wd b n0 dT D w U.heap
def mg_Qc (r : mg_R) : Array Value → State → Outcome → State → Prop := fun _ st o t => (∃ v, r.1 = .inl v ∧ o = .returned (v.map (mg_cv b n0))) ∧ mg_Wd b n0 dT D r.2 t.heap ∧ va_F (fun q => n0 ≤ q) st t
def mg_XC (r : mg_R) : String → State → State → Prop := fun E st t => (∃ k, k < 6 ∧ r.1 = .inr k ∧ E = mg_exc k) ∧ mg_Wd b n0 dT D r.2 t.heap ∧ va_F (fun q => n0 ≤ q) st t
def mg_Met (l : Launch) (d y : Nat) (as : List Value) (w : mg_S) (r : mg_R) : Prop := vx_Met l (mg_N y) [mg_codeW y] (mg_rm d (r.2.2.1 - w.2.1) (r.2.2.2 - w.2.2)) (mg_Pc b n0 dT D sc as w) (mg_Qc b n0 dT D r) (mg_XC b n0 dT D r) (r.2.2.1 - w.2.1) (r.2.2.2 - w.2.2) (fun q => n0 ≤ q)
end MGP
section MGS
variable {b n0 : Nat} {dT : Nat → ClassId} {D : va_G} {sc : mg_Sc}
theorem mg_V_next {c0 c1 : Nat} {s U : State} {H : Heap} {locs : List Loc} (h : mg_V b n0 dT D sc c0 s) (hW : s.WarmedH U.vm) (hh : U.heap = H) (hS : va_S (fun q => n0 ≤ q) s.heap H locs) (hup : H.size ≤ n0 + c1) : mg_V b n0 dT D sc c1 U := by
  obtain ⟨h1, h2, h3, h4, h5, h6, h7, h8, h9, h10⟩ := h
  subst hh
  have hb : b < s.heap.size := Nat.lt_of_lt_of_le h8 h9
  refine ⟨h1.warm hW, va_K.moved hW.alike h2, fun p own k tx hp => ?_, fun E F a c d => (h4 E F a c d).moved hW.alike, vx_Zq.moved hW.alike (h5.kept hS.2.1), vx_Zq.moved hW.alike (h6.kept hS.2.1), va_X.moved hW.alike (h7.kept (hS.2.1 b hb (Nat.not_le.mpr h8))), h8, Nat.le_trans h9 hS.1, hup⟩
  obtain ⟨a, ha⟩ := h3 p own k tx hp
  exact ⟨a, vk_R.warm hW ha⟩
theorem mg_Pc_blind (as : List Value) (w : mg_S) : FrameBlind (mg_Pc b n0 dT D sc as w) := fun a U g mk h => ⟨h.1, mg_V_next (s := U) (U := U.calling g mk a) (H := U.heap) (locs := []) h.2.1 (State.WarmedH.refl U) rfl va_S.rf h.2.1.2.2.2.2.2.2.2.2.2, h.2.2⟩
theorem mg_split_spec {n : Nat} {st as r : List Value} (h : mg_split n st = some (as, r)) : st = as.reverse ++ r ∧ as.length = n := by
  unfold mg_split at h
  split at h
  · next hn =>
    cases h
    refine ⟨by rw [List.reverse_reverse, List.take_append_drop], ?_⟩
    rw [List.length_reverse, List.length_take]
    omega
  · cases h
theorem mg_isObj_spec {w : mg_S} {ci : Nat} {v : Value} (h : mg_isObj w ci v = true) : ∃ a fs, v = .ref (a + 1) ∧ w.1[a]? = some (.inr (ci, fs)) := by
  unfold mg_isObj at h
  split at h
  · next a =>
    split at h
    · next c fs hc =>
      have := eq_of_beq h
      subst this
      exact ⟨a, fs, rfl, hc⟩
    · cases h
  · cases h
theorem mg_light_cv {r : List Value} (h : mg_light r = true) : ((r.map (mg_cv b n0)).map fun v => v.category).sum ≤ 8 := by
  rw [mg_st_cat]
  exact of_decide_eq_true h
theorem mg_Qret {r : mg_R} {A : Array Value} {v : Option Value} {st t : State} (h : mg_Qc b n0 dT D r A st (.returned v) t) : ∃ u, r.1 = .inl u ∧ v = u.map (mg_cv b n0) ∧ mg_Wd b n0 dT D r.2 t.heap ∧ va_F (fun q => n0 ≤ q) st t := by
  obtain ⟨⟨u, h1, h2⟩, h3, h4⟩ := h
  cases h2
  exact ⟨u, h1, rfl, h3, h4⟩
variable {p : Program} {l : Launch} {e : Env} {R : Room} {s : State} {m : MethodId} {args : Array Value} {below : List Frame} {meth : Method} {c : Code} {Q : State → Prop}
theorem mg_code_hh {y : Nat} (h : mg_hh y = []) : mg_codeW y = .code (mg_N y) (mg_B y) (mg_mlen y) (mg_ret y) := by
  unfold mg_codeW
  rw [h]
theorem mg_code_hh2 {y : Nat} (h : mg_hh y ≠ []) : mg_codeW y = .codeWith (mg_N y) (mg_B y) (mg_mlen y) (mg_ret y) (mg_hh y) := by
  unfold mg_codeW
  split
  · next h2 => exact absurd h2 h
  · rfl
theorem mg_mchk_spec {y n : Nat} {st : Bool} (h : mg_mchk y n st = true) : mg_hasw (mg_pl y 0) (mg_codeW y) = true ∧ mg_hasw (mg_pl y 1) (.initialized (mg_own y)) = true ∧ mg_hasw (mg_pl y 2) (if st then .static (mg_N y) else .instanceMethod (mg_N y)) = true ∧ (mg_own y ≠ "java/lang/invoke/MethodHandle" ∧ mg_own y ≠ "java/lang/invoke/VarHandle") ∧ (parseMethodDescriptor (mg_N y).desc).map (fun d => d.parameters.length) = some n ∧ plainName (mg_own y) = true := by
  unfold mg_mchk at h
  simp only [Bool.and_eq_true, decide_eq_true_eq] at h
  obtain ⟨⟨⟨⟨h1, h2⟩, h3⟩, h4⟩, h5⟩ := h
  exact ⟨h1, h2, h3, ⟨h4.1, h4.2.1⟩, h4.2.2, h5⟩
theorem mg_goodW (y : Nat) : goodWord (mg_codeW y) = true := by
  unfold mg_codeW
  split <;> rfl
/-- what a call needs of its callee -/
theorem mg_callee {d y n : Nat} {st : Bool} (hTb : mg_Tb s) (hm : mg_mchk y n st = true) (mc ms : Nat) (hRf : d + 8 ≤ R.frames) (hRl : 60 * d + 260 ≤ R.locals) (args : Array Value) :
    ((mg_rm d mc ms).cells = mc ∧ (mg_rm d mc ms).slots = ms ∧ (mg_rm d mc ms).frames + 1 ≤ R.frames ∧ 8 + (mg_mlen y + 11) + (mg_rm d mc ms).locals ≤ R.locals ∧ (∀ w ∈ [mg_codeW y], ∀ (a' : Array Value) (U : State), s.WarmedH U.vm → w.before a' U = true) ∧ mg_codeW y ∈ [mg_codeW y]) ∧
    (mg_codeW y).before args s = true ∧ (Cond.initialized (mg_own y)).before args s = true ∧ (mg_own y ≠ "java/lang/invoke/MethodHandle" ∧ mg_own y ≠ "java/lang/invoke/VarHandle") ∧ (∀ sig, parseMethodDescriptor (mg_N y).desc = some sig → n = sig.parameters.length) := by
  obtain ⟨h1, h2, h3, h4, h5, h6⟩ := mg_mchk_spec hm
  have hml := mg_ml40 y
  refine ⟨⟨rfl, rfl, by show d + 7 + 1 ≤ R.frames; omega, by show 8 + (mg_mlen y + 11) + (60 * d + 200) ≤ R.locals; omega, fun w hw a' U hW => ?_, List.mem_singleton.mpr rfl⟩, hTb.use h1 args, hTb.use h2 args, h4, fun sig hs => ?_⟩
  · rw [List.mem_singleton.mp hw]
    exact word_at hW (good_of_word (mg_goodW y)) (hTb.use h1 args)
  · rw [hs] at h5
    exact (Option.some.inj h5).symm
set_option maxHeartbeats 4000000 in
theorem mg_call_run {mi c0 z0 pc d : Nat} (X : mg_X p l s m meth c mi) (V : mg_V b n0 dT D sc c0 s) {ins : Instr} {len : Nat} {o : List Nat} (hchk : mg_chk mi (pc, ins, len, o) = true) {loc : mg_L} {st : List Value} {w : mg_S} {y : Nat} {as r : List Value} {r1 : mg_R}
    (hc : mg_call mg_cls (pc, ins, len, o) st w = some (y, as, r)) (hM : mg_Met b n0 dT D sc l d y as w r1) (hRf : d + 8 ≤ R.frames) (hRl : 60 * d + 260 ≤ R.locals)
    {H : Heap} {locs : List Loc} {ls : Array Slot} (hW : mg_Wd b n0 dT D w H) (hS : va_S (fun q => n0 ≤ q) s.heap H locs) (hL : mg_Lo b n0 ls (mg_mlen mi) loc) (h1 : c0 ≤ w.2.1) (h2 : z0 ≤ w.2.2) (hm1 : w.2.1 ≤ r1.2.2.1) (hm2 : w.2.2 ≤ r1.2.2.2)
    (hRc : r1.2.2.1 ≤ c0 + R.cells) (hRz : r1.2.2.2 ≤ z0 + R.slots) (hup : H.size ≤ n0 + w.2.1) :
    vx_Run p l e R s m args below meth c H locs (w.2.1 - c0) (w.2.2 - z0) (r1.2.2.1 - w.2.1) (r1.2.2.2 - w.2.2) (F0 m pc ls (st.map (mg_cv b n0))) (r.map (mg_cv b n0)) (mg_Qc b n0 dT D r1 (as.map (mg_cv b n0)).toArray) (mg_XC b n0 dT D r1) (fun q => n0 ≤ q) := by
  obtain ⟨hx, hb, hml, hown, hret, hlocks, hname, htab, hnt⟩ := X
  have hTb := V.1
  have hK := V.2.1
  obtain ⟨hd1, hd2, hrest⟩ := mg_chk_at hchk
  have hP := hW.1
  have hcs : (w.2.1 - c0) + (r1.2.2.1 - w.2.1) ≤ R.cells ∧ (w.2.2 - z0) + (r1.2.2.2 - w.2.2) ≤ R.slots := ⟨by omega, by omega⟩
  have hpre : ∀ (V9 : Array Value), V9 = (as.map (mg_cv b n0)).toArray → ∀ U : State, U.heap = H → s.WarmedH U.vm → mg_Pc b n0 dT D sc as w V9 U := fun V9 hV U hU hWm => ⟨hV, mg_V_next V hWm hU hS hup, by rw [hU]; exact hW⟩
  cases ins with
  | invokevirtual idx =>
    have hd := hd1 rfl
    unfold mg_call at hc
    dsimp only at hc
    split at hc
    · next y9 n pl =>
      split at hc
      · next b9 as9 r9 hsp =>
        split at hc
        · next hcond =>
          cases hc
          have hr2 : (mg_hasw pl (.methodLink (mg_own mi) idx (mg_N y)) && mg_mchk y n false && mg_hasw (mg_pl y 3) (.selects (mg_own y) (mg_N y) (mg_N y)) && decide (mg_hh y = []) && decide ((mg_cl[mg_cls y]?).map (fun q => q.1) = some (mg_own y))) = true := hrest
          simp only [Bool.and_eq_true, decide_eq_true_eq] at hr2
          obtain ⟨⟨⟨⟨k1, k2⟩, k3⟩, k4⟩, k5⟩ := hr2
          obtain ⟨a9, fs, rfl, hcell⟩ := mg_isObj_spec hcond.1
          obtain ⟨hst, hlen⟩ := mg_split_spec hsp
          obtain ⟨q9, hq9, hq1⟩ := Option.map_eq_some_iff.mp k5
          obtain ⟨⟨g1, g2, g3, g4, g5, g6⟩, g7, g8, g9, g10⟩ := mg_callee (args := args) hTb k2 (r1.2.2.1 - w.2.1) (r1.2.2.2 - w.2.2) hRf hRl
          rw [mg_code_hh k4] at g5 g6 g7
          have hM9 : vx_Met l (mg_N y) [Cond.code (mg_N y) (mg_B y) (mg_mlen y) (mg_ret y)] (mg_rm d (r1.2.2.1 - w.2.1) (r1.2.2.2 - w.2.2)) (mg_Pc b n0 dT D sc (.ref (a9 + 1) :: as9) w) (mg_Qc b n0 dT D r1) (mg_XC b n0 dT D r1) (r1.2.2.1 - w.2.1) (r1.2.2.2 - w.2.2) (fun q => n0 ≤ q) := by
            have := hM
            unfold mg_Met at this
            rw [mg_code_hh k4] at this
            exact this
          have hrecv := va_recv hK hP hq9 (mg_ws_get (b := b) (n0 := n0) (dT := dT) hcell)
          rw [hq1] at hrecv
          refine vx_runV (Ts := []) (own := mg_own mi) (C := mg_own y) (b := n0 + a9) (As := as9.map (mg_cv b n0)) (n := n) (nL := mg_mlen mi) ⟨hx, hb, hml, hown, fun _ h => nomatch h⟩ hM9 ⟨⟨g1, g2, g3, g4, g5, g6, g7, g8, g9, g10, hTb.use k1 args⟩, hTb.use (mg_mchk_spec k2).2.2.1 args, hTb.use k3 args⟩ ⟨mg_Pc_blind _ _, hrecv, fun U hU hWm => hpre _ rfl U hU hWm⟩ rfl ?_ hL.1 ?_ (lv_room (mg_light_cv hcond.2.1)) hd hcs
          · rw [List.length_map]
            have : (Value.ref (a9 + 1) :: as9).length = n + 1 := hlen
            simpa using this
          · show st.map (mg_cv b n0) = (as9.map (mg_cv b n0)).reverse ++ Value.ref (n0 + a9) :: r.map (mg_cv b n0)
            rw [hst]
            simp [List.map_append, List.map_reverse]
            rfl
        · cases hc
      · cases hc
    · cases hc
  | invokestatic idx =>
    have hd := hd1 rfl
    unfold mg_call at hc
    dsimp only at hc
    split at hc
    · next k9 y9 n pl =>
      split at hc
      · next hk9 =>
        split at hc
        · next as9 r9 hsp =>
          split at hc
          · next hcond =>
            cases hc
            obtain ⟨hst, hlen⟩ := mg_split_spec hsp
            have hstk : st.map (mg_cv b n0) = (as.map (mg_cv b n0)).reverse ++ r.map (mg_cv b n0) := by
              rw [hst, List.map_append, List.map_reverse]
            have hlen9 : (as.map (mg_cv b n0)).length = n := by rw [List.length_map]; exact hlen
            match k9, hk9, hrest with
            | 0, _, hrest =>
              have hr2 : ((mg_hasw pl (.methodLink (mg_own mi) idx (mg_N y)) && decide (mg_hh y = [])) && mg_mchk y n true) = true := hrest
              simp only [Bool.and_eq_true, decide_eq_true_eq] at hr2
              obtain ⟨⟨k1, k4⟩, k2⟩ := hr2
              obtain ⟨⟨g1, g2, g3, g4, g5, g6⟩, g7, g8, g9, g10⟩ := mg_callee (args := args) hTb k2 (r1.2.2.1 - w.2.1) (r1.2.2.2 - w.2.2) hRf hRl
              rw [mg_code_hh k4] at g5 g6 g7
              have hM9 := hM
              unfold mg_Met at hM9
              rw [mg_code_hh k4] at hM9
              exact vx_runS (Ts := []) (own := mg_own mi) (As := as.map (mg_cv b n0)) (n := n) (nL := mg_mlen mi) ⟨hx, hb, hml, hown, fun _ h => nomatch h⟩ hM9 ⟨⟨g1, g2, g3, g4, g5, g6, g7, g8, g9, g10, hTb.use k1 args⟩, hTb.use (mg_mchk_spec k2).2.2.1 args⟩ ⟨mg_Pc_blind _ _, fun U hU hWm => hpre _ rfl U hU hWm⟩ rfl hlen9 hL.1 hstk (lv_room (mg_light_cv hcond.1)) hd hcs
            | 1, _, hrest =>
              have hr2 : ((mg_hasw pl (.methodLinkNest (mg_own mi) idx (mg_N y) "CustomsDesk") && decide (mg_hh y = [])) && mg_mchk y n true) = true := hrest
              simp only [Bool.and_eq_true, decide_eq_true_eq] at hr2
              obtain ⟨⟨k1, k4⟩, k2⟩ := hr2
              obtain ⟨⟨g1, g2, g3, g4, g5, g6⟩, g7, g8, g9, g10⟩ := mg_callee (args := args) hTb k2 (r1.2.2.1 - w.2.1) (r1.2.2.2 - w.2.2) hRf hRl
              rw [mg_code_hh k4] at g5 g6 g7
              have hM9 := hM
              unfold mg_Met at hM9
              rw [mg_code_hh k4] at hM9
              exact vx_runSN (Ts := []) (own := mg_own mi) (host := "CustomsDesk") (As := as.map (mg_cv b n0)) (n := n) (nL := mg_mlen mi) ⟨hx, hb, hml, hown, fun _ h => nomatch h⟩ hM9 ⟨⟨⟨g1, g2, g3, g4, g5, g6⟩, g7, g8, g9, g10, hTb.use k1 args⟩, hTb.use (mg_mchk_spec k2).2.2.1 args, trivial⟩ ⟨mg_Pc_blind _ _, fun U hU hWm => hpre _ rfl U hU hWm⟩ rfl hlen9 hL.1 hstk (lv_room (mg_light_cv hcond.1)) hd hcs
            | 2, _, hrest =>
              have hr2 : ((mg_hasw pl (.methodLink (mg_own mi) idx (mg_N y)) && decide (mg_hh y ≠ [])) && mg_mchk y n true) = true := hrest
              simp only [Bool.and_eq_true, decide_eq_true_eq] at hr2
              obtain ⟨⟨k1, k4⟩, k2⟩ := hr2
              obtain ⟨⟨g1, g2, g3, g4, g5, g6⟩, g7, g8, g9, g10⟩ := mg_callee (args := args) hTb k2 (r1.2.2.1 - w.2.1) (r1.2.2.2 - w.2.2) hRf hRl
              rw [mg_code_hh2 k4] at g5 g6 g7
              have hM9 := hM
              unfold mg_Met at hM9
              rw [mg_code_hh2 k4] at hM9
              exact vx_runSX (Ts := []) (own := mg_own mi) (As := as.map (mg_cv b n0)) (n := n) (nL := mg_mlen mi) ⟨hx, hb, hml, hown, fun _ h => nomatch h⟩ hM9 ⟨⟨g1, g2, g3, g4, g5, g6⟩, g7, g8, g9, g10, hTb.use k1 args, hTb.use (mg_mchk_spec k2).2.2.1 args⟩ ⟨mg_Pc_blind _ _, fun U hU hWm => hpre _ rfl U hU hWm⟩ rfl hlen9 hL.1 hstk (lv_room (mg_light_cv hcond.1)) hd hcs
            | k + 3, hk9, _ => omega
          · cases hc
        · cases hc
      · cases hc
    · cases hc
  | invokespecial idx =>
    have hd := hd1 rfl
    unfold mg_call at hc
    dsimp only at hc
    split at hc
    · next k9 y9 n pl =>
      split at hc
      · next hk9 =>
        split at hc
        · next b9 as9 r9 hsp =>
          split at hc
          · next hcond =>
            cases hc
            obtain ⟨a9, fs, rfl, hcell⟩ := mg_isObj_spec hcond.1
            obtain ⟨hst, hlen⟩ := mg_split_spec hsp
            have hstk : st.map (mg_cv b n0) = (as9.map (mg_cv b n0)).reverse ++ Value.ref (n0 + a9) :: r.map (mg_cv b n0) := by
              rw [hst]
              simp [List.map_append, List.map_reverse]
              rfl
            have hlen9 : (as9.map (mg_cv b n0)).length = n := by
              rw [List.length_map]
              have : (Value.ref (a9 + 1) :: as9).length = n + 1 := hlen
              simpa using this
            match k9, hk9, hrest with
            | 0, _, hrest =>
              have hr2 : (mg_hasw pl (.methodLink (mg_own mi) idx (mg_N y)) && mg_mchk y n false && decide (mg_hh y = []) && decide ((mg_N y).name = "<init>") && decide (mg_ret y = none) && decide ((mg_cl[mg_cls y]?).map (fun q => q.1) = some (mg_own y))) = true := hrest
              simp only [Bool.and_eq_true, decide_eq_true_eq] at hr2
              obtain ⟨⟨⟨⟨⟨k1, k2⟩, k4⟩, k5⟩, k6⟩, k7⟩ := hr2
              obtain ⟨⟨g1, g2, g3, g4, g5, g6⟩, g7, g8, g9, g10⟩ := mg_callee (args := args) hTb k2 (r1.2.2.1 - w.2.1) (r1.2.2.2 - w.2.2) hRf hRl
              rw [mg_code_hh k4, k6] at g5 g6 g7
              have hM9 := hM
              unfold mg_Met at hM9
              rw [mg_code_hh k4, k6] at hM9
              exact vx_runI (Ts := []) (own := mg_own mi) (b := n0 + a9) (As := as9.map (mg_cv b n0)) (n := n) (nL := mg_mlen mi) ⟨hx, hb, hml, hown, fun _ h => nomatch h⟩ hM9 ⟨⟨g1, g2, g3, g4, g5, g6, g7, g8, g9, g10, hTb.use k1 args⟩, k5, hTb.use (mg_mchk_spec k2).2.2.1 args⟩ ⟨mg_Pc_blind _ _, fun U hU hWm => hpre _ rfl U hU hWm⟩ rfl hlen9 hL.1 hstk (lv_room (mg_light_cv hcond.2.1)) hd hcs
            | 1, _, hrest =>
              have hr2 : (mg_hasw pl (.methodLinkNest (mg_own mi) idx (mg_N y) "CustomsDesk") && mg_mchk y n false && decide (mg_hh y = []) && decide ((mg_N y).name = "<init>") && decide (mg_ret y = none) && decide ((mg_cl[mg_cls y]?).map (fun q => q.1) = some (mg_own y))) = true := hrest
              simp only [Bool.and_eq_true, decide_eq_true_eq] at hr2
              obtain ⟨⟨⟨⟨⟨k1, k2⟩, k4⟩, k5⟩, k6⟩, k7⟩ := hr2
              obtain ⟨⟨g1, g2, g3, g4, g5, g6⟩, g7, g8, g9, g10⟩ := mg_callee (args := args) hTb k2 (r1.2.2.1 - w.2.1) (r1.2.2.2 - w.2.2) hRf hRl
              rw [mg_code_hh k4, k6] at g5 g6 g7
              have hM9 := hM
              unfold mg_Met at hM9
              rw [mg_code_hh k4, k6] at hM9
              exact vx_runIN (Ts := []) (own := mg_own mi) (host := "CustomsDesk") (b := n0 + a9) (As := as9.map (mg_cv b n0)) (n := n) (nL := mg_mlen mi) ⟨hx, hb, hml, hown, fun _ h => nomatch h⟩ hM9 ⟨⟨⟨g1, g2, g3, g4, g5, g6⟩, g7, g8, g9, g10, hTb.use k1 args⟩, k5, hTb.use (mg_mchk_spec k2).2.2.1 args⟩ ⟨mg_Pc_blind _ _, fun U hU hWm => hpre _ rfl U hU hWm⟩ rfl hlen9 hL.1 hstk (lv_room (mg_light_cv hcond.2.1)) hd hcs
            | k + 2, hk9, _ => omega
          · cases hc
        · cases hc
      · cases hc
    · cases hc
  | _ => cases hc
/-- behind a call -/
theorem mg_callW {c1 z1 c2 z2 mc ms pc : Nat} {H : Heap} {locs : List Loc} {ls : Array Slot} {st0 rest : List Value} {r1 : mg_R} {A9 : Array Value}
    (hr : vx_Run p l e R s m args below meth c H locs c1 z1 mc ms (F0 m pc ls st0) rest (mg_Qc b n0 dT D r1 A9) (mg_XC b n0 dT D r1) (fun q => n0 ≤ q)) (hS : va_S (fun q => n0 ≤ q) s.heap H locs) (hc : c1 + mc = c2) (hz : z1 + ms = z2)
    (kx : ∀ (k : Nat) (ce : Cell) (q9 : Addr) (H1 : Heap) (locs1 : List Loc), k < 6 → r1.1 = .inr k → mg_Wd b n0 dT D r1.2 H1 → va_S (fun q => n0 ≤ q) s.heap H1 locs1 → H1[q9]? = some ce → ce.vm = .none → s.vm.findClass (mg_exc k) = some ce.cls → vx_W p l e R s m args below meth c H1 locs1 c2 z2 Q (F0 m pc ls rest) q9)
    (kk : ∀ (u : Option Value) (H1 : Heap) (locs1 : List Loc), r1.1 = .inl u → mg_Wd b n0 dT D r1.2 H1 → va_S (fun q => n0 ≤ q) s.heap H1 locs1 → W p l e R s m args below meth c H1 locs1 c2 z2 Q (F0 m (pc + 3) ls ((u.map (mg_cv b n0)).toList ++ rest))) : W p l e R s m args below meth c H locs c1 z1 Q (F0 m pc ls st0) := by
  intro T hT X
  subst hc hz
  rcases hr T hT X with ⟨v, st₀, t, T', L, h0, X', hL, e1, e2, hq, stp⟩ | ⟨q, st₀, t, T', L, E, ce, h0, X', hL, e1, e2, ⟨⟨k, hk6, hk, hE⟩, hWd, hF⟩, hce, hcv, hcl, stp⟩
  · obtain ⟨u, hu, rfl, hWd, hF⟩ := mg_Qret hq
    obtain ⟨k1, k2, k3⟩ := vx_keep h0 e1 hS (fun q _ h => h) (fun q h => h) hL hF
    obtain ⟨t2, a1, b1⟩ := kk u T'.heap (locs ++ L) hu (by rw [e1]; exact hWd) k3 T' rfl X'
    exact ⟨t2, stp t2 a1, b1⟩
  · obtain ⟨k1, k2, k3⟩ := vx_keep h0 e1 hS (fun q _ h => h) (fun q h => h) hL hF
    subst hE
    obtain ⟨t2, a1, b1⟩ := kx k ce q T'.heap (locs ++ L) hk6 hk (by rw [e1]; exact hWd) k3 (by rw [e1]; exact hce) hcv hcl T' rfl X'
    exact ⟨t2, stp.trans a1, b1⟩
end MGS
