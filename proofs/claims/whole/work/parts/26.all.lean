/-! HANDLERS; THE THEOREM -/
def mg_h1 (mi : Nat) (q : (Nat × Nat × Nat × Nat) × (Nat × Nat × Nat × Nat × Nat)) : Bool :=
  Nat.beq q.1.1 q.2.1 && Nat.beq q.1.2.1 q.2.2.1 && Nat.beq q.1.2.2.1 q.2.2.2.1 && Nat.blt q.2.2.2.2.1 6 && !Nat.beq q.1.2.2.2 0 && mg_hasw q.2.2.2.2.2 (.classLink (mg_own mi) q.1.2.2.2 (mg_exc q.2.2.2.2.1)) &&
  (match mg_at mi q.1.2.2.1, mg_nxt mi q.1.2.2.1 with
    | some (h, .astore k, _, _), some (k', h') => Nat.beq h q.1.2.2.1 && Nat.beq k k' && Nat.beq (h + 2) h' && Nat.blt k (mg_mlen mi)
    | some (h, .astore_n k, _, _), some (k', h') => Nat.beq h q.1.2.2.1 && Nat.beq k.val k' && Nat.beq (h + 1) h' && Nat.blt k.val (mg_mlen mi)
    | _, _ => false)
def mg_hok (mi : Nat) : Bool := Nat.beq (mg_hh mi).length (mg_hx mi).length && ((mg_hh mi).zip (mg_hx mi)).all (mg_h1 mi)
set_option maxRecDepth 100000 in
theorem mg_hok_all : (List.range 259).all mg_hok = true := by decide +kernel
theorem mg_hok_at (mi : Nat) : mg_hok mi = true := by
  by_cases h : mi < 259
  · exact List.all_eq_true.mp mg_hok_all mi (List.mem_range.mpr h)
  · have e1 : mg_hh mi = [] := by
      unfold mg_hh mg_i
      rw [List.getD_eq_getElem?_getD, List.getElem?_eq_none (show mg_infos.length ≤ mi from Nat.le_of_not_lt h)]
      rfl
    have e2 : mg_hx mi = [] := by
      unfold mg_hx
      rw [List.getD_eq_getElem?_getD, List.getElem?_eq_none (show mg_hxs.length ≤ mi from Nat.le_of_not_lt h)]
      rfl
    unfold mg_hok
    rw [e1, e2]
    rfl
theorem mg_cast {E : Nat} (h : E < 6) : mg_mem (.castable (mg_exc E) (mg_exc E)) = true := by
  match E, h with
  | 0, _ => decide +kernel
  | 1, _ => decide +kernel
  | 2, _ => decide +kernel
  | 3, _ => decide +kernel
  | 4, _ => decide +kernel
  | 5, _ => decide +kernel
def mg_fnd (pc E : Nat) (z : Nat × Nat × Nat × Nat × Nat) : Bool := Nat.ble z.1 pc && Nat.blt pc z.2.1 && Nat.beq z.2.2.2.1 E
theorem mg_split_table {mi pc E : Nat} : ∀ (hh : List (Nat × Nat × Nat × Nat)) (hx : List (Nat × Nat × Nat × Nat × Nat)), hh.length = hx.length → (hh.zip hx).all (mg_h1 mi) = true → ∀ z, hx.find? (mg_fnd pc E) = some z →
    ∃ (pre : List ExceptionTableEntry) (x : ExceptionTableEntry) (suf : List ExceptionTableEntry) (q : Nat × Nat × Nat × Nat), tableOf hh = pre ++ x :: suf ∧ mg_h1 mi (q, z) = true ∧ x = ⟨q.1, q.2.1, q.2.2.1, q.2.2.2⟩ ∧ covers x pc = true ∧ z.2.2.2.1 = E ∧
      ∀ y ∈ pre, covers y pc = false ∨ (y.catchType ≠ 0 ∧ ∃ F p, F < 6 ∧ F ≠ E ∧ mg_hasw p (.classLink (mg_own mi) y.catchType (mg_exc F)) = true) := by
  intro hh
  induction hh with
  | nil =>
    intro hx hl _ z hz
    cases hx with
    | nil => cases hz
    | cons a t => cases hl
  | cons q t ih =>
    intro hx hl ha z hz
    cases hx with
    | nil => cases hl
    | cons a u =>
      rw [List.zip_cons_cons, List.all_cons, Bool.and_eq_true] at ha
      have ha1 := ha.1
      unfold mg_h1 at ha1
      simp only [Bool.and_eq_true, Bool.not_eq_true'] at ha1
      obtain ⟨⟨⟨⟨⟨⟨g1, g2⟩, g3⟩, g4⟩, g5⟩, g6⟩, g7⟩ := ha1
      have e1 := Nat.eq_of_beq_eq_true g1
      have e2 := Nat.eq_of_beq_eq_true g2
      rw [List.find?_cons] at hz
      cases hf : mg_fnd pc E a with
      | true =>
        rw [hf] at hz
        cases hz
        unfold mg_fnd at hf
        simp only [Bool.and_eq_true] at hf
        obtain ⟨⟨f1, f2⟩, f3⟩ := hf
        refine ⟨[], ⟨q.1, q.2.1, q.2.2.1, q.2.2.2⟩, tableOf t, q, rfl, ha.1, rfl, ?_, Nat.eq_of_beq_eq_true f3, fun y hy => nomatch hy⟩
        unfold covers
        simp only [Bool.and_eq_true, decide_eq_true_eq]
        exact ⟨by have := Nat.le_of_ble_eq_true f1; omega, by have : pc < a.2.1 := by rwa [Nat.blt_eq] at f2
                                                            omega⟩
      | false =>
        rw [hf] at hz
        obtain ⟨pre, x, suf, q', h1, h2, h3, h4, h5, h6⟩ := ih u (by simpa using hl) ha.2 z hz
        refine ⟨⟨q.1, q.2.1, q.2.2.1, q.2.2.2⟩ :: pre, x, suf, q', by rw [List.cons_append, ← h1]; rfl, h2, h3, h4, h5, fun y hy => ?_⟩
        rcases List.mem_cons.mp hy with rfl | hy
        · by_cases hcv : covers (⟨q.1, q.2.1, q.2.2.1, q.2.2.2⟩ : ExceptionTableEntry) pc = false
          · exact Or.inl hcv
          · rw [Bool.not_eq_false] at hcv
            unfold covers at hcv
            simp only [Bool.and_eq_true, decide_eq_true_eq] at hcv
            refine Or.inr ⟨fun h0 => ?_, a.2.2.2.1, a.2.2.2.2, by rwa [Nat.blt_eq] at g4, fun hE => ?_, g6⟩
            · have h0 : q.2.2.2 = 0 := h0
              rw [h0] at g5
              cases g5
            · have : mg_fnd pc E a = true := by
                unfold mg_fnd
                simp only [Bool.and_eq_true]
                refine ⟨⟨Nat.ble_eq_true_of_le (by omega), by rw [Nat.blt_eq]; omega⟩, ?_⟩
                rw [hE]; exact Nat.beq_refl E
              rw [hf] at this
              cases this
        · exact h6 y hy
section MGA
variable {b n0 : Nat} {dT : Nat → ClassId} {D : va_G} {sc : mg_Sc} {l : Launch}
theorem mg_args_mem {vs : List Value} (hc : ∀ v ∈ vs, ¬ v.category = 2) : ∀ (i k : Nat) (v : Value), vs[i]? = some v → (k + i, v) ∈ lv_args k vs := by
  induction vs with
  | nil => intro i k v h; simp at h
  | cons a t ih =>
    intro i k v h
    have ha : ¬ a.category = 2 := hc a List.mem_cons_self
    unfold lv_args
    rw [if_neg ha]
    cases i with
    | zero =>
      rw [List.getElem?_cons_zero] at h
      cases h
      exact List.mem_cons_self
    | succ i =>
      rw [List.getElem?_cons_succ] at h
      have := ih (fun v hv => hc v (List.mem_cons_of_mem _ hv)) i (k + 1) v h
      rw [show k + (i + 1) = k + 1 + i by omega]
      exact List.mem_cons_of_mem _ this
theorem mg_sl_len {vs : List Value} (hc : ∀ v ∈ vs, ¬ v.category = 2) : (lg_sl vs).length = vs.length := by
  induction vs with
  | nil => rfl
  | cons a t ih =>
    have ha : ¬ a.category = 2 := hc a List.mem_cons_self
    have h2 := ih (fun v hv => hc v (List.mem_cons_of_mem _ hv))
    unfold lg_sl at h2 ⊢
    rw [List.flatMap_cons, if_neg ha, List.length_append, h2]
    simp [Nat.add_comm]
theorem mg_entry_Lo {y : Nat} {as : List Value} (hc : mg_cat1 as = true) (hl : as.length ≤ mg_mlen y) : mg_Lo b n0 ((lg_sl (as.map (mg_cv b n0)) ++ List.replicate (mg_mlen y - (lg_sl (as.map (mg_cv b n0))).length) Slot.unset).toArray) (mg_mlen y) (mg_entry y as) := by
  have hc' : ∀ v ∈ as.map (mg_cv b n0), ¬ v.category = 2 := by
    intro v hv
    obtain ⟨u, hu, rfl⟩ := List.mem_map.mp hv
    rw [mg_cv_cat]
    have := Nat.eq_of_beq_eq_true (List.all_eq_true.mp hc u hu)
    omega
  have h := lv_entry (as.map (mg_cv b n0)) (n := mg_mlen y) (by rw [mg_sl_len hc', List.length_map]; exact hl)
  refine ⟨h.1, h.2.1, ?_, fun i v hi => ?_⟩
  · unfold mg_entry
    rw [List.length_append, List.length_map, List.length_replicate]
    omega
  · unfold mg_entry at hi
    by_cases hil : i < as.length
    · rw [List.getElem?_append_left (by rw [List.length_map]; exact hil), List.getElem?_map] at hi
      obtain ⟨u, hu, he⟩ := Option.map_eq_some_iff.mp hi
      cases he
      have h2 := mg_args_mem hc' i 0 (mg_cv b n0 v) (by rw [List.getElem?_map, hu]; rfl)
      rw [Nat.zero_add] at h2
      exact h.2.2 _ h2
    · rw [List.getElem?_append_right (by rw [List.length_map]; omega), List.getElem?_replicate] at hi
      split at hi <;> cases hi
/-- from the body to the contract -/
theorem mg_met_of {d y n9 : Nat} {st9 : Bool} {as : List Value} {w : mg_S} {r : mg_R} (hm : mg_mchk y n9 st9 = true) (hnt : l.stackTraces = false) (hc : mg_cat1 as = true) (hl : as.length ≤ mg_mlen y) (hm1 : w.2.1 ≤ r.2.2.1) (hm2 : w.2.2 ≤ r.2.2.2)
    (S : ∀ {p : Program} {e : Env} {R : Room} {s : State} {m : MethodId} {args : Array Value} {below : List Frame} {meth : Method} {c : Code} {c0 z0 : Nat}, mg_X p l s m meth c y → mg_V b n0 dT D sc c0 s → d + 7 ≤ R.frames → 60 * d + 200 ≤ R.locals → r.2.2.1 ≤ c0 + R.cells → r.2.2.2 ≤ z0 + R.slots →
      mg_K p l e R s m args below meth c (vx_MQ below (mg_Qc b n0 dT D r) (mg_XC b n0 dT D r) args s (r.2.2.1 - c0) (r.2.2.2 - z0) (fun q => n0 ≤ q)) b n0 dT D (mg_mlen y) c0 z0 0 (mg_entry y as) [] w) : mg_Met b n0 dT D sc l d y as w r := by
  unfold mg_Met
  have hpn := (mg_mchk_spec hm).2.2.2.2.2
  have body : ∀ (p : Program) (e : Env) (s : State) (m : MethodId) (args : Array Value) (below : List Frame) (meth : Method) (c : Code), mg_X p l s m meth c y → mg_Pc b n0 dT D sc as w args s → W p l e (mg_rm d (r.2.2.1 - w.2.1) (r.2.2.2 - w.2.2)) s m args below meth c s.heap [] 0 0 (vx_MQ below (mg_Qc b n0 dT D r) (mg_XC b n0 dT D r) args s (r.2.2.1 - w.2.1) (r.2.2.2 - w.2.2) (fun q => n0 ≤ q)) (entryFrame m args (mg_mlen y)) := by
    intro p e s m args below meth c hX hP
    obtain ⟨rfl, hV, hWd⟩ := hP
    rw [lg_entry_eq]
    have K := S (p := p) (e := e) (R := mg_rm d (r.2.2.1 - w.2.1) (r.2.2.2 - w.2.2)) (s := s) (m := m) (args := (as.map (mg_cv b n0)).toArray) (below := below) (meth := meth) (c := c) (c0 := w.2.1) (z0 := w.2.2) hX hV (Nat.le_refl _) (Nat.le_refl _) (by show r.2.2.1 ≤ w.2.1 + (r.2.2.1 - w.2.1); omega) (by show r.2.2.2 ≤ w.2.2 + (r.2.2.2 - w.2.2); omega) s.heap [] _ hWd va_S.rf (mg_entry_Lo hc hl) (Nat.le_refl _) (Nat.le_refl _)
    rw [Nat.sub_self, Nat.sub_self] at K
    exact K
  by_cases hh : mg_hh y = []
  · rw [mg_code_hh hh]
    refine vx_ofW (cc := mg_B y) (maxL := mg_mlen y) (ret := mg_ret y) hpn rfl ?_
    intro p e s m args below meth c s₁ B hml htab hP
    refine body p e s m args below meth c ⟨B.exec, B.bytes, hml, findClass_of_methodNamed B.named, B.returns, B.notSynchronized, (name_of_methodNamed B.named B.method).1, ?_, hnt⟩ hP
    rw [hh]
    exact List.eq_nil_iff_forall_not_mem.mpr htab
  · rw [mg_code_hh2 hh]
    refine vx_ofWH (cc := mg_B y) (maxL := mg_mlen y) (ret := mg_ret y) (hh := mg_hh y) hpn rfl ?_
    intro p e s m args below meth c s₁ B hml hP
    have htab := vx_table B (atoms_spec (ws := [Cond.codeWith (mg_N y) (mg_B y) (mg_mlen y) (mg_ret y) (mg_hh y)]) B.pre _ List.mem_cons_self)
    exact body p e s m args below meth c ⟨B.exec, B.bytes, hml, findClass_of_methodNamed B.named, B.returns, B.notSynchronized, (name_of_methodNamed B.named B.method).1, htab, hnt⟩ hP
theorem mg_call_facts {mi pc : Nat} {ins : Instr} {len : Nat} {o : List Nat} (hchk : mg_chk mi (pc, ins, len, o) = true) {st : List Value} {w : mg_S} {y : Nat} {as r : List Value} (hc : mg_call mg_cls (pc, ins, len, o) st w = some (y, as, r)) : (∃ n st9, mg_mchk y n st9 = true) ∧ mg_cat1 as = true := by
  obtain ⟨hd1, hd2, hrest⟩ := mg_chk_at hchk
  cases ins with
  | invokevirtual idx =>
    unfold mg_call at hc
    dsimp only at hc
    split at hc
    · next y9 n pl =>
      split at hc
      · split at hc
        · next hcond =>
          cases hc
          have hr2 : (mg_hasw pl (.methodLink (mg_own mi) idx (mg_N y)) && mg_mchk y n false && mg_hasw (mg_pl y 3) (.selects (mg_own y) (mg_N y) (mg_N y)) && decide (mg_hh y = []) && decide ((mg_cl[mg_cls y]?).map (fun q => q.1) = some (mg_own y))) = true := hrest
          simp only [Bool.and_eq_true] at hr2
          exact ⟨⟨n, false, hr2.1.1.1.2⟩, hcond.2.2⟩
        · cases hc
      · cases hc
    · cases hc
  | invokestatic idx =>
    unfold mg_call at hc
    dsimp only at hc
    split at hc
    · next k9 y9 n pl =>
      split at hc
      · split at hc
        · split at hc
          · next hcond =>
            cases hc
            have hr2 : (match k9 with
              | 0 => mg_hasw pl (.methodLink (mg_own mi) idx (mg_N y)) && decide (mg_hh y = [])
              | 1 => mg_hasw pl (.methodLinkNest (mg_own mi) idx (mg_N y) "CustomsDesk") && decide (mg_hh y = [])
              | 2 => mg_hasw pl (.methodLink (mg_own mi) idx (mg_N y)) && decide (mg_hh y ≠ [])
              | _ => false) = true ∧ mg_mchk y n true = true := by
              have h9 : ((match k9 with
              | 0 => mg_hasw pl (.methodLink (mg_own mi) idx (mg_N y)) && decide (mg_hh y = [])
              | 1 => mg_hasw pl (.methodLinkNest (mg_own mi) idx (mg_N y) "CustomsDesk") && decide (mg_hh y = [])
              | 2 => mg_hasw pl (.methodLink (mg_own mi) idx (mg_N y)) && decide (mg_hh y ≠ [])
              | _ => false) && mg_mchk y n true) = true := hrest
              rwa [Bool.and_eq_true] at h9
            exact ⟨⟨n, true, hr2.2⟩, hcond.2⟩
          · cases hc
        · cases hc
      · cases hc
    · cases hc
  | invokespecial idx =>
    unfold mg_call at hc
    dsimp only at hc
    split at hc
    · next k9 y9 n pl =>
      split at hc
      · split at hc
        · split at hc
          · next hcond =>
            cases hc
            have h9 : ((match k9 with
              | 0 => mg_hasw pl (.methodLink (mg_own mi) idx (mg_N y))
              | 1 => mg_hasw pl (.methodLinkNest (mg_own mi) idx (mg_N y) "CustomsDesk")
              | _ => false) && mg_mchk y n false && decide (mg_hh y = []) && decide ((mg_N y).name = "<init>") && decide (mg_ret y = none) && decide ((mg_cl[mg_cls y]?).map (fun q => q.1) = some (mg_own y))) = true := hrest
            simp only [Bool.and_eq_true] at h9
            exact ⟨⟨n, false, h9.1.1.1.1.2⟩, hcond.2.2⟩
          · cases hc
        · cases hc
      · cases hc
    · cases hc
  | _ => cases hc
set_option maxHeartbeats 4000000 in
theorem mg_sound (hnt : l.stackTraces = false) : ∀ (n d mi pc : Nat) (loc : mg_L) (st : List Value) (w : mg_S) (r : mg_R), mg_run sc n d mi pc loc st w = some r →
    ∀ {p : Program} {e : Env} {R : Room} {s : State} {m : MethodId} {args : Array Value} {below : List Frame} {meth : Method} {c : Code} {c0 z0 : Nat}, mg_X p l s m meth c mi → mg_V b n0 dT D sc c0 s → d + 7 ≤ R.frames → 60 * d + 200 ≤ R.locals → r.2.2.1 ≤ c0 + R.cells → r.2.2.2 ≤ z0 + R.slots →
      mg_K p l e R s m args below meth c (vx_MQ below (mg_Qc b n0 dT D r) (mg_XC b n0 dT D r) args s (r.2.2.1 - c0) (r.2.2.2 - z0) (fun q => n0 ≤ q)) b n0 dT D (mg_mlen mi) c0 z0 pc loc st w := by
  intro n
  induction n with
  | zero => intro d mi pc loc st w r h; cases h
  | succ n ih =>
    intro d mi pc loc st w r h p e R s m args below meth c c0 z0 X V hRf hRl hRc hRz
    have hmono := mg_run_mono _ _ _ _ _ _ _ _ h
    unfold mg_run at h
    split at h
    · cases h
    · next e9 he9 =>
      obtain ⟨pc0, ins, len, o⟩ := e9
      obtain ⟨hpc, hchk⟩ := mg_ok he9
      have hpc : pc0 = pc := hpc
      subst hpc
      split at h
      · next y as r9 hc =>
        obtain ⟨⟨n9, st9, hm9⟩, hcat⟩ := mg_call_facts hchk hc
        split at h
        · cases h
        · next d =>
          split at h
          · cases h
          · next hlen =>
            have hlen : as.length ≤ mg_mlen y := Nat.le_of_not_lt hlen
            split at h
            · next v w1 h1 =>
              have a1 := mg_run_mono _ _ _ _ _ _ _ _ h1
              have a2 := mg_run_mono _ _ _ _ _ _ _ _ h
              have hM := mg_met_of (b := b) (n0 := n0) (dT := dT) (D := D) (sc := sc) (l := l) (d := d) hm9 hnt hcat hlen a1.1 a1.2 (fun hX hV q1 q2 q3 q4 => ih d y 0 (mg_entry y as) [] w (.inl v, w1) h1 hX hV q1 q2 q3 q4)
              intro H locs ls hW hS hL k1 k2
              refine mg_size fun hup => ?_
              have a11 : w.2.1 ≤ w1.2.1 := a1.1
              have a12 : w.2.2 ≤ w1.2.2 := a1.2
              have hV9 : s.heap.size ≤ n0 + c0 := V.2.2.2.2.2.2.2.2.2
              refine mg_callW (mg_call_run X V hchk (loc := loc) hc hM (by omega) (by omega) hW hS hL k1 k2 a1.1 a1.2 (Nat.le_trans a2.1 hRc) (Nat.le_trans a2.2 hRz) (by omega)) hS (c2 := w1.2.1 - c0) (z2 := w1.2.2 - z0) (by show w.2.1 - c0 + (w1.2.1 - w.2.1) = _; omega) (by show w.2.2 - z0 + (w1.2.2 - w.2.2) = _; omega) (fun k ce q9 H1 locs1 _ hk => by cases hk) (fun u H1 locs1 hu hW1 hS1 => ?_)
              cases hu
              have k9 := ih (d + 1) mi (pc0 + 3) loc (v.toList ++ r9) w1 r h (p := p) (e := e) (R := R) (s := s) (m := m) (args := args) (below := below) (meth := meth) (c := c) (c0 := c0) (z0 := z0) X V hRf hRl hRc hRz H1 locs1 ls hW1 hS1 hL (by omega) (by omega)
              have e5 : (v.toList ++ r9).map (mg_cv b n0) = (v.map (mg_cv b n0)).toList ++ r9.map (mg_cv b n0) := by
                rw [List.map_append]
                cases v <;> rfl
              rw [e5] at k9
              exact k9
            · next E w1 h1 =>
              have a1 := mg_run_mono _ _ _ _ _ _ _ _ h1
              have hM := mg_met_of (b := b) (n0 := n0) (dT := dT) (D := D) (sc := sc) (l := l) (d := d) hm9 hnt hcat hlen a1.1 a1.2 (fun hX hV q1 q2 q3 q4 => ih d y 0 (mg_entry y as) [] w (.inr E, w1) h1 hX hV q1 q2 q3 q4)
              intro H locs ls hW hS hL k1 k2
              refine mg_size fun hup => ?_
              have a11 : w.2.1 ≤ w1.2.1 := a1.1
              have a12 : w.2.2 ≤ w1.2.2 := a1.2
              have hV9 : s.heap.size ≤ n0 + c0 := V.2.2.2.2.2.2.2.2.2
              have hbnd : w1.2.1 ≤ r.2.2.1 ∧ w1.2.2 ≤ r.2.2.2 := by
                split at h
                · cases h; exact ⟨Nat.le_refl _, Nat.le_refl _⟩
                · exact mg_run_mono _ _ _ _ _ _ _ _ h
                · cases h
              refine mg_callW (mg_call_run X V hchk (loc := loc) hc hM (by omega) (by omega) hW hS hL k1 k2 a1.1 a1.2 (Nat.le_trans hbnd.1 hRc) (Nat.le_trans hbnd.2 hRz) (by omega)) hS (c2 := w1.2.1 - c0) (z2 := w1.2.2 - z0) (by show w.2.1 - c0 + (w1.2.1 - w.2.1) = _; omega) (by show w.2.2 - z0 + (w1.2.2 - w.2.2) = _; omega) (fun k ce q9 H1 locs1 hk6 hk hW1 hS1 hq9 hv9 hcl9 => ?_) (fun u H1 locs1 hu => by cases hu)
              cases hk
              obtain ⟨hx, hb, hml, hown, hret, hlocks, hname, htab, hnt9⟩ := id X
              have hhk := mg_hok_at mi
              unfold mg_hok at hhk
              rw [Bool.and_eq_true] at hhk
              have hhl := Nat.eq_of_beq_eq_true hhk.1
              split at h
              · next hcau =>
                cases h
                have hx0 : mg_hx mi = [] := by
                  unfold mg_caught at hcau
                  split at hcau
                  · assumption
                  · split at hcau <;> cases hcau
                have hh0 : mg_hh mi = [] := List.eq_nil_of_length_eq_zero (by rw [hhl, hx0]; rfl)
                refine vx_out (E := mg_exc E) (ce := ce) (fun x hx9 => by rw [htab, hh0] at hx9; cases hx9) hlocks hq9 hv9 hcl9 (fun t ht hal => ⟨⟨E, hk6, rfl, rfl⟩, by rw [ht]; exact hW1, hS1.F ht⟩) hS1.2.2 (Nat.le_refl _) (Nat.le_refl _)
              · next q hcau =>
                have hfz : ∃ z, (mg_hx mi).find? (mg_fnd pc0 E) = some z ∧ mg_nxt mi z.2.2.1 = some q := by
                  unfold mg_caught at hcau
                  split at hcau
                  · cases hcau
                  · split at hcau
                    · next z hz => exact ⟨z, hz, Option.some.inj hcau⟩
                    · cases hcau
                obtain ⟨z, hz, hzn⟩ := hfz
                obtain ⟨pre, x, suf, q4, t1, t2, t3, t4, t5, t6⟩ := mg_split_table (mg_hh mi) (mg_hx mi) hhl hhk.2 z hz
                unfold mg_h1 at t2
                simp only [Bool.and_eq_true, Bool.not_eq_true'] at t2
                obtain ⟨⟨⟨⟨⟨⟨g1, g2⟩, g3⟩, g4⟩, g5⟩, g6⟩, g7⟩ := t2
                have e3 := Nat.eq_of_beq_eq_true g3
                have e3 : q4.2.2.1 = z.2.2.1 := e3
                have t5 : z.2.2.2.1 = E := t5
                rw [e3, hzn] at g7
                dsimp only at g6
                rw [t5] at g6
                have hnc := V.2.2.2.1
                refine vx_catch (own := mg_own mi) (name := mg_exc E) (E := mg_exc E) hown pre x suf (by rw [htab]; exact t1) (fun y hy => ?_) t4 (fun h0 => ?_) (by rw [t3]; exact V.1.use g6 args) (V.1.useM (mg_cast hk6) args) hq9 hv9 hcl9 ?_
                · rcases t6 y hy with h9 | ⟨h8, F, p9, hF6, hFE, hw9⟩
                  · exact Or.inl h9
                  · exact Or.inr ⟨h8, mg_exc F, V.1.use hw9 args, hnc E F hk6 hF6 (fun q => hFE q.symm)⟩
                · rw [t3] at h0
                  have h0 : q4.2.2.2 = 0 := h0
                  rw [h0] at g5
                  cases g5
                · have hxh : x.handlerPc = z.2.2.1 := by rw [t3]; exact e3
                  rw [hxh]
                  have k9 := ih (d + 1) mi q.2 ((mg_kill loc q.1).set q.1 none) [] w1 r h (p := p) (e := e) (R := R) (s := s) (m := m) (args := args) (below := below) (meth := meth) (c := c) (c0 := c0) (z0 := z0) X V hRf hRl hRc hRz H1 locs1
                  split at g7
                  · next hh k len9 o9 k' h' hat heq =>
                    cases heq
                    simp only [Bool.and_eq_true] at g7
                    obtain ⟨⟨⟨u0, u1⟩, u2⟩, u3⟩ := g7
                    obtain ⟨hp9, hck9⟩ := mg_ok hat
                    have hd9 := (mg_chk_at hck9).1 rfl
                    have v1 := Nat.eq_of_beq_eq_true u1
                    have v2 := Nat.eq_of_beq_eq_true u2
                    have hp9 : hh = z.2.2.1 := hp9
                    subst hp9
                    subst v1
                    subst v2
                    exact lv_astore (lv := mg_lv b n0 loc) hx hb hd9 hL.has (by rwa [Nat.blt_eq] at u3) rfl (fun ls' h' => k9 ls' hW1 hS1 (hL.forget1 h') (by omega) (by omega))
                  · next hh k len9 o9 k' h' hat heq =>
                    cases heq
                    simp only [Bool.and_eq_true] at g7
                    obtain ⟨⟨⟨u0, u1⟩, u2⟩, u3⟩ := g7
                    obtain ⟨hp9, hck9⟩ := mg_ok hat
                    have hd9 := (mg_chk_at hck9).1 rfl
                    have v1 := Nat.eq_of_beq_eq_true u1
                    have v2 := Nat.eq_of_beq_eq_true u2
                    have hp9 : hh = z.2.2.1 := hp9
                    subst hp9
                    subst v1
                    subst v2
                    exact lv_astore_n (lv := mg_lv b n0 loc) hx hb hd9 rfl hL.has (by rwa [Nat.blt_eq] at u3) rfl (fun ls' h' => k9 ls' hW1 hS1 (hL.forget1 h') (by omega) (by omega))
                  · cases g7
              · cases h
            · cases h
      · split at h
        · next r9 h9 =>
          cases h
          exact mg_end_sound X V hchk h9 (by omega) (by omega) hRc hRz
        · split at h
          · next pc' loc' st' w' h9 =>
            have a2 := mg_run_mono _ _ _ _ _ _ _ _ h
            exact mg_step_sound X V hchk h9 (by omega) (by omega) (Nat.le_trans a2.1 hRc) (Nat.le_trans a2.2 hRz) (ih d mi pc' loc' st' w' r h X V hRf hRl hRc hRz)
          · cases h
end MGA
