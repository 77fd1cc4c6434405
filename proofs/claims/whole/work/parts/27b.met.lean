section MGA
variable {b n0 : Nat} {dT : Nat → ClassId} {D : va_G} {sc : mg_Sc} {l : Launch}
theorem mg_args_mem {vs : List Value} (hc : ∀ v ∈ vs, ¬ v.category = 2) : ∀ (i k : Nat) (v : Value), vs[i]? = some v → (k + i, v) ∈ lv_args k vs := by
  induction vs with
  | nil => intro i k v h; simp at h
  | cons a t ih =>
    intro i k v h
    have ha : ¬ a.category = 2 := hc a List.mem_cons_self
    unfold lv_args
    rw [if_neg ha]
    cases i with
    | zero =>
      rw [List.getElem?_cons_zero] at h
      cases h
      exact List.mem_cons_self
    | succ i =>
      rw [List.getElem?_cons_succ] at h
      have := ih (fun v hv => hc v (List.mem_cons_of_mem _ hv)) i (k + 1) v h
      rw [show k + (i + 1) = k + 1 + i by omega]
      exact List.mem_cons_of_mem _ this
theorem mg_sl_len {vs : List Value} (hc : ∀ v ∈ vs, ¬ v.category = 2) : (lg_sl vs).length = vs.length := by
  induction vs with
  | nil => rfl
  | cons a t ih =>
    have ha : ¬ a.category = 2 := hc a List.mem_cons_self
    have h2 := ih (fun v hv => hc v (List.mem_cons_of_mem _ hv))
    unfold lg_sl at h2 ⊢
    rw [List.flatMap_cons, if_neg ha, List.length_append, h2]
    simp [Nat.add_comm]
theorem mg_entry_Lo {y : Nat} {as : List Value} (hc : mg_cat1 as = true) (hl : as.length ≤ mg_mlen y) : mg_Lo b n0 ((lg_sl (as.map (mg_cv b n0)) ++ List.replicate (mg_mlen y - (lg_sl (as.map (mg_cv b n0))).length) Slot.unset).toArray) (mg_mlen y) (mg_entry y as) := by
  have hc' : ∀ v ∈ as.map (mg_cv b n0), ¬ v.category = 2 := by
    intro v hv
    obtain ⟨u, hu, rfl⟩ := List.mem_map.mp hv
    rw [mg_cv_cat]
    have := Nat.eq_of_beq_eq_true (List.all_eq_true.mp hc u hu)
    omega
  have h := lv_entry (as.map (mg_cv b n0)) (n := mg_mlen y) (by rw [mg_sl_len hc', List.length_map]; exact hl)
  refine ⟨h.1, h.2.1, ?_, fun i v hi => ?_⟩
  · unfold mg_entry
    rw [List.length_append, List.length_map, List.length_replicate]
    omega
  · unfold mg_entry at hi
    by_cases hil : i < as.length
    · rw [List.getElem?_append_left (by rw [List.length_map]; exact hil), List.getElem?_map] at hi
      obtain ⟨u, hu, he⟩ := Option.map_eq_some_iff.mp hi
      cases he
      have h2 := mg_args_mem hc' i 0 (mg_cv b n0 v) (by rw [List.getElem?_map, hu]; rfl)
      rw [Nat.zero_add] at h2
      exact h.2.2 _ h2
    · rw [List.getElem?_append_right (by rw [List.length_map]; omega), List.getElem?_replicate] at hi
      split at hi <;> cases hi
/-- from the body to the contract -/
theorem mg_met_of {d y n9 : Nat} {st9 : Bool} {as : List Value} {w : mg_S} {r : mg_R} (hm : mg_mchk y n9 st9 = true) (hnt : l.stackTraces = false) (hc : mg_cat1 as = true) (hl : as.length ≤ mg_mlen y) (hm1 : w.2.1 ≤ r.2.2.1) (hm2 : w.2.2 ≤ r.2.2.2)
    (S : ∀ {p : Program} {e : Env} {R : Room} {s : State} {m : MethodId} {args : Array Value} {below : List Frame} {meth : Method} {c : Code} {c0 z0 : Nat}, mg_X p l s m meth c y → mg_V b n0 dT D sc c0 s → d + 7 ≤ R.frames → 60 * d + 200 ≤ R.locals → r.2.2.1 ≤ c0 + R.cells → r.2.2.2 ≤ z0 + R.slots →
      mg_K p l e R s m args below meth c (vx_MQ below (mg_Qc b n0 dT D r) (mg_XC b n0 dT D r) args s (r.2.2.1 - c0) (r.2.2.2 - z0) (fun q => n0 ≤ q)) b n0 dT D (mg_mlen y) c0 z0 0 (mg_entry y as) [] w) : mg_Met b n0 dT D sc l d y as w r := by
  unfold mg_Met
  have hpn := (mg_mchk_spec hm).2.2.2.2.2
  have body : ∀ (p : Program) (e : Env) (s : State) (m : MethodId) (args : Array Value) (below : List Frame) (meth : Method) (c : Code), mg_X p l s m meth c y → mg_Pc b n0 dT D sc as w args s → W p l e (mg_rm d (r.2.2.1 - w.2.1) (r.2.2.2 - w.2.2)) s m args below meth c s.heap [] 0 0 (vx_MQ below (mg_Qc b n0 dT D r) (mg_XC b n0 dT D r) args s (r.2.2.1 - w.2.1) (r.2.2.2 - w.2.2) (fun q => n0 ≤ q)) (entryFrame m args (mg_mlen y)) := by
    intro p e s m args below meth c hX hP
    obtain ⟨rfl, hV, hWd⟩ := hP
    rw [lg_entry_eq]
    have K := S (p := p) (e := e) (R := mg_rm d (r.2.2.1 - w.2.1) (r.2.2.2 - w.2.2)) (s := s) (m := m) (args := (as.map (mg_cv b n0)).toArray) (below := below) (meth := meth) (c := c) (c0 := w.2.1) (z0 := w.2.2) hX hV (Nat.le_refl _) (Nat.le_refl _) (by show r.2.2.1 ≤ w.2.1 + (r.2.2.1 - w.2.1); omega) (by show r.2.2.2 ≤ w.2.2 + (r.2.2.2 - w.2.2); omega) s.heap [] _ hWd va_S.rf (mg_entry_Lo hc hl) (Nat.le_refl _) (Nat.le_refl _)
    rw [Nat.sub_self, Nat.sub_self] at K
    exact K
  by_cases hh : mg_hh y = []
  · rw [mg_code_hh hh]
    refine vx_ofW (cc := mg_B y) (maxL := mg_mlen y) (ret := mg_ret y) hpn rfl ?_
    intro p e s m args below meth c s₁ B hml htab hP
    refine body p e s m args below meth c ⟨B.exec, B.bytes, hml, findClass_of_methodNamed B.named, B.returns, B.notSynchronized, (name_of_methodNamed B.named B.method).1, ?_, hnt⟩ hP
    rw [hh]
    exact List.eq_nil_iff_forall_not_mem.mpr htab
  · rw [mg_code_hh2 hh]
    refine vx_ofWH (cc := mg_B y) (maxL := mg_mlen y) (ret := mg_ret y) (hh := mg_hh y) hpn rfl ?_
    intro p e s m args below meth c s₁ B hml hP
    have htab := vx_table (x := mg_N y) B (atoms_spec (ws := [Cond.codeWith (mg_N y) (mg_B y) (mg_mlen y) (mg_ret y) (mg_hh y)]) B.pre _ List.mem_cons_self)
    exact body p e s m args below meth c ⟨B.exec, B.bytes, hml, findClass_of_methodNamed B.named, B.returns, B.notSynchronized, (name_of_methodNamed B.named B.method).1, htab, hnt⟩ hP
theorem mg_call_facts {mi pc : Nat} {ins : Instr} {len : Nat} {o : List Nat} (hchk : mg_chk mi (pc, ins, len, o) = true) {st : List Value} {w : mg_S} {y : Nat} {as r : List Value} (hc : mg_call mg_cls (pc, ins, len, o) st w = some (y, as, r)) : (∃ n st9, mg_mchk y n st9 = true) ∧ mg_cat1 as = true := by
  obtain ⟨hd1, hd2, hrest⟩ := mg_chk_at hchk
  cases ins with
  | invokevirtual idx =>
    unfold mg_call at hc
    dsimp only at hc
    split at hc
    · next y9 n pl =>
      split at hc
      · split at hc
        · next hcond =>
          cases hc
          have hr2 : (mg_hasw pl (.methodLink (mg_own mi) idx (mg_N y)) && mg_mchk y n false && mg_hasw (mg_pl y 3) (.selects (mg_own y) (mg_N y) (mg_N y)) && decide (mg_hh y = []) && decide ((mg_cl[mg_cls y]?).map (fun q => q.1) = some (mg_own y))) = true := hrest
          simp only [Bool.and_eq_true] at hr2
          exact ⟨⟨n, false, hr2.1.1.1.2⟩, hcond.2.2⟩
        · cases hc
      · cases hc
    · cases hc
  | invokestatic idx =>
    unfold mg_call at hc
    dsimp only at hc
    split at hc
    · next k9 y9 n pl =>
      split at hc
      · split at hc
        · split at hc
          · next hcond =>
            cases hc
            have hr2 : (match (generalizing := false) k9 with
              | 0 => mg_hasw pl (.methodLink (mg_own mi) idx (mg_N y)) && decide (mg_hh y = [])
              | 1 => mg_hasw pl (.methodLinkNest (mg_own mi) idx (mg_N y) "CustomsDesk") && decide (mg_hh y = [])
              | 2 => mg_hasw pl (.methodLink (mg_own mi) idx (mg_N y)) && decide (mg_hh y ≠ [])
              | _ => false) = true ∧ mg_mchk y n true = true := by
              have h9 : ((match (generalizing := false) k9 with
              | 0 => mg_hasw pl (.methodLink (mg_own mi) idx (mg_N y)) && decide (mg_hh y = [])
              | 1 => mg_hasw pl (.methodLinkNest (mg_own mi) idx (mg_N y) "CustomsDesk") && decide (mg_hh y = [])
              | 2 => mg_hasw pl (.methodLink (mg_own mi) idx (mg_N y)) && decide (mg_hh y ≠ [])
              | _ => false) && mg_mchk y n true) = true := hrest
              rwa [Bool.and_eq_true] at h9
            exact ⟨⟨n, true, hr2.2⟩, hcond.2⟩
          · cases hc
        · cases hc
      · cases hc
    · cases hc
  | invokespecial idx =>
    unfold mg_call at hc
    dsimp only at hc
    split at hc
    · next k9 y9 n pl =>
      split at hc
      · split at hc
        · split at hc
          · next hcond =>
            cases hc
            have h9 : ((match (generalizing := false) k9 with
              | 0 => mg_hasw pl (.methodLink (mg_own mi) idx (mg_N y))
              | 1 => mg_hasw pl (.methodLinkNest (mg_own mi) idx (mg_N y) "CustomsDesk")
              | _ => false) && mg_mchk y n false && decide (mg_hh y = []) && decide ((mg_N y).name = "<init>") && decide (mg_ret y = none) && decide ((mg_cl[mg_cls y]?).map (fun q => q.1) = some (mg_own y))) = true := hrest
            simp only [Bool.and_eq_true] at h9
            exact ⟨⟨n, false, h9.1.1.1.1.2⟩, hcond.2.2⟩
          · cases hc
        · cases hc
      · cases hc
    · cases hc
  | _ => cases hc
end MGA
