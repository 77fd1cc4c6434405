section MGA
variable {b n0 : Nat} {dT : Nat → ClassId} {D : va_G} {sc : mg_Sc} {l : Launch}
set_option maxHeartbeats 4000000 in
theorem mg_sound (hnt : l.stackTraces = false) : ∀ (n d mi pc : Nat) (loc : mg_L) (st : List Value) (w : mg_S) (r : mg_R), mg_run sc n d mi pc loc st w = some r →
    ∀ {p : Program} {e : Env} {R : Room} {s : State} {m : MethodId} {args : Array Value} {below : List Frame} {meth : Method} {c : Code} {c0 z0 : Nat}, mg_X p l s m meth c mi → mg_V b n0 dT D sc c0 s → d + 7 ≤ R.frames → 60 * d + 200 ≤ R.locals → r.2.2.1 ≤ c0 + R.cells → r.2.2.2 ≤ z0 + R.slots →
      mg_K p l e R s m args below meth c (vx_MQ below (mg_Qc b n0 dT D r) (mg_XC b n0 dT D r) args s (r.2.2.1 - c0) (r.2.2.2 - z0) (fun q => n0 ≤ q)) b n0 dT D (mg_mlen mi) c0 z0 pc loc st w := by
  intro n
  induction n with
  | zero => intro d mi pc loc st w r h; cases h
  | succ n ih =>
    intro d mi pc loc st w r h p e R s m args below meth c c0 z0 X V hRf hRl hRc hRz
    have hmono := mg_run_mono _ _ _ _ _ _ _ _ h
    unfold mg_run at h
    split at h
    · cases h
    · next e9 he9 =>
      obtain ⟨pc0, ins, len, o⟩ := e9
      obtain ⟨hpc, hchk⟩ := mg_ok he9
      have hpc : pc0 = pc := hpc
      subst hpc
      split at h
      · next y as r9 hc =>
        obtain ⟨⟨n9, st9, hm9⟩, hcat⟩ := mg_call_facts hchk hc
        split at h
        · cases h
        · next d =>
          split at h
          · cases h
          · next hlen =>
            have hlen : as.length ≤ mg_mlen y := Nat.le_of_not_lt hlen
            split at h
            · next v w1 h1 =>
              have a1 := mg_run_mono _ _ _ _ _ _ _ _ h1
              have a2 := mg_run_mono _ _ _ _ _ _ _ _ h
              have hM := mg_met_of (b := b) (n0 := n0) (dT := dT) (D := D) (sc := sc) (l := l) (d := d) hm9 hnt hcat hlen a1.1 a1.2 (fun hX hV q1 q2 q3 q4 => ih d y 0 (mg_entry y as) [] w (.inl v, w1) h1 hX hV q1 q2 q3 q4)
              intro H locs ls hW hS hL k1 k2
              refine mg_size fun hup => ?_
              have a11 : w.2.1 ≤ w1.2.1 := a1.1
              have a12 : w.2.2 ≤ w1.2.2 := a1.2
              have hV9 : s.heap.size ≤ n0 + c0 := V.2.2.2.2.2.2.2.2.2
              refine mg_callW (mg_call_run X V hchk (loc := loc) hc hM (by omega) (by omega) hW hS hL k1 k2 a1.1 a1.2 (Nat.le_trans a2.1 hRc) (Nat.le_trans a2.2 hRz) (by omega)) hS (c2 := w1.2.1 - c0) (z2 := w1.2.2 - z0) (by show w.2.1 - c0 + (w1.2.1 - w.2.1) = _; omega) (by show w.2.2 - z0 + (w1.2.2 - w.2.2) = _; omega) (fun k ce q9 H1 locs1 _ hk => by cases hk) (fun u H1 locs1 hu hW1 hS1 => ?_)
              cases hu
              have k9 := ih (d + 1) mi (pc0 + 3) loc (v.toList ++ r9) w1 r h (p := p) (e := e) (R := R) (s := s) (m := m) (args := args) (below := below) (meth := meth) (c := c) (c0 := c0) (z0 := z0) X V hRf hRl hRc hRz H1 locs1 ls hW1 hS1 hL (by omega) (by omega)
              have e5 : (v.toList ++ r9).map (mg_cv b n0) = (v.map (mg_cv b n0)).toList ++ r9.map (mg_cv b n0) := by
                rw [List.map_append]
                cases v <;> rfl
              rw [e5] at k9
              exact k9
            · next E w1 h1 =>
              have a1 := mg_run_mono _ _ _ _ _ _ _ _ h1
              have hM := mg_met_of (b := b) (n0 := n0) (dT := dT) (D := D) (sc := sc) (l := l) (d := d) hm9 hnt hcat hlen a1.1 a1.2 (fun hX hV q1 q2 q3 q4 => ih d y 0 (mg_entry y as) [] w (.inr E, w1) h1 hX hV q1 q2 q3 q4)
              intro H locs ls hW hS hL k1 k2
              refine mg_size fun hup => ?_
              have a11 : w.2.1 ≤ w1.2.1 := a1.1
              have a12 : w.2.2 ≤ w1.2.2 := a1.2
              have hV9 : s.heap.size ≤ n0 + c0 := V.2.2.2.2.2.2.2.2.2
              have hbnd : w1.2.1 ≤ r.2.2.1 ∧ w1.2.2 ≤ r.2.2.2 := by
                split at h
                · cases h; exact ⟨Nat.le_refl _, Nat.le_refl _⟩
                · exact mg_run_mono _ _ _ _ _ _ _ _ h
                · cases h
              refine mg_callW (mg_call_run X V hchk (loc := loc) hc hM (by omega) (by omega) hW hS hL k1 k2 a1.1 a1.2 (Nat.le_trans hbnd.1 hRc) (Nat.le_trans hbnd.2 hRz) (by omega)) hS (c2 := w1.2.1 - c0) (z2 := w1.2.2 - z0) (by show w.2.1 - c0 + (w1.2.1 - w.2.1) = _; omega) (by show w.2.2 - z0 + (w1.2.2 - w.2.2) = _; omega) (fun k ce q9 H1 locs1 hk6 hk hW1 hS1 hq9 hv9 hcl9 => ?_) (fun u H1 locs1 hu => by cases hu)
              cases hk
              obtain ⟨hx, hb, hml, hown, hret, hlocks, hname, htab, hnt9⟩ := id X
              have hhk := mg_hok_at mi
              unfold mg_hok at hhk
              rw [Bool.and_eq_true] at hhk
              have hhl := Nat.eq_of_beq_eq_true hhk.1
              split at h
              · next hcau =>
                cases h
                have hx0 : mg_hx mi = [] := by
                  unfold mg_caught at hcau
                  split at hcau
                  · assumption
                  · split at hcau <;> cases hcau
                have hh0 : mg_hh mi = [] := List.eq_nil_of_length_eq_zero (by rw [hhl, hx0]; rfl)
                refine vx_out (E := mg_exc E) (ce := ce) (fun x hx9 => by rw [htab, hh0] at hx9; cases hx9) hlocks hq9 hv9 hcl9 (fun t ht hal => ⟨⟨E, hk6, rfl, rfl⟩, by rw [ht]; exact hW1, hS1.F ht⟩) hS1.2.2 (Nat.le_refl _) (Nat.le_refl _)
              · next q hcau =>
                have hfz : ∃ z, (mg_hx mi).find? (mg_fnd pc0 E) = some z ∧ mg_nxt mi z.2.2.1 = some q := by
                  unfold mg_caught at hcau
                  split at hcau
                  · cases hcau
                  · split at hcau
                    · next z hz => exact ⟨z, hz, Option.some.inj hcau⟩
                    · cases hcau
                obtain ⟨z, hz, hzn⟩ := hfz
                obtain ⟨pre, x, suf, q4, t1, t2, t3, t4, t5, t6⟩ := mg_split_table (mg_hh mi) (mg_hx mi) hhl hhk.2 z hz
                unfold mg_h1 at t2
                simp only [Bool.and_eq_true, Bool.not_eq_true'] at t2
                obtain ⟨⟨⟨⟨⟨⟨g1, g2⟩, g3⟩, g4⟩, g5⟩, g6⟩, g7⟩ := t2
                have e3 := Nat.eq_of_beq_eq_true g3
                have e3 : q4.2.2.1 = z.2.2.1 := e3
                have t5 : z.2.2.2.1 = E := t5
                rw [e3, hzn] at g7
                try dsimp only at g6
                rw [t5] at g6
                have hnc := V.2.2.2.1
                refine vx_catch (own := mg_own mi) (name := mg_exc E) (E := mg_exc E) hown pre x suf (by rw [htab]; exact t1) (fun y hy => ?_) t4 (fun h0 => ?_) (by rw [t3]; exact V.1.use g6 args) (V.1.useM (mg_cast hk6) args) hq9 hv9 hcl9 ?_
                · rcases t6 y hy with h9 | ⟨h8, F, p9, hF6, hFE, hw9⟩
                  · exact Or.inl h9
                  · exact Or.inr ⟨h8, mg_exc F, V.1.use hw9 args, hnc E F hk6 hF6 (fun q => hFE q.symm)⟩
                · rw [t3] at h0
                  have h0 : q4.2.2.2 = 0 := h0
                  rw [h0] at g5
                  cases g5
                · have hxh : x.handlerPc = z.2.2.1 := by rw [t3]; exact e3
                  rw [hxh]
                  have k9 := ih (d + 1) mi q.2 ((mg_kill loc q.1).set q.1 none) [] w1 r h (p := p) (e := e) (R := R) (s := s) (m := m) (args := args) (below := below) (meth := meth) (c := c) (c0 := c0) (z0 := z0) X V hRf hRl hRc hRz H1 locs1
                  split at g7
                  · next hh k len9 o9 k' h' hat heq =>
                    cases heq
                    simp only [Bool.and_eq_true] at g7
                    obtain ⟨⟨⟨u0, u1⟩, u2⟩, u3⟩ := g7
                    obtain ⟨hp9, hck9⟩ := mg_ok hat
                    have hd9 := (mg_chk_at hck9).1 rfl
                    have v1 := Nat.eq_of_beq_eq_true u1
                    have v2 := Nat.eq_of_beq_eq_true u2
                    have hp9 : hh = z.2.2.1 := hp9
                    subst hp9
                    subst v1
                    subst v2
                    exact lv_astore (lv := mg_lv b n0 loc) hx hb hd9 hL.has (by rwa [Nat.blt_eq] at u3) rfl (fun ls' h' => k9 ls' hW1 hS1 (hL.forget1 h') (by omega) (by omega))
                  · next hh k len9 o9 k' h' hat heq =>
                    cases heq
                    simp only [Bool.and_eq_true] at g7
                    obtain ⟨⟨⟨u0, u1⟩, u2⟩, u3⟩ := g7
                    obtain ⟨hp9, hck9⟩ := mg_ok hat
                    have hd9 := (mg_chk_at hck9).1 rfl
                    have v1 := Nat.eq_of_beq_eq_true u1
                    have v2 := Nat.eq_of_beq_eq_true u2
                    have hp9 : hh = z.2.2.1 := hp9
                    subst hp9
                    subst v1
                    subst v2
                    exact lv_astore_n (lv := mg_lv b n0 loc) hx hb hd9 rfl hL.has (by rwa [Nat.blt_eq] at u3) rfl (fun ls' h' => k9 ls' hW1 hS1 (hL.forget1 h') (by omega) (by omega))
                  · cases g7
              · cases h
            · cases h
      · split at h
        · next r9 h9 =>
          cases h
          exact mg_end_sound X V hchk h9 (by omega) (by omega) hRc hRz
        · split at h
          · next pc' loc' st' w' h9 =>
            have a2 := mg_run_mono _ _ _ _ _ _ _ _ h
            exact mg_step_sound X V hchk h9 (by omega) (by omega) (Nat.le_trans a2.1 hRc) (Nat.le_trans a2.2 hRz) (ih d mi pc' loc' st' w' r h X V hRf hRl hRc hRz)
          · cases h
end MGA
