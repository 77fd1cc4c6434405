/-! FROM THE LAW'S RUN TO THE CLAIM -/
theorem mg_arr_of {args : Array Value} {s : State} {ty : FieldType} (h : (Cond.arrayClass ty).before args s = true) (hno : ∀ C, ty ≠ .object C) : ∃ cA : ClassId, ArrOfT s cA ty ∧ va_RA s cA ty := by
  obtain ⟨cA, kA, comp, h1, h2, h3⟩ := Cond.arrayClass_spec h
  refine ⟨cA, fun n z => ⟨fun k hk => (by cases hk), kA, h2, comp, h3⟩, ?_⟩
  unfold va_RA
  cases ty <;> first | exact h1 | exact absurd rfl (hno _)
theorem mg_str_of {args : Array Value} {s : State} {own tx : String} {k : Nat} (h : (Cond.stringRef own k tx).before args s = true) : ∃ a, vk_R own k tx a s := by
  cases hc : s.vm.findClass own with
  | none => simp [Cond.before, Cond.holds, Cond.value, hc] at h
  | some cur =>
    obtain ⟨_, _, _, a, _, _, _, _, _, h6⟩ := Cond.stringRef_spec hc h
    exact ⟨a, vk_R.of h h6⟩
def mg_ncs : List Jvm.Cond := (List.range 6).flatMap fun E => ((List.range 6).filter fun F => E != F).map fun F => .not (.castable (mg_exc E) (mg_exc F))
set_option maxRecDepth 100000 in
theorem mg_ncs_in : ∀ w ∈ mg_ncs, w ∈ flatC (Jvm.Cond.and given_1 narrow_1) := by decide +kernel
set_option maxHeartbeats 4000000 in
theorem mg_V_start {s : State} {b L : Nat} {xs : Nat → Int32} (hts : ∀ w ∈ lw_tbl, w.before #[Value.ref b] s = true) (hX : va_X b L xs s s.heap) (hbl : b < s.heap.size) (hgv : (Jvm.Cond.and given_1 narrow_1).before #[Value.ref b] s = true) :
    ∃ (dT : Nat → ClassId) (D : va_G), mg_V b s.heap.size dT D (L, xs) 0 s := by
  have hfl := flat_of_before _ hgv
  obtain ⟨a0, hA0⟩ := mg_arr_of (hts (.arrayClass .int) (by decide +kernel)) (fun _ h => by cases h)
  obtain ⟨a1, hA1⟩ := mg_arr_of (hts (.arrayClass .char) (by decide +kernel)) (fun _ h => by cases h)
  obtain ⟨a2, hA2⟩ := mg_arr_of (hts (.arrayClass .long) (by decide +kernel)) (fun _ h => by cases h)
  obtain ⟨a3, hA3⟩ := mg_arr_of (hts (.arrayClass .double) (by decide +kernel)) (fun _ h => by cases h)
  obtain ⟨c0, i0, k0⟩ := u_known (C := RX0) (T := TX0) (N := 5) (n := 5) hts (fun w hw => (mg_uw0 w hw).1) (hts (.instantiable RX0 5) (by decide +kernel))
  obtain ⟨c1, i1, k1⟩ := u_known (C := RX1) (T := TX1) (N := 2) (n := 2) hts (fun w hw => (mg_uw1 w hw).1) (hts (.instantiable RX1 2) (by decide +kernel))
  obtain ⟨c2, i2, k2⟩ := u_known (C := RX2) (T := TX2) (N := 5) (n := 5) hts (fun w hw => (mg_uw2 w hw).1) (hts (.instantiable RX2 5) (by decide +kernel))
  obtain ⟨c3, i3, k3⟩ := u_known (C := RX3) (T := TX3) (N := 1) (n := 1) hts (fun w hw => (mg_uw3 w hw).1) (hts (.instantiable RX3 1) (by decide +kernel))
  obtain ⟨c4, i4, k4⟩ := u_known (C := RX4) (T := TX4) (N := 4) (n := 4) hts (fun w hw => (mg_uw4 w hw).1) (hts (.instantiable RX4 4) (by decide +kernel))
  obtain ⟨c5, i5, k5⟩ := u_known (C := RX5) (T := TX5) (N := 4) (n := 4) hts (fun w hw => (mg_uw5 w hw).1) (hts (.instantiable RX5 4) (by decide +kernel))
  obtain ⟨c6, i6, k6⟩ := u_known (C := RX6) (T := TX6) (N := 5) (n := 5) hts (fun w hw => (mg_uw6 w hw).1) (hts (.instantiable RX6 5) (by decide +kernel))
  obtain ⟨c7, i7, k7⟩ := u_known (C := RX7) (T := TX7) (N := 10) (n := 10) hts (fun w hw => (mg_uw7 w hw).1) (hts (.instantiable RX7 10) (by decide +kernel))
  obtain ⟨c8, i8, k8⟩ := u_known (C := RX8) (T := TX8) (N := 16) (n := 16) hts (fun w hw => (mg_uw8 w hw).1) (hts (.instantiable RX8 16) (by decide +kernel))
  refine ⟨fun k => match k with | 0 => a0 | 1 => a1 | 2 => a2 | _ => a3, (fun k => match k with | 0 => c0 | 1 => c1 | 2 => c2 | 3 => c3 | 4 => c4 | 5 => c5 | 6 => c6 | 7 => c7 | _ => c8, fun k => match k with | 0 => i0 | 1 => i1 | 2 => i2 | 3 => i3 | 4 => i4 | 5 => i5 | 6 => i6 | 7 => i7 | _ => i8), ?_, ⟨?_, ?_⟩, ?_, ?_, ?_, ?_, hX, hbl, Nat.le_refl _, Nat.le_refl _⟩
  · intro w hw ht
    by_cases hg : goodWord w = true
    · exact word_at (State.WarmedH.refl s) (good_of_word hg) (hts w hw)
    · have h1 := hts w hw
      unfold mg_tw at ht
      rw [Bool.not_eq_true] at hg
      rw [hg] at ht
      cases w <;> first | exact va_Nw.of rfl h1 | exact absurd ht (by simp)
  · intro c q hq
    match c, hq with
    | 0, hq => cases hq; exact k0
    | 1, hq => cases hq; exact k1
    | 2, hq => cases hq; exact k2
    | 3, hq => cases hq; exact k3
    | 4, hq => cases hq; exact k4
    | 5, hq => cases hq; exact k5
    | 6, hq => cases hq; exact k6
    | 7, hq => cases hq; exact k7
    | 8, hq => cases hq; exact k8
    | c + 9, hq => cases hq
  · intro k q hq
    match k, hq with
    | 0, hq => cases hq; exact hA0
    | 1, hq => cases hq; exact hA1
    | 2, hq => cases hq; exact hA2
    | 3, hq => cases hq; exact hA3
    | k + 4, hq => cases hq
  · intro p own k tx hp
    exact mg_str_of (hts _ (List.mem_of_getElem? hp))
  · intro E F hE hF hne
    refine va_Nc.of (hfl _ (mg_ncs_in _ ?_))
    unfold mg_ncs
    refine List.mem_flatMap.mpr ⟨E, List.mem_range.mpr hE, List.mem_map.mpr ⟨F, List.mem_filter.mpr ⟨List.mem_range.mpr hF, bne_iff_ne.mpr hne⟩, rfl⟩⟩
  · exact vx_Zqof (hts (.laysStatic Bundle.tN "UNASSIGNED_STACK" Bundle.steD) (by decide +kernel)) (hts (.initialized Bundle.tN) (by decide +kernel)) (hfl _ (by decide +kernel)) (fun a ha => Nat.not_le.mpr ha)
  · exact vx_Zqof (hts (.laysStatic Bundle.tN "SUPPRESSED_SENTINEL" Bundle.listD) (by decide +kernel)) (hts (.initialized Bundle.tN) (by decide +kernel)) (hfl _ (by decide +kernel)) (fun a ha => Nat.not_le.mpr ha)
