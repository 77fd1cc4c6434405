/-! ONE STEP OF THE SMALL MACHINE IS ONE OF THE REAL ONE's -/
theorem mg_chk_at {mi pc : Nat} {ins : Instr} {len : Nat} {o : List Nat} (h : mg_chk mi (pc, ins, len, o) = true) : (mg_isSw ins = false → decode (mg_B mi) pc = .ok (ins, mg_len ins)) ∧ decode (mg_B mi) pc = .ok (ins, len) ∧ mg_rest mi pc ins o = true := by
  unfold mg_chk at h
  simp only [Bool.and_eq_true, decide_eq_true_eq, Bool.or_eq_true] at h
  obtain ⟨⟨h1, h2⟩, h3⟩ := h
  refine ⟨fun hs => ?_, h1, h3⟩
  rcases h2 with h2 | h2
  · rw [hs] at h2; cases h2
  · rw [← Nat.eq_of_beq_eq_true h2]; exact h1
theorem mg_ldI_spec {loc : mg_L} {i : Nat} {v : Value} (h : mg_ldI loc i = some v) : ∃ x, v = .int x ∧ loc[i]? = some (some (.int x)) := by
  unfold mg_ldI at h
  split at h
  · next x hx => cases h; exact ⟨x, rfl, hx⟩
  · cases h
theorem mg_ldA_spec {loc : mg_L} {i : Nat} {v : Value} (h : mg_ldA loc i = some v) : ∃ x, v = .ref x ∧ loc[i]? = some (some (.ref x)) := by
  unfold mg_ldA at h
  split at h
  · next x hx => cases h; exact ⟨x, rfl, hx⟩
  · cases h
theorem mg_ldF_spec {loc : mg_L} {i : Nat} {v : Value} (h : mg_ldF loc i = some v) : ∃ x, v = .float x ∧ loc[i]? = some (some (.float x)) := by
  unfold mg_ldF at h
  split at h
  · next x hx => cases h; exact ⟨x, rfl, hx⟩
  · cases h
theorem mg_ldD_spec {loc : mg_L} {i : Nat} {v : Value} (h : mg_ldD loc i = some v) : ∃ x, v = .double x ∧ loc[i]? = some (some (.double x)) := by
  unfold mg_ldD at h
  split at h
  · next x hx => cases h; exact ⟨x, rfl, hx⟩
  · cases h
theorem mg_st_len {st : List Value} {n : Nat} (h : st.length ≤ n) : (st.map fun v => v.category).sum ≤ 2 * n := by
  induction st generalizing n with
  | nil => exact Nat.zero_le _
  | cons v r ih =>
    cases n with
    | zero => simp at h
    | succ n =>
      have h2 := ih (n := n) (by simpa using h)
      have h3 : v.category ≤ 2 := by cases v <;> simp [Value.category]
      simp only [List.map_cons, List.sum_cons]
      omega
theorem mg_st_cat (b n0 : Nat) (st : List Value) : ((st.map (mg_cv b n0)).map fun v => v.category) = st.map fun v => v.category := by
  rw [List.map_map]
  apply List.map_congr_left
  intro v _
  exact mg_cv_cat v
def mg_tys (dT : Nat → ClassId) : List (ClassId × FieldType) := [(dT 0, .int), (dT 1, .char), (dT 2, .long), (dT 3, .double)]
/-- what the tables, the statics and the script are, at a state -/
def mg_V (b n0 : Nat) (dT : Nat → ClassId) (D : va_G) (sc : mg_Sc) (c0 : Nat) (U : State) : Prop :=
  mg_Tb U ∧ va_K D mg_cl (mg_tys dT) U ∧ (∀ (p : Nat) (own : String) (k : Nat) (tx : String), lw_tbl[p]? = some (.stringRef own k tx) → ∃ a, vk_R own k tx a U) ∧
  (∀ E F : Nat, E < 6 → F < 6 → E ≠ F → va_Nc (mg_exc E) (mg_exc F) U) ∧ vx_Zq Bundle.tN "UNASSIGNED_STACK" Bundle.steD (fun q => n0 ≤ q) U U.heap ∧ vx_Zq Bundle.tN "SUPPRESSED_SENTINEL" Bundle.listD (fun q => n0 ≤ q) U U.heap ∧
  va_X b sc.1 sc.2 U U.heap ∧ b < n0 ∧ n0 ≤ U.heap.size ∧ U.heap.size ≤ n0 + c0
def mg_Wd (b n0 : Nat) (dT : Nat → ClassId) (D : va_G) (w : mg_S) (H : Heap) : Prop := va_P D mg_cl (mg_ws b n0 dT w.1) H ∧ w.1.length ≤ w.2.1
def mg_X (p : Program) (l : Launch) (s : State) (m : MethodId) (meth : Method) (c : Code) (mi : Nat) : Prop :=
  p.tables.exec = Jvm.exec ∧ c.code = mg_B mi ∧ c.maxLocals = mg_mlen mi ∧ s.vm.findClass (mg_own mi) = some m.cls ∧ meth.sig.returnType = mg_ret mi ∧ meth.locks = false ∧ meth.name = (mg_N mi).name ∧ c.exceptionTable.toList = tableOf (mg_hh mi) ∧ l.stackTraces = false
def mg_K (p : Program) (l : Launch) (e : Env) (R : Room) (s : State) (m : MethodId) (args : Array Value) (below : List Frame) (meth : Method) (c : Code) (Q : State → Prop) (b n0 : Nat) (dT : Nat → ClassId) (D : va_G) (nL c0 z0 : Nat) (pc : Nat) (loc : mg_L) (st : List Value) (w : mg_S) : Prop :=
  ∀ (H : Heap) (locs : List Loc) (ls : Array Slot), mg_Wd b n0 dT D w H → va_S (fun q => n0 ≤ q) s.heap H locs → mg_Lo b n0 ls nL loc → c0 ≤ w.2.1 → z0 ≤ w.2.2 → W p l e R s m args below meth c H locs (w.2.1 - c0) (w.2.2 - z0) Q (F0 m pc ls (st.map (mg_cv b n0)))
/-! the classes' words -/
theorem mg_uw0 : ∀ w ∈ u_ws RX0 TX0 5, w ∈ lw_tbl ∧ goodWord w = true := by decide +kernel
theorem mg_uw1 : ∀ w ∈ u_ws RX1 TX1 2, w ∈ lw_tbl ∧ goodWord w = true := by decide +kernel
theorem mg_uw2 : ∀ w ∈ u_ws RX2 TX2 5, w ∈ lw_tbl ∧ goodWord w = true := by decide +kernel
theorem mg_uw3 : ∀ w ∈ u_ws RX3 TX3 1, w ∈ lw_tbl ∧ goodWord w = true := by decide +kernel
theorem mg_uw4 : ∀ w ∈ u_ws RX4 TX4 4, w ∈ lw_tbl ∧ goodWord w = true := by decide +kernel
theorem mg_uw5 : ∀ w ∈ u_ws RX5 TX5 4, w ∈ lw_tbl ∧ goodWord w = true := by decide +kernel
theorem mg_uw6 : ∀ w ∈ u_ws RX6 TX6 5, w ∈ lw_tbl ∧ goodWord w = true := by decide +kernel
theorem mg_uw7 : ∀ w ∈ u_ws RX7 TX7 10, w ∈ lw_tbl ∧ goodWord w = true := by decide +kernel
theorem mg_uw8 : ∀ w ∈ u_ws RX8 TX8 16, w ∈ lw_tbl ∧ goodWord w = true := by decide +kernel
theorem mg_clw {ci : Nat} {q : vw_C} (h : mg_cl[ci]? = some q) : (∀ w ∈ u_ws q.1 q.2.1 q.2.2, w ∈ lw_tbl ∧ goodWord w = true) ∧ (∀ k, k < q.2.2 → parseFieldDescriptor (q.2.1 k).2.2.1 = some (mg_ty ci k)) ∧ (∀ a, a < q.2.2 → ∀ b, b < q.2.2 → a ≠ b → (q.2.1 a).2.1 ≠ (q.2.1 b).2.1) := by
  match ci, h with
  | 0, h => cases h; exact ⟨mg_uw0, tyX0_ok, nmX0⟩
  | 1, h => cases h; exact ⟨mg_uw1, tyX1_ok, nmX1⟩
  | 2, h => cases h; exact ⟨mg_uw2, tyX2_ok, nmX2⟩
  | 3, h => cases h; exact ⟨mg_uw3, tyX3_ok, nmX3⟩
  | 4, h => cases h; exact ⟨mg_uw4, tyX4_ok, nmX4⟩
  | 5, h => cases h; exact ⟨mg_uw5, tyX5_ok, nmX5⟩
  | 6, h => cases h; exact ⟨mg_uw6, tyX6_ok, nmX6⟩
  | 7, h => cases h; exact ⟨mg_uw7, tyX7_ok, nmX7⟩
  | 8, h => cases h; exact ⟨mg_uw8, tyX8_ok, nmX8⟩
  | n + 9, h => simp at h
theorem mg_new_ok {ci : Nat} {q : vw_C} {fs : List Value} (h : mg_cl[ci]? = some q) (hf : mg_new ci = some fs) (b n0 : Nat) : fs.map (mg_cv b n0) = fs ∧ fs.length = q.2.2 ∧ ∀ j, j < q.2.2 → defaultValue (mg_ty ci j) = vp_V fs j := by
  match ci, h, hf with
  | 0, h, hf => cases h; cases hf; exact ⟨rfl, rfl, by decide⟩
  | 1, h, hf => cases h; cases hf; exact ⟨rfl, rfl, by decide⟩
  | 2, h, hf => cases h; cases hf; exact ⟨rfl, rfl, by decide⟩
  | 3, h, hf => cases h; cases hf; exact ⟨rfl, rfl, by decide⟩
  | 4, h, hf => cases h; cases hf; exact ⟨rfl, rfl, by decide⟩
  | 5, h, hf => cases h; cases hf; exact ⟨rfl, rfl, by decide⟩
  | 6, h, hf => cases h; cases hf; exact ⟨rfl, rfl, by decide⟩
  | 7, h, hf => cases h; cases hf; exact ⟨rfl, rfl, by decide⟩
  | 8, h, hf => cases h; cases hf; exact ⟨rfl, rfl, by decide⟩
  | n + 9, h, hf => simp at h
theorem mg_fit_ok {ty : FieldType} {v : Value} (h : mg_fit ty v = true) (b n0 : Nat) : narrow ty (mg_cv b n0 v) = mg_cv b n0 v ∧ fits ty (mg_cv b n0 v) = true := by
  unfold mg_fit at h
  split at h
  · exact ⟨rfl, rfl⟩
  · next x =>
    simp only [Bool.or_eq_true, beq_iff_eq] at h
    rcases h with rfl | rfl <;> exact ⟨rfl, rfl⟩
  · exact ⟨rfl, rfl⟩
  · exact ⟨rfl, rfl⟩
  · cases h
theorem mg_size {p : Program} {l : Launch} {e : Env} {R : Room} {s : State} {m : MethodId} {args : Array Value} {below : List Frame} {meth : Method} {c : Code} {H : Heap} {locs : List Loc} {cells slots : Nat} {Q : State → Prop} {g : JFrame}
    (k : H.size ≤ s.heap.size + cells → W p l e R s m args below meth c H locs cells slots Q g) : W p l e R s m args below meth c H locs cells slots Q g := fun T hT X => k (by rw [← hT]; exact X.heapSize) T hT X
theorem mg_fresh {D : va_G} {b n0 : Nat} {dT : Nat → ClassId} {w : List mg_C} {q : Nat} {c : va_E} {H1 : Heap} (hP : va_P D mg_cl (mg_ws b n0 dT w ++ [(q, c)]) H1) (hD : va_D (fun q => n0 ≤ q) (mg_ws b n0 dT w ++ [(q, c)])) (hs : H1.size ≤ n0 + w.length + 1) : q = n0 + w.length := by
  have hl : (mg_ws b n0 dT w).length = w.length := by unfold mg_ws; rw [List.length_mapIdx]
  have hg : (mg_ws b n0 dT w ++ [(q, c)])[w.length]? = some (q, c) := by rw [List.getElem?_append_right (by omega), hl, Nat.sub_self]; rfl
  have h1 := (hP _ _ hg).lt
  have h2 : n0 ≤ q := hD.2 _ _ hg
  have h1 : q < H1.size := h1
  by_cases hq : q - n0 < w.length
  · have h3 : (mg_ws b n0 dT w ++ [(q, c)])[q - n0]? = some (n0 + (q - n0), mg_cc b n0 dT w[q - n0]) := by
      rw [List.getElem?_append_left (by omega)]
      exact mg_ws_get (List.getElem?_eq_getElem hq)
    have h4 := hD.1 _ _ _ _ h3 hg (by show n0 + (q - n0) = q; omega)
    omega
  · omega
theorem mg_in {i : Int32} {n : Nat} (h : ¬ (i < 0 ∨ n ≤ i.toNatClampNeg)) : vp_in i n := h
theorem mg_m1 : mg_mem (.instanceMethod Lib.objectInit) = true := by decide +kernel
theorem mg_m2 : mg_mem (.code Lib.objectInit ⟨#[0xb1]⟩ 1 none) = true := by decide +kernel
theorem mg_m3 : mg_mem (.static Lib.Math.max.name) = true := by decide +kernel
theorem mg_m4 : mg_mem (.static Lib.Math.min.name) = true := by decide +kernel
theorem mg_m5 : mg_mem (.initialized "java/lang/Math") = true := by decide +kernel
theorem mg_m6 : mg_mem (.code Lib.Math.max.name Lib.Math.max.code 2 (some .int)) = true := by decide +kernel
theorem mg_m7 : mg_mem (.code Lib.Math.min.name Lib.Math.min.code 2 (some .int)) = true := by decide +kernel
theorem mg_m8 : mg_mem (.native arraycopyName) = true := by decide +kernel
theorem mg_m9 : mg_mem (.static arraycopyName) = true := by decide +kernel
theorem mg_m10 : mg_mem (.initialized "java/lang/System") = true := by decide +kernel
theorem mg_m11 : mg_mem (.arrayClass .int) = true := by decide +kernel
theorem mg_m12 : mg_mem (.arrayClass .char) = true := by decide +kernel
theorem mg_m13 : mg_mem (.arrayClass .long) = true := by decide +kernel
theorem mg_m14 : mg_mem (.arrayClass .double) = true := by decide +kernel
theorem mg_Tb.useM {s : State} (h : mg_Tb s) {w : Jvm.Cond} (hp : mg_mem w = true) (args : Array Value) : w.before args s = true := by
  unfold mg_mem at hp
  simp only [Bool.and_eq_true, decide_eq_true_eq] at hp
  obtain ⟨p, hp1⟩ := List.getElem?_of_mem hp.1
  exact h.use (p := p) (by unfold mg_hasw; rw [hp1, hp.2]; simp) args
theorem mg_arrw {s : State} (h : mg_Tb s) {t : Nat} (ht : t < 4) (args : Array Value) : (Cond.arrayClass (mg_aty t)).before args s = true := by
  match t, ht with
  | 0, _ => exact h.useM mg_m11 args
  | 1, _ => exact h.useM mg_m12 args
  | 2, _ => exact h.useM mg_m13 args
  | 3, _ => exact h.useM mg_m14 args
theorem mg_tys_at {dT : Nat → ClassId} {t : Nat} (ht : t < 4) : (mg_tys dT)[t]? = some (dT t, mg_aty t) := by
  match t, ht with
  | 0, _ => rfl
  | 1, _ => rfl
  | 2, _ => rfl
  | 3, _ => rfl
theorem mg_arr_one {s : State} {c1 c2 : ClassId} {t : Nat} (ht : t < 4) (h1 : va_RA s c1 (mg_aty t)) (h2 : va_RA s c2 (mg_aty t)) : c1 = c2 := by
  match t, ht, h1, h2 with
  | 0, _, h1, h2 => exact Option.some.inj (Eq.trans (Eq.symm h1) h2)
  | 1, _, h1, h2 => exact Option.some.inj (Eq.trans (Eq.symm h1) h2)
  | 2, _, h1, h2 => exact Option.some.inj (Eq.trans (Eq.symm h1) h2)
  | 3, _, h1, h2 => exact Option.some.inj (Eq.trans (Eq.symm h1) h2)
theorem mg_zero_ok {t N : Nat} {z : vp_A} (h : mg_zero t N = some z) (cA : ClassId) : vp_cell cA z = arrV cA N (fun _ => defaultValue (mg_aty t)) := by
  unfold mg_zero at h
  split at h
  · cases h; rfl
  · cases h; rfl
  · cases h; rfl
  · cases h; rfl
  · cases h
set_option maxRecDepth 100000 in
set_option maxHeartbeats 4000000 in
theorem mg_step_sound {p : Program} {l : Launch} {e : Env} {R : Room} {s : State} {m : MethodId} {args : Array Value} {below : List Frame} {meth : Method} {c : Code} {Q : State → Prop} {b n0 : Nat} {dT : Nat → ClassId} {D : va_G} {sc : mg_Sc} {mi c0 z0 pc : Nat}
    (X : mg_X p l s m meth c mi) (V : mg_V b n0 dT D sc c0 s) {ins : Instr} {len : Nat} {o : List Nat} (hchk : mg_chk mi (pc, ins, len, o) = true) {loc : mg_L} {st : List Value} {w : mg_S} {pc' : Nat} {loc' : mg_L} {st' : List Value} {w' : mg_S}
    (hs : mg_step sc (pc, ins, len, o) loc st w = some (pc', loc', st', w')) (hRf : 1 ≤ R.frames) (hRl : 100 ≤ R.locals) (hRc : w'.2.1 ≤ c0 + R.cells) (hRz : w'.2.2 ≤ z0 + R.slots)
    (k : mg_K p l e R s m args below meth c Q b n0 dT D (mg_mlen mi) c0 z0 pc' loc' st' w') : mg_K p l e R s m args below meth c Q b n0 dT D (mg_mlen mi) c0 z0 pc loc st w := by
  obtain ⟨hx, hb, hml, hown, hret, hlocks, hname, htab, hnt⟩ := X
  obtain ⟨hTb, hK, hstr, hnc, hZU, hZN, hXs, hbn, hnh, hup⟩ := V
  obtain ⟨hd1, hd2, hrest⟩ := mg_chk_at hchk
  have hbA : ¬ (fun q : Nat => n0 ≤ q) b := Nat.not_le.mpr hbn
  have hbl : b < s.heap.size := Nat.lt_of_lt_of_le hbn hnh
  have hA : ∀ q : Nat, s.heap.size ≤ q → (fun q : Nat => n0 ≤ q) q := fun q h => Nat.le_trans hnh h
  intro H locs ls hW hS hL h1 h2
  have hP := hW.1
  have hD := mg_ws_D (b := b) (n0 := n0) (dT := dT) w.1
  cases ins with
  | iconst n =>
    have hd := hd1 rfl
    cases hs
    exact lv_iconst hx hb hd rfl (k H locs ls hW hS hL h1 h2)
  | bipush n =>
    have hd := hd1 rfl
    cases hs
    exact lv_bipush hx hb hd rfl (k H locs ls hW hS hL h1 h2)
  | sipush n =>
    have hd := hd1 rfl
    cases hs
    exact lv_sipush hx hb hd rfl (k H locs ls hW hS hL h1 h2)
  | ldc j =>
    have hd := hd1 rfl
    unfold mg_step at hs
    dsimp only at hs
    split at hs
    · cases hs
      exact lv_ldc hx hb hown (hTb.useM hrest args) hd (k H locs ls hW hS hL h1 h2)
    · cases hs
  | ldc_w j =>
    have hd := hd1 rfl
    unfold mg_step at hs
    dsimp only at hs
    split at hs
    · cases hs
      exact lv_ldcw hx hb hown (hTb.useM hrest args) hd (k H locs ls hW hS hL h1 h2)
    · cases hs
  | fconst f =>
    have hd := hd1 rfl
    match f, hs, hd with
    | 0, hs, hd =>
      cases hs
      exact lv_fconst0 hx hb hd (k H locs ls hW hS hL h1 h2)
    | 1, hs, _ => cases hs
    | 2, hs, _ => cases hs
  | dconst f =>
    have hd := hd1 rfl
    match f, hs, hd with
    | 0, hs, hd =>
      cases hs
      exact lv_dconst0 hx hb hd (k H locs ls hW hS hL h1 h2)
    | 1, hs, _ => cases hs
  | iload i =>
    have hd := hd1 rfl
    unfold mg_step at hs
    dsimp only at hs
    obtain ⟨v, hv, he⟩ := Option.map_eq_some_iff.mp hs
    obtain ⟨x, rfl, hl⟩ := mg_ldI_spec hv
    cases he
    exact lv_iload hx hb hd (hL.2.2.2 _ _ hl) (k H locs ls hW hS hL h1 h2)
  | iload_n i =>
    have hd := hd1 rfl
    unfold mg_step at hs
    dsimp only at hs
    obtain ⟨v, hv, he⟩ := Option.map_eq_some_iff.mp hs
    obtain ⟨x, rfl, hl⟩ := mg_ldI_spec hv
    cases he
    exact lv_iload_n hx hb hd rfl (hL.2.2.2 _ _ hl) (k H locs ls hW hS hL h1 h2)
  | aload i =>
    have hd := hd1 rfl
    unfold mg_step at hs
    dsimp only at hs
    obtain ⟨v, hv, he⟩ := Option.map_eq_some_iff.mp hs
    obtain ⟨x, rfl, hl⟩ := mg_ldA_spec hv
    cases he
    exact lv_aload hx hb hd (hL.2.2.2 _ _ hl) (k H locs ls hW hS hL h1 h2)
  | aload_n i =>
    have hd := hd1 rfl
    unfold mg_step at hs
    dsimp only at hs
    obtain ⟨v, hv, he⟩ := Option.map_eq_some_iff.mp hs
    obtain ⟨x, rfl, hl⟩ := mg_ldA_spec hv
    cases he
    exact lv_aload_n hx hb hd rfl (hL.2.2.2 _ _ hl) (k H locs ls hW hS hL h1 h2)
  | fload i =>
    have hd := hd1 rfl
    unfold mg_step at hs
    dsimp only at hs
    obtain ⟨v, hv, he⟩ := Option.map_eq_some_iff.mp hs
    obtain ⟨x, rfl, hl⟩ := mg_ldF_spec hv
    cases he
    exact lv_fload hx hb hd (hL.2.2.2 _ _ hl) (k H locs ls hW hS hL h1 h2)
  | dload i =>
    have hd := hd1 rfl
    unfold mg_step at hs
    dsimp only at hs
    obtain ⟨v, hv, he⟩ := Option.map_eq_some_iff.mp hs
    obtain ⟨x, rfl, hl⟩ := mg_ldD_spec hv
    cases he
    exact lv_dload hx hb hd (hL.2.2.2 _ _ hl) (k H locs ls hW hS hL h1 h2)
  | istore i =>
    have hd := hd1 rfl
    unfold mg_step at hs
    dsimp only at hs
    split at hs
    · next x r =>
      split at hs
      · next hi =>
        cases hs
        exact lv_istore (lv := mg_lv b n0 loc) hx hb hd hL.has (Nat.lt_of_lt_of_le hi hL.2.2.1) rfl (fun ls' h' => k H locs ls' hW hS (hL.st1 (v := .int x) h') h1 h2)
      · cases hs
    · cases hs
  | istore_n i =>
    have hd := hd1 rfl
    unfold mg_step at hs
    dsimp only at hs
    split at hs
    · next x r =>
      split at hs
      · next hi =>
        cases hs
        exact lv_istore_n (lv := mg_lv b n0 loc) hx hb hd rfl hL.has (Nat.lt_of_lt_of_le hi hL.2.2.1) rfl (fun ls' h' => k H locs ls' hW hS (hL.st1 (v := .int x) h') h1 h2)
      · cases hs
    · cases hs
  | astore i =>
    have hd := hd1 rfl
    unfold mg_step at hs
    dsimp only at hs
    split at hs
    · next x r =>
      split at hs
      · next hi =>
        cases hs
        exact lv_astore (lv := mg_lv b n0 loc) hx hb hd hL.has (Nat.lt_of_lt_of_le hi hL.2.2.1) rfl (fun ls' h' => k H locs ls' hW hS (hL.st1 (v := .ref x) h') h1 h2)
      · cases hs
    · cases hs
  | astore_n i =>
    have hd := hd1 rfl
    unfold mg_step at hs
    dsimp only at hs
    split at hs
    · next x r =>
      split at hs
      · next hi =>
        cases hs
        exact lv_astore_n (lv := mg_lv b n0 loc) hx hb hd rfl hL.has (Nat.lt_of_lt_of_le hi hL.2.2.1) rfl (fun ls' h' => k H locs ls' hW hS (hL.st1 (v := .ref x) h') h1 h2)
      · cases hs
    · cases hs
  | fstore i =>
    have hd := hd1 rfl
    unfold mg_step at hs
    dsimp only at hs
    split at hs
    · next x r =>
      split at hs
      · next hi =>
        cases hs
        exact lv_fstore (lv := mg_lv b n0 loc) hx hb hd hL.has (Nat.lt_of_lt_of_le hi hL.2.2.1) rfl (fun ls' h' => k H locs ls' hW hS (hL.st1 (v := .float x) h') h1 h2)
      · cases hs
    · cases hs
  | dstore i =>
    have hd := hd1 rfl
    unfold mg_step at hs
    dsimp only at hs
    split at hs
    · next x r =>
      split at hs
      · next hi =>
        cases hs
        exact lv_dstore (lv := mg_lv b n0 loc) hx hb hd hL.has (Nat.lt_of_lt_of_le hi hL.2.2.1) rfl (fun ls' h' => k H locs ls' hW hS (hL.st2 (v := .double x) h') h1 h2)
      · cases hs
    · cases hs
  | iinc i n =>
    have hd := hd1 rfl
    unfold mg_step at hs
    dsimp only at hs
    split at hs
    · next x hxl =>
      cases hs
      have e9 : ((i, Value.int x) :: mg_lv b n0 loc).filter (fun q => !(q.1 == i) && !(q.1 + 1 == i && q.2.category == 2)) = (mg_lv b n0 loc).filter (fun q => !(q.1 == i) && !(q.1 + 1 == i && q.2.category == 2)) := List.filter_cons_of_neg (by simp)
      have hh : lv_has ls (mg_mlen mi) ((i, Value.int x) :: mg_lv b n0 loc) := ⟨hL.1, hL.2.1, fun q hq => by
        rcases List.mem_cons.mp hq with rfl | hq
        · exact hL.2.2.2 _ _ hxl
        · exact hL.has.2.2 q hq⟩
      exact lv_iinc (lv := (i, Value.int x) :: mg_lv b n0 loc) (k := 0) hx hb hd hh rfl rfl (Nat.lt_of_lt_of_le (List.getElem?_eq_some_iff.mp hxl).1 hL.2.2.1) (congrArg (List.cons (i, Value.int (x + Int32.ofInt n))) e9) (fun ls' h' => k H locs ls' hW hS (hL.st1 (v := .int (x + Int32.ofInt n)) h') h1 h2)
    · cases hs
  | iadd =>
    have hd := hd1 rfl
    unfold mg_step at hs
    dsimp only at hs
    split at hs
    · cases hs
      exact lv_iadd hx hb hd (k H locs ls hW hS hL h1 h2)
    · cases hs
  | isub =>
    have hd := hd1 rfl
    unfold mg_step at hs
    dsimp only at hs
    split at hs
    · cases hs
      exact lv_isub hx hb hd (k H locs ls hW hS hL h1 h2)
    · cases hs
  | imul =>
    have hd := hd1 rfl
    unfold mg_step at hs
    dsimp only at hs
    split at hs
    · cases hs
      exact lv_imul hx hb hd (k H locs ls hW hS hL h1 h2)
    · cases hs
  | iand =>
    have hd := hd1 rfl
    unfold mg_step at hs
    dsimp only at hs
    split at hs
    · cases hs
      exact lv_iand hx hb hd (k H locs ls hW hS hL h1 h2)
    · cases hs
  | ior =>
    have hd := hd1 rfl
    unfold mg_step at hs
    dsimp only at hs
    split at hs
    · cases hs
      exact lv_ior hx hb hd (k H locs ls hW hS hL h1 h2)
    · cases hs
  | idiv =>
    have hd := hd1 rfl
    unfold mg_step at hs
    dsimp only at hs
    split at hs
    · split at hs
      · cases hs
      · next hne =>
        cases hs
        exact lv_idiv hx hb hd hne (k H locs ls hW hS hL h1 h2)
    · cases hs
  | irem =>
    have hd := hd1 rfl
    unfold mg_step at hs
    dsimp only at hs
    split at hs
    · split at hs
      · cases hs
      · next hne =>
        cases hs
        exact lv_irem hx hb hd hne (k H locs ls hW hS hL h1 h2)
    · cases hs
  | ineg =>
    have hd := hd1 rfl
    unfold mg_step at hs
    dsimp only at hs
    split at hs
    · cases hs
      exact lv_ineg hx hb hd  (k H locs ls hW hS hL h1 h2)
    · cases hs
  | i2l =>
    have hd := hd1 rfl
    unfold mg_step at hs
    dsimp only at hs
    split at hs
    · cases hs
      exact lv_i2l hx hb hd rfl (k H locs ls hW hS hL h1 h2)
    · cases hs
  | i2c =>
    have hd := hd1 rfl
    unfold mg_step at hs
    dsimp only at hs
    split at hs
    · cases hs
      exact lv_i2c hx hb hd rfl (k H locs ls hW hS hL h1 h2)
    · cases hs
  | i2f =>
    have hd := hd1 rfl
    unfold mg_step at hs
    dsimp only at hs
    split at hs
    · cases hs
      exact lv_i2f hx hb hd  (k H locs ls hW hS hL h1 h2)
    · cases hs
  | i2d =>
    have hd := hd1 rfl
    unfold mg_step at hs
    dsimp only at hs
    split at hs
    · cases hs
      exact lv_i2d hx hb hd  (k H locs ls hW hS hL h1 h2)
    · cases hs
  | lcmp =>
    have hd := hd1 rfl
    unfold mg_step at hs
    dsimp only at hs
    split at hs
    · cases hs
      exact W.lcmp hx hb hd  (k H locs ls hW hS hL h1 h2)
    · cases hs
  | fcmp op =>
    have hd := hd1 rfl
    unfold mg_step at hs
    dsimp only at hs
    split at hs
    · cases hs
      exact lv_fcmp hx hb hd  (k H locs ls hW hS hL h1 h2)
    · cases hs
  | dcmp op =>
    have hd := hd1 rfl
    unfold mg_step at hs
    dsimp only at hs
    split at hs
    · cases hs
      exact lv_dcmp hx hb hd  (k H locs ls hW hS hL h1 h2)
    · cases hs
  | f2d =>
    have hd := hd1 rfl
    unfold mg_step at hs
    dsimp only at hs
    split at hs
    · split at hs
      · next hne =>
        cases hs
        exact lv_f2d hx hb hd hne (k H locs ls hW hS hL h1 h2)
      · cases hs
    · cases hs
  | fdiv =>
    have hd := hd1 rfl
    unfold mg_step at hs
    dsimp only at hs
    split at hs
    · split at hs
      · next hne =>
        cases hs
        exact lv_fdiv hx hb hd hne (k H locs ls hW hS hL h1 h2)
      · cases hs
    · cases hs
  | ddiv =>
    have hd := hd1 rfl
    unfold mg_step at hs
    dsimp only at hs
    split at hs
    · split at hs
      · next hne =>
        cases hs
        exact lv_ddiv hx hb hd hne (k H locs ls hW hS hL h1 h2)
      · cases hs
    · cases hs
  | dup =>
    have hd := hd1 rfl
    unfold mg_step at hs
    dsimp only at hs
    split at hs
    · cases hs
      exact lv_dup hx hb hd rfl (k H locs ls hW hS hL h1 h2)
    · cases hs
      exact lv_dup hx hb hd rfl (k H locs ls hW hS hL h1 h2)
    · cases hs
  | dup2 =>
    have hd := hd1 rfl
    unfold mg_step at hs
    dsimp only at hs
    split at hs
    · cases hs
      exact lv_dup2_11 hx hb hd rfl rfl (k H locs ls hW hS hL h1 h2)
    · cases hs
      exact lv_dup2_11 hx hb hd rfl rfl (k H locs ls hW hS hL h1 h2)
    · cases hs
  | pop =>
    have hd := hd1 rfl
    unfold mg_step at hs
    dsimp only at hs
    split at hs
    · cases hs
      exact lv_pop hx hb hd rfl (k H locs ls hW hS hL h1 h2)
    · cases hs
      exact lv_pop hx hb hd rfl (k H locs ls hW hS hL h1 h2)
    · cases hs
  | goto off =>
    have hd := hd1 rfl
    unfold mg_step at hs
    dsimp only at hs
    split at hs
    · cases hs
      exact lv_goto hx hb hd (of_decide_eq_true hrest) (k H locs ls hW hS hL h1 h2)
    · cases hs
  | ifCond cc off =>
    have hd := hd1 rfl
    unfold mg_step at hs
    dsimp only at hs
    split at hs
    · cases cc
      · unfold mg_br at hs
        cases hs
        exact lv_if_eq hx hb hd (of_decide_eq_true hrest) (fun hc => by have k9 := k H locs ls hW hS hL h1 h2; rw [if_pos hc] at k9; exact k9) (fun hc => by have k9 := k H locs ls hW hS hL h1 h2; rw [if_neg hc] at k9; exact k9)
      · unfold mg_br at hs
        cases hs
        exact lv_if_ne hx hb hd (of_decide_eq_true hrest) (fun hc => by have k9 := k H locs ls hW hS hL h1 h2; rw [if_neg hc] at k9; exact k9) (fun hc => by have k9 := k H locs ls hW hS hL h1 h2; rw [if_pos hc] at k9; exact k9)
      · unfold mg_br at hs
        cases hs
        exact lv_if_lt hx hb hd (of_decide_eq_true hrest) (fun hc => by have k9 := k H locs ls hW hS hL h1 h2; rw [if_pos hc] at k9; exact k9) (fun hc => by have k9 := k H locs ls hW hS hL h1 h2; rw [if_neg hc] at k9; exact k9)
      · unfold mg_br at hs
        cases hs
        exact lv_if_ge hx hb hd (of_decide_eq_true hrest) (fun hc => by have k9 := k H locs ls hW hS hL h1 h2; rw [if_pos hc] at k9; exact k9) (fun hc => by have k9 := k H locs ls hW hS hL h1 h2; rw [if_neg hc] at k9; exact k9)
      · unfold mg_br at hs
        cases hs
        exact lv_if_gt hx hb hd (of_decide_eq_true hrest) (fun hc => by have k9 := k H locs ls hW hS hL h1 h2; rw [if_pos hc] at k9; exact k9) (fun hc => by have k9 := k H locs ls hW hS hL h1 h2; rw [if_neg hc] at k9; exact k9)
      · unfold mg_br at hs
        cases hs
        exact lv_if_le hx hb hd (of_decide_eq_true hrest) (fun hc => by have k9 := k H locs ls hW hS hL h1 h2; rw [if_pos hc] at k9; exact k9) (fun hc => by have k9 := k H locs ls hW hS hL h1 h2; rw [if_neg hc] at k9; exact k9)
    · cases hs
  | if_icmp cc off =>
    have hd := hd1 rfl
    unfold mg_step at hs
    dsimp only at hs
    split at hs
    · cases cc
      · unfold mg_br at hs
        cases hs
        exact lv_icmp_eq hx hb hd (of_decide_eq_true hrest) (fun hc => by have k9 := k H locs ls hW hS hL h1 h2; rw [if_pos hc] at k9; exact k9) (fun hc => by have k9 := k H locs ls hW hS hL h1 h2; rw [if_neg hc] at k9; exact k9)
      · unfold mg_br at hs
        cases hs
        exact lv_icmp_ne hx hb hd (of_decide_eq_true hrest) (fun hc => by have k9 := k H locs ls hW hS hL h1 h2; rw [if_neg hc] at k9; exact k9) (fun hc => by have k9 := k H locs ls hW hS hL h1 h2; rw [if_pos hc] at k9; exact k9)
      · unfold mg_br at hs
        cases hs
        exact lv_icmp_lt hx hb hd (of_decide_eq_true hrest) (fun hc => by have k9 := k H locs ls hW hS hL h1 h2; rw [if_pos hc] at k9; exact k9) (fun hc => by have k9 := k H locs ls hW hS hL h1 h2; rw [if_neg hc] at k9; exact k9)
      · unfold mg_br at hs
        cases hs
        exact lv_icmp_ge hx hb hd (of_decide_eq_true hrest) (fun hc => by have k9 := k H locs ls hW hS hL h1 h2; rw [if_pos hc] at k9; exact k9) (fun hc => by have k9 := k H locs ls hW hS hL h1 h2; rw [if_neg hc] at k9; exact k9)
      · unfold mg_br at hs
        cases hs
        exact lv_icmp_gt hx hb hd (of_decide_eq_true hrest) (fun hc => by have k9 := k H locs ls hW hS hL h1 h2; rw [if_pos hc] at k9; exact k9) (fun hc => by have k9 := k H locs ls hW hS hL h1 h2; rw [if_neg hc] at k9; exact k9)
      · unfold mg_br at hs
        cases hs
        exact lv_icmp_le hx hb hd (of_decide_eq_true hrest) (fun hc => by have k9 := k H locs ls hW hS hL h1 h2; rw [if_pos hc] at k9; exact k9) (fun hc => by have k9 := k H locs ls hW hS hL h1 h2; rw [if_neg hc] at k9; exact k9)
    · cases hs
  | tableswitch df lo hi offs =>
    unfold mg_step at hs
    dsimp only at hs
    split at hs
    · next d ts x r =>
      have hr2 : (decide ((pc : Int) + df = (d : Int)) && decide (offs.toList.map (fun x => (pc : Int) + x) = ts.map Int.ofNat)) = true := hrest
      simp only [Bool.and_eq_true, decide_eq_true_eq] at hr2
      split at hs
      · next hout =>
        cases hs
        exact lv_tableOut hx hb hd2 hout hr2.1 (k H locs ls hW hS hL h1 h2)
      · next hin =>
        obtain ⟨t, ht, he⟩ := Option.map_eq_some_iff.mp hs
        cases he
        have h5 : (offs.toList.map (fun x => (pc : Int) + x))[(x.toInt - lo).toNat]? = some (Int.ofNat pc') := by
          rw [hr2.2, List.getElem?_map, ht]; rfl
        rw [List.getElem?_map] at h5
        obtain ⟨off, ho, he⟩ := Option.map_eq_some_iff.mp h5
        rw [Array.getElem?_toList] at ho
        exact lv_tableIn hx hb hd2 (fun z => hin (Or.inl z)) (fun z => hin (Or.inr z)) ho he (k H locs ls hW hS hL h1 h2)
    · cases hs
  | getfield idx =>
    have hd := hd1 rfl
    unfold mg_step at hs
    dsimp only at hs
    split at hs
    · next ci kf o9 a r =>
      split at hs
      · next c9 fs hcell =>
        split at hs
        · next hc =>
          subst hc
          obtain ⟨v, hv, he⟩ := Option.map_eq_some_iff.mp hs
          cases he
          have he9 := mg_ws_get (b := b) (n0 := n0) (dT := dT) hcell
          have hv9 : (fs.map (mg_cv b n0))[kf]? = some (mg_cv b n0 v) := by rw [List.getElem?_map, hv]; rfl
          unfold mg_rest at hrest
          dsimp only at hrest
          split at hrest
          · next q1 q2 q3 q4 heq =>
            cases heq
            split at hrest
            · next C T N hcl =>
              simp only [Bool.and_eq_true, decide_eq_true_eq] at hrest
              obtain ⟨hkN, hwd⟩ := hrest
              obtain ⟨hu1, hu2, hu3⟩ := mg_clw hcl
              split at hwd
              · exact va_get (D := D) (C := C) (T := T) (N := N) hx hb (hTb.mem hu1 args) (fun _ h => h) hown hK hP a he9 hcl kf hkN (hTb.use hwd args) (fun _ h9 => h9) hv9 hd (k H locs ls hW hS hL h1 h2)
              · exact va_getN (D := D) (C := C) (T := T) (N := N) hx hb (hTb.mem hu1 args) (fun _ h => h) hown hK hP a he9 hcl kf hkN (hTb.use hwd args) (fun _ h9 => h9) hv9 hd (k H locs ls hW hS hL h1 h2)
            · cases hrest
          · cases hrest
        · cases hs
      · cases hs
    · cases hs
  | putfield idx =>
    have hd := hd1 rfl
    unfold mg_step at hs
    dsimp only at hs
    split at hs
    · next ci kf o9 v a r =>
      split at hs
      · next c9 fs hcell =>
        split at hs
        · next hc =>
          obtain ⟨hc, hkl, hfit⟩ := hc
          subst hc
          cases hs
          have he9 := mg_ws_get (b := b) (n0 := n0) (dT := dT) hcell
          obtain ⟨f1, f2⟩ := mg_fit_ok hfit b n0
          have e8 : (mg_ws b n0 dT w.1).set a (n0 + a, .inr (c9, (fs.map (mg_cv b n0)).set kf (mg_cv b n0 v))) = mg_ws b n0 dT (w.1.set a (.inr (c9, fs.set kf v))) := by
            rw [← mg_ws_set]
            show _ = (mg_ws b n0 dT w.1).set a (n0 + a, Sum.inr (c9, (fs.set kf v).map (mg_cv b n0)))
            rw [List.map_set]
          have kk : ∀ (H1 : Heap) (locs1 : List Loc), va_P D mg_cl ((mg_ws b n0 dT w.1).set a (n0 + a, .inr (c9, (fs.map (mg_cv b n0)).set kf (mg_cv b n0 v)))) H1 → va_D (fun q => n0 ≤ q) ((mg_ws b n0 dT w.1).set a (n0 + a, .inr (c9, (fs.map (mg_cv b n0)).set kf (mg_cv b n0 v)))) → va_S (fun q => n0 ≤ q) s.heap H1 locs1 → W p l e R s m args below meth c H1 locs1 (w.2.1 - c0) (w.2.2 - z0) Q (F0 m (pc + 3) ls (st'.map (mg_cv b n0))) := by
            intro H1 locs1 p1 p2 p3
            rw [e8] at p1
            exact k H1 locs1 ls ⟨p1, by show (w.1.set a _).length ≤ _; rw [List.length_set]; exact hW.2⟩ p3 hL h1 h2
          have hl9 : kf < (fs.map (mg_cv b n0)).length := by rw [List.length_map]; exact hkl
          unfold mg_rest at hrest
          dsimp only at hrest
          split at hrest
          · next q1 q2 q3 q4 heq =>
            cases heq
            split at hrest
            · next C T N hcl =>
              simp only [Bool.and_eq_true, decide_eq_true_eq] at hrest
              obtain ⟨hkN, hwd⟩ := hrest
              obtain ⟨hu1, hu2, hu3⟩ := mg_clw hcl
              split at hwd
              · simp only [Bool.and_eq_true, Bool.or_eq_true, beq_iff_eq, decide_eq_true_eq] at hwd
                obtain ⟨hwd, hfin | ⟨hin, hde⟩⟩ := hwd
                · exact va_put (D := D) (C := C) (T := T) (N := N) hx hb (hTb.mem hu1 args) (fun _ h => h) (mg_ty c9) hu2 hu3 hown hK hP hD hS a he9 hcl kf hkN (hTb.use hwd args) (fun _ h9 => h9) hfin (hu2 kf hkN) f1 f2 hl9 hd kk
                · by_cases hfin : (T kf).2.2.2 = false
                  · exact va_put (D := D) (C := C) (T := T) (N := N) hx hb (hTb.mem hu1 args) (fun _ h => h) (mg_ty c9) hu2 hu3 hown hK hP hD hS a he9 hcl kf hkN (hTb.use hwd args) (fun _ h9 => h9) hfin (hu2 kf hkN) f1 f2 hl9 hd kk
                  · exact va_putF (D := D) (C := C) (T := T) (N := N) hx hb (hTb.mem hu1 args) (fun _ h => h) (mg_ty c9) hu2 hu3 hown hK hP hD hS a he9 hcl kf hkN (hTb.use hwd args) (fun _ h9 => h9) (by rw [Bool.not_eq_false] at hfin; exact hfin) (hname.trans hin) hde (hu2 kf hkN) f1 f2 hl9 hd kk
              · simp only [Bool.and_eq_true, beq_iff_eq] at hwd
                exact va_putN (D := D) (C := C) (T := T) (N := N) hx hb (hTb.mem hu1 args) (fun _ h => h) (mg_ty c9) hu2 hu3 hown hK hP hD hS a he9 hcl kf hkN (hTb.use hwd.1 args) (fun _ h9 => h9) hwd.2 (hu2 kf hkN) f1 f2 hl9 hd kk
            · cases hrest
          · cases hrest
        · cases hs
      · cases hs
    · cases hs
  | iaload =>
    have hd := hd1 rfl
    unfold mg_step at hs
    dsimp only at hs
    split at hs
    · next i a r =>
      obtain ⟨v, hv, he⟩ := Option.map_eq_some_iff.mp hs
      cases he
      unfold mg_iald at hv
      split at hv
      · split at hv
        · cases hv
        · next hin =>
          cases hv
          exact va_sld (A := fun q => n0 ≤ q) hx hb hXs hbl hbA hS hin hd (k H locs ls hW hS hL h1 h2)
      · next a =>
        split at hv
        · next n f hcell =>
          split at hv
          · cases hv
          · next hin =>
            cases hv
            exact va_iald (D := D) hx hb hK hP a 0 (mg_ws_get (b := b) (n0 := n0) (dT := dT) hcell) (mg_tys_at (t := 0) (by decide)) hin hd (k H locs ls hW hS hL h1 h2)
        · cases hv
    · cases hs
  | caload =>
    have hd := hd1 rfl
    unfold mg_step at hs
    dsimp only at hs
    split at hs
    · next i a r =>
      split at hs
      · next n f hcell =>
        split at hs
        · cases hs
        · next hin =>
          cases hs
          exact va_cald (D := D) hx hb hK hP a 1 (mg_ws_get (b := b) (n0 := n0) (dT := dT) hcell) (mg_tys_at (t := 1) (by decide)) hin hd (k H locs ls hW hS hL h1 h2)
      · cases hs
    · cases hs
  | laload =>
    have hd := hd1 rfl
    unfold mg_step at hs
    dsimp only at hs
    split at hs
    · next i a r =>
      split at hs
      · next n f hcell =>
        split at hs
        · cases hs
        · next hin =>
          cases hs
          exact va_lald (D := D) hx hb hK hP a 2 (mg_ws_get (b := b) (n0 := n0) (dT := dT) hcell) (mg_tys_at (t := 2) (by decide)) hin hd (k H locs ls hW hS hL h1 h2)
      · cases hs
    · cases hs
  | daload =>
    have hd := hd1 rfl
    unfold mg_step at hs
    dsimp only at hs
    split at hs
    · next i a r =>
      split at hs
      · next n f hcell =>
        split at hs
        · cases hs
        · next hin =>
          cases hs
          exact va_dald (D := D) hx hb hK hP a 3 (mg_ws_get (b := b) (n0 := n0) (dT := dT) hcell) (mg_tys_at (t := 3) (by decide)) hin hd (k H locs ls hW hS hL h1 h2)
      · cases hs
    · cases hs
  | iastore =>
    have hd := hd1 rfl
    unfold mg_step at hs
    dsimp only at hs
    split at hs
    · next x i a r =>
      split at hs
      · next n f hcell =>
        split at hs
        · cases hs
        · next hin =>
          cases hs
          refine va_iast (D := D) hx hb hK hP hD hS a 0 (mg_ws_get (b := b) (n0 := n0) (dT := dT) hcell) (mg_tys_at (t := 0) (by decide)) hin hd (fun H1 locs1 p1 p2 p3 => ?_)
          have e8 := mg_ws_set (b := b) (n0 := n0) (dT := dT) w.1 a (.inl (0, n, .inl (upd f i.toNatClampNeg x)))
          have p9 : va_P D mg_cl (mg_ws b n0 dT (w.1.set a (.inl (0, n, .inl (upd f i.toNatClampNeg x))))) H1 := by rw [← e8]; exact p1
          exact k H1 locs1 ls ⟨p9, by show (w.1.set a _).length ≤ _; rw [List.length_set]; exact hW.2⟩ p3 hL h1 h2
      · cases hs
    · cases hs
  | castore =>
    have hd := hd1 rfl
    unfold mg_step at hs
    dsimp only at hs
    split at hs
    · next x i a r =>
      split at hs
      · next n f hcell =>
        split at hs
        · cases hs
        · next hin =>
          cases hs
          refine va_cast (D := D) hx hb hK hP hD hS a 1 (mg_ws_get (b := b) (n0 := n0) (dT := dT) hcell) (mg_tys_at (t := 1) (by decide)) hin hd (fun H1 locs1 p1 p2 p3 => ?_)
          have e8 := mg_ws_set (b := b) (n0 := n0) (dT := dT) w.1 a (.inl (1, n, .inl (upd f i.toNatClampNeg (vp_nar .char x))))
          have p9 : va_P D mg_cl (mg_ws b n0 dT (w.1.set a (.inl (1, n, .inl (upd f i.toNatClampNeg (vp_nar .char x)))))) H1 := by rw [← e8]; exact p1
          exact k H1 locs1 ls ⟨p9, by show (w.1.set a _).length ≤ _; rw [List.length_set]; exact hW.2⟩ p3 hL h1 h2
      · cases hs
    · cases hs
  | lastore =>
    have hd := hd1 rfl
    unfold mg_step at hs
    dsimp only at hs
    split at hs
    · next x i a r =>
      split at hs
      · next n f hcell =>
        split at hs
        · cases hs
        · next hin =>
          cases hs
          refine va_last (D := D) hx hb hK hP hD hS a 2 (mg_ws_get (b := b) (n0 := n0) (dT := dT) hcell) (mg_tys_at (t := 2) (by decide)) hin hd (fun H1 locs1 p1 p2 p3 => ?_)
          have e8 := mg_ws_set (b := b) (n0 := n0) (dT := dT) w.1 a (.inl (2, n, .inr (.inl (vp_updL f i.toNatClampNeg x))))
          have p9 : va_P D mg_cl (mg_ws b n0 dT (w.1.set a (.inl (2, n, .inr (.inl (vp_updL f i.toNatClampNeg x)))))) H1 := by rw [← e8]; exact p1
          exact k H1 locs1 ls ⟨p9, by show (w.1.set a _).length ≤ _; rw [List.length_set]; exact hW.2⟩ p3 hL h1 h2
      · cases hs
    · cases hs
  | dastore =>
    have hd := hd1 rfl
    unfold mg_step at hs
    dsimp only at hs
    split at hs
    · next x i a r =>
      split at hs
      · next n f hcell =>
        split at hs
        · cases hs
        · next hin =>
          cases hs
          refine va_dast (D := D) hx hb hK hP hD hS a 3 (mg_ws_get (b := b) (n0 := n0) (dT := dT) hcell) (mg_tys_at (t := 3) (by decide)) hin hd (fun H1 locs1 p1 p2 p3 => ?_)
          have e8 := mg_ws_set (b := b) (n0 := n0) (dT := dT) w.1 a (.inl (3, n, .inr (.inr (.inr (.inl (vf_upd f i.toNatClampNeg x))))))
          have p9 : va_P D mg_cl (mg_ws b n0 dT (w.1.set a (.inl (3, n, .inr (.inr (.inr (.inl (vf_upd f i.toNatClampNeg x)))))))) H1 := by rw [← e8]; exact p1
          exact k H1 locs1 ls ⟨p9, by show (w.1.set a _).length ≤ _; rw [List.length_set]; exact hW.2⟩ p3 hL h1 h2
      · cases hs
    · cases hs
  | arraylength =>
    have hd := hd1 rfl
    unfold mg_step at hs
    dsimp only at hs
    split at hs
    · next a r =>
      obtain ⟨v, hv, he⟩ := Option.map_eq_some_iff.mp hs
      cases he
      unfold mg_alen at hv
      split at hv
      · cases hv
        exact va_slen (A := fun q => n0 ≤ q) hx hb hXs hbl hbA hS hd (k H locs ls hW hS hL h1 h2)
      · next a =>
        split at hv
        · next x hcell =>
          split at hv
          · next h4 =>
            cases hv
            exact va_alen (D := D) (ty := mg_aty x.1) hx hb hK hP a x.1 (mg_ws_get (b := b) (n0 := n0) (dT := dT) hcell) (mg_tys_at h4) rfl hd (k H locs ls hW hS hL h1 h2)
          · cases hv
        · cases hv
    · cases hs
  | newarray at9 =>
    have hd := hd1 rfl
    unfold mg_step at hs
    dsimp only at hs
    split at hs
    · next t n r =>
      have hr2 : (Nat.blt t 4 && decide (newarray.typeOf at9 = mg_aty t)) = true := hrest
      simp only [Bool.and_eq_true, decide_eq_true_eq] at hr2
      have ht4 : t < 4 := by have := hr2.1; rwa [Nat.blt_eq] at this
      split at hs
      · cases hs
      · next hn9 =>
        obtain ⟨z, hz, he⟩ := Option.map_eq_some_iff.mp hs
        cases he
        have hn1 : ¬ n < 0 := fun q => hn9 (Or.inl q)
        have hn2 : n.toNatClampNeg ≤ 100000 := Nat.le_of_not_lt fun q => hn9 (Or.inr (Or.inl q))
        have hn3 : w.2.1 = w.1.length := Decidable.byContradiction fun q => hn9 (Or.inr (Or.inr q))
        have hcb : componentBytes (mg_aty t) ≤ 8 := by
          match t, ht4 with
          | 0, _ => decide
          | 1, _ => decide
          | 2, _ => decide
          | 3, _ => decide
        refine va_newa (D := D) hx hb (ty := mg_aty t) (by rw [hr2.2]; exact mg_arrw hTb ht4 args) hr2.2 hK hP hD hS hA (mg_zero_ok hz) hn1 rfl (Nat.le_trans (Nat.mul_le_mul hn2 hcb) (by decide)) (by have h5 : w.2.1 + 1 ≤ c0 + R.cells := hRc; omega) (by have h5 : w.2.2 + n.toNatClampNeg ≤ z0 + R.slots := hRz; omega) hd (fun q cA H1 q1 q2 q3 q4 => mg_size fun hz9 => ?_)
        have hcA : cA = dT t := mg_arr_one (s := s) ht4 (q1.2 4 (cA, mg_aty t) rfl).2 (hK.2 t _ (mg_tys_at ht4)).2
        have hq := mg_fresh (c := .inl (cA, z)) (n0 := n0) (b := b) (dT := dT) q2 q3 (by omega)
        subst hcA
        subst hq
        have k9 := k H1 locs ls ⟨by rw [← mg_ws_app]; exact q2, by show (w.1 ++ _).length ≤ _; rw [List.length_append]; show w.1.length + 1 ≤ w.2.1 + 1; omega⟩ q4 hL (by show c0 ≤ w.2.1 + 1; omega) (by show z0 ≤ w.2.2 + n.toNatClampNeg; omega)
        have e1 : w.2.1 + 1 - c0 = w.2.1 - c0 + 1 := by omega
        have e2 : w.2.2 + n.toNatClampNeg - z0 = w.2.2 - z0 + n.toNatClampNeg := by omega
        dsimp only at k9
        rw [e1, e2] at k9
        exact k9
    · cases hs
  | new idx =>
    have hd := hd1 rfl
    unfold mg_step at hs
    dsimp only at hs
    split at hs
    · next ci p9 =>
      split at hs
      · cases hs
      · next hn9 =>
        have hn3 : w.2.1 = w.1.length := Decidable.byContradiction fun q => hn9 q
        obtain ⟨fs, hf, he⟩ := Option.map_eq_some_iff.mp hs
        cases he
        have hr2 : (match mg_cl[ci]? with
          | some (C, _, N) => mg_hasw p9 (.classLink (mg_own mi) idx C) && mg_mem (.instantiable C N) && mg_mem (.initialized C)
          | none => false) = true := hrest
        cases hcl : mg_cl[ci]? with
        | none => rw [hcl] at hr2; cases hr2
        | some qq =>
          obtain ⟨C, T, N⟩ := qq
          rw [hcl] at hr2
          simp only [Bool.and_eq_true] at hr2
          obtain ⟨⟨hw1, hw2⟩, hw3⟩ := hr2
          obtain ⟨hu1, hu2, hu3⟩ := mg_clw hcl
          obtain ⟨g1, g2, g3⟩ := mg_new_ok hcl hf b n0
          refine va_new (D := D) (C := C) (T := T) (N := N) hx hb (hTb.mem hu1 args) (fun _ h => h) (mg_ty ci) hu2 hown (hTb.use hw1 args) (hTb.useM hw2 args) (hTb.useM hw3 args) hK hP hD hS hA hcl g3 (by have h5 : w.2.1 + 1 ≤ c0 + R.cells := hRc; omega) (by have h5 : w.2.2 + fs.length ≤ z0 + R.slots := hRz; have h6 : fs.length = N := g2; omega) hd (fun q H1 q2 q3 q4 => mg_size fun hz9 => ?_)
          have hq := mg_fresh (c := .inr (ci, fs)) (n0 := n0) (b := b) (dT := dT) q2 q3 (by omega)
          subst hq
          have p9 : va_P D mg_cl (mg_ws b n0 dT (w.1 ++ [.inr (ci, fs)])) H1 := by
            rw [← mg_ws_app]
            show va_P D mg_cl (mg_ws b n0 dT w.1 ++ [(n0 + w.1.length, Sum.inr (ci, fs.map (mg_cv b n0)))]) H1
            rw [g1]; exact q2
          have k9 := k H1 locs ls ⟨p9, by show (w.1 ++ _).length ≤ _; rw [List.length_append]; show w.1.length + 1 ≤ w.2.1 + 1; omega⟩ q4 hL (by show c0 ≤ w.2.1 + 1; omega) (by show z0 ≤ w.2.2 + fs.length; omega)
          have e1 : w.2.1 + 1 - c0 = w.2.1 - c0 + 1 := by omega
          have e2 : w.2.2 + fs.length - z0 = w.2.2 - z0 + N := by have h6 : fs.length = N := g2; omega
          dsimp only at k9
          rw [e1, e2] at k9
          exact k9
    · cases hs
  | invokespecial idx =>
    have hd := hd1 rfl
    unfold mg_step at hs
    dsimp only at hs
    split at hs
    · next p9 a r =>
      split at hs
      · next hlen =>
        cases hs
        have hc9 := mg_st_len (st := Value.ref a :: st') (n := 8) hlen
        refine W.objInit hx hb hown (hTb.use hrest args) (hTb.useM mg_m1 args) (hTb.useM mg_m2 args) rfl (by rw [hml]; exact hL.1) rfl hd hRf ?_ ?_
        · show 2 * 0 + ((st'.map (mg_cv b n0)).map fun v => v.category).sum + 12 ≤ R.locals
          rw [mg_st_cat]
          simp only [List.map_cons, List.sum_cons] at hc9
          omega
        · exact W.eq (g2 := F0 m (pc + 3) ls (st'.map (mg_cv b n0))) rfl (k H locs ls hW hS hL h1 h2)
      · cases hs
    · cases hs
  | invokestatic idx =>
    have hd := hd1 rfl
    unfold mg_step at hs
    dsimp only at hs
    split at hs
    · next p9 y x r =>
      split at hs
      · next hlen =>
        cases hs
        have hc9 := mg_st_len (st := r) (n := 8) hlen
        exact va_mmax hx hb (hml.trans hL.1.symm) hown (hTb.use hrest args) (hTb.useM mg_m3 args) (hTb.useM mg_m5 args) (hTb.useM mg_m6 args) hRf (by rw [mg_st_cat]; omega) (by omega) (by omega) hd (k H locs ls hW hS hL h1 h2)
      · cases hs
    · next p9 y x r =>
      split at hs
      · next hlen =>
        cases hs
        have hc9 := mg_st_len (st := r) (n := 8) hlen
        exact va_mmin hx hb (hml.trans hL.1.symm) hown (hTb.use hrest args) (hTb.useM mg_m4 args) (hTb.useM mg_m5 args) (hTb.useM mg_m7 args) hRf (by rw [mg_st_cat]; omega) (by omega) (by omega) hd (k H locs ls hW hS hL h1 h2)
      · cases hs
    · next p9 n dp a1 sp a0 r =>
      split at hs
      · next n0' f n1 g hc0 hc1 =>
        split at hs
        · next hh =>
          obtain ⟨hlen, g1, g2, g3, g4, g5⟩ := hh
          cases hs
          have hc9 := mg_st_len (st := st') (n := 8) hlen
          have hnw : nativeFrameWords "java/lang/System" "arraycopy" 5 = 7 := by decide
          refine va_copyi (D := D) hx hb (hml.trans hL.1.symm) hown (hTb.use hrest args) (hTb.useM mg_m8 args) (hTb.useM mg_m9 args) (hTb.useM mg_m10 args) hK hP hD hS a0 a1 0 0 (mg_ws_get (b := b) (n0 := n0) (dT := dT) hc0) (mg_ws_get (b := b) (n0 := n0) (dT := dT) hc1) (mg_tys_at (t := 0) (by decide)) (mg_tys_at (t := 0) (by decide)) rfl g1 g2 g3 g4 g5 (fun _ _ => rfl) hRf (by rw [mg_st_cat, hnw]; omega) hd (fun H1 locs1 p1 p2 p3 => ?_)
          have e8 := mg_ws_set (b := b) (n0 := n0) (dT := dT) w.1 a1 (.inl (0, n1, .inl (va_cpy f g sp.toNatClampNeg dp.toNatClampNeg n.toNatClampNeg)))
          have p9 : va_P D mg_cl (mg_ws b n0 dT (w.1.set a1 (.inl (0, n1, .inl (va_cpy f g sp.toNatClampNeg dp.toNatClampNeg n.toNatClampNeg))))) H1 := by rw [← e8]; exact p1
          exact k H1 locs1 ls ⟨p9, by show (w.1.set a1 _).length ≤ _; rw [List.length_set]; exact hW.2⟩ p3 hL h1 h2
        · cases hs
      · cases hs
    · cases hs
  | _ => cases hs
