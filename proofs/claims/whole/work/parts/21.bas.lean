/-! the concrete world behind the list -/
section CV
variable (b n0 : Nat) (dT : Nat → ClassId)
def mg_ad (a : Nat) : Nat := match a with
  | 0 => b
  | k + 1 => n0 + k
def mg_cv (v : Value) : Value := match v with
  | .ref a => .ref (mg_ad b n0 a)
  | v => v
def mg_cc (c : mg_C) : va_E := match c with
  | .inl x => .inl (dT x.1, x.2)
  | .inr o => .inr (o.1, o.2.map (mg_cv b n0))
def mg_ws (w : List mg_C) : va_W := w.mapIdx fun k c => (n0 + k, mg_cc b n0 dT c)
end CV
section WS
variable {b n0 : Nat} {dT : Nat → ClassId}
theorem mg_ws_get {w : List mg_C} {k : Nat} {c : mg_C} (h : w[k]? = some c) : (mg_ws b n0 dT w)[k]? = some (n0 + k, mg_cc b n0 dT c) := by
  unfold mg_ws
  rw [List.getElem?_mapIdx, h]
  rfl
theorem mg_ws_of {w : List mg_C} {k : Nat} {q : Nat × va_E} (h : (mg_ws b n0 dT w)[k]? = some q) : ∃ c, w[k]? = some c ∧ q = (n0 + k, mg_cc b n0 dT c) := by
  unfold mg_ws at h
  rw [List.getElem?_mapIdx] at h
  cases hc : w[k]? with
  | none => rw [hc] at h; cases h
  | some c => rw [hc] at h; exact ⟨c, rfl, (Option.some.inj h).symm⟩
theorem mg_ws_set (w : List mg_C) (k : Nat) (c : mg_C) : (mg_ws b n0 dT w).set k (n0 + k, mg_cc b n0 dT c) = mg_ws b n0 dT (w.set k c) := by
  apply List.ext_getElem?
  intro i
  unfold mg_ws
  rw [List.getElem?_mapIdx, List.getElem?_set, List.getElem?_set, List.getElem?_mapIdx, List.length_mapIdx]
  by_cases h : k = i
  · subst h
    rw [if_pos rfl, if_pos rfl]
    by_cases h2 : k < w.length
    · rw [if_pos h2, if_pos h2]; rfl
    · rw [if_neg h2, if_neg h2]; rfl
  · rw [if_neg h, if_neg h]
theorem mg_ws_app (w : List mg_C) (c : mg_C) : mg_ws b n0 dT w ++ [(n0 + w.length, mg_cc b n0 dT c)] = mg_ws b n0 dT (w ++ [c]) := by
  unfold mg_ws
  rw [List.mapIdx_concat]
theorem mg_ws_D (w : List mg_C) : va_D (fun q => n0 ≤ q) (mg_ws b n0 dT w) := by
  refine ⟨fun i j p q hi hj h => ?_, fun k q hk => ?_⟩
  · obtain ⟨c, -, rfl⟩ := mg_ws_of hi
    obtain ⟨c', -, rfl⟩ := mg_ws_of hj
    have h : n0 + i = n0 + j := h
    omega
  · obtain ⟨c, -, rfl⟩ := mg_ws_of hk
    exact Nat.le_add_right _ _
end WS
/-! the locals -/
def mg_Lo (b n0 : Nat) (ls : Array Slot) (nL : Nat) (loc : mg_L) : Prop := ls.size = nL ∧ lv_wf ls ∧ loc.length ≤ nL ∧ ∀ (i : Nat) (v : Value), loc[i]? = some (some v) → ls[i]? = some (.val (mg_cv b n0 v))
def mg_lv (b n0 : Nat) (loc : mg_L) : List (Nat × Value) := (List.range loc.length).filterMap fun i => match loc[i]? with
  | some (some v) => some (i, mg_cv b n0 v)
  | _ => none
section LO
variable {b n0 : Nat} {ls ls' : Array Slot} {nL i : Nat} {loc : mg_L} {v : Value}
theorem mg_lv_mem {q : Nat × Value} : q ∈ mg_lv b n0 loc ↔ ∃ v, loc[q.1]? = some (some v) ∧ q.2 = mg_cv b n0 v := by
  unfold mg_lv
  rw [List.mem_filterMap]
  constructor
  · rintro ⟨i, hi, h⟩
    cases hl : loc[i]? with
    | none => rw [hl] at h; cases h
    | some o =>
      cases o with
      | none => rw [hl] at h; cases h
      | some v =>
        rw [hl] at h
        cases h
        exact ⟨v, hl, rfl⟩
  · rintro ⟨v, h1, h2⟩
    refine ⟨q.1, ?_, ?_⟩
    · exact List.mem_range.mpr (List.getElem?_eq_some_iff.mp h1).1
    · rw [h1]
      obtain ⟨q1, q2⟩ := q
      cases h2
      rfl
theorem mg_Lo.has (h : mg_Lo b n0 ls nL loc) : lv_has ls nL (mg_lv b n0 loc) := by
  refine ⟨h.1, h.2.1, fun q hq => ?_⟩
  obtain ⟨v, h1, h2⟩ := mg_lv_mem.mp hq
  rw [h2]
  exact h.2.2.2 _ _ h1
theorem mg_cv_cat (v : Value) : (mg_cv b n0 v).category = v.category := by
  cases v <;> rfl
theorem mg_kill_get {j : Nat} {u : Value} (h : (mg_kill loc i)[j]? = some (some u)) : loc[j]? = some (some u) ∧ ¬ (j + 1 = i ∧ u.category = 2) := by
  unfold mg_kill at h
  cases i with
  | zero => exact ⟨h, fun q => by omega⟩
  | succ k =>
    dsimp only at h
    have key : ∀ (z : Value), loc[k]? = some (some z) → z.category = 2 → (loc.set k none)[j]? = some (some u) → loc[j]? = some (some u) ∧ ¬ (j + 1 = k + 1 ∧ u.category = 2) := by
      intro z hz hc h
      rw [List.getElem?_set] at h
      by_cases hk : k = j
      · rw [if_pos hk] at h
        split at h
        · cases h
        · cases h
      · rw [if_neg hk] at h
        exact ⟨h, fun q => hk (by omega)⟩
    split at h
    · next z hz => exact key _ hz rfl h
    · next z hz => exact key _ hz rfl h
    · next n1 n2 =>
      refine ⟨h, fun q => ?_⟩
      have hj : j = k := by omega
      subst hj
      cases u with
      | long z => exact n1 z h
      | double z => exact n2 z h
      | _ => exact absurd q.2 (by simp [Value.category])
theorem mg_kill_len : (mg_kill loc i).length = loc.length := by
  unfold mg_kill
  split
  · rfl
  · split <;> simp
theorem mg_Lo.st1 (h : mg_Lo b n0 ls nL loc) (h' : lv_has ls' nL ((i, mg_cv b n0 v) :: (mg_lv b n0 loc).filter (fun q => !(q.1 == i) && !(q.1 + 1 == i && q.2.category == 2)))) : mg_Lo b n0 ls' nL (mg_st1 loc i v) := by
  refine ⟨h'.1, h'.2.1, by unfold mg_st1; rw [List.length_set, mg_kill_len]; exact h.2.2.1, fun j u hj => ?_⟩
  unfold mg_st1 at hj
  rw [List.getElem?_set] at hj
  by_cases hi : i = j
  · rw [if_pos hi] at hj
    split at hj
    · cases hj
      subst hi
      exact h'.2.2 (i, mg_cv b n0 v) List.mem_cons_self
    · cases hj
  · rw [if_neg hi] at hj
    obtain ⟨h1, h2⟩ := mg_kill_get hj
    refine h'.2.2 (j, mg_cv b n0 u) (List.mem_cons_of_mem _ (List.mem_filter.mpr ⟨mg_lv_mem.mpr ⟨u, h1, rfl⟩, ?_⟩))
    simp only [mg_cv_cat, Bool.and_eq_true, Bool.not_eq_true', beq_eq_false_iff_ne, ne_eq, Bool.and_eq_false_iff]
    refine ⟨fun q => hi q.symm, ?_⟩
    by_cases q : j + 1 = i
    · exact Or.inr fun z => h2 ⟨q, z⟩
    · exact Or.inl q
theorem mg_Lo.st2 (h : mg_Lo b n0 ls nL loc) (h' : lv_has ls' nL ((i, mg_cv b n0 v) :: (mg_lv b n0 loc).filter (fun q => !(q.1 == i) && (!(q.1 == i + 1) && !(q.1 + 1 == i && q.2.category == 2))))) : mg_Lo b n0 ls' nL (mg_st2 loc i v) := by
  refine ⟨h'.1, h'.2.1, by unfold mg_st2; rw [List.length_set, List.length_set, mg_kill_len]; exact h.2.2.1, fun j u hj => ?_⟩
  unfold mg_st2 at hj
  rw [List.getElem?_set, List.getElem?_set] at hj
  by_cases hi1 : i + 1 = j
  · rw [if_pos hi1] at hj
    split at hj <;> cases hj
  · rw [if_neg hi1] at hj
    by_cases hi : i = j
    · rw [if_pos hi] at hj
      split at hj
      · cases hj
        subst hi
        exact h'.2.2 (i, mg_cv b n0 v) List.mem_cons_self
      · cases hj
    · rw [if_neg hi] at hj
      obtain ⟨h1, h2⟩ := mg_kill_get hj
      refine h'.2.2 (j, mg_cv b n0 u) (List.mem_cons_of_mem _ (List.mem_filter.mpr ⟨mg_lv_mem.mpr ⟨u, h1, rfl⟩, ?_⟩))
      simp only [mg_cv_cat, Bool.and_eq_true, Bool.not_eq_true', beq_eq_false_iff_ne, ne_eq, Bool.and_eq_false_iff]
      refine ⟨fun q => hi q.symm, fun q => hi1 q.symm, ?_⟩
      by_cases q : j + 1 = i
      · exact Or.inr fun z => h2 ⟨q, z⟩
      · exact Or.inl q
theorem mg_Lo.drop (h : mg_Lo b n0 ls nL loc) : mg_Lo b n0 ls nL (loc.set i none) := by
  refine ⟨h.1, h.2.1, by rw [List.length_set]; exact h.2.2.1, fun j u hj => ?_⟩
  rw [List.getElem?_set] at hj
  by_cases hi : i = j
  · rw [if_pos hi] at hj
    split at hj <;> cases hj
  · rw [if_neg hi] at hj
    exact h.2.2.2 _ _ hj
theorem mg_Lo.forget1 (h : mg_Lo b n0 ls nL loc) {x : Value} (h' : lv_has ls' nL ((i, x) :: (mg_lv b n0 loc).filter (fun q => !(q.1 == i) && !(q.1 + 1 == i && q.2.category == 2)))) : mg_Lo b n0 ls' nL ((mg_kill loc i).set i none) := by
  refine ⟨h'.1, h'.2.1, by rw [List.length_set, mg_kill_len]; exact h.2.2.1, fun j u hj => ?_⟩
  rw [List.getElem?_set] at hj
  by_cases hi : i = j
  · rw [if_pos hi] at hj
    split at hj <;> cases hj
  · rw [if_neg hi] at hj
    obtain ⟨h1, h2⟩ := mg_kill_get hj
    refine h'.2.2 (j, mg_cv b n0 u) (List.mem_cons_of_mem _ (List.mem_filter.mpr ⟨mg_lv_mem.mpr ⟨u, h1, rfl⟩, ?_⟩))
    simp only [mg_cv_cat, Bool.and_eq_true, Bool.not_eq_true', beq_eq_false_iff_ne, ne_eq, Bool.and_eq_false_iff]
    refine ⟨fun q => hi q.symm, ?_⟩
    by_cases q : j + 1 = i
    · exact Or.inr fun z => h2 ⟨q, z⟩
    · exact Or.inl q
end LO
