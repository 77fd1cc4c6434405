/-- more known locals -/
def mg_le : mg_L → mg_L → Prop
  | [], [] => True
  | none :: a, _ :: b => mg_le a b
  | some v :: a, some u :: b => v = u ∧ mg_le a b
  | _, _ => False
theorem mg_le_rfl : ∀ a : mg_L, mg_le a a
  | [] => trivial
  | none :: a => mg_le_rfl a
  | some _ :: a => ⟨rfl, mg_le_rfl a⟩
theorem mg_le_len : ∀ {a b : mg_L}, mg_le a b → a.length = b.length
  | [], [], _ => rfl
  | none :: _, _ :: _, h => congrArg (· + 1) (mg_le_len h)
  | some _ :: _, some _ :: _, h => congrArg (· + 1) (mg_le_len h.2)
theorem mg_le_at : ∀ {a b : mg_L} {i : Nat} {v : Value}, mg_le a b → a[i]? = some (some v) → b[i]? = some (some v)
  | none :: a, x :: b, 0, v, h, hi => by cases hi
  | none :: a, x :: b, i + 1, v, h, hi => by rw [List.getElem?_cons_succ] at hi ⊢; exact mg_le_at (a := a) h hi
  | some u :: a, some x :: b, 0, v, h, hi => by rw [List.getElem?_cons_zero] at hi ⊢; rw [← h.1]; exact hi
  | some u :: a, some x :: b, i + 1, v, h, hi => by rw [List.getElem?_cons_succ] at hi ⊢; exact mg_le_at (a := a) h.2 hi
theorem mg_le_of : ∀ {a b : mg_L}, a.length = b.length → (∀ (i : Nat) (v : Value), a[i]? = some (some v) → b[i]? = some (some v)) → mg_le a b
  | [], [], _, _ => trivial
  | [], _ :: _, h, _ => by cases h
  | _ :: _, [], h, _ => by cases h
  | none :: a, x :: b, h, k => mg_le_of (a := a) (by simpa using h) fun i v hi => by
      have := k (i + 1) v (by rw [List.getElem?_cons_succ]; exact hi)
      rwa [List.getElem?_cons_succ] at this
  | some u :: a, x :: b, h, k => by
      have h0 := k 0 u rfl
      rw [List.getElem?_cons_zero] at h0
      cases h0
      exact ⟨rfl, mg_le_of (a := a) (by simpa using h) fun i v hi => by
        have := k (i + 1) v (by rw [List.getElem?_cons_succ]; exact hi)
        rwa [List.getElem?_cons_succ] at this⟩
theorem mg_le_kill {a b : mg_L} (h : mg_le a b) (i : Nat) {j : Nat} {u : Value} (hj : (mg_kill a i)[j]? = some (some u)) : (mg_kill b i)[j]? = some (some u) := by
  obtain ⟨h1, h2⟩ := mg_kill_get hj
  have h3 := mg_le_at h h1
  unfold mg_kill
  cases i with
  | zero => exact h3
  | succ k =>
    dsimp only
    have key : ∀ z : Value, z.category = 2 → b[k]? = some (some z) → (b.set k none)[j]? = some (some u) := by
      intro z hz hk
      rw [List.getElem?_set]
      by_cases hkj : k = j
      · subst hkj
        rw [h3] at hk
        cases hk
        exact absurd ⟨rfl, hz⟩ h2
      · rw [if_neg hkj]; exact h3
    split
    · next z hz => exact key _ rfl hz
    · next z hz => exact key _ rfl hz
    · exact h3
theorem mg_le_set {a b : mg_L} (hl : a.length = b.length) (h : ∀ (i : Nat) (v : Value), a[i]? = some (some v) → b[i]? = some (some v)) (i : Nat) (o : Option Value) : mg_le (a.set i o) (b.set i o) := by
  refine mg_le_of (by simpa using hl) fun j v hj => ?_
  rw [List.getElem?_set] at hj ⊢
  by_cases hij : i = j
  · rw [if_pos hij] at hj ⊢
    rw [← hl]
    exact hj
  · rw [if_neg hij] at hj ⊢
    exact h j v hj
theorem mg_le_killed {a b : mg_L} (h : mg_le a b) (i : Nat) : mg_le (mg_kill a i) (mg_kill b i) := mg_le_of (by rw [mg_kill_len, mg_kill_len, mg_le_len h]) fun _ _ hj => mg_le_kill h i hj
theorem mg_le_st1 {a b : mg_L} (h : mg_le a b) (i : Nat) (v : Value) : mg_le (mg_st1 a i v) (mg_st1 b i v) := mg_le_set (by rw [mg_kill_len, mg_kill_len, mg_le_len h]) (fun _ _ hj => mg_le_kill h i hj) i (some v)
theorem mg_le_st2 {a b : mg_L} (h : mg_le a b) (i : Nat) (v : Value) : mg_le (mg_st2 a i v) (mg_st2 b i v) := by
  have h1 := mg_le_st1 h i v
  exact mg_le_set (mg_le_len h1) (fun _ _ hj => mg_le_at h1 hj) (i + 1) none
