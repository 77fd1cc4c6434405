/-! HANDLERS; THE THEOREM -/
def mg_h1 (mi : Nat) (q : (Nat × Nat × Nat × Nat) × (Nat × Nat × Nat × Nat × Nat)) : Bool :=
  Nat.beq q.1.1 q.2.1 && Nat.beq q.1.2.1 q.2.2.1 && Nat.beq q.1.2.2.1 q.2.2.2.1 && Nat.blt q.2.2.2.2.1 6 && !Nat.beq q.1.2.2.2 0 && mg_hasw q.2.2.2.2.2 (.classLink (mg_own mi) q.1.2.2.2 (mg_exc q.2.2.2.2.1)) &&
  (match mg_at mi q.1.2.2.1, mg_nxt mi q.1.2.2.1 with
    | some (h, .astore k, _, _), some (k', h') => Nat.beq h q.1.2.2.1 && Nat.beq k k' && Nat.beq (h + 2) h' && Nat.blt k (mg_mlen mi)
    | some (h, .astore_n k, _, _), some (k', h') => Nat.beq h q.1.2.2.1 && Nat.beq k.val k' && Nat.beq (h + 1) h' && Nat.blt k.val (mg_mlen mi)
    | _, _ => false)
def mg_hok (mi : Nat) : Bool := Nat.beq (mg_hh mi).length (mg_hx mi).length && ((mg_hh mi).zip (mg_hx mi)).all (mg_h1 mi)
set_option maxRecDepth 100000 in
theorem mg_hok_all : (List.range 259).all mg_hok = true := by decide +kernel
set_option maxRecDepth 100000 in
theorem mg_len_infos : mg_infos.length = 259 := by decide +kernel
set_option maxRecDepth 100000 in
theorem mg_len_hxs : mg_hxs.length = 259 := by decide +kernel
theorem mg_hok_at (mi : Nat) : mg_hok mi = true := by
  by_cases h : mi < 259
  · exact List.all_eq_true.mp mg_hok_all mi (List.mem_range.mpr h)
  · have e1 : mg_hh mi = [] := by
      unfold mg_hh mg_i
      rw [List.getD_eq_getElem?_getD, List.getElem?_eq_none (by rw [mg_len_infos]; exact Nat.le_of_not_lt h)]
      rfl
    have e2 : mg_hx mi = [] := by
      unfold mg_hx
      rw [List.getD_eq_getElem?_getD, List.getElem?_eq_none (by rw [mg_len_hxs]; exact Nat.le_of_not_lt h)]
      rfl
    unfold mg_hok
    rw [e1, e2]
    rfl
theorem mg_cast {E : Nat} (h : E < 6) : mg_mem (.castable (mg_exc E) (mg_exc E)) = true := by
  match E, h with
  | 0, _ => decide +kernel
  | 1, _ => decide +kernel
  | 2, _ => decide +kernel
  | 3, _ => decide +kernel
  | 4, _ => decide +kernel
  | 5, _ => decide +kernel
def mg_fnd (pc E : Nat) (z : Nat × Nat × Nat × Nat × Nat) : Bool := Nat.ble z.1 pc && Nat.blt pc z.2.1 && Nat.beq z.2.2.2.1 E
theorem mg_split_table {mi pc E : Nat} : ∀ (hh : List (Nat × Nat × Nat × Nat)) (hx : List (Nat × Nat × Nat × Nat × Nat)), hh.length = hx.length → (hh.zip hx).all (mg_h1 mi) = true → ∀ z, hx.find? (mg_fnd pc E) = some z →
    ∃ (pre : List ExceptionTableEntry) (x : ExceptionTableEntry) (suf : List ExceptionTableEntry) (q : Nat × Nat × Nat × Nat), tableOf hh = pre ++ x :: suf ∧ mg_h1 mi (q, z) = true ∧ x = ⟨q.1, q.2.1, q.2.2.1, q.2.2.2⟩ ∧ covers x pc = true ∧ z.2.2.2.1 = E ∧
      ∀ y ∈ pre, covers y pc = false ∨ (y.catchType ≠ 0 ∧ ∃ F p, F < 6 ∧ F ≠ E ∧ mg_hasw p (.classLink (mg_own mi) y.catchType (mg_exc F)) = true) := by
  intro hh
  induction hh with
  | nil =>
    intro hx hl _ z hz
    cases hx with
    | nil => cases hz
    | cons a t => cases hl
  | cons q t ih =>
    intro hx hl ha z hz
    cases hx with
    | nil => cases hl
    | cons a u =>
      rw [List.zip_cons_cons, List.all_cons, Bool.and_eq_true] at ha
      have ha1 := ha.1
      unfold mg_h1 at ha1
      simp only [Bool.and_eq_true, Bool.not_eq_true'] at ha1
      obtain ⟨⟨⟨⟨⟨⟨g1, g2⟩, g3⟩, g4⟩, g5⟩, g6⟩, g7⟩ := ha1
      have e1 := Nat.eq_of_beq_eq_true g1
      have e2 := Nat.eq_of_beq_eq_true g2
      rw [List.find?_cons] at hz
      cases hf : mg_fnd pc E a with
      | true =>
        rw [hf] at hz
        cases hz
        unfold mg_fnd at hf
        simp only [Bool.and_eq_true] at hf
        obtain ⟨⟨f1, f2⟩, f3⟩ := hf
        refine ⟨[], ⟨q.1, q.2.1, q.2.2.1, q.2.2.2⟩, tableOf t, q, rfl, ha.1, rfl, ?_, Nat.eq_of_beq_eq_true f3, fun y hy => nomatch hy⟩
        unfold covers
        simp only [Bool.and_eq_true, decide_eq_true_eq]
        have k1 := Nat.le_of_ble_eq_true f1
        have k2 : pc < z.2.1 := by rwa [Nat.blt_eq] at f2
        exact ⟨by omega, by omega⟩
      | false =>
        rw [hf] at hz
        obtain ⟨pre, x, suf, q', h1, h2, h3, h4, h5, h6⟩ := ih u (by simpa using hl) ha.2 z hz
        refine ⟨⟨q.1, q.2.1, q.2.2.1, q.2.2.2⟩ :: pre, x, suf, q', by rw [List.cons_append, ← h1]; rfl, h2, h3, h4, h5, fun y hy => ?_⟩
        rcases List.mem_cons.mp hy with rfl | hy
        · by_cases hcv : covers (⟨q.1, q.2.1, q.2.2.1, q.2.2.2⟩ : ExceptionTableEntry) pc = false
          · exact Or.inl hcv
          · rw [Bool.not_eq_false] at hcv
            unfold covers at hcv
            simp only [Bool.and_eq_true, decide_eq_true_eq] at hcv
            refine Or.inr ⟨fun h0 => ?_, a.2.2.2.1, a.2.2.2.2, by rwa [Nat.blt_eq] at g4, fun hE => ?_, g6⟩
            · have h0 : q.2.2.2 = 0 := h0
              rw [h0] at g5
              cases g5
            · have : mg_fnd pc E a = true := by
                unfold mg_fnd
                simp only [Bool.and_eq_true]
                refine ⟨⟨Nat.ble_eq_true_of_le (by omega), by rw [Nat.blt_eq]; omega⟩, ?_⟩
                rw [hE]; exact Nat.beq_refl E
              rw [hf] at this
              cases this
        · exact h6 y hy
