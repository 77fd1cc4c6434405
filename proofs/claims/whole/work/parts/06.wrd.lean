/-! WORDS AND PLACES -/
def mg_tw (w : Jvm.Cond) : Bool := goodWord w || (match w with
  | .methodLinkNest .. => true
  | .fieldLinkNest .. => true
  | .castable .. => true
  | .declares .. => true
  | _ => false)
def mg_Tb (U : State) : Prop := ∀ w ∈ lw_tbl, mg_tw w = true → va_Nw w U
theorem mg_Tb.warm {s U : State} (hW : s.WarmedH U.vm) (h : mg_Tb s) : mg_Tb U := by
  intro w hw ht
  have h1 := h w hw ht
  by_cases hg : goodWord w = true
  · exact word_at hW (good_of_word hg) h1
  · unfold mg_tw at ht
    rw [Bool.not_eq_true] at hg
    rw [hg] at ht
    cases w <;> first | exact va_Nw.warmM hW h1 | exact va_Nw.warmF hW h1 | exact va_Nw.warmC hW h1 | exact va_Nw.warmD hW h1 | exact absurd ht (by simp)
def mg_hasw (p : Nat) (w : Jvm.Cond) : Bool := decide (lw_tbl[p]? = some w) && mg_tw w
theorem mg_Tb.use {s : State} (h : mg_Tb s) {p : Nat} {w : Jvm.Cond} (hp : mg_hasw p w = true) (args : Array Value) : w.before args s = true := by
  unfold mg_hasw at hp
  simp only [Bool.and_eq_true, decide_eq_true_eq] at hp
  have h1 := h w (List.mem_of_getElem? hp.1) hp.2
  by_cases hg : goodWord w = true
  · exact word_at (State.WarmedH.refl s) (good_of_word hg) h1
  · have ht := hp.2
    unfold mg_tw at ht
    rw [Bool.not_eq_true] at hg
    rw [hg] at ht
    cases w <;> first | exact va_Nw.use rfl h1 | exact absurd ht (by simp)
theorem mg_Tb.useN {s : State} (h : mg_Tb s) {p : Nat} {w : Jvm.Cond} (hp : mg_hasw p w = true) : va_Nw w s := by
  unfold mg_hasw at hp
  simp only [Bool.and_eq_true, decide_eq_true_eq] at hp
  exact h w (List.mem_of_getElem? hp.1) hp.2
theorem mg_Tb.mem {s : State} (h : mg_Tb s) {Ts : List Jvm.Cond} (hT : ∀ w ∈ Ts, w ∈ lw_tbl ∧ goodWord w = true) (args : Array Value) : ∀ w ∈ Ts, w.before args s = true := fun w hw =>
  word_at (State.WarmedH.refl s) (good_of_word (hT w hw).2) (h w (hT w hw).1 (by unfold mg_tw; rw [(hT w hw).2]; rfl))
