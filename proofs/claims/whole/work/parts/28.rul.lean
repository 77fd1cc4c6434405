/-! rules of their own -/
section RUL
variable {sc : mg_Sc} {d mi pc : Nat} {loc : mg_L} {w : mg_S} {r : mg_R} {st0 : List Value}
theorem mg_Ev.iald {a n j : Nat} {i : Int32} {f : Nat → Int32} (he : mg_at mi pc = some (pc, .iaload, 1, [])) (hcell : w.1[a]? = some (.inl (0, n, .inl f))) (hj : i.toNatClampNeg = j) (hb : ¬ (i < 0 ∨ n ≤ i.toNatClampNeg)) (h : mg_Ev sc d mi (pc + 1) loc (.int (f j) :: st0) w r) : mg_Ev sc d mi pc loc (.int i :: .ref (a + 1) :: st0) w r := by
  subst hj
  refine mg_Ev.one he rfl rfl ?_ h
  show Option.map _ (mg_iald sc w (a + 1) i) = _
  unfold mg_iald
  try dsimp only
  rw [hcell]
  exact congrArg (Option.map fun v => (pc + 1, loc, v :: st0, w)) (if_neg hb)
theorem mg_Ev.sld {i : Int32} (he : mg_at mi pc = some (pc, .iaload, 1, [])) (hb : ¬ (i < 0 ∨ sc.1 ≤ i.toNatClampNeg)) (h : mg_Ev sc d mi (pc + 1) loc (.int (sc.2 i.toNatClampNeg) :: st0) w r) : mg_Ev sc d mi pc loc (.int i :: .ref 0 :: st0) w r := by
  refine mg_Ev.one he rfl rfl ?_ h
  show Option.map _ (mg_iald sc w 0 i) = _
  unfold mg_iald
  try dsimp only
  rw [if_neg hb]
  rfl
theorem mg_Ev.cald {a n j : Nat} {i : Int32} {f : Nat → Int32} (he : mg_at mi pc = some (pc, .caload, 1, [])) (hcell : w.1[a]? = some (.inl (1, n, .inl f))) (hj : i.toNatClampNeg = j) (hb : ¬ (i < 0 ∨ n ≤ i.toNatClampNeg)) (h : mg_Ev sc d mi (pc + 1) loc (.int (f j) :: st0) w r) : mg_Ev sc d mi pc loc (.int i :: .ref (a + 1) :: st0) w r := by
  subst hj
  refine mg_Ev.one he rfl rfl ?_ h
  unfold mg_step
  try dsimp only
  rw [hcell]
  exact if_neg hb
theorem mg_Ev.lald {a n j : Nat} {i : Int32} {f : Nat → Int64} (he : mg_at mi pc = some (pc, .laload, 1, [])) (hcell : w.1[a]? = some (.inl (2, n, .inr (.inl f)))) (hj : i.toNatClampNeg = j) (hb : ¬ (i < 0 ∨ n ≤ i.toNatClampNeg)) (h : mg_Ev sc d mi (pc + 1) loc (.long (f j) :: st0) w r) : mg_Ev sc d mi pc loc (.int i :: .ref (a + 1) :: st0) w r := by
  subst hj
  refine mg_Ev.one he rfl rfl ?_ h
  unfold mg_step
  try dsimp only
  rw [hcell]
  exact if_neg hb
theorem mg_Ev.dald {a n j : Nat} {i : Int32} {f : Nat → UInt64} (he : mg_at mi pc = some (pc, .daload, 1, [])) (hcell : w.1[a]? = some (.inl (3, n, .inr (.inr (.inr (.inl f)))))) (hj : i.toNatClampNeg = j) (hb : ¬ (i < 0 ∨ n ≤ i.toNatClampNeg)) (h : mg_Ev sc d mi (pc + 1) loc (.double (f j) :: st0) w r) : mg_Ev sc d mi pc loc (.int i :: .ref (a + 1) :: st0) w r := by
  subst hj
  refine mg_Ev.one he rfl rfl ?_ h
  unfold mg_step
  try dsimp only
  rw [hcell]
  exact if_neg hb
theorem mg_Ev.iast {a n j : Nat} {i x : Int32} {f : Nat → Int32} {w' : mg_S} (he : mg_at mi pc = some (pc, .iastore, 1, [])) (hcell : w.1[a]? = some (.inl (0, n, .inl f))) (hj : i.toNatClampNeg = j) (hb : ¬ (i < 0 ∨ n ≤ i.toNatClampNeg)) (hw : mg_upc w a (.inl (0, n, .inl (upd f j x))) = w') (h : mg_Ev sc d mi (pc + 1) loc st0 w' r) : mg_Ev sc d mi pc loc (.int x :: .int i :: .ref (a + 1) :: st0) w r := by
  subst hj
  subst hw
  refine mg_Ev.one he rfl rfl ?_ h
  unfold mg_step
  try dsimp only
  rw [hcell]
  exact if_neg hb
theorem mg_Ev.cast {a n j : Nat} {i x : Int32} {f : Nat → Int32} {w' : mg_S} (he : mg_at mi pc = some (pc, .castore, 1, [])) (hcell : w.1[a]? = some (.inl (1, n, .inl f))) (hj : i.toNatClampNeg = j) (hb : ¬ (i < 0 ∨ n ≤ i.toNatClampNeg)) (hw : mg_upc w a (.inl (1, n, .inl (upd f j (vp_nar .char x)))) = w') (h : mg_Ev sc d mi (pc + 1) loc st0 w' r) : mg_Ev sc d mi pc loc (.int x :: .int i :: .ref (a + 1) :: st0) w r := by
  subst hj
  subst hw
  refine mg_Ev.one he rfl rfl ?_ h
  unfold mg_step
  try dsimp only
  rw [hcell]
  exact if_neg hb
theorem mg_Ev.last {a n j : Nat} {i : Int32} {x : Int64} {f : Nat → Int64} {w' : mg_S} (he : mg_at mi pc = some (pc, .lastore, 1, [])) (hcell : w.1[a]? = some (.inl (2, n, .inr (.inl f)))) (hj : i.toNatClampNeg = j) (hb : ¬ (i < 0 ∨ n ≤ i.toNatClampNeg)) (hw : mg_upc w a (.inl (2, n, .inr (.inl (vp_updL f j x)))) = w') (h : mg_Ev sc d mi (pc + 1) loc st0 w' r) : mg_Ev sc d mi pc loc (.long x :: .int i :: .ref (a + 1) :: st0) w r := by
  subst hj
  subst hw
  refine mg_Ev.one he rfl rfl ?_ h
  unfold mg_step
  try dsimp only
  rw [hcell]
  exact if_neg hb
theorem mg_Ev.dast {a n j : Nat} {i : Int32} {x : UInt64} {f : Nat → UInt64} {w' : mg_S} (he : mg_at mi pc = some (pc, .dastore, 1, [])) (hcell : w.1[a]? = some (.inl (3, n, .inr (.inr (.inr (.inl f)))))) (hj : i.toNatClampNeg = j) (hb : ¬ (i < 0 ∨ n ≤ i.toNatClampNeg)) (hw : mg_upc w a (.inl (3, n, .inr (.inr (.inr (.inl (vf_upd f j x)))))) = w') (h : mg_Ev sc d mi (pc + 1) loc st0 w' r) : mg_Ev sc d mi pc loc (.double x :: .int i :: .ref (a + 1) :: st0) w r := by
  subst hj
  subst hw
  refine mg_Ev.one he rfl rfl ?_ h
  unfold mg_step
  try dsimp only
  rw [hcell]
  exact if_neg hb
theorem mg_Ev.idiv {x y : Int32} (he : mg_at mi pc = some (pc, .idiv, 1, [])) (hy : ¬ y = 0) (h : mg_Ev sc d mi (pc + 1) loc (.int (x / y) :: st0) w r) : mg_Ev sc d mi pc loc (.int y :: .int x :: st0) w r := by
  refine mg_Ev.one he rfl rfl ?_ h
  unfold mg_step
  try dsimp only
  rw [if_neg hy]
theorem mg_Ev.irem {x y : Int32} (he : mg_at mi pc = some (pc, .irem, 1, [])) (hy : ¬ y = 0) (h : mg_Ev sc d mi (pc + 1) loc (.int (x - x / y * y) :: st0) w r) : mg_Ev sc d mi pc loc (.int y :: .int x :: st0) w r := by
  refine mg_Ev.one he rfl rfl ?_ h
  unfold mg_step
  try dsimp only
  rw [if_neg hy]
theorem mg_Ev.putz {e : mg_E} {v : Int32} {pc' : Nat} {a : Nat} {W9 : Int32 → mg_S} (hv : v = 0 ∨ v = 1) (he : mg_at mi pc = some e) (hc : ∀ st9 : List Value, mg_call mg_cls e st9 w = none) (hend : ∀ st9 : List Value, mg_end (mg_ret mi) e st9 w = none)
    (hs : ∀ zz : Int32, (zz = 0 ∨ zz = 1) → mg_step sc e loc (.int zz :: .ref a :: st0) w = some (pc', loc, st0, W9 zz)) (h : mg_Ev sc d mi pc' loc st0 (W9 v) r) : mg_Ev sc d mi pc loc (.int v :: .ref a :: st0) w r := mg_Ev.one he (hc _) (hend _) (hs v hv) h
theorem mg_Ev.zret {v : Int32} (he : mg_at mi pc = some (pc, .ireturn, 1, [])) (hret : mg_ret mi = some .boolean) (hr : (Sum.inl (some (Value.int v)), w) = r) (hv : v = 0 ∨ v = 1) : mg_Ev sc d mi pc loc [.int v] w r := by
  subst hr
  refine mg_Ev.fin he rfl ?_
  rw [hret]
  unfold mg_end
  try dsimp only
  rw [if_pos hv]
theorem mg_Ev.swD {x : Int32} {df lo hi : Int} {offs : Array Int} {len dt : Nat} {ts : List Nat} (he : mg_at mi pc = some (pc, .tableswitch df lo hi offs, len, dt :: ts)) (hx : x.toInt < lo ∨ hi < x.toInt) (h : mg_Ev sc d mi dt loc st0 w r) : mg_Ev sc d mi pc loc (.int x :: st0) w r := by
  refine mg_Ev.one he rfl rfl ?_ h
  unfold mg_step
  try dsimp only
  rw [if_pos hx]
theorem mg_Ev.swK {x k : Int32} {df lo hi : Int} {offs : Array Int} {len dt t : Nat} {ts : List Nat} (he : mg_at mi pc = some (pc, .tableswitch df lo hi offs, len, dt :: ts)) (hx : x = k) (h1 : ¬ k.toInt < lo) (h2 : ¬ hi < k.toInt) (ht : ts[(k.toInt - lo).toNat]? = some t) (h : mg_Ev sc d mi t loc st0 w r) : mg_Ev sc d mi pc loc (.int x :: st0) w r := by
  subst hx
  refine mg_Ev.one he rfl rfl ?_ h
  unfold mg_step
  try dsimp only
  rw [if_neg (fun q => q.elim h1 h2), ht]
  rfl
theorem mg_Ev.copy {n dp sp : Int32} {a0 a1 n0 n1 len q9 p9 : Nat} {f g : Nat → Int32} {w' : mg_S} (he : mg_at mi pc = some (pc, .invokestatic q9, len, [5, p9])) (h0 : w.1[a0]? = some (.inl (0, n0, .inl f))) (h1 : w.1[a1]? = some (.inl (0, n1, .inl g)))
    (hb : ¬ sp < 0 ∧ ¬ dp < 0 ∧ ¬ n < 0 ∧ sp.toNatClampNeg + n.toNatClampNeg ≤ n0 ∧ dp.toNatClampNeg + n.toNatClampNeg ≤ n1) (hw : mg_upc w a1 (.inl (0, n1, .inl (va_cpy f g sp.toNatClampNeg dp.toNatClampNeg n.toNatClampNeg))) = w') (h : mg_Ev sc d mi (pc + 3) loc [] w' r) :
    mg_Ev sc d mi pc loc [.int n, .int dp, .ref (a1 + 1), .int sp, .ref (a0 + 1)] w r := by
  subst hw
  refine mg_Ev.one he rfl rfl ?_ h
  unfold mg_step
  simp only [h0, h1]
  exact if_pos ⟨Nat.zero_le _, hb⟩
end RUL
