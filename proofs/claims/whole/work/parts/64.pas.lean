/-! DAYS PASS: the lodged ones are settled -/
theorem m_settles {nh np ns nq d q0 oc : Nat} {f4 f7 f10 : z_Ro} {y : mg_Rg} (HH : tH nh f4 (y 43)) (HP : tP np f7 (y 43)) (HS : tS ns f10 (y 43)) (hq6 : nq ≤ 6) (hd : d < 30) (hx : ∃ p < nh, y 43 (208 + 16 * d) = nN p) (hq1 : 1 ≤ q0) (hq2 : q0 ≤ 999) (hq3 : y 43 (208 + 16 * d + 1) = nN q0) (ho : oc < 8) (ho2 : y 43 (208 + 16 * d + 3) = nN oc) (h5 : y 43 (208 + 16 * d + 5) = -1 ∨ ∃ q < nq, y 43 (208 + 16 * d + 5) = nN q)
    {qr first rate second : Int32} (hqr : (y 43 (208 + 16 * d + 5) = -1 → qr = 0) ∧ ∀ q < nq, y 43 (208 + 16 * d + 5) = nN q → qr = y 43 (138 + 9 * q + 3)) (hf : first = y 43 (208 + 16 * d + 2) * y 43 (208 + 16 * d + 8) / nN q0 * qr / 1000) (hr : rate = s_grD (y 43) d) (hs : second = (y 43 (208 + 16 * d + 2) - y 43 (208 + 16 * d + 2) * y 43 (208 + 16 * d + 8) / nN q0) * rate / 1000) :
    ∃ Y, M_settles (nN d) y = some Y ∧ (∀ c, c ≠ 43 → Y c = y c) ∧ Y 43 (208 + 16 * d + 9) = first ∧ Y 43 (208 + 16 * d + 10) = second ∧ Y 43 (208 + 16 * d + 12) = rate ∧ Y 43 (208 + 16 * d + 13) = s_gfD (y 43) rate d ∧ Y 43 (208 + 16 * d + 7) = 1 ∧ Y 43 7 = y 43 7 + (first + second) ∧ (∀ j < 8, Y 43 (200 + j) = if j = oc then y 43 (200 + j) + (first + second) else y 43 (200 + j)) ∧
      ∀ i, i ≠ 7 → i ≠ 200 + oc → i ≠ 208 + 16 * d + 7 → i ≠ 208 + 16 * d + 9 → i ≠ 208 + 16 * d + 10 → i ≠ 208 + 16 * d + 12 → i ≠ 208 + 16 * d + 13 → Y 43 i = y 43 i := by
  obtain ⟨y1, hy1⟩ : ∃ y1, y1 = mg_up y 43 (208 + 16 * d + 9) first := ⟨_, rfl⟩
  have y1o : ∀ i, i ≠ 208 + 16 * d + 9 → y1 43 i = y 43 i := fun i hi => by rw [hy1, zu_ne hi]
  have r1 : M_rateNow (nN d) y1 = some rate := by
    rw [m_grD (u := y1) (f := f4) (f2 := f7) (f3 := f10) (tH_cg (fun _ _ => rfl) (fun i hi => y1o i (by omega)) HH) (tP_cg (fun _ _ => rfl) (fun i hi => y1o i (by omega)) HP) (tS_cg (fun _ _ => rfl) (fun i hi => y1o i (by omega)) HS) hd (by rw [y1o _ (by omega)]; exact hx), s_grD_cg HH HP HS (fun i hi => y1o i (by omega)) (fun j hj => y1o _ (by omega)) hx, hr]
  obtain ⟨y2, hy2⟩ : ∃ y2, y2 = mg_up y1 43 (208 + 16 * d + 12) rate := ⟨_, rfl⟩
  have y2o : ∀ i, i ≠ 208 + 16 * d + 9 → i ≠ 208 + 16 * d + 12 → y2 43 i = y 43 i := fun i hi hi2 => by rw [hy2, zu_ne hi2, y1o i hi]
  have r2 : M_fromNow (nN d) y2 = some (s_gfD (y 43) rate d) := by
    rw [m_gfD (u := y2) (f := f4) (f2 := f7) (f3 := f10) (tH_cg (fun _ _ => rfl) (fun i hi => y2o i (by omega) (by omega)) HH) (tP_cg (fun _ _ => rfl) (fun i hi => y2o i (by omega) (by omega)) HP) (tS_cg (fun _ _ => rfl) (fun i hi => y2o i (by omega) (by omega)) HS) hd (by rw [y2o _ (by omega) (by omega)]; exact hx), s_grD_cg HH HP HS (fun i hi => y2o i (by omega) (by omega)) (fun j hj => y2o _ (by omega) (by omega)) hx, ← hr, s_gfD_cg HH HP (fun i hi => y2o i (by omega) (by omega)) (fun j hj => y2o _ (by omega) (by omega)) hx]
  obtain ⟨y3, hy3⟩ : ∃ y3, y3 = mg_up y2 43 (208 + 16 * d + 13) (s_gfD (y 43) rate d) := ⟨_, rfl⟩
  have a2 : M_declAt (nN d) 2 y3 = some (y 43 (208 + 16 * d + 2)) := by rw [mdeclAt_2 hd, hy3, zu_ne (by omega), y2o _ (by omega) (by omega)]
  have a12 : M_declAt (nN d) 12 y3 = some rate := by rw [mdeclAt_12 hd, hy3, zu_ne (by omega), hy2, zu_eq]
  obtain ⟨y4, hy4⟩ : ∃ y4, y4 = mg_up (mg_up y3 43 (208 + 16 * d + 10) second) 43 (208 + 16 * d + 7) 1 := ⟨_, rfl⟩
  have y4o : ∀ i, i ≠ 208 + 16 * d + 7 → i ≠ 208 + 16 * d + 9 → i ≠ 208 + 16 * d + 10 → i ≠ 208 + 16 * d + 12 → i ≠ 208 + 16 * d + 13 → y4 43 i = y 43 i := fun i i1 i2 i3 i4 i5 => by rw [hy4, zu_ne i1, zu_ne i3, hy3, zu_ne i5, y2o i i2 i4]
  have y49 : y4 43 (208 + 16 * d + 9) = first := by rw [hy4, zu_ne (by omega), zu_ne (by omega), hy3, zu_ne (by omega), hy2, zu_ne (by omega), hy1, zu_eq]
  have y410 : y4 43 (208 + 16 * d + 10) = second := by rw [hy4, zu_ne (by omega), zu_eq]
  have y412 : y4 43 (208 + 16 * d + 12) = rate := by rw [hy4, zu_ne (by omega), zu_ne (by omega), hy3, zu_ne (by omega), hy2, zu_eq]
  have y413 : y4 43 (208 + 16 * d + 13) = s_gfD (y 43) rate d := by rw [hy4, zu_ne (by omega), zu_ne (by omega), hy3, zu_eq]
  have y47 : y4 43 (208 + 16 * d + 7) = 1 := by rw [hy4, zu_eq]
  have a9 : M_declAt (nN d) 9 y4 = some first := by rw [mdeclAt_9 hd, y49]
  have a10 : M_declAt (nN d) 10 y4 = some second := by rw [mdeclAt_10 hd, y410]
  obtain ⟨y5, hy5⟩ : ∃ y5, y5 = mg_up y4 43 7 (y4 43 7 + (first + second)) := ⟨_, rfl⟩
  have a3 : M_declAt (nN d) 3 y5 = some (nN oc) := by rw [mdeclAt_3 hd, hy5, zu_ne (by omega), y4o _ (by omega) (by omega) (by omega) (by omega) (by omega), ho2]
  obtain ⟨Y, hY⟩ : ∃ Y, Y = mg_up y5 43 (200 + oc) (y5 43 (200 + oc) + (first + second)) := ⟨_, rfl⟩
  refine ⟨Y, ?_, fun c hc => by rw [hY, z_up_ne hc, hy5, z_up_ne hc, hy4, z_up_ne hc, z_up_ne hc, hy3, z_up_ne hc, hy2, z_up_ne hc, hy1, z_up_ne hc], by rw [hY, zu_ne (by omega), hy5, zu_ne (by omega), y49], by rw [hY, zu_ne (by omega), hy5, zu_ne (by omega), y410], by rw [hY, zu_ne (by omega), hy5, zu_ne (by omega), y412], by rw [hY, zu_ne (by omega), hy5, zu_ne (by omega), y413], by rw [hY, zu_ne (by omega), hy5, zu_ne (by omega), y47], by rw [hY, zu_ne (by omega), hy5, zu_eq, y4o 7 (by omega) (by omega) (by omega) (by omega) (by omega)], fun j hj => ?_, fun i i0 i1 i2 i3 i4 i5 i6 => by rw [hY, zu_ne i1, hy5, zu_ne i0, y4o i i2 i3 i4 i5 i6]⟩
  · rcases h5 with h5 | ⟨q, hq, h5⟩
    · have q0' : qr = 0 := hqr.1 h5
      have hf0 : first = 0 := by
        rw [hf, q0', Int32.mul_zero]
        rfl
      unfold M_settles
      rw [m_inq hd hq1 hq2 hq3, mdeclAt_5 hd, h5]
      simp only [Option.bind_some]
      rw [if_pos trivial, zb_208, zo_9, zo_12, zo_13, zo_10, zo_7, zg (by omega), z_nat (by omega), show mg_up y 43 (208 + 16 * d + 9) 0 = y1 by rw [hy1, hf0], r1]
      simp only [Option.bind_some]
      rw [zg (by omega), z_nat (by omega), ← hy2, r2]
      simp only [Option.bind_some]
      rw [zg (by omega), z_nat (by omega), ← hy3, a2]
      simp only [Option.bind_some]
      rw [a12]
      simp only [Option.bind_some]
      rw [← hs, zg (by omega), zg (by omega), z_nat (by omega), z_nat (by omega), ← hy4, a9]
      simp only [Option.bind_some]
      rw [a10]
      simp only [Option.bind_some]
      rw [← hy5, a3]
      simp only [Option.bind_some]
      rw [zb_200, zg (by omega), zg (by omega), z_nat (by omega), hY]
    · have q0' : qr = y 43 (138 + 9 * q + 3) := hqr.2 q hq h5
      unfold M_settles
      rw [m_inq hd hq1 hq2 hq3, mdeclAt_5 hd, h5]
      simp only [Option.bind_some]
      rw [if_neg (z_ne1 (by omega)), mquotaAt_3 (by omega), ← q0']
      simp only [Option.bind_some]
      rw [zb_208, zo_9, zo_12, zo_13, zo_10, zo_7, zg (by omega), z_nat (by omega), ← hf, ← hy1, r1]
      simp only [Option.bind_some]
      rw [zg (by omega), z_nat (by omega), ← hy2, r2]
      simp only [Option.bind_some]
      rw [zg (by omega), z_nat (by omega), ← hy3, a2]
      simp only [Option.bind_some]
      rw [a12]
      simp only [Option.bind_some]
      rw [← hs, zg (by omega), zg (by omega), z_nat (by omega), z_nat (by omega), ← hy4, a9]
      simp only [Option.bind_some]
      rw [a10]
      simp only [Option.bind_some]
      rw [← hy5, a3]
      simp only [Option.bind_some]
      rw [zb_200, zg (by omega), zg (by omega), z_nat (by omega), hY]
  · by_cases h : j = oc
    · subst h
      rw [if_pos rfl, hY, zu_eq, hy5, zu_ne (by omega), y4o _ (by omega) (by omega) (by omega) (by omega) (by omega)]
    · rw [if_neg h, hY, zu_ne (by omega), hy5, zu_ne (by omega), y4o _ (by omega) (by omega) (by omega) (by omega) (by omega)]
theorem c_assess {nh np ns nq nd d q0 oc : Nat} {u : mg_Rg} {g : z_Ro} (C : c_ctx nh np ns nq nd u g) (hd : d < nd) (hq1 : 1 ≤ q0) (hq2 : q0 ≤ 999) (hq3 : g (208 + 16 * d + 1) = nN q0) (ho : oc < 8) (ho2 : g (208 + 16 * d + 3) = nN oc)
    {qr first rate second : Int32} (hqr : (g (208 + 16 * d + 5) = -1 → qr = 0) ∧ ∀ q < nq, g (208 + 16 * d + 5) = nN q → qr = g (138 + 9 * q + 3)) (hf : first = g (208 + 16 * d + 2) * u 26 (1 + d * 15 + 8) / nN q0 * qr / 1000) (hr : rate = s_grD g d) (hs : second = (g (208 + 16 * d + 2) - g (208 + 16 * d + 2) * u 26 (1 + d * 15 + 8) / nN q0) * rate / 1000) :
    ∃ v, O_assess (nN d) u = some v ∧ (∀ c, c ≠ 26 → c ≠ 28 → c ≠ 17 → c ≠ 20 → v c = u c) ∧ v 26 (1 + d * 15 + 9) = first ∧ v 26 (1 + d * 15 + 10) = second ∧ v 26 (1 + d * 15 + 12) = rate ∧ v 26 (1 + d * 15 + 13) = s_gfD g rate d ∧ v 26 (1 + d * 15 + 7) = 1 ∧
      (∀ i, i ≠ 1 + d * 15 + 7 → i ≠ 1 + d * 15 + 9 → i ≠ 1 + d * 15 + 10 → i ≠ 1 + d * 15 + 12 → i ≠ 1 + d * 15 + 13 → v 26 i = u 26 i) ∧ (∀ i, i ≠ 2 → v 17 i = u 17 i) ∧ v 17 2 = u 17 2 + (first + second) ∧ ∀ j < 8, v 20 (1 + j) = if j = oc then u 20 (1 + j) + (first + second) else u 20 (1 + j) := by
  obtain ⟨HH, HP, HS, HT, HQ, h30, h26, h8, hdw⟩ := C
  have hd30 : d < 30 := by omega
  have R := h8 d hd
  obtain ⟨u1, hu1⟩ : ∃ u1, u1 = z_gd u g d := ⟨_, rfl⟩
  have u1q : ∀ c, c ≠ 28 → u1 c = u c := fun c hc => by rw [hu1, z_gd_ne hc]
  have hl : O_loadGoods (nN d) u = some u1 := by rw [c_load R, hu1]
  have r1 : Tf_leastRate_28 u1 = some rate := by rw [hu1, c_grD HH HP HS HT (hdw d hd).1, hr]
  have R1 : z_row8 u1 g d := ⟨R.1, fun j hj => by rw [u1q 26 (by decide)]; exact R.2 j hj⟩
  have e2 : u1 26 (1 + d * 15 + 2) = g (208 + 16 * d + 2) := R1.2 2 (by omega)
  have e8 : u1 26 (1 + d * 15 + 8) = u 26 (1 + d * 15 + 8) := by rw [u1q 26 (by decide)]
  have e1 : u1 26 (1 + d * 15 + 1) = nN q0 := (R1.2 1 (by omega)).trans hq3
  have i1 : O_valueInQuota (nN d) u1 = some (g (208 + 16 * d + 2) * u 26 (1 + d * 15 + 8) / nN q0) := by rw [c_inq hd30 hq1 hq2 e1, e2, e8]
  have i2 : O_secondPart (nN d) rate u1 = some second := by rw [c_sec hd30 hq1 hq2 e1, e2, e8, hs]
  have i3 : T_get_22 (g (208 + 16 * d + 5)) 3 u1 = some qr := by
    rcases (hdw d hd).2.2.2.1 with h5 | ⟨q, hq, h5⟩
    · rw [h5, hqr.1 h5]
      unfold T_get_22
      exact if_pos (by decide)
    · rw [hqr.2 q hq h5, h5]
      exact cQ_3 (by rw [u1q 23 (by decide)]; exact HQ) hq
  obtain ⟨u2, hu2⟩ : ∃ u2, u2 = mg_up (mg_up (mg_up u1 26 (1 + d * 15 + 9) first) 26 (1 + d * 15 + 10) second) 26 (1 + d * 15 + 12) rate := ⟨_, rfl⟩
  have u2q : ∀ c, c ≠ 26 → u2 c = u1 c := fun c hc => by rw [hu2, z_up_ne hc, z_up_ne hc, z_up_ne hc]
  have r2 : Tf_sourceOf_28 rate u2 = some (s_gfD g rate d) := c_gfD (by rw [u2q 4 (by decide), u1q 4 (by decide)]; exact HH) (by rw [u2q 7 (by decide), u1q 7 (by decide)]; exact HP) (by rw [u2q 13 (by decide), u1q 13 (by decide)]; exact HT) (hdw d hd).1 rate (by rw [u2q 28 (by decide), hu1]; rfl) (by rw [u2q 28 (by decide), hu1]; rfl) (by rw [u2q 28 (by decide), hu1]; rfl) (by rw [u2q 28 (by decide), hu1]; rfl)
  obtain ⟨u3, hu3⟩ : ∃ u3, u3 = mg_up (mg_up u2 26 (1 + d * 15 + 13) (s_gfD g rate d)) 26 (1 + d * 15 + 7) 1 := ⟨_, rfl⟩
  have u3q : ∀ c, c ≠ 26 → u3 c = u1 c := fun c hc => by rw [hu3, z_up_ne hc, z_up_ne hc, u2q c hc]
  have e28 : u3 28 1 = nN oc := by rw [u3q 28 (by decide), hu1]; exact ho2
  obtain ⟨v, hv⟩ : ∃ v, v = mg_up (mg_up u3 17 2 (u3 17 2 + (first + second))) 20 (1 + oc) (u3 20 (1 + oc) + (first + second)) := ⟨_, rfl⟩
  have v26 : ∀ i, v 26 i = u3 26 i := fun i => by rw [hv, z_up_ne (by decide), z_up_ne (by decide)]
  refine ⟨v, ?_, fun c c1 c2 c3 c4 => by rw [hv, z_up_ne c4, z_up_ne c3, u3q c c1, u1q c c2], by rw [v26, hu3, zu_ne (by omega), zu_ne (by omega), hu2, zu_ne (by omega), zu_ne (by omega), zu_eq], by rw [v26, hu3, zu_ne (by omega), zu_ne (by omega), hu2, zu_ne (by omega), zu_eq], by rw [v26, hu3, zu_ne (by omega), zu_ne (by omega), hu2, zu_eq], by rw [v26, hu3, zu_ne (by omega), zu_eq], by rw [v26, hu3, zu_eq], fun i i1 i2 i3 i4 i5 => by rw [v26, hu3, zu_ne i1, zu_ne i5, hu2, zu_ne i4, zu_ne i3, zu_ne i2, u1q 26 (by decide)], fun i hi => by rw [hv, z_up_ne (by decide), zu_ne hi, u3q 17 (by decide), u1q 17 (by decide)], by rw [hv, z_up_ne (by decide), zu_eq, u3q 17 (by decide), u1q 17 (by decide)], fun j hj => ?_⟩
  · unfold O_assess Lg_addDuty
    rw [hl]
    simp only [Option.bind_some]
    rw [c8_5 R1]
    simp only [Option.bind_some]
    rw [r1]
    simp only [Option.bind_some]
    rw [i1]
    simp only [Option.bind_some]
    rw [i3]
    simp only [Option.bind_some]
    rw [i2]
    simp only [Option.bind_some]
    rw [← hf, rp_25_9 hd30]
    simp only [Option.bind_some]
    rw [rp_25_10 hd30]
    simp only [Option.bind_some]
    rw [rp_25_12 hd30]
    simp only [Option.bind_some]
    rw [← hu2, r2]
    simp only [Option.bind_some]
    rw [rp_25_13 hd30]
    simp only [Option.bind_some]
    rw [rp_25_7 hd30]
    simp only [Option.bind_some]
    rw [← hu3, e28, ri_16_1]
    simp only [Option.bind_some]
    rw [ri_19 ho, z_up_ne (by decide), ← hv]
    rfl
  · by_cases h : j = oc
    · subst h
      rw [if_pos rfl, hv, zu_eq, u3q 20 (by decide), u1q 20 (by decide)]
    · rw [if_neg h, hv, zu_ne (by omega), z_up_ne (by decide), u3q 20 (by decide), u1q 20 (by decide)]
/-- the first k are settled -/
def z_RA (nh np ns nq nd k : Nat) (u w : mg_Rg) : Prop :=
  (tH nh (u 4) (w 43) ∧ tP np (u 7) (w 43) ∧ tS ns (u 10) (w 43) ∧ tT (u 13) (w 43) ∧ tQ nq (u 23) (w 43)) ∧ nd ≤ 30 ∧ u 26 0 = nN nd ∧ w 43 5 = nN nd ∧ (∀ d < nd, z_dw nh nq (w 43) d) ∧ tL (u 17) (u 20) (w 43) ∧
  (∀ d < nd, ∀ j < 15, j ≠ 8 → u 26 (1 + d * 15 + j) = w 43 (208 + 16 * d + j)) ∧
  (∀ d < nd, (d < k ∨ ¬ w 43 (208 + 16 * d + 7) = 0) → u 26 (1 + d * 15 + 8) = w 43 (208 + 16 * d + 8)) ∧
  (∀ d < nd, k ≤ d → w 43 (208 + 16 * d + 7) = 0 → u 26 (1 + d * 15 + 8) = w 48 d ∧ (∃ t ≤ 999, w 48 d = nN t) ∧ (w 43 (208 + 16 * d + 5) = -1 → w 48 d = 0)) ∧
  ∀ q < nq, (w 43 (138 + 9 * q + 6)).toNatClampNeg + (w 43 (138 + 9 * q + 7)).toNatClampNeg + z_sumc (u 26) (w 43) q nd ≤ 9999
theorem z_sumc_cg {f f' g g' : z_Ro} {q : Nat} : ∀ {n : Nat}, (∀ d < n, g' (208 + 16 * d + 5) = g (208 + 16 * d + 5) ∧ f' (1 + d * 15 + 8) = f (1 + d * 15 + 8)) → z_sumc f' g' q n = z_sumc f g q n := by
  intro n
  induction n with
  | zero => exact fun _ => rfl
  | succ n ih =>
    intro h
    unfold z_sumc
    rw [ih (fun d hd => h d (by omega)), (h n (by omega)).1, (h n (by omega)).2]
theorem z_sumc_sum {f g : z_Ro} {q : Nat} : ∀ {n : Nat}, (∀ d < n, f (1 + d * 15 + 8) = g (208 + 16 * d + 8)) → z_sumc f g q n = z_sum g q n := by
  intro n
  induction n with
  | zero => exact fun _ => rfl
  | succ n ih =>
    intro h
    unfold z_sumc z_sum
    rw [ih (fun d hd => h d (by omega)), h n (by omega)]
theorem z_RA_ctx {nh np ns nq nd k : Nat} {u w : mg_Rg} (R : z_RA nh np ns nq nd k u w) : c_ctx nh np ns nq nd u (w 43) := by
  obtain ⟨⟨a1, a2, a3, a4, a5⟩, b1, b2, b3, b4, b5, b6, b7, b8, b9⟩ := R
  exact ⟨a1, a2, a3, a4, a5, b1, b2, fun d hd => ⟨by omega, fun j hj => b6 d hd j (by omega) (by omega)⟩, b4⟩
theorem p_settle {nh np ns nq nd : Nat} : ∀ r m m' k n, ∀ u w : mg_Rg, z_RA nh np ns nq nd k u w → k + r = nd → r < m → r < m' → ∃ v w' n', O_assessLodged_L4 m n (nN k) u = some (n', v) ∧ M_ends_L142 m' n (nN k) w = some (n', w') ∧ z_RA nh np ns nq nd nd v w' ∧ (∀ c, c ≠ 26 → c ≠ 28 → c ≠ 17 → c ≠ 20 → v c = u c) ∧ (∀ c, c ≠ 43 → w' c = w c) ∧ ∀ i, i = 6 ∨ (192 ≤ i ∧ i < 200) → w' 43 i = w 43 i := by
  intro r
  induction r with
  | zero =>
    intro m m' k n u w R hk hm hm'
    have h30 := R.2.1
    have h1 : T_count_25 u = some (nN nd) := by rw [← R.2.2.1]; rfl
    cases m with
    | zero => omega
    | succ m =>
      cases m' with
      | zero => omega
      | succ m' =>
        have e : k = nd := by omega
        subst e
        refine ⟨u, w, n, ?_, ?_, R, fun _ _ _ _ _ => rfl, fun _ _ => rfl, fun _ _ => rfl⟩
        · unfold O_assessLodged_L4
          rw [h1]
          simp only [Option.bind_some]
          rw [if_pos ((z_le (by omega) (by omega)).mpr (by omega))]
        · unfold M_ends_L142
          rw [R.2.2.2.1, if_pos ((z_le (by omega) (by omega)).mpr (by omega))]
  | succ r ih =>
    intro m m' k n u w R hk hm hm'
    have C := z_RA_ctx R
    obtain ⟨⟨HH, HP, HS, HT, HQ⟩, h30, h260, h5, hdw, HL, hrow, hst, hlo, hco⟩ := id R
    have hQ6 := HQ.1
    have hkd : k < nd := by omega
    have h1 : T_count_25 u = some (nN nd) := by rw [← h260]; rfl
    cases m with
    | zero => omega
    | succ m =>
      cases m' with
      | zero => omega
      | succ m' =>
        have hstat : O_hasStatus (nN k) 0 u = some (if decide (w 43 (208 + 16 * k + 7) = 0) = true then 1 else 0) := by
          unfold O_hasStatus
          rw [c8_7 (C.2.2.2.2.2.2.2.1 k hkd)]
          simp only [Option.bind_some]
          by_cases h : w 43 (208 + 16 * k + 7) = 0
          · rw [if_pos h, decide_eq_true h]
            rfl
          · rw [if_neg h, decide_eq_false h]
            rfl
        by_cases h7 : w 43 (208 + 16 * k + 7) = 0
        · obtain ⟨x0, ⟨qq, qq1, qq2, qq3⟩, ⟨oc, oc1, oc2⟩, x5, x7, x8, x9⟩ := hdw k hkd
          obtain ⟨y1, ⟨t, ht, y2⟩, y3⟩ := hlo k hkd (Nat.le_refl _) h7
          obtain ⟨w1, hw1⟩ : ∃ w1, w1 = mg_up w 43 (208 + 16 * k + 8) (w 48 k) := ⟨_, rfl⟩
          have w1o : ∀ i, i ≠ 208 + 16 * k + 8 → w1 43 i = w 43 i := fun i hi => by rw [hw1, zu_ne hi]
          have w18 : w1 43 (208 + 16 * k + 8) = w 48 k := by rw [hw1, zu_eq]
          have hH1 : tH nh (u 4) (w1 43) := tH_cg (fun _ _ => rfl) (fun i hi => w1o i (by omega)) HH
          have hP1 : tP np (u 7) (w1 43) := tP_cg (fun _ _ => rfl) (fun i hi => w1o i (by omega)) HP
          have hS1 : tS ns (u 10) (w1 43) := tS_cg (fun _ _ => rfl) (fun i hi => w1o i (by omega)) HS
          obtain ⟨qr, hqr⟩ : ∃ qr : Int32, (w 43 (208 + 16 * k + 5) = -1 → qr = 0) ∧ ∀ q < nq, w 43 (208 + 16 * k + 5) = nN q → qr = w 43 (138 + 9 * q + 3) := by
            rcases x5 with e | ⟨q, hq, e⟩
            · exact ⟨0, fun _ => rfl, fun q hq e2 => absurd (e2.symm.trans e) (z_ne1 (by omega))⟩
            · exact ⟨w 43 (138 + 9 * q + 3), fun e2 => absurd (e.symm.trans e2) (z_ne1 (by omega)), fun q' hq' e2 => by
                have := (z_inj (by omega) (by omega)).mp (e.symm.trans e2)
                rw [this]⟩
          obtain ⟨rate, hrate⟩ : ∃ rate, rate = s_grD (w 43) k := ⟨_, rfl⟩
          have hg1 : s_grD (w1 43) k = s_grD (w 43) k := s_grD_cg HH HP HS (fun i hi => w1o i (by omega)) (fun j hj => w1o _ (by omega)) x0
          obtain ⟨Y, s1, s2, s9, s10, s12, s13, s7, sF, sK, sO⟩ := m_settles (y := w1) (nq := nq) (d := k) (q0 := qq) (oc := oc) (qr := qr) (first := w 43 (208 + 16 * k + 2) * w 48 k / nN qq * qr / 1000) (rate := rate) (second := (w 43 (208 + 16 * k + 2) - w 43 (208 + 16 * k + 2) * w 48 k / nN qq) * rate / 1000) hH1 hP1 hS1 hQ6 (by omega) (by rw [w1o _ (by omega)]; exact x0) qq1 qq2 (by rw [w1o _ (by omega)]; exact qq3) oc1 (by rw [w1o _ (by omega)]; exact oc2) (by rw [w1o _ (by omega)]; exact x5) (by
            rw [w1o _ (by omega)]
            exact ⟨hqr.1, fun q hq e => by rw [w1o _ (by omega)]; exact hqr.2 q hq e⟩) (by rw [w1o _ (by omega), w18]) (by rw [hg1]; exact hrate) (by rw [w1o _ (by omega), w18])
          obtain ⟨v, t1, t2, t9, t10, t12, t13, t7, tO, t17, t172, t20⟩ := c_assess C hkd qq1 qq2 qq3 oc1 oc2 hqr (first := w 43 (208 + 16 * k + 2) * w 48 k / nN qq * qr / 1000) (rate := rate) (second := (w 43 (208 + 16 * k + 2) - w 43 (208 + 16 * k + 2) * w 48 k / nN qq) * rate / 1000) (by rw [y1]) hrate (by rw [y1])
          have hsrc : s_gfD (w1 43) rate k = s_gfD (w 43) rate k := s_gfD_cg HH HP (fun i hi => w1o i (by omega)) (fun j hj => w1o _ (by omega)) x0 rate
          rw [hsrc] at s13
          have go : ∀ i, i ≠ 7 → i ≠ 200 + oc → (i < 208 + 16 * k ∨ 208 + 16 * k + 16 ≤ i) → Y 43 i = w 43 i := fun i i1 i2 i3 => by rw [sO i i1 i2 (by omega) (by omega) (by omega) (by omega) (by omega), w1o i (by omega)]
          have gr : ∀ j < 15, j ≠ 7 → j ≠ 8 → j ≠ 9 → j ≠ 10 → j ≠ 12 → j ≠ 13 → Y 43 (208 + 16 * k + j) = w 43 (208 + 16 * k + j) := fun j hj j7 j8 j9 j10 j12 j13 => by rw [sO _ (by omega) (by omega) (by omega) (by omega) (by omega) (by omega) (by omega), w1o _ (by omega)]
          have g8 : Y 43 (208 + 16 * k + 8) = w 48 k := by rw [sO _ (by omega) (by omega) (by omega) (by omega) (by omega) (by omega) (by omega), w18]
          have v8 : v 26 (1 + k * 15 + 8) = w 48 k := by rw [tO _ (by omega) (by omega) (by omega) (by omega) (by omega), y1]
          have Y48 : Y 48 = w 48 := by rw [s2 48 (by decide), hw1, z_up_ne (by decide)]
          have g5a : ∀ d < nd, Y 43 (208 + 16 * d + 5) = w 43 (208 + 16 * d + 5) := fun d hd => by
            by_cases h : d = k
            · subst h
              exact gr 5 (by omega) (by omega) (by omega) (by omega) (by omega) (by omega) (by omega)
            · exact go _ (by omega) (by omega) (by omega)
          have R3 : z_RA nh np ns nq nd (k + 1) v Y := by
            refine ⟨⟨tH_cg (fun i _ => by rw [t2 4 (by decide) (by decide) (by decide) (by decide)]) (fun i hi => go i (by omega) (by omega) (by omega)) HH, tP_cg (fun i _ => by rw [t2 7 (by decide) (by decide) (by decide) (by decide)]) (fun i hi => go i (by omega) (by omega) (by omega)) HP, tS_cg (fun i _ => by rw [t2 10 (by decide) (by decide) (by decide) (by decide)]) (fun i hi => go i (by omega) (by omega) (by omega)) HS, tT_cg (fun i _ => by rw [t2 13 (by decide) (by decide) (by decide) (by decide)]) (fun i hi => go i (by omega) (by omega) (by omega)) HT, tQ_cg (fun i _ => by rw [t2 23 (by decide) (by decide) (by decide) (by decide)]) (fun i hi => go i (by omega) (by omega) (by omega)) HQ⟩, h30, by rw [tO 0 (by omega) (by omega) (by omega) (by omega) (by omega)]; exact h260, by rw [go 5 (by omega) (by omega) (by omega)]; exact h5, fun d hd => ?_, ?_, fun d hd j hj hj8 => ?_, fun d hd h => ?_, fun d hd h1 h2 => ?_, fun q hq => ?_⟩
            · by_cases h : d = k
              · subst h
                refine ⟨by rw [show Y 43 (208 + 16 * d) = w 43 (208 + 16 * d) from gr 0 (by omega) (by omega) (by omega) (by omega) (by omega) (by omega) (by omega)]; exact x0, ⟨qq, qq1, qq2, by rw [gr 1 (by omega) (by omega) (by omega) (by omega) (by omega) (by omega) (by omega)]; exact qq3⟩, ⟨oc, oc1, by rw [gr 3 (by omega) (by omega) (by omega) (by omega) (by omega) (by omega) (by omega)]; exact oc2⟩, by rw [g5a d hd]; exact x5, ⟨1, by omega, s7⟩, ⟨t, ht, g8.trans y2⟩, fun h => ?_⟩
                rw [s7, g5a d hd] at h
                rw [g8]
                exact y3 (h.resolve_left (by decide))
              · exact z_dw_cg2 (fun j hj => go _ (by omega) (by omega) (by omega)) (hdw d hd)
            · obtain ⟨l1, l2, l3, l4⟩ := HL
              refine ⟨by rw [t17 1 (by omega), go 0 (by omega) (by omega) (by omega)]; exact l1, by rw [t172, sF, w1o 7 (by omega), l2], by rw [t17 3 (by omega), go 8 (by omega) (by omega) (by omega)]; exact l3, fun j hj => ?_⟩
              rw [t20 j hj, sK j hj, w1o _ (by omega), l4 j hj]
            · by_cases h : d = k
              · subst h
                by_cases j7 : j = 7
                · subst j7
                  rw [t7, s7]
                · by_cases j9 : j = 9
                  · subst j9
                    rw [t9, s9]
                  · by_cases j10 : j = 10
                    · subst j10
                      rw [t10, s10]
                    · by_cases j12 : j = 12
                      · subst j12
                        rw [t12, s12]
                      · by_cases j13 : j = 13
                        · subst j13
                          rw [t13, s13]
                        · rw [tO _ (by omega) (by omega) (by omega) (by omega) (by omega), gr j hj j7 hj8 j9 j10 j12 j13]
                          exact hrow d hd j hj hj8
              · rw [tO _ (by omega) (by omega) (by omega) (by omega) (by omega), go _ (by omega) (by omega) (by omega)]
                exact hrow d hd j hj hj8
            · by_cases h2 : d = k
              · subst h2
                rw [v8, g8]
              · rw [tO _ (by omega) (by omega) (by omega) (by omega) (by omega), go _ (by omega) (by omega) (by omega)]
                refine hst d hd ?_
                rw [go _ (by omega) (by omega) (by omega)] at h
                exact h.imp (fun h => by omega) id
            · rw [go _ (by omega) (by omega) (by omega)] at h2
              rw [tO _ (by omega) (by omega) (by omega) (by omega) (by omega), Y48, go _ (by omega) (by omega) (by omega)]
              exact hlo d hd (by omega) h2
            · rw [go (138 + 9 * q + 6) (by omega) (by omega) (by omega), go (138 + 9 * q + 7) (by omega) (by omega) (by omega), z_sumc_cg (f := u 26) (f' := v 26) (g := w 43) (g' := Y 43) (fun d hd => ⟨g5a d hd, tO _ (by omega) (by omega) (by omega) (by omega) (by omega)⟩)]
              exact hco q hq
          obtain ⟨v', w', n', e1, e2, e3, e4, e5, e6⟩ := ih m m' (k + 1) (n + 1) v Y R3 (by omega) (by omega) (by omega)
          refine ⟨v', w', n', ?_, ?_, e3, fun c c1 c2 c3 c4 => (e4 c c1 c2 c3 c4).trans (t2 c c1 c2 c3 c4), fun c c1 => by rw [e5 c c1, s2 c c1, hw1, z_up_ne c1], fun i hi => by rw [e6 i hi, go i (by omega) (by omega) (by omega)]⟩
          · unfold O_assessLodged_L4
            rw [h1]
            simp only [Option.bind_some]
            rw [if_neg (z_nle (by omega) (by omega) (by omega)), hstat, decide_eq_true h7]
            simp only [Option.bind_some]
            rw [if_neg (by decide), t1, zo_1]
            exact e1
          · unfold M_ends_L142
            rw [h5, if_neg (z_nle (by omega) (by omega) (by omega)), mdeclAt_7 (by omega)]
            simp only [Option.bind_some]
            rw [if_pos h7, z_g30 (by omega), zb_208, zo_8, zg (by omega), z_nat (by omega), z_nat (by omega), ← hw1, s1, zo_1]
            exact e2
        · have R3 : z_RA nh np ns nq nd (k + 1) u w := by
            refine ⟨⟨HH, HP, HS, HT, HQ⟩, h30, h260, h5, hdw, HL, hrow, fun d hd h => ?_, fun d hd h1 h2 => hlo d hd (by omega) h2, hco⟩
            refine hst d hd ?_
            by_cases e : d = k
            · subst e
              exact Or.inr h7
            · exact h.imp (fun h => by omega) id
          obtain ⟨v', w', n', e1, e2, e3, e4, e5, e6⟩ := ih m m' (k + 1) n u w R3 (by omega) (by omega) (by omega)
          refine ⟨v', w', n', ?_, ?_, e3, e4, e5, e6⟩
          · unfold O_assessLodged_L4
            rw [h1]
            simp only [Option.bind_some]
            rw [if_neg (z_nle (by omega) (by omega) (by omega)), hstat, decide_eq_false h7]
            simp only [Option.bind_some]
            rw [if_pos (by decide), zo_1]
            exact e1
          · unfold M_ends_L142
            rw [h5, if_neg (z_nle (by omega) (by omega) (by omega)), mdeclAt_7 (by omega)]
            simp only [Option.bind_some]
            rw [if_neg h7, zo_1]
            exact e2
theorem m_gets0 {nd : Nat} (h30 : nd ≤ 30) : ∀ r m k, ∀ w : mg_Rg, w 43 5 = nN nd → k + r = nd → r < m → ∃ w', M_ends_L4 m 0 (nN k) w = some w' ∧ (∀ c, c ≠ 48 → w' c = w c) ∧ ∀ d, w' 48 d = if k ≤ d ∧ d < nd then 0 else w 48 d := by
  intro r
  induction r with
  | zero =>
    intro m k w hw hk hm
    cases m with
    | zero => omega
    | succ m =>
      refine ⟨w, ?_, fun _ _ => rfl, fun d => by rw [if_neg (by omega)]⟩
      unfold M_ends_L4
      rw [hw, if_pos ((z_le (by omega) (by omega)).mpr (by omega))]
  | succ r ih =>
    intro m k w hw hk hm
    cases m with
    | zero => omega
    | succ m =>
      obtain ⟨w', a1, a2, a3⟩ := ih m (k + 1) (mg_up w 48 k 0) (by rw [z_up_ne (by decide)]; exact hw) (by omega) (by omega)
      refine ⟨w', ?_, fun c hc => (a2 c hc).trans (z_up_ne hc), fun d => ?_⟩
      · unfold M_ends_L4
        rw [hw, if_neg (z_nle (by omega) (by omega) (by omega)), z_g30 (by omega), z_nat (by omega), zo_1]
        exact a1
      · rw [a3 d]
        by_cases h : d = k
        · subst h
          rw [if_neg (by omega), if_pos (by omega), zu_eq]
        · rw [zu_ne h]
          by_cases h2 : k + 1 ≤ d ∧ d < nd
          · rw [if_pos h2, if_pos (by omega)]
          · rw [if_neg h2, if_neg (by omega)]
/-- the end of a call that writes the reference's gets too -/
theorem z_fin2 {u1 u2 w : mg_Rg} (hR : z_R u2) (h12 : ∀ k, k ≠ 44 → k ≠ 42 → u2 k = u1 k) (hw : ∀ k, k ≠ 43 → k ≠ 48 → w k = u2 k) (hrel : z_rel u1 (w 43)) : z_I (mg_up w 42 0 0) := by
  refine z_I_thrown 0 ⟨z_rel_congr (fun k hk => ?_) hrel, z_R_congr (fun k hk => hw k ?_ ?_) (fun i _ => by rw [hw 0 (by decide) (by decide)]) (fun i _ => by rw [hw 42 (by decide) (by decide)]) hR⟩
  · have : k ≠ 43 ∧ k ≠ 44 ∧ k ≠ 42 ∧ k ≠ 48 := by
      simp only [z_ks, List.mem_cons, List.not_mem_nil, or_false] at hk
      omega
    rw [hw k this.1 this.2.2.2, h12 k this.2.1 this.2.2.1]
  · rintro rfl
    revert hk
    decide
  · rintro rfl
    revert hk
    decide
theorem ob_20 : Ob_20 z_I := by
  intro u hu a
  obtain ⟨nh, np, ns, nq, nd, na, HH, HP, HS, HQ, HD, HC, HA, HT, HL⟩ := hu.1
  have hQ6 := HQ.1
  have hD30 := HD.1
  by_cases ha : a < 1 ∨ 99 < a
  · refine ⟨.inr 1, u, 0, mg_up u 42 0 1, 1, ?_, ?_, rfl, Or.inr (Or.inl ⟨rfl, rfl⟩), z_I_thrown 1 hu⟩
    · simp only [C_pass, z_win_no ha, Option.bind_some, zz_10, ↓reduceIte]
    · simp only [M_pass, z_min_no ha, Option.bind_some, zz_10, ↓reduceIte, z_fails]
  by_cases hday : u 43 0 + a ≤ 999
  case neg =>
    refine ⟨.inr 2, u, 0, mg_up u 42 0 2, 2, ?_, ?_, rfl, Or.inr (Or.inr ⟨rfl, rfl⟩), z_I_thrown 2 hu⟩
    · simp only [C_pass, z_win_yes ha, e_day HL, hday, Option.bind_some, zz_10, ↓reduceIte]
    · simp only [M_pass, z_min_yes ha, hday, Option.bind_some, zz_10, ↓reduceIte, z_fails]
  obtain ⟨u0, k1, k2, k3⟩ := z_write hu
  have hRS : ∀ w : mg_Rg, w 43 = u 43 → (∀ d < nd, w 48 d = 0) → z_RS nh np ns nq nd 0 u0 w := by
    intro w hw h48
    unfold z_RS
    rw [hw, k2 4 (by decide), k2 7 (by decide), k2 10 (by decide), k2 13 (by decide), k2 23 (by decide), k2 26 (by decide), k2 17 (by decide), k2 20 (by decide)]
    refine ⟨⟨HH, HP, HS, HT, HQ⟩, hD30, HD.2.1, HD.2.2.1, HD.2.2.2.2, HL, fun d hd j hj _ => HD.2.2.2.1 d hd j hj, fun d hd _ => HD.2.2.2.1 d hd 8 (by omega), fun d hd h7 => ⟨?_, ⟨0, by omega, h48 d hd⟩, fun _ => h48 d hd⟩, fun q hq => ?_⟩
    · rw [HD.2.2.2.1 d hd 8 (by omega), h48 d hd]
      exact (HD.2.2.2.2 d hd).2.2.2.2.2.2 (Or.inl h7)
    · rw [z_sumc_sum (fun d hd => HD.2.2.2.1 d hd 8 (by omega))]
      exact HC q hq
  have hRA : ∀ v w : mg_Rg, z_RS nh np ns nq nd nq v w → z_RA nh np ns nq nd 0 v w := by
    rintro v w ⟨r1, r2, r3, r4, r5, r6, r7, r8, r9, r10⟩
    exact ⟨r1, r2, r3, r4, r5, r6, r7, fun d hd h => r8 d hd (h.resolve_left (by omega)), fun d hd _ h7 => ⟨(r9 d hd h7).1, (r9 d hd h7).2.1, fun h => (r9 d hd h7).2.2 (Or.inl h)⟩, r10⟩
  have hF : ∀ n : Nat, n ≤ 30 → n < mg_F := fun n hn => by show n < 6000; omega
  obtain ⟨w0, g1, g2, g3⟩ := m_gets0 hD30 nd mg_F 0 u0 (by rw [k2 43 (by decide)]; exact HD.2.2.1) (by omega) (hF nd hD30)
  obtain ⟨v, w1, c1, c2, c3, c4, c5, c6⟩ := p_serve (a := a) nq mg_F mg_F 0 u0 w0 (hRS w0 (by rw [g2 43 (by decide), k2 43 (by decide)]) (fun d hd => by rw [g3 d, if_pos (by omega)])) (by omega) (hF nq (by omega)) (hF nq (by omega))
  obtain ⟨vv, w2, n, d1, d2, d3, d4, d5, d6⟩ := p_settle nd mg_F mg_F 0 0 v w1 (hRA v w1 c3) (by omega) (hF nd hD30) (hF nd hD30)
  obtain ⟨u1, hu1⟩ : ∃ u1, u1 = mg_up vv 17 1 (vv 17 1 + a) := ⟨_, rfl⟩
  have vq : ∀ c, c ≠ 26 → c ≠ 28 → c ≠ 17 → c ≠ 20 → c ≠ 23 → vv c = u0 c := fun c x1 x2 x3 x4 x5 => (d4 c x1 x2 x3 x4).trans (c4 c x5 x1 x2)
  have u1q : ∀ c, c ≠ 26 → c ≠ 28 → c ≠ 17 → c ≠ 20 → c ≠ 23 → u1 c = u0 c := fun c x1 x2 x3 x4 x5 => by rw [hu1, z_up_ne x3, vq c x1 x2 x3 x4 x5]
  obtain ⟨u2, m1, m2, m3⟩ := k3 u1 (fun c hc => u1q c (by rintro rfl; revert hc; decide) (by rintro rfl; revert hc; decide) (by rintro rfl; revert hc; decide) (by rintro rfl; revert hc; decide) (by rintro rfl; revert hc; decide))
  have g43 : u1 43 = u 43 := (u1q 43 (by decide) (by decide) (by decide) (by decide) (by decide)).trans (k2 43 (by decide))
  have u243 : u2 43 = u 43 := (m2 43 (by decide) (by decide)).trans g43
  obtain ⟨x0, s1, s2, s3⟩ := m_gets0 hD30 nd mg_F 0 u2 (by rw [u243]; exact HD.2.2.1) (by omega) (hF nd hD30)
  obtain ⟨v', x1, e1, e2, e3, e4, e5, e6⟩ := p_serve (a := a) nq mg_F mg_F 0 u0 x0 (hRS x0 (by rw [s2 43 (by decide), u243]) (fun d hd => by rw [s3 d, if_pos (by omega)])) (by omega) (hF nq (by omega)) (hF nq (by omega))
  have ev : v' = v := Option.some.inj (e1.symm.trans c1)
  subst ev
  obtain ⟨vv', x2, n', f1, f2, f3, f4, f5, f6⟩ := p_settle nd mg_F mg_F 0 0 v' x1 (hRA v' x1 e3) (by omega) (hF nd hD30) (hF nd hD30)
  have enn : (n', vv') = (n, vv) := Option.some.inj (f1.symm.trans d1)
  obtain ⟨rfl, rfl⟩ := Prod.mk.inj enn
  obtain ⟨W, hW⟩ : ∃ W, W = mg_up x2 43 0 (x2 43 0 + a) := ⟨_, rfl⟩
  obtain ⟨⟨A1, A2, A3, A4, A5⟩, A6, A7, A8, A9, ⟨L1, L2, L3, L4⟩, A11, A12, A13, A14⟩ := f3
  have hC : C_pass a u = some (.inl n', u1) := by
    unfold C_pass O_assessLodged
    rw [z_win_yes ha]
    simp only [Option.bind_some]
    rw [if_neg (by decide), e_day HL]
    simp only [Option.bind_some]
    rw [if_pos hday, k1]
    simp only [Option.bind_some]
    rw [show C_pass_L53 mg_F a 0 u0 = some v' from c1]
    simp only [Option.bind_some]
    rw [show O_assessLodged_L4 mg_F 0 0 v' = some (n', vv') from d1]
    simp only [Option.bind_some]
    unfold Lg_day
    rw [rg_16_0]
    simp only [Option.bind_some]
    rw [rp_16_0]
    simp only [Option.bind_some]
    rw [hu1]
  have hM : M_pass a u1 = some (n', mg_up W 42 0 0) := by
    unfold M_pass M_ends
    rw [z_min_yes ha]
    simp only [Option.bind_some]
    rw [if_neg (by decide), g43, if_pos hday, m1]
    simp only [Option.bind_some]
    rw [show M_ends_L4 mg_F 0 0 u2 = some x0 from s1]
    simp only [Option.bind_some]
    rw [show M_ends_L29 mg_F 0 0 x0 = some x1 from e2]
    simp only [Option.bind_some]
    rw [show M_ends_L142 mg_F 0 0 x1 = some (n', x2) from f2]
    simp only [Option.bind_some]
    rw [← hW]
    rfl
  refine ⟨_, _, _, _, 0, hC, hM, rfl, Or.inl ⟨_, rfl, rfl, rfl⟩, z_fin2 m3 m2 (fun k q1 q2 => by rw [hW, z_up_ne q1, f5 k q1, e5 k q1 q2, s2 k q2]) ?_⟩
  have u1v : ∀ c, c ≠ 17 → u1 c = vv' c := fun c hc => by rw [hu1, z_up_ne hc]
  have Wx : ∀ i, i ≠ 0 → W 43 i = x2 43 i := fun i hi => by rw [hW, zu_ne hi]
  have full : ∀ d < nd, ∀ j < 15, vv' 26 (1 + d * 15 + j) = x2 43 (208 + 16 * d + j) := fun d hd j hj => by
    by_cases h : j = 8
    · subst h
      exact A12 d hd (Or.inl hd)
    · exact A11 d hd j hj h
  refine ⟨nh, np, ns, nq, nd, na, tH_cg (fun i _ => by rw [u1v 4 (by decide)]) (fun i hi => Wx i (by omega)) A1, tP_cg (fun i _ => by rw [u1v 7 (by decide)]) (fun i hi => Wx i (by omega)) A2, tS_cg (fun i _ => by rw [u1v 10 (by decide)]) (fun i hi => Wx i (by omega)) A3, tQ_cg (fun i _ => by rw [u1v 23 (by decide)]) (fun i hi => Wx i (by omega)) A5, tD_cg (f := vv' 26) (g := x2 43) (fun i _ => by rw [u1v 26 (by decide)]) (fun i hi => Wx i (by omega)) ⟨A6, A7, A8, full, A9⟩, tC_cg (g := x2 43) hQ6 A6 (fun i hi => Wx i (by omega)) (fun q hq => ?_), tA_cg (f := u 31) (g := u 43) (fun i _ => by rw [u1v 31 (by decide), vq 31 (by decide) (by decide) (by decide) (by decide) (by decide), k2 31 (by decide)]) (fun i hi => by rw [Wx i (by omega), f6 i hi, e6 i hi, s2 43 (by decide), u243]) HA, tT_cg (fun i _ => by rw [u1v 13 (by decide)]) (fun i hi => Wx i (by omega)) A4, ?_⟩
  · rw [← z_sumc_sum (f := vv' 26) (fun d hd => full d hd 8 (by omega))]
    exact A14 q hq
  · refine ⟨by rw [hu1, zu_eq, hW, zu_eq, L1], by rw [hu1, zu_ne (by omega), Wx 7 (by omega)]; exact L2, by rw [hu1, zu_ne (by omega), Wx 8 (by omega)]; exact L3, fun j hj => ?_⟩
    rw [u1v 20 (by decide), Wx _ (by omega)]
    exact L4 j hj
