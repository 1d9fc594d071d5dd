/-! floats: the nearest one, and what follows -/
theorem rn_near {s t : Bool} {c c1 c2 : Nat} {q q1 q2 e0 : Int} {s2 : Bool} (hR : Jvm.FP.Core.round Jvm.FP.Core.b32 (.fin s c q) = .fin t c1 q1) (hV : Jvm.FP.Core.fits Jvm.FP.Core.b32 (.fin s2 c2 q2)) (h0 : e0 ≤ Jvm.FP.Core.b32.qmin) (h0e : e0 ≤ q) :
    ((Jvm.FP.Core.inUnits c q e0 : Int) - ((Jvm.FP.Core.zmag Jvm.FP.Core.b32 (.fin t c1 q1) * 2 ^ (Jvm.FP.Core.b32.qmin - e0).toNat : Nat) : Int)).natAbs ≤ ((Jvm.FP.Core.inUnits c q e0 : Int) - ((Jvm.FP.Core.zmag Jvm.FP.Core.b32 (.fin s2 c2 q2) * 2 ^ (Jvm.FP.Core.b32.qmin - e0).toNat : Nat) : Int)).natAbs := by
  have hR' : Jvm.FP.Core.roundRatio Jvm.FP.Core.b32 s c 1 q = .fin t c1 q1 := hR
  have hfit := Jvm.FP.Core.roundRatio_fits Jvm.FP.Core.good_b32 s c (B := 1) (by decide) q
  rw [hR'] at hfit
  have hd := Jvm.FP.Core.roundRatio_nearest Jvm.FP.Core.good_b32 (B := 1) (by decide) hR' hV.1 hV.2.1 h0 h0e
  unfold Jvm.FP.Core.distance at hd
  rw [Jvm.FP.Core.units_fin hfit h0, Jvm.FP.Core.units_fin hV h0] at hd
  rw [Int.natCast_one, Int.mul_one, Int.mul_one] at hd
  exact hd
theorem zv_nn {x : UInt32} {s : Bool} {c : Nat} {q : Int} (e : Jvm.FP.Core.val32 x = .fin s c q) (h : 0 ≤ zv x) : zv x = (Jvm.FP.Core.zmag Jvm.FP.Core.b32 (.fin s c q) : Int) := by
  unfold zv Jvm.FP.Core.zval at h ⊢
  rw [e] at h ⊢
  unfold Jvm.FP.Core.signed at h ⊢
  cases s with
  | false => rfl
  | true =>
    show -((Jvm.FP.Core.zmag Jvm.FP.Core.b32 (.fin true c q) : Nat) : Int) = _
    have h' : 0 ≤ -((Jvm.FP.Core.zmag Jvm.FP.Core.b32 (.fin true c q) : Nat) : Int) := h
    omega
/-- a product of two that aren't less than 0, that is finite: no float is nearer -/
theorem mul_near {x y V : UInt32} (hx : Jvm.FP.Core.FFin x) (hy : Jvm.FP.Core.FFin y) (hV : Jvm.FP.Core.FFin V) (x0 : 0 ≤ zv x) (y0 : 0 ≤ zv y) (V0 : 0 ≤ zv V) (hf : Jvm.FP.Core.FFin (FP.fmul x y)) (f0 : 0 ≤ zv (FP.fmul x y)) :
    (zv x * zv y - zv (FP.fmul x y) * 713623846352979940529142984724747568191373312).natAbs ≤ (zv x * zv y - zv V * 713623846352979940529142984724747568191373312).natAbs := by
  obtain ⟨s, c, q, ex⟩ := hx
  obtain ⟨t, d, r, ey⟩ := hy
  obtain ⟨s2, c2, q2, eV⟩ := hV
  obtain ⟨s3, c3, q3, eF⟩ := hf
  obtain ⟨e1, e2, e3⟩ := Jvm.FP.Core.product_units (ex ▸ Jvm.FP.Core.val32_fits x) (ey ▸ Jvm.FP.Core.val32_fits y)
  have hR : Jvm.FP.Core.round Jvm.FP.Core.b32 (.fin (s != t) (c * d) (q + r)) = .fin s3 c3 q3 := by
    rw [← eF]
    refine Eq.trans ?_ (Jvm.FP.Core.val32_fmul x y).symm
    rw [ex, ey, e1]
  have hd := rn_near hR (eV ▸ Jvm.FP.Core.val32_fits V) (e0 := 2 * Jvm.FP.Core.b32.qmin) (by decide) e2
  rw [ff_pow] at hd
  rw [zv_nn eF f0, zv_nn eV V0, zv_nn ex x0, zv_nn ey y0]
  rw [e3, Int.natCast_mul, Int.natCast_mul, Int.natCast_mul] at hd
  generalize (Jvm.FP.Core.zmag Jvm.FP.Core.b32 (.fin s c q) : Int) * (Jvm.FP.Core.zmag Jvm.FP.Core.b32 (.fin t d r) : Int) = P at hd ⊢
  omega
theorem mul_near0 {x y : UInt32} (hx : Jvm.FP.Core.FFin x) (hy : Jvm.FP.Core.FFin y) (x0 : 0 ≤ zv x) (y0 : 0 ≤ zv y) (hf : Jvm.FP.Core.FFin (FP.fmul x y)) (f0 : 0 ≤ zv (FP.fmul x y)) : zv (FP.fmul x y) * 713623846352979940529142984724747568191373312 ≤ 2 * (zv x * zv y) := by
  have h := mul_near hx hy ff_0.1 x0 y0 (by rw [ff_0.2]; exact Int.le_refl 0) hf f0
  have h2 : 0 ≤ zv x * zv y := Int.mul_nonneg x0 y0
  rw [ff_0.2] at h
  generalize zv x * zv y = P at h h2 ⊢
  omega
theorem add_near0 {x y : UInt32} (hx : Jvm.FP.Core.FFin x) (hy : Jvm.FP.Core.FFin y) (h0 : 0 ≤ zv x + zv y) (hf : Jvm.FP.Core.FFin (FP.fadd x y)) : zv (FP.fadd x y) ≤ 2 * (zv x + zv y) := by
  obtain ⟨s, c, q, ex⟩ := hx
  obtain ⟨t, d, r, ey⟩ := hy
  obtain ⟨s3, c3, q3, eF⟩ := hf
  obtain ⟨sg, n, e, e1, e2, e3⟩ := Jvm.FP.Core.sum_units (ex ▸ Jvm.FP.Core.val32_fits x) (ey ▸ Jvm.FP.Core.val32_fits y)
  have hR : Jvm.FP.Core.round Jvm.FP.Core.b32 (.fin sg n e) = .fin s3 c3 q3 := by
    rw [← eF]
    refine Eq.trans ?_ (Jvm.FP.Core.val32_fadd x y).symm
    rw [ex, ey, e1]
  have hd := rn_near (s2 := false) (c2 := 0) (q2 := Jvm.FP.Core.b32.qmin) hR (⟨by decide, Int.le_refl _, by decide, Or.inl rfl⟩ : Jvm.FP.Core.fits Jvm.FP.Core.b32 (.fin false 0 Jvm.FP.Core.b32.qmin)) (e0 := Jvm.FP.Core.b32.qmin) (Int.le_refl _) e2
  rw [Int.sub_self] at hd
  have e4 : zv x + zv y = Jvm.FP.Core.signed sg (Jvm.FP.Core.inUnits n e Jvm.FP.Core.b32.qmin) := by rw [e3, ← ex, ← ey]
  have e5 : Jvm.FP.Core.zmag Jvm.FP.Core.b32 (.fin false 0 Jvm.FP.Core.b32.qmin) = 0 := by decide
  have e6 : zv (FP.fadd x y) ≤ (Jvm.FP.Core.zmag Jvm.FP.Core.b32 (.fin s3 c3 q3) : Int) := by
    unfold zv Jvm.FP.Core.zval
    rw [eF]
    unfold Jvm.FP.Core.signed
    split <;> omega
  rw [e5] at hd
  rw [e4] at h0 ⊢
  unfold Jvm.FP.Core.signed at h0 ⊢
  simp only [Int.toNat_zero, Nat.pow_zero, Nat.mul_one] at hd
  generalize Jvm.FP.Core.zmag Jvm.FP.Core.b32 (.fin s3 c3 q3) = F at hd e6
  generalize Jvm.FP.Core.inUnits n e Jvm.FP.Core.b32.qmin = U at hd h0 ⊢
  generalize zv (FP.fadd x y) = G at e6 ⊢
  cases sg with
  | true =>
    simp only [if_true] at h0 ⊢
    omega
  | false =>
    simp only [Bool.false_eq_true, if_false] at h0 ⊢
    omega
/-- the current stays at most 20 -/
theorem cur20 {x a : UInt32} {k : Nat} (hk : k ≤ 8) (hx : Jvm.FP.Core.FFin x) (x0 : 0 ≤ zv x) (x1 : zv x ≤ zv 1101004800) (ha : Jvm.FP.Core.FFin a) (ea : zv a = (k : Int) * 713623846352979940529142984724747568191373312) :
    zv (FP.fadd x (FP.fmul (FP.fsub (FP.fmul a 1075838976) x) 1040187392)) ≤ zv 1101004800 := by
  have z20 := ff_20.2
  obtain ⟨⟨bf, df, ef⟩, cf, -, -⟩ := ff_cur hk hx x0 (by rw [z20] at x1; omega) ha ea
  have b1 : zv (FP.fmul a 1075838976) ≤ zv 1101004800 := ff_mul_le ha ff_25.1 ff_20.1.ne_nan (by rw [ea, ff_25.2, ff_20.2]; omega)
  obtain ⟨nf, nz⟩ := ff_neg hx
  have ed : FP.fsub (FP.fmul a 1075838976) x = FP.fadd (FP.fmul a 1075838976) (Jvm.FP.Core.fneg x) := Jvm.FP.Core.fsub_eq _ x
  rw [ed] at df ef cf ⊢
  generalize FP.fmul a 1075838976 = b at *
  by_cases q : 0 ≤ zv b + zv (Jvm.FP.Core.fneg x)
  · have d1 := add_near0 bf nf q df
    have d0 : zv 0 ≤ zv (FP.fadd b (Jvm.FP.Core.fneg x)) := ff_add_ge bf nf ff_0.1.ne_nan (by rw [ff_0.2]; exact q)
    rw [ff_0.2] at d0
    rw [nz] at d1 q
    generalize FP.fadd b (Jvm.FP.Core.fneg x) = d at *
    have e0 : zv 0 ≤ zv (FP.fmul d 1040187392) := ff_mul_ge df ff_125.1 ff_0.1.ne_nan (by rw [ff_0.2, ff_125.2]; omega)
    rw [ff_0.2] at e0
    have e1 := mul_near0 df ff_125.1 d0 (by rw [ff_125.2]; omega) ef e0
    rw [ff_125.2] at e1
    generalize FP.fmul d 1040187392 = g at *
    exact ff_add_le hx ef ff_20.1.ne_nan (by omega)
  · have d1 : zv (FP.fadd b (Jvm.FP.Core.fneg x)) ≤ zv 0 := ff_add_le bf nf ff_0.1.ne_nan (by rw [ff_0.2]; omega)
    rw [ff_0.2] at d1
    generalize FP.fadd b (Jvm.FP.Core.fneg x) = d at *
    have e1 : zv (FP.fmul d 1040187392) ≤ zv 0 := ff_mul_le df ff_125.1 ff_0.1.ne_nan (by rw [ff_0.2, ff_125.2]; omega)
    rw [ff_0.2] at e1
    generalize FP.fmul d 1040187392 = g at *
    have c1 : zv (FP.fadd x g) ≤ zv x := ff_add_le hx ef hx.ne_nan (by omega)
    omega
theorem pPk_max {x y : UInt32} (hx : Jvm.FP.Core.FFin x) (hy : Jvm.FP.Core.FFin y) : (pPk x y = x ∨ pPk x y = y) ∧ zv x ≤ zv (pPk x y) ∧ zv y ≤ zv (pPk x y) := by
  unfold pPk
  by_cases q : zv x ≤ zv y
  · have h : FP.fcmp x y = some .lt ∨ FP.fcmp x y = some .eq := Jvm.FP.Core.fcmp_le.mpr ⟨hx.ne_nan, hy.ne_nan, q⟩
    have h2 : Op.cmpValue (FP.fcmp x y) CmpOp.l ≤ 0 := by rcases h with h | h <;> (rw [h]; decide)
    rw [if_pos h2]
    exact ⟨Or.inr rfl, q, Int.le_refl _⟩
  · have h : FP.fcmp y x = some .lt := Jvm.FP.Core.fcmp_lt.mpr ⟨hy.ne_nan, hx.ne_nan, Int.not_le.mp q⟩
    have h3 : FP.fcmp x y = some .gt := by
      have k1 := (Jvm.FP.Core.fcmp_lt_key hy.ne_nan hx.ne_nan).mp h
      exact (Jvm.FP.Core.fcmp_gt_key hx.ne_nan hy.ne_nan).mpr k1
    have h2 : ¬ Op.cmpValue (FP.fcmp x y) CmpOp.l ≤ 0 := by rw [h3]; decide
    rw [if_neg h2]
    exact ⟨Or.inl rfl, Int.le_refl _, by omega⟩
theorem i2f_N {b : Nat} (h : b ≤ 2 ^ 24) : Jvm.FP.Core.FFin (FP.i2f (nI b)) ∧ zv (FP.i2f (nI b)) = (b : Int) * 713623846352979940529142984724747568191373312 := by
  refine ⟨Jvm.FP.Core.i2f_fin _, ?_⟩
  have e : (nI b).toInt = (b : Int) := nI_toInt (by omega)
  have h2 := Jvm.FP.Core.whole_zval Jvm.FP.Core.good_b32 (Jvm.FP.Core.val32_fits (FP.i2f (nI b))) (Jvm.FP.Core.i2f_int (a := nI b) (by omega))
  have h3 : (2 ^ (-Jvm.FP.Core.b32.qmin).toNat : Nat) = 713623846352979940529142984724747568191373312 := by decide +kernel
  rw [h3, e] at h2
  exact h2
theorem fin_big {r : UInt32} (hn : Jvm.FP.Core.val32 r ≠ .nan) (h1 : 0 ≤ zv r) (h2 : zv r ≤ 766247770432944429179173513575154591809369561091801088) : Jvm.FP.Core.FFin r := by
  unfold zv at h1 h2
  match e : Jvm.FP.Core.val32 r with
  | .nan => exact absurd e hn
  | .fin s c q => exact ⟨s, c, q, e⟩
  | .inf true => rw [e] at h1; exact absurd h1 (by decide +kernel)
  | .inf false => rw [e] at h2; exact absurd h2 (by decide +kernel)
theorem ff_1 : Jvm.FP.Core.FFin 1065353216 ∧ zv 1065353216 = 713623846352979940529142984724747568191373312 := ⟨(Jvm.FP.Core.fin_bits32 _).mpr (by decide), by decide +kernel⟩
theorem XF.tick {b : Nat} {φ : Nat → UInt32} {n : Int32} (h : XF b φ) (hb : b < 2 ^ 20) (hn : ∃ k, k ≤ 8 ∧ n = nI k) : XF (b + 1) (pFlo φ n) := by
  obtain ⟨k, hk, rfl⟩ := hn
  obtain ⟨h0, h1, h2, g0, g1, g2, g3, g4⟩ := h
  have e : (nI k).toInt = (k : Int) := nI_toInt (by omega)
  have z20 := ff_20.2
  obtain ⟨a1, a2⟩ := ff_i2f hk e
  obtain ⟨-, c1, c2, c3⟩ := ff_cur hk h0 g0 (by rw [z20] at g2; omega) a1 a2
  have c4 := cur20 hk h0 g0 (by omega) a1 a2
  have ec : pCur (φ 0) (nI k) = FP.fadd (φ 0) (FP.fmul (FP.fsub (FP.fmul (FP.i2f (nI k)) 1075838976) (φ 0)) 1040187392) := rfl
  rw [← ec] at c1 c2 c3 c4
  generalize hc : pCur (φ 0) (nI k) = x at c1 c2 c3 c4
  obtain ⟨p1, p2, p3⟩ := pPk_max c1 h1
  have r1 := ff_chg c1 c2 c3
  have r0 : zv 0 ≤ zv (FP.fmul x 981668463) := ff_mul_ge c1 ff_001.1 ff_0.1.ne_nan (by rw [ff_0.2, ff_001.2]; omega)
  have r2 : zv (FP.fmul x 981668463) ≤ zv 1065353216 := ff_mul_le c1 ff_001.1 ff_1.1.ne_nan (by rw [ff_1.2, ff_001.2]; rw [z20] at c4; omega)
  rw [ff_0.2] at r0
  rw [ff_1.2] at r2
  obtain ⟨i1, i2⟩ := i2f_N (b := b + 1) (by omega)
  have s1 : zv (φ 2) ≤ zv (pChg (φ 2) x) := ff_add_ge h2 r1 h2.ne_nan (by omega)
  have s2 : zv (pChg (φ 2) x) ≤ zv (FP.i2f (nI (b + 1))) := ff_add_le h2 r1 i1.ne_nan (by rw [i2]; omega)
  rw [i2] at s2
  have s3 : Jvm.FP.Core.FFin (pChg (φ 2) x) := fin_big (ff_add_nn h2.ne_nan r1) (by omega) (by omega)
  have q0 : (pFlo φ (nI k)) 0 = x := by rw [← hc]; rfl
  have q1 : (pFlo φ (nI k)) 1 = pPk x (φ 1) := by rw [← hc]; rfl
  have q2 : (pFlo φ (nI k)) 2 = pChg (φ 2) x := by rw [← hc]; rfl
  unfold XF
  rw [q0, q1, q2]
  refine ⟨c1, ?_, s3, c2, p2, ?_, by omega, s2⟩
  · rcases p1 with p | p <;> rw [p]
    · exact c1
    · exact h1
  · rcases p1 with p | p <;> rw [p]
    · exact c4
    · exact g2
/-! thousandths -/
def th (x : UInt32) : Int32 := FP.f2i (FP.fmul x 1148846080)
theorem f2i_nn {x : UInt32} (hx : Jvm.FP.Core.FFin x) (h : 0 ≤ zv x) : ∃ z : Nat, zv x = (z : Int) ∧ (FP.f2i x).toInt = min (2 ^ 31 - 1) ((z / Jvm.FP.Core.one32 : Nat) : Int) := by
  have h2 : (FP.f2i x).toInt = _ := Jvm.FP.Core.f2i_val hx.ne_nan
  rw [h2]
  unfold zv Jvm.FP.Core.zval at h ⊢
  generalize Jvm.FP.Core.zmag Jvm.FP.Core.b32 (Jvm.FP.Core.val32 x) = z at h ⊢
  refine ⟨z, ?_, ?_⟩
  · unfold Jvm.FP.Core.signed at h ⊢
    split at h
    · rename_i q; rw [if_pos q]; omega
    · rename_i q; rw [if_neg q]
  · unfold Jvm.FP.Core.signed at h ⊢
    split at h
    · rename_i q
      have hz : z = 0 := by omega
      subst hz
      rw [if_pos q, Nat.zero_div]
      decide
    · rename_i q
      rw [if_neg q]
      generalize z / Jvm.FP.Core.one32 = y
      omega
theorem th_fin {x : UInt32} (hx : Jvm.FP.Core.FFin x) (h0 : 0 ≤ zv x) (h1 : zv x ≤ ((2 ^ 20 : Nat) : Int) * 713623846352979940529142984724747568191373312) : Jvm.FP.Core.FFin (FP.fmul x 1148846080) ∧ 0 ≤ zv (FP.fmul x 1148846080) := by
  have r0 : zv 0 ≤ zv (FP.fmul x 1148846080) := ff_mul_ge hx ff_1000.1 ff_0.1.ne_nan (by rw [ff_0.2, ff_1000.2]; omega)
  have hz : zv 1317011456 = 766247770432944429179173513575154591809369561091801088 := by decide +kernel
  have r1 : zv (FP.fmul x 1148846080) ≤ zv 1317011456 := ff_mul_le hx ff_1000.1 ((Jvm.FP.Core.fin_bits32 _).mpr (by decide) : Jvm.FP.Core.FFin 1317011456).ne_nan (by rw [hz, ff_1000.2]; omega)
  rw [ff_0.2] at r0
  rw [hz] at r1
  exact ⟨fin_big (ff_mul_nn hx ff_1000.1) r0 r1, r0⟩
theorem zv_bits {x y : UInt32} (hx : Jvm.FP.Core.FFin x) (hy : Jvm.FP.Core.FFin y) (h : zv x = zv y) (h0 : 0 < zv x) : x = y := by
  have k1 := (Jvm.FP.Core.fcmp_eq_key hx.ne_nan hy.ne_nan).mp (Jvm.FP.Core.fcmp_eq.mpr ⟨hx.ne_nan, hy.ne_nan, h⟩)
  have k2 := (Jvm.FP.Core.fcmp_lt_key ff_0.1.ne_nan hx.ne_nan).mp (Jvm.FP.Core.fcmp_lt.mpr ⟨ff_0.1.ne_nan, hx.ne_nan, by have := ff_0.2; unfold zv at *; omega⟩)
  have k3 : Jvm.FP.Core.fkey 0 = 0 := by decide
  rw [k3] at k2
  unfold Jvm.FP.Core.fkey at k1 k2
  apply UInt32.toNat_inj.mp
  split at k1 <;> split at k1 <;> split at k2 <;> omega
theorem th_mono {x y : UInt32} (hx : Jvm.FP.Core.FFin x) (hy : Jvm.FP.Core.FFin y) (h0 : 0 ≤ zv x) (h : zv x ≤ zv y) (h1 : zv y ≤ ((2 ^ 20 : Nat) : Int) * 713623846352979940529142984724747568191373312) : th x ≤ th y := by
  obtain ⟨fx, x0⟩ := th_fin hx h0 (by omega)
  obtain ⟨fy, y0⟩ := th_fin hy (by omega) h1
  have key : zv (FP.fmul x 1148846080) ≤ zv (FP.fmul y 1148846080) := by
    have z1000 := ff_1000.2
    by_cases q : zv x = zv y
    · by_cases q0 : zv x = 0
      · have : zv (FP.fmul x 1148846080) ≤ zv 0 := ff_mul_le hx ff_1000.1 ff_0.1.ne_nan (by rw [q0, ff_0.2]; omega)
        rw [ff_0.2] at this
        omega
      · rw [zv_bits hx hy q (by omega)]; exact Int.le_refl _
    · have n1 := mul_near hx ff_1000.1 fy h0 (by rw [z1000]; omega) y0 fx x0
      have n2 := mul_near hy ff_1000.1 fx (by omega) (by rw [z1000]; omega) x0 fy y0
      rw [z1000] at n1 n2
      generalize zv (FP.fmul x 1148846080) = U at *
      generalize zv (FP.fmul y 1148846080) = V at *
      omega
  obtain ⟨a, a1, a2⟩ := f2i_nn fx x0
  obtain ⟨b, b1, b2⟩ := f2i_nn fy y0
  have hab : a ≤ b := by omega
  have hd : a / Jvm.FP.Core.one32 ≤ b / Jvm.FP.Core.one32 := Nat.div_le_div_right hab
  rw [Int32.le_iff_toInt_le]
  show (FP.f2i (FP.fmul x 1148846080)).toInt ≤ (FP.f2i (FP.fmul y 1148846080)).toInt
  rw [a2, b2]
  generalize a / Jvm.FP.Core.one32 = a' at *
  generalize b / Jvm.FP.Core.one32 = b' at *
  omega
theorem th_nn {x : UInt32} (hx : Jvm.FP.Core.FFin x) (h0 : 0 ≤ zv x) (h1 : zv x ≤ ((2 ^ 20 : Nat) : Int) * 713623846352979940529142984724747568191373312) : ¬ th x < 0 := by
  obtain ⟨fx, x0⟩ := th_fin hx h0 h1
  obtain ⟨a, a1, a2⟩ := f2i_nn fx x0
  rw [Int32.lt_iff_toInt_lt]
  show ¬ (FP.f2i (FP.fmul x 1148846080)).toInt < _
  rw [a2, show (0 : Int32).toInt = 0 from rfl]
  generalize a / Jvm.FP.Core.one32 = a'
  omega
theorem th_20 {x : UInt32} (hx : Jvm.FP.Core.FFin x) (h0 : 0 ≤ zv x) (h1 : zv x ≤ zv 1101004800) : th x ≤ 20000 := by
  have h : th 1101004800 = 20000 := by decide +kernel
  rw [← h]
  exact th_mono hx ff_20.1 h0 h1 (by rw [ff_20.2]; omega)
