abbrev zv (x : UInt32) : Int := Jvm.FP.Core.zval Jvm.FP.Core.b32 (Jvm.FP.Core.val32 x)
theorem ff_nn {r : UInt32} (h : Jvm.FP.Core.val32 r ≠ .nan) : vf_n32 r := by
  have h1 := (Jvm.FP.Core.ne_nan32 r).mp h
  unfold vf_n32
  rw [UInt32.le_iff_toNat_le, UInt32.toNat_and]
  show r.toNat &&& (2 ^ 31 - 1) ≤ 2139095040
  rw [Nat.and_two_pow_sub_one_eq_mod]
  exact h1
theorem ff_nnF {r : UInt32} (h : Jvm.FP.Core.FFin r) : vf_n32 r := ff_nn h.ne_nan
theorem ff_add_le {x y V : UInt32} (hx : Jvm.FP.Core.FFin x) (hy : Jvm.FP.Core.FFin y) (hV : Jvm.FP.Core.val32 V ≠ .nan) (h : zv x + zv y ≤ zv V) : zv (FP.fadd x y) ≤ zv V := by
  obtain ⟨s, c, q, ex⟩ := hx
  obtain ⟨t, d, r, ey⟩ := hy
  obtain ⟨sg, n, e, e1, e2, e3⟩ := Jvm.FP.Core.sum_units (ex ▸ Jvm.FP.Core.val32_fits x) (ey ▸ Jvm.FP.Core.val32_fits y)
  have h2 : zv (FP.fadd x y) = Jvm.FP.Core.zval Jvm.FP.Core.b32 (Jvm.FP.Core.round Jvm.FP.Core.b32 (.fin sg n e)) := by
    refine (congrArg (Jvm.FP.Core.zval Jvm.FP.Core.b32) (Jvm.FP.Core.val32_fadd x y)).trans ?_
    rw [ex, ey, e1]
  rw [h2]
  refine Jvm.FP.Core.zval_round_le Jvm.FP.Core.good_b32 (Jvm.FP.Core.val32_fits V) hV (e0 := Jvm.FP.Core.b32.qmin) (Int.le_refl _) e2 ?_
  rw [e3, ← ex, ← ey, Int.sub_self]
  show _ ≤ _ * (1 : Int)
  rw [Int.mul_one]
  exact h
theorem ff_add_ge {x y V : UInt32} (hx : Jvm.FP.Core.FFin x) (hy : Jvm.FP.Core.FFin y) (hV : Jvm.FP.Core.val32 V ≠ .nan) (h : zv V ≤ zv x + zv y) : zv V ≤ zv (FP.fadd x y) := by
  obtain ⟨s, c, q, ex⟩ := hx
  obtain ⟨t, d, r, ey⟩ := hy
  obtain ⟨sg, n, e, e1, e2, e3⟩ := Jvm.FP.Core.sum_units (ex ▸ Jvm.FP.Core.val32_fits x) (ey ▸ Jvm.FP.Core.val32_fits y)
  have h2 : zv (FP.fadd x y) = Jvm.FP.Core.zval Jvm.FP.Core.b32 (Jvm.FP.Core.round Jvm.FP.Core.b32 (.fin sg n e)) := by
    refine (congrArg (Jvm.FP.Core.zval Jvm.FP.Core.b32) (Jvm.FP.Core.val32_fadd x y)).trans ?_
    rw [ex, ey, e1]
  rw [h2]
  refine Jvm.FP.Core.zval_round_ge Jvm.FP.Core.good_b32 (Jvm.FP.Core.val32_fits V) hV (e0 := Jvm.FP.Core.b32.qmin) (Int.le_refl _) e2 ?_
  rw [e3, ← ex, ← ey, Int.sub_self]
  show _ * (1 : Int) ≤ _
  rw [Int.mul_one]
  exact h
theorem ff_pow : (2 ^ (Jvm.FP.Core.b32.qmin - 2 * Jvm.FP.Core.b32.qmin).toNat : Nat) = 713623846352979940529142984724747568191373312 := by decide +kernel
theorem ff_mul_le {x y V : UInt32} (hx : Jvm.FP.Core.FFin x) (hy : Jvm.FP.Core.FFin y) (hV : Jvm.FP.Core.val32 V ≠ .nan) (h : zv x * zv y ≤ zv V * 713623846352979940529142984724747568191373312) : zv (FP.fmul x y) ≤ zv V := by
  obtain ⟨s, c, q, ex⟩ := hx
  obtain ⟨t, d, r, ey⟩ := hy
  obtain ⟨e1, e2, e3⟩ := Jvm.FP.Core.product_units (ex ▸ Jvm.FP.Core.val32_fits x) (ey ▸ Jvm.FP.Core.val32_fits y)
  have h2 : zv (FP.fmul x y) = Jvm.FP.Core.zval Jvm.FP.Core.b32 (Jvm.FP.Core.round Jvm.FP.Core.b32 (.fin (s != t) (c * d) (q + r))) := by
    refine (congrArg (Jvm.FP.Core.zval Jvm.FP.Core.b32) (Jvm.FP.Core.val32_fmul x y)).trans ?_
    rw [ex, ey, e1]
  rw [h2]
  refine Jvm.FP.Core.zval_round_le Jvm.FP.Core.good_b32 (Jvm.FP.Core.val32_fits V) hV (e0 := 2 * Jvm.FP.Core.b32.qmin) (by decide) e2 ?_
  rw [e3, Jvm.FP.Core.signed_xor, ff_pow]
  have e4 : zv x = Jvm.FP.Core.signed s (Jvm.FP.Core.zmag Jvm.FP.Core.b32 (.fin s c q)) := by unfold zv; rw [ex]; rfl
  have e5 : zv y = Jvm.FP.Core.signed t (Jvm.FP.Core.zmag Jvm.FP.Core.b32 (.fin t d r)) := by unfold zv; rw [ey]; rfl
  rw [← e4, ← e5]
  exact h
theorem ff_mul_ge {x y V : UInt32} (hx : Jvm.FP.Core.FFin x) (hy : Jvm.FP.Core.FFin y) (hV : Jvm.FP.Core.val32 V ≠ .nan) (h : zv V * 713623846352979940529142984724747568191373312 ≤ zv x * zv y) : zv V ≤ zv (FP.fmul x y) := by
  obtain ⟨s, c, q, ex⟩ := hx
  obtain ⟨t, d, r, ey⟩ := hy
  obtain ⟨e1, e2, e3⟩ := Jvm.FP.Core.product_units (ex ▸ Jvm.FP.Core.val32_fits x) (ey ▸ Jvm.FP.Core.val32_fits y)
  have h2 : zv (FP.fmul x y) = Jvm.FP.Core.zval Jvm.FP.Core.b32 (Jvm.FP.Core.round Jvm.FP.Core.b32 (.fin (s != t) (c * d) (q + r))) := by
    refine (congrArg (Jvm.FP.Core.zval Jvm.FP.Core.b32) (Jvm.FP.Core.val32_fmul x y)).trans ?_
    rw [ex, ey, e1]
  rw [h2]
  refine Jvm.FP.Core.zval_round_ge Jvm.FP.Core.good_b32 (Jvm.FP.Core.val32_fits V) hV (e0 := 2 * Jvm.FP.Core.b32.qmin) (by decide) e2 ?_
  rw [e3, Jvm.FP.Core.signed_xor, ff_pow]
  have e4 : zv x = Jvm.FP.Core.signed s (Jvm.FP.Core.zmag Jvm.FP.Core.b32 (.fin s c q)) := by unfold zv; rw [ex]; rfl
  have e5 : zv y = Jvm.FP.Core.signed t (Jvm.FP.Core.zmag Jvm.FP.Core.b32 (.fin t d r)) := by unfold zv; rw [ey]; rfl
  rw [← e4, ← e5]
  exact h
theorem ff_add_nn {x y : UInt32} (hx : Jvm.FP.Core.val32 x ≠ .nan) (hy : Jvm.FP.Core.FFin y) : Jvm.FP.Core.val32 (FP.fadd x y) ≠ .nan :=
  (Jvm.FP.Core.notNaN_iff32 _).mp (Jvm.FP.Core.fadd_out ((Jvm.FP.Core.notNaN_iff32 _).mpr hx) hy)
theorem ff_mul_nn {x y : UInt32} (hx : Jvm.FP.Core.FFin x) (hy : Jvm.FP.Core.FFin y) : Jvm.FP.Core.val32 (FP.fmul x y) ≠ .nan :=
  (Jvm.FP.Core.notNaN_iff32 _).mp (Jvm.FP.Core.fmul_out hx hy)
/-- between two finite ones -/
theorem ff_fin {r : UInt32} (hn : Jvm.FP.Core.val32 r ≠ .nan) (h1 : -730750818665451459101842416358141509827966271488 ≤ zv r) (h2 : zv r ≤ 730750818665451459101842416358141509827966271488) : Jvm.FP.Core.FFin r := by
  unfold zv at h1 h2
  match e : Jvm.FP.Core.val32 r with
  | .nan => exact absurd e hn
  | .fin s c q => exact ⟨s, c, q, e⟩
  | .inf true => rw [e] at h1; exact absurd h1 (by decide +kernel)
  | .inf false => rw [e] at h2; exact absurd h2 (by decide +kernel)
theorem ff_25 : Jvm.FP.Core.FFin 1075838976 ∧ zv 1075838976 = 1784059615882449851322857461811868920478433280 := ⟨(Jvm.FP.Core.fin_bits32 _).mpr (by decide), by decide +kernel⟩
theorem ff_125 : Jvm.FP.Core.FFin 1040187392 ∧ zv 1040187392 = 89202980794122492566142873090593446023921664 := ⟨(Jvm.FP.Core.fin_bits32 _).mpr (by decide), by decide +kernel⟩
theorem ff_001 : Jvm.FP.Core.FFin 981668463 ∧ zv 981668463 = 713623880248293833044497743771827605340160 := ⟨(Jvm.FP.Core.fin_bits32 _).mpr (by decide), by decide +kernel⟩
theorem ff_32 : Jvm.FP.Core.FFin 1107296256 ∧ zv 1107296256 = 22835963083295358096932575511191922182123945984 := ⟨(Jvm.FP.Core.fin_bits32 _).mpr (by decide), by decide +kernel⟩
theorem ff_20 : Jvm.FP.Core.FFin 1101004800 ∧ zv 1101004800 = 14272476927059598810582859694494951363827466240 := ⟨(Jvm.FP.Core.fin_bits32 _).mpr (by decide), by decide +kernel⟩
theorem ff_1000 : Jvm.FP.Core.FFin 1148846080 ∧ zv 1148846080 = 713623846352979940529142984724747568191373312000 := ⟨(Jvm.FP.Core.fin_bits32 _).mpr (by decide), by decide +kernel⟩
theorem ff_0 : Jvm.FP.Core.FFin 0 ∧ zv 0 = 0 := ⟨(Jvm.FP.Core.fin_bits32 _).mpr (by decide), by decide +kernel⟩
theorem ff_neg {x : UInt32} (h : Jvm.FP.Core.FFin x) : Jvm.FP.Core.FFin (Jvm.FP.Core.fneg x) ∧ zv (Jvm.FP.Core.fneg x) = - zv x := by
  constructor
  · obtain ⟨s, c, q, e⟩ := h
    exact ⟨!s, c, q, (Jvm.FP.Core.val32_fneg x).trans (by rw [e]; rfl)⟩
  · exact (congrArg (Jvm.FP.Core.zval Jvm.FP.Core.b32) (Jvm.FP.Core.val32_fneg x)).trans (Jvm.FP.Core.zval_negate _ _)
theorem ff_i2f {n : Int32} {k : Nat} (h : k ≤ 8) (e : n.toInt = (k : Int)) : Jvm.FP.Core.FFin (FP.i2f n) ∧ zv (FP.i2f n) = (k : Int) * 713623846352979940529142984724747568191373312 := by
  refine ⟨Jvm.FP.Core.i2f_fin n, ?_⟩
  have h2 := Jvm.FP.Core.whole_zval Jvm.FP.Core.good_b32 (Jvm.FP.Core.val32_fits (FP.i2f n)) (Jvm.FP.Core.i2f_int (a := n) (by omega))
  have h3 : (2 ^ (-Jvm.FP.Core.b32.qmin).toNat : Nat) = 713623846352979940529142984724747568191373312 := by decide +kernel
  rw [h3, e] at h2
  exact h2
/-- the current behind a tick -/
theorem ff_cur {x a : UInt32} {k : Nat} (hk : k ≤ 8) (hx : Jvm.FP.Core.FFin x) (x0 : 0 ≤ zv x) (x1 : zv x ≤ 22835963083295358096932575511191922182123945984) (ha : Jvm.FP.Core.FFin a) (ea : zv a = (k : Int) * 713623846352979940529142984724747568191373312) :
    (Jvm.FP.Core.FFin (FP.fmul a 1075838976) ∧ Jvm.FP.Core.FFin (FP.fsub (FP.fmul a 1075838976) x) ∧ Jvm.FP.Core.FFin (FP.fmul (FP.fsub (FP.fmul a 1075838976) x) 1040187392)) ∧
    (Jvm.FP.Core.FFin (FP.fadd x (FP.fmul (FP.fsub (FP.fmul a 1075838976) x) 1040187392)) ∧ 0 ≤ zv (FP.fadd x (FP.fmul (FP.fsub (FP.fmul a 1075838976) x) 1040187392)) ∧ zv (FP.fadd x (FP.fmul (FP.fsub (FP.fmul a 1075838976) x) 1040187392)) ≤ 22835963083295358096932575511191922182123945984) := by
  have b1 : zv (FP.fmul a 1075838976) ≤ zv 1101004800 := ff_mul_le ha ff_25.1 ff_20.1.ne_nan (by rw [ea, ff_25.2, ff_20.2]; omega)
  have b0 : zv 0 ≤ zv (FP.fmul a 1075838976) := ff_mul_ge ha ff_25.1 ff_0.1.ne_nan (by rw [ea, ff_25.2, ff_0.2]; omega)
  have bn := ff_mul_nn ha ff_25.1
  rw [ff_20.2] at b1
  rw [ff_0.2] at b0
  generalize hb : FP.fmul a 1075838976 = b at b1 b0 bn ⊢
  have bf : Jvm.FP.Core.FFin b := ff_fin bn (by omega) (by omega)
  obtain ⟨nf, nz⟩ := ff_neg hx
  have ed : FP.fsub b x = FP.fadd b (Jvm.FP.Core.fneg x) := Jvm.FP.Core.fsub_eq b x
  have d1 : zv (FP.fadd b (Jvm.FP.Core.fneg x)) ≤ zv 1101004800 := ff_add_le bf nf ff_20.1.ne_nan (by rw [nz, ff_20.2]; omega)
  have d0 : zv (Jvm.FP.Core.fneg x) ≤ zv (FP.fadd b (Jvm.FP.Core.fneg x)) := ff_add_ge bf nf nf.ne_nan (by omega)
  have dn := ff_add_nn bf.ne_nan nf
  have dz : 14272476927059598810582859694494951363827466240 ≤ zv x → zv (FP.fadd b (Jvm.FP.Core.fneg x)) ≤ zv 0 := fun h => ff_add_le bf nf ff_0.1.ne_nan (by rw [nz, ff_0.2]; omega)
  rw [ff_20.2] at d1
  rw [nz] at d0
  rw [ff_0.2] at dz
  rw [ed]
  generalize hd : FP.fadd b (Jvm.FP.Core.fneg x) = d at d1 d0 dn dz ⊢
  have df : Jvm.FP.Core.FFin d := ff_fin dn (by omega) (by omega)
  have e0 : zv (Jvm.FP.Core.fneg x) ≤ zv (FP.fmul d 1040187392) := ff_mul_ge df ff_125.1 nf.ne_nan (by rw [nz, ff_125.2]; omega)
  have e1 : zv (FP.fmul d 1040187392) ≤ zv 1075838976 := ff_mul_le df ff_125.1 ff_25.1.ne_nan (by rw [ff_25.2, ff_125.2]; omega)
  have ez : 14272476927059598810582859694494951363827466240 ≤ zv x → zv (FP.fmul d 1040187392) ≤ zv 0 := fun h => ff_mul_le df ff_125.1 ff_0.1.ne_nan (by have := dz h; rw [ff_0.2, ff_125.2]; omega)
  have en := ff_mul_nn df ff_125.1
  rw [nz] at e0
  rw [ff_25.2] at e1
  rw [ff_0.2] at ez
  generalize he : FP.fmul d 1040187392 = e at e0 e1 ez en ⊢
  have ef : Jvm.FP.Core.FFin e := ff_fin en (by omega) (by omega)
  have c0 : zv 0 ≤ zv (FP.fadd x e) := ff_add_ge hx ef ff_0.1.ne_nan (by rw [ff_0.2]; omega)
  have c1 : zv (FP.fadd x e) ≤ zv 1107296256 := ff_add_le hx ef ff_32.1.ne_nan (by
    rw [ff_32.2]
    by_cases h : 14272476927059598810582859694494951363827466240 ≤ zv x
    · have := ez h; omega
    · omega)
  have cn := ff_add_nn hx.ne_nan ef
  rw [ff_0.2] at c0
  rw [ff_32.2] at c1
  exact ⟨⟨bf, df, ef⟩, ff_fin cn (by omega) (by omega), c0, c1⟩
/-- what the charge gains -/
theorem ff_chg {x : UInt32} (hx : Jvm.FP.Core.FFin x) (x0 : 0 ≤ zv x) (x1 : zv x ≤ 22835963083295358096932575511191922182123945984) : Jvm.FP.Core.FFin (FP.fmul x 981668463) := by
  have b1 : zv (FP.fmul x 981668463) ≤ zv 1107296256 := ff_mul_le hx ff_001.1 ff_32.1.ne_nan (by rw [ff_001.2, ff_32.2]; omega)
  have b0 : zv 0 ≤ zv (FP.fmul x 981668463) := ff_mul_ge hx ff_001.1 ff_0.1.ne_nan (by rw [ff_001.2, ff_0.2]; omega)
  rw [ff_32.2] at b1
  rw [ff_0.2] at b0
  exact ff_fin (ff_mul_nn hx ff_001.1) (by omega) (by omega)
theorem ff_th {x : UInt32} (hx : Jvm.FP.Core.val32 x ≠ .nan) : vf_n32 (FP.fmul x 1148846080) := by
  refine ff_nn ((Jvm.FP.Core.notNaN_iff32 _).mp (Jvm.FP.Core.fmul_out' ((Jvm.FP.Core.notNaN_iff32 _).mpr hx) ff_1000.1 ?_))
  intro h
  have h2 := (Jvm.FP.Core.zero_bits232 _).mp h
  revert h2
  decide
theorem ff_du {x y : Int32} (hy : ¬ y = 0) : vf_n32 (FP.fdiv (FP.i2f x) (FP.i2f y)) :=
  ff_nn ((Jvm.FP.Core.notNaN_iff32 _).mp (Jvm.FP.Core.fdiv_out (Jvm.FP.Core.i2f_fin x).notNaN (Jvm.FP.Core.i2f_fin y) (fun h => Jvm.FP.Core.i2f_ne_zero hy ((Jvm.FP.Core.zero_bits232 _).mp h))))
