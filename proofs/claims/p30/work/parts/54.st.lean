section ST
variable {A B : AS} {b : Nat} {x y z : Int32}
theorem o_setWidth (ok : aOk b A) : aOk (b + 7000) (f_setWidth A x y).2 := by
  unfold f_setWidth
  by_cases hv : vD (aV A) x
  · rw [if_pos hv]
    have hd := (vD_cl ok.inv hv).1
    by_cases q : pIn y 4 40 = 0
    · rw [if_pos q]; exact ok.mono (by omega)
    · rw [if_neg q]
      have hr : rg y 4 40 := pIn_rgr rfl rfl (by decide) (by decide) q
      exact ok.rec (b' := b + 7000) (by omega) ((good_sW ok.1 hr).mono (by omega))
  · rw [if_neg hv]; exact ok.mono (by omega)
theorem o_setGuard (ok : aOk b A) : aOk (b + 7000) (f_setGuard A x y).2 := by
  unfold f_setGuard
  by_cases hv : vD (aV A) x
  · rw [if_pos hv]
    have hd := (vD_cl ok.inv hv).1
    by_cases q : pIn y 0 3 = 0
    · rw [if_pos q]; exact ok.mono (by omega)
    · rw [if_neg q]
      have hr : rg y 0 3 := pIn_rgr rfl rfl (by decide) (by decide) q
      exact ok.rec (b' := b + 7000) (by omega) ((good_same ok.1 (inv_fd (d := cl x) ok.inv 2 (by decide) ⟨fun _ => hr, fun e => absurd e (by decide), fun e => absurd e (by decide), fun e => absurd e (by decide), fun e => absurd e (by decide)⟩) (by rw [s2_at, if_neg (by omega)])).mono (by omega))
  · rw [if_neg hv]; exact ok.mono (by omega)
theorem o_setBrightness (ok : aOk b A) : aOk (b + 7000) (f_setBrightness A x y).2 := by
  unfold f_setBrightness
  by_cases hv : vD (aV A) x
  · rw [if_pos hv]
    have hd := (vD_cl ok.inv hv).1
    by_cases q : pIn y 0 15 = 0
    · rw [if_pos q]; exact ok.mono (by omega)
    · rw [if_neg q]
      have hr : rg y 0 15 := pIn_rgr rfl rfl (by decide) (by decide) q
      exact ok.rec (b' := b + 7000) (by omega) ((good_same ok.1 (inv_fd (d := cl x) ok.inv 3 (by decide) ⟨fun e => absurd e (by decide), fun _ => hr, fun e => absurd e (by decide), fun e => absurd e (by decide), fun e => absurd e (by decide)⟩) (by rw [s2_at, if_neg (by omega)])).mono (by omega))
  · rw [if_neg hv]; exact ok.mono (by omega)
theorem o_setPattern (ok : aOk b A) : aOk (b + 7000) (f_setPattern A x y).2 := by
  unfold f_setPattern
  by_cases hv : vD (aV A) x
  · rw [if_pos hv]
    have hd := (vD_cl ok.inv hv).1
    by_cases q : pIn y 0 255 = 0
    · rw [if_pos q]; exact ok.mono (by omega)
    · rw [if_neg q]
      have hr : rg y 0 255 := pIn_rgr rfl rfl (by decide) (by decide) q
      exact ok.rec (b' := b + 7000) (by omega) ((good_same ok.1 (inv_fd (d := cl x) ok.inv 0 (by decide) ⟨fun e => absurd e (by decide), fun e => absurd e (by decide), fun e => absurd e (by decide), fun _ => hr, fun e => absurd e (by decide)⟩) (by rw [s2_at, if_neg (by omega)])).mono (by omega))
  · rw [if_neg hv]; exact ok.mono (by omega)
theorem o_setGroup (ok : aOk b A) : aOk (b + 7000) (f_setGroup A x y).2 := by
  unfold f_setGroup
  by_cases hv : vD (aV A) x
  · rw [if_pos hv]
    have hd := (vD_cl ok.inv hv).1
    by_cases q : pIn y 0 3 = 0
    · rw [if_pos q]; exact ok.mono (by omega)
    · rw [if_neg q]
      have hr : rg y 0 3 := pIn_rgr rfl rfl (by decide) (by decide) q
      exact ok.rec (b' := b + 7000) (by omega) ((good_same ok.1 (inv_fd (d := cl x) ok.inv 4 (by decide) ⟨fun e => absurd e (by decide), fun e => absurd e (by decide), fun _ => hr, fun e => absurd e (by decide), fun e => absurd e (by decide)⟩) (by rw [s2_at, if_neg (by omega)])).mono (by omega))
  · rw [if_neg hv]; exact ok.mono (by omega)
theorem o_replace (ok : aOk b A) : aOk (b + 7000) (f_replace A x).2 := by
  unfold f_replace
  by_cases hv : vD (aV A) x
  · rw [if_pos hv]
    have hd := (vD_cl ok.inv hv).1
    exact ok.rec (b' := b + 7000) (by omega) ((good_same ok.1 (inv_ren ok.inv hd) (by rw [pRen_lo _ (by decide)])).mono (by omega))
  · rw [if_neg hv]; exact ok.mono (by omega)
theorem o_setDigits (ok : aOk b A) : aOk (b + 7000) (f_setDigits A x).2 := by
  unfold f_setDigits
  by_cases q : pIn x 1 8 = 0
  · rw [if_pos q]; exact ok.mono (by omega)
  · rw [if_neg q]
    obtain ⟨k, k1, k2, e⟩ := pIn_rg (l := 1) (h := 8) rfl rfl (by decide) (by decide) q
    have ec := cl_of (by omega) e
    exact ok.rec (b' := b + 7000) (by omega) ((good_sD ok.1 (by omega) (by omega)).mono (by omega))
theorem o_test (ok : aOk b A) : aOk (b + 7000) (f_test A x).2 := by
  unfold f_test
  by_cases q : pIn x 0 50 = 0
  · rw [if_pos q]; exact ok.mono (by omega)
  · rw [if_neg q]
    obtain ⟨k, k1, k2, e⟩ := pIn_rg (l := 0) (h := 50) rfl rfl (by decide) (by decide) q
    have ec := cl_of (by omega) e
    exact ok.rec (b' := b + 7000) (by omega) ((good_same ok.1 (inv_te ok.inv ⟨k, k1, k2, e⟩) (by rw [sC_eq]; rfl)).mono (by omega))
theorem o_pass (ok : aOk b A) : aOk (b + 7000) (f_pass A x).2 := by
  unfold f_pass
  by_cases q : pIn x 1 500 = 0
  · rw [if_pos q]; exact ok.mono (by omega)
  · rw [if_neg q]
    obtain ⟨k, k1, k2, e⟩ := pIn_rg (l := 1) (h := 500) rfl rfl (by decide) (by decide) q
    have ec := cl_of (by omega) e
    exact ok.rec (b' := b + 7000) (by omega) ((good_tks ok.1 (cl x)).mono (by omega))
theorem o_passFrames (ok : aOk b A) : aOk (b + 7000) (f_passFrames A x).2 := by
  unfold f_passFrames
  by_cases q : pIn x 1 20 = 0
  · rw [if_pos q]; exact ok.mono (by omega)
  · rw [if_neg q]
    obtain ⟨k, k1, k2, e⟩ := pIn_rg (l := 1) (h := 20) rfl rfl (by decide) (by decide) q
    have ec := cl_of (by omega) e
    exact ok.rec (b' := b + 7000) (by omega) ((good_tks ok.1 (pfN (aV A) (cl x))).mono (by have := (pf_eq ok.inv (n := cl x) (by omega) (by omega)).2; omega))
theorem o_setBlink (ok : aOk b A) : aOk (b + 7000) (f_setBlink A x y z).2 := by
  unfold f_setBlink
  by_cases q : pIn x 1 3 = 0
  · rw [if_pos q]; exact ok.mono (by omega)
  · rw [if_neg q]
    by_cases q2 : pIn y 1 50 = 0 ∨ pIn z 0 50 = 0
    · rw [if_pos q2]; exact ok.mono (by omega)
    · rw [if_neg q2]
      obtain ⟨k, k1, k2, e⟩ := pIn_rg (l := 1) (h := 3) rfl rfl (by decide) (by decide) q
      have ec := cl_of (by omega) e
      exact ok.rec (b' := b + 7000) (by omega) ((good_same ok.1 (inv_bl ok.inv (q := cl x) (by omega) (pIn_rgr rfl rfl (by decide) (by decide) (fun z => q2 (Or.inl z))) (pIn_rgr rfl rfl (by decide) (by decide) (fun z => q2 (Or.inr z)))) rfl).mono (by omega))
theorem o_set (ok : aOk b A) : aOk (b + 7000) (f_set A x y).2 := by
  unfold f_set
  by_cases q : pIn x 0 2 = 0
  · rw [if_pos q]; exact ok.mono (by omega)
  · rw [if_neg q]
    by_cases q2 : pIn y (setLo x) (setHi x) = 0
    · rw [if_pos q2]; exact ok.mono (by omega)
    · rw [if_neg q2]
      obtain ⟨k, k1, k2, e⟩ := pIn_rg (l := 0) (h := 2) rfl rfl (by decide) (by decide) q
      have ec := cl_of (by omega) e
      exact ok.rec (b' := b + 7000) (by omega) ((good_same ok.1 (inv_st ok.inv (q := cl x) (fun e0 => by
        rw [ec] at e0
        subst e0
        subst e
        exact pIn_rgr rfl rfl (by decide) (by decide) q2)) rfl).mono (by omega))
theorem o_type (ok : aOk b A) : aOk (b + 7000) (f_type A x).2 := by
  unfold f_type
  by_cases q : aT A < 30
  · rw [if_pos q]
    have o2 := ok.mono (b' := b + 7000) (by omega)
    exact ⟨o2.1, o2.2.1, o2.2.2.1, o2.2.2.2.1, q⟩
  · rw [if_neg q]; exact ok.mono (by omega)
theorem o_clearText (ok : aOk b A) : aOk (b + 7000) (f_clearText A).2 := by
  have o2 := ok.mono (b' := b + 7000) (by omega)
  exact ⟨o2.1, o2.2.1, o2.2.2.1, o2.2.2.2.1, Nat.zero_le _⟩
theorem o_show (ok : aOk b A) : aOk (b + 7000) (f_show A).2 := by
  unfold f_show
  by_cases q : (shA A).1 = -4
  · rw [if_pos q]
    exact ok.rec (b' := b + 7000) (by omega) ((good_same ok.1 (inv_pats ok.inv (sho_rg _ _ _ _ _ (fun _ => ⟨0, Nat.zero_le _, by decide, rfl⟩)) _ (Nat.le_refl _)) (by rw [pPats_lo _ _ (by decide)])).mono (by omega))
  · rw [if_neg q]; exact ok.mono (by omega)
theorem o_undo (ok : aOk b A) : aOk (b + 7000) (f_undo A).2 := by
  have o2 := ok.mono (b' := b + 7000) (by omega)
  unfold f_undo
  by_cases q : aK A = 0
  · rw [if_pos q]; exact o2
  · rw [if_neg q]
    exact ⟨o2.2.2.1 _ (by omega), show aK A - 1 ≤ 5 by have := o2.2.1; omega, fun i (hi : i < aK A - 1) => o2.2.2.1 i (by omega), o2.2.2.2.1, o2.2.2.2.2⟩
theorem o_keep (ok : aOk b A) : aOk (b + 7000) (f_keep A x).2 := by
  have o2 := ok.mono (b' := b + 7000) (by omega)
  unfold f_keep
  by_cases q : pIn x 0 1 = 0
  · rw [if_pos q]; exact o2
  · rw [if_neg q]
    refine ⟨o2.1, o2.2.1, o2.2.2.1, fun j hj => ?_, o2.2.2.2.2⟩
    show upd (aI A) (cl x) 1 j ≠ 0 → good (b + 7000) (va_up (aS A) (cl x) (aV A) j)
    unfold upd va_up
    by_cases z : j = cl x
    · rw [if_pos z, if_pos z]
      exact fun _ => o2.1
    · rw [if_neg z, if_neg z]
      exact o2.2.2.2.1 j hj
theorem o_restore (ok : aOk b A) : aOk (b + 7000) (f_restore A x).2 := by
  unfold f_restore
  by_cases q : pIn x 0 1 = 0
  · rw [if_pos q]; exact ok.mono (by omega)
  · rw [if_neg q]
    obtain ⟨k, k1, k2, e⟩ := pIn_rg (l := 0) (h := 1) rfl rfl (by decide) (by decide) q
    have ec := cl_of (by omega) e
    by_cases q2 : aI A (cl x) = 0
    · rw [if_pos q2]; exact ok.mono (by omega)
    · rw [if_neg q2]
      exact ok.rec (b' := b + 7000) (by omega) ((ok.2.2.2.1 _ (by omega) q2).mono (by omega))
theorem o_digit (ok : aOk b A) : aOk (b + 7000) (f_digit A x y).2 := ok.mono (by omega)
theorem o_segment (ok : aOk b A) : aOk (b + 7000) (f_segment A x y z).2 := ok.mono (by omega)
theorem o_litIn (ok : aOk b A) : aOk (b + 7000) (f_litIn A x y).2 := ok.mono (by omega)
theorem o_steadyGlow (ok : aOk b A) : aOk (b + 7000) (f_steadyGlow A x).2 := ok.mono (by omega)
theorem o_thousandths (ok : aOk b A) : aOk (b + 7000) (f_thousandths A x).2 := ok.mono (by omega)
theorem o_count (ok : aOk b A) : aOk (b + 7000) (f_count A x).2 := ok.mono (by omega)
theorem o_group (ok : aOk b A) : aOk (b + 7000) (f_group A x y).2 := ok.mono (by omega)
end ST
