/-! each call keeps what holds of one value, and that two agree -/
section ST
variable {A B : AS} {b : Nat} {x y z : Int32}
theorem s_setWidth (h : asim A B) (ok : aOk b A) : (f_setWidth A x y).1 = (f_setWidth B x y).1 ∧ asim (f_setWidth A x y).2 (f_setWidth B x y).2 := by
  unfold f_setWidth
  by_cases hv : vD (aV A) x
  · rw [if_pos hv, if_pos (show vD (aV B) x from Eq.mp (h.1.vd x) hv)]
    have hd := (vD_cl ok.inv hv).1
    by_cases q : pIn y 4 40 = 0
    · rw [if_pos q, if_pos q]; exact ⟨rfl, h⟩
    · rw [if_neg q, if_neg q]
      have hs := h.1.sW hd y
      exact ⟨hs.len, h.rec ok.2.1 hs⟩
  · rw [if_neg hv, if_neg (show ¬ vD (aV B) x from fun z => hv (Eq.mpr (h.1.vd x) z))]; exact ⟨rfl, h⟩
theorem o_setWidth (ok : aOk b A) : aOk (b + 7000) (f_setWidth A x y).2 := by
  unfold f_setWidth
  by_cases hv : vD (aV A) x
  · rw [if_pos hv]
    have hd := (vD_cl ok.inv hv).1
    by_cases q : pIn y 4 40 = 0
    · rw [if_pos q]; exact ok.mono (by omega)
    · rw [if_neg q]
      have hr : rg y 4 40 := pIn_rgr rfl rfl (by decide) (by decide) q
      exact ok.rec (b' := b + 7000) (by omega) ((good_sW ok.1 hr).mono (by omega))
  · rw [if_neg hv]; exact ok.mono (by omega)
theorem s_setGuard (h : asim A B) (ok : aOk b A) : (f_setGuard A x y).1 = (f_setGuard B x y).1 ∧ asim (f_setGuard A x y).2 (f_setGuard B x y).2 := by
  unfold f_setGuard
  by_cases hv : vD (aV A) x
  · rw [if_pos hv, if_pos (show vD (aV B) x from Eq.mp (h.1.vd x) hv)]
    have hd := (vD_cl ok.inv hv).1
    by_cases q : pIn y 0 3 = 0
    · rw [if_pos q, if_pos q]; exact ⟨rfl, h⟩
    · rw [if_neg q, if_neg q]
      have hs := h.1.fd hd 2 y
      exact ⟨simN.lp hs (by rw [s2_n _ (by omega)]; exact hd), h.rec ok.2.1 hs⟩
  · rw [if_neg hv, if_neg (show ¬ vD (aV B) x from fun z => hv (Eq.mpr (h.1.vd x) z))]; exact ⟨rfl, h⟩
theorem o_setGuard (ok : aOk b A) : aOk (b + 7000) (f_setGuard A x y).2 := by
  unfold f_setGuard
  by_cases hv : vD (aV A) x
  · rw [if_pos hv]
    have hd := (vD_cl ok.inv hv).1
    by_cases q : pIn y 0 3 = 0
    · rw [if_pos q]; exact ok.mono (by omega)
    · rw [if_neg q]
      have hr : rg y 0 3 := pIn_rgr rfl rfl (by decide) (by decide) q
      exact ok.rec (b' := b + 7000) (by omega) ((good_same ok.1 (inv_fd (d := cl x) ok.inv 2 (by decide) ⟨fun _ => hr, fun e => absurd e (by decide), fun e => absurd e (by decide), fun e => absurd e (by decide), fun e => absurd e (by decide)⟩) (by rw [s2_at, if_neg (by omega)])).mono (by omega))
  · rw [if_neg hv]; exact ok.mono (by omega)
theorem s_setBrightness (h : asim A B) (ok : aOk b A) : (f_setBrightness A x y).1 = (f_setBrightness B x y).1 ∧ asim (f_setBrightness A x y).2 (f_setBrightness B x y).2 := by
  unfold f_setBrightness
  by_cases hv : vD (aV A) x
  · rw [if_pos hv, if_pos (show vD (aV B) x from Eq.mp (h.1.vd x) hv)]
    have hd := (vD_cl ok.inv hv).1
    by_cases q : pIn y 0 15 = 0
    · rw [if_pos q, if_pos q]; exact ⟨rfl, h⟩
    · rw [if_neg q, if_neg q]
      have hs := h.1.fd hd 3 y
      exact ⟨simN.lp hs (by rw [s2_n _ (by omega)]; exact hd), h.rec ok.2.1 hs⟩
  · rw [if_neg hv, if_neg (show ¬ vD (aV B) x from fun z => hv (Eq.mpr (h.1.vd x) z))]; exact ⟨rfl, h⟩
theorem o_setBrightness (ok : aOk b A) : aOk (b + 7000) (f_setBrightness A x y).2 := by
  unfold f_setBrightness
  by_cases hv : vD (aV A) x
  · rw [if_pos hv]
    have hd := (vD_cl ok.inv hv).1
    by_cases q : pIn y 0 15 = 0
    · rw [if_pos q]; exact ok.mono (by omega)
    · rw [if_neg q]
      have hr : rg y 0 15 := pIn_rgr rfl rfl (by decide) (by decide) q
      exact ok.rec (b' := b + 7000) (by omega) ((good_same ok.1 (inv_fd (d := cl x) ok.inv 3 (by decide) ⟨fun e => absurd e (by decide), fun _ => hr, fun e => absurd e (by decide), fun e => absurd e (by decide), fun e => absurd e (by decide)⟩) (by rw [s2_at, if_neg (by omega)])).mono (by omega))
  · rw [if_neg hv]; exact ok.mono (by omega)
theorem s_setPattern (h : asim A B) (ok : aOk b A) : (f_setPattern A x y).1 = (f_setPattern B x y).1 ∧ asim (f_setPattern A x y).2 (f_setPattern B x y).2 := by
  unfold f_setPattern
  by_cases hv : vD (aV A) x
  · rw [if_pos hv, if_pos (show vD (aV B) x from Eq.mp (h.1.vd x) hv)]
    have hd := (vD_cl ok.inv hv).1
    by_cases q : pIn y 0 255 = 0
    · rw [if_pos q, if_pos q]; exact ⟨rfl, h⟩
    · rw [if_neg q, if_neg q]
      have hs := h.1.fd hd 0 y
      exact ⟨by show (aV A).1 (4 + cl x) 0 = (aV B).1 (4 + cl x) 0; rw [simN.dg h.1 hd], h.rec ok.2.1 hs⟩
  · rw [if_neg hv, if_neg (show ¬ vD (aV B) x from fun z => hv (Eq.mpr (h.1.vd x) z))]; exact ⟨rfl, h⟩
theorem o_setPattern (ok : aOk b A) : aOk (b + 7000) (f_setPattern A x y).2 := by
  unfold f_setPattern
  by_cases hv : vD (aV A) x
  · rw [if_pos hv]
    have hd := (vD_cl ok.inv hv).1
    by_cases q : pIn y 0 255 = 0
    · rw [if_pos q]; exact ok.mono (by omega)
    · rw [if_neg q]
      have hr : rg y 0 255 := pIn_rgr rfl rfl (by decide) (by decide) q
      exact ok.rec (b' := b + 7000) (by omega) ((good_same ok.1 (inv_fd (d := cl x) ok.inv 0 (by decide) ⟨fun e => absurd e (by decide), fun e => absurd e (by decide), fun e => absurd e (by decide), fun _ => hr, fun e => absurd e (by decide)⟩) (by rw [s2_at, if_neg (by omega)])).mono (by omega))
  · rw [if_neg hv]; exact ok.mono (by omega)
theorem s_setGroup (h : asim A B) (ok : aOk b A) : (f_setGroup A x y).1 = (f_setGroup B x y).1 ∧ asim (f_setGroup A x y).2 (f_setGroup B x y).2 := by
  unfold f_setGroup
  by_cases hv : vD (aV A) x
  · rw [if_pos hv, if_pos (show vD (aV B) x from Eq.mp (h.1.vd x) hv)]
    have hd := (vD_cl ok.inv hv).1
    by_cases q : pIn y 0 3 = 0
    · rw [if_pos q, if_pos q]; exact ⟨rfl, h⟩
    · rw [if_neg q, if_neg q]
      have hs := h.1.fd hd 4 y
      exact ⟨by show (aV A).1 (4 + cl x) 4 = (aV B).1 (4 + cl x) 4; rw [simN.dg h.1 hd], h.rec ok.2.1 hs⟩
  · rw [if_neg hv, if_neg (show ¬ vD (aV B) x from fun z => hv (Eq.mpr (h.1.vd x) z))]; exact ⟨rfl, h⟩
theorem o_setGroup (ok : aOk b A) : aOk (b + 7000) (f_setGroup A x y).2 := by
  unfold f_setGroup
  by_cases hv : vD (aV A) x
  · rw [if_pos hv]
    have hd := (vD_cl ok.inv hv).1
    by_cases q : pIn y 0 3 = 0
    · rw [if_pos q]; exact ok.mono (by omega)
    · rw [if_neg q]
      have hr : rg y 0 3 := pIn_rgr rfl rfl (by decide) (by decide) q
      exact ok.rec (b' := b + 7000) (by omega) ((good_same ok.1 (inv_fd (d := cl x) ok.inv 4 (by decide) ⟨fun e => absurd e (by decide), fun e => absurd e (by decide), fun _ => hr, fun e => absurd e (by decide), fun e => absurd e (by decide)⟩) (by rw [s2_at, if_neg (by omega)])).mono (by omega))
  · rw [if_neg hv]; exact ok.mono (by omega)
theorem s_replace (h : asim A B) (ok : aOk b A) : (f_replace A x).1 = (f_replace B x).1 ∧ asim (f_replace A x).2 (f_replace B x).2 := by
  unfold f_replace
  by_cases hv : vD (aV A) x
  · rw [if_pos hv, if_pos (show vD (aV B) x from Eq.mp (h.1.vd x) hv)]
    have hd := (vD_cl ok.inv hv).1
    exact ⟨by show pBro ((aV A).1 (4 + cl x) 6) 8 = pBro ((aV B).1 (4 + cl x) 6) 8; rw [simN.dg h.1 hd], h.rec ok.2.1 (h.1.ren hd)⟩
  · rw [if_neg hv, if_neg (show ¬ vD (aV B) x from fun z => hv (Eq.mpr (h.1.vd x) z))]; exact ⟨rfl, h⟩
theorem o_replace (ok : aOk b A) : aOk (b + 7000) (f_replace A x).2 := by
  unfold f_replace
  by_cases hv : vD (aV A) x
  · rw [if_pos hv]
    have hd := (vD_cl ok.inv hv).1
    exact ok.rec (b' := b + 7000) (by omega) ((good_same ok.1 (inv_ren ok.inv hd) (by rw [pRen_lo _ (by decide)])).mono (by omega))
  · rw [if_neg hv]; exact ok.mono (by omega)
theorem s_setDigits (h : asim A B) (ok : aOk b A) : (f_setDigits A x).1 = (f_setDigits B x).1 ∧ asim (f_setDigits A x).2 (f_setDigits B x).2 := by
  unfold f_setDigits
  by_cases q : pIn x 1 8 = 0
  · rw [if_pos q, if_pos q]; exact ⟨rfl, h⟩
  · rw [if_neg q, if_neg q]
    obtain ⟨k, k1, k2, e⟩ := pIn_rg (l := 1) (h := 8) rfl rfl (by decide) (by decide) q
    have ec := cl_of (by omega) e
    have hs := h.1.sD (N := cl x) (by omega)
    exact ⟨by show nI (nOf _) = nI (nOf _); rw [h.1.nn], h.rec ok.2.1 hs⟩
theorem o_setDigits (ok : aOk b A) : aOk (b + 7000) (f_setDigits A x).2 := by
  unfold f_setDigits
  by_cases q : pIn x 1 8 = 0
  · rw [if_pos q]; exact ok.mono (by omega)
  · rw [if_neg q]
    obtain ⟨k, k1, k2, e⟩ := pIn_rg (l := 1) (h := 8) rfl rfl (by decide) (by decide) q
    have ec := cl_of (by omega) e
    exact ok.rec (b' := b + 7000) (by omega) ((good_sD ok.1 (by omega) (by omega)).mono (by omega))
theorem s_test (h : asim A B) (ok : aOk b A) : (f_test A x).1 = (f_test B x).1 ∧ asim (f_test A x).2 (f_test B x).2 := by
  unfold f_test
  by_cases q : pIn x 0 50 = 0
  · rw [if_pos q, if_pos q]; exact ⟨rfl, h⟩
  · rw [if_neg q, if_neg q]
    obtain ⟨k, k1, k2, e⟩ := pIn_rg (l := 0) (h := 50) rfl rfl (by decide) (by decide) q
    have ec := cl_of (by omega) e
    have hs := h.1.te x
    exact ⟨by show (aV A).1 0 4 = (aV B).1 0 4; rw [simN.l0 h.1], h.rec ok.2.1 hs⟩
theorem o_test (ok : aOk b A) : aOk (b + 7000) (f_test A x).2 := by
  unfold f_test
  by_cases q : pIn x 0 50 = 0
  · rw [if_pos q]; exact ok.mono (by omega)
  · rw [if_neg q]
    obtain ⟨k, k1, k2, e⟩ := pIn_rg (l := 0) (h := 50) rfl rfl (by decide) (by decide) q
    have ec := cl_of (by omega) e
    exact ok.rec (b' := b + 7000) (by omega) ((good_same ok.1 (inv_te ok.inv ⟨k, k1, k2, e⟩) (by rw [sC_eq]; rfl)).mono (by omega))
theorem s_pass (h : asim A B) (ok : aOk b A) : (f_pass A x).1 = (f_pass B x).1 ∧ asim (f_pass A x).2 (f_pass B x).2 := by
  unfold f_pass
  by_cases q : pIn x 1 500 = 0
  · rw [if_pos q, if_pos q]; exact ⟨rfl, h⟩
  · rw [if_neg q, if_neg q]
    obtain ⟨k, k1, k2, e⟩ := pIn_rg (l := 1) (h := 500) rfl rfl (by decide) (by decide) q
    have ec := cl_of (by omega) e
    have hs := h.1.tks ok.inv (cl x)
    exact ⟨h.1.tkn ok.inv (cl x), h.rec ok.2.1 hs⟩
theorem o_pass (ok : aOk b A) : aOk (b + 7000) (f_pass A x).2 := by
  unfold f_pass
  by_cases q : pIn x 1 500 = 0
  · rw [if_pos q]; exact ok.mono (by omega)
  · rw [if_neg q]
    obtain ⟨k, k1, k2, e⟩ := pIn_rg (l := 1) (h := 500) rfl rfl (by decide) (by decide) q
    have ec := cl_of (by omega) e
    exact ok.rec (b' := b + 7000) (by omega) ((good_tks ok.1 (cl x)).mono (by omega))
theorem s_passFrames (h : asim A B) (ok : aOk b A) : (f_passFrames A x).1 = (f_passFrames B x).1 ∧ asim (f_passFrames A x).2 (f_passFrames B x).2 := by
  unfold f_passFrames
  by_cases q : pIn x 1 20 = 0
  · rw [if_pos q, if_pos q]; exact ⟨rfl, h⟩
  · rw [if_neg q, if_neg q]
    obtain ⟨k, k1, k2, e⟩ := pIn_rg (l := 1) (h := 20) rfl rfl (by decide) (by decide) q
    have ec := cl_of (by omega) e
    have hs := (by rw [h.1.pf]; exact h.1.tks ok.inv _ : sim (pTks (aV A) (pfN (aV A) (cl x))) (pTks (aV B) (pfN (aV B) (cl x))))
    exact ⟨by show (pTks (aV A) _).1 0 1 = (pTks (aV B) _).1 0 1; rw [simN.l0 hs], h.rec ok.2.1 hs⟩
theorem o_passFrames (ok : aOk b A) : aOk (b + 7000) (f_passFrames A x).2 := by
  unfold f_passFrames
  by_cases q : pIn x 1 20 = 0
  · rw [if_pos q]; exact ok.mono (by omega)
  · rw [if_neg q]
    obtain ⟨k, k1, k2, e⟩ := pIn_rg (l := 1) (h := 20) rfl rfl (by decide) (by decide) q
    have ec := cl_of (by omega) e
    exact ok.rec (b' := b + 7000) (by omega) ((good_tks ok.1 (pfN (aV A) (cl x))).mono (by have := (pf_eq ok.inv (n := cl x) (by omega) (by omega)).2; omega))
theorem s_setBlink (h : asim A B) (ok : aOk b A) : (f_setBlink A x y z).1 = (f_setBlink B x y z).1 ∧ asim (f_setBlink A x y z).2 (f_setBlink B x y z).2 := by
  unfold f_setBlink
  by_cases q : pIn x 1 3 = 0
  · rw [if_pos q, if_pos q]; exact ⟨rfl, h⟩
  · rw [if_neg q, if_neg q]
    by_cases q2 : pIn y 1 50 = 0 ∨ pIn z 0 50 = 0
    · rw [if_pos q2, if_pos q2]; exact ⟨rfl, h⟩
    · rw [if_neg q2, if_neg q2]
      have hs := h.1.bl (cl x) y z
      refine ⟨?_, h.rec ok.2.1 hs⟩
      show pDin _ _ (nOf (aV A)) = pDin _ _ (nOf (aV B))
      rw [← h.1.nn]
      exact simN.din hs _ _ (Nat.le_of_eq rfl)
theorem o_setBlink (ok : aOk b A) : aOk (b + 7000) (f_setBlink A x y z).2 := by
  unfold f_setBlink
  by_cases q : pIn x 1 3 = 0
  · rw [if_pos q]; exact ok.mono (by omega)
  · rw [if_neg q]
    by_cases q2 : pIn y 1 50 = 0 ∨ pIn z 0 50 = 0
    · rw [if_pos q2]; exact ok.mono (by omega)
    · rw [if_neg q2]
      obtain ⟨k, k1, k2, e⟩ := pIn_rg (l := 1) (h := 3) rfl rfl (by decide) (by decide) q
      have ec := cl_of (by omega) e
      exact ok.rec (b' := b + 7000) (by omega) ((good_same ok.1 (inv_bl ok.inv (q := cl x) (by omega) (pIn_rgr rfl rfl (by decide) (by decide) (fun z => q2 (Or.inl z))) (pIn_rgr rfl rfl (by decide) (by decide) (fun z => q2 (Or.inr z)))) rfl).mono (by omega))
theorem s_set (h : asim A B) (ok : aOk b A) : (f_set A x y).1 = (f_set B x y).1 ∧ asim (f_set A x y).2 (f_set B x y).2 := by
  unfold f_set
  by_cases q : pIn x 0 2 = 0
  · rw [if_pos q, if_pos q]; exact ⟨rfl, h⟩
  · rw [if_neg q, if_neg q]
    by_cases q2 : pIn y (setLo x) (setHi x) = 0
    · rw [if_pos q2, if_pos q2]; exact ⟨rfl, h⟩
    · rw [if_neg q2, if_neg q2]
      exact ⟨by show (aV A).1 3 (cl x) = (aV B).1 3 (cl x); rw [simN.l3 h.1], h.rec ok.2.1 (h.1.st (cl x) y)⟩
theorem o_set (ok : aOk b A) : aOk (b + 7000) (f_set A x y).2 := by
  unfold f_set
  by_cases q : pIn x 0 2 = 0
  · rw [if_pos q]; exact ok.mono (by omega)
  · rw [if_neg q]
    by_cases q2 : pIn y (setLo x) (setHi x) = 0
    · rw [if_pos q2]; exact ok.mono (by omega)
    · rw [if_neg q2]
      obtain ⟨k, k1, k2, e⟩ := pIn_rg (l := 0) (h := 2) rfl rfl (by decide) (by decide) q
      have ec := cl_of (by omega) e
      exact ok.rec (b' := b + 7000) (by omega) ((good_same ok.1 (inv_st ok.inv (q := cl x) (fun e0 => by
        rw [ec] at e0
        subst e0
        subst e
        exact pIn_rgr rfl rfl (by decide) (by decide) q2)) rfl).mono (by omega))
theorem s_type (h : asim A B) (ok : aOk b A) : (f_type A x).1 = (f_type B x).1 ∧ asim (f_type A x).2 (f_type B x).2 := by
  obtain ⟨h1, h2, h3, h4, h5, h6⟩ := id h
  unfold f_type
  by_cases q : aT A < 30
  · rw [if_pos q, if_pos (h5 ▸ q)]
    refine ⟨by show nI (aT A + 1) = nI (aT B + 1); rw [h5], h1, h2, h3, h4, ?_, ?_⟩
    · show aT A + 1 = aT B + 1
      rw [h5]
    · show upd (aF A) (aT A) x = upd (aF B) (aT B) x
      rw [h5, h6]
  · rw [if_neg q, if_neg (h5 ▸ q)]
    exact ⟨rfl, h⟩
theorem o_type (ok : aOk b A) : aOk (b + 7000) (f_type A x).2 := by
  unfold f_type
  by_cases q : aT A < 30
  · rw [if_pos q]
    have o2 := ok.mono (b' := b + 7000) (by omega)
    exact ⟨o2.1, o2.2.1, o2.2.2.1, o2.2.2.2.1, q⟩
  · rw [if_neg q]; exact ok.mono (by omega)
theorem s_clearText (h : asim A B) (ok : aOk b A) : (f_clearText A).1 = (f_clearText B).1 ∧ asim (f_clearText A).2 (f_clearText B).2 := by
  obtain ⟨h1, h2, h3, h4, h5, h6⟩ := id h
  exact ⟨by show nI (aT A) = nI (aT B); rw [h5], h1, h2, h3, h4, rfl, h6⟩
theorem o_clearText (ok : aOk b A) : aOk (b + 7000) (f_clearText A).2 := by
  have o2 := ok.mono (b' := b + 7000) (by omega)
  exact ⟨o2.1, o2.2.1, o2.2.2.1, o2.2.2.2.1, Nat.zero_le _⟩
theorem s_show (h : asim A B) (ok : aOk b A) : (f_show A).1 = (f_show B).1 ∧ asim (f_show A).2 (f_show B).2 := by
  obtain ⟨h1, h2, h3, h4, h5, h6⟩ := id h
  have e : shA A = shA B := by unfold shA; rw [h6, h5, h1.nn]
  unfold f_show
  rw [e]
  by_cases q : (shA B).1 = -4
  · rw [if_pos q, if_pos q]
    exact ⟨rfl, h.rec ok.2.1 (h1.pats _)⟩
  · rw [if_neg q, if_neg q]
    exact ⟨rfl, h⟩
theorem o_show (ok : aOk b A) : aOk (b + 7000) (f_show A).2 := by
  unfold f_show
  by_cases q : (shA A).1 = -4
  · rw [if_pos q]
    exact ok.rec (b' := b + 7000) (by omega) ((good_same ok.1 (inv_pats ok.inv (sho_rg _ _ _ _ _ (fun _ => ⟨0, Nat.zero_le _, by decide, rfl⟩)) _ (Nat.le_refl _)) (by rw [pPats_lo _ _ (by decide)])).mono (by omega))
  · rw [if_neg q]; exact ok.mono (by omega)
theorem s_undo (h : asim A B) (ok : aOk b A) : (f_undo A).1 = (f_undo B).1 ∧ asim (f_undo A).2 (f_undo B).2 := by
  obtain ⟨h1, h2, h3, h4, h5, h6⟩ := id h
  unfold f_undo
  by_cases q : aK A = 0
  · rw [if_pos q, if_pos (h2 ▸ q)]
    exact ⟨rfl, h⟩
  · rw [if_neg q, if_neg (h2 ▸ q), ← h2]
    exact ⟨rfl, h3 _ (by omega), rfl, fun i (hi : i < aK A - 1) => h3 i (by omega), h4, h5, h6⟩
theorem o_undo (ok : aOk b A) : aOk (b + 7000) (f_undo A).2 := by
  have o2 := ok.mono (b' := b + 7000) (by omega)
  unfold f_undo
  by_cases q : aK A = 0
  · rw [if_pos q]; exact o2
  · rw [if_neg q]
    exact ⟨o2.2.2.1 _ (by omega), show aK A - 1 ≤ 5 by have := o2.2.1; omega, fun i (hi : i < aK A - 1) => o2.2.2.1 i (by omega), o2.2.2.2.1, o2.2.2.2.2⟩
theorem s_keep (h : asim A B) (ok : aOk b A) : (f_keep A x).1 = (f_keep B x).1 ∧ asim (f_keep A x).2 (f_keep B x).2 := by
  obtain ⟨h1, h2, h3, h4, h5, h6⟩ := id h
  unfold f_keep
  by_cases q : pIn x 0 1 = 0
  · rw [if_pos q, if_pos q]; exact ⟨rfl, h⟩
  · rw [if_neg q, if_neg q]
    refine ⟨by show (aV A).1 0 1 = (aV B).1 0 1; rw [simN.l0 h1], h1, h2, h3, fun j hj => ?_, h5, h6⟩
    show upd (aI A) (cl x) 1 j = upd (aI B) (cl x) 1 j ∧ (upd (aI A) (cl x) 1 j ≠ 0 → sim (va_up (aS A) (cl x) (aV A) j) (va_up (aS B) (cl x) (aV B) j))
    unfold upd va_up
    by_cases z : j = cl x
    · rw [if_pos z, if_pos z, if_pos z, if_pos z]
      exact ⟨rfl, fun _ => h1⟩
    · rw [if_neg z, if_neg z, if_neg z, if_neg z]
      exact h4 j hj
theorem o_keep (ok : aOk b A) : aOk (b + 7000) (f_keep A x).2 := by
  have o2 := ok.mono (b' := b + 7000) (by omega)
  unfold f_keep
  by_cases q : pIn x 0 1 = 0
  · rw [if_pos q]; exact o2
  · rw [if_neg q]
    refine ⟨o2.1, o2.2.1, o2.2.2.1, fun j hj => ?_, o2.2.2.2.2⟩
    show upd (aI A) (cl x) 1 j ≠ 0 → good (b + 7000) (va_up (aS A) (cl x) (aV A) j)
    unfold upd va_up
    by_cases z : j = cl x
    · rw [if_pos z, if_pos z]
      exact fun _ => o2.1
    · rw [if_neg z, if_neg z]
      exact o2.2.2.2.1 j hj
theorem s_restore (h : asim A B) (ok : aOk b A) : (f_restore A x).1 = (f_restore B x).1 ∧ asim (f_restore A x).2 (f_restore B x).2 := by
  obtain ⟨h1, h2, h3, h4, h5, h6⟩ := id h
  unfold f_restore
  by_cases q : pIn x 0 1 = 0
  · rw [if_pos q, if_pos q]; exact ⟨rfl, h⟩
  · rw [if_neg q, if_neg q]
    obtain ⟨k, k1, k2, e⟩ := pIn_rg (l := 0) (h := 1) rfl rfl (by decide) (by decide) q
    have ec := cl_of (by omega) e
    obtain ⟨e1, e2⟩ := h4 (cl x) (by omega)
    by_cases q2 : aI A (cl x) = 0
    · rw [if_pos q2, if_pos (e1 ▸ q2)]; exact ⟨rfl, h⟩
    · rw [if_neg q2, if_neg (e1 ▸ q2)]
      have hs := e2 q2
      exact ⟨by show (aS A (cl x)).1 0 1 = (aS B (cl x)).1 0 1; rw [simN.l0 hs], h.rec ok.2.1 hs⟩
theorem o_restore (ok : aOk b A) : aOk (b + 7000) (f_restore A x).2 := by
  unfold f_restore
  by_cases q : pIn x 0 1 = 0
  · rw [if_pos q]; exact ok.mono (by omega)
  · rw [if_neg q]
    obtain ⟨k, k1, k2, e⟩ := pIn_rg (l := 0) (h := 1) rfl rfl (by decide) (by decide) q
    have ec := cl_of (by omega) e
    by_cases q2 : aI A (cl x) = 0
    · rw [if_pos q2]; exact ok.mono (by omega)
    · rw [if_neg q2]
      exact ok.rec (b' := b + 7000) (by omega) ((ok.2.2.2.1 _ (by omega) q2).mono (by omega))
theorem s_digit (h : asim A B) (ok : aOk b A) : (f_digit A x y).1 = (f_digit B x y).1 ∧ asim (f_digit A x y).2 (f_digit B x y).2 := by
  refine ⟨?_, h⟩
  show (if vD (aV A) x then _ else _) = (if vD (aV B) x then _ else _)
  by_cases hv : vD (aV A) x
  · rw [if_pos hv, if_pos (show vD (aV B) x from Eq.mp (h.1.vd x) hv)]
    exact h.1.dgt (vD_cl ok.inv hv).1 y
  · rw [if_neg hv, if_neg (show ¬ vD (aV B) x from fun z => hv (Eq.mpr (h.1.vd x) z))]
theorem s_segment (h : asim A B) (ok : aOk b A) : (f_segment A x y z).1 = (f_segment B x y z).1 ∧ asim (f_segment A x y z).2 (f_segment B x y z).2 := by
  refine ⟨?_, h⟩
  show (if vD (aV A) x then _ else _) = (if vD (aV B) x then _ else _)
  by_cases hv : vD (aV A) x
  · rw [if_pos hv, if_pos (show vD (aV B) x from Eq.mp (h.1.vd x) hv), h.1.sgm (vD_cl ok.inv hv).1]
  · rw [if_neg hv, if_neg (show ¬ vD (aV B) x from fun z => hv (Eq.mpr (h.1.vd x) z))]
theorem s_litIn (h : asim A B) (ok : aOk b A) : (f_litIn A x y).1 = (f_litIn B x y).1 ∧ asim (f_litIn A x y).2 (f_litIn B x y).2 := by
  refine ⟨?_, h⟩
  show (if vD (aV A) x then _ else _) = (if vD (aV B) x then _ else _)
  by_cases hv : vD (aV A) x
  · rw [if_pos hv, if_pos (show vD (aV B) x from Eq.mp (h.1.vd x) hv), (h.1.tks ok.inv (cl y)).lit (Inv_tks ok.inv _) (by rw [tks_n]; exact (vD_cl ok.inv hv).1)]
  · rw [if_neg hv, if_neg (show ¬ vD (aV B) x from fun z => hv (Eq.mpr (h.1.vd x) z))]
theorem s_steadyGlow (h : asim A B) (ok : aOk b A) : (f_steadyGlow A x).1 = (f_steadyGlow B x).1 ∧ asim (f_steadyGlow A x).2 (f_steadyGlow B x).2 := by
  refine ⟨?_, h⟩
  show (if vD (aV A) x then _ else _) = (if vD (aV B) x then _ else _)
  by_cases hv : vD (aV A) x
  · rw [if_pos hv, if_pos (show vD (aV B) x from Eq.mp (h.1.vd x) hv)]
    unfold stdG
    rw [simN.lp h.1 (vD_cl ok.inv hv).1, h.1.len, simN.l3 h.1]
  · rw [if_neg hv, if_neg (show ¬ vD (aV B) x from fun z => hv (Eq.mpr (h.1.vd x) z))]
theorem s_thousandths (h : asim A B) (ok : aOk b A) : (f_thousandths A x).1 = (f_thousandths B x).1 ∧ asim (f_thousandths A x).2 (f_thousandths B x).2 :=
  ⟨by unfold f_thousandths; rw [h.1.1], h⟩
theorem s_count (h : asim A B) (ok : aOk b A) : (f_count A x).1 = (f_count B x).1 ∧ asim (f_count A x).2 (f_count B x).2 := by
  refine ⟨?_, h⟩
  show pCou (aV A) (aK A) (aT A) x = pCou (aV B) (aK B) (aT B) x
  rw [h.1.cou ok.inv, h.2.1, h.2.2.2.2.1]
theorem s_group (h : asim A B) (ok : aOk b A) : (f_group A x y).1 = (f_group B x y).1 ∧ asim (f_group A x y).2 (f_group B x y).2 :=
  ⟨by unfold f_group; rw [h.1.grp], h⟩
theorem s_current (h : asim A B) : f_current A x = f_current B x := h.1.fl x
theorem s_duty (h : asim A B) (ok : aOk b A) : f_duty A x = f_duty B x := by
  unfold f_duty
  by_cases hv : vD (aV A) x
  · rw [if_pos hv, if_pos (show vD (aV B) x from Eq.mp (h.1.vd x) hv), simN.l0 h.1, simN.dg h.1 (vD_cl ok.inv hv).1]
  · rw [if_neg hv, if_neg (show ¬ vD (aV B) x from fun z => hv (Eq.mpr (h.1.vd x) z))]
theorem o_digit (ok : aOk b A) : aOk (b + 7000) (f_digit A x y).2 := ok.mono (by omega)
theorem o_segment (ok : aOk b A) : aOk (b + 7000) (f_segment A x y z).2 := ok.mono (by omega)
theorem o_litIn (ok : aOk b A) : aOk (b + 7000) (f_litIn A x y).2 := ok.mono (by omega)
theorem o_steadyGlow (ok : aOk b A) : aOk (b + 7000) (f_steadyGlow A x).2 := ok.mono (by omega)
theorem o_thousandths (ok : aOk b A) : aOk (b + 7000) (f_thousandths A x).2 := ok.mono (by omega)
theorem o_count (ok : aOk b A) : aOk (b + 7000) (f_count A x).2 := ok.mono (by omega)
theorem o_group (ok : aOk b A) : aOk (b + 7000) (f_group A x y).2 := ok.mono (by omega)
end ST
