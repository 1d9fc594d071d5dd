theorem cx_setWidth (l : Launch) (D : va_G) (ct : Nat → ClassId) (sz : Nat) (o : Nat → Nat) (ad : Nat → Nat → Nat) {A : AS} {W : va_W} {b : Nat} (hX : CX ct o ad A W) (ok : aOk b A) (hb : b < 2 ^ 30) (x y : Int32) : Met l yX5_setWidth wsX5_setWidth ({ frames := 4, cells := 0, slots := 0, locals := 104 }) (muPS D ct W sz [.ref (o 0), .int x, .int y]) (mxQ D ct W sz (f_setWidth A x y) (CX ct o ad)) 0 0 (va_A W sz) := by
  obtain ⟨z, w, n, nd, g, rfl, hn, hh⟩ := hX
  have hk := ok.2.1
  unfold f_setWidth
  by_cases hv : vD (aV A) x
  · rw [if_pos hv]
    obtain ⟨hd, e⟩ := vD_cl ok.inv hv
    by_cases q : pIn y 4 40 = 0
    · rw [if_pos q]
      exact lf_ro (by have h9 := k_X5_setWidth_e2 l D ct o ad (aV A) z w n (aK A) hn hk (aS A 0) (aS A 1) (aI A 0) (aI A 1) (aT A) nd (aF A) g ok.inv (cl x) hd y q; rw [← e] at h9; exact h9) rfl (cx_same hn hh)
    · rw [if_neg q]
      exact lf_mu (by have h9 := k_X5_setWidth_ok l D ct sz o ad (aV A) z w n (aK A) hn hk (aS A 0) (aS A 1) (aI A 0) (aI A 1) (aT A) nd (aF A) g ok.inv (cl x) hd y q; rw [← e] at h9; exact h9) rfl (cx_rec hn hk hh)
  · rw [if_neg hv]
    exact lf_ro (k_X5_setWidth_e1 l D ct o ad (aV A) z w n (aK A) hn hk (aS A 0) (aS A 1) (aI A 0) (aI A 1) (aT A) nd (aF A) g x y hv) rfl (cx_same hn hh)
theorem cx_setGuard (l : Launch) (D : va_G) (ct : Nat → ClassId) (sz : Nat) (o : Nat → Nat) (ad : Nat → Nat → Nat) {A : AS} {W : va_W} {b : Nat} (hX : CX ct o ad A W) (ok : aOk b A) (hb : b < 2 ^ 30) (x y : Int32) : Met l yX5_setGuard wsX5_setGuard ({ frames := 4, cells := 0, slots := 0, locals := 104 }) (muPS D ct W sz [.ref (o 0), .int x, .int y]) (mxQ D ct W sz (f_setGuard A x y) (CX ct o ad)) 0 0 (va_A W sz) := by
  obtain ⟨z, w, n, nd, g, rfl, hn, hh⟩ := hX
  have hk := ok.2.1
  unfold f_setGuard
  by_cases hv : vD (aV A) x
  · rw [if_pos hv]
    obtain ⟨hd, e⟩ := vD_cl ok.inv hv
    by_cases q : pIn y 0 3 = 0
    · rw [if_pos q]
      exact lf_ro (by have h9 := k_X5_setGuard_e2 l D ct o ad (aV A) z w n (aK A) hn hk (aS A 0) (aS A 1) (aI A 0) (aI A 1) (aT A) nd (aF A) g ok.inv (cl x) hd y q; rw [← e] at h9; exact h9) rfl (cx_same hn hh)
    · rw [if_neg q]
      exact lf_mu (by have h9 := k_X5_setGuard_ok l D ct sz o ad (aV A) z w n (aK A) hn hk (aS A 0) (aS A 1) (aI A 0) (aI A 1) (aT A) nd (aF A) g ok.inv (cl x) hd y q; rw [← e] at h9; exact h9) rfl (cx_rec hn hk hh)
  · rw [if_neg hv]
    exact lf_ro (k_X5_setGuard_e1 l D ct o ad (aV A) z w n (aK A) hn hk (aS A 0) (aS A 1) (aI A 0) (aI A 1) (aT A) nd (aF A) g x y hv) rfl (cx_same hn hh)
theorem cx_setBrightness (l : Launch) (D : va_G) (ct : Nat → ClassId) (sz : Nat) (o : Nat → Nat) (ad : Nat → Nat → Nat) {A : AS} {W : va_W} {b : Nat} (hX : CX ct o ad A W) (ok : aOk b A) (hb : b < 2 ^ 30) (x y : Int32) : Met l yX5_setBrightness wsX5_setBrightness ({ frames := 4, cells := 0, slots := 0, locals := 104 }) (muPS D ct W sz [.ref (o 0), .int x, .int y]) (mxQ D ct W sz (f_setBrightness A x y) (CX ct o ad)) 0 0 (va_A W sz) := by
  obtain ⟨z, w, n, nd, g, rfl, hn, hh⟩ := hX
  have hk := ok.2.1
  unfold f_setBrightness
  by_cases hv : vD (aV A) x
  · rw [if_pos hv]
    obtain ⟨hd, e⟩ := vD_cl ok.inv hv
    by_cases q : pIn y 0 15 = 0
    · rw [if_pos q]
      exact lf_ro (by have h9 := k_X5_setBrightness_e2 l D ct o ad (aV A) z w n (aK A) hn hk (aS A 0) (aS A 1) (aI A 0) (aI A 1) (aT A) nd (aF A) g ok.inv (cl x) hd y q; rw [← e] at h9; exact h9) rfl (cx_same hn hh)
    · rw [if_neg q]
      exact lf_mu (by have h9 := k_X5_setBrightness_ok l D ct sz o ad (aV A) z w n (aK A) hn hk (aS A 0) (aS A 1) (aI A 0) (aI A 1) (aT A) nd (aF A) g ok.inv (cl x) hd y q; rw [← e] at h9; exact h9) rfl (cx_rec hn hk hh)
  · rw [if_neg hv]
    exact lf_ro (k_X5_setBrightness_e1 l D ct o ad (aV A) z w n (aK A) hn hk (aS A 0) (aS A 1) (aI A 0) (aI A 1) (aT A) nd (aF A) g x y hv) rfl (cx_same hn hh)
theorem cx_setPattern (l : Launch) (D : va_G) (ct : Nat → ClassId) (sz : Nat) (o : Nat → Nat) (ad : Nat → Nat → Nat) {A : AS} {W : va_W} {b : Nat} (hX : CX ct o ad A W) (ok : aOk b A) (hb : b < 2 ^ 30) (x y : Int32) : Met l yX5_setPattern wsX5_setPattern ({ frames := 4, cells := 0, slots := 0, locals := 104 }) (muPS D ct W sz [.ref (o 0), .int x, .int y]) (mxQ D ct W sz (f_setPattern A x y) (CX ct o ad)) 0 0 (va_A W sz) := by
  obtain ⟨z, w, n, nd, g, rfl, hn, hh⟩ := hX
  have hk := ok.2.1
  unfold f_setPattern
  by_cases hv : vD (aV A) x
  · rw [if_pos hv]
    obtain ⟨hd, e⟩ := vD_cl ok.inv hv
    by_cases q : pIn y 0 255 = 0
    · rw [if_pos q]
      exact lf_ro (by have h9 := k_X5_setPattern_e2 l D ct o ad (aV A) z w n (aK A) hn hk (aS A 0) (aS A 1) (aI A 0) (aI A 1) (aT A) nd (aF A) g ok.inv (cl x) hd y q; rw [← e] at h9; exact h9) rfl (cx_same hn hh)
    · rw [if_neg q]
      exact lf_mu (by have h9 := k_X5_setPattern_ok l D ct sz o ad (aV A) z w n (aK A) hn hk (aS A 0) (aS A 1) (aI A 0) (aI A 1) (aT A) nd (aF A) g ok.inv (cl x) hd y q; rw [← e] at h9; exact h9) rfl (cx_rec hn hk hh)
  · rw [if_neg hv]
    exact lf_ro (k_X5_setPattern_e1 l D ct o ad (aV A) z w n (aK A) hn hk (aS A 0) (aS A 1) (aI A 0) (aI A 1) (aT A) nd (aF A) g x y hv) rfl (cx_same hn hh)
theorem cx_setGroup (l : Launch) (D : va_G) (ct : Nat → ClassId) (sz : Nat) (o : Nat → Nat) (ad : Nat → Nat → Nat) {A : AS} {W : va_W} {b : Nat} (hX : CX ct o ad A W) (ok : aOk b A) (hb : b < 2 ^ 30) (x y : Int32) : Met l yX5_setGroup wsX5_setGroup ({ frames := 4, cells := 0, slots := 0, locals := 104 }) (muPS D ct W sz [.ref (o 0), .int x, .int y]) (mxQ D ct W sz (f_setGroup A x y) (CX ct o ad)) 0 0 (va_A W sz) := by
  obtain ⟨z, w, n, nd, g, rfl, hn, hh⟩ := hX
  have hk := ok.2.1
  unfold f_setGroup
  by_cases hv : vD (aV A) x
  · rw [if_pos hv]
    obtain ⟨hd, e⟩ := vD_cl ok.inv hv
    by_cases q : pIn y 0 3 = 0
    · rw [if_pos q]
      exact lf_ro (by have h9 := k_X5_setGroup_e2 l D ct o ad (aV A) z w n (aK A) hn hk (aS A 0) (aS A 1) (aI A 0) (aI A 1) (aT A) nd (aF A) g ok.inv (cl x) hd y q; rw [← e] at h9; exact h9) rfl (cx_same hn hh)
    · rw [if_neg q]
      exact lf_mu (by have h9 := k_X5_setGroup_ok l D ct sz o ad (aV A) z w n (aK A) hn hk (aS A 0) (aS A 1) (aI A 0) (aI A 1) (aT A) nd (aF A) g ok.inv (cl x) hd y q; rw [← e] at h9; exact h9) rfl (cx_rec hn hk hh)
  · rw [if_neg hv]
    exact lf_ro (k_X5_setGroup_e1 l D ct o ad (aV A) z w n (aK A) hn hk (aS A 0) (aS A 1) (aI A 0) (aI A 1) (aT A) nd (aF A) g x y hv) rfl (cx_same hn hh)
theorem cx_replace (l : Launch) (D : va_G) (ct : Nat → ClassId) (sz : Nat) (o : Nat → Nat) (ad : Nat → Nat → Nat) {A : AS} {W : va_W} {b : Nat} (hX : CX ct o ad A W) (ok : aOk b A) (hb : b < 2 ^ 30) (x : Int32) : Met l yX5_replace wsX5_replace ({ frames := 4, cells := 0, slots := 0, locals := 104 }) (muPS D ct W sz [.ref (o 0), .int x]) (mxQ D ct W sz (f_replace A x) (CX ct o ad)) 0 0 (va_A W sz) := by
  obtain ⟨z, w, n, nd, g, rfl, hn, hh⟩ := hX
  have hk := ok.2.1
  unfold f_replace
  by_cases hv : vD (aV A) x
  · rw [if_pos hv]
    obtain ⟨hd, e⟩ := vD_cl ok.inv hv
    exact lf_mu (by have h9 := k_X5_replace_ok l D ct sz o ad (aV A) z w n (aK A) hn hk (aS A 0) (aS A 1) (aI A 0) (aI A 1) (aT A) nd (aF A) g ok.inv (cl x) hd; rw [← e] at h9; exact h9) rfl (cx_rec hn hk hh)
  · rw [if_neg hv]
    exact lf_ro (k_X5_replace_e1 l D ct o ad (aV A) z w n (aK A) hn hk (aS A 0) (aS A 1) (aI A 0) (aI A 1) (aT A) nd (aF A) g x hv) rfl (cx_same hn hh)
theorem cx_setDigits (l : Launch) (D : va_G) (ct : Nat → ClassId) (sz : Nat) (o : Nat → Nat) (ad : Nat → Nat → Nat) {A : AS} {W : va_W} {b : Nat} (hX : CX ct o ad A W) (ok : aOk b A) (hb : b < 2 ^ 30) (x : Int32) : Met l yX5_setDigits wsX5_setDigits ({ frames := 4, cells := 0, slots := 0, locals := 104 }) (muPS D ct W sz [.ref (o 0), .int x]) (mxQ D ct W sz (f_setDigits A x) (CX ct o ad)) 0 0 (va_A W sz) := by
  obtain ⟨z, w, n, nd, g, rfl, hn, hh⟩ := hX
  have hk := ok.2.1
  unfold f_setDigits
  by_cases q : pIn x 1 8 = 0
  · rw [if_pos q]
    exact lf_ro (k_X5_setDigits_e2 l D ct o ad (aV A) z w n (aK A) hn hk (aS A 0) (aS A 1) (aI A 0) (aI A 1) (aT A) nd (aF A) g x q) rfl (cx_same hn hh)
  · rw [if_neg q]
    obtain ⟨j, j1, j2, e⟩ := pIn_rg (l := 1) (h := 8) rfl rfl (by decide) (by decide) q
    have ec := cl_of (by omega) e
    have e2 : x = nI (cl x) := by rw [ec]; exact e
    exact lf_mu (by have h9 := k_X5_setDigits_ok l D ct sz o ad (aV A) z w n (aK A) hn hk (aS A 0) (aS A 1) (aI A 0) (aI A 1) (aT A) nd (aF A) g ok.inv (cl x) (by omega) (by omega); rw [← e2] at h9; exact h9) rfl (cx_rec hn hk hh)
theorem cx_test (l : Launch) (D : va_G) (ct : Nat → ClassId) (sz : Nat) (o : Nat → Nat) (ad : Nat → Nat → Nat) {A : AS} {W : va_W} {b : Nat} (hX : CX ct o ad A W) (ok : aOk b A) (hb : b < 2 ^ 30) (x : Int32) : Met l yX5_test wsX5_test ({ frames := 4, cells := 0, slots := 0, locals := 104 }) (muPS D ct W sz [.ref (o 0), .int x]) (mxQ D ct W sz (f_test A x) (CX ct o ad)) 0 0 (va_A W sz) := by
  obtain ⟨z, w, n, nd, g, rfl, hn, hh⟩ := hX
  have hk := ok.2.1
  unfold f_test
  by_cases q : pIn x 0 50 = 0
  · rw [if_pos q]
    exact lf_ro (k_X5_test_e2 l D ct o ad (aV A) z w n (aK A) hn hk (aS A 0) (aS A 1) (aI A 0) (aI A 1) (aT A) nd (aF A) g x q) rfl (cx_same hn hh)
  · rw [if_neg q]
    obtain ⟨j, j1, j2, e⟩ := pIn_rg (l := 0) (h := 50) rfl rfl (by decide) (by decide) q
    have ec := cl_of (by omega) e
    have e2 : x = nI (cl x) := by rw [ec]; exact e
    exact lf_mu (k_X5_test_ok l D ct sz o ad (aV A) z w n (aK A) hn hk (aS A 0) (aS A 1) (aI A 0) (aI A 1) (aT A) nd (aF A) g x q) rfl (cx_rec hn hk hh)
theorem cx_pass (l : Launch) (D : va_G) (ct : Nat → ClassId) (sz : Nat) (o : Nat → Nat) (ad : Nat → Nat → Nat) {A : AS} {W : va_W} {b : Nat} (hX : CX ct o ad A W) (ok : aOk b A) (hb : b < 2 ^ 30) (x : Int32) : Met l yX5_pass wsX5_pass ({ frames := 5, cells := 0, slots := 0, locals := 116 }) (muPS D ct W sz [.ref (o 0), .int x]) (mxQ D ct W sz (f_pass A x) (CX ct o ad)) 0 0 (va_A W sz) := by
  obtain ⟨z, w, n, nd, g, rfl, hn, hh⟩ := hX
  have hk := ok.2.1
  unfold f_pass
  by_cases q : pIn x 1 500 = 0
  · rw [if_pos q]
    exact lf_ro (k_X5_pass_e2 l D ct o ad (aV A) z w n (aK A) hn hk (aS A 0) (aS A 1) (aI A 0) (aI A 1) (aT A) nd (aF A) g x q) rfl (cx_same hn hh)
  · rw [if_neg q]
    obtain ⟨j, j1, j2, e⟩ := pIn_rg (l := 1) (h := 500) rfl rfl (by decide) (by decide) q
    have ec := cl_of (by omega) e
    have e2 : x = nI (cl x) := by rw [ec]; exact e
    exact lf_mu (by have h9 := k_X5_pass_ok l D ct sz o ad (aV A) z w n (aK A) hn hk (aS A 0) (aS A 1) (aI A 0) (aI A 1) (aT A) nd (aF A) g ok.inv (cl x) (by omega) (by omega); rw [← e2] at h9; exact h9) rfl (cx_rec hn hk hh)
theorem cx_passFrames (l : Launch) (D : va_G) (ct : Nat → ClassId) (sz : Nat) (o : Nat → Nat) (ad : Nat → Nat → Nat) {A : AS} {W : va_W} {b : Nat} (hX : CX ct o ad A W) (ok : aOk b A) (hb : b < 2 ^ 30) (x : Int32) : Met l yX5_passFrames wsX5_passFrames ({ frames := 5, cells := 0, slots := 0, locals := 116 }) (muPS D ct W sz [.ref (o 0), .int x]) (mxQ D ct W sz (f_passFrames A x) (CX ct o ad)) 0 0 (va_A W sz) := by
  obtain ⟨z, w, n, nd, g, rfl, hn, hh⟩ := hX
  have hk := ok.2.1
  unfold f_passFrames
  by_cases q : pIn x 1 20 = 0
  · rw [if_pos q]
    exact lf_ro (k_X5_passFrames_e2 l D ct o ad (aV A) z w n (aK A) hn hk (aS A 0) (aS A 1) (aI A 0) (aI A 1) (aT A) nd (aF A) g x q) rfl (cx_same hn hh)
  · rw [if_neg q]
    obtain ⟨j, j1, j2, e⟩ := pIn_rg (l := 1) (h := 20) rfl rfl (by decide) (by decide) q
    have ec := cl_of (by omega) e
    have e2 : x = nI (cl x) := by rw [ec]; exact e
    exact lf_mu (by have h9 := k_X5_passFrames_ok l D ct sz o ad (aV A) z w n (aK A) hn hk (aS A 0) (aS A 1) (aI A 0) (aI A 1) (aT A) nd (aF A) g ok.inv (cl x) (by omega) (by omega); rw [← e2] at h9; exact h9) rfl (cx_rec hn hk hh)
theorem cx_setBlink (l : Launch) (D : va_G) (ct : Nat → ClassId) (sz : Nat) (o : Nat → Nat) (ad : Nat → Nat → Nat) {A : AS} {W : va_W} {b : Nat} (hX : CX ct o ad A W) (ok : aOk b A) (hb : b < 2 ^ 30) (x y y2 : Int32) : Met l yX5_setBlink wsX5_setBlink ({ frames := 4, cells := 0, slots := 0, locals := 104 }) (muPS D ct W sz [.ref (o 0), .int x, .int y, .int y2]) (mxQ D ct W sz (f_setBlink A x y y2) (CX ct o ad)) 0 0 (va_A W sz) := by
  obtain ⟨z, w, n, nd, g, rfl, hn, hh⟩ := hX
  have hk := ok.2.1
  unfold f_setBlink
  by_cases q : pIn x 1 3 = 0
  · rw [if_pos q]
    exact lf_ro (k_X5_setBlink_e1 l D ct o ad (aV A) z w n (aK A) hn hk (aS A 0) (aS A 1) (aI A 0) (aI A 1) (aT A) nd (aF A) g x y y2 q) rfl (cx_same hn hh)
  · rw [if_neg q]
    by_cases q2 : pIn y 1 50 = 0 ∨ pIn y2 0 50 = 0
    · rw [if_pos q2]
      exact lf_ro (k_X5_setBlink_e2 l D ct o ad (aV A) z w n (aK A) hn hk (aS A 0) (aS A 1) (aI A 0) (aI A 1) (aT A) nd (aF A) g x y y2 q q2) rfl (cx_same hn hh)
    · rw [if_neg q2]
      obtain ⟨j, j1, j2, e⟩ := pIn_rg (l := 1) (h := 3) rfl rfl (by decide) (by decide) q
      have ec := cl_of (by omega) e
      have e2 : x = nI (cl x) := by rw [ec]; exact e
      exact lf_mu (by have h9 := k_X5_setBlink_ok l D ct sz o ad (aV A) z w n (aK A) hn hk (aS A 0) (aS A 1) (aI A 0) (aI A 1) (aT A) nd (aF A) g ok.inv (cl x) (by omega) (by omega) y y2 (fun c9 => q2 (Or.inl c9)) (fun c9 => q2 (Or.inr c9)); rw [show Value.int (nI (cl x)) = .int x by rw [← e2]] at h9; exact h9) rfl (cx_rec hn hk hh)
theorem cx_set (l : Launch) (D : va_G) (ct : Nat → ClassId) (sz : Nat) (o : Nat → Nat) (ad : Nat → Nat → Nat) {A : AS} {W : va_W} {b : Nat} (hX : CX ct o ad A W) (ok : aOk b A) (hb : b < 2 ^ 30) (x y : Int32) : Met l yX5_set wsX5_set ({ frames := 4, cells := 0, slots := 0, locals := 104 }) (muPS D ct W sz [.ref (o 0), .int x, .int y]) (mxQ D ct W sz (f_set A x y) (CX ct o ad)) 0 0 (va_A W sz) := by
  obtain ⟨z, w, n, nd, g, rfl, hn, hh⟩ := hX
  have hk := ok.2.1
  unfold f_set
  by_cases q : pIn x 0 2 = 0
  · rw [if_pos q]
    exact lf_ros (k_X5_set_e1 l D ct o ad (aV A) z w n (aK A) hn hk (aS A 0) (aS A 1) (aI A 0) (aI A 1) (aT A) nd (aF A) g x y q) rfl (cx_same hn hh)
  · rw [if_neg q]
    obtain ⟨j, j1, j2, e⟩ := pIn_rg (l := 0) (h := 2) rfl rfl (by decide) (by decide) q
    rcases (show j = 0 ∨ j = 1 ∨ j = 2 by omega) with rfl | rfl | rfl
    · have e0 : x = 0 := e
      subst e0
      by_cases q2 : pIn y (setLo 0) (setHi 0) = 0
      · rw [if_pos q2]
        exact lf_ros (k_X5_set_e2_0 l D ct o ad (aV A) z w n (aK A) hn hk (aS A 0) (aS A 1) (aI A 0) (aI A 1) (aT A) nd (aF A) g y q2) rfl (cx_same hn hh)
      · rw [if_neg q2, show cl (0 : Int32) = 0 from rfl]
        exact lf_mus (k_X5_set_ok_0 l D ct sz o ad (aV A) z w n (aK A) hn hk (aS A 0) (aS A 1) (aI A 0) (aI A 1) (aT A) nd (aF A) g y q2) rfl (cx_rec hn hk hh)
    · have e0 : x = 1 := e
      subst e0
      by_cases q2 : pIn y (setLo 1) (setHi 1) = 0
      · rw [if_pos q2]
        exact lf_ros (k_X5_set_e2_1 l D ct o ad (aV A) z w n (aK A) hn hk (aS A 0) (aS A 1) (aI A 0) (aI A 1) (aT A) nd (aF A) g y q2) rfl (cx_same hn hh)
      · rw [if_neg q2, show cl (1 : Int32) = 1 from rfl]
        exact lf_mus (k_X5_set_ok_1 l D ct sz o ad (aV A) z w n (aK A) hn hk (aS A 0) (aS A 1) (aI A 0) (aI A 1) (aT A) nd (aF A) g y q2) rfl (cx_rec hn hk hh)
    · have e0 : x = 2 := e
      subst e0
      by_cases q2 : pIn y (setLo 2) (setHi 2) = 0
      · rw [if_pos q2]
        exact lf_ros (k_X5_set_e2_2 l D ct o ad (aV A) z w n (aK A) hn hk (aS A 0) (aS A 1) (aI A 0) (aI A 1) (aT A) nd (aF A) g y q2) rfl (cx_same hn hh)
      · rw [if_neg q2, show cl (2 : Int32) = 2 from rfl]
        exact lf_mus (k_X5_set_ok_2 l D ct sz o ad (aV A) z w n (aK A) hn hk (aS A 0) (aS A 1) (aI A 0) (aI A 1) (aT A) nd (aF A) g y q2) rfl (cx_rec hn hk hh)
theorem cx_type (l : Launch) (D : va_G) (ct : Nat → ClassId) (sz : Nat) (o : Nat → Nat) (ad : Nat → Nat → Nat) {A : AS} {W : va_W} {b : Nat} (hX : CX ct o ad A W) (ok : aOk b A) (hb : b < 2 ^ 30) (x : Int32) (hx16 : vp_nar .char x = x) : Met l yX5_type wsX5_type ({ frames := 1, cells := 0, slots := 0, locals := 21 }) (muPS D ct W sz [.ref (o 0), .int x]) (mxQ D ct W sz (f_type A x) (CX ct o ad)) 0 0 (va_A W sz) := by
  obtain ⟨v, k, h, s, ik, t, f⟩ := A
  obtain ⟨z, w, n, nd, g, rfl, hn, hh⟩ := hX
  have hk : k ≤ 5 := ok.2.1
  have ht : t ≤ 30 := ok.2.2.2.2
  unfold f_type
  by_cases q : t < 30
  · rw [if_pos q]
    exact lf_mu (k_X5_type_ok l D ct sz o ad v z w n k hn hk (s 0) (s 1) (ik 0) (ik 1) t nd f g q x hx16) rfl ⟨z, w, n, nd, g, rfl, hn, hh⟩
  · rw [if_neg q]
    obtain rfl : t = 30 := by omega
    exact lf_ro (k_X5_type_e l D ct o ad v z w n k hn hk (s 0) (s 1) (ik 0) (ik 1) nd f g x) rfl ⟨z, w, n, nd, g, rfl, hn, hh⟩
theorem cx_clearText (l : Launch) (D : va_G) (ct : Nat → ClassId) (sz : Nat) (o : Nat → Nat) (ad : Nat → Nat → Nat) {A : AS} {W : va_W} {b : Nat} (hX : CX ct o ad A W) (ok : aOk b A) (hb : b < 2 ^ 30) : Met l yX5_clearText wsX5_clearText ({ frames := 0, cells := 0, slots := 0, locals := 0 }) (muPS D ct W sz [.ref (o 0)]) (mxQ D ct W sz (f_clearText A) (CX ct o ad)) 0 0 (va_A W sz) := by
  obtain ⟨z, w, n, nd, g, rfl, hn, hh⟩ := hX
  have hk := ok.2.1
  exact lf_mu (k_X5_clearText l D ct sz o ad (aV A) z w n (aK A) hn hk (aS A 0) (aS A 1) (aI A 0) (aI A 1) (aT A) nd (aF A) g) rfl ⟨z, w, n, nd, g, rfl, hn, hh⟩
theorem cx_show (l : Launch) (D : va_G) (ct : Nat → ClassId) (sz : Nat) (o : Nat → Nat) (ad : Nat → Nat → Nat) {A : AS} {W : va_W} {b : Nat} (hX : CX ct o ad A W) (ok : aOk b A) (hb : b < 2 ^ 30) : Met l yX5_show wsX5_show ({ frames := 4, cells := 0, slots := 0, locals := 104 }) (muPS D ct W sz [.ref (o 0)]) (mxQ D ct W sz (f_show A) (CX ct o ad)) 0 0 (va_A W sz) := by
  obtain ⟨z, w, n, nd, g, rfl, hn, hh⟩ := hX
  have hk := ok.2.1
  have ht : aT A ≤ 30 := ok.2.2.2.2
  unfold f_show
  by_cases q : (shA A).1 = -4
  · rw [if_pos q]
    exact lf_mus (k_X5_show_ok l D ct sz o ad (aV A) z w n (aK A) hn hk (aS A 0) (aS A 1) (aI A 0) (aI A 1) (aT A) nd (aF A) g ok.inv ht q) rfl (cx_rec hn hk hh)
  · rw [if_neg q]
    exact lf_mus (k_X5_show_e l D ct sz o ad (aV A) z w n (aK A) hn hk (aS A 0) (aS A 1) (aI A 0) (aI A 1) (aT A) nd (aF A) g ok.inv ht q) rfl (cx_same hn hh)
theorem cx_undo (l : Launch) (D : va_G) (ct : Nat → ClassId) (sz : Nat) (o : Nat → Nat) (ad : Nat → Nat → Nat) {A : AS} {W : va_W} {b : Nat} (hX : CX ct o ad A W) (ok : aOk b A) (hb : b < 2 ^ 30) : Met l yX5_undo wsX5_undo ({ frames := 4, cells := 0, slots := 0, locals := 104 }) (muPS D ct W sz [.ref (o 0)]) (mxQ D ct W sz (f_undo A) (CX ct o ad)) 0 0 (va_A W sz) := by
  obtain ⟨v, k, h, s, ik, t, f⟩ := A
  obtain ⟨z, w, n, nd, g, rfl, hn, hh⟩ := hX
  have hk : k ≤ 5 := ok.2.1
  unfold f_undo
  match k, hk, hh with
  | 0, _, hh =>
    rw [if_pos rfl]
    exact lf_ro (k_X5_undo_e l D ct o ad v z w n hn (s 0) (s 1) (ik 0) (ik 1) t nd f g) rfl ⟨z, w, n, nd, g, rfl, hn, hh⟩
  | k + 1, hk, hh =>
    rw [if_neg (Nat.succ_ne_zero k)]
    have e1 : h k = w (prv n) := by
      have h1 : h k = w ((n + 5 - (k + 1) + k) % 5) := hh k (Nat.lt_succ_self k)
      rw [h1]
      congr 1
      unfold prv
      split <;> omega
    have h9 := k_X5_undo_ok l D ct sz o ad v z w n k hn (by omega) (s 0) (s 1) (ik 0) (ik 1) t nd f g
    rw [← e1] at h9
    refine lf_mu h9 rfl ⟨z, w, prv n, nd, g, rfl, prv_lt hn, fun i hi => ?_⟩
    have hi : i < k := hi
    have h1 : h i = w ((n + 5 - (k + 1) + i) % 5) := hh i (Nat.lt_succ_of_lt hi)
    show h i = w ((prv n + 5 - k + i) % 5)
    rw [h1]
    congr 1
    unfold prv
    split <;> omega
theorem cx_keep (l : Launch) (D : va_G) (ct : Nat → ClassId) (sz : Nat) (o : Nat → Nat) (ad : Nat → Nat → Nat) {A : AS} {W : va_W} {b : Nat} (hX : CX ct o ad A W) (ok : aOk b A) (hb : b < 2 ^ 30) (x : Int32) : Met l yX5_keep wsX5_keep ({ frames := 3, cells := 0, slots := 0, locals := 83 }) (muPS D ct W sz [.ref (o 0), .int x]) (mxQ D ct W sz (f_keep A x) (CX ct o ad)) 0 0 (va_A W sz) := by
  obtain ⟨z, w, n, nd, g, rfl, hn, hh⟩ := hX
  have hk := ok.2.1
  unfold f_keep
  by_cases q : pIn x 0 1 = 0
  · rw [if_pos q]
    exact lf_ro (k_X5_keep_e1 l D ct o ad (aV A) z w n (aK A) hn hk (aS A 0) (aS A 1) (aI A 0) (aI A 1) (aT A) nd (aF A) g x q) rfl (cx_same hn hh)
  · rw [if_neg q]
    obtain ⟨j, j1, j2, e⟩ := pIn_rg (l := 0) (h := 1) rfl rfl (by decide) (by decide) q
    rcases (show j = 0 ∨ j = 1 by omega) with rfl | rfl
    · have e0 : x = 0 := e
      subst e0
      rw [show cl (0 : Int32) = 0 from rfl]
      exact lf_mu (k_X5_keep_ok_0 l D ct sz o ad (aV A) z w n (aK A) hn hk (aS A 0) (aS A 1) (aI A 0) (aI A 1) (aT A) nd (aF A) g) rfl (cx_mk hn hh rfl rfl rfl rfl rfl rfl rfl rfl)
    · have e0 : x = 1 := e
      subst e0
      rw [show cl (1 : Int32) = 1 from rfl]
      exact lf_mu (k_X5_keep_ok_1 l D ct sz o ad (aV A) z w n (aK A) hn hk (aS A 0) (aS A 1) (aI A 0) (aI A 1) (aT A) nd (aF A) g) rfl (cx_mk hn hh rfl rfl rfl rfl rfl rfl rfl rfl)
theorem cx_restore (l : Launch) (D : va_G) (ct : Nat → ClassId) (sz : Nat) (o : Nat → Nat) (ad : Nat → Nat → Nat) {A : AS} {W : va_W} {b : Nat} (hX : CX ct o ad A W) (ok : aOk b A) (hb : b < 2 ^ 30) (x : Int32) : Met l yX5_restore wsX5_restore ({ frames := 4, cells := 0, slots := 0, locals := 104 }) (muPS D ct W sz [.ref (o 0), .int x]) (mxQ D ct W sz (f_restore A x) (CX ct o ad)) 0 0 (va_A W sz) := by
  obtain ⟨z, w, n, nd, g, rfl, hn, hh⟩ := hX
  have hk := ok.2.1
  unfold f_restore
  by_cases q : pIn x 0 1 = 0
  · rw [if_pos q]
    exact lf_ro (k_X5_restore_e1 l D ct o ad (aV A) z w n (aK A) hn hk (aS A 0) (aS A 1) (aI A 0) (aI A 1) (aT A) nd (aF A) g x q) rfl (cx_same hn hh)
  · rw [if_neg q]
    obtain ⟨j, j1, j2, e⟩ := pIn_rg (l := 0) (h := 1) rfl rfl (by decide) (by decide) q
    rcases (show j = 0 ∨ j = 1 by omega) with rfl | rfl
    · have e0 : x = 0 := e
      subst e0
      rw [show cl (0 : Int32) = 0 from rfl]
      by_cases q2 : aI A 0 = 0
      · rw [if_pos q2]
        exact lf_ro (k_X5_restore_e2_0 l D ct o ad (aV A) z w n (aK A) hn hk (aS A 0) (aS A 1) (aI A 0) (aI A 1) (aT A) nd (aF A) g q2) rfl (cx_same hn hh)
      · rw [if_neg q2]
        exact lf_mu (k_X5_restore_ok_0 l D ct sz o ad (aV A) z w n (aK A) hn hk (aS A 0) (aS A 1) (aI A 0) (aI A 1) (aT A) nd (aF A) g q2) rfl (cx_rec hn hk hh)
    · have e0 : x = 1 := e
      subst e0
      rw [show cl (1 : Int32) = 1 from rfl]
      by_cases q2 : aI A 1 = 0
      · rw [if_pos q2]
        exact lf_ro (k_X5_restore_e2_1 l D ct o ad (aV A) z w n (aK A) hn hk (aS A 0) (aS A 1) (aI A 0) (aI A 1) (aT A) nd (aF A) g q2) rfl (cx_same hn hh)
      · rw [if_neg q2]
        exact lf_mu (k_X5_restore_ok_1 l D ct sz o ad (aV A) z w n (aK A) hn hk (aS A 0) (aS A 1) (aI A 0) (aI A 1) (aT A) nd (aF A) g q2) rfl (cx_rec hn hk hh)
theorem cx_digit (l : Launch) (D : va_G) (ct : Nat → ClassId) (sz : Nat) (o : Nat → Nat) (ad : Nat → Nat → Nat) {A : AS} {W : va_W} {b : Nat} (hX : CX ct o ad A W) (ok : aOk b A) (hb : b < 2 ^ 30) (x y : Int32) : Met l yX5_digit wsX5_digit ({ frames := 2, cells := 0, slots := 0, locals := 43 }) (muPS D ct W sz [.ref (o 0), .int x, .int y]) (mxQ D ct W sz (f_digit A x y) (CX ct o ad)) 0 0 (va_A W sz) := by
  obtain ⟨z, w, n, nd, g, rfl, hn, hh⟩ := hX
  have hk := ok.2.1
  unfold f_digit
  by_cases hv : vD (aV A) x
  · rw [if_pos hv]
    obtain ⟨hd, e⟩ := vD_cl ok.inv hv
    exact lf_ros (by have h9 := k_X5_digit_ok l D ct o ad (aV A) z w n (aK A) hn hk (aS A 0) (aS A 1) (aI A 0) (aI A 1) (aT A) nd (aF A) g ok.inv (cl x) hd y; rw [← e] at h9; exact h9) rfl (cx_same hn hh)
  · rw [if_neg hv]
    exact lf_ros (k_X5_digit_e1 l D ct o ad (aV A) z w n (aK A) hn hk (aS A 0) (aS A 1) (aI A 0) (aI A 1) (aT A) nd (aF A) g x y hv) rfl (cx_same hn hh)
theorem cx_segment (l : Launch) (D : va_G) (ct : Nat → ClassId) (sz : Nat) (o : Nat → Nat) (ad : Nat → Nat → Nat) {A : AS} {W : va_W} {b : Nat} (hX : CX ct o ad A W) (ok : aOk b A) (hb : b < 2 ^ 30) (x y y2 : Int32) : Met l yX5_segment wsX5_segment ({ frames := 2, cells := 0, slots := 0, locals := 43 }) (muPS D ct W sz [.ref (o 0), .int x, .int y, .int y2]) (mxQ D ct W sz (f_segment A x y y2) (CX ct o ad)) 0 0 (va_A W sz) := by
  obtain ⟨z, w, n, nd, g, rfl, hn, hh⟩ := hX
  have hk := ok.2.1
  unfold f_segment
  by_cases hv : vD (aV A) x
  · rw [if_pos hv]
    obtain ⟨hd, e⟩ := vD_cl ok.inv hv
    by_cases q : pIn y 0 7 = 0
    · rw [if_pos q]
      exact lf_ro (by have h9 := k_X5_segment_e2 l D ct o ad (aV A) z w n (aK A) hn hk (aS A 0) (aS A 1) (aI A 0) (aI A 1) (aT A) nd (aF A) g ok.inv (cl x) hd y y2 q; rw [← e] at h9; exact h9) rfl (cx_same hn hh)
    · rw [if_neg q]
      obtain ⟨j, j1, j2, e3⟩ := pIn_rg (l := 0) (h := 7) rfl rfl (by decide) (by decide) q
      have ec := cl_of (by omega) e3
      have e2 : y = nI (cl y) := by rw [ec]; exact e3
      exact lf_ro (by have h9 := k_X5_segment_ok l D ct o ad (aV A) z w n (aK A) hn hk (aS A 0) (aS A 1) (aI A 0) (aI A 1) (aT A) nd (aF A) g ok.inv (cl x) hd (cl y) (by omega) y2; rw [← e, ← e2] at h9; exact h9) rfl (cx_same hn hh)
  · rw [if_neg hv]
    exact lf_ro (k_X5_segment_e1 l D ct o ad (aV A) z w n (aK A) hn hk (aS A 0) (aS A 1) (aI A 0) (aI A 1) (aT A) nd (aF A) g x y y2 hv) rfl (cx_same hn hh)
theorem cx_litIn (l : Launch) (D : va_G) (ct : Nat → ClassId) (sz : Nat) (o : Nat → Nat) (ad : Nat → Nat → Nat) {A : AS} {W : va_W} {b : Nat} (hX : CX ct o ad A W) (ok : aOk b A) (hb : b < 2 ^ 30) (x y : Int32) : Met l yX5_litIn wsX5_litIn ({ frames := 5, cells := 0, slots := 0, locals := 116 }) (muPS D ct W sz [.ref (o 0), .int x, .int y]) (mxQ D ct W sz (f_litIn A x y) (CX ct o ad)) 0 0 (va_A W sz) := by
  obtain ⟨z, w, n, nd, g, rfl, hn, hh⟩ := hX
  have hk := ok.2.1
  unfold f_litIn
  by_cases hv : vD (aV A) x
  · rw [if_pos hv]
    obtain ⟨hd, e⟩ := vD_cl ok.inv hv
    by_cases q : pIn y 0 500 = 0
    · rw [if_pos q]
      exact lf_ro (by have h9 := k_X5_litIn_e2 l D ct o ad (aV A) z w n (aK A) hn hk (aS A 0) (aS A 1) (aI A 0) (aI A 1) (aT A) nd (aF A) g ok.inv (cl x) hd y q; rw [← e] at h9; exact h9) rfl (cx_same hn hh)
    · rw [if_neg q]
      obtain ⟨j, j1, j2, e3⟩ := pIn_rg (l := 0) (h := 500) rfl rfl (by decide) (by decide) q
      have ec := cl_of (by omega) e3
      have e2 : y = nI (cl y) := by rw [ec]; exact e3
      exact lf_mu (by have h9 := k_X5_litIn_ok l D ct sz o ad (aV A) z w n (aK A) hn hk (aS A 0) (aS A 1) (aI A 0) (aI A 1) (aT A) nd (aF A) g ok.inv (cl x) hd (cl y) (by omega); rw [← e, ← e2] at h9; exact h9) rfl (cx_same hn hh)
  · rw [if_neg hv]
    exact lf_ro (k_X5_litIn_e1 l D ct o ad (aV A) z w n (aK A) hn hk (aS A 0) (aS A 1) (aI A 0) (aI A 1) (aT A) nd (aF A) g x y hv) rfl (cx_same hn hh)
theorem cx_steadyGlow (l : Launch) (D : va_G) (ct : Nat → ClassId) (sz : Nat) (o : Nat → Nat) (ad : Nat → Nat → Nat) {A : AS} {W : va_W} {b : Nat} (hX : CX ct o ad A W) (ok : aOk b A) (hb : b < 2 ^ 30) (x : Int32) : Met l yX5_steadyGlow wsX5_steadyGlow ({ frames := 3, cells := 0, slots := 0, locals := 72 }) (muPS D ct W sz [.ref (o 0), .int x]) (mxQ D ct W sz (f_steadyGlow A x) (CX ct o ad)) 0 0 (va_A W sz) := by
  obtain ⟨z, w, n, nd, g, rfl, hn, hh⟩ := hX
  have hk := ok.2.1
  unfold f_steadyGlow
  by_cases hv : vD (aV A) x
  · rw [if_pos hv]
    obtain ⟨hd, e⟩ := vD_cl ok.inv hv
    obtain ⟨L, M, q, p1, p2, p3, p4, p5, p6, p7⟩ := st_par ok.inv hd
    have eS : stdG (aV A) (cl x) = if L = 0 then 0 else nI (pSt L M q) := by
      unfold stdG
      rw [p2, p1, p3, cl_of (x := nI L) (k := L) (by omega) rfl, cl_of (x := nI M) (k := M) (by omega) rfl, cl_of (x := nI q) (k := q) (by omega) rfl]
    rw [eS]
    exact lf_ro (by have h9 := k_X5_steadyGlow_ok l D ct o ad (aV A) z w n (aK A) hn hk (aS A 0) (aS A 1) (aI A 0) (aI A 1) (aT A) nd (aF A) g ok.inv (cl x) hd L M q p1 p2 p3 p4 p5 p6 p7; rw [← e] at h9; exact h9) rfl (cx_same hn hh)
  · rw [if_neg hv]
    exact lf_ro (k_X5_steadyGlow_e1 l D ct o ad (aV A) z w n (aK A) hn hk (aS A 0) (aS A 1) (aI A 0) (aI A 1) (aT A) nd (aF A) g x hv) rfl (cx_same hn hh)
theorem cx_thousandths (l : Launch) (D : va_G) (ct : Nat → ClassId) (sz : Nat) (o : Nat → Nat) (ad : Nat → Nat → Nat) {A : AS} {W : va_W} {b : Nat} (hX : CX ct o ad A W) (ok : aOk b A) (hb : b < 2 ^ 30) (x : Int32) : Met l yX5_thousandths wsX5_thousandths ({ frames := 1, cells := 0, slots := 0, locals := 22 }) (muPS D ct W sz [.ref (o 0), .int x]) (mxQ D ct W sz (f_thousandths A x) (CX ct o ad)) 0 0 (va_A W sz) := by
  obtain ⟨z, w, n, nd, g, rfl, hn, hh⟩ := hX
  have hk := ok.2.1
  unfold f_thousandths
  by_cases q : pIn x 0 2 = 0
  · rw [if_pos q]
    exact lf_ro (k_X5_thousandths_e l D ct o ad (aV A) z w n (aK A) hn hk (aS A 0) (aS A 1) (aI A 0) (aI A 1) (aT A) nd (aF A) g x q) rfl (cx_same hn hh)
  · rw [if_neg q]
    obtain ⟨j, j1, j2, e⟩ := pIn_rg (l := 0) (h := 2) rfl rfl (by decide) (by decide) q
    have ec := cl_of (by omega) e
    have e2 : x = nI (cl x) := by rw [ec]; exact e
    exact lf_ro (by have h9 := k_X5_thousandths_ok l D ct o ad (aV A) z w n (aK A) hn hk (aS A 0) (aS A 1) (aI A 0) (aI A 1) (aT A) nd (aF A) g ok.inv (cl x) (by omega); rw [← e2] at h9; exact h9) rfl (cx_same hn hh)
theorem cx_count (l : Launch) (D : va_G) (ct : Nat → ClassId) (sz : Nat) (o : Nat → Nat) (ad : Nat → Nat → Nat) {A : AS} {W : va_W} {b : Nat} (hX : CX ct o ad A W) (ok : aOk b A) (hb : b < 2 ^ 30) (x : Int32) : Met l yX5_count wsX5_count ({ frames := 2, cells := 0, slots := 0, locals := 43 }) (muPS D ct W sz [.ref (o 0), .int x]) (mxQ D ct W sz (f_count A x) (CX ct o ad)) 0 0 (va_A W sz) := by
  obtain ⟨z, w, n, nd, g, rfl, hn, hh⟩ := hX
  have hk := ok.2.1
  unfold f_count
  exact lf_ro (k_X5_count l D ct o ad (aV A) z w n (aK A) hn hk (aS A 0) (aS A 1) (aI A 0) (aI A 1) (aT A) nd (aF A) g ok.inv x) rfl (cx_same hn hh)
theorem cx_group (l : Launch) (D : va_G) (ct : Nat → ClassId) (sz : Nat) (o : Nat → Nat) (ad : Nat → Nat → Nat) {A : AS} {W : va_W} {b : Nat} (hX : CX ct o ad A W) (ok : aOk b A) (hb : b < 2 ^ 30) (x y : Int32) : Met l yX5_group wsX5_group ({ frames := 1, cells := 0, slots := 0, locals := 23 }) (muPS D ct W sz [.ref (o 0), .int x, .int y]) (mxQ D ct W sz (f_group A x y) (CX ct o ad)) 0 0 (va_A W sz) := by
  obtain ⟨z, w, n, nd, g, rfl, hn, hh⟩ := hX
  have hk := ok.2.1
  unfold f_group
  by_cases q : pIn x 0 3 = 0
  · rw [if_pos q]
    exact lf_ro (k_X5_group_e1 l D ct o ad (aV A) z w n (aK A) hn hk (aS A 0) (aS A 1) (aI A 0) (aI A 1) (aT A) nd (aF A) g x y q) rfl (cx_same hn hh)
  · rw [if_neg q]
    obtain ⟨j, j1, j2, e⟩ := pIn_rg (l := 0) (h := 3) rfl rfl (by decide) (by decide) q
    have ec := cl_of (by omega) e
    have e2 : x = nI (cl x) := by rw [ec]; exact e
    exact lf_ro (by have h9 := k_X5_group_ok l D ct o ad (aV A) z w n (aK A) hn hk (aS A 0) (aS A 1) (aI A 0) (aI A 1) (aT A) nd (aF A) g ok.inv (cl x) (by omega) y; rw [show Value.int (nI (cl x)) = .int x by rw [← e2]] at h9; exact h9) rfl (cx_same hn hh)
