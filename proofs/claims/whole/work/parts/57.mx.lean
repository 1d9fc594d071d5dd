/-! the model: each call, on the display as a value -/
theorem mx_setWidth (l : Launch) (D : va_G) (ct : Nat → ClassId) (sz : Nat) (a : Nat → Nat) {A : AS} {W : va_W} {b : Nat} (hX : MX ct a A W) (ok : aOk b A) (hb : b < 2 ^ 30) (x y : Int32) : Met l yX6_setWidth wsX6_setWidth ({ frames := 3, cells := 0, slots := 0, locals := 65 }) (muP D ct W sz [.ref (a 0), .int x, .int y]) (mxQ D ct W sz (f_setWidth A x y) (MX ct a)) 0 0 (va_A W sz) := by
  obtain ⟨u, rd, rfl⟩ := hX
  have hk := ok.2.1
  unfold f_setWidth
  by_cases hv : vD (aV A) x
  · rw [if_pos hv]
    obtain ⟨hd, e⟩ := vD_cl ok.inv hv
    by_cases q : pIn y 4 40 = 0
    · rw [if_pos q]
      exact lm_ro (by have h9 := k_X6_setWidth_e2 l D ct a (aV A) u (aH A) (aS A) (aK A) (aT A) hk (aI A) (aF A) rd ok.inv (cl x) hd y q; rw [← e] at h9; exact h9) rfl mx_same
    · rw [if_neg q]
      exact lm_mu (by have h9 := k_X6_setWidth_ok l D ct sz a (aV A) u (aH A) (aS A) (aK A) (aT A) hk (aI A) (aF A) rd ok.inv (cl x) hd y q; rw [← e] at h9; exact h9) rfl mx_rec
  · rw [if_neg hv]
    exact lm_ro (k_X6_setWidth_e1 l D ct a (aV A) u (aH A) (aS A) (aK A) (aT A) hk (aI A) (aF A) rd x y hv) rfl mx_same

theorem mx_setGuard (l : Launch) (D : va_G) (ct : Nat → ClassId) (sz : Nat) (a : Nat → Nat) {A : AS} {W : va_W} {b : Nat} (hX : MX ct a A W) (ok : aOk b A) (hb : b < 2 ^ 30) (x y : Int32) : Met l yX6_setGuard wsX6_setGuard ({ frames := 2, cells := 0, slots := 0, locals := 43 }) (muP D ct W sz [.ref (a 0), .int x, .int y]) (mxQ D ct W sz (f_setGuard A x y) (MX ct a)) 0 0 (va_A W sz) := by
  obtain ⟨u, rd, rfl⟩ := hX
  have hk := ok.2.1
  unfold f_setGuard
  by_cases hv : vD (aV A) x
  · rw [if_pos hv]
    obtain ⟨hd, e⟩ := vD_cl ok.inv hv
    by_cases q : pIn y 0 3 = 0
    · rw [if_pos q]
      exact lm_ro (by have h9 := k_X6_setGuard_e2 l D ct a (aV A) u (aH A) (aS A) (aK A) (aT A) hk (aI A) (aF A) rd ok.inv (cl x) hd y q; rw [← e] at h9; exact h9) rfl mx_same
    · rw [if_neg q]
      exact lm_mu (by have h9 := k_X6_setGuard_ok l D ct sz a (aV A) u (aH A) (aS A) (aK A) (aT A) hk (aI A) (aF A) rd ok.inv (cl x) hd y q; rw [← e] at h9; exact h9) rfl mx_rec
  · rw [if_neg hv]
    exact lm_ro (k_X6_setGuard_e1 l D ct a (aV A) u (aH A) (aS A) (aK A) (aT A) hk (aI A) (aF A) rd x y hv) rfl mx_same

theorem mx_setBrightness (l : Launch) (D : va_G) (ct : Nat → ClassId) (sz : Nat) (a : Nat → Nat) {A : AS} {W : va_W} {b : Nat} (hX : MX ct a A W) (ok : aOk b A) (hb : b < 2 ^ 30) (x y : Int32) : Met l yX6_setBrightness wsX6_setBrightness ({ frames := 2, cells := 0, slots := 0, locals := 43 }) (muP D ct W sz [.ref (a 0), .int x, .int y]) (mxQ D ct W sz (f_setBrightness A x y) (MX ct a)) 0 0 (va_A W sz) := by
  obtain ⟨u, rd, rfl⟩ := hX
  have hk := ok.2.1
  unfold f_setBrightness
  by_cases hv : vD (aV A) x
  · rw [if_pos hv]
    obtain ⟨hd, e⟩ := vD_cl ok.inv hv
    by_cases q : pIn y 0 15 = 0
    · rw [if_pos q]
      exact lm_ro (by have h9 := k_X6_setBrightness_e2 l D ct a (aV A) u (aH A) (aS A) (aK A) (aT A) hk (aI A) (aF A) rd ok.inv (cl x) hd y q; rw [← e] at h9; exact h9) rfl mx_same
    · rw [if_neg q]
      exact lm_mu (by have h9 := k_X6_setBrightness_ok l D ct sz a (aV A) u (aH A) (aS A) (aK A) (aT A) hk (aI A) (aF A) rd ok.inv (cl x) hd y q; rw [← e] at h9; exact h9) rfl mx_rec
  · rw [if_neg hv]
    exact lm_ro (k_X6_setBrightness_e1 l D ct a (aV A) u (aH A) (aS A) (aK A) (aT A) hk (aI A) (aF A) rd x y hv) rfl mx_same

theorem mx_setPattern (l : Launch) (D : va_G) (ct : Nat → ClassId) (sz : Nat) (a : Nat → Nat) {A : AS} {W : va_W} {b : Nat} (hX : MX ct a A W) (ok : aOk b A) (hb : b < 2 ^ 30) (x y : Int32) : Met l yX6_setPattern wsX6_setPattern ({ frames := 2, cells := 0, slots := 0, locals := 43 }) (muP D ct W sz [.ref (a 0), .int x, .int y]) (mxQ D ct W sz (f_setPattern A x y) (MX ct a)) 0 0 (va_A W sz) := by
  obtain ⟨u, rd, rfl⟩ := hX
  have hk := ok.2.1
  unfold f_setPattern
  by_cases hv : vD (aV A) x
  · rw [if_pos hv]
    obtain ⟨hd, e⟩ := vD_cl ok.inv hv
    by_cases q : pIn y 0 255 = 0
    · rw [if_pos q]
      exact lm_ro (by have h9 := k_X6_setPattern_e2 l D ct a (aV A) u (aH A) (aS A) (aK A) (aT A) hk (aI A) (aF A) rd ok.inv (cl x) hd y q; rw [← e] at h9; exact h9) rfl mx_same
    · rw [if_neg q]
      exact lm_mu (by have h9 := k_X6_setPattern_ok l D ct sz a (aV A) u (aH A) (aS A) (aK A) (aT A) hk (aI A) (aF A) rd ok.inv (cl x) hd y q; rw [← e] at h9; exact h9) rfl mx_rec
  · rw [if_neg hv]
    exact lm_ro (k_X6_setPattern_e1 l D ct a (aV A) u (aH A) (aS A) (aK A) (aT A) hk (aI A) (aF A) rd x y hv) rfl mx_same

theorem mx_setGroup (l : Launch) (D : va_G) (ct : Nat → ClassId) (sz : Nat) (a : Nat → Nat) {A : AS} {W : va_W} {b : Nat} (hX : MX ct a A W) (ok : aOk b A) (hb : b < 2 ^ 30) (x y : Int32) : Met l yX6_setGroup wsX6_setGroup ({ frames := 2, cells := 0, slots := 0, locals := 43 }) (muP D ct W sz [.ref (a 0), .int x, .int y]) (mxQ D ct W sz (f_setGroup A x y) (MX ct a)) 0 0 (va_A W sz) := by
  obtain ⟨u, rd, rfl⟩ := hX
  have hk := ok.2.1
  unfold f_setGroup
  by_cases hv : vD (aV A) x
  · rw [if_pos hv]
    obtain ⟨hd, e⟩ := vD_cl ok.inv hv
    by_cases q : pIn y 0 3 = 0
    · rw [if_pos q]
      exact lm_ro (k_X6_setGroup_e1 l D ct a (aV A) u (aH A) (aS A) (aK A) (aT A) hk (aI A) (aF A) rd x y (Or.inr q)) rfl mx_same
    · rw [if_neg q]
      exact lm_mu (by have h9 := k_X6_setGroup_ok l D ct sz a (aV A) u (aH A) (aS A) (aK A) (aT A) hk (aI A) (aF A) rd ok.inv (cl x) hd y q; rw [← e] at h9; exact h9) rfl mx_rec
  · rw [if_neg hv]
    exact lm_ro (k_X6_setGroup_e1 l D ct a (aV A) u (aH A) (aS A) (aK A) (aT A) hk (aI A) (aF A) rd x y (Or.inl hv)) rfl mx_same

theorem mx_replace (l : Launch) (D : va_G) (ct : Nat → ClassId) (sz : Nat) (a : Nat → Nat) {A : AS} {W : va_W} {b : Nat} (hX : MX ct a A W) (ok : aOk b A) (hb : b < 2 ^ 30) (x : Int32) : Met l yX6_replace wsX6_replace ({ frames := 2, cells := 0, slots := 0, locals := 43 }) (muP D ct W sz [.ref (a 0), .int x]) (mxQ D ct W sz (f_replace A x) (MX ct a)) 0 0 (va_A W sz) := by
  obtain ⟨u, rd, rfl⟩ := hX
  have hk := ok.2.1
  unfold f_replace
  by_cases hv : vD (aV A) x
  · rw [if_pos hv]
    obtain ⟨hd, e⟩ := vD_cl ok.inv hv
    exact lm_mu (by have h9 := k_X6_replace_ok l D ct sz a (aV A) u (aH A) (aS A) (aK A) (aT A) hk (aI A) (aF A) rd ok.inv (cl x) hd; rw [← e] at h9; exact h9) rfl mx_rec
  · rw [if_neg hv]
    exact lm_ro (k_X6_replace_e1 l D ct a (aV A) u (aH A) (aS A) (aK A) (aT A) hk (aI A) (aF A) rd x hv) rfl mx_same

theorem mx_setDigits (l : Launch) (D : va_G) (ct : Nat → ClassId) (sz : Nat) (a : Nat → Nat) {A : AS} {W : va_W} {b : Nat} (hX : MX ct a A W) (ok : aOk b A) (hb : b < 2 ^ 30) (x : Int32) : Met l yX6_setDigits wsX6_setDigits ({ frames := 2, cells := 0, slots := 0, locals := 44 }) (muP D ct W sz [.ref (a 0), .int x]) (mxQ D ct W sz (f_setDigits A x) (MX ct a)) 0 0 (va_A W sz) := by
  obtain ⟨u, rd, rfl⟩ := hX
  have hk := ok.2.1
  unfold f_setDigits
  by_cases q : pIn x 1 8 = 0
  · rw [if_pos q]
    exact lm_ro (k_X6_setDigits_e2 l D ct a (aV A) u (aH A) (aS A) (aK A) (aT A) hk (aI A) (aF A) rd x q) rfl mx_same
  · rw [if_neg q]
    obtain ⟨j, j1, j2, e⟩ := pIn_rg (l := 1) (h := 8) rfl rfl (by decide) (by decide) q
    have ec := cl_of (by omega) e
    have e2 : x = nI (cl x) := by rw [ec]; exact e
    exact lm_mu (by have h9 := k_X6_setDigits_ok l D ct sz a (aV A) u (aH A) (aS A) (aK A) (aT A) hk (aI A) (aF A) rd ok.inv (cl x) (by omega) (by omega); rw [← e2] at h9; exact h9) rfl mx_rec

theorem mx_test (l : Launch) (D : va_G) (ct : Nat → ClassId) (sz : Nat) (a : Nat → Nat) {A : AS} {W : va_W} {b : Nat} (hX : MX ct a A W) (ok : aOk b A) (hb : b < 2 ^ 30) (x : Int32) : Met l yX6_test wsX6_test ({ frames := 1, cells := 0, slots := 0, locals := 22 }) (muP D ct W sz [.ref (a 0), .int x]) (mxQ D ct W sz (f_test A x) (MX ct a)) 0 0 (va_A W sz) := by
  obtain ⟨u, rd, rfl⟩ := hX
  have hk := ok.2.1
  unfold f_test
  by_cases q : pIn x 0 50 = 0
  · rw [if_pos q]
    exact lm_ro (k_X6_test_e2 l D ct a (aV A) u (aH A) (aS A) (aK A) (aT A) hk (aI A) (aF A) rd x q) rfl mx_same
  · rw [if_neg q]
    obtain ⟨j, j1, j2, e⟩ := pIn_rg (l := 0) (h := 50) rfl rfl (by decide) (by decide) q
    have ec := cl_of (by omega) e
    have e2 : x = nI (cl x) := by rw [ec]; exact e
    exact lm_mu (k_X6_test_ok l D ct sz a (aV A) u (aH A) (aS A) (aK A) (aT A) hk (aI A) (aF A) rd x q) rfl mx_rec

theorem mx_pass (l : Launch) (D : va_G) (ct : Nat → ClassId) (sz : Nat) (a : Nat → Nat) {A : AS} {W : va_W} {b : Nat} (hX : MX ct a A W) (ok : aOk b A) (hb : b < 2 ^ 30) (x : Int32) : Met l yX6_pass wsX6_pass ({ frames := 5, cells := 0, slots := 0, locals := 115 }) (muP D ct W sz [.ref (a 0), .int x]) (mxQ D ct W sz (f_pass A x) (MX ct a)) 0 0 (va_A W sz) := by
  obtain ⟨u, rd, rfl⟩ := hX
  have hk := ok.2.1
  unfold f_pass
  by_cases q : pIn x 1 500 = 0
  · rw [if_pos q]
    exact lm_ro (k_X6_pass_e2 l D ct a (aV A) u (aH A) (aS A) (aK A) (aT A) hk (aI A) (aF A) rd x q) rfl mx_same
  · rw [if_neg q]
    obtain ⟨j, j1, j2, e⟩ := pIn_rg (l := 1) (h := 500) rfl rfl (by decide) (by decide) q
    have ec := cl_of (by omega) e
    have e2 : x = nI (cl x) := by rw [ec]; exact e
    exact lm_mu (by have h9 := k_X6_pass_ok l D ct sz a (aV A) u (aH A) (aS A) (aK A) (aT A) hk (aI A) (aF A) rd ok.inv (cl x) (by omega) (by omega); rw [← e2] at h9; exact h9) rfl mx_rec

theorem mx_passFrames (l : Launch) (D : va_G) (ct : Nat → ClassId) (sz : Nat) (a : Nat → Nat) {A : AS} {W : va_W} {b : Nat} (hX : MX ct a A W) (ok : aOk b A) (hb : b < 2 ^ 30) (x : Int32) : Met l yX6_passFrames wsX6_passFrames ({ frames := 5, cells := 0, slots := 0, locals := 115 }) (muP D ct W sz [.ref (a 0), .int x]) (mxQ D ct W sz (f_passFrames A x) (MX ct a)) 0 0 (va_A W sz) := by
  obtain ⟨u, rd, rfl⟩ := hX
  have hk := ok.2.1
  unfold f_passFrames
  by_cases q : pIn x 1 20 = 0
  · rw [if_pos q]
    exact lm_ro (k_X6_passFrames_e2 l D ct a (aV A) u (aH A) (aS A) (aK A) (aT A) hk (aI A) (aF A) rd x q) rfl mx_same
  · rw [if_neg q]
    obtain ⟨j, j1, j2, e⟩ := pIn_rg (l := 1) (h := 20) rfl rfl (by decide) (by decide) q
    have ec := cl_of (by omega) e
    have e2 : x = nI (cl x) := by rw [ec]; exact e
    obtain ⟨F, hF, hF2⟩ := ok.1.2
    exact lm_mu (by have h9 := k_X6_passFrames_ok l D ct sz a (aV A) u (aH A) (aS A) (aK A) (aT A) hk (aI A) (aF A) rd ok.inv (cl x) (by omega) (by omega) F hF (by omega); rw [← e2] at h9; exact h9) rfl mx_rec

theorem mx_setBlink (l : Launch) (D : va_G) (ct : Nat → ClassId) (sz : Nat) (a : Nat → Nat) {A : AS} {W : va_W} {b : Nat} (hX : MX ct a A W) (ok : aOk b A) (hb : b < 2 ^ 30) (x y y2 : Int32) : Met l yX6_setBlink wsX6_setBlink ({ frames := 2, cells := 0, slots := 0, locals := 45 }) (muP D ct W sz [.ref (a 0), .int x, .int y, .int y2]) (mxQ D ct W sz (f_setBlink A x y y2) (MX ct a)) 0 0 (va_A W sz) := by
  obtain ⟨u, rd, rfl⟩ := hX
  have hk := ok.2.1
  unfold f_setBlink
  by_cases q : pIn x 1 3 = 0
  · rw [if_pos q]
    exact lm_ro (k_X6_setBlink_e1 l D ct a (aV A) u (aH A) (aS A) (aK A) (aT A) hk (aI A) (aF A) rd x y y2 q) rfl mx_same
  · rw [if_neg q]
    by_cases q2 : pIn y 1 50 = 0 ∨ pIn y2 0 50 = 0
    · rw [if_pos q2]
      exact lm_ro (k_X6_setBlink_e2 l D ct a (aV A) u (aH A) (aS A) (aK A) (aT A) hk (aI A) (aF A) rd x y y2 q q2) rfl mx_same
    · rw [if_neg q2]
      obtain ⟨j, j1, j2, e⟩ := pIn_rg (l := 1) (h := 3) rfl rfl (by decide) (by decide) q
      have ec := cl_of (by omega) e
      have e2 : x = nI (cl x) := by rw [ec]; exact e
      exact lm_mu (by have h9 := k_X6_setBlink_ok l D ct sz a (aV A) u (aH A) (aS A) (aK A) (aT A) hk (aI A) (aF A) rd ok.inv (cl x) (by omega) (by omega) y y2 (fun c9 => q2 (Or.inl c9)) (fun c9 => q2 (Or.inr c9)); rw [show Value.int (nI (cl x)) = .int x by rw [← e2]] at h9; exact h9) rfl mx_rec

theorem mx_set (l : Launch) (D : va_G) (ct : Nat → ClassId) (sz : Nat) (a : Nat → Nat) {A : AS} {W : va_W} {b : Nat} (hX : MX ct a A W) (ok : aOk b A) (hb : b < 2 ^ 30) (x y : Int32) : Met l yX6_set wsX6_set ({ frames := 1, cells := 0, slots := 0, locals := 22 }) (muP D ct W sz [.ref (a 0), .int x, .int y]) (mxQ D ct W sz (f_set A x y) (MX ct a)) 0 0 (va_A W sz) := by
  obtain ⟨u, rd, rfl⟩ := hX
  have hk := ok.2.1
  unfold f_set
  by_cases q : pIn x 0 2 = 0
  · rw [if_pos q]
    exact lm_ro (k_X6_set_e1 l D ct a (aV A) u (aH A) (aS A) (aK A) (aT A) hk (aI A) (aF A) rd x y q) rfl mx_same
  · rw [if_neg q]
    obtain ⟨j, j1, j2, e⟩ := pIn_rg (l := 0) (h := 2) rfl rfl (by decide) (by decide) q
    rcases (show j = 0 ∨ j = 1 ∨ j = 2 by omega) with rfl | rfl | rfl
    · have e0 : x = 0 := e
      subst e0
      by_cases q2 : pIn y (setLo 0) (setHi 0) = 0
      · rw [if_pos q2]
        exact lm_ro (k_X6_set_e2_0 l D ct a (aV A) u (aH A) (aS A) (aK A) (aT A) hk (aI A) (aF A) rd y q2) rfl mx_same
      · rw [if_neg q2, show cl (0 : Int32) = 0 from rfl]
        exact lm_mu (k_X6_set_ok_0 l D ct sz a (aV A) u (aH A) (aS A) (aK A) (aT A) hk (aI A) (aF A) rd y q2) rfl mx_rec
    · have e0 : x = 1 := e
      subst e0
      by_cases q2 : pIn y (setLo 1) (setHi 1) = 0
      · rw [if_pos q2]
        exact lm_ro (k_X6_set_e2_1 l D ct a (aV A) u (aH A) (aS A) (aK A) (aT A) hk (aI A) (aF A) rd y q2) rfl mx_same
      · rw [if_neg q2, show cl (1 : Int32) = 1 from rfl]
        exact lm_mu (k_X6_set_ok_1 l D ct sz a (aV A) u (aH A) (aS A) (aK A) (aT A) hk (aI A) (aF A) rd y q2) rfl mx_rec
    · have e0 : x = 2 := e
      subst e0
      by_cases q2 : pIn y (setLo 2) (setHi 2) = 0
      · rw [if_pos q2]
        exact lm_ro (k_X6_set_e2_2 l D ct a (aV A) u (aH A) (aS A) (aK A) (aT A) hk (aI A) (aF A) rd y q2) rfl mx_same
      · rw [if_neg q2, show cl (2 : Int32) = 2 from rfl]
        exact lm_mu (k_X6_set_ok_2 l D ct sz a (aV A) u (aH A) (aS A) (aK A) (aT A) hk (aI A) (aF A) rd y q2) rfl mx_rec

theorem mx_type (l : Launch) (D : va_G) (ct : Nat → ClassId) (sz : Nat) (a : Nat → Nat) {A : AS} {W : va_W} {b : Nat} (hX : MX ct a A W) (ok : aOk b A) (hb : b < 2 ^ 30) (x : Int32) (hx16 : vp_nar .char x = x) : Met l yX6_type wsX6_type ({ frames := 0, cells := 0, slots := 0, locals := 0 }) (muP D ct W sz [.ref (a 0), .int x]) (mxQ D ct W sz (f_type A x) (MX ct a)) 0 0 (va_A W sz) := by
  obtain ⟨v, k, h, s, ik, t, f⟩ := A
  obtain ⟨u, rd, rfl⟩ := hX
  have hk : k ≤ 5 := ok.2.1
  have ht : t ≤ 30 := ok.2.2.2.2
  unfold f_type
  by_cases q : t < 30
  · rw [if_pos q]
    exact lm_mu (k_X6_type_ok l D ct sz a v u h s k t hk ik f rd q x hx16) rfl ⟨u, rd, rfl⟩
  · rw [if_neg q]
    obtain rfl : t = 30 := by omega
    exact lm_ro (k_X6_type_e l D ct a v u h s k hk ik f rd x) rfl ⟨u, rd, rfl⟩

theorem mx_clearText (l : Launch) (D : va_G) (ct : Nat → ClassId) (sz : Nat) (a : Nat → Nat) {A : AS} {W : va_W} {b : Nat} (hX : MX ct a A W) (ok : aOk b A) (hb : b < 2 ^ 30) : Met l yX6_clearText wsX6_clearText ({ frames := 0, cells := 0, slots := 0, locals := 0 }) (muP D ct W sz [.ref (a 0)]) (mxQ D ct W sz (f_clearText A) (MX ct a)) 0 0 (va_A W sz) := by
  obtain ⟨u, rd, rfl⟩ := hX
  have hk := ok.2.1
  exact lm_mu (k_X6_clearText l D ct sz a (aV A) u (aH A) (aS A) (aK A) (aT A) hk (aI A) (aF A) rd) rfl ⟨u, rd, rfl⟩

theorem mx_show (l : Launch) (D : va_G) (ct : Nat → ClassId) (sz : Nat) (a : Nat → Nat) {A : AS} {W : va_W} {b : Nat} (hX : MX ct a A W) (ok : aOk b A) (hb : b < 2 ^ 30) : Met l yX6_show wsX6_show ({ frames := 1, cells := 0, slots := 0, locals := 23 }) (muP D ct W sz [.ref (a 0)]) (mxQ D ct W sz (f_show A) (MX ct a)) 0 0 (va_A W sz) := by
  obtain ⟨u, rd, rfl⟩ := hX
  have hk := ok.2.1
  have ht : aT A ≤ 30 := ok.2.2.2.2
  unfold f_show
  by_cases q : (shA A).1 = -4
  · rw [if_pos q]
    exact lm_mu (k_X6_show_ok l D ct sz a (aV A) u (aH A) (aS A) (aK A) (aT A) hk (aI A) (aF A) rd ok.inv ht q) rfl mx_rec
  · rw [if_neg q]
    exact lm_mu (k_X6_show_e l D ct sz a (aV A) u (aH A) (aS A) (aK A) (aT A) hk (aI A) (aF A) rd ok.inv ht q) rfl mx_same

theorem mx_undo (l : Launch) (D : va_G) (ct : Nat → ClassId) (sz : Nat) (a : Nat → Nat) {A : AS} {W : va_W} {b : Nat} (hX : MX ct a A W) (ok : aOk b A) (hb : b < 2 ^ 30) : Met l yX6_undo wsX6_undo ({ frames := 0, cells := 0, slots := 0, locals := 0 }) (muP D ct W sz [.ref (a 0)]) (mxQ D ct W sz (f_undo A) (MX ct a)) 0 0 (va_A W sz) := by
  obtain ⟨v, k, h, s, ik, t, f⟩ := A
  obtain ⟨u, rd, rfl⟩ := hX
  have hk : k ≤ 5 := ok.2.1
  unfold f_undo
  match k, hk with
  | 0, _ =>
    rw [if_pos rfl]
    exact lm_ro (k_X6_undo_e l D ct a v u h s t ik f rd) rfl ⟨u, rd, rfl⟩
  | k + 1, hk =>
    rw [if_neg (Nat.succ_ne_zero k)]
    exact lm_mu (k_X6_undo_ok l D ct sz a v u h s k t (by omega) ik f rd) rfl ⟨u, rd, rfl⟩

theorem mx_keep (l : Launch) (D : va_G) (ct : Nat → ClassId) (sz : Nat) (a : Nat → Nat) {A : AS} {W : va_W} {b : Nat} (hX : MX ct a A W) (ok : aOk b A) (hb : b < 2 ^ 30) (x : Int32) : Met l yX6_keep wsX6_keep ({ frames := 1, cells := 0, slots := 0, locals := 22 }) (muP D ct W sz [.ref (a 0), .int x]) (mxQ D ct W sz (f_keep A x) (MX ct a)) 0 0 (va_A W sz) := by
  obtain ⟨u, rd, rfl⟩ := hX
  have hk := ok.2.1
  unfold f_keep
  by_cases q : pIn x 0 1 = 0
  · rw [if_pos q]
    exact lm_ro (k_X6_keep_e1 l D ct a (aV A) u (aH A) (aS A) (aK A) (aT A) hk (aI A) (aF A) rd x q) rfl mx_same
  · rw [if_neg q]
    obtain ⟨j, j1, j2, e⟩ := pIn_rg (l := 0) (h := 1) rfl rfl (by decide) (by decide) q
    have ec := cl_of (by omega) e
    have e2 : x = nI (cl x) := by rw [ec]; exact e
    exact lm_mu (by have h9 := k_X6_keep_ok l D ct sz a (aV A) u (aH A) (aS A) (aK A) (aT A) hk (aI A) (aF A) rd (cl x) (by omega); rw [← e2] at h9; exact h9) rfl ⟨u, rd, rfl⟩

theorem mx_restore (l : Launch) (D : va_G) (ct : Nat → ClassId) (sz : Nat) (a : Nat → Nat) {A : AS} {W : va_W} {b : Nat} (hX : MX ct a A W) (ok : aOk b A) (hb : b < 2 ^ 30) (x : Int32) : Met l yX6_restore wsX6_restore ({ frames := 1, cells := 0, slots := 0, locals := 22 }) (muP D ct W sz [.ref (a 0), .int x]) (mxQ D ct W sz (f_restore A x) (MX ct a)) 0 0 (va_A W sz) := by
  obtain ⟨u, rd, rfl⟩ := hX
  have hk := ok.2.1
  unfold f_restore
  by_cases q : pIn x 0 1 = 0
  · rw [if_pos q]
    exact lm_ro (k_X6_restore_e1 l D ct a (aV A) u (aH A) (aS A) (aK A) (aT A) hk (aI A) (aF A) rd x q) rfl mx_same
  · rw [if_neg q]
    obtain ⟨j, j1, j2, e⟩ := pIn_rg (l := 0) (h := 1) rfl rfl (by decide) (by decide) q
    have ec := cl_of (by omega) e
    have e2 : x = nI (cl x) := by rw [ec]; exact e
    by_cases q2 : aI A (cl x) = 0
    · rw [if_pos q2]
      exact lm_ro (by have h9 := k_X6_restore_e2 l D ct a (aV A) u (aH A) (aS A) (aK A) (aT A) hk (aI A) (aF A) rd (cl x) (by omega) q2; rw [← e2] at h9; exact h9) rfl mx_same
    · rw [if_neg q2]
      exact lm_mu (by have h9 := k_X6_restore_ok l D ct sz a (aV A) u (aH A) (aS A) (aK A) (aT A) hk (aI A) (aF A) rd (cl x) (by omega) q2; rw [← e2] at h9; exact h9) rfl mx_rec

theorem mx_digit (l : Launch) (D : va_G) (ct : Nat → ClassId) (sz : Nat) (a : Nat → Nat) {A : AS} {W : va_W} {b : Nat} (hX : MX ct a A W) (ok : aOk b A) (hb : b < 2 ^ 30) (x y : Int32) : Met l yX6_digit wsX6_digit ({ frames := 2, cells := 0, slots := 0, locals := 45 }) (muP D ct W sz [.ref (a 0), .int x, .int y]) (mxQ D ct W sz (f_digit A x y) (MX ct a)) 0 0 (va_A W sz) := by
  obtain ⟨u, rd, rfl⟩ := hX
  have hk := ok.2.1
  unfold f_digit
  by_cases hv : vD (aV A) x
  · rw [if_pos hv]
    obtain ⟨hd, e⟩ := vD_cl ok.inv hv
    exact lm_ro (by have h9 := k_X6_digit_ok l D ct a (aV A) u (aH A) (aS A) (aK A) (aT A) hk (aI A) (aF A) rd ok.inv (cl x) hd y; rw [← e] at h9; exact h9) rfl mx_same
  · rw [if_neg hv]
    exact lm_ro (k_X6_digit_e1 l D ct a (aV A) u (aH A) (aS A) (aK A) (aT A) hk (aI A) (aF A) rd x y hv) rfl mx_same

theorem mx_segment (l : Launch) (D : va_G) (ct : Nat → ClassId) (sz : Nat) (a : Nat → Nat) {A : AS} {W : va_W} {b : Nat} (hX : MX ct a A W) (ok : aOk b A) (hb : b < 2 ^ 30) (x y y2 : Int32) : Met l yX6_segment wsX6_segment ({ frames := 2, cells := 0, slots := 0, locals := 43 }) (muP D ct W sz [.ref (a 0), .int x, .int y, .int y2]) (mxQ D ct W sz (f_segment A x y y2) (MX ct a)) 0 0 (va_A W sz) := by
  obtain ⟨u, rd, rfl⟩ := hX
  have hk := ok.2.1
  unfold f_segment
  by_cases hv : vD (aV A) x
  · rw [if_pos hv]
    obtain ⟨hd, e⟩ := vD_cl ok.inv hv
    by_cases q : pIn y 0 7 = 0
    · rw [if_pos q]
      exact lm_ro (k_X6_segment_e1 l D ct a (aV A) u (aH A) (aS A) (aK A) (aT A) hk (aI A) (aF A) rd x y y2 (Or.inr q)) rfl mx_same
    · rw [if_neg q]
      obtain ⟨j, j1, j2, e3⟩ := pIn_rg (l := 0) (h := 7) rfl rfl (by decide) (by decide) q
      have ec := cl_of (by omega) e3
      have e2 : y = nI (cl y) := by rw [ec]; exact e3
      exact lm_ro (by have h9 := k_X6_segment_ok l D ct a (aV A) u (aH A) (aS A) (aK A) (aT A) hk (aI A) (aF A) rd ok.inv (cl x) hd (cl y) (by omega) y2; rw [← e, ← e2] at h9; exact h9) rfl mx_same
  · rw [if_neg hv]
    exact lm_ro (k_X6_segment_e1 l D ct a (aV A) u (aH A) (aS A) (aK A) (aT A) hk (aI A) (aF A) rd x y y2 (Or.inl hv)) rfl mx_same

theorem mx_litIn (l : Launch) (D : va_G) (ct : Nat → ClassId) (sz : Nat) (a : Nat → Nat) {A : AS} {W : va_W} {b : Nat} (hX : MX ct a A W) (ok : aOk b A) (hb : b < 2 ^ 30) (x y : Int32) : Met l yX6_litIn wsX6_litIn ({ frames := 5, cells := 0, slots := 0, locals := 115 }) (muP D ct W sz [.ref (a 0), .int x, .int y]) (mxQ D ct W sz (f_litIn A x y) (MX ct a)) 0 0 (va_A W sz) := by
  obtain ⟨u, rd, rfl⟩ := hX
  have hk := ok.2.1
  unfold f_litIn
  by_cases hv : vD (aV A) x
  · rw [if_pos hv]
    obtain ⟨hd, e⟩ := vD_cl ok.inv hv
    by_cases q : pIn y 0 500 = 0
    · rw [if_pos q]
      exact lm_ro (by have h9 := k_X6_litIn_e2 l D ct a (aV A) u (aH A) (aS A) (aK A) (aT A) hk (aI A) (aF A) rd ok.inv (cl x) hd y q; rw [← e] at h9; exact h9) rfl mx_same
    · rw [if_neg q]
      obtain ⟨j, j1, j2, e3⟩ := pIn_rg (l := 0) (h := 500) rfl rfl (by decide) (by decide) q
      have ec := cl_of (by omega) e3
      have e2 : y = nI (cl y) := by rw [ec]; exact e3
      exact lm_mu (by have h9 := k_X6_litIn_ok l D ct sz a (aV A) u (aH A) (aS A) (aK A) (aT A) hk (aI A) (aF A) rd ok.inv (cl x) hd (cl y) (by omega); rw [← e, ← e2] at h9; exact h9) rfl mx_same
  · rw [if_neg hv]
    exact lm_ro (k_X6_litIn_e1 l D ct a (aV A) u (aH A) (aS A) (aK A) (aT A) hk (aI A) (aF A) rd x y hv) rfl mx_same

theorem mx_steadyGlow (l : Launch) (D : va_G) (ct : Nat → ClassId) (sz : Nat) (a : Nat → Nat) {A : AS} {W : va_W} {b : Nat} (hX : MX ct a A W) (ok : aOk b A) (hb : b < 2 ^ 30) (x : Int32) : Met l yX6_steadyGlow wsX6_steadyGlow ({ frames := 3, cells := 0, slots := 0, locals := 65 }) (muP D ct W sz [.ref (a 0), .int x]) (mxQ D ct W sz (f_steadyGlow A x) (MX ct a)) 0 0 (va_A W sz) := by
  obtain ⟨u, rd, rfl⟩ := hX
  have hk := ok.2.1
  unfold f_steadyGlow
  by_cases hv : vD (aV A) x
  · rw [if_pos hv]
    obtain ⟨hd, e⟩ := vD_cl ok.inv hv
    obtain ⟨L, M, q, p1, p2, p3, p4, p5, p6, p7⟩ := st_par ok.inv hd
    have eS : stdG (aV A) (cl x) = if L = 0 then 0 else nI (pSt L M q) := by
      unfold stdG
      rw [p2, p1, p3, cl_of (x := nI L) (k := L) (by omega) rfl, cl_of (x := nI M) (k := M) (by omega) rfl, cl_of (x := nI q) (k := q) (by omega) rfl]
    rw [eS]
    exact lm_ro (by have h9 := k_X6_steadyGlow_ok l D ct a (aV A) u (aH A) (aS A) (aK A) (aT A) hk (aI A) (aF A) rd ok.inv (cl x) hd L M q p1 p2 p3 p4 p5 p6 p7; rw [← e] at h9; exact h9) rfl mx_same
  · rw [if_neg hv]
    exact lm_ro (k_X6_steadyGlow_e1 l D ct a (aV A) u (aH A) (aS A) (aK A) (aT A) hk (aI A) (aF A) rd x hv) rfl mx_same

theorem mx_thousandths (l : Launch) (D : va_G) (ct : Nat → ClassId) (sz : Nat) (a : Nat → Nat) {A : AS} {W : va_W} {b : Nat} (hX : MX ct a A W) (ok : aOk b A) (hb : b < 2 ^ 30) (x : Int32) : Met l yX6_thousandths wsX6_thousandths ({ frames := 1, cells := 0, slots := 0, locals := 22 }) (muP D ct W sz [.ref (a 0), .int x]) (mxQ D ct W sz (f_thousandths A x) (MX ct a)) 0 0 (va_A W sz) := by
  obtain ⟨u, rd, rfl⟩ := hX
  have hk := ok.2.1
  unfold f_thousandths
  by_cases q : pIn x 0 2 = 0
  · rw [if_pos q]
    exact lm_ro (k_X6_thousandths_e l D ct a (aV A) u (aH A) (aS A) (aK A) (aT A) hk (aI A) (aF A) rd x q) rfl mx_same
  · rw [if_neg q]
    obtain ⟨j, j1, j2, e⟩ := pIn_rg (l := 0) (h := 2) rfl rfl (by decide) (by decide) q
    have ec := cl_of (by omega) e
    have e2 : x = nI (cl x) := by rw [ec]; exact e
    exact lm_ro (by have h9 := k_X6_thousandths_ok l D ct a (aV A) u (aH A) (aS A) (aK A) (aT A) hk (aI A) (aF A) rd ok.inv (cl x) (by omega); rw [← e2] at h9; exact h9) rfl mx_same

theorem mx_count (l : Launch) (D : va_G) (ct : Nat → ClassId) (sz : Nat) (a : Nat → Nat) {A : AS} {W : va_W} {b : Nat} (hX : MX ct a A W) (ok : aOk b A) (hb : b < 2 ^ 30) (x : Int32) : Met l yX6_count wsX6_count ({ frames := 3, cells := 0, slots := 0, locals := 66 }) (muP D ct W sz [.ref (a 0), .int x]) (mxQ D ct W sz (f_count A x) (MX ct a)) 0 0 (va_A W sz) := by
  obtain ⟨u, rd, rfl⟩ := hX
  have hk := ok.2.1
  unfold f_count
  exact lm_ro (k_X6_count l D ct a (aV A) u (aH A) (aS A) (aK A) (aT A) hk (aI A) (aF A) rd ok.inv x) rfl mx_same

theorem mx_group (l : Launch) (D : va_G) (ct : Nat → ClassId) (sz : Nat) (a : Nat → Nat) {A : AS} {W : va_W} {b : Nat} (hX : MX ct a A W) (ok : aOk b A) (hb : b < 2 ^ 30) (x y : Int32) : Met l yX6_group wsX6_group ({ frames := 2, cells := 0, slots := 0, locals := 45 }) (muP D ct W sz [.ref (a 0), .int x, .int y]) (mxQ D ct W sz (f_group A x y) (MX ct a)) 0 0 (va_A W sz) := by
  obtain ⟨u, rd, rfl⟩ := hX
  have hk := ok.2.1
  unfold f_group
  by_cases q : pIn x 0 3 = 0
  · rw [if_pos q]
    exact lm_ro (k_X6_group_e1 l D ct a (aV A) u (aH A) (aS A) (aK A) (aT A) hk (aI A) (aF A) rd x y q) rfl mx_same
  · rw [if_neg q]
    obtain ⟨j, j1, j2, e⟩ := pIn_rg (l := 0) (h := 3) rfl rfl (by decide) (by decide) q
    have ec := cl_of (by omega) e
    have e2 : x = nI (cl x) := by rw [ec]; exact e
    exact lm_ro (by have h9 := k_X6_group_ok l D ct a (aV A) u (aH A) (aS A) (aK A) (aT A) hk (aI A) (aF A) rd ok.inv (cl x) (by omega) y; rw [show Value.int (nI (cl x)) = .int x by rw [← e2]] at h9; exact h9) rfl mx_same

theorem mx_current (l : Launch) (D : va_G) (ct : Nat → ClassId) (a : Nat → Nat) {A : AS} {W : va_W} {b : Nat} (hX : MX ct a A W) (ok : aOk b A) (x : Int32) : Met l yX6_current wsX6_current ({ frames := 1, cells := 0, slots := 0, locals := 22 }) (roP D ct W [.ref (a 0), .int x]) (vp_Sf (fun r => r = f_current A x)) 0 0 noA := by
  obtain ⟨u, rd, rfl⟩ := hX
  have hk := ok.2.1
  unfold f_current
  by_cases q : pIn x 0 2 = 0
  · have e9 : pFl (aV A) x = FP.fconst0 := by
      have h1 := pIn_0 q
      unfold pFl
      rw [if_neg (fun z => by subst z; revert h1; decide), if_neg (fun z => by subst z; revert h1; decide), if_neg (fun z => by subst z; revert h1; decide)]
    rw [e9]
    exact k_X6_current_e l D ct a (aV A) u (aH A) (aS A) (aK A) (aT A) hk (aI A) (aF A) rd x q
  · obtain ⟨j, j1, j2, e⟩ := pIn_rg (l := 0) (h := 2) rfl rfl (by decide) (by decide) q
    subst e
    rw [pFl_in _ (by omega)]
    exact k_X6_current_ok l D ct a (aV A) u (aH A) (aS A) (aK A) (aT A) hk (aI A) (aF A) rd j (by omega)

theorem mx_duty (l : Launch) (D : va_G) (ct : Nat → ClassId) (a : Nat → Nat) {A : AS} {W : va_W} {b : Nat} (hX : MX ct a A W) (ok : aOk b A) (x : Int32) : Met l yX6_duty wsX6_duty ({ frames := 2, cells := 0, slots := 0, locals := 43 }) (roP D ct W [.ref (a 0), .int x]) (vp_Sf (fun r => r = f_duty A x)) 0 0 noA := by
  obtain ⟨u, rd, rfl⟩ := hX
  have hk := ok.2.1
  unfold f_duty
  by_cases hv : vD (aV A) x
  · rw [if_pos hv]
    obtain ⟨hd, e⟩ := vD_cl ok.inv hv
    by_cases q : (aV A).1 0 1 = 0
    · rw [if_pos q]
      exact k_X6_duty_e l D ct a (aV A) u (aH A) (aS A) (aK A) (aT A) hk (aI A) (aF A) rd x (Or.inr q)
    · rw [if_neg q]
      have h9 := k_X6_duty_ok l D ct a (aV A) u (aH A) (aS A) (aK A) (aT A) hk (aI A) (aF A) rd ok.inv (cl x) hd q
      rw [← e] at h9
      exact h9
  · rw [if_neg hv]
    exact k_X6_duty_e l D ct a (aV A) u (aH A) (aS A) (aK A) (aT A) hk (aI A) (aF A) rd x (Or.inl hv)
