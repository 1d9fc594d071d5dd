/-! the present state in the law, behind each act -/
theorem drN_tick {v : SV} (ok : Inv v) {b : Nat} (hx : ∀ d, d < nOf v → XD b v d) (hb : b < 2 ^ 20) : ∀ n, n ≤ nOf v → pDrN (pTick v) n = pDrN v n + (if pSlot v < n ∧ pDrv v (pSlot v) then 1 else 0) := by
  intro n
  induction n with
  | zero => intro _; rw [if_neg (by omega)]; rfl
  | succ n ih =>
    intro hn
    show pDrN (pTick v) n + cl ((pTick v).1 (4 + n) 5) = pDrN v n + cl (v.1 (4 + n) 5) + _
    obtain ⟨-, D, h1, h2, -⟩ := hx n (by omega)
    have hc : cl (nI D + (if pSlot v = n ∧ pDrv v n then 1 else 0)) = D + (if pSlot v = n ∧ pDrv v n then 1 else 0) := by
      split
      · rw [nI_1, cl_of (show D + 1 < 2 ^ 31 by omega) rfl]
      · rw [Int32.add_zero, cl_of (show D < 2 ^ 31 by omega) rfl, Nat.add_zero]
    rw [ih (by omega), tick_drv ok (show n < nOf v by omega), h2, hc, cl_of (show D < 2 ^ 31 by omega) rfl]
    by_cases q : pDrv v (pSlot v)
    · by_cases z : pSlot v = n
      · have q' : pDrv v n := by have h := q; rw [z] at h; exact h
        rw [if_neg (show ¬ (pSlot v < n ∧ pDrv v (pSlot v)) from fun y => by have := y.1; omega), if_pos (show pSlot v = n ∧ pDrv v n from ⟨z, q'⟩), if_pos (show pSlot v < n + 1 ∧ pDrv v (pSlot v) from ⟨by omega, q⟩)]
        omega
      · rw [if_neg (show ¬ (pSlot v = n ∧ pDrv v n) from fun y => z y.1)]
        by_cases z2 : pSlot v < n
        · rw [if_pos (show pSlot v < n ∧ pDrv v (pSlot v) from ⟨z2, q⟩), if_pos (show pSlot v < n + 1 ∧ pDrv v (pSlot v) from ⟨by omega, q⟩)]
          omega
        · rw [if_neg (show ¬ (pSlot v < n ∧ pDrv v (pSlot v)) from fun y => z2 y.1), if_neg (show ¬ (pSlot v < n + 1 ∧ pDrv v (pSlot v)) from fun y => by have := y.1; omega)]
          omega
    · rw [if_neg (show ¬ (pSlot v < n ∧ pDrv v (pSlot v)) from fun y => q y.2), if_neg (show ¬ (pSlot v = n ∧ pDrv v n) from fun y => q (by have h := y.2; rw [← y.1] at h; exact h)), if_neg (show ¬ (pSlot v < n + 1 ∧ pDrv v (pSlot v)) from fun y => q y.2)]
      omega
theorem glow_rg {g q : Int32} (h : rg g 0 1000) (hq : rg q 2 50) : rg (pBri g) 0 1000 ∧ rg (pDar g q) 0 1000 := by
  obtain ⟨a, -, a2, rfl⟩ := h
  obtain ⟨d, d1, d2, rfl⟩ := hq
  rw [pBri_N a2, pDar_N a2 (by omega) (by omega)]
  exact ⟨⟨_, Nat.zero_le _, bN_le a, rfl⟩, ⟨_, Nat.zero_le _, Nat.le_trans (dN_le d a) a2, rfl⟩⟩
theorem XI.tick {v : SV} {b : Nat} (ok : Inv v) (h : XI b v) (hb : b < 2 ^ 20) : XI (b + 1) (pTick v) := by
  obtain ⟨a1, ⟨T, E, a2, a3, a4, a5, a6⟩, a7⟩ := h
  obtain ⟨-, t1, t5, tf⟩ := tick_0 ok
  have hdec := ok.2.2.2.2.1
  have h8 := ok.n8
  refine ⟨fun d hd => ?_, ⟨T + 1, E + (if pDrv v (pSlot v) then 1 else 0), by rw [t1, a2, nI_1], ?_, ?_, by omega, ?_⟩, by rw [tf]; exact a7.tick hb (tickN_n v)⟩
  · rw [tick_n ok] at hd
    obtain ⟨b1, D, b2, b3, b4⟩ := a1 d hd
    refine ⟨fun k hk => ?_, D + (if pSlot v = d ∧ pDrv v d then 1 else 0), ?_, ?_, fun k hk => ?_⟩
    · rw [tick_glow ok hd hk]
      obtain ⟨g1, g2⟩ := glow_rg (b1 k hk) hdec
      split
      · exact g1
      · exact g2
    · split <;> omega
    · rw [tick_drv ok hd, b3]
      split
      · exact nI_1 D
      · exact Int32.add_zero _
    · obtain ⟨u, u1, u2, u3⟩ := b4 k hk
      refine ⟨u + (if bit (pLit v d) k = 1 then 1 else 0), ?_, ?_, fun q => ?_⟩
      · by_cases z : bit (pLit v d) k = 1
        · rw [if_pos z, if_pos (bit_drv hk z)]; omega
        · rw [if_neg z]; omega
      · rw [tick_use ok hd hk, u2]
        split
        · exact nI_1 u
        · exact Int32.add_zero _
      · by_cases z : bit (pLit v d) k = 1
        · rw [if_pos z]; omega
        · rw [if_neg z]
          rcases tick_bro ok hd hk q with y | y
          · exact u3 y
          · exact absurd y z
  · rw [t5, a3]
    split
    · exact nI_1 E
    · exact Int32.add_zero _
  · split <;> omega
  · rw [tick_n ok, drN_tick ok a1 hb _ (Nat.le_refl _)]
    by_cases q : pDrv v (pSlot v)
    · rw [if_pos ⟨ok.slot, q⟩, if_pos q]; omega
    · rw [if_neg (fun y => q y.2), if_neg q]; omega
theorem inv_tks {v : SV} (ok : Inv v) : ∀ i, Inv (pTks v i) := by
  intro i
  induction i with
  | zero => rw [← pTks_z]; exact ok
  | succ i ih => rw [← pTks_s]; exact Inv_tick ih
theorem XI.tks {v : SV} {b : Nat} (ok : Inv v) (h : XI b v) : ∀ i, b + i < 2 ^ 20 → XI (b + i) (pTks v i) := by
  intro i
  induction i with
  | zero => intro _; rw [← pTks_z]; exact h
  | succ i ih =>
    intro hb
    rw [← pTks_s]
    exact (ih (by omega)).tick (inv_tks ok i) (show b + i < 2 ^ 20 by omega)
section LO
variable {A B : AS} {b : Nat} {x y z : Int32}
theorem LOk.of (o : aOk (b + 7000) B) (h : XI b (aV B)) (hb : b + 7000 < 2 ^ 20) : LOk (b + 7000) B := ⟨o, ⟨h.mono (by omega), hb⟩, by omega⟩
theorem l_setDigits (ok : LOk b A) (hb : b + 7000 < 2 ^ 20) : LOk (b + 7000) (f_setDigits A x).2 := by
  refine LOk.of (o_setDigits ok.1) ?_ hb
  unfold f_setDigits
  by_cases q : pIn x 1 8 = 0
  · rw [if_pos q]; exact ok.xi
  · rw [if_neg q]
    obtain ⟨k, k1, k2, e⟩ := pIn_rg (l := 1) (h := 8) rfl rfl (by decide) (by decide) q
    have ec := cl_of (by omega) e
    exact ok.xi.sD ok.inv (by omega) (by omega)
theorem l_setWidth (ok : LOk b A) (hb : b + 7000 < 2 ^ 20) : LOk (b + 7000) (f_setWidth A x y).2 := by
  refine LOk.of (o_setWidth ok.1) ?_ hb
  have h8 := ok.inv.n8
  unfold f_setWidth
  by_cases hv : vD (aV A) x
  · rw [if_pos hv]
    have hd := (vD_cl ok.inv hv).1
    by_cases q : pIn y 4 40 = 0
    · rw [if_pos q]; exact ok.xi
    · rw [if_neg q]; exact ok.xi.sW h8 (by omega)
  · rw [if_neg hv]; exact ok.xi
theorem l_setGuard (ok : LOk b A) (hb : b + 7000 < 2 ^ 20) : LOk (b + 7000) (f_setGuard A x y).2 := by
  refine LOk.of (o_setGuard ok.1) ?_ hb
  have h8 := ok.inv.n8
  unfold f_setGuard
  by_cases hv : vD (aV A) x
  · rw [if_pos hv]
    have hd := (vD_cl ok.inv hv).1
    by_cases q : pIn y 0 3 = 0
    · rw [if_pos q]; exact ok.xi
    · rw [if_neg q]; exact ok.xi.fd h8 (by omega) (by decide) (by decide)
  · rw [if_neg hv]; exact ok.xi
theorem l_setBrightness (ok : LOk b A) (hb : b + 7000 < 2 ^ 20) : LOk (b + 7000) (f_setBrightness A x y).2 := by
  refine LOk.of (o_setBrightness ok.1) ?_ hb
  have h8 := ok.inv.n8
  unfold f_setBrightness
  by_cases hv : vD (aV A) x
  · rw [if_pos hv]
    have hd := (vD_cl ok.inv hv).1
    by_cases q : pIn y 0 15 = 0
    · rw [if_pos q]; exact ok.xi
    · rw [if_neg q]; exact ok.xi.fd h8 (by omega) (by decide) (by decide)
  · rw [if_neg hv]; exact ok.xi
theorem l_setPattern (ok : LOk b A) (hb : b + 7000 < 2 ^ 20) : LOk (b + 7000) (f_setPattern A x y).2 := by
  refine LOk.of (o_setPattern ok.1) ?_ hb
  have h8 := ok.inv.n8
  unfold f_setPattern
  by_cases hv : vD (aV A) x
  · rw [if_pos hv]
    have hd := (vD_cl ok.inv hv).1
    by_cases q : pIn y 0 255 = 0
    · rw [if_pos q]; exact ok.xi
    · rw [if_neg q]; exact ok.xi.fd h8 (by omega) (by decide) (by decide)
  · rw [if_neg hv]; exact ok.xi
theorem l_setGroup (ok : LOk b A) (hb : b + 7000 < 2 ^ 20) : LOk (b + 7000) (f_setGroup A x y).2 := by
  refine LOk.of (o_setGroup ok.1) ?_ hb
  have h8 := ok.inv.n8
  unfold f_setGroup
  by_cases hv : vD (aV A) x
  · rw [if_pos hv]
    have hd := (vD_cl ok.inv hv).1
    by_cases q : pIn y 0 3 = 0
    · rw [if_pos q]; exact ok.xi
    · rw [if_neg q]; exact ok.xi.fd h8 (by omega) (by decide) (by decide)
  · rw [if_neg hv]; exact ok.xi
theorem l_replace (ok : LOk b A) (hb : b + 7000 < 2 ^ 20) : LOk (b + 7000) (f_replace A x).2 := by
  refine LOk.of (o_replace ok.1) ?_ hb
  have h8 := ok.inv.n8
  unfold f_replace
  by_cases hv : vD (aV A) x
  · rw [if_pos hv]
    have hd := (vD_cl ok.inv hv).1
    exact ok.xi.ren h8 (by omega)
  · rw [if_neg hv]; exact ok.xi
theorem l_test (ok : LOk b A) (hb : b + 7000 < 2 ^ 20) : LOk (b + 7000) (f_test A x).2 := by
  refine LOk.of (o_test ok.1) ?_ hb
  unfold f_test
  by_cases q : pIn x 0 50 = 0
  · rw [if_pos q]; exact ok.xi
  · rw [if_neg q]; exact ok.xi.te
theorem l_setBlink (ok : LOk b A) (hb : b + 7000 < 2 ^ 20) : LOk (b + 7000) (f_setBlink A x y z).2 := by
  refine LOk.of (o_setBlink ok.1) ?_ hb
  unfold f_setBlink
  by_cases q : pIn x 1 3 = 0
  · rw [if_pos q]; exact ok.xi
  · rw [if_neg q]
    by_cases q2 : pIn y 1 50 = 0 ∨ pIn z 0 50 = 0
    · rw [if_pos q2]; exact ok.xi
    · rw [if_neg q2]
      exact (ok.xi.lo (i := 1) (by decide) (by decide)).lo (by decide) (by decide)
theorem l_set (ok : LOk b A) (hb : b + 7000 < 2 ^ 20) : LOk (b + 7000) (f_set A x y).2 := by
  refine LOk.of (o_set ok.1) ?_ hb
  unfold f_set
  by_cases q : pIn x 0 2 = 0
  · rw [if_pos q]; exact ok.xi
  · rw [if_neg q]
    by_cases q2 : pIn y (setLo x) (setHi x) = 0
    · rw [if_pos q2]; exact ok.xi
    · rw [if_neg q2]; exact ok.xi.lo (by decide) (by decide)
theorem l_pass (ok : LOk b A) (hb : b + 7000 < 2 ^ 20) : LOk (b + 7000) (f_pass A x).2 := by
  refine ⟨o_pass ok.1, ⟨?_, hb⟩, by omega⟩
  unfold f_pass
  by_cases q : pIn x 1 500 = 0
  · rw [if_pos q]; exact ok.xi.mono (by omega)
  · rw [if_neg q]
    obtain ⟨k, k1, k2, e⟩ := pIn_rg (l := 1) (h := 500) rfl rfl (by decide) (by decide) q
    have ec := cl_of (by omega) e
    exact (ok.xi.tks ok.inv (cl x) (by omega)).mono (by omega)
theorem l_passFrames (ok : LOk b A) (hb : b + 7000 < 2 ^ 20) : LOk (b + 7000) (f_passFrames A x).2 := by
  refine ⟨o_passFrames ok.1, ⟨?_, hb⟩, by omega⟩
  unfold f_passFrames
  by_cases q : pIn x 1 20 = 0
  · rw [if_pos q]; exact ok.xi.mono (by omega)
  · rw [if_neg q]
    obtain ⟨k, k1, k2, e⟩ := pIn_rg (l := 1) (h := 20) rfl rfl (by decide) (by decide) q
    have ec := cl_of (by omega) e
    have h7 := (pf_eq ok.inv (n := cl x) (by omega) (by omega)).2
    exact (ok.xi.tks ok.inv (pfN (aV A) (cl x)) (by omega)).mono (by omega)
theorem l_type (ok : LOk b A) (hb : b + 7000 < 2 ^ 20) : LOk (b + 7000) (f_type A x).2 := by
  refine LOk.of (o_type ok.1) ?_ hb
  unfold f_type
  by_cases q : aT A < 30
  · rw [if_pos q]; exact ok.xi
  · rw [if_neg q]; exact ok.xi
theorem l_clearText (ok : LOk b A) (hb : b + 7000 < 2 ^ 20) : LOk (b + 7000) (f_clearText A).2 := LOk.of (o_clearText ok.1) ok.xi hb
theorem l_show (ok : LOk b A) (hb : b + 7000 < 2 ^ 20) : LOk (b + 7000) (f_show A).2 := by
  refine LOk.of (o_show ok.1) ?_ hb
  have h8 := ok.inv.n8
  unfold f_show
  by_cases q : (shA A).1 = -4
  · rw [if_pos q]; exact ok.xi.pats h8 _ h8
  · rw [if_neg q]; exact ok.xi
end LO
