theorem fl_ok {φ : Nat → UInt32} (h : FI φ) {n : Int32} (hn : ∃ k, k ≤ 8 ∧ n = nI k) :
    (vf_n32 (FP.fmul (FP.i2f n) 1075838976) ∧ vf_n32 (FP.fsub (FP.fmul (FP.i2f n) 1075838976) (φ 0)) ∧ vf_n32 (FP.fmul (FP.fsub (FP.fmul (FP.i2f n) 1075838976) (φ 0)) 1040187392) ∧ vf_n32 (pCur (φ 0) n) ∧
    vf_n32 (FP.fmul (pCur (φ 0) n) 981668463) ∧ vf_n32 (pChg (φ 2) (pCur (φ 0) n))) ∧ FI (pFlo φ n) := by
  obtain ⟨k, hk, rfl⟩ := hn
  obtain ⟨⟨f0, l0, u0⟩, h1, h2⟩ := h
  have e : (nI k).toInt = (k : Int) := nI_toInt (by omega)
  have e32 : Jvm.FP.Core.zval Jvm.FP.Core.b32 (Jvm.FP.Core.val32 1107296256) = 22835963083295358096932575511191922182123945984 := ff_32.2
  rw [e32] at u0
  obtain ⟨a1, a2⟩ := ff_i2f hk e
  obtain ⟨⟨b1, b2, b3⟩, c1, c2, c3⟩ := ff_cur hk f0 l0 u0 a1 a2
  have g1 := ff_chg c1 c2 c3
  have c9 : fr (pCur (φ 0) (nI k)) 1107296256 := ⟨c1, c2, by rw [e32]; exact c3⟩
  refine ⟨⟨ff_nnF b1, ff_nnF b2, ff_nnF b3, ff_nnF c1, ff_nnF g1, ff_nn (ff_add_nn h2 g1)⟩, ?_, ?_, ?_⟩
  · exact c9
  · show fr (pPk (pCur (φ 0) (nI k)) (φ 1)) 1107296256
    unfold pPk
    split
    · exact h1
    · exact c9
  · exact ff_add_nn h2 g1
theorem pBro_n (b : Int32) : ∀ m, m ≤ 8 → ∃ k, k ≤ m ∧ pBro b m = nI k := by
  intro m
  induction m with
  | zero => intro _; exact ⟨0, by omega, rfl⟩
  | succ m ih =>
    intro hm
    obtain ⟨k, h1, h2⟩ := ih (by omega)
    show ∃ k, k ≤ m + 1 ∧ pBro b m + bit b m = nI k
    rcases bit01 b m with h | h
    · exact ⟨k, by omega, by rw [h, h2]; exact Int32.add_zero _⟩
    · exact ⟨k + 1, by omega, by rw [h, h2]; exact nI_1 k⟩
theorem tickN_n (v : SV) : ∃ k, k ≤ 8 ∧ pTickN v = nI k := pBro_n _ 8 (Nat.le_refl 8)
theorem pat_cases (x : Int32) : (x = 32 ∨ x = 45 ∨ x = 48 ∨ x = 49 ∨ x = 50 ∨ x = 51 ∨ x = 52 ∨ x = 53 ∨ x = 54 ∨ x = 55 ∨ x = 56 ∨ x = 57 ∨ x = 69 ∨ x = 111 ∨ x = 114) ∨
    (¬ x = 32 ∧ ¬ x = 45 ∧ ¬ x = 48 ∧ ¬ x = 49 ∧ ¬ x = 50 ∧ ¬ x = 51 ∧ ¬ x = 52 ∧ ¬ x = 53 ∧ ¬ x = 54 ∧ ¬ x = 55 ∧ ¬ x = 56 ∧ ¬ x = 57 ∧ ¬ x = 69 ∧ ¬ x = 111 ∧ ¬ x = 114) := by
  by_cases h : (x = 32 ∨ x = 45 ∨ x = 48 ∨ x = 49 ∨ x = 50 ∨ x = 51 ∨ x = 52 ∨ x = 53 ∨ x = 54 ∨ x = 55 ∨ x = 56 ∨ x = 57 ∨ x = 69 ∨ x = 111 ∨ x = 114)
  · exact Or.inl h
  · exact Or.inr (by simpa only [not_or] using h)
theorem pPat_none {x : Int32} (h : ¬ x = 32 ∧ ¬ x = 45 ∧ ¬ x = 48 ∧ ¬ x = 49 ∧ ¬ x = 50 ∧ ¬ x = 51 ∧ ¬ x = 52 ∧ ¬ x = 53 ∧ ¬ x = 54 ∧ ¬ x = 55 ∧ ¬ x = 56 ∧ ¬ x = 57 ∧ ¬ x = 69 ∧ ¬ x = 111 ∧ ¬ x = 114) : pPat x = -4 := by
  obtain ⟨h1, h2, h3, h4, h5, h6, h7, h8, h9, h10, h11, h12, h13, h14, h15⟩ := h
  unfold pPat
  simp only [h1, h2, h3, h4, h5, h6, h7, h8, h9, h10, h11, h12, h13, h14, h15, if_false]
theorem pTk1_neg {v : SV} (h : ¬ pDrv v (pSlot v)) : v = pTk1 v := by unfold pTk1; rw [if_neg h]
theorem pAll_s (v : SV) (now : Nat) (lit : Int32) (d : Nat) : pAll v now lit (d + 1) = pDigK (pAll v now lit d) (if d = now then lit else 0) d 8 := by
  rw [pAll, pDig]
theorem pAll_z (v : SV) (now : Nat) (lit : Int32) : pAll v now lit 0 = v := by rw [pAll]
