theorem fl_ok {φ : Nat → UInt32} (h : FI φ) {n : Int32} (hn : ∃ k, k ≤ 8 ∧ n = nI k) :
    (vf_n32 (FP.fmul (FP.i2f n) 1075838976) ∧ vf_n32 (FP.fsub (FP.fmul (FP.i2f n) 1075838976) (φ 0)) ∧ vf_n32 (FP.fmul (FP.fsub (FP.fmul (FP.i2f n) 1075838976) (φ 0)) 1040187392) ∧ vf_n32 (pCur (φ 0) n) ∧
    vf_n32 (FP.fmul (pCur (φ 0) n) 981668463) ∧ vf_n32 (pChg (φ 2) (pCur (φ 0) n))) ∧ FI (pFlo φ n) := by
  obtain ⟨k, hk, rfl⟩ := hn
  obtain ⟨⟨f0, l0, u0⟩, h1, h2⟩ := h
  have e : (nI k).toInt = (k : Int) := nI_toInt (by omega)
  have e32 : Jvm.FP.Core.zval Jvm.FP.Core.b32 (Jvm.FP.Core.val32 1107296256) = 22835963083295358096932575511191922182123945984 := ff_32.2
  rw [e32] at u0
  obtain ⟨a1, a2⟩ := ff_i2f hk e
  obtain ⟨⟨b1, b2, b3⟩, c1, c2, c3⟩ := ff_cur hk f0 l0 u0 a1 a2
  have g1 := ff_chg c1 c2 c3
  have c9 : fr (pCur (φ 0) (nI k)) 1107296256 := ⟨c1, c2, by rw [e32]; exact c3⟩
  refine ⟨⟨ff_nnF b1, ff_nnF b2, ff_nnF b3, ff_nnF c1, ff_nnF g1, ff_nn (ff_add_nn h2 g1)⟩, ?_, ?_, ?_⟩
  · exact c9
  · show fr (pPk (pCur (φ 0) (nI k)) (φ 1)) 1107296256
    unfold pPk
    split
    · exact h1
    · exact c9
  · exact ff_add_nn h2 g1
theorem pBro_n (b : Int32) : ∀ m, m ≤ 8 → ∃ k, k ≤ m ∧ pBro b m = nI k := by
  intro m
  induction m with
  | zero => intro _; exact ⟨0, by omega, rfl⟩
  | succ m ih =>
    intro hm
    obtain ⟨k, h1, h2⟩ := ih (by omega)
    show ∃ k, k ≤ m + 1 ∧ pBro b m + bit b m = nI k
    rcases bit01 b m with h | h
    · exact ⟨k, by omega, by rw [h, h2]; exact Int32.add_zero _⟩
    · exact ⟨k + 1, by omega, by rw [h, h2]; exact nI_1 k⟩
theorem tickN_n (v : SV) : ∃ k, k ≤ 8 ∧ pTickN v = nI k := pBro_n _ 8 (Nat.le_refl 8)
theorem ix8 (d k : Nat) : (8 : Int32) * nI d + nI k = nI (8 * d + k) := by rw [show (8 : Int32) = nI 8 from rfl, pk_mul, nI_add]
theorem ix_c (a b : Nat) (x : Int32) (h : x = nI a) (m : Nat) (hm : m = a + b) : x + nI b = nI m := by rw [h, nI_add, hm]
theorem row_up0C (v : SV) (F : Nat → Int32) {j : Nat} (h : j < 6) (x : Int32) : upd (rowOf (sC v 0 F)) j x = rowOf (sC v 0 (upd F j x)) := by
  rw [row_up0 _ h, sC_eq, sC_sC]
theorem i2c_nI {n : Nat} (h : n < 65536) : ((nI n).toUInt32 % 65536).toInt32 = nI n := by
  apply Int32.toBitVec_inj.mp
  apply BitVec.eq_of_toNat_eq
  show ((nI n).toUInt32 % 65536).toNat = (nI n).toBitVec.toNat
  rw [UInt32.toNat_mod]
  show (nI n).toBitVec.toNat % 65536 = (nI n).toBitVec.toNat
  rw [pk_tn (by omega)]
  omega
theorem pat_cases (x : Int32) : (x = 32 ∨ x = 45 ∨ x = 48 ∨ x = 49 ∨ x = 50 ∨ x = 51 ∨ x = 52 ∨ x = 53 ∨ x = 54 ∨ x = 55 ∨ x = 56 ∨ x = 57 ∨ x = 69 ∨ x = 111 ∨ x = 114) ∨
    (¬ x = 32 ∧ ¬ x = 45 ∧ ¬ x = 48 ∧ ¬ x = 49 ∧ ¬ x = 50 ∧ ¬ x = 51 ∧ ¬ x = 52 ∧ ¬ x = 53 ∧ ¬ x = 54 ∧ ¬ x = 55 ∧ ¬ x = 56 ∧ ¬ x = 57 ∧ ¬ x = 69 ∧ ¬ x = 111 ∧ ¬ x = 114) := by
  by_cases h : (x = 32 ∨ x = 45 ∨ x = 48 ∨ x = 49 ∨ x = 50 ∨ x = 51 ∨ x = 52 ∨ x = 53 ∨ x = 54 ∨ x = 55 ∨ x = 56 ∨ x = 57 ∨ x = 69 ∨ x = 111 ∨ x = 114)
  · exact Or.inl h
  · exact Or.inr (by simpa only [not_or] using h)
theorem pPat_none {x : Int32} (h : ¬ x = 32 ∧ ¬ x = 45 ∧ ¬ x = 48 ∧ ¬ x = 49 ∧ ¬ x = 50 ∧ ¬ x = 51 ∧ ¬ x = 52 ∧ ¬ x = 53 ∧ ¬ x = 54 ∧ ¬ x = 55 ∧ ¬ x = 56 ∧ ¬ x = 57 ∧ ¬ x = 69 ∧ ¬ x = 111 ∧ ¬ x = 114) : pPat x = -4 := by
  obtain ⟨h1, h2, h3, h4, h5, h6, h7, h8, h9, h10, h11, h12, h13, h14, h15⟩ := h
  unfold pPat
  simp only [h1, h2, h3, h4, h5, h6, h7, h8, h9, h10, h11, h12, h13, h14, h15, if_false]
theorem pChr_hit {q : Int32} {i : Nat} (h1 : i < 127) (h : pPat (nI i) = q) : pChrF q (127 - i) i = nI i := by
  rw [show 127 - i = (126 - i) + 1 by omega]
  show (if _ then _ else _) = _
  rw [if_pos h]
theorem pChr_next {q : Int32} {i : Nat} (h1 : i < 127) (h : ¬ pPat (nI i) = q) : pChrF q (127 - i) i = pChrF q (127 - (i + 1)) (i + 1) := by
  rw [show 127 - i = (127 - (i + 1)) + 1 by omega]
  show (if _ then _ else _) = _
  rw [if_neg h]
/-- the fields behind a tick's count -/
theorem pTk1_pos {v : SV} (h : pDrv v (pSlot v)) : s2 (s2 v 0 5 (v.1 0 5 + 1)) (4 + pSlot v) 5 (v.1 (4 + pSlot v) 5 + 1) = pTk1 v := by unfold pTk1; rw [if_pos h]
theorem pTk1_neg {v : SV} (h : ¬ pDrv v (pSlot v)) : v = pTk1 v := by unfold pTk1; rw [if_neg h]
theorem bit_0 (k : Nat) : bit 0 k = 0 := by
  unfold bit
  rw [show (0 : Int32) >>> (nI k &&& 31) = 0 from Int32.zero_shiftRight]
  rfl
theorem tk_cnt {v : SV} {i : Nat} {x y : Int32} (hx : x = if pSlot v < i then pTickN v else 0) (hy : y = x + (if i = pSlot v then pBro (pLit v (pSlot v)) 8 else 0)) : y = if pSlot v < i + 1 then pTickN v else 0 := by
  subst hx
  rw [hy]
  by_cases h1 : i = pSlot v
  · rw [if_pos h1, if_neg (by omega), if_pos (by omega)]
    exact Int32.zero_add _
  · rw [if_neg h1]
    by_cases h2 : pSlot v < i
    · rw [if_pos h2, if_pos (by omega)]; exact Int32.add_zero _
    · rw [if_neg h2, if_neg (by omega)]; exact Int32.add_zero _
theorem tk_cnt2 {v : SV} {i k : Nat} {x y : Int32} {b : Bool} (hy : y = x + (if i = pSlot v then pBro (pLit v (pSlot v)) k else 0)) (hb : b = decide (bit (if i = pSlot v then pLit v (pSlot v) else 0) k = 1)) :
    y + (if b = true then 1 else 0) = x + (if i = pSlot v then pBro (pLit v (pSlot v)) (k + 1) else 0) := by
  subst hb
  rw [hy]
  by_cases h1 : i = pSlot v
  · rw [if_pos h1, if_pos h1, if_pos h1, Int32.add_assoc]
    congr 1
    show _ = _ + bit _ k
    congr 1
    rcases bit01 (pLit v (pSlot v)) k with h | h
    · rw [h]; rfl
    · rw [h]; rfl
  · rw [if_neg h1, if_neg h1, if_neg h1, bit_0]
    exact Int32.add_zero _
theorem tk_dec (v : SV) (now : Nat) (lit l2 : Int32) (i d k : Nat) : (pDigK (pAll (pTk1 v) now lit i) l2 d k).1 3 0 = v.1 3 0 := by
  rw [pDigK_lo _ _ _ _ (by decide), pAll_lo _ _ _ (by decide), pTk1_3]
theorem pAll_s (v : SV) (now : Nat) (lit : Int32) (d : Nat) : pAll v now lit (d + 1) = pDigK (pAll v now lit d) (if d = now then lit else 0) d 8 := by
  rw [pAll, pDig]
theorem pAll_z (v : SV) (now : Nat) (lit : Int32) : pAll v now lit 0 = v := by rw [pAll]
theorem pDigK_z (v : SV) (lit : Int32) (d : Nat) : pDigK v lit d 0 = v := by
  unfold pDigK
  rw [dRun]
  exact sTri_self v d
theorem pDigK_f (v : SV) (lit : Int32) (d k : Nat) : (pDigK v lit d k).2 = v.2 := by unfold pDigK; rfl
