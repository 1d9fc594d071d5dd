/-! the law's tick -/
def tG (v : SV) (d k : Nat) : Int32 := if bit (pLit v d) k = 1 then pBri (v.1 (12 + d) k) else pDar (v.1 (12 + d) k) (v.1 3 0)
def tU (v : SV) (d k : Nat) : Int32 := v.1 (20 + d) k + (if bit (pLit v d) k = 1 then 1 else 0)
def pAllT (v : SV) : Nat → Int32
  | 0 => 0
  | d + 1 => pAllT v d + pBro (pLit v d) 8
def tOk (v : SV) (f : Nat → Int32) (T : SV → Nat → Nat → Int32) (d k : Nat) : Prop := ∀ d' k', k' < 8 → (d' < d ∨ d' = d ∧ k' < k) → f (8 * d' + k') = T v d' k'
section TT
variable {v : SV} {b d k : Nat} {f : Nat → Int32} {T : SV → Nat → Nat → Int32} {A : AS}
theorem tOk_0 : tOk v f T 0 0 := fun d' k' _ h => by omega
theorem tOk_n (h : tOk v f T d 8) : tOk v f T (d + 1) 0 := fun d' k' hk h2 => h d' k' hk (by omega)
theorem tOk_s (hk : k < 8) (h : tOk v f T d k) : tOk v (upd f (8 * d + k) (T v d k)) T d (k + 1) := by
  intro d' k' hk' h2
  unfold upd
  by_cases z : d' = d ∧ k' = k
  · obtain ⟨rfl, rfl⟩ := z
    rw [if_pos rfl]
  · rw [if_neg (by omega)]
    exact h d' k' hk' (by omega)
theorem up_N {g : Nat} (h : g ≤ 1000) : nI g + (if nI g ≤ 996 then (1000 - nI g) / 4 else 1) = nI (g + (if g ≤ 996 then (1000 - g) / 4 else 1)) := by
  have e1 : (1000 - nI g) / 4 = nI ((1000 - g) / 4) := by
    rw [show (1000 : Int32) = nI 1000 from rfl, pk_sub h, show (4 : Int32) = nI 4 from rfl, pk_div (by omega) (by decide) (by decide)]
  have e2 : (nI g ≤ 996) ↔ g ≤ 996 := nI_leI (b := 996) (by omega) (by decide)
  rw [e1]
  by_cases q : g ≤ 996
  · rw [if_pos (e2.mpr q), if_pos q, nI_add]
  · rw [if_neg (fun z => q (e2.mp z)), if_neg q, nI_1]
theorem bN_up {g : Nat} (h : g ≤ 1000) : bN g = if g + (if g ≤ 996 then (1000 - g) / 4 else 1) ≤ 1000 then g + (if g ≤ 996 then (1000 - g) / 4 else 1) else 1000 := by
  unfold bN
  by_cases q : g ≤ 996
  · rw [if_pos q]; split <;> omega
  · rw [if_neg q]; split <;> omega
theorem up_le {x : Int32} (h : rg x 0 1000) (c : x + (if x ≤ 996 then (1000 - x) / 4 else 1) ≤ 1000) : x + (if x ≤ 996 then (1000 - x) / 4 else 1) = pBri x := by
  obtain ⟨g, -, g2, rfl⟩ := h
  rw [up_N g2] at c ⊢
  rw [pBri_N g2, bN_up g2]
  have hb : g + (if g ≤ 996 then (1000 - g) / 4 else 1) < 2 ^ 31 := by split <;> omega
  have := (nI_leI (b := 1000) hb (by decide)).mp c
  rw [if_pos this]
theorem up_gt {x : Int32} (h : rg x 0 1000) (c : ¬ x + (if x ≤ 996 then (1000 - x) / 4 else 1) ≤ 1000) : 1000 = pBri x := by
  obtain ⟨g, -, g2, rfl⟩ := h
  rw [up_N g2] at c
  rw [pBri_N g2, bN_up g2]
  have hb : g + (if g ≤ 996 then (1000 - g) / 4 else 1) < 2 ^ 31 := by split <;> omega
  have : ¬ g + (if g ≤ 996 then (1000 - g) / 4 else 1) ≤ 1000 := fun z => c ((nI_leI (b := 1000) hb (by decide)).mpr z)
  rw [if_neg this]
  rfl
theorem tG_up {x : Int32} (h : rg (v.1 (12 + d) k) 0 1000) (hb : bit (pLit v d) k = 1) (e : x = pBri (v.1 (12 + d) k)) : x = tG v d k := by
  unfold tG
  rw [if_pos hb, e]
theorem tG_dn {x : Int32} (hb : ¬ bit (pLit v d) k = 1) (e : x = pDar (v.1 (12 + d) k) (v.1 3 0)) : x = tG v d k := by
  unfold tG
  rw [if_neg hb, e]
theorem and_rg {x y : Int32} (h : rg x 0 255) : rg (x &&& y) 0 255 := by
  obtain ⟨n, -, h2, rfl⟩ := h
  have h3 : n &&& y.toBitVec.toNat ≤ n := Nat.and_le_left
  refine ⟨n &&& y.toBitVec.toNat, Nat.zero_le _, by omega, ?_⟩
  apply Int32.toBitVec_inj.mp
  apply BitVec.eq_of_toNat_eq
  rw [pk_tn (by omega)]
  show ((nI n).toBitVec &&& y.toBitVec).toNat = _
  rw [BitVec.toNat_and, pk_tn (by omega)]
theorem lit_rg (ok : Inv v) (hd : d < nOf v) : rg (pLit v d) 0 255 := by
  unfold pLit
  split
  · refine and_rg ?_
    split
    · exact ⟨255, by decide, by decide, rfl⟩
    · exact (ok.dg hd).2.2.2.2.1
  · exact ⟨0, by decide, by decide, rfl⟩
theorem pTickN_all (ok : Inv v) : pTickN v = pAllT v (nOf v) := by
  have key : ∀ n, pAllT v n = if pSlot v < n then pTickN v else 0 := by
    intro n
    induction n with
    | zero => rw [if_neg (by omega)]; rfl
    | succ n ih =>
      show pAllT v n + pBro (pLit v n) 8 = _
      rw [ih]
      by_cases z : pSlot v = n
      · rw [if_neg (by omega), if_pos (by omega), ← z]; exact Int32.zero_add _
      · rw [show pLit v n = 0 from (pLit_no z).symm, show pBro 0 8 = 0 by decide]
        by_cases z2 : pSlot v < n
        · rw [if_pos z2, if_pos (by omega)]; exact Int32.add_zero _
        · rw [if_neg z2, if_neg (by omega)]; exact Int32.add_zero _
  rw [key, if_pos ok.slot]
theorem tick_fr (ok : Inv v) : (pTick v).1 0 2 = v.1 0 2 + (if v.1 0 3 + 1 = pLen v then 1 else 0) ∧ (pTick v).1 0 3 = (if v.1 0 3 + 1 = pLen v then 0 else v.1 0 3 + 1) ∧ (pTick v).1 0 4 = (if v.1 0 3 + 1 = pLen v ∧ 0 < v.1 0 4 then v.1 0 4 - 1 else v.1 0 4) := by
  obtain ⟨t3, t2, t4⟩ := pTk3_t v
  unfold pTick
  rw [t3]
  by_cases q : v.1 0 3 + 1 = pLen v
  · obtain ⟨-, q2, q3, q4⟩ := pEnd_0 (pTk3 v)
    rw [if_pos q, if_pos q, if_pos q, q2, q3, q4, t2, t4]
    refine ⟨rfl, rfl, ?_⟩
    by_cases z : 0 < v.1 0 4
    · rw [if_pos z, if_pos ⟨q, z⟩]
    · rw [if_neg z, if_neg (fun y => z y.2)]; exact Int32.sub_zero _
  · rw [if_neg q, if_neg q, if_neg q, t2, t3, t4, if_neg (fun y => q y.1)]
    exact ⟨(Int32.add_zero _).symm, rfl, rfl⟩
theorem XF.up {φ : Nat → UInt32} {n : Int32} (h : XF b φ) (hn : ∃ k, k ≤ 8 ∧ n = nI k) : zv (φ 1) ≤ zv (pFlo φ n 1) ∧ zv (φ 2) ≤ zv (pFlo φ n 2) := by
  obtain ⟨k, hk, rfl⟩ := hn
  obtain ⟨h0, h1, h2, g0, g1, g2, g3, g4⟩ := h
  have e : (nI k).toInt = (k : Int) := nI_toInt (by omega)
  have z20 := ff_20.2
  obtain ⟨a1, a2⟩ := ff_i2f hk e
  obtain ⟨-, c1, c2, c3⟩ := ff_cur hk h0 g0 (by rw [z20] at g2; omega) a1 a2
  have ec : pCur (φ 0) (nI k) = FP.fadd (φ 0) (FP.fmul (FP.fsub (FP.fmul (FP.i2f (nI k)) 1075838976) (φ 0)) 1040187392) := rfl
  rw [← ec] at c1 c2 c3
  generalize hc : pCur (φ 0) (nI k) = x at c1 c2 c3
  have r1 := ff_chg c1 c2 c3
  have r0 : zv 0 ≤ zv (FP.fmul x 981668463) := ff_mul_ge c1 ff_001.1 ff_0.1.ne_nan (by rw [ff_0.2, ff_001.2]; omega)
  rw [ff_0.2] at r0
  have q1 : (pFlo φ (nI k)) 1 = pPk x (φ 1) := by rw [← hc]; rfl
  have q2 : (pFlo φ (nI k)) 2 = pChg (φ 2) x := by rw [← hc]; rfl
  rw [q1, q2]
  exact ⟨(pPk_max c1 h1).2.2, ff_add_ge h2 r1 h2.ne_nan (by omega)⟩
theorem th_b (hb : b < 2 ^ 20) {z : Int} (h : z ≤ (b : Int) * 713623846352979940529142984724747568191373312) : z ≤ ((2 ^ 20 : Nat) : Int) * 713623846352979940529142984724747568191373312 := by omega
theorem th_20b {z : Int} (h : z ≤ zv 1101004800) : z ≤ ((2 ^ 20 : Nat) : Int) * 713623846352979940529142984724747568191373312 := by rw [ff_20.2] at h; omega
theorem th_tick (ok : Inv v) (h : XI b v) (hb : b + 1 < 2 ^ 20) : th (v.2 1) ≤ th ((pTick v).2 1) ∧ th (v.2 2) ≤ th ((pTick v).2 2) := by
  obtain ⟨h0, h1, h2, g0, g1, g2, g3, g4⟩ := h.2.2
  obtain ⟨k0, k1, k2, l0, l1, l2, l3, l4⟩ := (h.tick ok (by omega)).2.2
  obtain ⟨u1, u2⟩ := h.2.2.up (tickN_n v)
  rw [(tick_0 ok).2.2.2] at k0 k1 k2 l0 l1 l2 l3 l4 ⊢
  exact ⟨th_mono h1 k1 (by omega) u1 (th_20b l2), th_mono h2 k2 g3 u2 (th_b hb l4)⟩
theorem th_all (h : XI b v) (hb : b < 2 ^ 20) : th (v.2 0) ≤ th (v.2 1) ∧ th (v.2 1) ≤ 20000 ∧ ¬ th (v.2 0) < 0 := by
  obtain ⟨h0, h1, h2, g0, g1, g2, g3, g4⟩ := h.2.2
  exact ⟨th_mono h0 h1 g0 g1 (th_20b g2), th_20 h1 (by omega) g2, th_nn h0 g0 (th_20b (by omega))⟩
theorem qt_0 : (f_thousandths A 0).1 = th ((aV A).2 0) := by
  show (if pIn 0 0 2 = 0 then (-2 : Int32) else FP.f2i (FP.fmul ((aV A).2 (cl 0)) 1148846080)) = _
  exact if_neg (by decide)
theorem qt_1 : (f_thousandths A 1).1 = th ((aV A).2 1) := by
  show (if pIn 1 0 2 = 0 then (-2 : Int32) else FP.f2i (FP.fmul ((aV A).2 (cl 1)) 1148846080)) = _
  exact if_neg (by decide)
theorem qt_2 : (f_thousandths A 2).1 = th ((aV A).2 2) := by
  show (if pIn 2 0 2 = 0 then (-2 : Int32) else FP.f2i (FP.fmul ((aV A).2 (cl 2)) 1148846080)) = _
  exact if_neg (by decide)
theorem qt_3 : (f_thousandths A 3).1 = -2 := by
  show (if pIn 3 0 2 = 0 then (-2 : Int32) else FP.f2i (FP.fmul ((aV A).2 (cl 3)) 1148846080)) = _
  exact if_pos (by decide)
theorem qp1 : f_pass A 1 = (pTickN (aV A), aRec A (pTick (aV A))) := by
  show (if pIn 1 1 500 = 0 then ((-2 : Int32), A) else (pTkN (aV A) (cl 1), aRec A (pTks (aV A) (cl 1)))) = _
  rw [if_neg (by decide), show cl 1 = 0 + 1 from rfl, ← pTkN_s, ← pTks_s, ← pTks_z]
  show ((0 : Int32) + pTickN (aV A), _) = _
  rw [Int32.zero_add]
end TT
theorem ix8 (d k : Nat) : (8 : Int32) * nI d + nI k = nI (8 * d + k) := by rw [show (8 : Int32) = nI 8 from rfl, pk_mul, nI_add]
