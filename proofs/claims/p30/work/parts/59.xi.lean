/-! a tick, digit by digit -/
theorem dRun_at (lit dec life : Int32) (t : F3) : ∀ K, (∀ k, k < K → (dRun lit dec life t K).2.1 k = (if bit lit k = 1 then pBri (t.2.1 k) else pDar (t.2.1 k) dec) ∧ (dRun lit dec life t K).2.2 k = t.2.2 k + (if bit lit k = 1 then 1 else 0)) ∧
    (∀ k, K ≤ k → (dRun lit dec life t K).2.1 k = t.2.1 k ∧ (dRun lit dec life t K).2.2 k = t.2.2 k) := by
  intro K
  induction K with
  | zero => exact ⟨fun k h => absurd h (Nat.not_lt_zero k), fun k _ => by rw [dRun]; exact ⟨rfl, rfl⟩⟩
  | succ K ih =>
    obtain ⟨h1, h2⟩ := ih
    obtain ⟨g1, g2⟩ := h2 K (Nat.le_refl K)
    have e : dRun lit dec life t (K + 1) = dStep (decide (bit lit K = 1)) dec life K (dRun lit dec life t K) := by rw [dRun]
    rw [e]
    constructor
    · intro k hk
      by_cases z : k = K
      · subst z
        constructor
        · show upd _ k _ k = _
          rw [pk_us, g1]
          by_cases q : bit lit k = 1
          · rw [if_pos q, if_pos (decide_eq_true q)]
          · rw [if_neg q, if_neg (by simpa using q)]
        · show (if decide (bit lit k = 1) = true then upd _ k _ else _) k = _
          by_cases q : bit lit k = 1
          · rw [if_pos q, if_pos (decide_eq_true q), pk_us, g2]
          · rw [if_neg q, if_neg (by simpa using q), g2]; exact (Int32.add_zero _).symm
      · obtain ⟨a1, a2⟩ := h1 k (by omega)
        constructor
        · show upd _ K _ k = _
          rw [pk_un z, a1]
        · show (if decide (bit lit K = 1) = true then upd _ K _ else _) k = _
          split
          · rw [pk_un z, a2]
          · rw [a2]
    · intro k hk
      obtain ⟨a1, a2⟩ := h2 k (by omega)
      constructor
      · show upd _ K _ k = _
        rw [pk_un (by omega), a1]
      · show (if decide (bit lit K = 1) = true then upd _ K _ else _) k = _
        split
        · rw [pk_un (by omega), a2]
        · rw [a2]
theorem dRun_b (lit dec life : Int32) (t : F3) (h6 : rg (t.1 6) 0 255) : ∀ K, K ≤ 8 → ∀ k, k < 8 → bit ((dRun lit dec life t K).1 6) k = 1 → bit (t.1 6) k = 1 ∨ bit lit k = 1 := by
  intro K
  induction K with
  | zero => intro _ k _ h; rw [dRun] at h; exact Or.inl h
  | succ K ih =>
    intro hK k hk h
    have e : dRun lit dec life t (K + 1) = dStep (decide (bit lit K = 1)) dec life K (dRun lit dec life t K) := by rw [dRun]
    rw [e] at h
    obtain ⟨x, -, h2, e2⟩ := dRun_6 lit dec life t h6 K (by omega)
    have h' : bit ((if decide (bit lit K = 1) = true ∧ life ≤ (dRun lit dec life t K).2.2 K + 1 then upd (dRun lit dec life t K).1 6 ((dRun lit dec life t K).1 6 ||| (1 : Int32) <<< (nI K &&& 31)) else (dRun lit dec life t K).1) 6) k = 1 := h
    by_cases q : decide (bit lit K = 1) = true ∧ life ≤ (dRun lit dec life t K).2.2 K + 1
    · rw [if_pos q, pk_us, e2, bit_or x (by omega) K (by omega) k hk] at h'
      by_cases z : k = K
      · subst z; exact Or.inr (of_decide_eq_true q.1)
      · rw [if_neg z] at h'
        exact ih (by omega) k hk (by rw [e2]; exact h')
    · rw [if_neg q] at h'
      exact ih (by omega) k hk h'
theorem sTri_at (v : SV) (t : F3) {i d : Nat} (hi : i < 8) (hd : d < 8) : dTri (sTri v i t) d = if d = i then t else dTri v d := by
  unfold dTri sTri
  by_cases z : d = i
  · subst z
    rw [if_pos rfl, sC_ne _ (by omega), sC_ne _ (by omega), sC_eq, sC_ne _ (by omega), sC_eq, sC_eq]
  · rw [if_neg z, sC_ne _ (by omega), sC_ne _ (by omega), sC_ne _ (by omega), sC_ne _ (by omega), sC_ne _ (by omega), sC_ne _ (by omega), sC_ne _ (by omega), sC_ne _ (by omega), sC_ne _ (by omega)]
theorem pAll_tri (v : SV) (now : Nat) (lit : Int32) : ∀ i, i ≤ 8 → ∀ d, d < 8 → dTri (pAll v now lit i) d = if d < i then dRun (if d = now then lit else 0) (v.1 3 0) (v.1 3 2) (dTri v d) 8 else dTri v d := by
  intro i
  induction i with
  | zero => intro _ d _; rw [if_neg (by omega), pAll_z]
  | succ i ih =>
    intro hi d hd
    rw [pAll_s]
    unfold pDigK
    rw [sTri_at _ _ (by omega) hd, pAll_lo _ _ _ (by decide)]
    by_cases z : d = i
    · subst z
      rw [if_pos rfl, if_pos (show d < d + 1 by omega), ih (by omega) d hd, if_neg (show ¬ d < d by omega)]
    · rw [if_neg z, ih (by omega) d hd]
      by_cases z2 : d < i
      · rw [if_pos z2, if_pos (show d < i + 1 by omega)]
      · rw [if_neg z2, if_neg (show ¬ d < i + 1 by omega)]
theorem pLit_if (v : SV) (d : Nat) : (if d = pSlot v then pLit v (pSlot v) else 0) = pLit v d := by
  by_cases z : d = pSlot v
  · rw [if_pos z, z]
  · rw [if_neg z]; exact pLit_no (fun q => z q.symm)
theorem pTick_at (v : SV) {i : Nat} (hi : i ≠ 0) : (pTick v).1 i = (pTk2 v).1 i := by
  unfold pTick
  split
  · rw [pEnd_at hi, pTk3_at hi]
  · exact pTk3_at hi
theorem tick_tri {v : SV} (ok : Inv v) {d : Nat} (hd : d < nOf v) : dTri (pTick v) d = dRun (pLit v d) (v.1 3 0) (v.1 3 2) (dTri (pTk1 v) d) 8 := by
  have h8 := ok.n8
  have e : dTri (pTick v) d = dTri (pTk2 v) d := by
    unfold dTri
    rw [pTick_at v (by omega), pTick_at v (by omega), pTick_at v (by omega)]
  rw [e]
  unfold pTk2
  rw [pAll_tri _ _ _ _ h8 d (by omega), if_pos hd, pLit_if, pTk1_3]
theorem pTk1_tri (v : SV) {d : Nat} (hd : d < 8) (hs : pSlot v < 8) : (dTri (pTk1 v) d).2 = (dTri v d).2 ∧ (dTri (pTk1 v) d).1 6 = v.1 (4 + d) 6 ∧ (dTri (pTk1 v) d).1 5 = v.1 (4 + d) 5 + (if pSlot v = d ∧ pDrv v d then 1 else 0) := by
  unfold pTk1
  by_cases q : pDrv v (pSlot v)
  · rw [if_pos q]
    refine ⟨?_, ?_, ?_⟩
    · show ((s2 (s2 v 0 5 _) (4 + pSlot v) 5 _).1 (12 + d), (s2 (s2 v 0 5 _) (4 + pSlot v) 5 _).1 (20 + d)) = _
      have h : ∀ i, i ≠ 0 → i ≠ 4 + pSlot v → (s2 (s2 v 0 5 (v.1 0 5 + 1)) (4 + pSlot v) 5 (v.1 (4 + pSlot v) 5 + 1)).1 i = v.1 i := fun i h0 h1 => by
        funext j
        rw [s2_at, if_neg (by omega), s2_at, if_neg (by omega)]
      rw [h _ (by omega) (by omega), h _ (by omega) (by omega)]
      rfl
    · show (s2 (s2 v 0 5 _) (4 + pSlot v) 5 _).1 (4 + d) 6 = _
      rw [s2_at, if_neg (by omega), s2_at, if_neg (by omega)]
    · show (s2 (s2 v 0 5 _) (4 + pSlot v) 5 _).1 (4 + d) 5 = _
      rw [s2_at]
      by_cases z : pSlot v = d
      · rw [if_pos ⟨by omega, rfl⟩, if_pos ⟨z, z ▸ q⟩, z]
      · rw [if_neg (by omega), s2_at, if_neg (by omega), if_neg (fun y => z y.1)]; exact (Int32.add_zero _).symm
  · rw [if_neg q]
    refine ⟨rfl, rfl, ?_⟩
    rw [if_neg (fun y : pSlot v = d ∧ pDrv v d => q (by have h := y.2; rw [← y.1] at h; exact h))]; exact (Int32.add_zero _).symm
section TK
variable {v : SV} {d k : Nat}
theorem tick_glow (ok : Inv v) (hd : d < nOf v) (hk : k < 8) : (pTick v).1 (12 + d) k = if bit (pLit v d) k = 1 then pBri (v.1 (12 + d) k) else pDar (v.1 (12 + d) k) (v.1 3 0) := by
  have h8 := ok.n8
  have e := tick_tri ok hd
  obtain ⟨e1, -, -⟩ := pTk1_tri v (d := d) (by omega) ok.slot8
  have h : (dTri (pTick v) d).2.1 k = (dRun (pLit v d) (v.1 3 0) (v.1 3 2) (dTri (pTk1 v) d) 8).2.1 k := by rw [e]
  rw [((dRun_at _ _ _ _ 8).1 k hk).1] at h
  have e2 : (dTri (pTk1 v) d).2.1 = v.1 (12 + d) := congrArg Prod.fst e1
  rw [e2] at h
  exact h
theorem tick_use (ok : Inv v) (hd : d < nOf v) (hk : k < 8) : (pTick v).1 (20 + d) k = v.1 (20 + d) k + (if bit (pLit v d) k = 1 then 1 else 0) := by
  have h8 := ok.n8
  have e := tick_tri ok hd
  obtain ⟨e1, -, -⟩ := pTk1_tri v (d := d) (by omega) ok.slot8
  have h : (dTri (pTick v) d).2.2 k = (dRun (pLit v d) (v.1 3 0) (v.1 3 2) (dTri (pTk1 v) d) 8).2.2 k := by rw [e]
  rw [((dRun_at _ _ _ _ 8).1 k hk).2] at h
  have e2 : (dTri (pTk1 v) d).2.2 = v.1 (20 + d) := congrArg Prod.snd e1
  rw [e2] at h
  exact h
theorem tick_bro (ok : Inv v) (hd : d < nOf v) (hk : k < 8) (h : bit ((pTick v).1 (4 + d) 6) k = 1) : bit (v.1 (4 + d) 6) k = 1 ∨ bit (pLit v d) k = 1 := by
  have h8 := ok.n8
  have e := tick_tri ok hd
  obtain ⟨-, e2, -⟩ := pTk1_tri v (d := d) (by omega) ok.slot8
  have h' : bit ((dTri (pTick v) d).1 6) k = 1 := h
  rw [e] at h'
  have := dRun_b _ _ _ _ (by rw [e2]; exact (ok.dg hd).2.2.2.2.2) 8 (Nat.le_refl 8) k hk h'
  rw [e2] at this
  exact this
theorem tick_drv (ok : Inv v) (hd : d < nOf v) : (pTick v).1 (4 + d) 5 = v.1 (4 + d) 5 + (if pSlot v = d ∧ pDrv v d then 1 else 0) := by
  have h8 := ok.n8
  have e := tick_tri ok hd
  obtain ⟨-, -, e3⟩ := pTk1_tri v (d := d) (by omega) ok.slot8
  have h : (dTri (pTick v) d).1 5 = (dRun (pLit v d) (v.1 3 0) (v.1 3 2) (dTri (pTk1 v) d) 8).1 5 := by rw [e]
  rw [dRun_f _ _ _ _ (by decide) 8] at h
  rw [e3] at h
  exact h
theorem tick_0 (ok : Inv v) : (pTick v).1 0 0 = v.1 0 0 ∧ (pTick v).1 0 1 = v.1 0 1 + 1 ∧ (pTick v).1 0 5 = v.1 0 5 + (if pDrv v (pSlot v) then 1 else 0) ∧ (pTick v).2 = pFlo v.2 (pTickN v) := by
  have h : (pTk3 v).1 0 = upd (upd ((pTk2 v).1 0) 1 ((pTk2 v).1 0 1 + 1)) 3 ((pTk2 v).1 0 3 + 1) := by
    show va_up (pTk2 v).1 0 (upd (upd ((pTk2 v).1 0) 1 ((pTk2 v).1 0 1 + 1)) 3 ((pTk2 v).1 0 3 + 1)) 0 = _
    exact va_up_self _ _ _
  have e5 : (pTk2 v).1 0 5 = v.1 0 5 + (if pDrv v (pSlot v) then 1 else 0) := by
    refine (congrFun (pAll_lo _ _ _ (by decide) _) 5).trans ?_
    unfold pTk1
    by_cases q : pDrv v (pSlot v)
    · rw [if_pos q, if_pos q, s2_at, if_neg (by omega), s2_at, if_pos ⟨rfl, rfl⟩]
    · rw [if_neg q, if_neg q]; exact (Int32.add_zero _).symm
  have a : (pTk3 v).1 0 0 = v.1 0 0 ∧ (pTk3 v).1 0 1 = v.1 0 1 + 1 ∧ (pTk3 v).1 0 5 = v.1 0 5 + (if pDrv v (pSlot v) then 1 else 0) := by
    rw [h, ← e5]
    have e0 := pTk2_0 v (j := 0) (by decide)
    have e1 := pTk2_0 v (j := 1) (by decide)
    refine ⟨?_, ?_, rfl⟩
    · rw [← e0]; rfl
    · rw [← e1]; rfl
  unfold pTick
  split
  · have h2 : (pEnd (pTk3 v)).1 0 = pEndF ((pTk3 v).1 0) := sC_eq _ 0 _
    rw [h2]
    exact ⟨a.1, a.2.1, a.2.2, rfl⟩
  · exact ⟨a.1, a.2.1, a.2.2, rfl⟩
theorem lit_drv (h : ¬ pLit v d = 0) : pSlot v = d ∧ pDrv v d := by
  unfold pLit at h
  by_cases q : pSlot v = d ∧ pDrv v d
  · exact q
  · rw [if_neg q] at h; exact absurd rfl h
theorem bit_drv (hk : k < 8) (h : bit (pLit v d) k = 1) : pSlot v = d ∧ pDrv v d := by
  apply lit_drv
  intro z
  rw [z, bit_z k hk] at h
  exact absurd h (by decide)
theorem tick_n (ok : Inv v) : nOf (pTick v) = nOf v := by unfold nOf; rw [(tick_0 ok).1]
end TK
/-! what holds of the present state in the law: glows, uses, driven ticks, the time, the floats -/
def pDrN (v : SV) : Nat → Nat
  | 0 => 0
  | d + 1 => pDrN v d + cl (v.1 (4 + d) 5)
/-- the floats: the current at most the peak, that at most 20; the charge -/
def XF (b : Nat) (φ : Nat → UInt32) : Prop := Jvm.FP.Core.FFin (φ 0) ∧ Jvm.FP.Core.FFin (φ 1) ∧ Jvm.FP.Core.FFin (φ 2) ∧ 0 ≤ zv (φ 0) ∧ zv (φ 0) ≤ zv (φ 1) ∧ zv (φ 1) ≤ zv 1101004800 ∧ 0 ≤ zv (φ 2) ∧ zv (φ 2) ≤ (b : Int) * 713623846352979940529142984724747568191373312
def XD (b : Nat) (v : SV) (d : Nat) : Prop := (∀ k, k < 8 → rg (v.1 (12 + d) k) 0 1000) ∧ ∃ D, D ≤ b ∧ v.1 (4 + d) 5 = nI D ∧ ∀ k, k < 8 → ∃ u, u ≤ D ∧ v.1 (20 + d) k = nI u ∧ (bit (v.1 (4 + d) 6) k = 1 → 1 ≤ u)
def XI (b : Nat) (v : SV) : Prop := (∀ d, d < nOf v → XD b v d) ∧ (∃ T E, v.1 0 1 = nI T ∧ v.1 0 5 = nI E ∧ E ≤ T ∧ T ≤ b ∧ pDrN v (nOf v) ≤ E) ∧ XF b v.2
def LOk (b : Nat) (A : AS) : Prop := aOk b A ∧ (XI b (aV A) ∧ b < 2 ^ 20) ∧ b < 2 ^ 30
section XX
variable {v w : SV} {b b' d : Nat} {A : AS}
theorem LOk.inv (h : LOk b A) : Inv (aV A) := h.1.inv
theorem LOk.xi (h : LOk b A) : XI b (aV A) := h.2.1.1
theorem LOk.lt (h : LOk b A) : b < 2 ^ 20 := h.2.1.2
theorem XF.mono {φ : Nat → UInt32} (h : XF b φ) (hb : b ≤ b') : XF b' φ := by
  obtain ⟨h1, h2, h3, h4, h5, h6, h7, h8⟩ := h
  refine ⟨h1, h2, h3, h4, h5, h6, h7, Int.le_trans h8 ?_⟩
  omega
theorem XD.mono (h : XD b v d) (hb : b ≤ b') : XD b' v d := by
  obtain ⟨h1, D, h2, h3, h4⟩ := h
  exact ⟨h1, D, by omega, h3, h4⟩
theorem XI.mono (h : XI b v) (hb : b ≤ b') : XI b' v := by
  obtain ⟨h1, ⟨T, E, h2, h3, h4, h5, h6⟩, h7⟩ := h
  exact ⟨fun d hd => (h1 d hd).mono hb, ⟨T, E, h2, h3, h4, by omega, h6⟩, h7.mono hb⟩
theorem LOk.mono (h : LOk b A) (hb : b ≤ b') (h' : b' < 2 ^ 20) : LOk b' A := ⟨h.1.mono hb, ⟨h.xi.mono hb, h'⟩, by omega⟩
theorem pDrN_congr : ∀ n, (∀ d, d < n → v.1 (4 + d) 5 = w.1 (4 + d) 5) → pDrN v n = pDrN w n := by
  intro n
  induction n with
  | zero => intro _; rfl
  | succ n ih =>
    intro h
    show pDrN v n + cl (v.1 (4 + n) 5) = pDrN w n + cl (w.1 (4 + n) 5)
    rw [ih (fun d hd => h d (by omega)), h n (by omega)]
/-- two that agree on all that it speaks of -/
theorem XI.same (h : XI b v) (hn : nOf w = nOf v) (hd : ∀ d, d < nOf v → w.1 (12 + d) = v.1 (12 + d) ∧ w.1 (20 + d) = v.1 (20 + d) ∧ w.1 (4 + d) 5 = v.1 (4 + d) 5 ∧ w.1 (4 + d) 6 = v.1 (4 + d) 6) (h1 : w.1 0 1 = v.1 0 1) (h5 : w.1 0 5 = v.1 0 5) (hf : w.2 = v.2) : XI b w := by
  obtain ⟨a1, ⟨T, E, a2, a3, a4, a5, a6⟩, a7⟩ := h
  refine ⟨fun d h => ?_, ⟨T, E, h1.trans a2, h5.trans a3, a4, a5, ?_⟩, by rw [hf]; exact a7⟩
  · rw [hn] at h
    obtain ⟨e1, e2, e3, e4⟩ := hd d h
    unfold XD
    rw [e1, e2, e3, e4]
    exact a1 d h
  · rw [hn, pDrN_congr (v := w) (w := v) _ (fun d h => (hd d h).2.2.1)]
    exact a6
theorem XI.fd (h : XI b v) (h8 : nOf v ≤ 8) {d j : Nat} {y : Int32} (hd : d < 8) (j5 : j ≠ 5) (j6 : j ≠ 6) : XI b (s2 v (4 + d) j y) := by
  refine h.same (s2_n v (by omega) _ _) (fun d' h' => ⟨?_, ?_, ?_, ?_⟩) ?_ ?_ rfl
  · funext i; rw [s2_at, if_neg (by omega)]
  · funext i; rw [s2_at, if_neg (by omega)]
  · rw [s2_at, if_neg (by omega)]
  · rw [s2_at, if_neg (by omega)]
  · rw [s2_at, if_neg (by omega)]
  · rw [s2_at, if_neg (by omega)]
theorem XI.lo (h : XI b v) {i : Nat} (h0 : i ≠ 0) (h4 : i < 4) {j : Nat} {y : Int32} : XI b (s2 v i j y) := by
  refine h.same (s2_n v (by omega) _ _) (fun d' h' => ⟨?_, ?_, ?_, ?_⟩) ?_ ?_ rfl
  · funext k; rw [s2_at, if_neg (by omega)]
  · funext k; rw [s2_at, if_neg (by omega)]
  · rw [s2_at, if_neg (by omega)]
  · rw [s2_at, if_neg (by omega)]
  · rw [s2_at, if_neg (by omega)]
  · rw [s2_at, if_neg (by omega)]
theorem XI.end (h : XI b v) : XI b (pEnd v) := by
  have e : (pEnd v).1 0 = pEndF (v.1 0) := sC_eq v 0 _
  refine h.same rfl (fun d' _ => ⟨?_, ?_, ?_, ?_⟩) (by rw [e]; rfl) (by rw [e]; rfl) rfl
  · rw [pEnd_at (by omega)]
  · rw [pEnd_at (by omega)]
  · rw [pEnd_at (by omega)]
  · rw [pEnd_at (by omega)]
theorem XI.te (h : XI b v) {y : Int32} : XI b (sC v 0 (upd (v.1 0) 4 y)) := by
  refine h.same rfl (fun d' _ => ⟨?_, ?_, ?_, ?_⟩) rfl rfl rfl
  · rw [sC_ne _ (by omega)]
  · rw [sC_ne _ (by omega)]
  · rw [sC_ne _ (by omega)]
  · rw [sC_ne _ (by omega)]
theorem XI.sW (h : XI b v) (h8 : nOf v ≤ 8) {d : Nat} {y : Int32} (hd : d < 8) : XI b (pSW v d y) := by
  have h2 := h.fd (y := y) h8 hd (show 1 ≠ 5 by decide) (by decide)
  unfold pSW
  split
  · exact h2
  · exact h2.end
theorem pRen_tri {d d' : Nat} (hd : d < 8) (hd' : d' < 8) : (pRen v d).1 (12 + d') = (if d' = d then (fun _ => 0) else v.1 (12 + d')) ∧ (pRen v d).1 (20 + d') = (if d' = d then (fun _ => 0) else v.1 (20 + d')) := by
  have e : ∀ i, i ≠ 4 + d → (s2 v (4 + d) 6 0).1 i = v.1 i := fun i hi => by funext j; rw [s2_at, if_neg (by omega)]
  unfold pRen
  by_cases z : d' = d
  · subst z
    rw [if_pos rfl, if_pos rfl, sC_ne _ (by omega), sC_eq, sC_eq]
    exact ⟨rfl, rfl⟩
  · rw [if_neg z, if_neg z, sC_ne _ (by omega), sC_ne _ (by omega), sC_ne _ (by omega), sC_ne _ (by omega), e _ (by omega), e _ (by omega)]
    exact ⟨rfl, rfl⟩
theorem XI.ren (h : XI b v) (h8 : nOf v ≤ 8) {d : Nat} (hd : d < 8) : XI b (pRen v d) := by
  obtain ⟨a1, ⟨T, E, a2, a3, a4, a5, a6⟩, a7⟩ := h
  have hn : nOf (pRen v d) = nOf v := by unfold nOf; rw [pRen_lo v (by decide)]
  refine ⟨fun d' h' => ?_, ⟨T, E, by rw [pRen_lo v (by decide)]; exact a2, by rw [pRen_lo v (by decide)]; exact a3, a4, a5, ?_⟩, a7⟩
  · rw [hn] at h'
    obtain ⟨b1, D, b2, b3, b4⟩ := a1 d' h'
    obtain ⟨e1, e2⟩ := pRen_tri (v := v) hd (show d' < 8 by omega)
    have e5 : (pRen v d).1 (4 + d') 5 = v.1 (4 + d') 5 := by rw [pRen_d v hd (by omega), s2_at, if_neg (by omega)]
    have e6 : (pRen v d).1 (4 + d') 6 = if d' = d then 0 else v.1 (4 + d') 6 := by
      rw [pRen_d v hd (by omega), s2_at]
      by_cases z : d' = d
      · rw [if_pos z, if_pos ⟨by omega, rfl⟩]
      · rw [if_neg z, if_neg (by omega)]
    unfold XD
    rw [e1, e2, e5, e6]
    by_cases z : d' = d
    · rw [if_pos z, if_pos z, if_pos z]
      exact ⟨fun k _ => ⟨0, by omega, by omega, rfl⟩, D, b2, b3, fun k hk => ⟨0, by omega, rfl, fun q => by rw [bit_z k hk] at q; exact absurd q (by decide)⟩⟩
    · rw [if_neg z, if_neg z, if_neg z]
      exact ⟨b1, D, b2, b3, b4⟩
  · rw [hn, pDrN_congr (v := pRen v d) (w := v) _ (fun d' h' => by rw [pRen_d v hd (by omega), s2_at, if_neg (by omega)])]
    exact a6
theorem XI.pats (h : XI b v) (h8 : nOf v ≤ 8) {P : Nat → Int32} : ∀ k, k ≤ 8 → XI b (pPats v P k) := by
  intro k
  induction k with
  | zero => intro _; rw [pPats_z]; exact h
  | succ k ih =>
    intro hk
    rw [← pPats_s]
    exact (ih (by omega)).fd (by rw [pPats_n]; exact h8) (by omega) (by decide) (by decide)
theorem pDrN_le : ∀ {n m : Nat}, n ≤ m → pDrN v n ≤ pDrN v m := by
  intro n m h
  induction h with
  | refl => exact Nat.le_refl _
  | step _ ih => exact Nat.le_trans ih (Nat.le_add_right _ _)
theorem pNews_tri (v : SV) (m : Nat) : ∀ k, m + k ≤ 8 → ∀ d, d < 8 → (pNews v m k).1 (12 + d) = (if m ≤ d ∧ d < m + k then (fun _ => 0) else v.1 (12 + d)) ∧ (pNews v m k).1 (20 + d) = (if m ≤ d ∧ d < m + k then (fun _ => 0) else v.1 (20 + d)) := by
  intro k
  induction k with
  | zero => intro _ d _; rw [if_neg (by omega), if_neg (by omega), pNews_z]; exact ⟨rfl, rfl⟩
  | succ k ih =>
    intro hk d hd
    rw [← pNews_s]
    unfold pNew
    obtain ⟨a1, a2⟩ := ih (by omega) d hd
    by_cases q : d = m + k
    · subst q
      rw [if_pos (by omega), if_pos (by omega), sC_ne _ (by omega), sC_eq, sC_eq]
      exact ⟨rfl, rfl⟩
    · rw [sC_ne _ (by omega), sC_ne _ (by omega), sC_ne _ (by omega), sC_ne _ (by omega), sC_ne _ (by omega), sC_ne _ (by omega), a1, a2]
      by_cases z : m ≤ d ∧ d < m + k
      · rw [if_pos z, if_pos z, if_pos (by omega), if_pos (by omega)]; exact ⟨rfl, rfl⟩
      · rw [if_neg z, if_neg z, if_neg (by omega), if_neg (by omega)]; exact ⟨rfl, rfl⟩
theorem XI.sD (h : XI b v) (ok : Inv v) {N : Nat} (h1 : 1 ≤ N) (h8 : N ≤ 8) : XI b (pSD v N) := by
  have n8 := ok.n8
  obtain ⟨a1, ⟨T, E, a2, a3, a4, a5, a6⟩, a7⟩ := h
  have en : nOf (pCnt v N) = N := pCnt_n v (by omega)
  have e0 : (pCnt v N).1 0 = upd ((pNews v (nOf v) (N - nOf v)).1 0) 0 (nI N) := sC_eq _ 0 _
  have ed : ∀ d, d < N → (pCnt v N).1 (4 + d) = (if nOf v ≤ d then dFirst else v.1 (4 + d)) ∧ (pCnt v N).1 (12 + d) = (if nOf v ≤ d then (fun _ => 0) else v.1 (12 + d)) ∧ (pCnt v N).1 (20 + d) = (if nOf v ≤ d then (fun _ => 0) else v.1 (20 + d)) := by
    intro d hd
    rw [pCnt_at v N (by omega), pCnt_at v N (by omega), pCnt_at v N (by omega)]
    by_cases q : N ≤ nOf v
    · rw [show N - nOf v = 0 by omega, pNews_z, if_neg (by omega), if_neg (by omega), if_neg (by omega)]
      exact ⟨rfl, rfl, rfl⟩
    · obtain ⟨t1, t2⟩ := pNews_tri v (nOf v) (N - nOf v) (by omega) d (by omega)
      rw [pNews_at v _ _ (by omega) d (by omega), t1, t2]
      by_cases z : nOf v ≤ d
      · have hz : nOf v ≤ d ∧ d < nOf v + (N - nOf v) := by omega
        rw [if_pos hz, if_pos hz, if_pos hz, if_pos z, if_pos z, if_pos z]; exact ⟨rfl, rfl, rfl⟩
      · have hz : ¬ (nOf v ≤ d ∧ d < nOf v + (N - nOf v)) := by omega
        rw [if_neg hz, if_neg hz, if_neg hz, if_neg z, if_neg z, if_neg z]; exact ⟨rfl, rfl, rfl⟩
  have hx : XI b (pCnt v N) := by
    refine ⟨fun d hd => ?_, ⟨T, E, ?_, ?_, a4, a5, ?_⟩, ?_⟩
    · rw [en] at hd
      obtain ⟨e1, e2, e3⟩ := ed d hd
      unfold XD
      rw [e1, e2, e3]
      by_cases z : nOf v ≤ d
      · rw [if_pos z, if_pos z, if_pos z]
        exact ⟨fun k _ => ⟨0, by omega, by omega, rfl⟩, 0, Nat.zero_le _, rfl, fun k hk => ⟨0, by omega, rfl, fun q => absurd (show bit 0 k = 1 from q) (by rw [bit_z k hk]; decide)⟩⟩
      · rw [if_neg z, if_neg z, if_neg z]
        exact a1 d (by omega)
    · rw [e0, show upd ((pNews v (nOf v) (N - nOf v)).1 0) 0 (nI N) 1 = (pNews v (nOf v) (N - nOf v)).1 0 1 from rfl, pNews_lo v _ (by decide)]; exact a2
    · rw [e0, show upd ((pNews v (nOf v) (N - nOf v)).1 0) 0 (nI N) 5 = (pNews v (nOf v) (N - nOf v)).1 0 5 from rfl, pNews_lo v _ (by decide)]; exact a3
    · rw [en]
      have key : ∀ n, n ≤ N → pDrN (pCnt v N) n ≤ pDrN v (if n ≤ nOf v then n else nOf v) := by
        intro n
        induction n with
        | zero => intro _; exact Nat.zero_le _
        | succ n ih =>
          intro hn
          have h2 := ih (by omega)
          show pDrN (pCnt v N) n + cl ((pCnt v N).1 (4 + n) 5) ≤ _
          rw [(ed n (by omega)).1]
          by_cases z : nOf v ≤ n
          · rw [if_pos z, if_neg (by omega), show cl (dFirst 5) = 0 by decide]
            by_cases z2 : n ≤ nOf v
            · rw [if_pos z2, show n = nOf v by omega] at h2; rw [show n = nOf v by omega]; exact h2
            · rw [if_neg z2] at h2; exact h2
          · rw [if_neg z, if_pos (by omega)]
            rw [if_pos (by omega)] at h2
            exact Nat.add_le_add_right h2 _
      refine Nat.le_trans (key N (Nat.le_refl N)) (Nat.le_trans ?_ a6)
      split
      · exact pDrN_le (by omega)
      · exact Nat.le_refl _
    · rw [show (pCnt v N).2 = v.2 from pNews_f v (nOf v) (N - nOf v)]; exact a7
  unfold pSD
  split
  · exact hx
  · exact hx.end
end XX
