theorem SV_ext {v w : SV} (h1 : ∀ i j, v.1 i j = w.1 i j) (h2 : v.2 = w.2) : v = w := by
  obtain ⟨c, f⟩ := v
  obtain ⟨c', f'⟩ := w
  have h3 : c = c' := funext (fun i => funext (fun j => h1 i j))
  have h4 : f = f' := h2
  rw [h3, h4]
theorem sC_at (v : SV) (i : Nat) (f : Nat → Int32) (i' j' : Nat) : (sC v i f).1 i' j' = if i' = i then f j' else v.1 i' j' := by
  unfold sC va_up
  by_cases h : i' = i
  · simp [h]
  · simp [h]
theorem sC_s2 (v : SV) (i j : Nat) (f : Nat → Int32) (x : Int32) : s2 (sC v i f) i j x = sC v i (upd f j x) := by
  refine SV_ext (fun i' j' => ?_) rfl
  rw [s2_at, sC_at, sC_at]
  unfold upd
  by_cases h : i' = i
  · subst h; simp
  · simp [h]
theorem sC_self (v : SV) (i : Nat) : sC v i (v.1 i) = v := by
  refine SV_ext (fun i' j' => ?_) rfl
  rw [sC_at]
  by_cases h : i' = i
  · subst h; simp
  · simp [h]
theorem sC_sC (v : SV) (i : Nat) (f g : Nat → Int32) : sC (sC v i f) i g = sC v i g := by
  refine SV_ext (fun i' j' => ?_) rfl
  rw [sC_at, sC_at, sC_at]
  by_cases h : i' = i
  · simp [h]
  · simp [h]
theorem sC_comm (v : SV) {i k : Nat} (h : i ≠ k) (f g : Nat → Int32) : sC (sC v i f) k g = sC (sC v k g) i f := by
  refine SV_ext (fun i' j' => ?_) rfl
  rw [sC_at, sC_at, sC_at, sC_at]
  by_cases h1 : i' = i
  · subst h1; simp [h]
  · simp [h1]
theorem sC_ne (v : SV) {i k : Nat} (h : k ≠ i) (f : Nat → Int32) : (sC v i f).1 k = v.1 k := va_up_ne _ _ h
theorem sC_eq (v : SV) (i : Nat) (f : Nat → Int32) : (sC v i f).1 i = f := va_up_self _ _ _
/-! writes into the row -/
theorem row_congr {v w : SV} (h : ∀ i j, okc i j → v.1 i j = w.1 i j) : rowOf v = rowOf w := by
  funext j
  unfold rowOf
  unfold okc at h
  by_cases h1 : j < 6
  · rw [if_pos h1, if_pos h1]; exact h _ _ (by omega)
  rw [if_neg h1, if_neg h1]
  by_cases h2 : j < 9
  · rw [if_pos h2, if_pos h2]; exact h _ _ (by omega)
  rw [if_neg h2, if_neg h2]
  by_cases h3 : j < 12
  · rw [if_pos h3, if_pos h3]; exact h _ _ (by omega)
  rw [if_neg h3, if_neg h3]
  by_cases h4 : j < 15
  · rw [if_pos h4, if_pos h4]; exact h _ _ (by omega)
  rw [if_neg h4, if_neg h4]
  by_cases h5 : j < 16
  · rw [if_pos h5, if_pos h5]
  rw [if_neg h5, if_neg h5]
  by_cases h6 : j < 64
  · rw [if_pos h6, if_pos h6]; exact h _ _ (by omega)
  rw [if_neg h6, if_neg h6]
  by_cases h7 : j < 128
  · rw [if_pos h7, if_pos h7]; exact h _ _ (by omega)
  rw [if_neg h7, if_neg h7]
  by_cases h8 : j < 192
  · rw [if_pos h8, if_pos h8]; exact h _ _ (by omega)
  rw [if_neg h8, if_neg h8]
  by_cases h9 : j < 200
  · rw [if_pos h9, if_pos h9]; exact h _ _ (by omega)
  rw [if_neg h9, if_neg h9]
/-! new digits, new segments -/
def zF (f : Nat → Int32) (i : Nat) : Nat → Int32 := fun j => if j < i then 0 else f j
theorem zF_0 (f : Nat → Int32) : zF f 0 = f := by funext j; unfold zF; rw [if_neg (by omega)]
theorem zF_s (f : Nat → Int32) (i : Nat) : upd (zF f i) i 0 = zF f (i + 1) := by
  funext j
  unfold upd zF
  by_cases h : j = i
  · subst h; rw [if_pos rfl, if_pos (by omega)]
  · rw [if_neg h]
    by_cases h2 : j < i
    · rw [if_pos h2, if_pos (by omega)]
    · rw [if_neg h2, if_neg (by omega)]
theorem zF_8 (f : Nat → Int32) : ∀ j, j < 8 → zF f 8 j = (fun _ => (0 : Int32)) j := fun j h => by unfold zF; rw [if_pos h]
def pRen (v : SV) (d : Nat) : SV := sC (sC (s2 v (4 + d) 6 0) (12 + d) (fun _ => 0)) (20 + d) (fun _ => 0)
def dFirst : Nat → Int32 := fun j => if j = 1 then 10 else if j = 2 then 1 else if j = 3 then 15 else 0
def pNew (v : SV) (d : Nat) : SV := sC (sC (sC v (4 + d) dFirst) (12 + d) (fun _ => 0)) (20 + d) (fun _ => 0)
def pEndF (f : Nat → Int32) : Nat → Int32 := upd (upd (upd f 2 (f 2 + 1)) 3 0) 4 (f 4 - (if 0 < f 4 then 1 else 0))
def pEnd (v : SV) : SV := sC v 0 (pEndF (v.1 0))
/-! the lights of one digit: its fields, its glow, its use -/
abbrev F3 : Type := (Nat → Int32) × (Nat → Int32) × (Nat → Int32)
def dStep (b : Bool) (dec life : Int32) (k : Nat) (t : F3) : F3 :=
  (if b = true ∧ life ≤ t.2.2 k + 1 then upd t.1 6 (t.1 6 ||| (1 : Int32) <<< (nI k &&& 31)) else t.1,
   upd t.2.1 k (if b = true then pBri (t.2.1 k) else pDar (t.2.1 k) dec),
   if b = true then upd t.2.2 k (t.2.2 k + 1) else t.2.2)
def dRun (lit dec life : Int32) (t : F3) : Nat → F3
  | 0 => t
  | k + 1 => dStep (decide (bit lit k = 1)) dec life k (dRun lit dec life t k)
def dTri (v : SV) (d : Nat) : F3 := (v.1 (4 + d), v.1 (12 + d), v.1 (20 + d))
def sTri (v : SV) (d : Nat) (t : F3) : SV := sC (sC (sC v (4 + d) t.1) (12 + d) t.2.1) (20 + d) t.2.2
/-- the digit d behind the first k segments -/
def pDigK (v : SV) (lit : Int32) (d k : Nat) : SV := sTri v d (dRun lit (v.1 3 0) (v.1 3 2) (dTri v d) k)
def pDig (v : SV) (lit : Int32) (d : Nat) : SV := pDigK v lit d 8
def pAll (v : SV) (now : Nat) (lit : Int32) : Nat → SV
  | 0 => v
  | d + 1 => pDig (pAll v now lit d) (if d = now then lit else 0) d
/-- the floats behind a tick -/
def pCur (x : UInt32) (n : Int32) : UInt32 := FP.fadd x (FP.fmul (FP.fsub (FP.fmul (FP.i2f n) 1075838976) x) 1040187392)
def pPk (x y : UInt32) : UInt32 := if Op.cmpValue (FP.fcmp x y) CmpOp.l ≤ 0 then y else x
def pChg (z x : UInt32) : UInt32 := FP.fadd z (FP.fmul x 981668463)
def pFlo (φ : Nat → UInt32) (n : Int32) : Nat → UInt32 := vf_upd (vf_upd (vf_upd φ 0 (pCur (φ 0) n)) 1 (pPk (pCur (φ 0) n) (φ 1))) 2 (pChg (φ 2) (pCur (φ 0) n))
def pTk1 (v : SV) : SV := if pDrv v (pSlot v) then s2 (s2 v 0 5 (v.1 0 5 + 1)) (4 + pSlot v) 5 (v.1 (4 + pSlot v) 5 + 1) else v
def pTk2 (v : SV) : SV := pAll (pTk1 v) (pSlot v) (pLit v (pSlot v)) (nOf v)
def pTickN (v : SV) : Int32 := pBro (pLit v (pSlot v)) 8
def pTk3 (v : SV) : SV := (va_up (pTk2 v).1 0 (upd (upd ((pTk2 v).1 0) 1 ((pTk2 v).1 0 1 + 1)) 3 ((pTk2 v).1 0 3 + 1)), pFlo v.2 (pTickN v))
def pTick (v : SV) : SV := if (pTk3 v).1 0 3 = pLen v then pEnd (pTk3 v) else pTk3 v
theorem pNew_of (v : SV) (d : Nat) (hd : d < 8) : rowOf (pRen (s2 (s2 (s2 (s2 (s2 (s2 v (4 + d) 0 0) (4 + d) 1 10) (4 + d) 2 1) (4 + d) 3 15) (4 + d) 4 0) (4 + d) 5 0) d) = rowOf (pNew v d) := by
  refine row_congr (fun i j hj => ?_)
  unfold pRen pNew
  simp only [sC_at, s2_at]
  unfold okc at hj
  by_cases h1 : i = 20 + d
  · rw [if_pos h1, if_pos h1]
  · rw [if_neg h1, if_neg h1]
    by_cases h2 : i = 12 + d
    · rw [if_pos h2, if_pos h2]
    · rw [if_neg h2, if_neg h2]
      by_cases h3 : i = 4 + d
      · subst h3
        simp only [true_and, if_true]
        unfold dFirst
        have hj7 : j < 7 := by omega
        match j, hj7 with
        | 0, _ => rfl
        | 1, _ => rfl
        | 2, _ => rfl
        | 3, _ => rfl
        | 4, _ => rfl
        | 5, _ => rfl
        | 6, _ => rfl
      · simp [h3]
theorem bit01 (x : Int32) (k : Nat) : bit x k = 0 ∨ bit x k = 1 := by
  unfold bit
  have h := pk_and (x >>> (nI k &&& 31)) (m := 1) 1 (by decide)
  rw [h]
  have h2 : (x >>> (nI k &&& 31)).toBitVec.toNat % 2 ^ 1 < 2 := Nat.mod_lt _ (by decide)
  rcases (show (x >>> (nI k &&& 31)).toBitVec.toNat % 2 ^ 1 = 0 ∨ (x >>> (nI k &&& 31)).toBitVec.toNat % 2 ^ 1 = 1 by omega) with h3 | h3
  · rw [h3]; exact Or.inl rfl
  · rw [h3]; exact Or.inr rfl
theorem dTri_sTri (v : SV) (d : Nat) (t : F3) : dTri (sTri v d t) d = t := by
  unfold dTri sTri
  rw [sC_ne _ (by omega), sC_ne _ (by omega), sC_eq, sC_ne _ (by omega), sC_eq, sC_eq]
theorem sTri_lo (v : SV) (d : Nat) (t : F3) {i : Nat} (h : i < 4) : (sTri v d t).1 i = v.1 i := by
  unfold sTri
  rw [sC_ne _ (by omega), sC_ne _ (by omega), sC_ne _ (by omega)]
theorem pDigK_lo (v : SV) (lit : Int32) (d k : Nat) {i : Nat} (h : i < 4) : (pDigK v lit d k).1 i = v.1 i := sTri_lo _ _ _ h
theorem pAll_lo (v : SV) (now : Nat) (lit : Int32) {i : Nat} (h : i < 4) : ∀ d, (pAll v now lit d).1 i = v.1 i := by
  intro d
  induction d with
  | zero => rfl
  | succ d ih => exact (pDigK_lo _ _ _ _ h).trans ih
theorem pAll_f (v : SV) (now : Nat) (lit : Int32) : ∀ d, (pAll v now lit d).2 = v.2 := by
  intro d
  induction d with
  | zero => rfl
  | succ d ih => exact ih
theorem pTk1_3 (v : SV) : (pTk1 v).1 3 = v.1 3 := by
  unfold pTk1
  by_cases h : pDrv v (pSlot v)
  · rw [if_pos h]
    funext j
    rw [s2_at, if_neg (by omega), s2_at, if_neg (by omega)]
  · rw [if_neg h]
theorem pTk1_0 (v : SV) {j : Nat} (h : j < 5) : (pTk1 v).1 0 j = v.1 0 j := by
  unfold pTk1
  by_cases h2 : pDrv v (pSlot v)
  · rw [if_pos h2, s2_at, if_neg (by omega), s2_at, if_neg (by omega)]
  · rw [if_neg h2]
theorem pTk1_f (v : SV) : (pTk1 v).2 = v.2 := by
  unfold pTk1
  by_cases h2 : pDrv v (pSlot v)
  · rw [if_pos h2]; rfl
  · rw [if_neg h2]
theorem pTk1_w (v : SV) {d j : Nat} (hj : j ≠ 5) : (pTk1 v).1 (4 + d) j = v.1 (4 + d) j := by
  unfold pTk1
  by_cases h2 : pDrv v (pSlot v)
  · rw [if_pos h2, s2_at, if_neg (by omega), s2_at, if_neg (by omega)]
  · rw [if_neg h2]
theorem dRun_f (lit dec life : Int32) (t : F3) {j : Nat} (hj : j ≠ 6) : ∀ k, (dRun lit dec life t k).1 j = t.1 j := by
  intro k
  induction k with
  | zero => rfl
  | succ k ih =>
    show (if _ then upd _ 6 _ else _) j = _
    split
    · unfold upd; rw [if_neg hj]; exact ih
    · exact ih
theorem pAll_w (v : SV) (now : Nat) (lit : Int32) {d j : Nat} (hd : d < 8) (hj : j ≠ 6) : ∀ i, (pAll v now lit i).1 (4 + d) j = v.1 (4 + d) j := by
  intro i
  induction i with
  | zero => rfl
  | succ i ih =>
    refine Eq.trans ?_ ih
    show (sTri _ i _).1 (4 + d) j = _
    unfold sTri
    rw [sC_at, if_neg (by omega), sC_at, if_neg (by omega), sC_at]
    by_cases h : d = i
    · subst h
      rw [if_pos rfl, dRun_f _ _ _ _ hj]
      rfl
    · rw [if_neg (by omega)]
theorem pBeg_congr {v w : SV} : ∀ k, (∀ d, d < k → v.1 (4 + d) 1 = w.1 (4 + d) 1) → pBeg v k = pBeg w k := by
  intro k
  induction k with
  | zero => intro _; rfl
  | succ k ih =>
    intro h
    show pBeg v k + _ = pBeg w k + _
    rw [ih (fun d hd => h d (by omega)), h k (by omega)]
theorem pTk2_f (v : SV) : (pTk2 v).2 = v.2 := (pAll_f _ _ _ _).trans (pTk1_f v)
theorem pTk2_0 (v : SV) {j : Nat} (h : j < 5) : (pTk2 v).1 0 j = v.1 0 j := (congrFun (pAll_lo _ _ _ (by decide) _) j).trans (pTk1_0 v h)
theorem pTk2_w (v : SV) {d j : Nat} (hd : d < 8) (h5 : j ≠ 5) (h6 : j ≠ 6) : (pTk2 v).1 (4 + d) j = v.1 (4 + d) j := (pAll_w _ _ _ hd h6 _).trans (pTk1_w v h5)
theorem pTk3_0 (v : SV) : (pTk3 v).1 0 0 = v.1 0 0 := pTk2_0 v (by decide)
theorem pTk3_w (v : SV) {d j : Nat} (hd : d < 8) (h5 : j ≠ 5) (h6 : j ≠ 6) : (pTk3 v).1 (4 + d) j = v.1 (4 + d) j := by
  refine Eq.trans ?_ (pTk2_w v hd h5 h6)
  have h : (pTk3 v).1 (4 + d) = (pTk2 v).1 (4 + d) := va_up_ne _ _ (by omega)
  rw [h]
theorem pTk3_n (v : SV) : nOf (pTk3 v) = nOf v := by unfold nOf; rw [pTk3_0]
theorem pTk3_len {v : SV} (ok : Inv v) : pLen (pTk3 v) = pLen v := by
  unfold pLen
  rw [pTk3_n]
  have h8 := ok.n8
  exact pBeg_congr _ (fun d hd => pTk3_w v (by omega) (by decide) (by decide))
/-! one segment of a digit, in the row -/
theorem dw_c {A : Nat → Prop} {ws ws' : va_W} (h : va_D A ws) (e : ws'.map Prod.fst = ws.map Prod.fst) : va_D A ws' := dw_congr e h
