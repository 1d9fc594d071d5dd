abbrev AS : Type := SV × Nat × (Nat → SV) × (Nat → SV) × (Nat → Int32) × Nat × (Nat → Int32)
abbrev aV (A : AS) : SV := A.1
abbrev aK (A : AS) : Nat := A.2.1
abbrev aH (A : AS) : Nat → SV := A.2.2.1
abbrev aS (A : AS) : Nat → SV := A.2.2.2.1
abbrev aI (A : AS) : Nat → Int32 := A.2.2.2.2.1
abbrev aT (A : AS) : Nat := A.2.2.2.2.2.1
abbrev aF (A : AS) : Nat → Int32 := A.2.2.2.2.2.2
abbrev cl (x : Int32) : Nat := x.toNatClampNeg
def aRec (A : AS) (v : SV) : AS := (v, kPush (aK A), hPush (aH A) (aK A) (aV A), aS A, aI A, aT A, aF A)
def f_setDigits (A : AS) (x : Int32) : Int32 × AS := if pIn x 1 8 = 0 then (-2, A) else (nI (nOf (aV A)), aRec A (pSD (aV A) (cl x)))
def f_setWidth (A : AS) (x y : Int32) : Int32 × AS := if vD (aV A) x then (if pIn y 4 40 = 0 then (-2, A) else (pLen (pSW (aV A) (cl x) y), aRec A (pSW (aV A) (cl x) y))) else (-1, A)
def f_setGuard (A : AS) (x y : Int32) : Int32 × AS := if vD (aV A) x then (if pIn y 0 3 = 0 then (-2, A) else (pLP (s2 (aV A) (4 + cl x) 2 y) (cl x), aRec A (s2 (aV A) (4 + cl x) 2 y))) else (-1, A)
def f_setBrightness (A : AS) (x y : Int32) : Int32 × AS := if vD (aV A) x then (if pIn y 0 15 = 0 then (-2, A) else (pLP (s2 (aV A) (4 + cl x) 3 y) (cl x), aRec A (s2 (aV A) (4 + cl x) 3 y))) else (-1, A)
def f_setPattern (A : AS) (x y : Int32) : Int32 × AS := if vD (aV A) x then (if pIn y 0 255 = 0 then (-2, A) else ((aV A).1 (4 + cl x) 0, aRec A (s2 (aV A) (4 + cl x) 0 y))) else (-1, A)
def f_setGroup (A : AS) (x y : Int32) : Int32 × AS := if vD (aV A) x then (if pIn y 0 3 = 0 then (-1, A) else ((aV A).1 (4 + cl x) 4, aRec A (s2 (aV A) (4 + cl x) 4 y))) else (-1, A)
def f_setBlink (A : AS) (x y z : Int32) : Int32 × AS := if pIn x 1 3 = 0 then (-1, A) else (if pIn y 1 50 = 0 ∨ pIn z 0 50 = 0 then (-2, A) else (pDin (s2 (s2 (aV A) 1 (cl x) y) 2 (cl x) z) (nI (cl x)) (nOf (aV A)), aRec A (s2 (s2 (aV A) 1 (cl x) y) 2 (cl x) z)))
def setLo (x : Int32) : Int32 := if x = 0 then 2 else 1
def setHi (x : Int32) : Int32 := if x = 0 then 50 else if x = 1 then 1000 else 1000000
def f_set (A : AS) (x y : Int32) : Int32 × AS := if pIn x 0 2 = 0 then (-1, A) else (if pIn y (setLo x) (setHi x) = 0 then (-2, A) else ((aV A).1 3 (cl x), aRec A (s2 (aV A) 3 (cl x) y)))
def f_replace (A : AS) (x : Int32) : Int32 × AS := if vD (aV A) x then (pBro ((aV A).1 (4 + cl x) 6) 8, aRec A (pRen (aV A) (cl x))) else (-1, A)
def f_test (A : AS) (x : Int32) : Int32 × AS := if pIn x 0 50 = 0 then (-2, A) else ((aV A).1 0 4, aRec A (sC (aV A) 0 (upd ((aV A).1 0) 4 x)))
def f_pass (A : AS) (x : Int32) : Int32 × AS := if pIn x 1 500 = 0 then (-2, A) else (pTkN (aV A) (cl x), aRec A (pTks (aV A) (cl x)))
def f_passFrames (A : AS) (x : Int32) : Int32 × AS := if pIn x 1 20 = 0 then (-2, A) else ((pTks (aV A) (pfN (aV A) (cl x))).1 0 1, aRec A (pTks (aV A) (pfN (aV A) (cl x))))
def f_type (A : AS) (x : Int32) : Int32 × AS := if aT A < 30 then (nI (aT A + 1), (aV A, aK A, aH A, aS A, aI A, aT A + 1, upd (aF A) (aT A) x)) else (-3, A)
def f_clearText (A : AS) : Int32 × AS := (nI (aT A), (aV A, aK A, aH A, aS A, aI A, 0, aF A))
abbrev shA (A : AS) : Int32 × Nat × (Nat → Int32) := shO (aF A) (nOf (aV A)) (aT A) 0 0 0 (fun _ => 0)
def f_show (A : AS) : Int32 × AS := if (shA A).1 = -4 then (nI (shA A).2.1, aRec A (pPats (aV A) (shA A).2.2 (nOf (aV A)))) else (-100 - (shA A).1, A)
def f_undo (A : AS) : Int32 × AS := if aK A = 0 then (-4, A) else (nI (aK A - 1), (aH A (aK A - 1), aK A - 1, aH A, aS A, aI A, aT A, aF A))
def f_keep (A : AS) (x : Int32) : Int32 × AS := if pIn x 0 1 = 0 then (-1, A) else ((aV A).1 0 1, (aV A, aK A, aH A, va_up (aS A) (cl x) (aV A), upd (aI A) (cl x) 1, aT A, aF A))
def f_restore (A : AS) (x : Int32) : Int32 × AS := if pIn x 0 1 = 0 then (-1, A) else (if aI A (cl x) = 0 then (-4, A) else ((aS A (cl x)).1 0 1, aRec A (aS A (cl x))))
def f_digit (A : AS) (x y : Int32) : Int32 × AS := (if vD (aV A) x then pDgt (aV A) (cl x) y else -1, A)
def f_segment (A : AS) (x y z : Int32) : Int32 × AS := (if vD (aV A) x then (if pIn y 0 7 = 0 then -1 else pSgm (aV A) (cl x) (cl y) z) else -1, A)
def f_litIn (A : AS) (x y : Int32) : Int32 × AS := (if vD (aV A) x then (if pIn y 0 500 = 0 then -2 else pLit (pTks (aV A) (cl y)) (cl x)) else -1, A)
def stdG (v : SV) (d : Nat) : Int32 := if cl (pLP v d) = 0 then 0 else nI (pSt (cl (pLP v d)) (cl (pLen v - pLP v d)) (cl (v.1 3 0)))
def f_steadyGlow (A : AS) (x : Int32) : Int32 × AS := (if vD (aV A) x then stdG (aV A) (cl x) else -1, A)
def f_thousandths (A : AS) (x : Int32) : Int32 × AS := (if pIn x 0 2 = 0 then -2 else FP.f2i (FP.fmul ((aV A).2 (cl x)) 1148846080), A)
def f_count (A : AS) (x : Int32) : Int32 × AS := (pCou (aV A) (aK A) (aT A) x, A)
def f_group (A : AS) (x y : Int32) : Int32 × AS := (if pIn x 0 3 = 0 then -1 else pGrp (aV A) (cl x) y, A)
def aOk (b : Nat) (A : AS) : Prop := good b (aV A) ∧ aK A ≤ 5 ∧ (∀ i, i < aK A → good b (aH A i)) ∧ (∀ j, j < 2 → aI A j ≠ 0 → good b (aS A j)) ∧ aT A ≤ 30
/-- two that agree on all that counts -/
def asim (A B : AS) : Prop := sim (aV A) (aV B) ∧ aK A = aK B ∧ (∀ i, i < aK A → sim (aH A i) (aH B i)) ∧ (∀ j, j < 2 → aI A j = aI B j ∧ (aI A j ≠ 0 → sim (aS A j) (aS B j))) ∧ aT A = aT B ∧ aF A = aF B
section AA
variable {A B : AS} {b b' : Nat} {x y z : Int32} {v w : SV}
theorem aOk.inv (h : aOk b A) : Inv (aV A) := h.1.1
theorem aOk.mono (h : aOk b A) (hb : b ≤ b') : aOk b' A := ⟨h.1.mono hb, h.2.1, fun i hi => (h.2.2.1 i hi).mono hb, fun j h1 h2 => (h.2.2.2.1 j h1 h2).mono hb, h.2.2.2.2⟩
theorem kPush_le {k : Nat} (h : k ≤ 5) : kPush k ≤ 5 := by unfold kPush; split <;> omega
theorem hPush_at (h : Nat → SV) (k : Nat) (v : SV) (i : Nat) : hPush h k v i = if k = 5 then (if i = 4 then v else if i < 4 then h (i + 1) else h i) else (if i = k then v else h i) := by
  unfold hPush
  by_cases q : k = 5
  · rw [if_pos q, if_pos q]; rfl
  · rw [if_neg q, if_neg q]; rfl
theorem hPush_all {P : SV → Prop} {h : Nat → SV} {k : Nat} (hk : k ≤ 5) (hh : ∀ i, i < k → P (h i)) (hv : P v) : ∀ i, i < kPush k → P (hPush h k v i) := by
  intro i hi
  unfold kPush at hi
  rw [hPush_at]
  by_cases q : k = 5
  · rw [if_pos q] at hi
    rw [if_pos q]
    by_cases z : i = 4
    · rw [if_pos z]; exact hv
    · rw [if_neg z, if_pos (by omega)]; exact hh _ (by omega)
  · rw [if_neg q] at hi
    rw [if_neg q]
    by_cases z : i = k
    · rw [if_pos z]; exact hv
    · rw [if_neg z]; exact hh _ (by omega)
theorem hPush_all2 {P : SV → SV → Prop} {h g : Nat → SV} {k : Nat} (hk : k ≤ 5) (hh : ∀ i, i < k → P (h i) (g i)) (hv : P v w) : ∀ i, i < kPush k → P (hPush h k v i) (hPush g k w i) := by
  intro i hi
  unfold kPush at hi
  rw [hPush_at, hPush_at]
  by_cases q : k = 5
  · rw [if_pos q] at hi
    rw [if_pos q, if_pos q]
    by_cases z : i = 4
    · rw [if_pos z, if_pos z]; exact hv
    · rw [if_neg z, if_neg z, if_pos (by omega), if_pos (by omega)]; exact hh _ (by omega)
  · rw [if_neg q] at hi
    rw [if_neg q, if_neg q]
    by_cases z : i = k
    · rw [if_pos z, if_pos z]; exact hv
    · rw [if_neg z, if_neg z]; exact hh _ (by omega)
theorem aOk.rec (h : aOk b A) (hb : b ≤ b') (hv : good b' v) : aOk b' (aRec A v) :=
  ⟨hv, kPush_le h.2.1, hPush_all h.2.1 (h.mono hb).2.2.1 (h.1.mono hb), (h.mono hb).2.2.2.1, h.2.2.2.2⟩
theorem asim.rec (h : asim A B) (hk : aK A ≤ 5) (hv : sim v w) : asim (aRec A v) (aRec B w) := by
  obtain ⟨h1, h2, h3, h4⟩ := h
  refine ⟨hv, ?_, ?_, h4⟩
  · show kPush (aK A) = kPush (aK B)
    rw [h2]
  · show ∀ i, i < kPush (aK A) → sim (hPush (aH A) (aK A) (aV A) i) (hPush (aH B) (aK B) (aV B) i)
    rw [← h2]
    exact hPush_all2 hk h3 h1
theorem pIn_rg {x lo hi : Int32} {l h : Nat} (e1 : lo = nI l) (e2 : hi = nI h) (hh : h < 2 ^ 31) (hl : l ≤ h) (hin : ¬ pIn x lo hi = 0) : ∃ k, l ≤ k ∧ k ≤ h ∧ x = nI k := by
  have h1 := pIn_1 (show ¬ pIn x lo hi = 0 from hin)
  subst e1; subst e2
  have h2 : ¬ x < nI l := fun z => h1 (Or.inl z)
  have h3 : ¬ nI h < x := fun z => h1 (Or.inr z)
  have h4 : ¬ x < 0 := by
    intro z
    apply h2
    rw [Int32.lt_iff_toInt_lt, nI_toInt (by omega)]
    rw [Int32.lt_iff_toInt_lt] at z
    have : (0 : Int32).toInt = 0 := rfl
    omega
  obtain ⟨k, hk, rfl⟩ := nI_of h4
  refine ⟨k, ?_, ?_, rfl⟩
  · rcases Nat.lt_or_ge k l with q | q
    · exact absurd (nI_lt q (by omega)) h2
    · exact q
  · rcases Nat.lt_or_ge h k with q | q
    · exact absurd (nI_lt q hk) h3
    · exact q
theorem pIn_rgr {x lo hi : Int32} {l h : Nat} (e1 : lo = nI l) (e2 : hi = nI h) (hh : h < 2 ^ 31) (hl : l ≤ h) (hin : ¬ pIn x lo hi = 0) : rg x l h := pIn_rg e1 e2 hh hl hin
theorem cl_of {x : Int32} {k : Nat} (hk : k < 2 ^ 31) (e : x = nI k) : cl x = k := by rw [e]; exact nI_clamp hk
theorem vD_cl (ok : Inv v) (h : vD v x) : cl x < nOf v ∧ x = nI (cl x) := by
  have h8 := ok.n8
  obtain ⟨d, hd, e⟩ := vD_to ok h
  have e2 := cl_of (by omega) e
  rw [e2]
  exact ⟨hd, e⟩
end AA
