abbrev mG (ct : Nat → ClassId) (a : Nat → Nat) (K T : Int32) (g1 : Nat → Int32) (f2 : Nat → UInt32) (g3 : Nat → Int32) (f4 : Nat → UInt32) (g5 : Nat → Int32) (f6 : Nat → UInt32) (g7 : Nat → Int32) (f8 : Nat → UInt32) (g9 g10 g11 : Nat → Int32) : va_W :=
  [(a 0, .inr (6, [.ref (a 1), .ref (a 2), .ref (a 3), .ref (a 4), .ref (a 5), .ref (a 6), .int K, .ref (a 7), .ref (a 8), .ref (a 9), .int T, .ref (a 10), .ref (a 11)])), (a 1, .inl (ct 0, 200, .inl g1)), (a 2, .inl (ct 1, 3, .inr (.inr (.inl f2)))),
   (a 3, .inl (ct 0, 200, .inl g3)), (a 4, .inl (ct 1, 3, .inr (.inr (.inl f4)))), (a 5, .inl (ct 0, 1000, .inl g5)), (a 6, .inl (ct 1, 15, .inr (.inr (.inl f6)))), (a 7, .inl (ct 0, 400, .inl g7)), (a 8, .inl (ct 1, 6, .inr (.inr (.inl f8)))),
   (a 9, .inl (ct 3, 2, .inl g9)), (a 10, .inl (ct 2, 30, .inl g10)), (a 11, .inl (ct 0, 8, .inl g11))]
def hisI (w : Nat → SV) : Nat → Int32 := fun j => rowOf (w (j / 200)) (j % 200)
def hisF (w : Nat → SV) : Nat → UInt32 := fun j => (w (j / 3)).2 (j % 3)
def hSh (w : Nat → SV) : Nat → SV := fun i => if i < 4 then w (i + 1) else w i
def hPush (w : Nat → SV) (k : Nat) (s : SV) : Nat → SV := if k = 5 then va_up (hSh w) 4 s else va_up w k s
def kPush (k : Nat) : Nat := if k = 5 then 5 else k + 1
theorem vD_of {v : SV} (ok : Inv v) {d : Nat} (hd : d < nOf v) : vD v (nI d) := by
  have h8 := ok.n8
  rintro (h | h)
  · exact nI_pos (by omega) h
  · rw [ok.cnt] at h
    obtain ⟨m, hm⟩ : ∃ m, nOf v = m + 1 := ⟨nOf v - 1, by omega⟩
    rw [hm, nI_pred, nI_ltI (by omega) (by omega)] at h
    omega
theorem vD_to {v : SV} (ok : Inv v) {x : Int32} (h : vD v x) : ∃ d, d < nOf v ∧ x = nI d := by
  have h8 := ok.n8
  have h1 := ok.n1
  obtain ⟨d, hd, rfl⟩ := nI_of (fun q => h (Or.inl q))
  refine ⟨d, ?_, rfl⟩
  have h2 : ¬ v.1 0 0 - 1 < nI d := fun q => h (Or.inr q)
  rw [ok.cnt] at h2
  obtain ⟨m, hm⟩ : ∃ m, nOf v = m + 1 := ⟨nOf v - 1, by omega⟩
  rw [hm, nI_pred, nI_ltI (by omega) hd] at h2
  omega
/-- the number of digits set -/
def pNews (v : SV) (d : Nat) : Nat → SV
  | 0 => v
  | k + 1 => pNew (pNews v d k) (d + k)
def pCnt (v : SV) (n : Nat) : SV := let w := pNews v (nOf v) (n - nOf v); sC w 0 (upd (w.1 0) 0 (nI n))
def pSD (v : SV) (n : Nat) : SV := if nOf v = n then pCnt v n else pEnd (pCnt v n)
def pSW (v : SV) (d : Nat) (y : Int32) : SV := if v.1 (4 + d) 1 = y then s2 v (4 + d) 1 y else pEnd (s2 v (4 + d) 1 y)
theorem pNews_lo (v : SV) (d : Nat) {i : Nat} (h : i < 4) : ∀ k, (pNews v d k).1 i = v.1 i := by
  intro k
  induction k with
  | zero => rfl
  | succ k ih =>
    refine Eq.trans ?_ ih
    show (pNew (pNews v d k) (d + k)).1 i = _
    unfold pNew
    rw [sC_ne _ (by omega), sC_ne _ (by omega), sC_ne _ (by omega)]
theorem pNews_s (v : SV) (d k : Nat) : pNew (pNews v d k) (d + k) = pNews v d (k + 1) := by rw [pNews]
theorem pNews_z (v : SV) (d : Nat) : pNews v d 0 = v := by rw [pNews]
theorem pNews_f (v : SV) (d : Nat) : ∀ k, (pNews v d k).2 = v.2 := by
  intro k
  induction k with
  | zero => rfl
  | succ k ih => exact ih
theorem pSW_n (v : SV) (d : Nat) (y : Int32) : nOf (pSW v d y) = nOf v ∧ (pSW v d y).1 0 0 = v.1 0 0 := by
  have h : (pSW v d y).1 0 0 = v.1 0 0 := by
    unfold pSW
    split
    · rw [s2_at, if_neg (by omega)]
    · have e : (pEnd (s2 v (4 + d) 1 y)).1 0 0 = (s2 v (4 + d) 1 y).1 0 0 := rfl
      rw [e, s2_at, if_neg (by omega)]
  exact ⟨by unfold nOf; rw [h], h⟩
theorem pIn_ok {n a b : Nat} {lo hi : Int32} (h1 : lo = nI a) (h2 : hi = nI b) (ha : a ≤ n) (hb : n ≤ b) (hb2 : b < 2 ^ 31) : ¬ pIn (nI n) lo hi = 0 := by
  subst h1 h2
  intro h
  rcases pIn_0 h with q | q
  · rw [nI_ltI (by omega) (by omega)] at q; omega
  · rw [nI_ltI (by omega) (by omega)] at q; omega
def pTks (v : SV) : Nat → SV
  | 0 => v
  | i + 1 => pTick (pTks v i)
def pTkN (v : SV) : Nat → Int32
  | 0 => 0
  | i + 1 => pTkN v i + pTickN (pTks v i)
theorem pTks_s (v : SV) (i : Nat) : pTick (pTks v i) = pTks v (i + 1) := by rw [pTks]
theorem pTks_z (v : SV) : v = pTks v 0 := by rw [pTks]
theorem pTkN_s (v : SV) (i : Nat) : pTkN v i + pTickN (pTks v i) = pTkN v (i + 1) := by rw [pTkN]
theorem Inv_tick {v : SV} (ok : Inv v) : Inv (pTick v) := inv_tick ok
theorem Inv_tks {v : SV} (ok : Inv v) : ∀ i, Inv (pTks v i) := by
  intro i
  induction i with
  | zero => exact ok
  | succ i ih => exact Inv_tick ih
/-- the ticks until so many frames have ended -/
def pfN (v : SV) (n : Nat) : Nat := n * (pLen v).toNatClampNeg - (v.1 0 3).toNatClampNeg
theorem pTick_n (v : SV) : nOf (pTick v) = nOf v := by
  unfold pTick
  split
  · have e : nOf (pEnd (pTk3 v)) = nOf (pTk3 v) := rfl
    rw [e, pTk3_n]
  · exact pTk3_n v
