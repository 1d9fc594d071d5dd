/-! the model's whole world: object, row, flow, scratch, its flow, history, its flow, slots, their flow, kept?, text, read -/
abbrev mTl (a : Nat → Nat) (K T : Int32) : List Value := [.ref (a 2), .ref (a 3), .ref (a 4), .ref (a 5), .ref (a 6), .int K, .ref (a 7), .ref (a 8), .ref (a 9), .int T, .ref (a 10), .ref (a 11)]
abbrev mTl2 (a : Nat → Nat) (K T : Int32) : List Value := [.ref (a 3), .ref (a 4), .ref (a 5), .ref (a 6), .int K, .ref (a 7), .ref (a 8), .ref (a 9), .int T, .ref (a 10), .ref (a 11)]
abbrev mQ (ct : Nat → ClassId) (a : Nat → Nat) (g3 : Nat → Int32) (f4 : Nat → UInt32) (g5 : Nat → Int32) (f6 : Nat → UInt32) (g7 : Nat → Int32) (f8 : Nat → UInt32) (g9 g10 g11 : Nat → Int32) : va_W :=
  [(a 3, .inl (ct 0, 200, .inl g3)), (a 4, .inl (ct 1, 3, .inr (.inr (.inl f4)))), (a 5, .inl (ct 0, 1000, .inl g5)), (a 6, .inl (ct 1, 15, .inr (.inr (.inl f6)))), (a 7, .inl (ct 0, 400, .inl g7)), (a 8, .inl (ct 1, 6, .inr (.inr (.inl f8)))),
   (a 9, .inl (ct 3, 2, .inl g9)), (a 10, .inl (ct 2, 30, .inl g10)), (a 11, .inl (ct 0, 8, .inl g11))]
abbrev mG (ct : Nat → ClassId) (a : Nat → Nat) (K T : Int32) (g1 : Nat → Int32) (f2 : Nat → UInt32) (g3 : Nat → Int32) (f4 : Nat → UInt32) (g5 : Nat → Int32) (f6 : Nat → UInt32) (g7 : Nat → Int32) (f8 : Nat → UInt32) (g9 g10 g11 : Nat → Int32) : va_W :=
  [(a 0, .inr (6, [.ref (a 1), .ref (a 2), .ref (a 3), .ref (a 4), .ref (a 5), .ref (a 6), .int K, .ref (a 7), .ref (a 8), .ref (a 9), .int T, .ref (a 10), .ref (a 11)])), (a 1, .inl (ct 0, 200, .inl g1)), (a 2, .inl (ct 1, 3, .inr (.inr (.inl f2)))),
   (a 3, .inl (ct 0, 200, .inl g3)), (a 4, .inl (ct 1, 3, .inr (.inr (.inl f4)))), (a 5, .inl (ct 0, 1000, .inl g5)), (a 6, .inl (ct 1, 15, .inr (.inr (.inl f6)))), (a 7, .inl (ct 0, 400, .inl g7)), (a 8, .inl (ct 1, 6, .inr (.inr (.inl f8)))),
   (a 9, .inl (ct 3, 2, .inl g9)), (a 10, .inl (ct 2, 30, .inl g10)), (a 11, .inl (ct 0, 8, .inl g11))]
section MG
variable {D : va_G} {ct : Nat → ClassId} {a : Nat → Nat} {K T K' T' : Int32} {g1 g1' : Nat → Int32} {f2 f2' : Nat → UInt32} {g3 g3' : Nat → Int32} {f4 f4' : Nat → UInt32} {g5 g5' : Nat → Int32} {f6 f6' : Nat → UInt32} {g7 g7' : Nat → Int32} {f8 f8' : Nat → UInt32} {g9 g10 g11 g9' g10' g11' : Nat → Int32} {H : Heap} {A : Nat → Prop}
theorem mG_ext (hP : va_P D vwCl (mG ct a K T g1 f2 g3 f4 g5 f6 g7 f8 g9 g10 g11) H) (h1 : ∀ j, j < 200 → g1 j = g1' j) (h2 : ∀ j, j < 3 → f2 j = f2' j) (h3 : ∀ j, j < 200 → g3 j = g3' j) (h4 : ∀ j, j < 3 → f4 j = f4' j) (h5 : ∀ j, j < 1000 → g5 j = g5' j) (h6 : ∀ j, j < 15 → f6 j = f6' j) (h7 : ∀ j, j < 400 → g7 j = g7' j) (h8 : ∀ j, j < 6 → f8 j = f8' j) (h9 : ∀ j, j < 2 → g9 j = g9' j) (h10 : ∀ j, j < 30 → g10 j = g10' j) (h11 : ∀ j, j < 8 → g11 j = g11' j) :
    va_P D vwCl (mG ct a K T g1' f2' g3' f4' g5' f6' g7' f8' g9' g10' g11') H :=
  ceqs.P (ws := mG ct a K T g1 f2 g3 f4 g5 f6 g7 f8 g9 g10 g11) ⟨ceq.rf _, ceq.i h1, ceq.f h2, ceq.i h3, ceq.f h4, ceq.i h5, ceq.f h6, ceq.i h7, ceq.f h8, ceq.i h9, ceq.i h10, ceq.i h11, trivial⟩ hP
theorem mG_dn (hD : va_D A (mG ct a K T g1 f2 g3 f4 g5 f6 g7 f8 g9 g10 g11)) : va_D A (mG ct a K' T' g1' f2' g3' f4' g5' f6' g7' f8' g9' g10' g11') := dw_c hD rfl
theorem mG_pR {v : SV} : (mG ct a K T (rowOf v) f2 g3 f4 g5 f6 g7 f8 g9 g10 g11).Perm (mR ct (a 0) (a 1) (mTl a K T) v ++ ((a 2, .inl (ct 1, 3, .inr (.inr (.inl f2)))) :: mQ ct a g3 f4 g5 f6 g7 f8 g9 g10 g11)) := .refl _
theorem mG_pT {v : SV} : (mG ct a K T (rowOf v) v.2 g3 f4 g5 f6 g7 f8 g9 g10 g11).Perm (mT ct (a 0) (a 1) (a 2) (mTl2 a K T) v ++ mQ ct a g3 f4 g5 f6 g7 f8 g9 g10 g11) := .refl _
theorem mG_R {v : SV} (hP : va_P D vwCl (mG ct a K T (rowOf v) f2 g3 f4 g5 f6 g7 f8 g9 g10 g11) H) : va_P D vwCl (mR ct (a 0) (a 1) (mTl a K T) v) H := pw_cut mG_pR hP
theorem mG_RD {v : SV} (hD : va_D A (mG ct a K T (rowOf v) f2 g3 f4 g5 f6 g7 f8 g9 g10 g11)) : va_D A (mR ct (a 0) (a 1) (mTl a K T) v) := dw_cut mG_pR hD
theorem mG_T {v : SV} (hP : va_P D vwCl (mG ct a K T (rowOf v) v.2 g3 f4 g5 f6 g7 f8 g9 g10 g11) H) : va_P D vwCl (mT ct (a 0) (a 1) (a 2) (mTl2 a K T) v) H := pw_cut mG_pT hP
theorem mG_TD {v : SV} (hD : va_D A (mG ct a K T (rowOf v) v.2 g3 f4 g5 f6 g7 f8 g9 g10 g11)) : va_D A (mT ct (a 0) (a 1) (a 2) (mTl2 a K T) v) := dw_cut mG_pT hD
end MG
/-- copied so far: k places from o on -/
def mo {α : Type} (o : Nat) (f g : Nat → α) (k : Nat) : Nat → α := fun j => if o ≤ j ∧ j < o + k then f (j - o) else g j
theorem mo_0 {α : Type} (o : Nat) (f g : Nat → α) : mo o f g 0 = g := by funext j; unfold mo; rw [if_neg (by omega)]
theorem mo_s (o : Nat) (f g : Nat → Int32) (k : Nat) : upd (mo o f g k) (o + k) (f k) = mo o f g (k + 1) := by
  funext j
  unfold upd mo
  by_cases h : j = o + k
  · subst h; rw [if_pos rfl, if_pos (by omega), Nat.add_sub_cancel_left]
  · rw [if_neg h]
    by_cases h2 : o ≤ j ∧ j < o + k
    · rw [if_pos h2, if_pos (by omega)]
    · rw [if_neg h2, if_neg (by omega)]
theorem mo_sf (o : Nat) (f g : Nat → UInt32) (k : Nat) : vf_upd (mo o f g k) (o + k) (f k) = mo o f g (k + 1) := by
  funext j
  unfold vf_upd mo
  by_cases h : j = o + k
  · subst h; rw [if_pos rfl, if_pos (by omega), Nat.add_sub_cancel_left]
  · rw [if_neg h]
    by_cases h2 : o ≤ j ∧ j < o + k
    · rw [if_pos h2, if_pos (by omega)]
    · rw [if_neg h2, if_neg (by omega)]
theorem mo_in {α : Type} (f g : Nat → α) (k : Nat) {n : Nat} (hk : n ≤ k) : ∀ j, j < n → mo 0 f g k j = f j := fun j h => by unfold mo; rw [if_pos (by omega)]; rfl
theorem mo_s0 (f g : Nat → Int32) (k : Nat) : upd (mo 0 f g k) k (f k) = mo 0 f g (k + 1) := by
  have h := mo_s 0 f g k
  rw [Nat.zero_add] at h
  exact h
theorem mo_sf0 (f g : Nat → UInt32) (k : Nat) : vf_upd (mo 0 f g k) k (f k) = mo 0 f g (k + 1) := by
  have h := mo_sf 0 f g k
  rw [Nat.zero_add] at h
  exact h
theorem mo_ge {α : Type} (f g : Nat → α) (k j : Nat) (h : k ≤ j) : mo 0 f g k j = g j := by unfold mo; rw [if_neg (by omega)]
def hisI (w : Nat → SV) : Nat → Int32 := fun j => rowOf (w (j / 200)) (j % 200)
def hisF (w : Nat → SV) : Nat → UInt32 := fun j => (w (j / 3)).2 (j % 3)
theorem hisI_at (w : Nat → SV) {k j : Nat} (h : j < 200) : hisI w (200 * k + j) = rowOf (w k) j := by
  unfold hisI; rw [show (200 * k + j) / 200 = k by omega, show (200 * k + j) % 200 = j by omega]
theorem hisF_at (w : Nat → SV) {k j : Nat} (h : j < 3) : hisF w (3 * k + j) = (w k).2 j := by
  unfold hisF; rw [show (3 * k + j) / 3 = k by omega, show (3 * k + j) % 3 = j by omega]
theorem hisI_put (w : Nat → SV) (k : Nat) (s : SV) (j : Nat) : mo (200 * k) (rowOf s) (hisI w) 200 j = hisI (va_up w k s) j := by
  unfold mo hisI va_up
  by_cases h : 200 * k ≤ j ∧ j < 200 * k + 200
  · rw [if_pos h, if_pos (by omega), show j % 200 = j - 200 * k by omega]
  · rw [if_neg h, if_neg (by omega)]
theorem hisF_put (w : Nat → SV) (k : Nat) (s : SV) (j : Nat) : mo (3 * k) s.2 (hisF w) 3 j = hisF (va_up w k s) j := by
  unfold mo hisF va_up
  by_cases h : 3 * k ≤ j ∧ j < 3 * k + 3
  · rw [if_pos h, if_pos (by omega), show j % 3 = j - 3 * k by omega]
  · rw [if_neg h, if_neg (by omega)]
/-- the history without its oldest one -/
def hSh (w : Nat → SV) : Nat → SV := fun i => if i < 4 then w (i + 1) else w i
theorem hisI_sh (w : Nat → SV) (j : Nat) : mo 0 (fun i => hisI w (i + 200)) (hisI w) 800 j = hisI (hSh w) j := by
  unfold mo hisI hSh
  by_cases h : j < 800
  · rw [if_pos (by omega), if_pos (by omega)]
    show rowOf (w ((j - 0 + 200) / 200)) ((j - 0 + 200) % 200) = _
    rw [show (j - 0 + 200) / 200 = j / 200 + 1 by omega, show (j - 0 + 200) % 200 = j % 200 by omega]
  · rw [if_neg (by omega), if_neg (by omega)]
theorem hisF_sh (w : Nat → SV) (j : Nat) : mo 0 (fun i => hisF w (i + 3)) (hisF w) 12 j = hisF (hSh w) j := by
  unfold mo hisF hSh
  by_cases h : j < 12
  · rw [if_pos (by omega), if_pos (by omega)]
    show (w ((j - 0 + 3) / 3)).2 ((j - 0 + 3) % 3) = _
    rw [show (j - 0 + 3) / 3 = j / 3 + 1 by omega, show (j - 0 + 3) % 3 = j % 3 by omega]
  · rw [if_neg (by omega), if_neg (by omega)]
/-- the history behind one more state, and how many it has then -/
def hPush (w : Nat → SV) (k : Nat) (s : SV) : Nat → SV := if k = 5 then va_up (hSh w) 4 s else va_up w k s
def kPush (k : Nat) : Nat := if k = 5 then 5 else k + 1
theorem ix_k (a b k : Nat) (x : Int32) (h : x = nI a) : x * nI k + nI b = nI (a * k + b) := by rw [h, pk_mul, nI_add]
theorem ix_mk (a k : Nat) (x : Int32) (h : x = nI a) : x * nI k = nI (a * k) := by rw [h, pk_mul]
/-! the public calls of the model, on its whole world -/
abbrev mS (ct : Nat → ClassId) (a : Nat → Nat) (v u : SV) (w sl : Nat → SV) (k t : Nat) (ik tx rd : Nat → Int32) : va_W :=
  mG ct a (nI k) (nI t) (rowOf v) v.2 (rowOf u) u.2 (hisI w) (hisF w) (hisI sl) (hisF sl) ik tx rd
theorem vD_of {v : SV} (ok : Inv v) {d : Nat} (hd : d < nOf v) : vD v (nI d) := by
  have h8 := ok.n8
  rintro (h | h)
  · exact nI_pos (by omega) h
  · rw [ok.cnt] at h
    obtain ⟨m, hm⟩ : ∃ m, nOf v = m + 1 := ⟨nOf v - 1, by omega⟩
    rw [hm, nI_pred, nI_ltI (by omega) (by omega)] at h
    omega
theorem vD_to {v : SV} (ok : Inv v) {x : Int32} (h : vD v x) : ∃ d, d < nOf v ∧ x = nI d := by
  have h8 := ok.n8
  have h1 := ok.n1
  obtain ⟨d, hd, rfl⟩ := nI_of (fun q => h (Or.inl q))
  refine ⟨d, ?_, rfl⟩
  have h2 : ¬ v.1 0 0 - 1 < nI d := fun q => h (Or.inr q)
  rw [ok.cnt] at h2
  obtain ⟨m, hm⟩ : ∃ m, nOf v = m + 1 := ⟨nOf v - 1, by omega⟩
  rw [hm, nI_pred, nI_ltI (by omega) hd] at h2
  omega
/-- the number of digits set -/
def pNews (v : SV) (d : Nat) : Nat → SV
  | 0 => v
  | k + 1 => pNew (pNews v d k) (d + k)
def pCnt (v : SV) (n : Nat) : SV := let w := pNews v (nOf v) (n - nOf v); sC w 0 (upd (w.1 0) 0 (nI n))
def pSD (v : SV) (n : Nat) : SV := if nOf v = n then pCnt v n else pEnd (pCnt v n)
def pSW (v : SV) (d : Nat) (y : Int32) : SV := if v.1 (4 + d) 1 = y then s2 v (4 + d) 1 y else pEnd (s2 v (4 + d) 1 y)
theorem pNews_lo (v : SV) (d : Nat) {i : Nat} (h : i < 4) : ∀ k, (pNews v d k).1 i = v.1 i := by
  intro k
  induction k with
  | zero => rfl
  | succ k ih =>
    refine Eq.trans ?_ ih
    show (pNew (pNews v d k) (d + k)).1 i = _
    unfold pNew
    rw [sC_ne _ (by omega), sC_ne _ (by omega), sC_ne _ (by omega)]
theorem pNews_s (v : SV) (d k : Nat) : pNew (pNews v d k) (d + k) = pNews v d (k + 1) := by rw [pNews]
theorem pNews_z (v : SV) (d : Nat) : pNews v d 0 = v := by rw [pNews]
theorem pNews_f (v : SV) (d : Nat) : ∀ k, (pNews v d k).2 = v.2 := by
  intro k
  induction k with
  | zero => rfl
  | succ k ih => exact ih
theorem pSW_n (v : SV) (d : Nat) (y : Int32) : nOf (pSW v d y) = nOf v ∧ (pSW v d y).1 0 0 = v.1 0 0 := by
  have h : (pSW v d y).1 0 0 = v.1 0 0 := by
    unfold pSW
    split
    · rw [s2_at, if_neg (by omega)]
    · have e : (pEnd (s2 v (4 + d) 1 y)).1 0 0 = (s2 v (4 + d) 1 y).1 0 0 := rfl
      rw [e, s2_at, if_neg (by omega)]
  exact ⟨by unfold nOf; rw [h], h⟩
theorem pIn_ok {n a b : Nat} {lo hi : Int32} (h1 : lo = nI a) (h2 : hi = nI b) (ha : a ≤ n) (hb : n ≤ b) (hb2 : b < 2 ^ 31) : ¬ pIn (nI n) lo hi = 0 := by
  subst h1 h2
  intro h
  rcases pIn_0 h with q | q
  · rw [nI_ltI (by omega) (by omega)] at q; omega
  · rw [nI_ltI (by omega) (by omega)] at q; omega
theorem pCnt_row (v : SV) (n i : Nat) (h : i = n - nOf v) : upd (rowOf (pNews v (nOf v) i)) 0 (nI n) = rowOf (pCnt v n) := by
  subst h
  exact row_up0 _ (by decide) _
theorem mG_c2 {D : va_G} {ct : Nat → ClassId} {a : Nat → Nat} {K T : Int32} {g1 : Nat → Int32} {f2 f2' : Nat → UInt32} {g3 : Nat → Int32} {f4 : Nat → UInt32} {g5 : Nat → Int32} {f6 : Nat → UInt32} {g7 : Nat → Int32} {f8 : Nat → UInt32} {g9 g10 g11 : Nat → Int32} {H : Heap} (e : f2 = f2')
    (hP : va_P D vwCl (mG ct a K T g1 f2 g3 f4 g5 f6 g7 f8 g9 g10 g11) H) : va_P D vwCl (mG ct a K T g1 f2' g3 f4 g5 f6 g7 f8 g9 g10 g11) H := e ▸ hP
theorem pSW_f (v : SV) (d : Nat) (y : Int32) : v.2 = (pSW v d y).2 := by unfold pSW; split <;> rfl
theorem pSD_f (v : SV) (n : Nat) : v.2 = (pSD v n).2 := by
  have h : (pCnt v n).2 = v.2 := pNews_f v (nOf v) (n - nOf v)
  unfold pSD
  split
  · exact h.symm
  · exact h.symm
/-- many ticks -/
def pTks (v : SV) : Nat → SV
  | 0 => v
  | i + 1 => pTick (pTks v i)
def pTkN (v : SV) : Nat → Int32
  | 0 => 0
  | i + 1 => pTkN v i + pTickN (pTks v i)
theorem pTks_s (v : SV) (i : Nat) : pTick (pTks v i) = pTks v (i + 1) := by rw [pTks]
theorem pTks_z (v : SV) : v = pTks v 0 := by rw [pTks]
theorem pTkN_s (v : SV) (i : Nat) : pTkN v i + pTickN (pTks v i) = pTkN v (i + 1) := by rw [pTkN]
theorem Inv_tick {v : SV} (ok : Inv v) : Inv (pTick v) := inv_tick ok
theorem Inv_tks {v : SV} (ok : Inv v) : ∀ i, Inv (pTks v i) := by
  intro i
  induction i with
  | zero => exact ok
  | succ i ih => exact Inv_tick ih
/-- the ticks until so many frames have ended -/
def pfN (v : SV) (n : Nat) : Nat := n * (pLen v).toNatClampNeg - (v.1 0 3).toNatClampNeg
theorem fr_ge {v : SV} (ok : Inv v) {F n : Nat} (hF : v.1 0 2 = nI F) (hF2 : F < 2 ^ 30) (h1 : 1 ≤ n) (h2 : n ≤ 20) : ∀ i, i ≤ pfN v n → (nI (F + n) ≤ (pTks v i).1 0 2 ↔ pfN v n ≤ i) := by
  obtain ⟨t, L, e1, e2, h3, h4⟩ := ok.2.2.2.2.2.1
  have hq : pfN v n = n * L - t := by
    unfold pfN
    rw [e1, e2, nI_clamp (by omega), nI_clamp (by omega)]
  have hnL : n * L ≤ 20 * 320 := Nat.mul_le_mul h2 h4
  have key : ∀ i, (pTks v i).1 0 2 = nI (F + (t + i) / L) ∧ (pTks v i).1 0 3 = nI ((t + i) % L) ∧ pLen (pTks v i) = nI L := by
    intro i
    induction i with
    | zero =>
      refine ⟨?_, ?_, e2⟩
      · rw [Nat.add_zero, Nat.div_eq_of_lt h3, Nat.add_zero]; exact hF
      · rw [Nat.add_zero, Nat.mod_eq_of_lt h3]; exact e1
    | succ i ih =>
      obtain ⟨a1, a2, a3⟩ := ih
      obtain ⟨b1, b2, b3⟩ := tick_ft (Inv_tks ok i) a1 a2 a3 (Nat.mod_lt _ (by omega)) h4
      obtain ⟨c1, c2⟩ := div_next (x := t + i) (L := L) (by omega)
      rw [← pTks_s, show t + (i + 1) = t + i + 1 from rfl, c1, c2]
      refine ⟨?_, b2, b3⟩
      rw [b1]
      congr 1
      split <;> rfl
  intro i hi
  rw [hq] at hi
  rw [hq, (key i).1]
  have hd : (t + i) / L ≤ 20 := by
    refine Nat.le_trans (Nat.div_le_div_right (show t + i ≤ n * L by have := Nat.le_mul_of_pos_left L h1; omega)) ?_
    rw [Nat.mul_div_cancel _ (by omega)]
    exact h2
  rw [nI_leI (by omega) (by omega)]
  have h9 : n ≤ (t + i) / L ↔ n * L ≤ t + i := Nat.le_div_iff_mul_le (by omega)
  have := Nat.le_mul_of_pos_left L h1
  constructor
  · intro z
    have := h9.mp (by omega)
    omega
  · intro z
    have := h9.mpr (by omega)
    omega
theorem pTick_n (v : SV) : nOf (pTick v) = nOf v := by
  unfold pTick
  split
  · have e : nOf (pEnd (pTk3 v)) = nOf (pTk3 v) := rfl
    rw [e, pTk3_n]
  · exact pTk3_n v
theorem tks_n {v : SV} : ∀ i, nOf (pTks v i) = nOf v := by
  intro i
  induction i with
  | zero => rfl
  | succ i ih => exact (pTick_n (pTks v i)).trans ih
