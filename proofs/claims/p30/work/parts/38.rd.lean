theorem sw_cases_0_2 {x : Int32} (h : ¬ ((x).toInt < 0 ∨ 2 < (x).toInt)) : x = 0 ∨ x = 1 ∨ x = 2 := by
  rcases (show x.toInt = 0 ∨ x.toInt = 1 ∨ x.toInt = 2 by omega) with q | q | q
  · exact Or.inl (sw_of (by decide) q)
  · exact Or.inr (Or.inl (sw_of (by decide) q))
  · exact Or.inr (Or.inr (sw_of (by decide) q))
def pFl (v : SV) (x : Int32) : UInt32 := if x = 0 then v.2 0 else if x = 1 then v.2 1 else if x = 2 then v.2 2 else FP.fconst0
theorem pFl_in (v : SV) {j : Nat} (hj : j < 3) : pFl v (nI j) = v.2 j := match j, hj with | 0, _ => rfl | 1, _ => rfl | 2, _ => rfl
theorem pFl_out {v : SV} {x : Int32} (h : (x).toInt < 0 ∨ 2 < (x).toInt) : FP.fconst0 = pFl v x := by
  have k : ∀ y : Int32, ¬ (y.toInt < 0 ∨ 2 < y.toInt) → ¬ x = y := fun y hy e => hy (e ▸ h)
  unfold pFl
  rw [if_neg (k 0 (by decide)), if_neg (k 1 (by decide)), if_neg (k 2 (by decide))]
theorem and_k : ∀ k, k < 256 → nI k &&& (-129) = nI k &&& 127 ∧ ¬ (nI k &&& 127) = -4 := by decide +kernel
theorem and_m129 {x : Int32} (h : rg x 0 255) : x &&& (-129) = x &&& 127 := by
  obtain ⟨k, -, h2, e⟩ := h
  rw [e]
  exact (and_k k (by omega)).1
theorem and_ne4 {x : Int32} (h : rg x 0 255) : (x &&& 127) ≠ -4 := by
  obtain ⟨k, -, h2, e⟩ := h
  rw [e]
  exact (and_k k (by omega)).2
theorem pLit_no {v : SV} {d : Nat} (h : ¬ pSlot v = d) : 0 = pLit v d := (if_neg (fun z => h z.1)).symm
/-- the parameters of the steady glow -/
theorem st_par {v : SV} (ok : Inv v) {d : Nat} (hd : d < nOf v) : ∃ L M q : Nat, pLP v d = nI L ∧ pLen v - pLP v d = nI M ∧ v.1 3 0 = nI q ∧ L < 2 ^ 30 ∧ M < 2 ^ 30 ∧ 0 < q ∧ q < 2 ^ 31 := by
  obtain ⟨⟨wd, w1, w2, e1⟩, ⟨g, g1, g2, e2⟩, ⟨b, b1, b2, e3⟩, -⟩ := ok.dg hd
  obtain ⟨t, Ln, -, e5, -, h5⟩ := ok.2.2.2.2.2.1
  obtain ⟨q, q1, q2, e6⟩ := ok.2.2.2.2.1
  have eL : pLP v d = nI ((wd - g) * b / 15) := by
    unfold pLP
    rw [e1, e2, e3, pk_sub (by omega), pk_mul, show (15 : Int32) = nI 15 from rfl, pk_div (Nat.lt_of_le_of_lt (Nat.mul_le_mul (show wd - g ≤ 40 by omega) b2) (by decide)) (by decide) (by decide)]
  have hL : (wd - g) * b / 15 ≤ wd := by
    have h := Nat.mul_le_mul (show wd - g ≤ wd by omega) b2
    omega
  obtain ⟨L', e7, l1, l2, l3⟩ := pBeg_rg (v := v) (nOf v) ok.n8 (fun d h => (ok.dg h).1)
  have h8 := ok.n8
  have hw := l3 d wd hd e1 (by omega)
  have e8 : pLen v = nI L' := e7
  refine ⟨(wd - g) * b / 15, L' - (wd - g) * b / 15, q, eL, ?_, e6, by omega, by omega, by omega, by omega⟩
  rw [eL, e8, pk_sub (by omega)]
