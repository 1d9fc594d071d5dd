theorem sw_of {x : Int32} {k : Int32} {n : Int} (hk : k.toInt = n) (h : x.toInt = n) : x = k := Int32.toInt_inj.mp (by rw [h, hk])
theorem sw_cases_0_3 {x : Int32} (h : ¬ ((x).toInt < 0 ∨ 3 < (x).toInt)) : x = 0 ∨ x = 1 ∨ x = 2 ∨ x = 3 := by
  rcases (show x.toInt = 0 ∨ x.toInt = 1 ∨ x.toInt = 2 ∨ x.toInt = 3 by omega) with q | q | q | q
  · exact Or.inl (sw_of (by decide) q)
  · exact Or.inr (Or.inl (sw_of (by decide) q))
  · exact Or.inr (Or.inr (Or.inl (sw_of (by decide) q)))
  · exact Or.inr (Or.inr (Or.inr (sw_of (by decide) q)))
theorem sw_cases_0_11 {x : Int32} (h : ¬ ((x).toInt < 0 ∨ 11 < (x).toInt)) : x = 0 ∨ x = 1 ∨ x = 2 ∨ x = 3 ∨ x = 4 ∨ x = 5 ∨ x = 6 ∨ x = 7 ∨ x = 8 ∨ x = 9 ∨ x = 10 ∨ x = 11 := by
  rcases (show x.toInt = 0 ∨ x.toInt = 1 ∨ x.toInt = 2 ∨ x.toInt = 3 ∨ x.toInt = 4 ∨ x.toInt = 5 ∨ x.toInt = 6 ∨ x.toInt = 7 ∨ x.toInt = 8 ∨ x.toInt = 9 ∨ x.toInt = 10 ∨ x.toInt = 11 by omega) with q | q | q | q | q | q | q | q | q | q | q | q
  all_goals (first | exact Or.inl (sw_of (by decide) q) | skip)
  all_goals (first | exact Or.inr (Or.inl (sw_of (by decide) q)) | skip)
  all_goals (first | exact Or.inr (Or.inr (Or.inl (sw_of (by decide) q))) | skip)
  all_goals (first | exact Or.inr (Or.inr (Or.inr (Or.inl (sw_of (by decide) q)))) | skip)
  all_goals (first | exact Or.inr (Or.inr (Or.inr (Or.inr (Or.inl (sw_of (by decide) q))))) | skip)
  all_goals (first | exact Or.inr (Or.inr (Or.inr (Or.inr (Or.inr (Or.inl (sw_of (by decide) q)))))) | skip)
  all_goals (first | exact Or.inr (Or.inr (Or.inr (Or.inr (Or.inr (Or.inr (Or.inl (sw_of (by decide) q))))))) | skip)
  all_goals (first | exact Or.inr (Or.inr (Or.inr (Or.inr (Or.inr (Or.inr (Or.inr (Or.inl (sw_of (by decide) q)))))))) | skip)
  all_goals (first | exact Or.inr (Or.inr (Or.inr (Or.inr (Or.inr (Or.inr (Or.inr (Or.inr (Or.inl (sw_of (by decide) q))))))))) | skip)
  all_goals (first | exact Or.inr (Or.inr (Or.inr (Or.inr (Or.inr (Or.inr (Or.inr (Or.inr (Or.inr (Or.inl (sw_of (by decide) q)))))))))) | skip)
  all_goals (first | exact Or.inr (Or.inr (Or.inr (Or.inr (Or.inr (Or.inr (Or.inr (Or.inr (Or.inr (Or.inr (Or.inl (sw_of (by decide) q))))))))))) | skip)
  all_goals exact Or.inr (Or.inr (Or.inr (Or.inr (Or.inr (Or.inr (Or.inr (Or.inr (Or.inr (Or.inr (Or.inr (sw_of (by decide) q)))))))))))
theorem sw_cases_0_13 {x : Int32} (h : ¬ ((x).toInt < 0 ∨ 13 < (x).toInt)) : x = 0 ∨ x = 1 ∨ x = 2 ∨ x = 3 ∨ x = 4 ∨ x = 5 ∨ x = 6 ∨ x = 7 ∨ x = 8 ∨ x = 9 ∨ x = 10 ∨ x = 11 ∨ x = 12 ∨ x = 13 := by
  by_cases h2 : x.toInt < 0 ∨ 11 < x.toInt
  · rcases (show x.toInt = 12 ∨ x.toInt = 13 by omega) with q | q
    · have e := sw_of (k := 12) (by decide) q
      subst e; decide
    · have e := sw_of (k := 13) (by decide) q
      subst e; decide
  · rcases sw_cases_0_11 h2 with e | e | e | e | e | e | e | e | e | e | e | e <;> (subst e; decide)
def pDgt (v : SV) (d : Nat) (x : Int32) : Int32 :=
  if x = 0 then v.1 (4 + d) 0 else if x = 1 then v.1 (4 + d) 1 else if x = 2 then v.1 (4 + d) 2 else if x = 3 then v.1 (4 + d) 3 else if x = 4 then v.1 (4 + d) 4 else
  if x = 5 then pLP v d else if x = 6 then pBeg v d else if x = 7 then pSeen (v.1 (12 + d)) (v.1 3 1) 8 else if x = 8 then v.1 (4 + d) 6 else if x = 9 then pSum (v.1 (12 + d)) 8 else
  if x = 10 then pChr (v.1 (4 + d) 0 &&& 127) else if x = 11 then v.1 (4 + d) 5 else -2
theorem pDgt_out {v : SV} {d : Nat} {x : Int32} (h : (x).toInt < 0 ∨ 11 < (x).toInt) : -2 = pDgt v d x := by
  have k : ∀ y : Int32, ¬ (y.toInt < 0 ∨ 11 < y.toInt) → ¬ x = y := fun y hy e => hy (e ▸ h)
  unfold pDgt
  rw [if_neg (k 0 (by decide)), if_neg (k 1 (by decide)), if_neg (k 2 (by decide)), if_neg (k 3 (by decide)), if_neg (k 4 (by decide)), if_neg (k 5 (by decide)), if_neg (k 6 (by decide)), if_neg (k 7 (by decide)), if_neg (k 8 (by decide)), if_neg (k 9 (by decide)), if_neg (k 10 (by decide)), if_neg (k 11 (by decide))]
def pSgm (v : SV) (d j : Nat) (x : Int32) : Int32 :=
  if x = 0 then v.1 (12 + d) j else if x = 1 then v.1 (20 + d) j else if x = 2 then bit (v.1 (4 + d) 6) j else if x = 3 then bit (pSeen (v.1 (12 + d)) (v.1 3 1) 8) j else -2
theorem pSgm_out {v : SV} {d j : Nat} {x : Int32} (h : (x).toInt < 0 ∨ 3 < (x).toInt) : -2 = pSgm v d j x := by
  have k : ∀ y : Int32, ¬ (y.toInt < 0 ∨ 3 < y.toInt) → ¬ x = y := fun y hy e => hy (e ▸ h)
  unfold pSgm
  rw [if_neg (k 0 (by decide)), if_neg (k 1 (by decide)), if_neg (k 2 (by decide)), if_neg (k 3 (by decide))]
def pCou (v : SV) (k t : Nat) (x : Int32) : Int32 :=
  if x = 0 then v.1 0 1 else if x = 1 then v.1 0 0 else if x = 2 then pLen v else if x = 3 then v.1 0 2 else if x = 4 then v.1 0 3 else if x = 5 then nI (pSlot v) else if x = 6 then v.1 0 4 else if x = 7 then v.1 0 5 else
  if x = 8 then pBroS v (nOf v) else if x = 9 then v.1 3 0 else if x = 10 then v.1 3 1 else if x = 11 then v.1 3 2 else if x = 12 then nI k else if x = 13 then nI t else -2
theorem pCou_out {v : SV} {n t : Nat} {x : Int32} (h : (x).toInt < 0 ∨ 13 < (x).toInt) : -2 = pCou v n t x := by
  have k : ∀ y : Int32, ¬ (y.toInt < 0 ∨ 13 < y.toInt) → ¬ x = y := fun y hy e => hy (e ▸ h)
  unfold pCou
  rw [if_neg (k 0 (by decide)), if_neg (k 1 (by decide)), if_neg (k 2 (by decide)), if_neg (k 3 (by decide)), if_neg (k 4 (by decide)), if_neg (k 5 (by decide)), if_neg (k 6 (by decide)), if_neg (k 7 (by decide)), if_neg (k 8 (by decide)), if_neg (k 9 (by decide)), if_neg (k 10 (by decide)), if_neg (k 11 (by decide)), if_neg (k 12 (by decide)), if_neg (k 13 (by decide))]
def pGrp (v : SV) (g : Nat) (x : Int32) : Int32 :=
  if x = 0 then v.1 1 g else if x = 1 then v.1 2 g else if x = 2 then (if pOn v g then 1 else 0) else if x = 3 then pDin v (nI g) (nOf v) else -2
theorem pGrp_out {v : SV} {g : Nat} {x : Int32} (h : (x).toInt < 0 ∨ 3 < (x).toInt) : -2 = pGrp v g x := by
  have k : ∀ y : Int32, ¬ (y.toInt < 0 ∨ 3 < y.toInt) → ¬ x = y := fun y hy e => hy (e ▸ h)
  unfold pGrp
  rw [if_neg (k 0 (by decide)), if_neg (k 1 (by decide)), if_neg (k 2 (by decide)), if_neg (k 3 (by decide))]
theorem fl_th {φ : Nat → UInt32} (h : FI φ) {j : Nat} (hj : j < 3) : vf_n32 (FP.fmul (φ j) 1148846080) :=
  match j, hj with
  | 0, _ => ff_th h.1.1.ne_nan
  | 1, _ => ff_th h.2.1.1.ne_nan
  | 2, _ => ff_th h.2.2
