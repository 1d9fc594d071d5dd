/-! what the reads answer -/
theorem pin1 {j lo hi : Nat} (h1 : lo ≤ j) (h2 : j ≤ hi) (hh : hi < 2 ^ 31) : ¬ pIn (nI j) (nI lo) (nI hi) = 0 := by
  intro h
  rcases pIn_0 h with q | q
  · exact nI_nlt h1 (by omega) q
  · exact nI_nlt h2 (by omega) q
theorem vD_n {v : SV} (ok : Inv v) : ¬ vD v (nI (nOf v)) := by
  intro h
  have h1 := ok.n1
  have h8 := ok.n8
  apply h
  right
  rw [ok.cnt, nI_dec (by omega)]
  exact nI_lt (by omega) (by omega)
theorem vD_m1 {v : SV} : ¬ vD v (-1) := fun h => h (Or.inl (by decide))
theorem vD_0 {v : SV} (ok : Inv v) : vD v 0 := vD_of ok (d := 0) (by have := ok.n1; omega)
section QV
variable {A : AS} {d j g : Nat} {x y : Int32}
theorem qc_0 : (f_count A 0).1 = (aV A).1 0 1 := rfl
theorem qc_1 (ok : Inv (aV A)) : (f_count A 1).1 = nI (nOf (aV A)) := ok.cnt
theorem qc_2 : (f_count A 2).1 = pLen (aV A) := rfl
theorem qc_3 : (f_count A 3).1 = (aV A).1 0 2 := rfl
theorem qc_4 : (f_count A 4).1 = (aV A).1 0 3 := rfl
theorem qc_5 : (f_count A 5).1 = nI (pSlot (aV A)) := rfl
theorem qc_6 : (f_count A 6).1 = (aV A).1 0 4 := rfl
theorem qc_7 : (f_count A 7).1 = (aV A).1 0 5 := rfl
theorem qc_8 : (f_count A 8).1 = pBroS (aV A) (nOf (aV A)) := rfl
theorem qc_9 : (f_count A 9).1 = (aV A).1 3 0 := rfl
theorem qc_10 : (f_count A 10).1 = (aV A).1 3 1 := rfl
theorem qc_11 : (f_count A 11).1 = (aV A).1 3 2 := rfl
theorem qc_14 : (f_count A 14).1 = -2 := rfl
theorem qd (ok : Inv (aV A)) (hd : d < nOf (aV A)) (x : Int32) : (f_digit A (nI d) x).1 = pDgt (aV A) d x := by
  have h8 := ok.n8
  show (if vD (aV A) (nI d) then pDgt (aV A) (cl (nI d)) x else -1) = _
  rw [if_pos (vD_of ok hd), cl_of (by omega) rfl]
theorem qd_0 (ok : Inv (aV A)) (hd : d < nOf (aV A)) : (f_digit A (nI d) 0).1 = (aV A).1 (4 + d) 0 := qd ok hd 0
theorem qd_1 (ok : Inv (aV A)) (hd : d < nOf (aV A)) : (f_digit A (nI d) 1).1 = (aV A).1 (4 + d) 1 := qd ok hd 1
theorem qd_2 (ok : Inv (aV A)) (hd : d < nOf (aV A)) : (f_digit A (nI d) 2).1 = (aV A).1 (4 + d) 2 := qd ok hd 2
theorem qd_3 (ok : Inv (aV A)) (hd : d < nOf (aV A)) : (f_digit A (nI d) 3).1 = (aV A).1 (4 + d) 3 := qd ok hd 3
theorem qd_4 (ok : Inv (aV A)) (hd : d < nOf (aV A)) : (f_digit A (nI d) 4).1 = (aV A).1 (4 + d) 4 := qd ok hd 4
theorem qd_5 (ok : Inv (aV A)) (hd : d < nOf (aV A)) : (f_digit A (nI d) 5).1 = pLP (aV A) d := qd ok hd 5
theorem qd_6 (ok : Inv (aV A)) (hd : d < nOf (aV A)) : (f_digit A (nI d) 6).1 = pBeg (aV A) d := qd ok hd 6
theorem qd_7 (ok : Inv (aV A)) (hd : d < nOf (aV A)) : (f_digit A (nI d) 7).1 = pSeen ((aV A).1 (12 + d)) ((aV A).1 3 1) 8 := qd ok hd 7
theorem qd_8 (ok : Inv (aV A)) (hd : d < nOf (aV A)) : (f_digit A (nI d) 8).1 = (aV A).1 (4 + d) 6 := qd ok hd 8
theorem qd_9 (ok : Inv (aV A)) (hd : d < nOf (aV A)) : (f_digit A (nI d) 9).1 = pSum ((aV A).1 (12 + d)) 8 := qd ok hd 9
theorem qd_10 (ok : Inv (aV A)) (hd : d < nOf (aV A)) : (f_digit A (nI d) 10).1 = pChr ((aV A).1 (4 + d) 0 &&& 127) := qd ok hd 10
theorem qd_11 (ok : Inv (aV A)) (hd : d < nOf (aV A)) : (f_digit A (nI d) 11).1 = (aV A).1 (4 + d) 5 := qd ok hd 11
theorem qd_12 (ok : Inv (aV A)) (hd : d < nOf (aV A)) : (f_digit A (nI d) 12).1 = -2 := qd ok hd 12
theorem qd_n (ok : Inv (aV A)) (x : Int32) : (f_digit A (nI (nOf (aV A))) x).1 = -1 := if_neg (vD_n ok)
theorem qs (ok : Inv (aV A)) (hd : d < nOf (aV A)) (hj : j < 8) (x : Int32) : (f_segment A (nI d) (nI j) x).1 = pSgm (aV A) d j x := by
  have h8 := ok.n8
  show (if vD (aV A) (nI d) then (if pIn (nI j) 0 7 = 0 then -1 else pSgm (aV A) (cl (nI d)) (cl (nI j)) x) else -1) = _
  rw [if_pos (vD_of ok hd), if_neg (show ¬ pIn (nI j) 0 7 = 0 from pin1 (lo := 0) (hi := 7) (by omega) (by omega) (by decide)), cl_of (by omega) rfl, cl_of (by omega) rfl]
theorem qs_0 (ok : Inv (aV A)) (hd : d < nOf (aV A)) (hj : j < 8) : (f_segment A (nI d) (nI j) 0).1 = (aV A).1 (12 + d) j := qs ok hd hj 0
theorem qs_1 (ok : Inv (aV A)) (hd : d < nOf (aV A)) (hj : j < 8) : (f_segment A (nI d) (nI j) 1).1 = (aV A).1 (20 + d) j := qs ok hd hj 1
theorem qs_2 (ok : Inv (aV A)) (hd : d < nOf (aV A)) (hj : j < 8) : (f_segment A (nI d) (nI j) 2).1 = bit ((aV A).1 (4 + d) 6) j := qs ok hd hj 2
theorem qs_3 (ok : Inv (aV A)) (hd : d < nOf (aV A)) (hj : j < 8) : (f_segment A (nI d) (nI j) 3).1 = bit (pSeen ((aV A).1 (12 + d)) ((aV A).1 3 1) 8) j := qs ok hd hj 3
theorem qs_4 (ok : Inv (aV A)) (hd : d < nOf (aV A)) (hj : j < 8) : (f_segment A (nI d) (nI j) 4).1 = -2 := qs ok hd hj 4
theorem qs_8 (ok : Inv (aV A)) (hd : d < nOf (aV A)) (x : Int32 := 0) : (f_segment A (nI d) 8 x).1 = -1 := by
  show (if vD (aV A) (nI d) then (if pIn 8 0 7 = 0 then -1 else _) else -1) = _
  rw [if_pos (vD_of ok hd)]
  exact if_pos (by decide)
theorem qg (hg : g < 4) (x : Int32) : (f_group A (nI g) x).1 = pGrp (aV A) g x := by
  show (if pIn (nI g) 0 3 = 0 then -1 else pGrp (aV A) (cl (nI g)) x) = _
  rw [if_neg (show ¬ pIn (nI g) 0 3 = 0 from pin1 (lo := 0) (hi := 3) (by omega) (by omega) (by decide)), cl_of (by omega) rfl]
theorem qg_0 (hg : g < 4) : (f_group A (nI g) 0).1 = (aV A).1 1 g := qg hg 0
theorem qg_1 (hg : g < 4) : (f_group A (nI g) 1).1 = (aV A).1 2 g := qg hg 1
theorem qg_2 (hg : g < 4) : (f_group A (nI g) 2).1 = (if pOn (aV A) g then 1 else 0) := qg hg 2
theorem qg_3 (hg : g < 4) : (f_group A (nI g) 3).1 = pDin (aV A) (nI g) (nOf (aV A)) := qg hg 3
theorem qg_4 (hg : g < 4) : (f_group A (nI g) 4).1 = -2 := qg hg 4
theorem ql (ok : Inv (aV A)) (hd : d < nOf (aV A)) (hj : j ≤ 500) : (f_litIn A (nI d) (nI j)).1 = pLit (pTks (aV A) j) d := by
  have h8 := ok.n8
  show (if vD (aV A) (nI d) then (if pIn (nI j) 0 500 = 0 then -2 else pLit (pTks (aV A) (cl (nI j))) (cl (nI d))) else -1) = _
  rw [if_pos (vD_of ok hd), if_neg (show ¬ pIn (nI j) 0 500 = 0 from pin1 (lo := 0) (hi := 500) (by omega) (by omega) (by decide)), cl_of (by omega) rfl, cl_of (by omega) rfl]
theorem ql_bad (ok : Inv (aV A)) (hd : d < nOf (aV A)) (hx : pIn x 0 500 = 0) : (f_litIn A (nI d) x).1 = -2 := by
  show (if vD (aV A) (nI d) then (if pIn x 0 500 = 0 then -2 else _) else -1) = _
  rw [if_pos (vD_of ok hd), if_pos hx]
theorem qst (ok : Inv (aV A)) (hd : d < nOf (aV A)) : (f_steadyGlow A (nI d)).1 = stdG (aV A) d := by
  have h8 := ok.n8
  show (if vD (aV A) (nI d) then stdG (aV A) (cl (nI d)) else -1) = _
  rw [if_pos (vD_of ok hd), cl_of (by omega) rfl]
end QV
/-! bits of small numbers -/
theorem bit_N : ∀ b, b < 256 → ∀ k, k < 8 → bit (nI b) k = nI (b / 2 ^ k % 2) := by decide +kernel
theorem pBro_rest : ∀ b, b < 256 → ∀ k, k ≤ 8 → b / 2 ^ k = 0 → pBro (nI b) k = pBro (nI b) 8 := by decide +kernel
def pOut (x : Int32) : Nat → Int32
  | 0 => 0
  | k + 1 => pOut x k ||| bit x k <<< (nI k &&& 31)
theorem pOut_8 : ∀ b, b < 256 → pOut (nI b) 8 = nI b := by decide +kernel
theorem pOut_rg {x : Int32} (h : rg x 0 255) : pOut x 8 = x := by
  obtain ⟨k, -, h2, rfl⟩ := h
  exact pOut_8 k (by omega)
theorem bit_or : ∀ x, x < 256 → ∀ i, i < 8 → ∀ k, k < 8 → bit (nI x ||| (1 : Int32) <<< (nI i &&& 31)) k = if k = i then 1 else bit (nI x) k := by decide +kernel
theorem bit_z : ∀ k, k < 8 → bit 0 k = 0 := by decide +kernel
/-- which bits are seen -/
theorem pSeen_bit (f : Nat → Int32) (th : Int32) : ∀ K, K ≤ 8 → ∃ x, x < 256 ∧ pSeen f th K = nI x ∧ ∀ k, k < 8 → bit (nI x) k = if k < K then (if f k < th then 0 else 1) else 0 := by
  intro K
  induction K with
  | zero => intro _; exact ⟨0, by omega, rfl, fun k hk => by rw [if_neg (by omega)]; exact bit_z k hk⟩
  | succ K ih =>
    intro hK
    obtain ⟨x, h1, h2, h3⟩ := ih (by omega)
    show ∃ y, y < 256 ∧ pSeen f th K ||| (if f K < th then 0 else (1 : Int32) <<< (nI K &&& 31)) = nI y ∧ _
    by_cases q : f K < th
    · refine ⟨x, h1, ?_, fun k hk => ?_⟩
      · rw [if_pos q, h2]; exact Int32.or_zero
      · rw [h3 k hk]
        by_cases z : k = K
        · subst z; rw [if_neg (show ¬ k < k by omega), if_pos (show k < k + 1 by omega), if_pos q]
        · by_cases z2 : k < K
          · rw [if_pos z2, if_pos (show k < K + 1 by omega)]
          · rw [if_neg z2, if_neg (show ¬ k < K + 1 by omega)]
    · obtain ⟨e1, e2⟩ := or_k x h1 K (by omega)
      refine ⟨x ||| 2 ^ K, e2, ?_, fun k hk => ?_⟩
      · rw [if_neg q, h2]; exact e1
      · rw [← e1, bit_or x h1 K (by omega) k hk]
        by_cases z : k = K
        · subst z; rw [if_pos rfl, if_pos (show k < k + 1 by omega), if_neg q]
        · rw [if_neg z, h3 k hk]
          by_cases z2 : k < K
          · rw [if_pos z2, if_pos (show k < K + 1 by omega)]
          · rw [if_neg z2, if_neg (show ¬ k < K + 1 by omega)]
theorem seen_bit (f : Nat → Int32) (th : Int32) {k : Nat} (hk : k < 8) : bit (pSeen f th 8) k = if f k < th then 0 else 1 := by
  obtain ⟨x, h1, h2, h3⟩ := pSeen_bit f th 8 (Nat.le_refl 8)
  rw [h2, h3 k hk, if_pos hk]
/-! the law's small methods -/
def pLow (x n : Int32) : Int32 := (x &&& 2147483647) - (x &&& 2147483647) / n * n
theorem pLow_N (x : Int32) {n : Nat} (h0 : 0 < n) (hn : n < 2 ^ 31) : ∃ k, k < n ∧ pLow x (nI n) = nI k := by
  obtain ⟨j, hj, e⟩ := pk_andE x (m := 2147483647) 31 (by decide)
  refine ⟨j % n, Nat.mod_lt _ h0, ?_⟩
  unfold pLow
  rw [e]
  exact pk_rem hj h0 hn
def pCell (xs : Nat → Int32) (L k : Nat) : Int32 := if k < L then xs k else 8770009 * nI k + 7307
