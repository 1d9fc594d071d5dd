def InvS (w : SV) : Prop := rg (w.1 0 0) 1 8 ∧
  (∀ d, d < nOf w → rg (w.1 (4 + d) 1) 4 40 ∧ rg (w.1 (4 + d) 2) 0 3 ∧ rg (w.1 (4 + d) 3) 0 15 ∧ rg (w.1 (4 + d) 4) 0 3 ∧ rg (w.1 (4 + d) 0) 0 255 ∧ rg (w.1 (4 + d) 6) 0 255) ∧
  (∀ g, 0 < g → g < 4 → rg (w.1 1 g) 1 50 ∧ rg (w.1 2 g) 0 50) ∧ (w.1 1 0 = 0 ∧ w.1 2 0 = 0) ∧ rg (w.1 3 0) 2 50 ∧ rg (w.1 0 4) 0 50 ∧ FI w.2
section INV
variable {v w : SV} {d N : Nat} {y z : Int32}
theorem Inv.S (ok : Inv v) : InvS v := ⟨ok.1, ok.2.1, ok.2.2.1, ok.2.2.2.1, ok.2.2.2.2.1, ok.2.2.2.2.2.2.1, ok.2.2.2.2.2.2.2⟩
theorem InvS.n (h : InvS w) : 1 ≤ nOf w ∧ nOf w ≤ 8 ∧ w.1 0 0 = nI (nOf w) := by
  obtain ⟨⟨k, a, b, e⟩, -⟩ := h
  have e2 : nOf w = k := by unfold nOf; rw [e]; exact nI_clamp (by omega)
  rw [e2]
  exact ⟨a, b, e⟩
theorem InvS.mk (h : InvS w) {t : Nat} (ht : w.1 0 3 = nI t) (hL : ∀ L, pLen w = nI L → 4 ≤ L → L ≤ 320 → t < L) : Inv w := by
  obtain ⟨n1, n8, e⟩ := h.n
  exact Inv_mk e n1 n8 h.2.1 h.2.2.1 h.2.2.2.1 h.2.2.2.2.1 ht hL h.2.2.2.2.2.1 h.2.2.2.2.2.2
theorem inv_end (h : InvS w) : Inv (pEnd w) := by
  obtain ⟨q0, -, q3, q4⟩ := pEnd_0 w
  obtain ⟨-, hd, hg, hz, hdec, h4, hf⟩ := id h
  obtain ⟨n1, n8, e⟩ := h.n
  refine Inv_mk (n := nOf w) (t := 0) (q0.trans e) n1 n8 (fun d h => ?_) ?_ ?_ ?_ q3 (fun L' _ h5 _ => by omega) ?_ hf
  · rw [pEnd_at (by omega)]; exact hd d h
  · rw [pEnd_at (by decide), pEnd_at (by decide)]; exact hg
  · rw [pEnd_at (by decide), pEnd_at (by decide)]; exact hz
  · rw [pEnd_at (by decide)]; exact hdec
  · rw [q4]; exact rg_dec h4
theorem rg_s2 {i j i' j' lo hi : Nat} (h : rg (v.1 i' j') lo hi) (hy : i' = i → j' = j → rg y lo hi) : rg ((s2 v i j y).1 i' j') lo hi := by
  rw [s2_at]
  split
  · rename_i q; exact hy q.1 q.2
  · exact h
/-- a field of a digit -/
theorem InvS.fd (h : InvS v) (j : Nat) (hj : (j = 1 → rg y 4 40) ∧ (j = 2 → rg y 0 3) ∧ (j = 3 → rg y 0 15) ∧ (j = 4 → rg y 0 3) ∧ (j = 0 → rg y 0 255) ∧ (j = 6 → rg y 0 255)) : InvS (s2 v (4 + d) j y) := by
  obtain ⟨h0, hd, hg, hz, hdec, h4, hf⟩ := h
  obtain ⟨j1, j2, j3, j4, j0, j6⟩ := hj
  refine ⟨?_, fun d' h' => ?_, fun g g0 g4 => ?_, ?_, ?_, ?_, hf⟩
  · exact rg_s2 h0 (fun e => absurd e (by omega))
  · rw [s2_n v (by omega)] at h'
    obtain ⟨a1, a2, a3, a4, a5, a6⟩ := hd d' h'
    exact ⟨rg_s2 a1 (fun _ e => j1 e.symm), rg_s2 a2 (fun _ e => j2 e.symm), rg_s2 a3 (fun _ e => j3 e.symm), rg_s2 a4 (fun _ e => j4 e.symm), rg_s2 a5 (fun _ e => j0 e.symm), rg_s2 a6 (fun _ e => j6 e.symm)⟩
  · exact ⟨rg_s2 (hg g g0 g4).1 (fun e => absurd e (by omega)), rg_s2 (hg g g0 g4).2 (fun e => absurd e (by omega))⟩
  · rw [s2_at, if_neg (by omega), s2_at, if_neg (by omega)]; exact hz
  · exact rg_s2 hdec (fun e => absurd e (by omega))
  · exact rg_s2 h4 (fun e => absurd e (by omega))
theorem inv_keep (ok : Inv v) (h : InvS w) (h0 : w.1 0 3 = v.1 0 3) (hl : pLen w = pLen v) : Inv w := by
  obtain ⟨t, L, e1, e2, h1, h2⟩ := ok.2.2.2.2.2.1
  refine h.mk (h0.trans e1) (fun L' e' _ _ => ?_)
  rw [hl, e2] at e'
  have := (nI_eq (by omega) (by omega)).mp e'
  omega
theorem inv_fd (ok : Inv v) (j : Nat) (hj1 : j ≠ 1) (hj : (j = 2 → rg y 0 3) ∧ (j = 3 → rg y 0 15) ∧ (j = 4 → rg y 0 3) ∧ (j = 0 → rg y 0 255) ∧ (j = 6 → rg y 0 255)) : Inv (s2 v (4 + d) j y) := by
  refine inv_keep ok (ok.S.fd j ⟨fun e => absurd e hj1, hj⟩) ?_ ?_
  · rw [s2_at, if_neg (by omega)]
  · unfold pLen
    rw [s2_n v (by omega)]
    exact pBeg_congr _ (fun d' _ => by rw [s2_at, if_neg (fun z => hj1 z.2.symm)])
theorem inv_sW (ok : Inv v) (hy : rg y 4 40) : Inv (pSW v d y) := by
  have h : InvS (s2 v (4 + d) 1 y) := ok.S.fd 1 ⟨fun _ => hy, fun e => absurd e (by decide), fun e => absurd e (by decide), fun e => absurd e (by decide), fun e => absurd e (by decide), fun e => absurd e (by decide)⟩
  unfold pSW
  split
  · rename_i q
    refine inv_keep ok h ?_ ?_
    · rw [s2_at, if_neg (by omega)]
    · unfold pLen
      rw [s2_n v (by omega)]
      refine pBeg_congr _ (fun d' _ => ?_)
      rw [s2_at]
      split
      · rename_i z
        rw [← q]
        obtain ⟨z1, -⟩ := z
        rw [z1]
      · rfl
  · exact inv_end h
theorem pNews_at (v : SV) (m : Nat) : ∀ k, m + k ≤ 8 → ∀ d, d < 8 → (pNews v m k).1 (4 + d) = if m ≤ d ∧ d < m + k then dFirst else v.1 (4 + d) := by
  intro k
  induction k with
  | zero => intro _ d _; rw [if_neg (by omega)]; rfl
  | succ k ih =>
    intro hk d hd
    rw [← pNews_s]
    unfold pNew
    rw [sC_ne _ (by omega), sC_ne _ (by omega)]
    by_cases q : d = m + k
    · subst q; rw [sC_eq, if_pos (by omega)]
    · rw [sC_ne _ (by omega), ih (by omega) d hd]
      by_cases z : m ≤ d ∧ d < m + k
      · rw [if_pos z, if_pos (by omega)]
      · rw [if_neg z, if_neg (by omega)]
theorem pCnt_at (v : SV) (N : Nat) {i : Nat} (hi : i ≠ 0) : (pCnt v N).1 i = (pNews v (nOf v) (N - nOf v)).1 i := va_up_ne _ _ hi
theorem InvS.cnt (h : InvS v) (h1 : 1 ≤ N) (h8 : N ≤ 8) : InvS (pCnt v N) := by
  have en : nOf (pCnt v N) = N := pCnt_n v (by omega)
  obtain ⟨n1, n8, -⟩ := h.n
  obtain ⟨h0, hd, hg, hz, hdec, h4, hf⟩ := h
  have e0 : (pCnt v N).1 0 = upd ((pNews v (nOf v) (N - nOf v)).1 0) 0 (nI N) := sC_eq _ 0 _
  have lo : ∀ i, i ≠ 0 → i < 4 → (pCnt v N).1 i = v.1 i := fun i h0 h4 => (pCnt_at v N h0).trans (pNews_lo v _ h4 _)
  refine ⟨⟨N, h1, h8, by rw [e0]; rfl⟩, fun d h' => ?_, ?_, ?_, ?_, ?_, ?_⟩
  · rw [en] at h'
    have e : (pCnt v N).1 (4 + d) = if nOf v ≤ d ∧ d < N then dFirst else v.1 (4 + d) := by
      rw [pCnt_at v N (by omega)]
      by_cases q : N ≤ nOf v
      · rw [show N - nOf v = 0 by omega, pNews_z, if_neg (by omega)]
      · rw [pNews_at v _ _ (by omega) d (by omega)]
        by_cases z : nOf v ≤ d ∧ d < N
        · rw [if_pos z, if_pos (by omega)]
        · rw [if_neg z, if_neg (by omega)]
    rw [e]
    split
    · exact ⟨⟨10, by decide, by decide, rfl⟩, ⟨1, by decide, by decide, rfl⟩, ⟨15, by decide, by decide, rfl⟩, ⟨0, by decide, by decide, rfl⟩, ⟨0, by decide, by decide, rfl⟩, ⟨0, by decide, by decide, rfl⟩⟩
    · exact hd d (by omega)
  · rw [lo 1 (by decide) (by decide), lo 2 (by decide) (by decide)]; exact hg
  · rw [lo 1 (by decide) (by decide), lo 2 (by decide) (by decide)]; exact hz
  · rw [lo 3 (by decide) (by decide)]; exact hdec
  · rw [e0, show upd ((pNews v (nOf v) (N - nOf v)).1 0) 0 (nI N) 4 = (pNews v (nOf v) (N - nOf v)).1 0 4 from rfl, pNews_lo v _ (by decide)]; exact h4
  · rw [show (pCnt v N).2 = v.2 from pNews_f v (nOf v) (N - nOf v)]; exact hf
theorem inv_sD (ok : Inv v) (h1 : 1 ≤ N) (h8 : N ≤ 8) : Inv (pSD v N) := by
  have h := ok.S.cnt h1 h8
  unfold pSD
  split
  · rename_i q
    refine inv_keep ok h ?_ ?_
    · have e0 : (pCnt v N).1 0 = upd ((pNews v (nOf v) (N - nOf v)).1 0) 0 (nI N) := sC_eq _ 0 _
      rw [e0, show upd ((pNews v (nOf v) (N - nOf v)).1 0) 0 (nI N) 3 = (pNews v (nOf v) (N - nOf v)).1 0 3 from rfl, pNews_lo v _ (by decide)]
    · unfold pLen
      rw [pCnt_n v (by omega), ← q]
      refine pBeg_congr _ (fun d hd => ?_)
      rw [pCnt_at _ _ (by omega), Nat.sub_self, pNews_z]
  · exact inv_end h
theorem inv_bl (ok : Inv v) {q : Nat} (h0 : 0 < q) (hy : rg y 1 50) (hz : rg z 0 50) : Inv (s2 (s2 v 1 q y) 2 q z) := by
  obtain ⟨a0, ad, ag, az, adec, a4, af⟩ := ok.S
  refine inv_keep ok (w := s2 (s2 v 1 q y) 2 q z) ⟨?_, fun d h => ?_, fun g g0 g4 => ?_, ?_, ?_, ?_, af⟩ ?_ ?_
  · exact a0
  · have e : (s2 (s2 v 1 q y) 2 q z).1 (4 + d) = v.1 (4 + d) := by
      funext j
      rw [s2_at, if_neg (by omega), s2_at, if_neg (by omega)]
    rw [e]
    exact ad d h
  · refine ⟨rg_s2 (rg_s2 (ag g g0 g4).1 (fun _ _ => hy)) (fun e => absurd e (by decide)), rg_s2 (rg_s2 (ag g g0 g4).2 (fun e => absurd e (by decide))) (fun _ _ => hz)⟩
  · rw [s2_at, if_neg (by omega), s2_at, if_neg (by omega), s2_at, if_neg (by omega), s2_at, if_neg (by omega)]
    exact az
  · exact adec
  · exact a4
  · rfl
  · unfold pLen
    rw [s2_n _ (by decide), s2_n _ (by decide)]
    exact pBeg_congr _ (fun d' _ => by rw [s2_at, if_neg (by omega), s2_at, if_neg (by omega)])
theorem inv_st (ok : Inv v) {q : Nat} (hy : q = 0 → rg y 2 50) : Inv (s2 v 3 q y) := by
  obtain ⟨a0, ad, ag, az, adec, a4, af⟩ := ok.S
  refine inv_keep ok (w := s2 v 3 q y) ⟨?_, fun d h => ?_, fun g g0 g4 => ?_, ?_, ?_, ?_, af⟩ ?_ ?_
  · exact a0
  · have e : (s2 v 3 q y).1 (4 + d) = v.1 (4 + d) := by
      funext j
      rw [s2_at, if_neg (by omega)]
    rw [e]
    exact ad d h
  · exact ag g g0 g4
  · exact az
  · exact rg_s2 adec (fun _ e => hy e.symm)
  · exact a4
  · rfl
  · unfold pLen
    rw [s2_n _ (by decide)]
    exact pBeg_congr _ (fun d' _ => by rw [s2_at, if_neg (by omega)])
theorem inv_te (ok : Inv v) (hy : rg y 0 50) : Inv (sC v 0 (upd (v.1 0) 4 y)) := by
  obtain ⟨a0, ad, ag, az, adec, a4, af⟩ := ok.S
  refine inv_keep ok (w := sC v 0 (upd (v.1 0) 4 y)) ⟨?_, fun d h => ?_, fun g g0 g4 => ?_, ?_, ?_, ?_, af⟩ ?_ ?_
  · exact a0
  · rw [sC_ne _ (by omega)]; exact ad d h
  · exact ag g g0 g4
  · exact az
  · exact adec
  · rw [sC_eq]; exact hy
  · rfl
  · have en : nOf (sC v 0 (upd (v.1 0) 4 y)) = nOf v := rfl
    unfold pLen
    rw [en]
    exact pBeg_congr _ (fun d' _ => by rw [sC_ne _ (by omega)])
theorem pRen_d (v : SV) {d d' : Nat} (hd : d < 8) (hd' : d' < 8) : (pRen v d).1 (4 + d') = (s2 v (4 + d) 6 0).1 (4 + d') := by
  unfold pRen
  rw [sC_ne _ (by omega), sC_ne _ (by omega)]
theorem pRen_lo (v : SV) {d i : Nat} (hi : i < 4) : (pRen v d).1 i = v.1 i := by
  unfold pRen
  rw [sC_ne _ (by omega), sC_ne _ (by omega)]
  funext j
  rw [s2_at, if_neg (by omega)]
theorem inv_ren (ok : Inv v) (hd : d < nOf v) : Inv (pRen v d) := by
  have h8 := ok.n8
  have h := (inv_fd (d := d) (y := 0) ok 6 (by decide) ⟨fun e => absurd e (by decide), fun e => absurd e (by decide), fun e => absurd e (by decide), fun e => absurd e (by decide), fun _ => ⟨0, by decide, by decide, rfl⟩⟩).S
  have en : nOf (pRen v d) = nOf v := by unfold nOf; rw [pRen_lo v (by decide)]
  have en2 : nOf (s2 v (4 + d) 6 0) = nOf v := s2_n v (by omega) _ _
  obtain ⟨b0, bd, bg, bz, bdec, b4, bf⟩ := h
  obtain ⟨a0, ad, ag, az, adec, a4, af⟩ := ok.S
  refine inv_keep ok (w := pRen v d) ⟨?_, fun d' h' => ?_, ?_, ?_, ?_, ?_, af⟩ ?_ ?_
  · rw [pRen_lo v (by decide)]; exact a0
  · rw [en] at h'
    rw [pRen_d v (by omega) (by omega)]
    exact bd d' (by rw [en2]; exact h')
  · rw [pRen_lo v (by decide), pRen_lo v (by decide)]; exact ag
  · rw [pRen_lo v (by decide), pRen_lo v (by decide)]; exact az
  · rw [pRen_lo v (by decide)]; exact adec
  · rw [pRen_lo v (by decide)]; exact a4
  · rw [pRen_lo v (by decide)]
  · unfold pLen
    rw [en]
    exact pBeg_congr _ (fun d' h' => by rw [pRen_d v (by omega) (by omega), s2_at, if_neg (by omega)])
theorem inv_pats (ok : Inv v) {P : Nat → Int32} (hP : ∀ i, rg (P i) 0 255) : ∀ k, k ≤ nOf v → Inv (pPats v P k) := by
  intro k
  induction k with
  | zero => intro _; exact ok
  | succ k ih =>
    intro hk
    rw [← pPats_s]
    exact inv_fd (ih (by omega)) 0 (by decide) ⟨fun e => absurd e (by decide), fun e => absurd e (by decide), fun e => absurd e (by decide), fun _ => hP k, fun e => absurd e (by decide)⟩
theorem pPat_rg {x : Int32} (h : ¬ pPat x = -4) : rg (pPat x) 0 255 := by
  rcases pat_cases x with q | q
  · rcases q with q | q | q | q | q | q | q | q | q | q | q | q | q | q | q <;> (subst q; exact ⟨_, Nat.zero_le _, by decide, rfl⟩)
  · exact absurd (pPat_none q) h
theorem or_128 : ∀ x, x < 256 → nI x ||| 128 = nI (x ||| 128) ∧ x ||| 128 < 256 := by decide +kernel
theorem sho_rg {f : Nat → Int32} {D : Nat} : ∀ k i n t P, (∀ i, rg (P i) 0 255) → ∀ i', rg ((shO f D k i n t P).2.2 i') 0 255 := by
  intro k
  induction k with
  | zero => intro i n t P h; exact h
  | succ k ih =>
    intro i n t P h
    have hu : ∀ (m : Nat) (x : Int32), rg x 0 255 → ∀ i', rg (upd P m x i') 0 255 := by
      intro m x hx i'
      unfold upd
      split
      · exact hx
      · exact h i'
    rw [shO]
    split
    · split
      · split
        · exact h
        · exact ih _ _ _ _ (hu _ _ ⟨128, by decide, by decide, rfl⟩)
      · refine ih _ _ _ _ (hu _ _ ?_)
        obtain ⟨x, -, h2, e⟩ := h (n - 1)
        rw [e]
        obtain ⟨a, b⟩ := or_128 x (by omega)
        exact ⟨_, Nat.zero_le _, by omega, a⟩
    · split
      · exact h
      · rename_i q
        split
        · exact h
        · exact ih _ _ _ _ (hu _ _ (pPat_rg q))
/-! the frames are few -/
def good (b : Nat) (v : SV) : Prop := Inv v ∧ ∃ F, v.1 0 2 = nI F ∧ F ≤ b
theorem good.mono {b b' : Nat} (h : good b v) (hb : b ≤ b') : good b' v := by
  obtain ⟨ok, F, e, hF⟩ := h
  exact ⟨ok, F, e, by omega⟩
theorem good_same {b : Nat} (h : good b v) (ok : Inv w) (e : w.1 0 2 = v.1 0 2) : good b w := by
  obtain ⟨-, F, e2, hF⟩ := h
  exact ⟨ok, F, e.trans e2, hF⟩
theorem good_end {b : Nat} (h : good b v) (ok : Inv (pEnd w)) (e : w.1 0 2 = v.1 0 2) : good (b + 1) (pEnd w) := by
  obtain ⟨-, F, e2, hF⟩ := h
  exact ⟨ok, F + 1, by rw [(pEnd_0 w).2.1, e, e2, nI_1], by omega⟩
theorem good_tick {b : Nat} (h : good b v) : good (b + 1) (pTick v) := by
  obtain ⟨ok, F, e, hF⟩ := h
  obtain ⟨t, L, e1, e2, h1, h2⟩ := ok.2.2.2.2.2.1
  obtain ⟨a, -, -⟩ := tick_ft ok e e1 e2 h1 h2
  refine ⟨Inv_tick ok, _, a, ?_⟩
  split <;> omega
theorem good_tks {b : Nat} (h : good b v) : ∀ i, good (b + i) (pTks v i) := by
  intro i
  induction i with
  | zero => exact h
  | succ i ih => exact good_tick ih
theorem good_sD {b : Nat} (h : good b v) (h1 : 1 ≤ N) (h8 : N ≤ 8) : good (b + 1) (pSD v N) := by
  have hi := inv_sD h.1 h1 h8
  have e0 : (pCnt v N).1 0 2 = v.1 0 2 := by
    rw [show (pCnt v N).1 0 = upd ((pNews v (nOf v) (N - nOf v)).1 0) 0 (nI N) from sC_eq _ 0 _, show upd ((pNews v (nOf v) (N - nOf v)).1 0) 0 (nI N) 2 = (pNews v (nOf v) (N - nOf v)).1 0 2 from rfl, pNews_lo v _ (by decide)]
  unfold pSD at hi ⊢
  split at hi
  · rename_i q
    rw [if_pos q]
    exact (good_same h hi e0).mono (by omega)
  · rename_i q
    rw [if_neg q]
    exact good_end h hi e0
theorem good_sW {b : Nat} (h : good b v) (hy : rg y 4 40) : good (b + 1) (pSW v d y) := by
  have hi := inv_sW (d := d) h.1 hy
  have e0 : (s2 v (4 + d) 1 y).1 0 2 = v.1 0 2 := by rw [s2_at, if_neg (by omega)]
  unfold pSW at hi ⊢
  split at hi
  · rename_i q
    rw [if_pos q]
    exact (good_same h hi e0).mono (by omega)
  · rename_i q
    rw [if_neg q]
    exact good_end h hi e0
end INV
