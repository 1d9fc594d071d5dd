theorem pBeg_rg {v : SV} : ∀ k, k ≤ 8 → (∀ d, d < k → rg (v.1 (4 + d) 1) 4 40) → ∃ L, pBeg v k = nI L ∧ 4 * k ≤ L ∧ L ≤ 40 * k ∧ ∀ d w, d < k → v.1 (4 + d) 1 = nI w → w < 2 ^ 31 → w ≤ L := by
  intro k
  induction k with
  | zero => intro _ _; exact ⟨0, rfl, by omega, by omega, fun d w h => absurd h (by omega)⟩
  | succ k ih =>
    intro h8 h
    obtain ⟨L, e, l1, l2, l3⟩ := ih (by omega) (fun d hd => h d (by omega))
    obtain ⟨w, w1, w2, ew⟩ := h k (by omega)
    refine ⟨L + w, ?_, by omega, by omega, fun d w' hd e' hw' => ?_⟩
    · show pBeg v k + v.1 (4 + k) 1 = _
      rw [e, ew, nI_add]
    · by_cases q : d = k
      · subst q
        rw [ew] at e'
        have := (nI_eq (by omega) hw').mp e'
        omega
      · have := l3 d w' (by omega) e' hw'
        omega
theorem Inv_mk {w : SV} {n t : Nat} (h0 : w.1 0 0 = nI n) (n1 : 1 ≤ n) (n8 : n ≤ 8)
    (hd : ∀ d, d < n → rg (w.1 (4 + d) 1) 4 40 ∧ rg (w.1 (4 + d) 2) 0 3 ∧ rg (w.1 (4 + d) 3) 0 15 ∧ rg (w.1 (4 + d) 4) 0 3 ∧ rg (w.1 (4 + d) 0) 0 255 ∧ rg (w.1 (4 + d) 6) 0 255)
    (hg : ∀ g, 0 < g → g < 4 → rg (w.1 1 g) 1 50 ∧ rg (w.1 2 g) 0 50) (hz : w.1 1 0 = 0 ∧ w.1 2 0 = 0) (h3 : rg (w.1 3 0) 2 50)
    (ht : w.1 0 3 = nI t) (hL : ∀ L, pLen w = nI L → 4 ≤ L → L ≤ 320 → t < L) (h4 : rg (w.1 0 4) 0 50) (hf : FI w.2) : Inv w := by
  have en : nOf w = n := by unfold nOf; rw [h0]; exact nI_clamp (by omega)
  obtain ⟨L, e, l1, l2, -⟩ := pBeg_rg (v := w) n n8 (fun d h => (hd d h).1)
  have eL : pLen w = nI L := by unfold pLen; rw [en]; exact e
  refine ⟨⟨n, n1, n8, h0⟩, ?_, hg, hz, h3, ⟨t, L, ht, eL, hL L eL (by omega) (by omega), by omega⟩, h4, hf⟩
  rw [en]
  exact hd
theorem or_k : ∀ x, x < 256 → ∀ k, k < 8 → nI x ||| (1 : Int32) <<< (nI k &&& 31) = nI (x ||| 2 ^ k) ∧ x ||| 2 ^ k < 256 := by decide +kernel
theorem dRun_6 (lit dec life : Int32) (t : F3) (h : rg (t.1 6) 0 255) : ∀ k, k ≤ 8 → rg ((dRun lit dec life t k).1 6) 0 255 := by
  intro k
  induction k with
  | zero => intro _; exact h
  | succ k ih =>
    intro hk
    show rg ((if _ then upd _ 6 _ else _) 6) 0 255
    split
    · obtain ⟨x, -, x2, e⟩ := ih (by omega)
      obtain ⟨a, b⟩ := or_k x (by omega) k (by omega)
      refine ⟨x ||| 2 ^ k, by omega, by omega, ?_⟩
      show (dRun lit dec life t k).1 6 ||| _ = _
      rw [e]
      exact a
    · exact ih (by omega)
theorem pAll_6 (v : SV) (now : Nat) (lit : Int32) {d : Nat} (hd : d < 8) (h : rg (v.1 (4 + d) 6) 0 255) : ∀ i, rg ((pAll v now lit i).1 (4 + d) 6) 0 255 := by
  intro i
  induction i with
  | zero => exact h
  | succ i ih =>
    show rg ((sTri _ i _).1 (4 + d) 6) 0 255
    unfold sTri
    rw [sC_at, if_neg (by omega), sC_at, if_neg (by omega), sC_at]
    by_cases q : d = i
    · subst q
      rw [if_pos rfl]
      exact dRun_6 _ _ _ _ ih 8 (Nat.le_refl 8)
    · rw [if_neg (by omega)]
      exact ih
theorem pTk3_at {v : SV} {i : Nat} (h : i ≠ 0) : (pTk3 v).1 i = (pTk2 v).1 i := va_up_ne _ _ h
theorem pTk2_123 {v : SV} {i : Nat} (h0 : i ≠ 0) (h : i < 4) : (pTk2 v).1 i = v.1 i := by
  refine (pAll_lo _ _ _ h _).trans ?_
  unfold pTk1
  split
  · funext j
    rw [s2_at, if_neg (by omega), s2_at, if_neg (by omega)]
  · rfl
theorem pTk3_lo {v : SV} {i : Nat} (h0 : i ≠ 0) (h : i < 4) : (pTk3 v).1 i = v.1 i := (pTk3_at h0).trans (pTk2_123 h0 h)
theorem pTk3_t (v : SV) : (pTk3 v).1 0 3 = v.1 0 3 + 1 ∧ (pTk3 v).1 0 2 = v.1 0 2 ∧ (pTk3 v).1 0 4 = v.1 0 4 := by
  have h : (pTk3 v).1 0 = upd (upd ((pTk2 v).1 0) 1 ((pTk2 v).1 0 1 + 1)) 3 ((pTk2 v).1 0 3 + 1) := by
    show va_up (pTk2 v).1 0 (upd (upd ((pTk2 v).1 0) 1 ((pTk2 v).1 0 1 + 1)) 3 ((pTk2 v).1 0 3 + 1)) 0 = _
    exact va_up_self _ _ _
  rw [h]
  have e2 := pTk2_0 v (j := 2) (by decide)
  have e3 := pTk2_0 v (j := 3) (by decide)
  have e4 := pTk2_0 v (j := 4) (by decide)
  refine ⟨?_, ?_, ?_⟩
  · rw [← e3]; rfl
  · rw [← e2]; rfl
  · rw [← e4]; rfl
theorem pTk3_d {v : SV} (ok : Inv v) {d : Nat} (hd : d < nOf v) : rg ((pTk3 v).1 (4 + d) 1) 4 40 ∧ rg ((pTk3 v).1 (4 + d) 2) 0 3 ∧ rg ((pTk3 v).1 (4 + d) 3) 0 15 ∧ rg ((pTk3 v).1 (4 + d) 4) 0 3 ∧ rg ((pTk3 v).1 (4 + d) 0) 0 255 ∧ rg ((pTk3 v).1 (4 + d) 6) 0 255 := by
  have h8 := ok.n8
  obtain ⟨a1, a2, a3, a4, a5, a6⟩ := ok.dg hd
  rw [pTk3_w v (by omega) (by decide) (by decide), pTk3_w v (by omega) (by decide) (by decide), pTk3_w v (by omega) (by decide) (by decide), pTk3_w v (by omega) (by decide) (by decide), pTk3_w v (by omega) (by decide) (by decide)]
  refine ⟨a1, a2, a3, a4, a5, ?_⟩
  rw [pTk3_at (by omega)]
  refine pAll_6 _ _ _ (by omega) ?_ _
  rw [pTk1_w v (by decide)]
  exact a6
theorem rg_dec {x : Int32} (h : rg x 0 50) : rg (x - (if 0 < x then 1 else 0)) 0 50 := by
  obtain ⟨k, -, k2, e⟩ := h
  subst e
  by_cases q : k = 0
  · subst q; exact ⟨0, by omega, by omega, rfl⟩
  · rw [if_pos (by rw [show (0 : Int32) = nI 0 from rfl]; exact nI_lt (by omega) (by omega))]
    obtain ⟨m, rfl⟩ : ∃ m, k = m + 1 := ⟨k - 1, by omega⟩
    exact ⟨m, by omega, by omega, nI_pred m⟩
theorem pEnd_0 (v : SV) : (pEnd v).1 0 0 = v.1 0 0 ∧ (pEnd v).1 0 2 = v.1 0 2 + 1 ∧ (pEnd v).1 0 3 = 0 ∧ (pEnd v).1 0 4 = v.1 0 4 - (if 0 < v.1 0 4 then 1 else 0) := by
  have h : (pEnd v).1 0 = pEndF (v.1 0) := sC_eq v 0 _
  rw [h]
  exact ⟨rfl, rfl, rfl, rfl⟩
theorem pEnd_at {v : SV} {i : Nat} (h : i ≠ 0) : (pEnd v).1 i = v.1 i := va_up_ne _ _ h
theorem inv_tick {v : SV} (ok : Inv v) : Inv (pTick v) := by
  obtain ⟨t, L, e1, e2, h1, h2⟩ := ok.2.2.2.2.2.1
  obtain ⟨t3, t2, t4⟩ := pTk3_t v
  have hg := ok.2.2.1
  have hz := ok.2.2.2.1
  have hdec := ok.2.2.2.2.1
  have h4 := ok.2.2.2.2.2.2.1
  have hf : FI (pTk3 v).2 := (fl_ok ok.2.2.2.2.2.2.2 (tickN_n v)).2
  have el := pTk3_len ok
  have e0 : (pTk3 v).1 0 0 = nI (nOf v) := (pTk3_0 v).trans ok.cnt
  have p1 : (pTk3 v).1 1 = v.1 1 := pTk3_lo (by decide) (by decide)
  have p2 : (pTk3 v).1 2 = v.1 2 := pTk3_lo (by decide) (by decide)
  have p3 : (pTk3 v).1 3 = v.1 3 := pTk3_lo (by decide) (by decide)
  unfold pTick
  split
  · obtain ⟨q0, q2, q3, q4⟩ := pEnd_0 (pTk3 v)
    refine Inv_mk (n := nOf v) (t := 0) (q0.trans e0) ok.n1 ok.n8 (fun d hd => ?_) ?_ ?_ ?_ q3 (fun L' _ h5 _ => by omega) ?_ hf
    · rw [pEnd_at (by omega)]
      exact pTk3_d ok hd
    · rw [pEnd_at (by decide), pEnd_at (by decide), p1, p2]; exact hg
    · rw [pEnd_at (by decide), pEnd_at (by decide), p1, p2]; exact hz
    · rw [pEnd_at (by decide), p3]; exact hdec
    · rw [q4, t4]; exact rg_dec h4
  · rename_i hne
    refine Inv_mk (n := nOf v) (t := t + 1) e0 ok.n1 ok.n8 (fun d hd => pTk3_d ok hd) ?_ ?_ ?_ ?_ (fun L' e' h5 h6 => ?_) ?_ hf
    · rw [p1, p2]; exact hg
    · rw [p1, p2]; exact hz
    · rw [p3]; exact hdec
    · rw [t3, e1, nI_1]
    · rw [el, e2] at e'
      have hLL := (nI_eq (by omega) (by omega)).mp e'
      rw [t3, e1, nI_1, e2] at hne
      have : t + 1 ≠ L := fun q => hne (by rw [q])
      omega
    · rw [t4]; exact h4
/-- a tick's own effect on the frame -/
theorem tick_ft {v : SV} (ok : Inv v) {F t L : Nat} (hF : v.1 0 2 = nI F) (ht : v.1 0 3 = nI t) (hL : pLen v = nI L) (h1 : t < L) (h2 : L ≤ 320) :
    (pTick v).1 0 2 = nI (if t + 1 = L then F + 1 else F) ∧ (pTick v).1 0 3 = nI (if t + 1 = L then 0 else t + 1) ∧ pLen (pTick v) = nI L := by
  obtain ⟨t3, t2, t4⟩ := pTk3_t v
  have el := pTk3_len ok
  have ec : (pTk3 v).1 0 3 = pLen v ↔ t + 1 = L := by
    rw [t3, ht, nI_1, hL]
    exact nI_eq (by omega) (by omega)
  unfold pTick
  by_cases q : t + 1 = L
  · rw [if_pos (ec.mpr q), if_pos q, if_pos q]
    obtain ⟨q0, q2, q3, q4⟩ := pEnd_0 (pTk3 v)
    refine ⟨by rw [q2, t2, hF, nI_1], q3, ?_⟩
    have e9 : pLen (pEnd (pTk3 v)) = pLen (pTk3 v) := by
      have en : nOf (pEnd (pTk3 v)) = nOf (pTk3 v) := rfl
      unfold pLen
      rw [en]
      exact pBeg_congr _ (fun d _ => by rw [pEnd_at (by omega)])
    rw [e9, el, hL]
  · rw [if_neg (fun z => q (ec.mp z)), if_neg q, if_neg q]
    exact ⟨t2.trans hF, by rw [t3, ht, nI_1], el.trans hL⟩
