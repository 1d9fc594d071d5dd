def relc (n i : Nat) : Prop := i < 4 ∨ (4 ≤ i ∧ i < 4 + n) ∨ (12 ≤ i ∧ i < 12 + n) ∨ (20 ≤ i ∧ i < 20 + n)
def simN (n : Nat) (v w : SV) : Prop := v.2 = w.2 ∧ ∀ i, relc n i → v.1 i = w.1 i
def sim (v w : SV) : Prop := simN (nOf v) v w
section SIM
variable {n m d k i : Nat} {v w : SV}
theorem simN.mono (h : simN m v w) (hn : n ≤ m) : simN n v w := ⟨h.1, fun i hi => h.2 i (by unfold relc at *; omega)⟩
theorem simN.lo (h : simN n v w) (hi : i < 4) : v.1 i = w.1 i := h.2 i (Or.inl hi)
theorem simN.dg (h : simN n v w) (hd : d < n) : v.1 (4 + d) = w.1 (4 + d) := h.2 _ (Or.inr (Or.inl ⟨by omega, by omega⟩))
theorem simN.g (h : simN n v w) (hd : d < n) : v.1 (12 + d) = w.1 (12 + d) := h.2 _ (Or.inr (Or.inr (Or.inl ⟨by omega, by omega⟩)))
theorem simN.u (h : simN n v w) (hd : d < n) : v.1 (20 + d) = w.1 (20 + d) := h.2 _ (Or.inr (Or.inr (Or.inr ⟨by omega, by omega⟩)))
theorem simN.l0 (h : simN n v w) : v.1 0 = w.1 0 := h.lo (by decide)
theorem simN.l1 (h : simN n v w) : v.1 1 = w.1 1 := h.lo (by decide)
theorem simN.l2 (h : simN n v w) : v.1 2 = w.1 2 := h.lo (by decide)
theorem simN.l3 (h : simN n v w) : v.1 3 = w.1 3 := h.lo (by decide)
theorem simN.pC (h : simN n v w) (i : Nat) {f g : Nat → Int32} (e : f = g) : simN n (sC v i f) (sC w i g) := by
  subst e
  refine ⟨h.1, fun j hj => ?_⟩
  show va_up v.1 i f j = va_up w.1 i f j
  unfold va_up
  split
  · rfl
  · exact h.2 j hj
theorem simN.p2 (h : simN n v w) (i j : Nat) {x y : Int32} (hi : relc n i) (e : x = y) : simN n (s2 v i j x) (s2 w i j y) := by
  subst e
  exact h.pC i (by rw [h.2 i hi])
theorem relc_0 : relc n 0 := Or.inl (by decide)
theorem relc_d (hd : d < n) : relc n (4 + d) := Or.inr (Or.inl ⟨by omega, by omega⟩)
theorem sim.nn (h : sim v w) : nOf v = nOf w := by unfold nOf; rw [simN.l0 h]
theorem sim.of (h : simN n v w) (e : nOf v = n) : sim v w := by unfold sim; rw [e]; exact h
theorem sim.rf : sim v v := ⟨rfl, fun _ _ => rfl⟩
theorem simN.lp (h : simN n v w) (hd : d < n) : pLP v d = pLP w d := by unfold pLP; rw [h.dg hd]
theorem simN.beg (h : simN n v w) (hk : k ≤ n) : pBeg v k = pBeg w k := pBeg_congr k (fun d hd => by rw [h.dg (by omega)])
theorem sim.len (h : sim v w) : pLen v = pLen w := by unfold pLen; rw [← h.nn]; exact simN.beg h (Nat.le_refl _)
theorem sim.slot (h : sim v w) (ok : Inv v) : pSlot v = pSlot w := by
  have h8 := ok.n8
  have key : ∀ k i, k = nOf v - i → i < nOf v → pSlotF v (8 - i) i = pSlotF w (8 - i) i := by
    intro k
    induction k with
    | zero => intro i h2 h3; omega
    | succ k ih =>
      intro i h2 h3
      have e1 : v.1 0 3 = w.1 0 3 := by rw [simN.l0 h]
      have e2 : pBeg v (i + 1) = pBeg w (i + 1) := simN.beg h (by omega)
      by_cases q : v.1 0 3 < pBeg v (i + 1)
      · rw [pSlot_exit (by omega) q, pSlot_exit (v := w) (by omega) (by rw [← e1, ← e2]; exact q)]
      · rw [pSlot_next (by omega) q, pSlot_next (v := w) (by omega) (by rw [← e1, ← e2]; exact q)]
        by_cases z : i + 1 < nOf v
        · exact ih (i + 1) (by omega) z
        · have e : i + 1 = nOf v := by omega
          rw [e] at q
          exact absurd ok.tick q
  exact key (nOf v) 0 (by omega) (by have := ok.n1; omega)
theorem simN.on (h : simN n v w) (g : Nat) : pOn v g = pOn w g := by unfold pOn; rw [h.l0, h.l1, h.l2]
theorem simN.drv (h : simN n v w) (hd : d < n) : pDrv v d = pDrv w d := by
  unfold pDrv gOf
  rw [h.lp hd, h.beg (Nat.le_of_lt hd), h.l0, h.dg hd, h.on]
theorem sim.lit (h : sim v w) (ok : Inv v) (hd : d < nOf v) : pLit v d = pLit w d := by
  unfold pLit
  by_cases q : pSlot v = d ∧ pDrv v d
  · rw [if_pos q, if_pos (show pSlot w = d ∧ pDrv w d from ⟨(h.slot ok).symm.trans q.1, Eq.mp (simN.drv h hd) q.2⟩), simN.l0 h, simN.dg h hd]
  · rw [if_neg q, if_neg (fun z : pSlot w = d ∧ pDrv w d => q ⟨(h.slot ok).trans z.1, Eq.mpr (simN.drv h hd) z.2⟩)]
theorem sim.tk1 (h : sim v w) (ok : Inv v) : simN (nOf v) (pTk1 v) (pTk1 w) := by
  have hs := h.slot ok
  have hd := simN.drv h ok.slot
  unfold pTk1
  by_cases q : pDrv v (pSlot v)
  · have q' : pDrv w (pSlot w) := by rw [← hs]; exact Eq.mp hd q
    rw [if_pos q, if_pos q', ← hs]
    have h1 : simN (nOf v) (s2 v 0 5 (v.1 0 5 + 1)) (s2 w 0 5 (w.1 0 5 + 1)) := simN.p2 h 0 5 relc_0 (by rw [simN.l0 h])
    exact simN.p2 h1 (4 + pSlot v) 5 (relc_d ok.slot) (by rw [simN.dg h ok.slot])
  · have q' : ¬ pDrv w (pSlot w) := by rw [← hs]; exact fun z => q (Eq.mpr hd z)
    rw [if_neg q, if_neg q']
    exact h
theorem simN.all (h : simN n v w) (now : Nat) (lit : Int32) : ∀ k, k ≤ n → simN n (pAll v now lit k) (pAll w now lit k) := by
  intro k
  induction k with
  | zero => intro _; exact h
  | succ k ih =>
    intro hk
    have ih := ih (by omega)
    have e : dTri (pAll v now lit k) k = dTri (pAll w now lit k) k := by unfold dTri; rw [ih.dg (by omega), ih.g (by omega), ih.u (by omega)]
    show simN n (sTri _ k (dRun _ ((pAll v now lit k).1 3 0) ((pAll v now lit k).1 3 2) (dTri (pAll v now lit k) k) 8)) (sTri _ k (dRun _ ((pAll w now lit k).1 3 0) ((pAll w now lit k).1 3 2) (dTri (pAll w now lit k) k) 8))
    rw [e, ih.l3]
    exact ((ih.pC _ rfl).pC _ rfl).pC _ rfl
theorem sim.tn (h : sim v w) (ok : Inv v) : pTickN v = pTickN w := by
  unfold pTickN
  rw [h.lit ok ok.slot, h.slot ok]
theorem sim.tk2 (h : sim v w) (ok : Inv v) : simN (nOf v) (pTk2 v) (pTk2 w) := by
  have e := h.lit ok ok.slot
  unfold pTk2
  rw [e, h.slot ok, ← h.nn]
  exact (h.tk1 ok).all _ _ _ (Nat.le_refl _)
theorem sim.tk3 (h : sim v w) (ok : Inv v) : simN (nOf v) (pTk3 v) (pTk3 w) := by
  have h2 := h.tk2 ok
  refine ⟨?_, fun i hi => ?_⟩
  · show pFlo v.2 (pTickN v) = pFlo w.2 (pTickN w)
    rw [h.1, h.tn ok]
  · show va_up (pTk2 v).1 0 (upd (upd ((pTk2 v).1 0) 1 ((pTk2 v).1 0 1 + 1)) 3 ((pTk2 v).1 0 3 + 1)) i = va_up (pTk2 w).1 0 (upd (upd ((pTk2 w).1 0) 1 ((pTk2 w).1 0 1 + 1)) 3 ((pTk2 w).1 0 3 + 1)) i
    rw [h2.l0]
    unfold va_up
    split
    · rfl
    · exact h2.2 i hi
theorem simN.fin (h : simN n v w) : simN n (pEnd v) (pEnd w) := by
  unfold pEnd
  exact h.pC 0 (by rw [h.l0])
theorem sim.tick (h : sim v w) (ok : Inv v) : sim (pTick v) (pTick w) := by
  have h3 := h.tk3 ok
  refine sim.of (n := nOf v) ?_ (pTick_n v)
  unfold pTick
  have e : ((pTk3 v).1 0 3 = pLen v) = ((pTk3 w).1 0 3 = pLen w) := by rw [h3.l0, h.len]
  by_cases q : (pTk3 v).1 0 3 = pLen v
  · rw [if_pos q, if_pos (Eq.mp e q)]
    exact h3.fin
  · rw [if_neg q, if_neg (fun z => q (Eq.mpr e z))]
    exact h3
theorem simN.new (h : simN n v w) : simN (n + 1) (pNew v n) (pNew w n) := by
  refine ⟨h.1, fun i hi => ?_⟩
  show va_up (va_up (va_up v.1 (4 + n) dFirst) (12 + n) (fun _ => 0)) (20 + n) (fun _ => 0) i = va_up (va_up (va_up w.1 (4 + n) dFirst) (12 + n) (fun _ => 0)) (20 + n) (fun _ => 0) i
  unfold va_up
  by_cases h1 : i = 20 + n
  · rw [if_pos h1, if_pos h1]
  rw [if_neg h1, if_neg h1]
  by_cases h2 : i = 12 + n
  · rw [if_pos h2, if_pos h2]
  rw [if_neg h2, if_neg h2]
  by_cases h3 : i = 4 + n
  · rw [if_pos h3, if_pos h3]
  rw [if_neg h3, if_neg h3]
  exact h.2 i (by unfold relc at *; omega)
theorem simN.news (h : simN m v w) : ∀ k, simN (m + k) (pNews v m k) (pNews w m k) := by
  intro k
  induction k with
  | zero => exact h
  | succ k ih =>
    rw [← pNews_s, ← pNews_s]
    exact ih.new
theorem pCnt_n (v : SV) {N : Nat} (h : N < 2 ^ 31) : nOf (pCnt v N) = N := by
  have e : (pCnt v N).1 0 = upd ((pNews v (nOf v) (N - nOf v)).1 0) 0 (nI N) := sC_eq _ 0 _
  unfold nOf
  rw [e]
  exact nI_clamp h
theorem sim.cnt (h : sim v w) (N : Nat) : simN N (pCnt v N) (pCnt w N) := by
  have h2 : simN N (pNews v (nOf v) (N - nOf v)) (pNews w (nOf v) (N - nOf v)) := (simN.news h (N - nOf v)).mono (by omega)
  unfold pCnt
  rw [← h.nn]
  exact h2.pC 0 (by rw [h2.l0])
theorem pEnd_n (v : SV) : nOf (pEnd v) = nOf v := rfl
theorem s2_n (v : SV) {i : Nat} (hi : i ≠ 0) (j : Nat) (x : Int32) : nOf (s2 v i j x) = nOf v := by
  unfold nOf
  rw [s2_at, if_neg (fun z => hi z.1.symm)]
theorem sC_n (v : SV) {i : Nat} (hi : i ≠ 0) (f : Nat → Int32) : nOf (sC v i f) = nOf v := by
  unfold nOf
  rw [sC_ne v (fun z => hi z.symm)]
theorem sim.fd (h : sim v w) (hd : d < nOf v) (j : Nat) (y : Int32) : sim (s2 v (4 + d) j y) (s2 w (4 + d) j y) := sim.of (simN.p2 h _ _ (relc_d hd) rfl) (s2_n v (by omega) _ _)
theorem sim.st (h : sim v w) (q : Nat) (y : Int32) : sim (s2 v 3 q y) (s2 w 3 q y) := sim.of (simN.p2 h 3 q (Or.inl (by decide)) rfl) rfl
theorem pPats_n (v : SV) (P : Nat → Int32) (k : Nat) : nOf (pPats v P k) = nOf v := by unfold nOf; rw [pPats_lo v P (by decide)]
end SIM
