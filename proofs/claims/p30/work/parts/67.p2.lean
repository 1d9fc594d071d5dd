/-! pure facts for the law's methods, on -/
theorem div_next {x L : Nat} (h : 0 < L) : (x + 1) / L = (if x % L + 1 = L then x / L + 1 else x / L) ∧ (x + 1) % L = (if x % L + 1 = L then 0 else x % L + 1) := by
  have e := Nat.div_add_mod x L
  have h1 := Nat.mod_lt x h
  by_cases q : x % L + 1 = L
  · rw [if_pos q, if_pos q]
    have e2 : x + 1 = L * (x / L + 1) + 0 := by rw [Nat.mul_add, Nat.mul_one]; omega
    rw [e2, Nat.mul_add_div h, Nat.mul_add_mod]
    exact ⟨by rw [Nat.zero_div, Nat.add_zero], Nat.zero_mod L⟩
  · rw [if_neg q, if_neg q]
    have e2 : x + 1 = L * (x / L) + (x % L + 1) := by omega
    have e3 : (L * (x / L) + (x % L + 1)) / L = x / L := by rw [Nat.mul_add_div h, Nat.div_eq_of_lt (show x % L + 1 < L by omega), Nat.add_zero]
    have e4 : (L * (x / L) + (x % L + 1)) % L = x % L + 1 := by rw [Nat.mul_add_mod, Nat.mod_eq_of_lt (show x % L + 1 < L by omega)]
    constructor
    · exact (congrArg (· / L) e2).trans e3
    · exact (congrArg (· % L) e2).trans e4
theorem tks_nn {v : SV} (ok : Inv v) : ∀ i, nOf (pTks v i) = nOf v := by
  intro i
  induction i with
  | zero => rw [← pTks_z]
  | succ i ih => rw [← pTks_s, tick_n (inv_tks ok i), ih]
theorem pTkN_nn (v : SV) : ∀ i, ∃ m, m ≤ 8 * i ∧ pTkN v i = nI m := by
  intro i
  induction i with
  | zero => exact ⟨0, by omega, rfl⟩
  | succ i ih =>
    obtain ⟨m, h1, h2⟩ := ih
    obtain ⟨k, h3, h4⟩ := tickN_n (pTks v i)
    exact ⟨m + k, by omega, by rw [← pTkN_s, h2, h4, nI_add]⟩
theorem pTkN_pos {v : SV} {i : Nat} (h : i ≤ 500) : 0 ≤ pTkN v i := by
  obtain ⟨m, h1, h2⟩ := pTkN_nn v i
  rw [h2]; exact nI_pos' (by omega)
section P2
variable {v : SV} {b n : Nat} {A : AS} {w : SV} {x y z : Int32}
theorem qpn (h1 : 1 ≤ n) (h5 : n ≤ 500) : f_pass A (nI n) = (pTkN (aV A) n, aRec A (pTks (aV A) n)) := by
  show (if pIn (nI n) 1 500 = 0 then ((-2 : Int32), A) else (pTkN (aV A) (cl (nI n)), aRec A (pTks (aV A) (cl (nI n))))) = _
  rw [if_neg (show ¬ pIn (nI n) 1 500 = 0 from pin1 (lo := 1) (hi := 500) h1 h5 (by decide)), cl_of (by omega) rfl]
theorem kPush_pos {k : Nat} : ¬ kPush k = 0 := by unfold kPush; split <;> omega
theorem q_undo : (f_undo (aRec A w)).1 = nI (kPush (aK A) - 1) ∧ aV (f_undo (aRec A w)).2 = aV A := by
  have h : f_undo (aRec A w) = (nI (kPush (aK A) - 1), (hPush (aH A) (aK A) (aV A) (kPush (aK A) - 1), kPush (aK A) - 1, hPush (aH A) (aK A) (aV A), aS A, aI A, aT A, aF A)) := if_neg kPush_pos
  rw [h]
  refine ⟨rfl, ?_⟩
  show hPush (aH A) (aK A) (aV A) (kPush (aK A) - 1) = aV A
  rw [hPush_at]
  unfold kPush
  by_cases q : aK A = 5
  · rw [if_pos q, if_pos q, if_pos rfl]
  · rw [if_neg q, if_neg q, if_pos (by omega)]
theorem l_undo (ok : LOk b A) (o : aOk (b + 7000) (aRec A w)) (hb : b + 14000 < 2 ^ 20) : LOk (b + 14000) (f_undo (aRec A w)).2 := by
  refine ⟨(o_undo o).mono (by omega), ⟨?_, hb⟩, by omega⟩
  rw [q_undo.2]
  exact ok.xi.mono (by omega)
/-! steady glows -/
def stG (L M q : Nat) : Int32 := if L = 0 then 0 else nI (pSt L M q)
theorem qst_G {d L M q : Nat} (ok : Inv (aV A)) (hd : d < nOf (aV A)) (eL : pLP (aV A) d = nI L) (eM : pLen (aV A) - pLP (aV A) d = nI M) (eq : (aV A).1 3 0 = nI q) (bL : L < 2 ^ 30) (bM : M < 2 ^ 30) (bq : q < 2 ^ 31) : (f_steadyGlow A (nI d)).1 = stG L M q := by
  rw [qst ok hd]
  unfold stdG stG
  rw [cl_of (show L < 2 ^ 31 by omega) eL, cl_of (show M < 2 ^ 31 by omega) eM, cl_of bq eq]
theorem pSt_fix {L M q : Nat} (hq : 0 < q) (hL : 0 < L) : itN bN L (itN (dN q) M (pSt L M q)) = pSt L M q := by
  show yN L M q 1001 = yN L M q 1000
  by_cases h : ∀ j, j < 1001 → ¬ yN L M q (j + 1) = yN L M q j
  · have h1 := yN_big hq hL h
    have h2 := yN_le L M q 1001
    omega
  · have ⟨k, hk⟩ := Classical.not_forall.mp h
    have ⟨h1, h2⟩ := Classical.not_imp.mp hk
    have h3 : yN L M q (k + 1) = yN L M q k := Classical.not_not.mp h2
    have a := yN_st h3 (1001 - k)
    have b := yN_st h3 (1000 - k)
    rw [show k + (1001 - k) = 1001 by omega] at a
    rw [show k + (1000 - k) = 1000 by omega] at b
    rw [a, b]
theorem pSt_250 {L M q : Nat} (hL : 0 < L) : 250 ≤ pSt L M q := by
  obtain ⟨l, rfl⟩ : ∃ l, L = l + 1 := ⟨L - 1, by omega⟩
  have h : ∀ g, 250 ≤ bN g := fun g => by unfold bN; omega
  exact h _
theorem pSt_le (L M q : Nat) : pSt L M q ≤ 1000 := yN_le L M q 1000
theorem dn_ge {g q : Nat} (h : g ≤ 1000) (h0 : 0 < q) (hq : q < 2 ^ 31) (c : 0 ≤ nI g - (nI g / nI q + 1)) : nI g - (nI g / nI q + 1) = nI (dN q g) := by
  have hd : g / q ≤ g := Nat.div_le_self g q
  unfold dN
  rw [pk_div (by omega) h0 hq, nI_1] at c ⊢
  generalize g / q = z at hd c ⊢
  rcases Nat.lt_or_ge g (z + 1) with y | y
  · exact absurd c (Int32.not_le.mpr (pk_sneg (by omega) y))
  · rw [pk_sub y]; congr 1
theorem dn_lt {g q : Nat} (h : g ≤ 1000) (h0 : 0 < q) (hq : q < 2 ^ 31) (c : ¬ 0 ≤ nI g - (nI g / nI q + 1)) : 0 = nI (dN q g) := by
  have hd : g / q ≤ g := Nat.div_le_self g q
  unfold dN
  rw [pk_div (by omega) h0 hq, nI_1] at c
  generalize g / q = z at hd c ⊢
  rcases Nat.lt_or_ge g (z + 1) with y | y
  · rw [show g - z - 1 = 0 by omega]; rfl
  · rw [pk_sub y] at c; exact absurd (nI_pos' (by omega)) c
theorem stG_lt {L M q : Nat} (hL : ¬ L = 0) : ¬ stG L M q < 250 := by
  unfold stG
  rw [if_neg hL]
  have h1 := pSt_250 (M := M) (q := q) (Nat.pos_of_ne_zero hL)
  have h2 := pSt_le L M q
  exact nI_nlt (b := 250) h1 (by omega)
theorem bri_g {g : Nat} (h : g ≤ 1000) : rg (nI g) 0 1000 := ⟨g, Nat.zero_le _, h, rfl⟩
/-! frames -/
theorem fr_vals (ok : LOk b A) : ∃ T F t L E : Nat, (aV A).1 0 1 = nI T ∧ (aV A).1 0 2 = nI F ∧ (aV A).1 0 3 = nI t ∧ pLen (aV A) = nI L ∧ (aV A).1 0 4 = nI E ∧ t < L ∧ L ≤ 320 ∧ T < 2 ^ 20 ∧ F < 2 ^ 20 ∧ E ≤ 50 := by
  obtain ⟨t, L, e1, e2, h1, h2⟩ := ok.inv.2.2.2.2.2.1
  obtain ⟨-, F, e3, h3⟩ := ok.1.1
  obtain ⟨T, E, e4, -, -, h4, -⟩ := ok.xi.2.1
  obtain ⟨Te, -, h5, e5⟩ := ok.inv.2.2.2.2.2.2.1
  have := ok.lt
  exact ⟨T, F, t, L, Te, e4, e3, e1, e2, e5, h1, h2, by omega, by omega, h5⟩
theorem fr_tks (ok : Inv v) {T F t L E : Nat} (eT : v.1 0 1 = nI T) (eF : v.1 0 2 = nI F) (et : v.1 0 3 = nI t) (eL : pLen v = nI L) (eE : v.1 0 4 = nI E) (ht : t < L) (hL : L ≤ 320) (hE : E ≤ 50) : ∀ i, (pTks v i).1 0 1 = nI (T + i) ∧ (pTks v i).1 0 2 = nI (F + (t + i) / L) ∧ (pTks v i).1 0 3 = nI ((t + i) % L) ∧ (pTks v i).1 0 4 = nI (E - (t + i) / L) ∧ pLen (pTks v i) = nI L := by
  intro i
  induction i with
  | zero =>
    rw [← pTks_z, Nat.add_zero, Nat.add_zero, Nat.div_eq_of_lt ht, Nat.mod_eq_of_lt ht]
    exact ⟨eT, eF, et, eE, eL⟩
  | succ i ih =>
    obtain ⟨a1, a2, a3, a4, a5⟩ := ih
    have ok2 := inv_tks ok i
    have hm : (t + i) % L < L := Nat.mod_lt _ (by omega)
    obtain ⟨d1, d2⟩ := div_next (x := t + i) (show 0 < L by omega)
    obtain ⟨f1, f2, f3⟩ := tick_ft ok2 a2 a3 a5 hm hL
    have f4 := (tick_fr ok2).2.2
    have f0 := (tick_0 ok2).2.1
    rw [← pTks_s, show t + (i + 1) = t + i + 1 by omega, d1, d2]
    have ec : (pTks v i).1 0 3 + 1 = pLen (pTks v i) ↔ (t + i) % L + 1 = L := by
      rw [a3, a5, nI_1]
      exact nI_eq (by omega) (by omega)
    refine ⟨by rw [f0, a1, nI_1]; rfl, ?_, f2, ?_, f3⟩
    · rw [f1]
      by_cases q : (t + i) % L + 1 = L
      · rw [if_pos q, if_pos q]; rfl
      · rw [if_neg q, if_neg q]
    · rw [f4, a4]
      by_cases q : (t + i) % L + 1 = L
      · rw [if_pos q]
        by_cases z : 0 < E - (t + i) / L
        · rw [if_pos ⟨ec.mpr q, (show (0 : Int32) < nI (E - (t + i) / L) from nI_lt (a := 0) (b := E - (t + i) / L) z (Nat.lt_of_le_of_lt (Nat.sub_le _ _) (by omega)))⟩, nI_dec z]
          congr 1
        · rw [if_neg (fun y => absurd y.2 (nI_nlt (a := 0) (b := E - (t + i) / L) (by omega) (by decide)))]
          congr 1
          omega
      · rw [if_neg q, if_neg (fun y => q (ec.mp y.1))]
theorem qpf (h1 : 1 ≤ n) (h5 : n ≤ 20) : f_passFrames A (nI n) = ((pTks (aV A) (pfN (aV A) n)).1 0 1, aRec A (pTks (aV A) (pfN (aV A) n))) := by
  show (if pIn (nI n) 1 20 = 0 then ((-2 : Int32), A) else ((pTks (aV A) (pfN (aV A) (cl (nI n)))).1 0 1, aRec A (pTks (aV A) (pfN (aV A) (cl (nI n)))))) = _
  rw [if_neg (show ¬ pIn (nI n) 1 20 = 0 from pin1 (lo := 1) (hi := 20) h1 h5 (by decide)), cl_of (by omega) rfl]
theorem qpf_bad (h : pIn x 1 20 = 0) : f_passFrames A x = (-2, A) := if_pos h
theorem fr_end {T F t L E : Nat} (ok : Inv v) (eT : v.1 0 1 = nI T) (eF : v.1 0 2 = nI F) (et : v.1 0 3 = nI t) (eL : pLen v = nI L) (eE : v.1 0 4 = nI E) (ht : t < L) (hL : L ≤ 320) (hE : E ≤ 50) (h1 : 1 ≤ n) :
    (pTks v (pfN v n)).1 0 1 = nI (T + (n * L - t)) ∧ (pTks v (pfN v n)).1 0 2 = nI (F + n) ∧ (pTks v (pfN v n)).1 0 3 = nI 0 ∧ (pTks v (pfN v n)).1 0 4 = nI (E - n) := by
  have hp : pfN v n = n * L - t := by unfold pfN; rw [eL, et, nI_clamp (by omega), nI_clamp (by omega)]
  have hn : L ≤ n * L := Nat.le_mul_of_pos_left L h1
  obtain ⟨a1, a2, a3, a4, -⟩ := fr_tks ok eT eF et eL eE ht hL hE (n * L - t)
  rw [hp]
  rw [show t + (n * L - t) = n * L by omega] at a2 a3 a4
  rw [Nat.mul_div_cancel n (show 0 < L by omega)] at a2 a4
  rw [Nat.mul_mod_left] at a3
  exact ⟨a1, a2, a3, a4⟩
theorem fr_due {T t L : Nat} (ht : t < L) (h1 : 1 ≤ n) : nI (T + (L - t)) + nI ((n - 1) * L) = nI (T + (n * L - t)) := by
  obtain ⟨m, rfl⟩ : ∃ m, n = m + 1 := ⟨n - 1, by omega⟩
  rw [nI_add, show m + 1 - 1 = m by omega, Nat.succ_mul]
  congr 1
  omega
theorem te_t {E : Nat} (hE : E ≤ 50) (hn : n ≤ 20) (c : nI E ≤ nI n) : 0 = nI (E - n) := by
  have := nI_le' (by omega) (by omega) c
  rw [show E - n = 0 by omega]; rfl
theorem te_f {E : Nat} (hE : E ≤ 50) (hn : n ≤ 20) (c : ¬ nI E ≤ nI n) : nI E - nI n = nI (E - n) := by
  have := nI_nle' (by omega) (by omega) c
  exact pk_sub (by omega)
/-! errors -/
theorem e_sD (h : pIn x 1 8 = 0) : f_setDigits A x = (-2, A) := if_pos h
theorem e_sW1 (h : ¬ vD (aV A) x) : f_setWidth A x y = (-1, A) := if_neg h
theorem e_sW2 (h : vD (aV A) x) (h2 : pIn y 4 40 = 0) : f_setWidth A x y = (-2, A) := (if_pos h).trans (if_pos h2)
theorem e_sG2 (h : vD (aV A) x) (h2 : pIn y 0 3 = 0) : f_setGuard A x y = (-2, A) := (if_pos h).trans (if_pos h2)
theorem e_sB2 (h : vD (aV A) x) (h2 : pIn y 0 15 = 0) : f_setBrightness A x y = (-2, A) := (if_pos h).trans (if_pos h2)
theorem e_sP2 (h : vD (aV A) x) (h2 : pIn y 0 255 = 0) : f_setPattern A x y = (-2, A) := (if_pos h).trans (if_pos h2)
theorem e_sP1 (h : ¬ vD (aV A) x) : f_setPattern A x y = (-1, A) := if_neg h
theorem e_sR1 (h : ¬ vD (aV A) x) : f_setGroup A x y = (-1, A) := if_neg h
theorem e_sR2 (h : vD (aV A) x) (h2 : pIn y 0 3 = 0) : f_setGroup A x y = (-1, A) := (if_pos h).trans (if_pos h2)
theorem e_bl1 (h : pIn x 1 3 = 0) : f_setBlink A x y z = (-1, A) := if_pos h
theorem e_bl2 (h : ¬ pIn x 1 3 = 0) (h2 : pIn y 1 50 = 0 ∨ pIn z 0 50 = 0) : f_setBlink A x y z = (-2, A) := (if_neg h).trans (if_pos h2)
theorem e_set1 (h : pIn x 0 2 = 0) : f_set A x y = (-1, A) := if_pos h
theorem e_set2 (h : ¬ pIn x 0 2 = 0) (h2 : pIn y (setLo x) (setHi x) = 0) : f_set A x y = (-2, A) := (if_neg h).trans (if_pos h2)
theorem e_rep (h : ¬ vD (aV A) x) : f_replace A x = (-1, A) := if_neg h
theorem e_test (h : pIn x 0 50 = 0) : f_test A x = (-2, A) := if_pos h
theorem e_pass (h : pIn x 1 500 = 0) : f_pass A x = (-2, A) := if_pos h
theorem e_keep (h : pIn x 0 1 = 0) : f_keep A x = (-1, A) := if_pos h
theorem e_rest (h : pIn x 0 1 = 0) : f_restore A x = (-1, A) := if_pos h
theorem e_stg (h : ¬ vD (aV A) x) : (f_steadyGlow A x).1 = -1 := if_neg h
theorem e_lit (h : ¬ vD (aV A) x) : (f_litIn A x y).1 = -1 := if_neg h
end P2
