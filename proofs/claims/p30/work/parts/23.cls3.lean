theorem tk_step {v : SV} {W : SV} {i : Nat} (hW : W = pAll (pTk1 v) (pSlot v) (pLit v (pSlot v)) i) :
    sTri W i (dRun (if i = pSlot v then pLit v (pSlot v) else 0) (v.1 3 0) (v.1 3 2) (W.1 (4 + i), W.1 (12 + i), W.1 (20 + i)) 8) = pAll (pTk1 v) (pSlot v) (pLit v (pSlot v)) (i + 1) := by
  rw [pAll_s, ← hW]
  unfold pDigK
  have h3 : W.1 3 = v.1 3 := by rw [hW, pAll_lo _ _ _ (by decide), pTk1_3]
  rw [h3]
  rfl
theorem tk_eq {v : SV} (ok : Inv v) (h : ¬ (pTk3 v).1 0 3 < pLen v) : (pTk3 v).1 0 3 = pLen v := by
  obtain ⟨t, L, e1, e2, h1, h2⟩ := ok.2.2.2.2.2.1
  have e3 : (pTk3 v).1 0 3 = v.1 0 3 + 1 := by
    show (pTk2 v).1 0 3 + 1 = _
    rw [pTk2_0 v (by decide)]
  rw [e3, e1, e2] at h ⊢
  rw [nI_1] at h ⊢
  have h3 := nI_lt (a := t + 1) (b := L)
  have h4 : ¬ t + 1 < L := fun z => h (h3 z (by omega))
  rw [show t + 1 = L by omega]
theorem ne_of_lt32 {x y : Int32} (h : x < y) : ¬ x = y := fun e => Int32.lt_irrefl (e ▸ h)
/-- patterns taken from a row -/
def pPats (v : SV) (P : Nat → Int32) : Nat → SV
  | 0 => v
  | d + 1 => s2 (pPats v P d) (4 + d) 0 (P d)
theorem pPats_z (v : SV) (P : Nat → Int32) : pPats v P 0 = v := by rw [pPats]
theorem pPats_s (v : SV) (P : Nat → Int32) (d : Nat) : s2 (pPats v P d) (4 + d) 0 (P d) = pPats v P (d + 1) := by rw [pPats]
theorem pPats_lo (v : SV) (P : Nat → Int32) {i : Nat} (h : i < 4) : ∀ d, (pPats v P d).1 i = v.1 i := by
  intro d
  induction d with
  | zero => rfl
  | succ d ih => exact (sC_ne _ (by omega) _).trans ih
theorem pPats_f (v : SV) (P : Nat → Int32) : ∀ d, (pPats v P d).2 = v.2 := by
  intro d
  induction d with
  | zero => rfl
  | succ d ih => exact ih
/-! a state's cells ahead of others -/
theorem sa_get {ct : Nat → ClassId} {a : Nat → Nat} {v : SV} {X : va_W} {j : Nat} (hj : j < 29) : (stW ct a v ++ X)[j]? = some (a j, stV ct a v j) := by
  rw [List.getElem?_append_left (by rw [st_len]; exact hj)]
  exact st_get hj
theorem sa_getD {ct : Nat → ClassId} {a : Nat → Nat} {v : SV} {X : va_W} {d : Nat} (hd : d < 8) :
    (stW ct a v ++ X)[3 * d + 5]? = some (a (3 * d + 5), .inr (0, [.int (v.1 (4 + d) 1), .int (v.1 (4 + d) 2), .int (v.1 (4 + d) 3), .int (v.1 (4 + d) 0), .int (v.1 (4 + d) 4), .int (v.1 (4 + d) 5), .int (v.1 (4 + d) 6), .ref (a (3 * d + 6)), .ref (a (3 * d + 7))])) := by
  rw [sa_get (by omega), st_d0]
theorem sa_c0 {ct : Nat → ClassId} {a : Nat → Nat} {v : SV} {X : va_W} : (stW ct a v ++ X)[0]? = some (a 0, .inr (3, [.ref (a 1), .int (v.1 0 0), .ref (a 2), .ref (a 3), .ref (a 4), .int (v.1 0 1), .int (v.1 0 2), .int (v.1 0 3), .int (v.1 0 4), .int (v.1 0 5), .float (v.2 0), .float (v.2 1), .float (v.2 2)])) := sa_get (by decide)
theorem sa_c1 {ct : Nat → ClassId} {a : Nat → Nat} {v : SV} {X : va_W} : (stW ct a v ++ X)[1]? = some (a 1, .inl (ct 4, 8, .inr (.inr (.inr (.inr (fun i => some (a (3 * i + 5)))))))) := sa_get (by decide)
theorem sa_c2 {ct : Nat → ClassId} {a : Nat → Nat} {v : SV} {X : va_W} : (stW ct a v ++ X)[2]? = some (a 2, .inl (ct 0, 4, .inl (v.1 1))) := sa_get (by decide)
theorem sa_c3 {ct : Nat → ClassId} {a : Nat → Nat} {v : SV} {X : va_W} : (stW ct a v ++ X)[3]? = some (a 3, .inl (ct 0, 4, .inl (v.1 2))) := sa_get (by decide)
theorem sa_c4 {ct : Nat → ClassId} {a : Nat → Nat} {v : SV} {X : va_W} : (stW ct a v ++ X)[4]? = some (a 4, .inl (ct 0, 3, .inl (v.1 3))) := sa_get (by decide)
theorem sb_get {ct : Nat → ClassId} {a b : Nat → Nat} {v w : SV} {j : Nat} (hj : j < 29) : (stW ct a v ++ stW ct b w)[29 + j]? = some (b j, stV ct b w j) := by
  rw [List.getElem?_append_right (by rw [st_len]; omega), st_len, Nat.add_sub_cancel_left]
  exact st_get hj
theorem sb_c2 {ct : Nat → ClassId} {a b : Nat → Nat} {v w : SV} : (stW ct a v ++ stW ct b w)[31]? = some (b 2, .inl (ct 0, 4, .inl (w.1 1))) := sb_get (j := 2) (by decide)
theorem sb_c3 {ct : Nat → ClassId} {a b : Nat → Nat} {v w : SV} : (stW ct a v ++ stW ct b w)[32]? = some (b 3, .inl (ct 0, 4, .inl (w.1 2))) := sb_get (j := 3) (by decide)
theorem sb_c4 {ct : Nat → ClassId} {a b : Nat → Nat} {v w : SV} : (stW ct a v ++ stW ct b w)[33]? = some (b 4, .inl (ct 0, 3, .inl (w.1 3))) := sb_get (j := 4) (by decide)
theorem sa_set {ct : Nat → ClassId} {a : Nat → Nat} {v : SV} {X : va_W} {i : Nat} (hi : i < 29) (e : Nat × va_E) : (stW ct a v ++ X).set i e = (stW ct a v).set i e ++ X := by
  rw [List.set_append_left _ _ (by rw [st_len]; exact hi)]
section SA
variable {D : va_G} {ct : Nat → ClassId} {a : Nat → Nat} {v w : SV} {X : va_W} {H : Heap} {A : Nat → Prop}
theorem sa_p0 (f : Nat → Int32) (hP : va_P D vwCl ((stW ct a v ++ X).set 0 (a 0, cellV ct a v.2 f 0)) H) : va_P D vwCl (stW ct a (sC v 0 f) ++ X) H := by
  rw [sa_set (by decide)] at hP
  exact va_P.app (st_p0 f (pw_left hP)) (pw_right hP)
theorem sa_pf (φ : Nat → UInt32) (hP : va_P D vwCl ((stW ct a v ++ X).set 0 (a 0, cellV ct a φ (v.1 0) 0)) H) : va_P D vwCl (stW ct a (v.1, φ) ++ X) H := by
  rw [sa_set (by decide)] at hP
  exact va_P.app (st_pf φ (pw_left hP)) (pw_right hP)
theorem sa_p1 (f : Nat → Int32) (hP : va_P D vwCl ((stW ct a v ++ X).set 2 (a 2, cellV ct a v.2 f 2)) H) : va_P D vwCl (stW ct a (sC v 1 f) ++ X) H := by
  rw [sa_set (by decide)] at hP
  exact va_P.app (st_p1 f (pw_left hP)) (pw_right hP)
theorem sa_p2 (f : Nat → Int32) (hP : va_P D vwCl ((stW ct a v ++ X).set 3 (a 3, cellV ct a v.2 f 3)) H) : va_P D vwCl (stW ct a (sC v 2 f) ++ X) H := by
  rw [sa_set (by decide)] at hP
  exact va_P.app (st_p2 f (pw_left hP)) (pw_right hP)
theorem sa_p3 (f : Nat → Int32) (hP : va_P D vwCl ((stW ct a v ++ X).set 4 (a 4, cellV ct a v.2 f 4)) H) : va_P D vwCl (stW ct a (sC v 3 f) ++ X) H := by
  rw [sa_set (by decide)] at hP
  exact va_P.app (st_p3 f (pw_left hP)) (pw_right hP)
theorem sa_pD {d : Nat} (hd : d < 8) (f : Nat → Int32) (hP : va_P D vwCl ((stW ct a v ++ X).set (3 * d + 5) (a (3 * d + 5), .inr (0, [.int (f 1), .int (f 2), .int (f 3), .int (f 0), .int (f 4), .int (f 5), .int (f 6), .ref (a (3 * d + 6)), .ref (a (3 * d + 7))]))) H) : va_P D vwCl (stW ct a (sC v (4 + d) f) ++ X) H := by
  rw [sa_set (by omega)] at hP
  exact va_P.app (st_pD hd f (pw_left hP)) (pw_right hP)
theorem sa_dn (hD : va_D A (stW ct a v ++ X)) : va_D A (stW ct a w ++ X) := dw_congr (by rw [List.map_append, List.map_append, st_fst, st_fst]) hD
theorem sa_dset {i : Nat} {e : va_E} (hi : i < 29) (hD : va_D A ((stW ct a v ++ X).set i (a i, e))) : va_D A (stW ct a w ++ X) := by
  have h : (stW ct a v ++ X)[i]? = some (a i, stV ct a v i) := sa_get hi
  refine sa_dn (v := v) (dw_congr ?_ hD)
  apply List.ext_getElem?
  intro j
  rw [List.getElem?_map, List.getElem?_map]
  by_cases hj : i = j
  · subst hj
    rw [List.getElem?_set_self (List.getElem?_eq_some_iff.mp h).1, h]
    rfl
  · rw [List.getElem?_set_ne hj]
theorem sa_of (e : v = w) (hP : va_P D vwCl (stW ct a v ++ X) H) : va_P D vwCl (stW ct a w ++ X) H := e ▸ hP
theorem sa_dgP {d : Nat} (hd : d < 8) (hP : va_P D vwCl (stW ct a v ++ X) H) : va_P D vwCl (dgA ct a v d) H := st_dgP hd (pw_left hP)
/-- a digit's cells with other contents outside their bounds, within a state -/
theorem st_c2x {f : Nat → Int32} (hP : va_P D vwCl (stW ct a (sC v 1 f) ++ X) H) {g : Nat → Int32} (h : ∀ j, j < 4 → f j = g j) : va_P D vwCl (stW ct a (sC v 1 g) ++ X) H := by
  have e : (stW ct a (sC v 1 g) ++ X) = (stW ct a (sC v 1 f) ++ X).set 2 (a 2, cellV ct a (sC v 1 f).2 g 2) := by
    rw [sa_set (by decide), st_set (i := 2) (by decide)]
    show _ = stW ct a (sC (sC v 1 f) 1 g) ++ X
    rw [sC_sC]
  rw [e]
  refine pw_iff.mpr (fun q hq => ?_)
  rcases List.mem_or_eq_of_mem_set hq with h2 | h2
  · exact pw_iff.mp hP q h2
  · have h3 := pw_iff.mp hP _ (List.mem_of_getElem? (sa_c2 (X := X)))
    rw [sC_eq] at h3
    rw [h2]
    exact (ceq.i h).at h3
theorem st_c3x {f : Nat → Int32} (hP : va_P D vwCl (stW ct a (sC v 2 f) ++ X) H) {g : Nat → Int32} (h : ∀ j, j < 4 → f j = g j) : va_P D vwCl (stW ct a (sC v 2 g) ++ X) H := by
  have e : (stW ct a (sC v 2 g) ++ X) = (stW ct a (sC v 2 f) ++ X).set 3 (a 3, cellV ct a (sC v 2 f).2 g 3) := by
    rw [sa_set (by decide), st_set (i := 3) (by decide)]
    show _ = stW ct a (sC (sC v 2 f) 2 g) ++ X
    rw [sC_sC]
  rw [e]
  refine pw_iff.mpr (fun q hq => ?_)
  rcases List.mem_or_eq_of_mem_set hq with h2 | h2
  · exact pw_iff.mp hP q h2
  · have h3 := pw_iff.mp hP _ (List.mem_of_getElem? (sa_c3 (X := X)))
    rw [sC_eq] at h3
    rw [h2]
    exact (ceq.i h).at h3
theorem st_c4x {f : Nat → Int32} (hP : va_P D vwCl (stW ct a (sC v 3 f) ++ X) H) {g : Nat → Int32} (h : ∀ j, j < 3 → f j = g j) : va_P D vwCl (stW ct a (sC v 3 g) ++ X) H := by
  have e : (stW ct a (sC v 3 g) ++ X) = (stW ct a (sC v 3 f) ++ X).set 4 (a 4, cellV ct a (sC v 3 f).2 g 4) := by
    rw [sa_set (by decide), st_set (i := 4) (by decide)]
    show _ = stW ct a (sC (sC v 3 f) 3 g) ++ X
    rw [sC_sC]
  rw [e]
  refine pw_iff.mpr (fun q hq => ?_)
  rcases List.mem_or_eq_of_mem_set hq with h2 | h2
  · exact pw_iff.mp hP q h2
  · have h3 := pw_iff.mp hP _ (List.mem_of_getElem? (sa_c4 (X := X)))
    rw [sC_eq] at h3
    rw [h2]
    exact (ceq.i h).at h3
end SA
/-- copied so far: the digits below i -/
def cpD (v w : SV) : Nat → SV
  | 0 => v
  | i + 1 => sTri (cpD v w i) i (w.1 (4 + i), w.1 (12 + i), w.1 (20 + i))
theorem cpD_s (v w : SV) (i : Nat) : sTri (cpD v w i) i (w.1 (4 + i), w.1 (12 + i), w.1 (20 + i)) = cpD v w (i + 1) := by rw [cpD]
theorem cpD_z (v w : SV) : cpD v w 0 = v := by rw [cpD]
theorem cpD_at (v w : SV) {d : Nat} (hd : d < 8) : ∀ i, d < i → i ≤ 8 → (cpD v w i).1 (4 + d) = w.1 (4 + d) ∧ (cpD v w i).1 (12 + d) = w.1 (12 + d) ∧ (cpD v w i).1 (20 + d) = w.1 (20 + d) := by
  intro i
  induction i with
  | zero => intro h; omega
  | succ i ih =>
    intro h1 h2
    rw [← cpD_s]
    by_cases h : d = i
    · subst h
      have e := dTri_sTri (cpD v w d) d (w.1 (4 + d), w.1 (12 + d), w.1 (20 + d))
      unfold dTri at e
      exact ⟨congrArg (fun t : F3 => t.1) e, congrArg (fun t : F3 => t.2.1) e, congrArg (fun t : F3 => t.2.2) e⟩
    · obtain ⟨g1, g2, g3⟩ := ih (by omega) (by omega)
      unfold sTri
      refine ⟨?_, ?_, ?_⟩
      · rw [sC_ne _ (by omega), sC_ne _ (by omega), sC_ne _ (by omega)]; exact g1
      · rw [sC_ne _ (by omega), sC_ne _ (by omega), sC_ne _ (by omega)]; exact g2
      · rw [sC_ne _ (by omega), sC_ne _ (by omega), sC_ne _ (by omega)]; exact g3
/-- the state behind the copying: what it shows is w -/
theorem stW_eq {ct : Nat → ClassId} {a : Nat → Nat} {v w : SV} (h0 : ∀ j, j < 6 → v.1 0 j = w.1 0 j) (hf : ∀ j, j < 3 → v.2 j = w.2 j) (h1 : v.1 1 = w.1 1) (h2 : v.1 2 = w.1 2) (h3 : v.1 3 = w.1 3)
    (hd : ∀ d, d < 8 → v.1 (4 + d) = w.1 (4 + d) ∧ v.1 (12 + d) = w.1 (12 + d) ∧ v.1 (20 + d) = w.1 (20 + d)) : stW ct a v = stW ct a w := by
  unfold stW
  refine List.map_congr_left (fun j hj => ?_)
  have hj : j < 29 := List.mem_range.mp hj
  congr 1
  by_cases h5 : j < 5
  · match j, h5 with
    | 0, _ =>
      show cellV ct a v.2 (v.1 0) 0 = cellV ct a w.2 (w.1 0) 0
      unfold cellV
      rw [h0 0 (by decide), h0 1 (by decide), h0 2 (by decide), h0 3 (by decide), h0 4 (by decide), h0 5 (by decide), hf 0 (by decide), hf 1 (by decide), hf 2 (by decide)]
    | 1, _ => rfl
    | 2, _ => show cellV ct a v.2 (v.1 1) 2 = cellV ct a w.2 (w.1 1) 2; rw [h1]; rfl
    | 3, _ => show cellV ct a v.2 (v.1 2) 3 = cellV ct a w.2 (w.1 2) 3; rw [h2]; rfl
    | 4, _ => show cellV ct a v.2 (v.1 3) 4 = cellV ct a w.2 (w.1 3) 4; rw [h3]; rfl
  · obtain ⟨d, hd8, hq⟩ : ∃ d, d < 8 ∧ (j = 3 * d + 5 ∨ j = 3 * d + 6 ∨ j = 3 * d + 7) := ⟨(j - 5) / 3, by omega, by omega⟩
    obtain ⟨g1, g2, g3⟩ := hd d hd8
    rcases hq with rfl | rfl | rfl
    · rw [st_d0, st_d0, g1]
    · rw [st_d1, st_d1, g2]
    · rw [st_d2, st_d2, g3]
theorem sb_perm {ct : Nat → ClassId} {a b : Nat → Nat} {v w : SV} {d : Nat} (hd : d < 8) : (stW ct a v ++ stW ct b w).Perm ((dgA ct a v d ++ dgA ct b w d) ++ (stR ct a v d ++ stR ct b w d)) := by
  refine ((st_perm hd).append (st_perm hd)).trans ?_
  rw [List.append_assoc, List.append_assoc]
  exact List.Perm.append_left _ (List.perm_append_comm_assoc _ _ _)
theorem sb_perm2 {ct : Nat → ClassId} {a b : Nat → Nat} {v w : SV} {d : Nat} (hd : d < 8) (t : F3) : (stW ct a (sTri v d t) ++ stW ct b w).Perm ((dgW ct (a (3 * d + 5)) (a (3 * d + 6)) (a (3 * d + 7)) t.1 t.2.1 t.2.2 ++ dgA ct b w d) ++ (stR ct a v d ++ stR ct b w d)) := by
  refine ((st_permT hd t).append (st_perm hd)).trans ?_
  rw [List.append_assoc, List.append_assoc]
  exact List.Perm.append_left _ (List.perm_append_comm_assoc _ _ _)
theorem pCnt_of (v : SV) (n i : Nat) (h : i = n - nOf v) : sC (pNews v (nOf v) i) 0 (upd ((pNews v (nOf v) i).1 0) 0 (nI n)) = pCnt v n := by
  subst h
  rfl
theorem pCnt_id {v : SV} (ok : Inv v) {n : Nat} (h : nOf v = n) : pCnt v n = v := by
  rw [← pCnt_of v n 0 (by omega), pNews_z]
  exact s2_id (i := 0) (j := 0) (by rw [← h]; exact ok.cnt)
theorem sp_get {ct : Nat → ClassId} {a : Nat → Nat} {v : SV} {e : Nat × va_E} : (stW ct a v ++ [e])[29]? = some e := by
  rw [List.getElem?_append_right (by rw [st_len]; omega), st_len]
  rfl
