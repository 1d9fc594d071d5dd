theorem dg_ext {D : va_G} {ct : Nat → ClassId} {x y z : Nat} {f g u f' g' u' : Nat → Int32} {H : Heap} (hP : va_P D vwCl (dgW ct x y z f g u) H) (hf : ∀ j, j < 7 → f j = f' j) (hg : ∀ j, j < 8 → g j = g' j) (hu : ∀ j, j < 8 → u j = u' j) : va_P D vwCl (dgW ct x y z f' g' u') H := by
  refine ceqs.P (ws := dgW ct x y z f g u) ⟨Or.inl ?_, ceq.i hg, ceq.i hu, trivial⟩ hP
  rw [hf 0 (by decide), hf 1 (by decide), hf 2 (by decide), hf 3 (by decide), hf 4 (by decide), hf 5 (by decide), hf 6 (by decide)]
theorem dg_dn {A : Nat → Prop} {ct : Nat → ClassId} {x y z : Nat} {f g u f' g' u' : Nat → Int32} (hD : va_D A (dgW ct x y z f g u)) : va_D A (dgW ct x y z f' g' u') := dw_c hD rfl
theorem st_pC {D : va_G} {ct : Nat → ClassId} {a : Nat → Nat} {v : SV} {H : Heap} {f : Nat → Int32} (g : Nat → Int32) (hP : va_P D vwCl ((stW ct a (sC v 0 f)).set 0 (a 0, cellV ct a v.2 g 0)) H) : va_P D vwCl (stW ct a (sC v 0 g)) H := by
  have h := st_p0 (v := sC v 0 f) g hP
  rw [sC_sC] at h
  exact h
theorem st_pf {D : va_G} {ct : Nat → ClassId} {a : Nat → Nat} {v : SV} {H : Heap} (φ : Nat → UInt32) (hP : va_P D vwCl ((stW ct a v).set 0 (a 0, cellV ct a φ (v.1 0) 0)) H) : va_P D vwCl (stW ct a (v.1, φ)) H := by
  have e : (stW ct a v).set 0 (a 0, cellV ct a φ (v.1 0) 0) = stW ct a (v.1, φ) := by
    apply List.ext_getElem?
    intro j
    by_cases hj : j < 29
    · rw [st_get hj]
      by_cases h : 0 = j
      · subst h
        rw [List.getElem?_set_self (by rw [st_len]; exact hj)]
        rfl
      · rw [List.getElem?_set_ne h, st_get hj]
        congr 2
        match j, h with
        | 1, _ => rfl
        | 2, _ => rfl
        | 3, _ => rfl
        | 4, _ => rfl
        | i + 5, _ => rfl
    · rw [List.getElem?_eq_none (by rw [List.length_set, st_len]; omega), List.getElem?_eq_none (by rw [st_len]; omega)]
  rw [e] at hP
  exact hP
theorem st_pD {D : va_G} {ct : Nat → ClassId} {a : Nat → Nat} {v : SV} {H : Heap} {d : Nat} (hd : d < 8) (f : Nat → Int32)
    (hP : va_P D vwCl ((stW ct a v).set (3 * d + 5) (a (3 * d + 5), .inr (0, [.int (f 1), .int (f 2), .int (f 3), .int (f 0), .int (f 4), .int (f 5), .int (f 6), .ref (a (3 * d + 6)), .ref (a (3 * d + 7))]))) H) : va_P D vwCl (stW ct a (sC v (4 + d) f)) H := by
  rw [st_setD hd] at hP
  exact hP
theorem st_permT {ct : Nat → ClassId} {a : Nat → Nat} {v : SV} {d : Nat} (hd : d < 8) (t : F3) : (stW ct a (sTri v d t)).Perm (dgW ct (a (3 * d + 5)) (a (3 * d + 6)) (a (3 * d + 7)) t.1 t.2.1 t.2.2 ++ stR ct a v d) := st_perm2 hd rfl
theorem s2_id {v : SV} {i j : Nat} {x : Int32} (h : v.1 i j = x) : s2 v i j x = v := by
  refine SV_ext (fun i' j' => ?_) rfl
  rw [s2_at]
  by_cases q : i' = i ∧ j' = j
  · rw [if_pos q, q.1, q.2, h]
  · rw [if_neg q]
theorem dRun_s0 {lit dec life : Int32} {t : F3} {k : Nat} (h : bit lit k = 0) : dRun lit dec life t (k + 1) = ((dRun lit dec life t k).1, upd (dRun lit dec life t k).2.1 k (pDar ((dRun lit dec life t k).2.1 k) dec), (dRun lit dec life t k).2.2) := by
  rw [dRun, decide_eq_false (show ¬ bit lit k = 1 by rw [h]; decide)]
  rfl
theorem dRun_s1 {lit dec life : Int32} {t : F3} {k : Nat} (h : ¬ bit lit k = 0) (hl : ¬ life ≤ (dRun lit dec life t k).2.2 k + 1) : dRun lit dec life t (k + 1) = ((dRun lit dec life t k).1, upd (dRun lit dec life t k).2.1 k (pBri ((dRun lit dec life t k).2.1 k)), upd (dRun lit dec life t k).2.2 k ((dRun lit dec life t k).2.2 k + 1)) := by
  rw [dRun, decide_eq_true (show bit lit k = 1 from (bit01 lit k).resolve_left h)]
  unfold dStep
  rw [if_neg (fun q => hl q.2), if_pos rfl, if_pos rfl]
theorem dRun_s2 {lit dec life : Int32} {t : F3} {k : Nat} (h : ¬ bit lit k = 0) (hl : life ≤ (dRun lit dec life t k).2.2 k + 1) : dRun lit dec life t (k + 1) = (upd (dRun lit dec life t k).1 6 ((dRun lit dec life t k).1 6 ||| (1 : Int32) <<< (nI k &&& 31)), upd (dRun lit dec life t k).2.1 k (pBri ((dRun lit dec life t k).2.1 k)), upd (dRun lit dec life t k).2.2 k ((dRun lit dec life t k).2.2 k + 1)) := by
  rw [dRun, decide_eq_true (show bit lit k = 1 from (bit01 lit k).resolve_left h)]
  unfold dStep
  rw [if_pos ⟨rfl, hl⟩, if_pos rfl, if_pos rfl]
theorem dRun_z (lit dec life : Int32) (t : F3) : dRun lit dec life t 0 = t := by rw [dRun]
theorem dg_of {D : va_G} {ct : Nat → ClassId} {x y z : Nat} {t t' : F3} {H : Heap} (e : t = t') (hP : va_P D vwCl (dgW ct x y z t.1 t.2.1 t.2.2) H) : va_P D vwCl (dgW ct x y z t'.1 t'.2.1 t'.2.2) H := e ▸ hP
/-- the tick's count, the other way round -/
theorem pTk1_pos2 {v : SV} (h : pDrv v (pSlot v)) : sC (sC v (4 + pSlot v) (upd (v.1 (4 + pSlot v)) 5 (v.1 (4 + pSlot v) 5 + 1))) 0 (upd (v.1 0) 5 (v.1 0 5 + 1)) = pTk1 v := by
  unfold pTk1
  rw [if_pos h]
  refine SV_ext (fun i j => ?_) rfl
  rw [s2_at, s2_at, sC_at, sC_at]
  unfold upd
  by_cases h1 : i = 0
  · subst h1
    have hn : ¬ (0 = 4 + pSlot v ∧ j = 5) := fun q => by omega
    rw [if_pos rfl, if_neg hn]
    by_cases h2 : j = 5
    · rw [if_pos h2, if_pos ⟨rfl, h2⟩]
    · rw [if_neg h2, if_neg (fun q => h2 q.2)]
  · rw [if_neg h1]
    by_cases h3 : i = 4 + pSlot v
    · subst h3
      rw [if_pos rfl]
      by_cases h2 : j = 5
      · rw [if_pos h2, if_pos ⟨rfl, h2⟩]
      · rw [if_neg h2, if_neg (fun q => h2 q.2), if_neg (fun q => h1 q.1)]
    · rw [if_neg h3, if_neg (fun q => h3 q.1), if_neg (fun q => h1 q.1)]
theorem st_of {D : va_G} {ct : Nat → ClassId} {a : Nat → Nat} {v w : SV} {H : Heap} (e : v = w) (hP : va_P D vwCl (stW ct a v) H) : va_P D vwCl (stW ct a w) H := e ▸ hP
theorem pLit_rg {v : SV} (ok : Inv v) {d : Nat} (hd : d < nOf v) : rg (pLit v d) 0 255 := by
  have e : ∃ x y : Int32, pLit v d = x &&& y ∧ (x = 255 ∨ rg x 0 255) ∨ pLit v d = 0 := by
    unfold pLit
    split
    · refine ⟨(if 0 < v.1 0 4 then 255 else v.1 (4 + d) 0), v.1 (4 + d) 6 ^^^ -1, Or.inl ⟨rfl, ?_⟩⟩
      split
      · exact Or.inl rfl
      · exact Or.inr (ok.dg hd).2.2.2.2.1
    · exact ⟨0, 0, Or.inr rfl⟩
  obtain ⟨x, y, ⟨e1, e2⟩ | e1⟩ := e
  · have hx : rg x 0 255 := by
      rcases e2 with h | h
      · exact ⟨255, by omega, by omega, h⟩
      · exact h
    obtain ⟨k, -, hk, rfl⟩ := hx
    rw [e1]
    refine ⟨((nI k).toBitVec.toNat &&& y.toBitVec.toNat), Nat.zero_le _, ?_, ?_⟩
    · have h1 : (nI k).toBitVec.toNat &&& y.toBitVec.toNat ≤ (nI k).toBitVec.toNat := Nat.and_le_left
      rw [pk_tn (by omega)] at h1 ⊢
      omega
    · apply Int32.toBitVec_inj.mp
      apply BitVec.eq_of_toNat_eq
      rw [pk_tn (Nat.lt_of_le_of_lt Nat.and_le_left (nI k).toBitVec.isLt)]
      exact BitVec.toNat_and _ _
  · rw [e1]
    exact ⟨0, by omega, by omega, rfl⟩
theorem pEnd_same (v : SV) : sC v 0 (upd (upd (v.1 0) 2 (v.1 0 2 + 1)) 3 0) = sC v 0 (upd (upd (upd (v.1 0) 2 (v.1 0 2 + 1)) 3 0) 4 (v.1 0 4)) := by
  congr 1
  funext j
  unfold upd
  by_cases h : j = 4
  · subst h; rfl
  · rw [if_neg h]
