theorem cpy_0 (f g : Nat → Int32) (n : Nat) : ∀ j, j < n → va_cpy f g 0 0 n j = f j := by
  intro j hj
  unfold va_cpy
  rw [if_pos (by omega)]
  congr 1
  omega
theorem dg2_cpy {D : va_G} {ct : Nat → ClassId} {x y z x2 y2 z2 : Nat} {f2 g u g2 u2 : Nat → Int32} {H : Heap}
    (hP : va_P D vwCl (dgW ct x y z f2 (va_cpy g2 g 0 0 8) (va_cpy u2 u 0 0 8) ++ dgW ct x2 y2 z2 f2 g2 u2) H) : va_P D vwCl (dgW ct x y z f2 g2 u2 ++ dgW ct x2 y2 z2 f2 g2 u2) H :=
  va_P.app (dg_ext (pw_left hP) (fun _ _ => rfl) (cpy_0 _ _ 8) (cpy_0 _ _ 8)) (pw_right hP)
theorem dg2_dn {A : Nat → Prop} {ct : Nat → ClassId} {x y z x2 y2 z2 : Nat} {f g u f' g' u' f2 g2 u2 : Nat → Int32} (hD : va_D A (dgW ct x y z f g u ++ dgW ct x2 y2 z2 f2 g2 u2)) : va_D A (dgW ct x y z f' g' u' ++ dgW ct x2 y2 z2 f2 g2 u2) := dw_c hD rfl
/-- behind the digits: the rest of the copying -/
def cpN (V w : SV) (g : Nat → Int32) (ψ : Nat → UInt32) : SV := (va_up (va_up (va_up (va_up V.1 0 g) 1 (w.1 1)) 2 (w.1 2)) 3 (w.1 3), ψ)
theorem cpN_0 (v w : SV) (g g' : Nat → Int32) (ψ : Nat → UInt32) : sC (cpN v w g ψ) 0 g' = cpN v w g' ψ := by
  refine SV_ext (fun i j => ?_) rfl
  rw [sC_at]
  unfold cpN va_up
  by_cases h0 : i = 0
  · subst h0; rfl
  · rw [if_neg h0]
    by_cases h3 : i = 3
    · subst h3; rfl
    · by_cases h2 : i = 2
      · subst h2; rfl
      · by_cases h1 : i = 1
        · subst h1; rfl
        · simp only [h0, h1, h2, h3, if_false]
theorem cpN_i (V w : SV) (g : Nat → Int32) : sC (sC (sC (sC V 0 g) 1 (w.1 1)) 2 (w.1 2)) 3 (w.1 3) = cpN V w g V.2 := rfl
theorem cpN_w {ct : Nat → ClassId} {a : Nat → Nat} {v w V : SV} {g : Nat → Int32} {ψ : Nat → UInt32} (hV : V = cpD v w 8) (hg : ∀ j, j < 6 → g j = w.1 0 j) (hf : ∀ j, j < 3 → ψ j = w.2 j) : stW ct a (cpN V w g ψ) = stW ct a w := by
  refine stW_eq hg hf rfl rfl rfl (fun d hd => ?_)
  obtain ⟨g1, g2, g3⟩ := cpD_at v w hd 8 hd (Nat.le_refl 8)
  rw [← hV] at g1 g2 g3
  unfold cpN
  refine ⟨?_, ?_, ?_⟩
  · refine Eq.trans ?_ g1
    show va_up (va_up (va_up (va_up V.1 0 g) 1 (w.1 1)) 2 (w.1 2)) 3 (w.1 3) (4 + d) = _
    rw [va_up_ne _ _ (by omega), va_up_ne _ _ (by omega), va_up_ne _ _ (by omega), va_up_ne _ _ (by omega)]
  · refine Eq.trans ?_ g2
    show va_up (va_up (va_up (va_up V.1 0 g) 1 (w.1 1)) 2 (w.1 2)) 3 (w.1 3) (12 + d) = _
    rw [va_up_ne _ _ (by omega), va_up_ne _ _ (by omega), va_up_ne _ _ (by omega), va_up_ne _ _ (by omega)]
  · refine Eq.trans ?_ g3
    show va_up (va_up (va_up (va_up V.1 0 g) 1 (w.1 1)) 2 (w.1 2)) 3 (w.1 3) (20 + d) = _
    rw [va_up_ne _ _ (by omega), va_up_ne _ _ (by omega), va_up_ne _ _ (by omega), va_up_ne _ _ (by omega)]
theorem sa_w {D : va_G} {ct : Nat → ClassId} {a : Nat → Nat} {v w : SV} {X : va_W} {H : Heap} (e : stW ct a v = stW ct a w) (hP : va_P D vwCl (stW ct a v ++ X) H) : va_P D vwCl (stW ct a w ++ X) H := e ▸ hP
/-! the history's cells -/
def rwW (ct : Nat → ClassId) (ad : Nat → Nat → Nat) (w : Nat → SV) : va_W := (List.range 5).flatMap (fun i => stW ct (ad i) (w i))
def rwR (ct : Nat → ClassId) (ad : Nat → Nat → Nat) (w : Nat → SV) (n : Nat) : va_W := ((List.range 5).filter (fun i => i ≠ n)).flatMap (fun i => stW ct (ad i) (w i))
abbrev hsH (ct : Nat → ClassId) (h rw : Nat) (ad : Nat → Nat → Nat) (nx k : Int32) : va_W := [(h, .inr (1, [.ref rw, .int nx, .int k])), (rw, .inl (ct 5, 5, .inr (.inr (.inr (.inr (fun i => some (ad i 0)))))))]
abbrev hsW (ct : Nat → ClassId) (h rw : Nat) (ad : Nat → Nat → Nat) (nx k : Int32) (w : Nat → SV) (b : Nat → Nat) (v : SV) : va_W := hsH ct h rw ad nx k ++ (rwW ct ad w ++ stW ct b v)
theorem rw_perm {ct : Nat → ClassId} {ad : Nat → Nat → Nat} {w : Nat → SV} {n : Nat} (hn : n < 5) : (rwW ct ad w).Perm (stW ct (ad n) (w n) ++ rwR ct ad w n) := by
  have h1 : ∀ n, n < 5 → (List.range 5).Perm ([n] ++ (List.range 5).filter (fun i => i ≠ n)) := by decide
  have h2 := (h1 n hn).flatMap_right (fun i => stW ct (ad i) (w i))
  rw [List.flatMap_append] at h2
  refine h2.trans (List.Perm.of_eq ?_)
  show ([n].flatMap (fun i => stW ct (ad i) (w i))) ++ _ = _
  rw [List.flatMap_cons, List.flatMap_nil, List.append_nil]
  rfl
theorem rwR_up {ct : Nat → ClassId} {ad : Nat → Nat → Nat} {w : Nat → SV} {n : Nat} (v : SV) : rwR ct ad (va_up w n v) n = rwR ct ad w n := by
  unfold rwR
  rw [List.flatMap_def, List.flatMap_def]
  congr 1
  refine List.map_congr_left (fun i hi => ?_)
  have h := (List.mem_filter.mp hi).2
  simp only [decide_eq_true_eq, ne_eq, decide_not, Bool.not_eq_true', decide_eq_false_iff_not] at h
  rw [va_up_ne _ _ h]
theorem rw_permU {ct : Nat → ClassId} {ad : Nat → Nat → Nat} {w : Nat → SV} {n : Nat} (hn : n < 5) (v : SV) : (rwW ct ad (va_up w n v)).Perm (stW ct (ad n) v ++ rwR ct ad w n) := by
  have h := rw_perm (ct := ct) (ad := ad) (w := va_up w n v) hn
  rw [va_up_self, rwR_up] at h
  exact h
theorem p4 {α : Type} (h s r b : List α) : (h ++ ((s ++ r) ++ b)).Perm ((s ++ b) ++ (h ++ r)) := by
  have h1 : (h ++ ((s ++ r) ++ b)).Perm (h ++ ((s ++ b) ++ r)) := by
    refine List.Perm.append_left _ ?_
    rw [List.append_assoc, List.append_assoc]
    exact List.Perm.append_left _ List.perm_append_comm
  exact h1.trans (List.perm_append_comm_assoc _ _ _)
theorem p5 {α : Type} (h s r b : List α) : (h ++ ((s ++ r) ++ b)).Perm ((b ++ s) ++ (h ++ r)) := (p4 h s r b).trans (List.Perm.append_right _ List.perm_append_comm)
theorem hs_perm {ct : Nat → ClassId} {h rw : Nat} {ad : Nat → Nat → Nat} {nx k : Int32} {w : Nat → SV} {b : Nat → Nat} {v : SV} {n : Nat} (hn : n < 5) :
    (hsW ct h rw ad nx k w b v).Perm ((stW ct (ad n) (w n) ++ stW ct b v) ++ (hsH ct h rw ad nx k ++ rwR ct ad w n)) :=
  (List.Perm.append_left _ (List.Perm.append_right _ (rw_perm hn))).trans (p4 _ _ _ _)
theorem hs_permU {ct : Nat → ClassId} {h rw : Nat} {ad : Nat → Nat → Nat} {nx k : Int32} {w : Nat → SV} {b : Nat → Nat} {v v' : SV} {n : Nat} (hn : n < 5) :
    (hsW ct h rw ad nx k (va_up w n v') b v).Perm ((stW ct (ad n) v' ++ stW ct b v) ++ (hsH ct h rw ad nx k ++ rwR ct ad w n)) :=
  (List.Perm.append_left _ (List.Perm.append_right _ (rw_permU hn v'))).trans (p4 _ _ _ _)
theorem hs_perm5 {ct : Nat → ClassId} {h rw : Nat} {ad : Nat → Nat → Nat} {nx k : Int32} {w : Nat → SV} {b : Nat → Nat} {v : SV} {n : Nat} (hn : n < 5) :
    (hsW ct h rw ad nx k w b v).Perm ((stW ct b v ++ stW ct (ad n) (w n)) ++ (hsH ct h rw ad nx k ++ rwR ct ad w n)) :=
  (List.Perm.append_left _ (List.Perm.append_right _ (rw_perm hn))).trans (p5 _ _ _ _)
def nxt (n : Nat) : Nat := if n < 4 then n + 1 else 0
def prv (n : Nat) : Nat := if 0 < n then n - 1 else 4
theorem kPush_min {k : Nat} (hk : k ≤ 5) : (if nI k + 1 < 5 then nI k + 1 else 5) = nI (kPush k) := by
  unfold kPush
  rw [nI_1]
  have h5 : (5 : Int32) = nI 5 := rfl
  rw [h5]
  by_cases h : k + 1 < 5
  · rw [if_pos (nI_lt h (by decide)), if_neg (by omega)]
  · rw [if_neg (nI_nlt (by omega) (by omega))]
    by_cases h2 : k = 5
    · rw [if_pos h2]
    · rw [if_neg h2, show k + 1 = 5 by omega]
theorem prv_lt {n : Nat} (h : n < 5) : prv n < 5 := by unfold prv; split <;> omega
theorem nxt_lt {n : Nat} (h : n < 5) : nxt n < 5 := by unfold nxt; split <;> omega
theorem nI_dec {n : Nat} (h : 0 < n) : nI n - 1 = nI (n - 1) := by
  obtain ⟨m, rfl⟩ : ∃ m, n = m + 1 := ⟨n - 1, by omega⟩
  exact nI_pred m
