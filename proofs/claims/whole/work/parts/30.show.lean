/-! the model's show -/
theorem pPat_pos {x : Int32} (h : ¬ pPat x < 0) : ¬ pPat x = -4 := fun z => h (by rw [z]; decide)
theorem pt_pos : ∀ i, i < 15 → ¬ ptF i < 0 := by decide
theorem pt_or : ∀ i, i < 15 → ptF i + 128 = ptF i ||| 128 := by decide
theorem pPat_neg {x : Int32} (h : pPat x < 0) : pPat x = -4 := by
  rcases pPat_cases x with ⟨j, hj, e⟩ | e
  · rw [e, pPat_ch j hj] at h
    exact absurd h (pt_pos j hj)
  · exact e
theorem pPat_or {x : Int32} (h : ¬ pPat x = -4) : pPat x + 128 = pPat x ||| 128 := by
  rcases pPat_cases x with ⟨j, hj, e⟩ | e
  · rw [e, pPat_ch j hj]
    exact pt_or j hj
  · exact absurd e h
theorem up_lt {P R : Nat → Int32} {n : Nat} (x : Int32) (h : ∀ j, j < n → R j = P j) : ∀ j, j < n + 1 → upd R n x j = upd P n x j := by
  intro j hj
  unfold upd
  split
  · rfl
  · exact h j (by omega)
theorem up_z {P : Nat → Int32} {n : Nat} (x : Int32) (h : ∀ j, n ≤ j → P j = 0) : ∀ j, n + 1 ≤ j → upd P n x j = 0 := by
  intro j hj
  unfold upd
  rw [if_neg (by omega)]
  exact h j (by omega)
theorem up_lt2 {P R : Nat → Int32} {n : Nat} (hn : 0 < n) (h : ∀ j, j < n → R j = P j) : ∀ j, j < n → upd R (n - 1) (R (n - 1) ||| 128) j = upd P (n - 1) (P (n - 1) ||| 128) j := by
  intro j hj
  unfold upd
  rw [h (n - 1) (by omega)]
  split
  · rfl
  · exact h j hj
theorem up_z2 {P : Nat → Int32} {n : Nat} (x : Int32) (hn : 0 < n) (h : ∀ j, n ≤ j → P j = 0) : ∀ j, n ≤ j → upd P (n - 1) x j = 0 := by
  intro j hj
  unfold upd
  rw [if_neg (by omega)]
  exact h j hj
theorem nI_4 {i : Nat} (h : i < 2 ^ 31) : ¬ nI i = -4 := fun z => nI_pos h (by rw [z]; decide)
theorem mG_rd {D : va_G} {ct : Nat → ClassId} {a : Nat → Nat} {K T : Int32} {g1 : Nat → Int32} {f2 : Nat → UInt32} {g3 : Nat → Int32} {f4 : Nat → UInt32} {g5 : Nat → Int32} {f6 : Nat → UInt32} {g7 : Nat → Int32} {f8 : Nat → UInt32} {g9 g10 R R' : Nat → Int32} {H : Heap} (e : R = R')
    (hP : va_P D vwCl (mG ct a K T g1 f2 g3 f4 g5 f6 g7 f8 g9 g10 R) H) : va_P D vwCl (mG ct a K T g1 f2 g3 f4 g5 f6 g7 f8 g9 g10 R') H := e ▸ hP
theorem mG_v {D : va_G} {ct : Nat → ClassId} {a : Nat → Nat} {K T : Int32} {v v' : SV} {f2 : Nat → UInt32} {g3 : Nat → Int32} {f4 : Nat → UInt32} {g5 : Nat → Int32} {f6 : Nat → UInt32} {g7 : Nat → Int32} {f8 : Nat → UInt32} {g9 g10 R : Nat → Int32} {H : Heap} (e : v = v')
    (hP : va_P D vwCl (mG ct a K T (rowOf v) f2 g3 f4 g5 f6 g7 f8 g9 g10 R) H) : va_P D vwCl (mG ct a K T (rowOf v') f2 g3 f4 g5 f6 g7 f8 g9 g10 R) H := e ▸ hP
theorem sh_end {D : va_G} {ct : Nat → ClassId} {a : Nat → Nat} {K T : Int32} (v : SV) {n : Nat} {P P' : Nat → Int32} {g3 : Nat → Int32} {f4 : Nat → UInt32} {g5 : Nat → Int32} {f6 : Nat → UInt32} {g7 : Nat → Int32} {f8 : Nat → UInt32} {g9 g10 R R' : Nat → Int32} {H : Heap} (e : P = P') (e2 : R = R')
    (hP : va_P D vwCl (mG ct a K T (rowOf (pPats v P n)) v.2 g3 f4 g5 f6 g7 f8 g9 g10 R) H) : va_P D vwCl (mG ct a K T (rowOf (pPats v P' n)) (pPats v P' n).2 g3 f4 g5 f6 g7 f8 g9 g10 R') H := by
  subst e e2
  rw [pPats_f]
  exact hP
