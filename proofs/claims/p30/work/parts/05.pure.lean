def pIn (x lo hi : Int32) : Int32 := if x < lo ∨ hi < x then 0 else 1
theorem pIn_0 {x lo hi : Int32} (h : pIn x lo hi = 0) : x < lo ∨ hi < x := by
  unfold pIn at h
  by_cases q : x < lo ∨ hi < x
  · exact q
  · rw [if_neg q] at h
    exact absurd h (by decide)
theorem pIn_1 {x lo hi : Int32} (h : ¬ pIn x lo hi = 0) : ¬ (x < lo ∨ hi < x) := by
  intro q
  unfold pIn at h
  rw [if_pos q] at h
  exact h rfl
/-- x tells a digit -/
abbrev vD (v : SV) (x : Int32) : Prop := ¬ (x < 0 ∨ v.1 0 0 - 1 < x)
theorem pw_nil {D : va_G} {cl : List vw_C} {H : Heap} : va_P D cl [] H := fun k q h => by simp at h
def pLP (v : SV) (d : Nat) : Int32 := (v.1 (4 + d) 1 - v.1 (4 + d) 2) * v.1 (4 + d) 3 / 15
/-- where a slot begins -/
def pBeg (v : SV) : Nat → Int32
  | 0 => 0
  | d + 1 => pBeg v d + v.1 (4 + d) 1
def nOf (v : SV) : Nat := (v.1 0 0).toNatClampNeg
def pLen (v : SV) : Int32 := pBeg v (nOf v)
theorem nI_nle' {a b : Nat} (hb : b < 2 ^ 31) (ha : a < 2 ^ 31) (h : ¬ nI b ≤ nI a) : a < b := by
  rw [nI_leI hb ha] at h
  omega
theorem nI_le' {a b : Nat} (hb : b < 2 ^ 31) (ha : a < 2 ^ 31) (h : nI b ≤ nI a) : b ≤ a := by
  rw [nI_leI hb ha] at h
  omega
