def rg (x : Int32) (lo hi : Nat) : Prop := ∃ k, lo ≤ k ∧ k ≤ hi ∧ x = nI k
/-- a float that isn't less than 0 and at most the number with the bits B -/
def fr (x B : UInt32) : Prop := Jvm.FP.Core.FFin x ∧ 0 ≤ Jvm.FP.Core.zval Jvm.FP.Core.b32 (Jvm.FP.Core.val32 x) ∧ Jvm.FP.Core.zval Jvm.FP.Core.b32 (Jvm.FP.Core.val32 x) ≤ Jvm.FP.Core.zval Jvm.FP.Core.b32 (Jvm.FP.Core.val32 B)
/-- current and peak at most 32, the charge no NaN -/
def FI (φ : Nat → UInt32) : Prop := fr (φ 0) 1107296256 ∧ fr (φ 1) 1107296256 ∧ Jvm.FP.Core.val32 (φ 2) ≠ .nan
def Inv (v : SV) : Prop := rg (v.1 0 0) 1 8 ∧
  (∀ d, d < nOf v → rg (v.1 (4 + d) 1) 4 40 ∧ rg (v.1 (4 + d) 2) 0 3 ∧ rg (v.1 (4 + d) 3) 0 15 ∧ rg (v.1 (4 + d) 4) 0 3 ∧ rg (v.1 (4 + d) 0) 0 255 ∧ rg (v.1 (4 + d) 6) 0 255) ∧
  (∀ g, 0 < g → g < 4 → rg (v.1 1 g) 1 50 ∧ rg (v.1 2 g) 0 50) ∧ (v.1 1 0 = 0 ∧ v.1 2 0 = 0) ∧ rg (v.1 3 0) 2 50 ∧
  (∃ t L, v.1 0 3 = nI t ∧ pLen v = nI L ∧ t < L ∧ L ≤ 320) ∧ rg (v.1 0 4) 0 50 ∧ FI v.2
theorem rg.ne0 {x : Int32} {lo hi : Nat} (h : rg x lo hi) (h1 : 0 < lo) (h2 : hi < 2 ^ 31) : ¬ x = 0 := by
  obtain ⟨k, a, b, rfl⟩ := h
  exact nI_ne0 (by omega) (by omega)
theorem rg.nn {x : Int32} {lo hi : Nat} (h : rg x lo hi) (h2 : hi < 2 ^ 31) : ¬ x < 0 := by
  obtain ⟨k, a, b, rfl⟩ := h
  exact nI_pos (by omega)
theorem Inv.n {v : SV} (h : Inv v) : 1 ≤ nOf v ∧ nOf v ≤ 8 ∧ v.1 0 0 = nI (nOf v) := by
  obtain ⟨⟨k, a, b, e⟩, -⟩ := h
  have e2 : nOf v = k := by unfold nOf; rw [e]; exact nI_clamp (by omega)
  rw [e2]
  exact ⟨a, b, e⟩
theorem Inv.n8 {v : SV} (h : Inv v) : nOf v ≤ 8 := h.n.2.1
theorem Inv.n1 {v : SV} (h : Inv v) : 1 ≤ nOf v := h.n.1
theorem Inv.cnt {v : SV} (h : Inv v) : v.1 0 0 = nI (nOf v) := h.n.2.2
theorem Inv.dg {v : SV} (h : Inv v) {d : Nat} (hd : d < nOf v) : rg (v.1 (4 + d) 1) 4 40 ∧ rg (v.1 (4 + d) 2) 0 3 ∧ rg (v.1 (4 + d) 3) 0 15 ∧ rg (v.1 (4 + d) 4) 0 3 ∧ rg (v.1 (4 + d) 0) 0 255 ∧ rg (v.1 (4 + d) 6) 0 255 := h.2.1 d hd
theorem Inv.gr {v : SV} (h : Inv v) {d : Nat} (hd : d < nOf v) : ∃ g, g < 4 ∧ v.1 (4 + d) 4 = nI g := by
  obtain ⟨k, -, b, e⟩ := (h.dg hd).2.2.2.1
  exact ⟨k, by omega, e⟩
theorem Inv.tick {v : SV} (h : Inv v) : v.1 0 3 < pLen v := by
  obtain ⟨t, L, e1, e2, h1, h2⟩ := h.2.2.2.2.2.1
  rw [e1, e2]
  exact nI_lt h1 (by omega)
theorem Inv.dec {v : SV} (h : Inv v) : ¬ v.1 3 0 = 0 := h.2.2.2.2.1.ne0 (by decide) (by decide)
theorem Inv.per {v : SV} (h : Inv v) {g : Nat} (h0 : 0 < g) (h4 : g < 4) : ¬ v.1 1 g + v.1 2 g = 0 := by
  obtain ⟨⟨a, a1, a2, e1⟩, ⟨b, b1, b2, e2⟩⟩ := h.2.2.1 g h0 h4
  rw [e1, e2, nI_add]
  exact nI_ne0 (by omega) (by omega)
/-- the slot of the next tick -/
def pSlotF (v : SV) : Nat → Nat → Nat
  | 0, d => d
  | k + 1, d => if v.1 0 3 < pBeg v (d + 1) then d else pSlotF v k (d + 1)
def pSlot (v : SV) : Nat := pSlotF v 8 0
theorem pSlot_exit {v : SV} {i : Nat} (hi : i < 8) (h : v.1 0 3 < pBeg v (i + 1)) : pSlotF v (8 - i) i = i := by
  rw [show 8 - i = (7 - i) + 1 by omega]
  show (if _ then _ else _) = _
  rw [if_pos h]
theorem pSlot_next {v : SV} {i : Nat} (hi : i < 8) (h : ¬ v.1 0 3 < pBeg v (i + 1)) : pSlotF v (8 - i) i = pSlotF v (8 - (i + 1)) (i + 1) := by
  rw [show 8 - i = (8 - (i + 1)) + 1 by omega]
  show (if _ then _ else _) = _
  rw [if_neg h]
/-- the slot lies within the digits -/
theorem pSlot_lt {v : SV} (h8 : nOf v ≤ 8) (h1 : 1 ≤ nOf v) (ht : v.1 0 3 < pLen v) : pSlot v < nOf v ∧ v.1 0 3 < pBeg v (pSlot v + 1) := by
  have key : ∀ k i, k = nOf v - i → i < nOf v → pSlotF v (8 - i) i < nOf v ∧ v.1 0 3 < pBeg v (pSlotF v (8 - i) i + 1) := by
    intro k
    induction k with
    | zero => intro i h2 h3; omega
    | succ k ih =>
      intro i h2 h3
      by_cases q : v.1 0 3 < pBeg v (i + 1)
      · rw [pSlot_exit (by omega) q]
        exact ⟨h3, q⟩
      · rw [pSlot_next (by omega) q]
        by_cases z : i + 1 < nOf v
        · exact ih (i + 1) (by omega) z
        · have e : i + 1 = nOf v := by omega
          rw [e] at q
          exact absurd ht q
  exact key (nOf v) 0 (by omega) (by omega)
theorem Inv.slot {v : SV} (h : Inv v) : pSlot v < nOf v := (pSlot_lt h.n8 h.n1 h.tick).1
theorem Inv.slot8 {v : SV} (h : Inv v) : pSlot v < 8 := Nat.lt_of_lt_of_le h.slot h.n8
/-- whether a group is on -/
abbrev pOn (v : SV) (g : Nat) : Prop := g = 0 ∨ v.1 0 2 - v.1 0 2 / (v.1 1 g + v.1 2 g) * (v.1 1 g + v.1 2 g) < v.1 1 g
abbrev gOf (v : SV) (d : Nat) : Nat := (v.1 (4 + d) 4).toNatClampNeg
/-- whether a digit would be driven, were it its slot -/
abbrev pDrv (v : SV) (d : Nat) : Prop := (0 < v.1 0 4 ∧ v.1 0 3 - pBeg v d < v.1 (4 + d) 1 - v.1 (4 + d) 2) ∨ (¬ 0 < v.1 0 4 ∧ v.1 0 3 - pBeg v d < pLP v d ∧ pOn v (gOf v d))
/-- the segments of a digit that are lit in the next tick -/
def pLit (v : SV) (d : Nat) : Int32 := if pSlot v = d ∧ pDrv v d then (if 0 < v.1 0 4 then 255 else v.1 (4 + d) 0) &&& (v.1 (4 + d) 6 ^^^ -1) else 0
def pDin (v : SV) (g : Int32) : Nat → Int32
  | 0 => 0
  | d + 1 => pDin v g d + (if v.1 (4 + d) 4 = g then 1 else 0)
def bit (x : Int32) (k : Nat) : Int32 := (x >>> (nI k &&& 31)) &&& 1
def pBro (b : Int32) : Nat → Int32
  | 0 => 0
  | k + 1 => pBro b k + bit b k
def pBroS (v : SV) : Nat → Int32
  | 0 => 0
  | d + 1 => pBroS v d + pBro (v.1 (4 + d) 6) 8
def pSeen (f : Nat → Int32) (th : Int32) : Nat → Int32
  | 0 => 0
  | k + 1 => pSeen f th k ||| (if f k < th then 0 else (1 : Int32) <<< (nI k &&& 31))
def pSum (f : Nat → Int32) : Nat → Int32
  | 0 => 0
  | k + 1 => pSum f k + f k
def pGain (g : Int32) : Int32 := if 1 ≤ (1000 - g) / 4 then (1000 - g) / 4 else 1
def pBri (g : Int32) : Int32 := if g + pGain g ≤ 1000 then g + pGain g else 1000
def pDar (g dec : Int32) : Int32 := if 0 ≤ g - g / dec - 1 then g - g / dec - 1 else 0
/-- the pattern of a character, or -4 -/
def pPat (x : Int32) : Int32 :=
  if x = 48 then 63 else if x = 49 then 6 else if x = 50 then 91 else if x = 51 then 79 else if x = 52 then 102 else if x = 53 then 109 else if x = 54 then 125 else if x = 55 then 7 else
  if x = 56 then 127 else if x = 57 then 111 else if x = 45 then 64 else if x = 32 then 0 else if x = 69 then 121 else if x = 114 then 80 else if x = 111 then 92 else -4
/-- the first character of a pattern, from a code on, or -4 -/
def pChrF (q : Int32) : Nat → Nat → Int32
  | 0, _ => -4
  | k + 1, c => if pPat (nI c) = q then nI c else pChrF q k (c + 1)
def pChr (q : Int32) : Int32 := pChrF q 95 32
theorem i_not_lt {x y : Int32} (h : ¬ x < y) : y ≤ x := Int32.not_lt.mp h
theorem i_not_le {x y : Int32} (h : ¬ x ≤ y) : y < x := Int32.not_le.mp h
