theorem st_c0 {ct : Nat → ClassId} {a : Nat → Nat} {v : SV} : (stW ct a v)[0]? = some (a 0, .inr (3, [.ref (a 1), .int (v.1 0 0), .ref (a 2), .ref (a 3), .ref (a 4), .int (v.1 0 1), .int (v.1 0 2), .int (v.1 0 3), .int (v.1 0 4), .int (v.1 0 5), .float (v.2 0), .float (v.2 1), .float (v.2 2)])) := st_get (by decide)
theorem st_c1 {ct : Nat → ClassId} {a : Nat → Nat} {v : SV} : (stW ct a v)[1]? = some (a 1, .inl (ct 4, 8, .inr (.inr (.inr (.inr (fun i => some (a (3 * i + 5)))))))) := st_get (by decide)
theorem st_c2 {ct : Nat → ClassId} {a : Nat → Nat} {v : SV} : (stW ct a v)[2]? = some (a 2, .inl (ct 0, 4, .inl (v.1 1))) := st_get (by decide)
theorem st_c3 {ct : Nat → ClassId} {a : Nat → Nat} {v : SV} : (stW ct a v)[3]? = some (a 3, .inl (ct 0, 4, .inl (v.1 2))) := st_get (by decide)
theorem st_c4 {ct : Nat → ClassId} {a : Nat → Nat} {v : SV} : (stW ct a v)[4]? = some (a 4, .inl (ct 0, 3, .inl (v.1 3))) := st_get (by decide)
theorem st_p0 {D : va_G} {ct : Nat → ClassId} {a : Nat → Nat} {v : SV} {H : Heap} (f : Nat → Int32) (hP : va_P D vwCl ((stW ct a v).set 0 (a 0, cellV ct a v.2 f 0)) H) : va_P D vwCl (stW ct a (sC v 0 f)) H := by
  rw [st_set (i := 0) (by decide)] at hP
  exact hP
theorem st_p1 {D : va_G} {ct : Nat → ClassId} {a : Nat → Nat} {v : SV} {H : Heap} (f : Nat → Int32) (hP : va_P D vwCl ((stW ct a v).set 2 (a 2, cellV ct a v.2 f 2)) H) : va_P D vwCl (stW ct a (sC v 1 f)) H := by
  rw [st_set (i := 2) (by decide)] at hP
  exact hP
theorem st_p2 {D : va_G} {ct : Nat → ClassId} {a : Nat → Nat} {v : SV} {H : Heap} (f : Nat → Int32) (hP : va_P D vwCl ((stW ct a v).set 3 (a 3, cellV ct a v.2 f 3)) H) : va_P D vwCl (stW ct a (sC v 2 f)) H := by
  rw [st_set (i := 3) (by decide)] at hP
  exact hP
theorem st_p3 {D : va_G} {ct : Nat → ClassId} {a : Nat → Nat} {v : SV} {H : Heap} (f : Nat → Int32) (hP : va_P D vwCl ((stW ct a v).set 4 (a 4, cellV ct a v.2 f 4)) H) : va_P D vwCl (stW ct a (sC v 3 f)) H := by
  rw [st_set (i := 4) (by decide)] at hP
  exact hP
theorem st_fst {ct : Nat → ClassId} {a : Nat → Nat} {v : SV} : (stW ct a v).map Prod.fst = (List.range 29).map a := by
  unfold stW
  rw [List.map_map]
  rfl
theorem st_dn {A : Nat → Prop} {ct : Nat → ClassId} {a : Nat → Nat} {v w : SV} (hD : va_D A (stW ct a v)) : va_D A (stW ct a w) := dw_congr (by rw [st_fst, st_fst]) hD
theorem st_dset {A : Nat → Prop} {ct : Nat → ClassId} {a : Nat → Nat} {v w : SV} {i : Nat} {e : va_E} (hi : i < 29) (hD : va_D A ((stW ct a v).set i (a i, e))) : va_D A (stW ct a w) := by
  refine dw_congr ?_ hD
  rw [st_fst]
  apply List.ext_getElem?
  intro j
  rw [List.getElem?_map, List.getElem?_map]
  by_cases hj : j < 29
  · by_cases h : i = j
    · subst h
      rw [List.getElem?_set_self (by rw [st_len]; exact hj), List.getElem?_range hj]
      rfl
    · rw [List.getElem?_set_ne h, st_get hj, List.getElem?_range hj]
      rfl
  · rw [List.getElem?_eq_none (by rw [List.length_range]; omega), List.getElem?_eq_none (by rw [List.length_set, st_len]; omega)]
    rfl
theorem glowLit_eq (g : Int32) : (if g + (if 1 < (1000 - g) / 4 then (1000 - g) / 4 else 1) < 1000 then g + (if 1 < (1000 - g) / 4 then (1000 - g) / 4 else 1) else 1000) = pBri g := by
  have h1 : (if 1 < (1000 - g) / 4 then (1000 - g) / 4 else 1) = pGain g := by
    unfold pGain
    by_cases q : 1 < (1000 - g) / 4
    · rw [if_pos q, if_pos (Int32.le_of_lt q)]
    · rw [if_neg q]
      by_cases q2 : 1 ≤ (1000 - g) / 4
      · rw [if_pos q2]
        exact Int32.le_antisymm q2 (Int32.not_lt.mp q)
      · rw [if_neg q2]
  rw [h1]
  unfold pBri
  by_cases q : g + pGain g < 1000
  · rw [if_pos q, if_pos (Int32.le_of_lt q)]
  · rw [if_neg q]
    by_cases q2 : g + pGain g ≤ 1000
    · rw [if_pos q2]
      exact Int32.le_antisymm (Int32.not_lt.mp q) q2
    · rw [if_neg q2]
theorem glowUn_eq (g dec : Int32) : (if 0 < g - g / dec - 1 then g - g / dec - 1 else 0) = pDar g dec := by
  unfold pDar
  by_cases q : 0 < g - g / dec - 1
  · rw [if_pos q, if_pos (Int32.le_of_lt q)]
  · rw [if_neg q]
    by_cases q2 : 0 ≤ g - g / dec - 1
    · rw [if_pos q2]
      exact Int32.le_antisymm q2 (Int32.not_lt.mp q)
    · rw [if_neg q2]
theorem Inv.decp {v : SV} (h : Inv v) : 0 < v.1 3 0 := by
  obtain ⟨k, h1, h2, e⟩ := h.2.2.2.2.1
  rw [e]
  exact nI_lt (show 0 < k by omega) (by omega)
theorem Inv.perp {v : SV} (h : Inv v) {g : Nat} (h0 : 0 < g) (h4 : g < 4) : 0 < v.1 1 g + v.1 2 g := by
  obtain ⟨⟨a, a1, a2, e1⟩, ⟨b, b1, b2, e2⟩⟩ := h.2.2.1 g h0 h4
  rw [e1, e2, nI_add]
  exact nI_lt (show 0 < a + b by omega) (by omega)
theorem lp_15 {v : SV} (h : Inv v) {d : Nat} (hd : d < nOf v) : (v.1 (4 + d) 1 - v.1 (4 + d) 2) * 15 / 15 = v.1 (4 + d) 1 - v.1 (4 + d) 2 := by
  obtain ⟨⟨w, w1, w2, e1⟩, ⟨g, g1, g2, e2⟩, -⟩ := h.dg hd
  rw [e1, e2, pk_sub (by omega), show (15 : Int32) = nI 15 from rfl, pk_mul, pk_div (by omega) (by decide) (by decide)]
  rw [Nat.mul_div_cancel _ (by decide)]
def ush (x y : Int32) : Int32 := (x.toUInt32 >>> (y.toUInt32 &&& Int32.toUInt32 31)).toInt32
def bcA (x : Int32) : Int32 := x - (ush x 1 &&& 1431655765)
def bcB (a : Int32) : Int32 := (a &&& 858993459) + (ush a 2 &&& 858993459)
def bcC (b : Int32) : Int32 := (b + ush b 4) &&& 252645135
def bcD (c : Int32) : Int32 := c + ush c 8
def bcE (d : Int32) : Int32 := d + ush d 16
def bcF (x : Int32) : Int32 := bcE (bcD (bcC (bcB (bcA x)))) &&& 63
theorem bcF_n : ∀ q, q < 256 → bcF (nI q) = pBro (nI q) 8 := by decide +kernel
theorem bcF_of {x : Int32} (h : rg x 0 255) : bcF x = pBro x 8 := by
  obtain ⟨k, -, h2, rfl⟩ := h
  exact bcF_n k (by omega)
