abbrev SV : Type := (Nat → Nat → Int32) × (Nat → UInt32)
def s2 (v : SV) (i j : Nat) (x : Int32) : SV := (va_up v.1 i (upd (v.1 i) j x), v.2)
def sC (v : SV) (i : Nat) (f : Nat → Int32) : SV := (va_up v.1 i f, v.2)
theorem s2_eq (v : SV) (i j : Nat) (x : Int32) : s2 v i j x = sC v i (upd (v.1 i) j x) := rfl
theorem s2_at (v : SV) (i j : Nat) (x : Int32) (i' j' : Nat) : (s2 v i j x).1 i' j' = if i' = i ∧ j' = j then x else v.1 i' j' := by
  unfold s2 va_up upd
  by_cases h : i' = i
  · subst h
    by_cases h2 : j' = j
    · simp [h2]
    · simp [h2]
  · simp [h]
theorem s2_f (v : SV) (i j : Nat) (x : Int32) : (s2 v i j x).2 = v.2 := rfl
def kc : Nat → Nat
  | 0 => 0
  | 1 => 100
  | 2 => 1
  | 3 => 2
  | 4 => 3
  | j + 5 => 4 + 8 * (j % 3) + j / 3
def cellV (ct : Nat → ClassId) (a : Nat → Nat) (φ : Nat → UInt32) (f : Nat → Int32) : Nat → va_E
  | 0 => .inr (3, [.ref (a 1), .int (f 0), .ref (a 2), .ref (a 3), .ref (a 4), .int (f 1), .int (f 2), .int (f 3), .int (f 4), .int (f 5), .float (φ 0), .float (φ 1), .float (φ 2)])
  | 1 => .inl (ct 4, 8, .inr (.inr (.inr (.inr (fun i => some (a (3 * i + 5)))))))
  | 2 => .inl (ct 0, 4, .inl f)
  | 3 => .inl (ct 0, 4, .inl f)
  | 4 => .inl (ct 0, 3, .inl f)
  | j + 5 => if j % 3 = 0 then .inr (0, [.int (f 1), .int (f 2), .int (f 3), .int (f 0), .int (f 4), .int (f 5), .int (f 6), .ref (a (j + 6)), .ref (a (j + 7))]) else .inl (ct 0, 8, .inl f)
def stV (ct : Nat → ClassId) (a : Nat → Nat) (v : SV) (j : Nat) : va_E := cellV ct a v.2 (v.1 (kc j)) j
def stW (ct : Nat → ClassId) (a : Nat → Nat) (v : SV) : va_W := (List.range 29).map (fun j => (a j, stV ct a v j))
abbrev dgW (ct : Nat → ClassId) (x y z : Nat) (f g u : Nat → Int32) : va_W := [(x, .inr (0, [.int (f 1), .int (f 2), .int (f 3), .int (f 0), .int (f 4), .int (f 5), .int (f 6), .ref y, .ref z])), (y, .inl (ct 0, 8, .inl g)), (z, .inl (ct 0, 8, .inl u))]
/-- the state's digit d -/
abbrev dgA (ct : Nat → ClassId) (a : Nat → Nat) (v : SV) (d : Nat) : va_W := dgW ct (a (3 * d + 5)) (a (3 * d + 6)) (a (3 * d + 7)) (v.1 (4 + d)) (v.1 (12 + d)) (v.1 (20 + d))
def stR (ct : Nat → ClassId) (a : Nat → Nat) (v : SV) (d : Nat) : va_W := ((List.range 29).filter (fun j => j ≠ 3 * d + 5 ∧ j ≠ 3 * d + 6 ∧ j ≠ 3 * d + 7)).map (fun j => (a j, stV ct a v j))
theorem st_d0 (ct : Nat → ClassId) (a : Nat → Nat) (v : SV) (d : Nat) : stV ct a v (3 * d + 5) = .inr (0, [.int (v.1 (4 + d) 1), .int (v.1 (4 + d) 2), .int (v.1 (4 + d) 3), .int (v.1 (4 + d) 0), .int (v.1 (4 + d) 4), .int (v.1 (4 + d) 5), .int (v.1 (4 + d) 6), .ref (a (3 * d + 6)), .ref (a (3 * d + 7))]) := by
  have h1 : 3 * d % 3 = 0 := by omega
  have h2 : kc (3 * d + 5) = 4 + d := by
    show 4 + 8 * (3 * d % 3) + 3 * d / 3 = 4 + d
    omega
  unfold stV
  rw [h2]
  show (if 3 * d % 3 = 0 then _ else _) = _
  rw [if_pos h1]
theorem st_d1 (ct : Nat → ClassId) (a : Nat → Nat) (v : SV) (d : Nat) : stV ct a v (3 * d + 6) = .inl (ct 0, 8, .inl (v.1 (12 + d))) := by
  have h1 : ¬ (3 * d + 1) % 3 = 0 := by omega
  have h2 : kc (3 * d + 6) = 12 + d := by
    show 4 + 8 * ((3 * d + 1) % 3) + (3 * d + 1) / 3 = 12 + d
    omega
  unfold stV
  rw [h2]
  show (if (3 * d + 1) % 3 = 0 then _ else _) = _
  rw [if_neg h1]
theorem st_d2 (ct : Nat → ClassId) (a : Nat → Nat) (v : SV) (d : Nat) : stV ct a v (3 * d + 7) = .inl (ct 0, 8, .inl (v.1 (20 + d))) := by
  have h1 : ¬ (3 * d + 2) % 3 = 0 := by omega
  have h2 : kc (3 * d + 7) = 20 + d := by
    show 4 + 8 * ((3 * d + 2) % 3) + (3 * d + 2) / 3 = 20 + d
    omega
  unfold stV
  rw [h2]
  show (if (3 * d + 2) % 3 = 0 then _ else _) = _
  rw [if_neg h1]
theorem st_perm {ct : Nat → ClassId} {a : Nat → Nat} {v : SV} {d : Nat} (hd : d < 8) : (stW ct a v).Perm (dgA ct a v d ++ stR ct a v d) := by
  have h1 : ∀ d, d < 8 → (List.range 29).Perm ([3 * d + 5, 3 * d + 6, 3 * d + 7] ++ (List.range 29).filter (fun j => j ≠ 3 * d + 5 ∧ j ≠ 3 * d + 6 ∧ j ≠ 3 * d + 7)) := by decide
  have h2 := (h1 d hd).map (fun j => (a j, stV ct a v j))
  rw [List.map_append] at h2
  refine h2.trans (List.Perm.of_eq ?_)
  unfold stR
  congr 1
  show [(a (3 * d + 5), stV ct a v (3 * d + 5)), (a (3 * d + 6), stV ct a v (3 * d + 6)), (a (3 * d + 7), stV ct a v (3 * d + 7))] = _
  rw [st_d0, st_d1, st_d2]
theorem stV_of {ct : Nat → ClassId} {a : Nat → Nat} {v w : SV} {j : Nat} (hc : v.1 (kc j) = w.1 (kc j)) (hf : v.2 = w.2) : stV ct a v j = stV ct a w j := by
  unfold stV
  rw [hc, hf]
theorem stR_of {ct : Nat → ClassId} {a : Nat → Nat} {v w : SV} {d : Nat} (hd : d < 8) (hf : v.2 = w.2) (h : ∀ i, i ≠ 4 + d → i ≠ 12 + d → i ≠ 20 + d → v.1 i = w.1 i) : stR ct a v d = stR ct a w d := by
  unfold stR
  refine List.map_congr_left (fun j hj => ?_)
  have h1 := (List.mem_filter.mp hj).2
  simp only [decide_eq_true_eq] at h1
  obtain ⟨g1, g2, g3⟩ := h1
  have h2 : j < 29 := List.mem_range.mp (List.mem_filter.mp hj).1
  have h3 : kc j ≠ 4 + d ∧ kc j ≠ 12 + d ∧ kc j ≠ 20 + d := by
    match j with
    | 0 => exact ⟨by simp [kc]; omega, by simp [kc]; omega, by simp [kc]; omega⟩
    | 1 => exact ⟨show 100 ≠ 4 + d by omega, show 100 ≠ 12 + d by omega, show 100 ≠ 20 + d by omega⟩
    | 2 => exact ⟨by simp [kc]; omega, by simp [kc]; omega, by simp [kc]; omega⟩
    | 3 => exact ⟨by simp [kc]; omega, by simp [kc]; omega, by simp [kc]; omega⟩
    | 4 => exact ⟨by simp [kc]; omega, by simp [kc]; omega, by simp [kc]; omega⟩
    | j + 5 =>
      have e : kc (j + 5) = 4 + 8 * (j % 3) + j / 3 := rfl
      rw [e]
      refine ⟨?_, ?_, ?_⟩ <;> omega
  rw [stV_of (h _ h3.1 h3.2.1 h3.2.2) hf]
/-- the digit d behind a change -/
theorem st_perm2 {ct : Nat → ClassId} {a : Nat → Nat} {v : SV} {d : Nat} (hd : d < 8) {f g u : Nat → Int32} {w : SV} (hw : w = sC (sC (sC v (4 + d) f) (12 + d) g) (20 + d) u) :
    (stW ct a w).Perm (dgW ct (a (3 * d + 5)) (a (3 * d + 6)) (a (3 * d + 7)) f g u ++ stR ct a v d) := by
  have e1 : w.1 (4 + d) = f := by
    rw [hw]; show va_up (va_up (va_up v.1 (4 + d) f) (12 + d) g) (20 + d) u (4 + d) = f
    rw [va_up_ne _ _ (by omega), va_up_ne _ _ (by omega), va_up_self]
  have e2 : w.1 (12 + d) = g := by
    rw [hw]; show va_up (va_up (va_up v.1 (4 + d) f) (12 + d) g) (20 + d) u (12 + d) = g
    rw [va_up_ne _ _ (by omega), va_up_self]
  have e3 : w.1 (20 + d) = u := by
    rw [hw]; show va_up (va_up (va_up v.1 (4 + d) f) (12 + d) g) (20 + d) u (20 + d) = u
    rw [va_up_self]
  have h : (stW ct a w).Perm (dgW ct (a (3 * d + 5)) (a (3 * d + 6)) (a (3 * d + 7)) (w.1 (4 + d)) (w.1 (12 + d)) (w.1 (20 + d)) ++ stR ct a w d) := st_perm hd
  rw [e1, e2, e3] at h
  rw [stR_of (v := v) (w := w) hd (by rw [hw]; rfl) (fun i h1 h2 h3 => ?_)]
  · exact h
  · rw [hw]; show v.1 i = va_up (va_up (va_up v.1 (4 + d) f) (12 + d) g) (20 + d) u i
    rw [va_up_ne _ _ h3, va_up_ne _ _ h2, va_up_ne _ _ h1]
theorem st_dgP {D : va_G} {ct : Nat → ClassId} {a : Nat → Nat} {v : SV} {d : Nat} {H : Heap} (hd : d < 8) (h : va_P D vwCl (stW ct a v) H) : va_P D vwCl (dgA ct a v d) H := pw_cut (st_perm hd) h
theorem st_len {ct : Nat → ClassId} {a : Nat → Nat} {v : SV} : (stW ct a v).length = 29 := by simp [stW]
theorem st_get {ct : Nat → ClassId} {a : Nat → Nat} {v : SV} {j : Nat} (hj : j < 29) : (stW ct a v)[j]? = some (a j, stV ct a v j) := by
  unfold stW
  rw [List.getElem?_map, List.getElem?_range hj]
  rfl
theorem kc_inj {i j : Nat} (hi : i < 29) (hj : j < 29) (h : kc i = kc j) : i = j := by
  have h1 : ∀ i, i < 29 → ∀ j, j < 29 → kc i = kc j → i = j := by decide +kernel
  exact h1 i hi j hj h
/-- one cell of a state behind a change of its coordinate -/
theorem st_set {ct : Nat → ClassId} {a : Nat → Nat} {v : SV} {i : Nat} (hi : i < 29) (f : Nat → Int32) : (stW ct a v).set i (a i, cellV ct a v.2 f i) = stW ct a (sC v (kc i) f) := by
  apply List.ext_getElem?
  intro j
  by_cases hj : j < 29
  · rw [st_get hj]
    by_cases h : i = j
    · subst h
      rw [List.getElem?_set_self (by rw [st_len]; exact hj)]
      show some (a i, cellV ct a v.2 f i) = some (a i, cellV ct a v.2 (va_up v.1 (kc i) f (kc i)) i)
      rw [va_up_self]
    · rw [List.getElem?_set_ne h, st_get hj]
      show some (a j, cellV ct a v.2 (v.1 (kc j)) j) = some (a j, cellV ct a v.2 (va_up v.1 (kc i) f (kc j)) j)
      rw [va_up_ne _ _ (fun e => h (kc_inj hi hj e.symm))]
  · rw [List.getElem?_eq_none (by rw [List.length_set, st_len]; omega), List.getElem?_eq_none (by rw [st_len]; omega)]
/-- the display's own digits' fields: places 3 d + 5 -/
theorem st_setD {ct : Nat → ClassId} {a : Nat → Nat} {v : SV} {d : Nat} (hd : d < 8) (f : Nat → Int32) :
    (stW ct a v).set (3 * d + 5) (a (3 * d + 5), .inr (0, [.int (f 1), .int (f 2), .int (f 3), .int (f 0), .int (f 4), .int (f 5), .int (f 6), .ref (a (3 * d + 6)), .ref (a (3 * d + 7))])) = stW ct a (sC v (4 + d) f) := by
  have h1 : 3 * d % 3 = 0 := by omega
  have h2 : kc (3 * d + 5) = 4 + d := by
    show 4 + 8 * (3 * d % 3) + 3 * d / 3 = 4 + d
    omega
  have h3 := st_set (ct := ct) (a := a) (v := v) (i := 3 * d + 5) (by omega) f
  rw [h2] at h3
  rw [← h3]
  congr 2
  show _ = (if 3 * d % 3 = 0 then _ else _)
  rw [if_pos h1]
theorem st_getD {ct : Nat → ClassId} {a : Nat → Nat} {v : SV} {d : Nat} (hd : d < 8) :
    (stW ct a v)[3 * d + 5]? = some (a (3 * d + 5), .inr (0, [.int (v.1 (4 + d) 1), .int (v.1 (4 + d) 2), .int (v.1 (4 + d) 3), .int (v.1 (4 + d) 0), .int (v.1 (4 + d) 4), .int (v.1 (4 + d) 5), .int (v.1 (4 + d) 6), .ref (a (3 * d + 6)), .ref (a (3 * d + 7))])) := by
  rw [st_get (by omega), st_d0]
/-! the model's row -/
def rowOf (v : SV) : Nat → Int32 := fun j =>
  if j < 6 then v.1 0 j else if j < 9 then v.1 3 (j - 6) else if j < 12 then v.1 1 (j - 8) else if j < 15 then v.1 2 (j - 11) else if j < 16 then 0
  else if j < 64 then v.1 (4 + (j - 16) / 6) ((j - 16) % 6) else if j < 128 then v.1 (12 + (j - 64) / 8) ((j - 64) % 8) else if j < 192 then v.1 (20 + (j - 128) / 8) ((j - 128) % 8)
  else if j < 200 then v.1 (4 + (j - 192)) 6 else 0
def okc (i j : Nat) : Prop := (i = 0 ∧ j < 6) ∨ (i = 1 ∧ 0 < j ∧ j < 4) ∨ (i = 2 ∧ 0 < j ∧ j < 4) ∨ (i = 3 ∧ j < 3) ∨ (4 ≤ i ∧ i < 12 ∧ j < 7) ∨ (12 ≤ i ∧ i < 28 ∧ j < 8)
