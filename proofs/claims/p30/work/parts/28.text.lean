abbrev txW (ct : Nat → ClassId) (x c p : Nat) (k nd : Int32) (f g : Nat → Int32) : va_W := [(x, .inr (4, [.ref c, .int k, .ref p, .int nd])), (c, .inl (ct 2, 30, .inl f)), (p, .inl (ct 0, 8, .inl g))]
theorem tx_ext {D : va_G} {ct : Nat → ClassId} {x c p : Nat} {k nd : Int32} {f g f' g' : Nat → Int32} {H : Heap} (hP : va_P D vwCl (txW ct x c p k nd f g) H) (hf : ∀ j, j < 30 → f j = f' j) (hg : ∀ j, j < 8 → g j = g' j) : va_P D vwCl (txW ct x c p k nd f' g') H :=
  ceqs.P (ws := txW ct x c p k nd f g) ⟨Or.inl rfl, ceq.i hf, ceq.i hg, trivial⟩ hP
theorem tx_dn {A : Nat → Prop} {ct : Nat → ClassId} {x c p : Nat} {k nd k' nd' : Int32} {f g f' g' : Nat → Int32} (hD : va_D A (txW ct x c p k nd f g)) : va_D A (txW ct x c p k' nd' f' g') := dw_c hD rfl
/-- laying a text out: the fault's place or -4, how many digits it takes, their patterns -/
def shO (f : Nat → Int32) (D : Nat) : Nat → Nat → Nat → Int32 → (Nat → Int32) → Int32 × Nat × (Nat → Int32)
  | 0, _, n, _, P => (-4, n, P)
  | k + 1, i, n, t, P =>
    if f i = 46 then (if t = 0 then (if D ≤ n then (nI i, n, P) else shO f D k (i + 1) (n + 1) 0 (upd P n 128)) else shO f D k (i + 1) n 0 (upd P (n - 1) (P (n - 1) ||| 128)))
    else (if pPat (f i) = -4 then (nI i, n, P) else if D ≤ n then (nI i, n, P) else shO f D k (i + 1) (n + 1) 1 (upd P n (pPat (f i))))
section SH
variable {f P : Nat → Int32} {D k i n : Nat} {t : Int32}
theorem sho_s (h : i < k) : k - i = (k - (i + 1)) + 1 := by omega
theorem sho_z (h : ¬ i < k) : shO f D (k - i) i n t P = (-4, n, P) := by
  rw [show k - i = 0 by omega]
  rfl
theorem sho_f0 (h : i < k) (h1 : f i = 46) (h2 : t = 0) (h3 : D ≤ n) : shO f D (k - i) i n t P = (nI i, n, P) := by
  rw [sho_s h]
  show (if _ then _ else _) = _
  rw [if_pos h1, if_pos h2, if_pos h3]
theorem sho_f1 (h : i < k) (h1 : f i = 46) (h2 : t = 0) (h3 : ¬ D ≤ n) : shO f D (k - i) i n t P = shO f D (k - (i + 1)) (i + 1) (n + 1) 0 (upd P n 128) := by
  rw [sho_s h]
  show (if _ then _ else _) = _
  rw [if_pos h1, if_pos h2, if_neg h3]
theorem sho_f2 (h : i < k) (h1 : f i = 46) (h2 : ¬ t = 0) : shO f D (k - i) i n t P = shO f D (k - (i + 1)) (i + 1) n 0 (upd P (n - 1) (P (n - 1) ||| 128)) := by
  rw [sho_s h]
  show (if _ then _ else _) = _
  rw [if_pos h1, if_neg h2]
theorem sho_c0 (h : i < k) (h1 : ¬ f i = 46) (h2 : pPat (f i) = -4) : shO f D (k - i) i n t P = (nI i, n, P) := by
  rw [sho_s h]
  show (if _ then _ else _) = _
  rw [if_neg h1, if_pos h2]
theorem sho_c1 (h : i < k) (h1 : ¬ f i = 46) (h3 : D ≤ n) : shO f D (k - i) i n t P = (nI i, n, P) := by
  rw [sho_s h]
  show (if _ then _ else _) = _
  rw [if_neg h1]
  by_cases h2 : pPat (f i) = -4
  · rw [if_pos h2]
  · rw [if_neg h2, if_pos h3]
theorem sho_c2 (h : i < k) (h1 : ¬ f i = 46) (h2 : ¬ pPat (f i) = -4) (h3 : ¬ D ≤ n) : shO f D (k - i) i n t P = shO f D (k - (i + 1)) (i + 1) (n + 1) 1 (upd P n (pPat (f i))) := by
  rw [sho_s h]
  show (if _ then _ else _) = _
  rw [if_neg h1, if_neg h2, if_neg h3]
end SH
theorem nI_lt' {a b : Nat} (ha : a < 2 ^ 31) (hb : b < 2 ^ 31) (h : nI a < nI b) : a < b := Nat.lt_of_not_le (fun z => by
  have h2 : nI b ≤ nI a := Int32.not_lt.mp (nI_nlt (by omega) (by omega))
  exact Int32.lt_irrefl (Int32.lt_of_lt_of_le h h2))
theorem nI_nlt' {a b : Nat} (ha : a < 2 ^ 31) (hb : b < 2 ^ 31) (h : ¬ nI a < nI b) : b ≤ a := Nat.le_of_not_lt (fun z => h (nI_lt z (by omega)))
theorem tx_o {D : va_G} {ct : Nat → ClassId} {x c p n : Nat} {k r : Int32} {f P : Nat → Int32} {O : Int32 × Nat × (Nat → Int32)} {H : Heap} (e : O = (r, n, P)) (hP : va_P D vwCl (txW ct x c p k (nI n) f P) H) : va_P D vwCl (txW ct x c p k (nI O.2.1) f O.2.2) H := by
  subst e
  exact hP
