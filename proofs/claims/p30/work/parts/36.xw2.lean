theorem sho_nn (f : Nat → Int32) (D : Nat) : ∀ k i n t P, i + k < 2 ^ 30 → (shO f D k i n t P).1 = -4 ∨ ¬ (shO f D k i n t P).1 < 0 := by
  intro k
  induction k with
  | zero => intro i n t P _; exact Or.inl rfl
  | succ k ih =>
    intro i n t P hb
    have hi : ¬ nI i < 0 := nI_pos (by omega)
    have h2 := fun n t P => ih (i + 1) n t P (by omega)
    rw [shO]
    split
    · split
      · split
        · exact Or.inr hi
        · exact h2 _ _ _
      · exact h2 _ _ _
    · split
      · exact Or.inr hi
      · split
        · exact Or.inr hi
        · exact h2 _ _ _
theorem sho_n4 {f : Nat → Int32} {D k : Nat} (hk : k ≤ 30) {P : Nat → Int32} (h : ¬ (shO f D k 0 0 0 P).1 = -4) : ¬ (shO f D k 0 0 0 P).1 < 0 := (sho_nn f D k 0 0 0 P (by omega)).elim (fun z => absurd z h) id
/-- the ticks to the end of the frames -/
theorem pf_eq {v : SV} (ok : Inv v) {n : Nat} (h1 : 1 ≤ n) (h2 : n ≤ 20) : nI n * pLen v - v.1 0 3 = nI (pfN v n) ∧ pfN v n ≤ 7000 := by
  obtain ⟨t, L, e1, e2, h3, h4⟩ := ok.2.2.2.2.2.1
  have hL : L ≤ n * L := Nat.le_mul_of_pos_left L h1
  have hL2 : n * L ≤ 20 * 320 := Nat.mul_le_mul h2 h4
  unfold pfN
  rw [e1, e2, pk_mul, pk_sub (by omega)]
  have e3 : (nI L).toNatClampNeg = L := nI_clamp (by omega)
  have e4 : (nI t).toNatClampNeg = t := nI_clamp (by omega)
  rw [e3, e4]
  exact ⟨rfl, by omega⟩
