theorem len_sp {args : Array Value} {first s : State} {o : Option Outcome} {idx : List Nat} {t : Term} {v : Value} (h : (Term.length t).eval args first o idx s = some v) : ∃ a cell, t.eval args first o idx s = some (.ref a) ∧ s.arrayAt? a = some cell ∧ v = .int cell.slots.size.toInt32 ∧ cell.slots.size < 2147483648 := by
  simp only [Term.eval, Option.bind_eq_bind] at h
  cases ht : t.eval args first o idx s with
  | none => simp [ht] at h
  | some x =>
    cases x <;> simp [ht] at h
    case ref a =>
      obtain ⟨cell, hcell, h⟩ := Option.bind_eq_some_iff.mp h
      by_cases hn : cell.slots.size < 2147483648
      · rw [if_pos hn] at h; cases h; exact ⟨a, cell, rfl, hcell, rfl, hn⟩
      · rw [if_neg hn] at h; cases h
theorem stA_start {s : State} {b : Nat} {ty : FieldType} {n d : String} {N : Nat} {f : Nat → Int32} (hl : (Cond.laysStatic "ScannedDigits" n d).before #[Value.ref b] s = true) (hini : (Cond.initialized "ScannedDigits").before #[Value.ref b] s = true)
    (h : ∃ t : Nat, (Term.static "ScannedDigits" n d).eval #[Value.ref b] s none [] s = some (.ref t) ∧ va_T ty t N (fun j => .int (f j)) (fun q : Nat => s.heap.size ≤ q) s s.heap) : stA ty n d N f (fun q : Nat => s.heap.size ≤ q) s s.heap := by
  obtain ⟨t, ht, hT⟩ := h
  exact ⟨t, va_Zof hl hini ht (fun _ h => Nat.not_le.mpr h), hT⟩
set_option maxHeartbeats 1000000 in
set_option maxRecDepth 100000 in
theorem st_start {s : State} {b : Nat} (hgv : (Jvm.Cond.and given_1 narrow_1).before #[Value.ref b] s = true) (hts : ∀ w ∈ lw_tbl, w.before #[Value.ref b] s = true) : stT (fun q : Nat => s.heap.size ≤ q) s s.heap := by
  have hs := flat_of_before _ hgv
  have hini : (Cond.initialized "ScannedDigits").before #[Value.ref b] s = true := hts _ (by decide +kernel)
  refine ⟨?_, ?_, ?_, ?_, ?_, ?_, ?_, ?_, ?_⟩
  · exact stA_start (hts _ (by decide +kernel)) hini (va_Tof (tm := (Term.static "ScannedDigits" "CHARACTERS" "[C")) (ty := .char) (N := 15) (f := fun j => .int (chF j)) (A := fun q : Nat => s.heap.size ≤ q) (by decide) (hs (Cond.arrayOf (Term.static "ScannedDigits" "CHARACTERS" "[C") .char) (by decide +kernel)) (va_eqt (hs (Cond.eq (.length (Term.static "ScannedDigits" "CHARACTERS" "[C")) (.int 15)) (by decide +kernel))) (fun j hj => match j, hj with | 0, _ => va_eqt (hs (Cond.eq (.elem (Term.static "ScannedDigits" "CHARACTERS" "[C") (.int 0)) (.int 48)) (by decide +kernel)) | 1, _ => va_eqt (hs (Cond.eq (.elem (Term.static "ScannedDigits" "CHARACTERS" "[C") (.int 1)) (.int 49)) (by decide +kernel)) | 2, _ => va_eqt (hs (Cond.eq (.elem (Term.static "ScannedDigits" "CHARACTERS" "[C") (.int 2)) (.int 50)) (by decide +kernel)) | 3, _ => va_eqt (hs (Cond.eq (.elem (Term.static "ScannedDigits" "CHARACTERS" "[C") (.int 3)) (.int 51)) (by decide +kernel)) | 4, _ => va_eqt (hs (Cond.eq (.elem (Term.static "ScannedDigits" "CHARACTERS" "[C") (.int 4)) (.int 52)) (by decide +kernel)) | 5, _ => va_eqt (hs (Cond.eq (.elem (Term.static "ScannedDigits" "CHARACTERS" "[C") (.int 5)) (.int 53)) (by decide +kernel)) | 6, _ => va_eqt (hs (Cond.eq (.elem (Term.static "ScannedDigits" "CHARACTERS" "[C") (.int 6)) (.int 54)) (by decide +kernel)) | 7, _ => va_eqt (hs (Cond.eq (.elem (Term.static "ScannedDigits" "CHARACTERS" "[C") (.int 7)) (.int 55)) (by decide +kernel)) | 8, _ => va_eqt (hs (Cond.eq (.elem (Term.static "ScannedDigits" "CHARACTERS" "[C") (.int 8)) (.int 56)) (by decide +kernel)) | 9, _ => va_eqt (hs (Cond.eq (.elem (Term.static "ScannedDigits" "CHARACTERS" "[C") (.int 9)) (.int 57)) (by decide +kernel)) | 10, _ => va_eqt (hs (Cond.eq (.elem (Term.static "ScannedDigits" "CHARACTERS" "[C") (.int 10)) (.int 45)) (by decide +kernel)) | 11, _ => va_eqt (hs (Cond.eq (.elem (Term.static "ScannedDigits" "CHARACTERS" "[C") (.int 11)) (.int 32)) (by decide +kernel)) | 12, _ => va_eqt (hs (Cond.eq (.elem (Term.static "ScannedDigits" "CHARACTERS" "[C") (.int 12)) (.int 69)) (by decide +kernel)) | 13, _ => va_eqt (hs (Cond.eq (.elem (Term.static "ScannedDigits" "CHARACTERS" "[C") (.int 13)) (.int 114)) (by decide +kernel)) | 14, _ => va_eqt (hs (Cond.eq (.elem (Term.static "ScannedDigits" "CHARACTERS" "[C") (.int 14)) (.int 111)) (by decide +kernel))) (fun _ h => Nat.not_le.mpr h))
  · exact stA_start (hts _ (by decide +kernel)) hini (va_Tof (tm := (Term.static "ScannedDigits" "PATTERNS" "[I")) (ty := .int) (N := 15) (f := fun j => .int (ptF j)) (A := fun q : Nat => s.heap.size ≤ q) (by decide) (hs (Cond.arrayOf (Term.static "ScannedDigits" "PATTERNS" "[I") .int) (by decide +kernel)) (va_eqt (hs (Cond.eq (.length (Term.static "ScannedDigits" "PATTERNS" "[I")) (.int 15)) (by decide +kernel))) (fun j hj => match j, hj with | 0, _ => va_eqt (hs (Cond.eq (.elem (Term.static "ScannedDigits" "PATTERNS" "[I") (.int 0)) (.int 63)) (by decide +kernel)) | 1, _ => va_eqt (hs (Cond.eq (.elem (Term.static "ScannedDigits" "PATTERNS" "[I") (.int 1)) (.int 6)) (by decide +kernel)) | 2, _ => va_eqt (hs (Cond.eq (.elem (Term.static "ScannedDigits" "PATTERNS" "[I") (.int 2)) (.int 91)) (by decide +kernel)) | 3, _ => va_eqt (hs (Cond.eq (.elem (Term.static "ScannedDigits" "PATTERNS" "[I") (.int 3)) (.int 79)) (by decide +kernel)) | 4, _ => va_eqt (hs (Cond.eq (.elem (Term.static "ScannedDigits" "PATTERNS" "[I") (.int 4)) (.int 102)) (by decide +kernel)) | 5, _ => va_eqt (hs (Cond.eq (.elem (Term.static "ScannedDigits" "PATTERNS" "[I") (.int 5)) (.int 109)) (by decide +kernel)) | 6, _ => va_eqt (hs (Cond.eq (.elem (Term.static "ScannedDigits" "PATTERNS" "[I") (.int 6)) (.int 125)) (by decide +kernel)) | 7, _ => va_eqt (hs (Cond.eq (.elem (Term.static "ScannedDigits" "PATTERNS" "[I") (.int 7)) (.int 7)) (by decide +kernel)) | 8, _ => va_eqt (hs (Cond.eq (.elem (Term.static "ScannedDigits" "PATTERNS" "[I") (.int 8)) (.int 127)) (by decide +kernel)) | 9, _ => va_eqt (hs (Cond.eq (.elem (Term.static "ScannedDigits" "PATTERNS" "[I") (.int 9)) (.int 111)) (by decide +kernel)) | 10, _ => va_eqt (hs (Cond.eq (.elem (Term.static "ScannedDigits" "PATTERNS" "[I") (.int 10)) (.int 64)) (by decide +kernel)) | 11, _ => va_eqt (hs (Cond.eq (.elem (Term.static "ScannedDigits" "PATTERNS" "[I") (.int 11)) (.int 0)) (by decide +kernel)) | 12, _ => va_eqt (hs (Cond.eq (.elem (Term.static "ScannedDigits" "PATTERNS" "[I") (.int 12)) (.int 121)) (by decide +kernel)) | 13, _ => va_eqt (hs (Cond.eq (.elem (Term.static "ScannedDigits" "PATTERNS" "[I") (.int 13)) (.int 80)) (by decide +kernel)) | 14, _ => va_eqt (hs (Cond.eq (.elem (Term.static "ScannedDigits" "PATTERNS" "[I") (.int 14)) (.int 92)) (by decide +kernel))) (fun _ h => Nat.not_le.mpr h))
  · exact stA_start (hts _ (by decide +kernel)) hini (va_Tof (tm := (Term.static "ScannedDigits" "LEAST_SETTINGS" "[I")) (ty := .int) (N := 3) (f := fun j => .int (leF j)) (A := fun q : Nat => s.heap.size ≤ q) (by decide) (hs (Cond.arrayOf (Term.static "ScannedDigits" "LEAST_SETTINGS" "[I") .int) (by decide +kernel)) (va_eqt (hs (Cond.eq (.length (Term.static "ScannedDigits" "LEAST_SETTINGS" "[I")) (.int 3)) (by decide +kernel))) (fun j hj => match j, hj with | 0, _ => va_eqt (hs (Cond.eq (.elem (Term.static "ScannedDigits" "LEAST_SETTINGS" "[I") (.int 0)) (.int 2)) (by decide +kernel)) | 1, _ => va_eqt (hs (Cond.eq (.elem (Term.static "ScannedDigits" "LEAST_SETTINGS" "[I") (.int 1)) (.int 1)) (by decide +kernel)) | 2, _ => va_eqt (hs (Cond.eq (.elem (Term.static "ScannedDigits" "LEAST_SETTINGS" "[I") (.int 2)) (.int 1)) (by decide +kernel))) (fun _ h => Nat.not_le.mpr h))
  · exact stA_start (hts _ (by decide +kernel)) hini (va_Tof (tm := (Term.static "ScannedDigits" "MOST_SETTINGS" "[I")) (ty := .int) (N := 3) (f := fun j => .int (moF j)) (A := fun q : Nat => s.heap.size ≤ q) (by decide) (hs (Cond.arrayOf (Term.static "ScannedDigits" "MOST_SETTINGS" "[I") .int) (by decide +kernel)) (va_eqt (hs (Cond.eq (.length (Term.static "ScannedDigits" "MOST_SETTINGS" "[I")) (.int 3)) (by decide +kernel))) (fun j hj => match j, hj with | 0, _ => va_eqt (hs (Cond.eq (.elem (Term.static "ScannedDigits" "MOST_SETTINGS" "[I") (.int 0)) (.int 50)) (by decide +kernel)) | 1, _ => va_eqt (hs (Cond.eq (.elem (Term.static "ScannedDigits" "MOST_SETTINGS" "[I") (.int 1)) (.int 1000)) (by decide +kernel)) | 2, _ => va_eqt (hs (Cond.eq (.elem (Term.static "ScannedDigits" "MOST_SETTINGS" "[I") (.int 2)) (.int 1000000)) (by decide +kernel))) (fun _ h => Nat.not_le.mpr h))
  · obtain ⟨t, ht, cell, g1, g2, g3, g4, g5, g6, g7⟩ := va_Tof (tm := (Term.static "ScannedDigits" "FIRST_SETTINGS" "[I")) (ty := .int) (N := 3) (f := fun j => .int (fiF j)) (A := fun q : Nat => s.heap.size ≤ q) (by decide) (hs (Cond.arrayOf (Term.static "ScannedDigits" "FIRST_SETTINGS" "[I") .int) (by decide +kernel)) (va_eqt (hs (Cond.eq (.length (Term.static "ScannedDigits" "FIRST_SETTINGS" "[I")) (.int 3)) (by decide +kernel))) (fun j hj => match j, hj with | 0, _ => va_eqt (hs (Cond.eq (.elem (Term.static "ScannedDigits" "FIRST_SETTINGS" "[I") (.int 0)) (.int 8)) (by decide +kernel)) | 1, _ => va_eqt (hs (Cond.eq (.elem (Term.static "ScannedDigits" "FIRST_SETTINGS" "[I") (.int 1)) (.int 200)) (by decide +kernel)) | 2, _ => va_eqt (hs (Cond.eq (.elem (Term.static "ScannedDigits" "FIRST_SETTINGS" "[I") (.int 2)) (.int 100000)) (by decide +kernel))) (fun _ h => Nat.not_le.mpr h)
    obtain ⟨t2, cell2, k1, k2, k3, k4⟩ := len_sp (va_eqt (hs (Cond.eq (.length (Term.static "ScannedDigits" "FIRST_SETTINGS" "[I")) (.int 3)) (by decide +kernel)))
    obtain ⟨t3, c3, cell3, kk3, x1, x2, x3, x4, x5, x6, -⟩ := Cond.exactly_spec (hs (Cond.exactly (Term.static "ScannedDigits" "FIRST_SETTINGS" "[I") "[I") (by decide +kernel))
    obtain ⟨cI, cC, y1, y2, y3⟩ := Cond.castable_spec (hts (Cond.castable "[I" "java/lang/Cloneable") (by decide +kernel))
    cases ht.symm.trans k1
    cases ht.symm.trans x1
    obtain ⟨k5, -⟩ := State.arrayAt?_spec k2
    cases g1.symm.trans k5
    cases g1.symm.trans x3
    cases x2.symm.trans y1
    have hsz : cell.slots.size = 3 := by
      have e : nI cell.slots.size = nI 3 := (Value.int.inj k3).symm
      exact (nI_eq k4 (by decide)).mp e
    refine ⟨t, cell, cC, va_Zof (hts _ (by decide +kernel)) hini ht (fun _ h => Nat.not_le.mpr h), g1, fun k e => ?_, g3, ?_, by rw [x6]; exact x2, y2, by rw [x6]; exact y3, g7⟩
    · rw [e] at x5; cases x5
    · refine Array.ext (by rw [hsz]; rfl) (fun i h1 h2 => ?_)
      have h3 : i < 3 := by omega
      have h4 := g6 i h3
      rw [Array.getElem?_eq_getElem h1] at h4
      have h5 := Option.some.inj h4
      rw [h5]
      match i, h3, h2 with
      | 0, _, _ => rfl
      | 1, _, _ => rfl
      | 2, _, _ => rfl
  · exact va_Nw.of rfl (hts _ (by decide +kernel))
  · exact va_AO.of (hts _ (by decide +kernel))
  · exact va_AO.of (hts _ (by decide +kernel))
  · exact va_AO.of (hts _ (by decide +kernel))
theorem ns_start {s : State} {b : Nat} (hts : ∀ w ∈ lw_tbl, w.before #[Value.ref b] s = true) : nsB s := by
  refine ⟨?_, ?_, ?_, ?_, ?_, ?_⟩
  all_goals exact va_Nw.of rfl (hts _ (by decide +kernel))
theorem arr_start {s : State} {args : Array Value} {ty : FieldType} (h : (Cond.arrayClass ty).before args s = true) (hno : ∀ C, ty ≠ .object C) : ∃ cA, ArrOfT s cA ty ∧ va_RA s cA ty := by
  obtain ⟨cA, kA, comp, h1, h2, h3⟩ := Cond.arrayClass_spec h
  refine ⟨cA, fun n z => ⟨fun k h => (by cases h), kA, h2, comp, h3⟩, ?_⟩
  cases ty with
  | object C => exact absurd rfl (hno C)
  | _ => exact h1
theorem arrq_start {s : State} {C : String} (h : va_AO C s) : ∃ cA, ArrOfT s cA (.object C) ∧ va_RA s cA (.object C) := by
  obtain ⟨comp, cA, kA, h1, -, h3, h4, h5⟩ := Cond.arrayOver_spec h
  exact ⟨cA, fun n z => ⟨fun k h => (by cases h), kA, h3, comp, h4⟩, kA, comp, h3, h4, h1, h5⟩
theorem k_start {s : State} {b : Nat} (hts : ∀ w ∈ lw_tbl, w.before #[Value.ref b] s = true) (hao : va_AO RX0 s ∧ va_AO RX3 s ∧ va_AO RX2 s) : ∃ (D : va_G) (ct : Nat → ClassId), va_K D vwCl (tysOf ct) s := by
  obtain ⟨c0, i0, k0⟩ := u_known (C := RX0) (T := TX0) (N := 9) (n := 9) hts inX0 (hts (.instantiable RX0 9) (by decide +kernel))
  obtain ⟨c1, i1, k1⟩ := u_known (C := RX1) (T := TX1) (N := 3) (n := 3) hts inX1 (hts (.instantiable RX1 3) (by decide +kernel))
  obtain ⟨c2, i2, k2⟩ := u_known (C := RX2) (T := TX2) (N := 2) (n := 2) hts inX2 (hts (.instantiable RX2 2) (by decide +kernel))
  obtain ⟨c3, i3, k3⟩ := u_known (C := RX3) (T := TX3) (N := 13) (n := 13) hts inX3 (hts (.instantiable RX3 13) (by decide +kernel))
  obtain ⟨c4, i4, k4⟩ := u_known (C := RX4) (T := TX4) (N := 4) (n := 4) hts inX4 (hts (.instantiable RX4 4) (by decide +kernel))
  obtain ⟨c5, i5, k5⟩ := u_known (C := RX5) (T := TX5) (N := 5) (n := 5) hts inX5 (hts (.instantiable RX5 5) (by decide +kernel))
  obtain ⟨a0, b0, d0⟩ := arr_start (ty := .int) (hts (.arrayClass .int) (by decide +kernel)) (fun _ h => by cases h)
  obtain ⟨a2, b2, d2⟩ := arr_start (ty := .char) (hts (.arrayClass .char) (by decide +kernel)) (fun _ h => by cases h)
  obtain ⟨a4, b4, d4⟩ := arrq_start hao.1
  obtain ⟨a5, b5, d5⟩ := arrq_start hao.2.1
  obtain ⟨a6, b6, d6⟩ := arrq_start hao.2.2
  refine ⟨(fun k => [c0, c1, c2, c3, c4, c5].getD k 0, fun k => [i0, i1, i2, i3, i4, i5].getD k (fun _ => 0)), fun k => [a0, a0, a2, a0, a4, a5, a6].getD k 0, fun k q hq => ?_, fun k q hq => ?_⟩
  · match k, hq with
    | 0, hq => cases hq; exact k0
    | 1, hq => cases hq; exact k1
    | 2, hq => cases hq; exact k2
    | 3, hq => cases hq; exact k3
    | 4, hq => cases hq; exact k4
    | 5, hq => cases hq; exact k5
    | k + 6, hq => simp [vwCl] at hq
  · match k, hq with
    | 0, hq => cases hq; exact ⟨b0, d0⟩
    | 1, hq => cases hq; exact ⟨b0, d0⟩
    | 2, hq => cases hq; exact ⟨b2, d2⟩
    | 3, hq => cases hq; exact ⟨b0, d0⟩
    | 4, hq => cases hq; exact ⟨b4, d4⟩
    | 5, hq => cases hq; exact ⟨b5, d5⟩
    | 6, hq => cases hq; exact ⟨b6, d6⟩
    | k + 7, hq => simp [tysOf] at hq
def A0 : AS := (sv0, 0, fun _ => sv0, fun _ => sv0, fun _ => 0, 0, fun _ => 0)
theorem sv_inv : Inv sv0 := by
  refine Inv_mk (n := 4) (t := 0) rfl (by decide) (by decide) (fun d hd => ?_) (fun g g0 g4 => ?_) ⟨rfl, rfl⟩ ⟨8, by decide, by decide, rfl⟩ rfl (fun L _ h _ => by omega) ⟨0, by decide, by decide, rfl⟩ ⟨⟨ff_0.1, by decide +kernel, by decide +kernel⟩, ⟨ff_0.1, by decide +kernel, by decide +kernel⟩, ff_0.1.ne_nan⟩
  · have e : sv0.1 (4 + d) = dFirst := by
      match d, hd with
      | 0, _ => rfl
      | 1, _ => rfl
      | 2, _ => rfl
      | 3, _ => rfl
    rw [e]
    exact ⟨⟨10, by decide, by decide, rfl⟩, ⟨1, by decide, by decide, rfl⟩, ⟨15, by decide, by decide, rfl⟩, ⟨0, by decide, by decide, rfl⟩, ⟨0, by decide, by decide, rfl⟩, ⟨0, by decide, by decide, rfl⟩⟩
  · match g, g0, g4 with
    | 1, _, _ => exact ⟨⟨5, by decide, by decide, rfl⟩, ⟨5, by decide, by decide, rfl⟩⟩
    | 2, _, _ => exact ⟨⟨5, by decide, by decide, rfl⟩, ⟨5, by decide, by decide, rfl⟩⟩
    | 3, _, _ => exact ⟨⟨5, by decide, by decide, rfl⟩, ⟨5, by decide, by decide, rfl⟩⟩
theorem sv_lok : LOk (14000 * 0) A0 := by
  have e12 : ∀ d, d < 4 → sv0.1 (12 + d) = (fun _ => 0) ∧ sv0.1 (20 + d) = (fun _ => 0) ∧ sv0.1 (4 + d) = dFirst := fun d hd => match d, hd with
    | 0, _ => ⟨rfl, rfl, rfl⟩
    | 1, _ => ⟨rfl, rfl, rfl⟩
    | 2, _ => ⟨rfl, rfl, rfl⟩
    | 3, _ => ⟨rfl, rfl, rfl⟩
  have en : nOf sv0 = 4 := rfl
  refine ⟨⟨⟨sv_inv, 0, rfl, Nat.zero_le _⟩, Nat.zero_le _, fun i hi => absurd hi (Nat.not_lt_zero i), fun j _ hj => absurd rfl hj, Nat.zero_le _⟩, ⟨⟨fun d hd => ?_, ⟨0, 0, rfl, rfl, Nat.le_refl _, Nat.zero_le _, ?_⟩, ?_⟩, by omega⟩, by omega⟩
  · have hd : d < nOf sv0 := hd
    rw [en] at hd
    obtain ⟨e1, e2, e3⟩ := e12 d hd
    show XD (14000 * 0) sv0 d
    unfold XD
    rw [e1, e2, e3]
    exact ⟨fun k _ => ⟨0, by omega, by omega, rfl⟩, 0, Nat.zero_le _, rfl, fun k hk => ⟨0, by omega, rfl, fun q => absurd (show bit 0 k = 1 from q) (by rw [bit_z k hk]; decide)⟩⟩
  · show pDrN sv0 (nOf sv0) ≤ 0
    rw [en]
    decide
  · show XF (14000 * 0) (fun _ => 0)
    refine ⟨ff_0.1, ff_0.1, ff_0.1, by rw [ff_0.2]; exact Int.le_refl 0, Int.le_refl _, by rw [ff_0.2, ff_20.2]; decide, by rw [ff_0.2]; exact Int.le_refl 0, by rw [ff_0.2]; decide⟩
set_option maxHeartbeats 1000000 in
set_option maxRecDepth 100000 in
/-- from the entry, for every script of at most 260 ints, the law comes to its end with true -/
theorem whole_start {p : Program} {e : Env} {s : State} {m : MethodId} {below : List Frame} {meth : Method} {c : Code} (l : Launch) (hflags : l.flags = flags0) {b L : Nat} {xs : Nat → Int32} (hL : L ≤ 260) (C0 : lw_At p s m meth c b L xs) : W p l e room_1 s m #[Value.ref b] below meth c s.heap [] 0 0 (lw_Z below #[Value.ref b] s) (entryFrame m ([Value.ref b] : List Value).toArray 13) := by
  obtain ⟨hx, hb, hr, hml, hown, htsT, hX, hbl, hlocks, hgv⟩ := id C0
  have hts : ∀ w ∈ wsL_law, w.before #[Value.ref b] s = true := fun w h => htsT w (wsL_law_in w h)
  have hZ := st_start hgv htsT
  have hN := ns_start htsT
  obtain ⟨hAOX0, hAOX3, hAOX2⟩ := hZ.ao
  obtain ⟨D, ct, hK⟩ := k_start htsT ⟨hAOX0, hAOX3, hAOX2⟩
  have hA : ∀ q : Nat, s.heap.size ≤ q → (fun q : Nat => s.heap.size ≤ q) q := fun _ h => h
  have hS : va_S (fun q : Nat => s.heap.size ≤ q) s.heap s.heap [] := va_S.rf
  have hP : va_P D vwCl [] s.heap := fun k q h => by simp at h
  have hD : va_D (fun q : Nat => s.heap.size ≤ q) [] := ⟨fun i j p q h => by simp at h, fun k q h => by simp at h⟩
  have hown : s.vm.findClass RL = some m.cls := hown
  have hl := lv_entry ([.ref b]) (n := 13) (Nat.le_of_ble_eq_true rfl)
  rw [lg_entry_eq]
  generalize (lg_sl ([.ref b]) ++ List.replicate (13 - (lg_sl ([.ref b])).length) Slot.unset).toArray = ls at hl ⊢
  have hl : lv_has ls 13 [(0, .ref b)] := hl
  refine va_new (C := RX5) (T := TX5) (N := 5) (ci := 5) (fs := [.null, .null, .null, .null, .null]) hx hb hts inlX5 tyX5 tyX5_ok hown (hts (.classLink RL 10 RX5) (by decide +kernel)) (hts (.instantiable RX5 5) (by decide +kernel)) (hts (.initialized RX5) (by decide +kernel)) hK hP hD hS hA rfl (fun j hj => match j, hj with | 0, _ => rfl | 1, _ => rfl | 2, _ => rfl | 3, _ => rfl | 4, _ => rfl) (Nat.le_of_ble_eq_true rfl) (Nat.le_of_ble_eq_true rfl) dL_law_0 (fun q1 H hP hD hS => ?_)
  have hP : va_P D vwCl [(q1, .inr (5, [.null, .null, .null, .null, .null]))] H := hP
  have hD : va_D (fun q : Nat => s.heap.size ≤ q) [(q1, .inr (5, [.null, .null, .null, .null, .null]))] := hD
  refine lv_dup hx hb dL_law_3 rfl ?_
  have hF1 := w_free (wc := [(q1, .inr (5, [.null, .null, .null, .null, .null]))]) hD (List.Perm.of_eq (List.append_nil _).symm) hS hA
  refine va_callv (va_runI (As := []) (rest := [.ref q1]) ⟨hx, hb, hml, hown, hts⟩ (k_X5_init l D ct _ q1) (cwI 0 hts gL_law_X5_init rfl rfl rfl (hts (.initialized RX5) (by decide +kernel)) (hts (.methodLink RL 103 yX5_init) (by decide +kernel)) (hts (.instanceMethod yX5_init) (by decide +kernel)) rfl (by decide +kernel) ⟨Nat.le_of_ble_eq_true rfl, Nat.le_of_ble_eq_true rfl⟩) ⟨muPS.blind, muPS.at hZ hS hF1 hP hD hK hN⟩ rfl rfl hl.1 rfl (lv_room (Nat.le_of_ble_eq_true rfl)) dL_law_4 ⟨Nat.le_of_ble_eq_true rfl, Nat.le_of_ble_eq_true rfl⟩) hS (fun q _ h => hF1 q h) hF1 (fun u tt H1 locs ht hvm hw hB hz1 hk1 hS => ?_)
  obtain ⟨hu, hB⟩ := hB
  obtain ⟨o, ad⟩ := u
  have hu : o 0 = q1 := hu
  have j9 := muE.join (ws' := xW ct o ad sv0 sv0 (fun _ => sv0) 0 0 sv0 sv0 0 0 0 0 (fun _ => 0) (fun _ => 0)) hP hD (List.Perm.of_eq (List.append_nil _).symm) (List.Perm.of_eq (List.append_nil _).symm) hk1 hF1 ht hB
  obtain ⟨W1, hA1, hP, hD⟩ : ∃ W1, CX ct o ad A0 W1 ∧ va_P D vwCl W1 H1 ∧ va_D (fun q : Nat => s.heap.size ≤ q) W1 := ⟨_, ⟨sv0, fun _ => sv0, 0, 0, fun _ => 0, rfl, by decide, fun i hi => absurd hi (Nat.not_lt_zero i)⟩, j9.1, j9.2⟩
  refine lv_astore_n (lv' := [(1, .ref q1), (0, .ref b)]) hx hb dL_law_7 rfl hl (by decide) rfl (fun ls hl => ?_)
  refine lv_iconst (v := 0) hx hb dL_law_8 (by decide) ?_
  refine lv_istore_n (lv' := [(2, .int 0), (1, .ref q1), (0, .ref b)]) hx hb dL_law_9 rfl hl (by decide) rfl (fun ls hl => ?_)
  rw [← hu] at hl
  refine W.widen (k := 400 + 2 * 0) (n := 6000 + 128 * 0) (Nat.le_of_ble_eq_true rfl) (Nat.le_of_ble_eq_true rfl) ?_
  exact law_loop l ⟨⟨hx, hb, hml, hown, hts⟩, hK, hN, hZ, hA⟩ hX hbl hL hr hlocks (fun _ h => h) 37 0 (by decide) (by decide) A0 _ _ sv_lok ⟨W1, hA1, by rw [List.append_nil]; exact hP, by rw [List.append_nil]; exact hD, hS⟩ ls hl
