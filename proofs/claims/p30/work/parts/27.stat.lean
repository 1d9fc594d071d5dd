def chF (j : Nat) : Int32 := [48, 49, 50, 51, 52, 53, 54, 55, 56, 57, 45, 32, 69, 114, 111].getD j 0
def ptF (j : Nat) : Int32 := [63, 6, 91, 79, 102, 109, 125, 7, 127, 111, 64, 0, 121, 80, 92].getD j 0
def leF (j : Nat) : Int32 := [2, 1, 1].getD j 0
def moF (j : Nat) : Int32 := [50, 1000, 1000000].getD j 0
def stA (ty : FieldType) (n d : String) (N : Nat) (f : Nat → Int32) (A : Nat → Prop) (U : State) (H : Heap) : Prop := ∃ t : Nat, va_Z "ScannedDigits" n d (.ref t) A U H ∧ va_T ty t N (fun j => .int (f j)) A U H
def stF (A : Nat → Prop) (U : State) (H : Heap) : Prop := ∃ (t : Nat) (cell : Cell) (cC : ClassId), va_Z "ScannedDigits" "FIRST_SETTINGS" "[I" (.ref t) A U H ∧ H[t]? = some cell ∧ (∀ k, cell.vm ≠ .statics k) ∧ cell.vm ≠ .unknown ∧ cell.slots = #[.int 8, .int 200, .int 100000] ∧ U.vm.findClass "[I" = some cell.cls ∧ U.vm.findClass "java/lang/Cloneable" = some cC ∧ U.vm.assignable cell.cls cC = true ∧ ¬ A t
theorem stA.moved {ty : FieldType} {n d : String} {N : Nat} {f : Nat → Int32} {A : Nat → Prop} {u U : State} {H : Heap} (hvm : u.vm.Alike U.vm) (h : stA ty n d N f A u H) : stA ty n d N f A U H := by
  obtain ⟨t, h1, h2⟩ := h
  exact ⟨t, h1.moved hvm, h2.moved hvm⟩
theorem stA.kept {ty : FieldType} {n d : String} {N : Nat} {f : Nat → Int32} {A : Nat → Prop} {U : State} {H H1 : Heap} (h : stA ty n d N f A U H) (hq : ∀ a : Nat, a < H.size → ¬ A a → H1[a]? = H[a]?) : stA ty n d N f A U H1 := by
  obtain ⟨t, h1, h2⟩ := h
  exact ⟨t, h1.kept hq, h2.kept hq⟩
theorem stA.narrow {ty : FieldType} {n d : String} {N : Nat} {f : Nat → Int32} {A B : Nat → Prop} {U : State} {H : Heap} (h : stA ty n d N f A U H) (hAB : ∀ q, B q → A q) : stA ty n d N f B U H := by
  obtain ⟨t, h1, h2⟩ := h
  exact ⟨t, h1.narrow hAB, h2.narrow hAB⟩
theorem stF.moved {A : Nat → Prop} {u U : State} {H : Heap} (hvm : u.vm.Alike U.vm) (h : stF A u H) : stF A U H := by
  obtain ⟨t, cell, cC, h1, h2, h3, h4, h5, h6, h7, h8, h9⟩ := h
  exact ⟨t, cell, cC, h1.moved hvm, h2, h3, h4, h5, by rw [hvm.findClass]; exact h6, by rw [hvm.findClass]; exact h7, by rw [hvm.assignable]; exact h8, h9⟩
theorem stF.kept {A : Nat → Prop} {U : State} {H H1 : Heap} (h : stF A U H) (hq : ∀ a : Nat, a < H.size → ¬ A a → H1[a]? = H[a]?) : stF A U H1 := by
  obtain ⟨t, cell, cC, h1, h2, h3, h4, h5, h6, h7, h8, h9⟩ := h
  exact ⟨t, cell, cC, h1.kept hq, by rw [hq t (Array.getElem?_eq_some_iff.mp h2).1 h9]; exact h2, h3, h4, h5, h6, h7, h8, h9⟩
theorem stF.narrow {A B : Nat → Prop} {U : State} {H : Heap} (h : stF A U H) (hAB : ∀ q, B q → A q) : stF B U H := by
  obtain ⟨t, cell, cC, h1, h2, h3, h4, h5, h6, h7, h8, h9⟩ := h
  exact ⟨t, cell, cC, h1.narrow hAB, h2, h3, h4, h5, h6, h7, h8, fun z => h9 (hAB t z)⟩
def stT (A : Nat → Prop) (U : State) (H : Heap) : Prop :=
  stA .char "CHARACTERS" "[C" 15 chF A U H ∧ stA .int "PATTERNS" "[I" 15 ptF A U H ∧ stA .int "LEAST_SETTINGS" "[I" 3 leF A U H ∧ stA .int "MOST_SETTINGS" "[I" 3 moF A U H ∧ stF A U H ∧
  va_Nw (.fieldLinkNest RX3 28 "ScannedDigits" "FIRST_SETTINGS" "[I" RX5) U ∧ (va_AO RX0 U ∧ va_AO RX3 U ∧ va_AO RX2 U)
theorem stT.ch {A : Nat → Prop} {U : State} {H : Heap} (h : stT A U H) : stA .char "CHARACTERS" "[C" 15 chF A U H := h.1
theorem stT.pt {A : Nat → Prop} {U : State} {H : Heap} (h : stT A U H) : stA .int "PATTERNS" "[I" 15 ptF A U H := h.2.1
theorem stT.le {A : Nat → Prop} {U : State} {H : Heap} (h : stT A U H) : stA .int "LEAST_SETTINGS" "[I" 3 leF A U H := h.2.2.1
theorem stT.mo {A : Nat → Prop} {U : State} {H : Heap} (h : stT A U H) : stA .int "MOST_SETTINGS" "[I" 3 moF A U H := h.2.2.2.1
theorem stT.fi {A : Nat → Prop} {U : State} {H : Heap} (h : stT A U H) : stF A U H := h.2.2.2.2.1
theorem stT.nf {A : Nat → Prop} {U : State} {H : Heap} (h : stT A U H) : va_Nw (.fieldLinkNest RX3 28 "ScannedDigits" "FIRST_SETTINGS" "[I" RX5) U := h.2.2.2.2.2.1
theorem stT.ao {A : Nat → Prop} {U : State} {H : Heap} (h : stT A U H) : va_AO RX0 U ∧ va_AO RX3 U ∧ va_AO RX2 U := h.2.2.2.2.2.2
theorem stT.kept {A : Nat → Prop} {U : State} {H H1 : Heap} (h : stT A U H) (hq : ∀ a : Nat, a < H.size → ¬ A a → H1[a]? = H[a]?) : stT A U H1 := ⟨h.ch.kept hq, h.pt.kept hq, h.le.kept hq, h.mo.kept hq, h.fi.kept hq, h.nf, h.ao⟩
theorem stT.narrow {A B : Nat → Prop} {U : State} {H : Heap} (h : stT A U H) (hAB : ∀ q, B q → A q) : stT B U H := ⟨h.ch.narrow hAB, h.pt.narrow hAB, h.le.narrow hAB, h.mo.narrow hAB, h.fi.narrow hAB, h.nf, h.ao⟩
theorem stT.warm {A : Nat → Prop} {s U : State} {H : Heap} (hW : s.WarmedH U.vm) (h : stT A s H) : stT A U H := ⟨h.ch.moved hW.alike, h.pt.moved hW.alike, h.le.moved hW.alike, h.mo.moved hW.alike, h.fi.moved hW.alike, va_Nw.warmF hW h.nf, h.ao.1.moved hW.alike, h.ao.2.1.moved hW.alike, h.ao.2.2.moved hW.alike⟩
theorem stT.same {A : Nat → Prop} {u U : State} {H : Heap} (e : u.vm = U.vm) (h : stT A u H) : stT A U H := by
  have hv : u.vm.Alike U.vm := by rw [e]; exact Vm.Alike.refl _
  exact ⟨h.ch.moved hv, h.pt.moved hv, h.le.moved hv, h.mo.moved hv, h.fi.moved hv, va_Nw.same rfl e h.nf, h.ao.1.moved hv, h.ao.2.1.moved hv, h.ao.2.2.moved hv⟩
/-! contracts that ask for them -/
def roPS (D : va_G) (ct : Nat → ClassId) (ws : va_W) (av : List Value) : Array Value → State → Prop := va_Pc av (fun U => stT noA U U.heap ∧ roB D ct ws U)
theorem roPS.blind {D : va_G} {ct : Nat → ClassId} {ws : va_W} {av : List Value} : FrameBlind (roPS D ct ws av) := fun _ _ _ _ q => ⟨q.1, stT.same rfl q.2.1, q.2.2.1, va_K.moved (Vm.Alike.refl _) q.2.2.2.1, nsB.same rfl q.2.2.2.2⟩
theorem roPS.at {D : va_G} {ct : Nat → ClassId} {ws : va_W} {av : List Value} {s : State} {H : Heap} {A : Nat → Prop} {locs : List Loc} (hZ : stT A s s.heap) (hS : va_S A s.heap H locs) (hP : va_P D vwCl ws H) (hK : va_K D vwCl (tysOf ct) s) (hN : nsB s) : ∀ U : State, U.heap = H → s.WarmedH U.vm → roPS D ct ws av av.toArray U :=
  fun _ hU hW => ⟨rfl, by rw [hU]; exact ((hZ.kept (fun q h1 h2 => hS.2.1 q h1 h2)).narrow (fun _ z => z.elim)).warm hW, by rw [hU]; exact hP, va_K.moved hW.alike hK, hN.warm hW⟩
def muPS (D : va_G) (ct : Nat → ClassId) (ws : va_W) (sz : Nat) (av : List Value) : Array Value → State → Prop := va_Pc av (fun U => stT (va_A ws sz) U U.heap ∧ muB D ct ws sz U)
theorem muPS.blind {D : va_G} {ct : Nat → ClassId} {ws : va_W} {sz : Nat} {av : List Value} : FrameBlind (muPS D ct ws sz av) := fun _ _ _ _ q => ⟨q.1, stT.same rfl q.2.1, q.2.2.1, q.2.2.2.1, va_K.moved (Vm.Alike.refl _) q.2.2.2.2.1, nsB.same rfl q.2.2.2.2.2.1, q.2.2.2.2.2.2⟩
theorem muPS.at {D : va_G} {ct : Nat → ClassId} {ws : va_W} {av : List Value} {s : State} {H : Heap} {A A0 : Nat → Prop} {locs : List Loc} (hZ : stT A0 s s.heap) (hS : va_S A0 s.heap H locs) (hF : ∀ q, va_A ws H.size q → A0 q) (hP : va_P D vwCl ws H) (hD : va_D A ws) (hK : va_K D vwCl (tysOf ct) s) (hN : nsB s) : ∀ U : State, U.heap = H → s.WarmedH U.vm → muPS D ct ws H.size av av.toArray U :=
  fun _ hU hW => ⟨rfl, by rw [hU]; exact ((hZ.kept (fun q h1 h2 => hS.2.1 q h1 h2)).narrow hF).warm hW, by rw [hU], by rw [hU]; exact hP, va_K.moved hW.alike hK, hN.warm hW, dw_true hD⟩
section RT
variable {p : Program} {l : Launch} {e : Env} {R : Room} {s : State} {m : MethodId} {args : Array Value} {below : List Frame} {meth : Method} {c : Code} {H : Heap} {locs : List Loc} {cells slots : Nat} {Q : State → Prop}
variable {cc : ByteArray} {pc : Nat} {ls : Array Slot} {rest : List Value} {A : Nat → Prop} {t N : Nat} {f : Nat → Int32}
theorem rt_c (hexec : p.tables.exec = Jvm.exec) (hb : c.code = cc) (hT : va_T .char t N (fun j => .int (f j)) A s s.heap) (hS : va_S A s.heap H locs) {i : Int32} {k : Nat} (hi : i = nI k) (hk : k < N) (hn : N < 2 ^ 31) (hdg : decode cc pc = .ok (.caload, 1))
    (kk : W p l e R s m args below meth c H locs cells slots Q (F0 m (pc + 1) ls (.int (f k) :: rest))) : W p l e R s m args below meth c H locs cells slots Q (F0 m pc ls (.int i :: .ref t :: rest)) :=
  va_tc hexec hb hT hS (r_in hi hk hn) rfl hdg (by rw [r_ix hi hk hn]; exact kk)
theorem rt_i (hexec : p.tables.exec = Jvm.exec) (hb : c.code = cc) (hT : va_T .int t N (fun j => .int (f j)) A s s.heap) (hS : va_S A s.heap H locs) {i : Int32} {k : Nat} (hi : i = nI k) (hk : k < N) (hn : N < 2 ^ 31) (hdg : decode cc pc = .ok (.iaload, 1))
    (kk : W p l e R s m args below meth c H locs cells slots Q (F0 m (pc + 1) ls (.int (f k) :: rest))) : W p l e R s m args below meth c H locs cells slots Q (F0 m pc ls (.int i :: .ref t :: rest)) :=
  va_ti hexec hb hT hS (r_in hi hk hn) rfl hdg (by rw [r_ix hi hk hn]; exact kk)
end RT
theorem pPat_ch : ∀ i, i < 15 → pPat (chF i) = ptF i := by decide
theorem pChr_pt : ∀ i, i < 15 → pChr (ptF i) = chF i := by decide +kernel
theorem pPat_no {x : Int32} (h : ∀ j, j < 15 → chF j ≠ x) : pPat x = -4 := by
  refine pPat_none ?_
  have g : ∀ j, j < 15 → ¬ x = chF j := fun j hj z => h j hj z.symm
  exact ⟨g 11 (by decide), g 10 (by decide), g 0 (by decide), g 1 (by decide), g 2 (by decide), g 3 (by decide), g 4 (by decide), g 5 (by decide), g 6 (by decide), g 7 (by decide), g 8 (by decide), g 9 (by decide), g 12 (by decide), g 14 (by decide), g 13 (by decide)⟩
theorem pPat_cases (x : Int32) : (∃ j, j < 15 ∧ x = chF j) ∨ pPat x = -4 := by
  by_cases h : ∃ j, j < 15 ∧ x = chF j
  · exact Or.inl h
  · exact Or.inr (pPat_no (fun j hj z => h ⟨j, hj, z.symm⟩))
theorem pChrF_no {q : Int32} (h4 : q ≠ -4) (h : ∀ j, j < 15 → ptF j ≠ q) : ∀ k c, pChrF q k c = -4 := by
  intro k
  induction k with
  | zero => intro c; rfl
  | succ k ih =>
    intro c
    show (if _ then _ else _) = _
    rw [if_neg, ih]
    intro z
    rcases pPat_cases (nI c) with ⟨j, hj, e⟩ | e
    · rw [e, pPat_ch j hj] at z
      exact h j hj z
    · rw [e] at z
      exact h4 z.symm
theorem pChr_no {q : Int32} (h4 : q ≠ -4) (h : ∀ j, j < 15 → ptF j ≠ q) : pChr q = -4 := pChrF_no h4 h 95 32
