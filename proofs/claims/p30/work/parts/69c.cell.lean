/-! the law reads its script -/
def clP (L : Nat) (xs : Nat → Int32) (bb : Nat) (k : Int32) : Array Value → State → Prop := va_Pc [.ref bb, .int k] (fun U => va_X bb L xs U U.heap)
theorem clP.blind {L : Nat} {xs : Nat → Int32} {bb : Nat} {k : Int32} : FrameBlind (clP L xs bb k) := fun _ _ _ _ q => ⟨q.1, va_X.moved (Vm.Alike.refl _) q.2⟩
theorem clP.at {L : Nat} {xs : Nat → Int32} {bb : Nat} {k : Int32} {s : State} {H : Heap} {Z : Nat → Prop} {locs : List Loc} (hX : va_X bb L xs s s.heap) (hbl : bb < s.heap.size) (hbA : ¬ Z bb) (hS : va_S Z s.heap H locs) : ∀ U : State, U.heap = H → s.WarmedH U.vm → clP L xs bb k #[.ref bb, .int k] U :=
  fun U hU hW => ⟨rfl, by show va_X bb L xs U U.heap; rw [hU]; exact (va_X.moved hW.alike (hX.kept (hS.2.1 bb hbl hbA)))⟩
set_option maxHeartbeats 4000000 in
set_option maxRecDepth 100000 in
theorem kL_cell (l : Launch) (L : Nat) (hL : L < 2 ^ 31) (xs : Nat → Int32) (bb k : Nat) (hk : k < 2 ^ 31) : Met l yL_cell wsL_cell ({ frames := 0, cells := 0, slots := 0, locals := 0 }) (clP L xs bb (nI k)) (vp_Si (fun r => r = pCell xs L k)) 0 0 noA := by
  refine Met.ofW (cc := cL_cell) (maxL := 2) (ret := (some .int)) (by decide) rfl ?_
  intro p e s m args below meth c s₁ B hml hv
  obtain ⟨rfl, hX⟩ := hv
  have hx := B.exec
  have hb := B.bytes
  have hr := B.returns
  have hts := atoms_spec (ws := wsL_cell) B.pre
  have hown : s.vm.findClass RL = some m.cls := findClass_of_methodNamed B.named
  have hlocks := B.notSynchronized
  have hS : va_S noA s.heap s.heap [] := va_S.rf
  have hbl : bb < s.heap.size := by
    obtain ⟨scr, h1, -⟩ := hX
    exact (Array.getElem?_eq_some_iff.mp h1).1
  have hbA : ¬ noA bb := fun z => z
  have hl := lv_entry ([.ref bb, .int (nI k)]) (n := 2) (Nat.le_of_ble_eq_true rfl)
  rw [lg_entry_eq]
  generalize (lg_sl ([.ref bb, .int (nI k)]) ++ List.replicate (2 - (lg_sl ([.ref bb, .int (nI k)])).length) Slot.unset).toArray = ls at hl ⊢
  have hl : lv_has ls 2 [(0, .ref bb), (1, .int (nI k))] := hl
  refine lv_iload_n hx hb dL_cell_0 rfl (lv_at hl 1 rfl) ?_
  refine lv_aload_n hx hb dL_cell_1 rfl (lv_at hl 0 rfl) ?_
  refine va_slen hx hb hX hbl hbA hS dL_cell_2 ?_
  refine lv_icmp_ge (tgt := 12) hx hb dL_cell_3 (by decide) (fun c_3 => ?_) (fun c_3 => ?_)
  · have hge : ¬ k < L := Nat.not_lt.mpr (nI_le' hL hk c_3)
    have w_1 := hts (.constant RL 7 (8770009)) (List.mem_of_getElem? (i := 1) rfl)
    refine lv_ldc (v := 8770009) hx hb hown w_1 dL_cell_12 ?_
    refine lv_iload_n hx hb dL_cell_14 rfl (lv_at hl 1 rfl) ?_
    refine lv_imul hx hb dL_cell_15 ?_
    refine lv_sipush (v := 7307) hx hb dL_cell_16 (by decide) ?_
    refine lv_iadd hx hb dL_cell_19 ?_
    exact W.iret (v := 8770009 * nI k + 7307) hx hb hr (fun tt ht hW => ⟨_, rfl, (if_neg hge).symm, ht⟩) (fun q hq => absurd hq List.not_mem_nil) dL_cell_20
  · have hlt : k < L := nI_nle' hL hk c_3
    refine lv_aload_n hx hb dL_cell_6 rfl (lv_at hl 0 rfl) ?_
    refine lv_iload_n hx hb dL_cell_7 rfl (lv_at hl 1 rfl) ?_
    refine va_sld hx hb hX hbl hbA hS (r_in (k := k) rfl hlt hL) dL_cell_8 ?_
    refine lv_as (y := xs k) (by rw [nI_clamp hk]) ?_
    refine lv_goto (tgt := 20) hx hb dL_cell_9 (by decide) ?_
    exact W.iret (v := xs k) hx hb hr (fun tt ht hW => ⟨_, rfl, (if_pos hlt).symm, ht⟩) (fun q hq => absurd hq List.not_mem_nil) dL_cell_20
section LQC
variable {p : Program} {l : Launch} {e : Env} {R : Room} {s : State} {m : MethodId} {args : Array Value} {below : List Frame} {meth : Method} {c : Code} {H : Heap} {locs : List Loc} {cells slots : Nat} {Q : State → Prop}
variable {cc : ByteArray} {pc nL idx : Nat} {ls : Array Slot} {rest : List Value} {D : va_G} {ct : Nat → ClassId} {o : Nat → Nat} {ad : Nat → Nat → Nat} {Z : Nat → Prop} {X : va_W} {A : AS} {Ts : List Cond}
theorem lq_cell (C : LF p s m c cc nL args Ts D ct Z) (hI : LH s D ct o ad Z X A H locs) {L : Nat} {xs : Nat → Int32} {bb k : Nat} (hX : va_X bb L xs s s.heap) (hbl : bb < s.heap.size) (hbA : ¬ Z bb) (hL : L < 2 ^ 31) (hk : k < 2 ^ 31) (cw : CallB R s args RL idx yL_cell cL_cell 2 (some .int) wsL_cell ({ frames := 0, cells := 0, slots := 0, locals := 0 }) 0 0 2 ∧ (Cond.static yL_cell).before args s = true)
    (hsize : ls.size = nL) (hW : (rest.map fun v => v.category).sum ≤ 8) (hdg : decode cc pc = .ok (.invokestatic idx, 3)) (hf : cells ≤ R.cells ∧ slots ≤ R.slots)
    (k9 : W p l e R s m args below meth c H locs cells slots Q (F0 m (pc + 3) ls (.int (pCell xs L k) :: rest))) : W p l e R s m args below meth c H locs cells slots Q (F0 m pc ls (.int (nI k) :: .ref bb :: rest)) := by
  obtain ⟨W1, hC, hP, hD, hS⟩ := hI
  obtain ⟨Cf, hK, hN, hZ, hA⟩ := C
  refine vp_callSi (va_runS (As := [.ref bb, .int (nI k)]) (rest := rest) Cf (kL_cell l L hL xs bb k hk) cw ⟨clP.blind, clP.at (H := H) hX hbl hbA hS⟩ rfl rfl hsize rfl (lv_room hW) hdg hf).run (fun z hz => ?_)
  rw [hz]
  exact k9
end LQC
