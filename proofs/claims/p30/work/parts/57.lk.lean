/-! the walk of the law's methods: one step each -/
section BR
variable {p : Program} {l : Launch} {e : Env} {R : Room} {s : State} {m : MethodId} {args : Array Value} {below : List Frame} {meth : Method} {c : Code} {H : Heap} {locs : List Loc} {cells slots : Nat} {Q : State → Prop}
variable {cc : ByteArray} {pc : Nat} {ls : Array Slot} {rest : List Value} {x y : Int32} {off : Int} {tgt : Nat}
theorem bicmp_eq_t (hexec : p.tables.exec = Jvm.exec) (hb : c.code = cc) (hdg : decode cc pc = .ok (.if_icmp .eq off, 3)) (ht : (pc : Int) + off = (tgt : Int)) (h : x = y) (k : W p l e R s m args below meth c H locs cells slots Q (F0 m tgt ls rest)) : W p l e R s m args below meth c H locs cells slots Q (F0 m pc ls (.int y :: .int x :: rest)) := lv_icmp_eq hexec hb hdg ht (fun _ => k) (fun z => absurd h z)
theorem bicmp_eq_f (hexec : p.tables.exec = Jvm.exec) (hb : c.code = cc) (hdg : decode cc pc = .ok (.if_icmp .eq off, 3)) (ht : (pc : Int) + off = (tgt : Int)) (h : ¬ x = y) (k : W p l e R s m args below meth c H locs cells slots Q (F0 m (pc + 3) ls rest)) : W p l e R s m args below meth c H locs cells slots Q (F0 m pc ls (.int y :: .int x :: rest)) := lv_icmp_eq hexec hb hdg ht (fun z => absurd z h) (fun _ => k)
theorem bif_eq_t (hexec : p.tables.exec = Jvm.exec) (hb : c.code = cc) (hdg : decode cc pc = .ok (.ifCond .eq off, 3)) (ht : (pc : Int) + off = (tgt : Int)) (h : x = 0) (k : W p l e R s m args below meth c H locs cells slots Q (F0 m tgt ls rest)) : W p l e R s m args below meth c H locs cells slots Q (F0 m pc ls (.int x :: rest)) := lv_if_eq hexec hb hdg ht (fun _ => k) (fun z => absurd h z)
theorem bif_eq_f (hexec : p.tables.exec = Jvm.exec) (hb : c.code = cc) (hdg : decode cc pc = .ok (.ifCond .eq off, 3)) (ht : (pc : Int) + off = (tgt : Int)) (h : ¬ x = 0) (k : W p l e R s m args below meth c H locs cells slots Q (F0 m (pc + 3) ls rest)) : W p l e R s m args below meth c H locs cells slots Q (F0 m pc ls (.int x :: rest)) := lv_if_eq hexec hb hdg ht (fun z => absurd z h) (fun _ => k)
theorem bicmp_ne_t (hexec : p.tables.exec = Jvm.exec) (hb : c.code = cc) (hdg : decode cc pc = .ok (.if_icmp .ne off, 3)) (ht : (pc : Int) + off = (tgt : Int)) (h : ¬ x = y) (k : W p l e R s m args below meth c H locs cells slots Q (F0 m tgt ls rest)) : W p l e R s m args below meth c H locs cells slots Q (F0 m pc ls (.int y :: .int x :: rest)) := lv_icmp_ne hexec hb hdg ht (fun _ => k) (fun z => absurd z h)
theorem bicmp_ne_f (hexec : p.tables.exec = Jvm.exec) (hb : c.code = cc) (hdg : decode cc pc = .ok (.if_icmp .ne off, 3)) (ht : (pc : Int) + off = (tgt : Int)) (h : x = y) (k : W p l e R s m args below meth c H locs cells slots Q (F0 m (pc + 3) ls rest)) : W p l e R s m args below meth c H locs cells slots Q (F0 m pc ls (.int y :: .int x :: rest)) := lv_icmp_ne hexec hb hdg ht (fun z => absurd h z) (fun _ => k)
theorem bif_ne_t (hexec : p.tables.exec = Jvm.exec) (hb : c.code = cc) (hdg : decode cc pc = .ok (.ifCond .ne off, 3)) (ht : (pc : Int) + off = (tgt : Int)) (h : ¬ x = 0) (k : W p l e R s m args below meth c H locs cells slots Q (F0 m tgt ls rest)) : W p l e R s m args below meth c H locs cells slots Q (F0 m pc ls (.int x :: rest)) := lv_if_ne hexec hb hdg ht (fun _ => k) (fun z => absurd z h)
theorem bif_ne_f (hexec : p.tables.exec = Jvm.exec) (hb : c.code = cc) (hdg : decode cc pc = .ok (.ifCond .ne off, 3)) (ht : (pc : Int) + off = (tgt : Int)) (h : x = 0) (k : W p l e R s m args below meth c H locs cells slots Q (F0 m (pc + 3) ls rest)) : W p l e R s m args below meth c H locs cells slots Q (F0 m pc ls (.int x :: rest)) := lv_if_ne hexec hb hdg ht (fun z => absurd h z) (fun _ => k)
theorem bicmp_lt_t (hexec : p.tables.exec = Jvm.exec) (hb : c.code = cc) (hdg : decode cc pc = .ok (.if_icmp .lt off, 3)) (ht : (pc : Int) + off = (tgt : Int)) (h : x < y) (k : W p l e R s m args below meth c H locs cells slots Q (F0 m tgt ls rest)) : W p l e R s m args below meth c H locs cells slots Q (F0 m pc ls (.int y :: .int x :: rest)) := lv_icmp_lt hexec hb hdg ht (fun _ => k) (fun z => absurd h z)
theorem bicmp_lt_f (hexec : p.tables.exec = Jvm.exec) (hb : c.code = cc) (hdg : decode cc pc = .ok (.if_icmp .lt off, 3)) (ht : (pc : Int) + off = (tgt : Int)) (h : ¬ x < y) (k : W p l e R s m args below meth c H locs cells slots Q (F0 m (pc + 3) ls rest)) : W p l e R s m args below meth c H locs cells slots Q (F0 m pc ls (.int y :: .int x :: rest)) := lv_icmp_lt hexec hb hdg ht (fun z => absurd z h) (fun _ => k)
theorem bif_lt_t (hexec : p.tables.exec = Jvm.exec) (hb : c.code = cc) (hdg : decode cc pc = .ok (.ifCond .lt off, 3)) (ht : (pc : Int) + off = (tgt : Int)) (h : x < 0) (k : W p l e R s m args below meth c H locs cells slots Q (F0 m tgt ls rest)) : W p l e R s m args below meth c H locs cells slots Q (F0 m pc ls (.int x :: rest)) := lv_if_lt hexec hb hdg ht (fun _ => k) (fun z => absurd h z)
theorem bif_lt_f (hexec : p.tables.exec = Jvm.exec) (hb : c.code = cc) (hdg : decode cc pc = .ok (.ifCond .lt off, 3)) (ht : (pc : Int) + off = (tgt : Int)) (h : ¬ x < 0) (k : W p l e R s m args below meth c H locs cells slots Q (F0 m (pc + 3) ls rest)) : W p l e R s m args below meth c H locs cells slots Q (F0 m pc ls (.int x :: rest)) := lv_if_lt hexec hb hdg ht (fun z => absurd z h) (fun _ => k)
theorem bicmp_ge_t (hexec : p.tables.exec = Jvm.exec) (hb : c.code = cc) (hdg : decode cc pc = .ok (.if_icmp .ge off, 3)) (ht : (pc : Int) + off = (tgt : Int)) (h : y ≤ x) (k : W p l e R s m args below meth c H locs cells slots Q (F0 m tgt ls rest)) : W p l e R s m args below meth c H locs cells slots Q (F0 m pc ls (.int y :: .int x :: rest)) := lv_icmp_ge hexec hb hdg ht (fun _ => k) (fun z => absurd h z)
theorem bicmp_ge_f (hexec : p.tables.exec = Jvm.exec) (hb : c.code = cc) (hdg : decode cc pc = .ok (.if_icmp .ge off, 3)) (ht : (pc : Int) + off = (tgt : Int)) (h : ¬ y ≤ x) (k : W p l e R s m args below meth c H locs cells slots Q (F0 m (pc + 3) ls rest)) : W p l e R s m args below meth c H locs cells slots Q (F0 m pc ls (.int y :: .int x :: rest)) := lv_icmp_ge hexec hb hdg ht (fun z => absurd z h) (fun _ => k)
theorem bif_ge_t (hexec : p.tables.exec = Jvm.exec) (hb : c.code = cc) (hdg : decode cc pc = .ok (.ifCond .ge off, 3)) (ht : (pc : Int) + off = (tgt : Int)) (h : 0 ≤ x) (k : W p l e R s m args below meth c H locs cells slots Q (F0 m tgt ls rest)) : W p l e R s m args below meth c H locs cells slots Q (F0 m pc ls (.int x :: rest)) := lv_if_ge hexec hb hdg ht (fun _ => k) (fun z => absurd h z)
theorem bif_ge_f (hexec : p.tables.exec = Jvm.exec) (hb : c.code = cc) (hdg : decode cc pc = .ok (.ifCond .ge off, 3)) (ht : (pc : Int) + off = (tgt : Int)) (h : ¬ 0 ≤ x) (k : W p l e R s m args below meth c H locs cells slots Q (F0 m (pc + 3) ls rest)) : W p l e R s m args below meth c H locs cells slots Q (F0 m pc ls (.int x :: rest)) := lv_if_ge hexec hb hdg ht (fun z => absurd z h) (fun _ => k)
theorem bicmp_gt_t (hexec : p.tables.exec = Jvm.exec) (hb : c.code = cc) (hdg : decode cc pc = .ok (.if_icmp .gt off, 3)) (ht : (pc : Int) + off = (tgt : Int)) (h : y < x) (k : W p l e R s m args below meth c H locs cells slots Q (F0 m tgt ls rest)) : W p l e R s m args below meth c H locs cells slots Q (F0 m pc ls (.int y :: .int x :: rest)) := lv_icmp_gt hexec hb hdg ht (fun _ => k) (fun z => absurd h z)
theorem bicmp_gt_f (hexec : p.tables.exec = Jvm.exec) (hb : c.code = cc) (hdg : decode cc pc = .ok (.if_icmp .gt off, 3)) (ht : (pc : Int) + off = (tgt : Int)) (h : ¬ y < x) (k : W p l e R s m args below meth c H locs cells slots Q (F0 m (pc + 3) ls rest)) : W p l e R s m args below meth c H locs cells slots Q (F0 m pc ls (.int y :: .int x :: rest)) := lv_icmp_gt hexec hb hdg ht (fun z => absurd z h) (fun _ => k)
theorem bif_gt_t (hexec : p.tables.exec = Jvm.exec) (hb : c.code = cc) (hdg : decode cc pc = .ok (.ifCond .gt off, 3)) (ht : (pc : Int) + off = (tgt : Int)) (h : 0 < x) (k : W p l e R s m args below meth c H locs cells slots Q (F0 m tgt ls rest)) : W p l e R s m args below meth c H locs cells slots Q (F0 m pc ls (.int x :: rest)) := lv_if_gt hexec hb hdg ht (fun _ => k) (fun z => absurd h z)
theorem bif_gt_f (hexec : p.tables.exec = Jvm.exec) (hb : c.code = cc) (hdg : decode cc pc = .ok (.ifCond .gt off, 3)) (ht : (pc : Int) + off = (tgt : Int)) (h : ¬ 0 < x) (k : W p l e R s m args below meth c H locs cells slots Q (F0 m (pc + 3) ls rest)) : W p l e R s m args below meth c H locs cells slots Q (F0 m pc ls (.int x :: rest)) := lv_if_gt hexec hb hdg ht (fun z => absurd z h) (fun _ => k)
theorem bicmp_le_t (hexec : p.tables.exec = Jvm.exec) (hb : c.code = cc) (hdg : decode cc pc = .ok (.if_icmp .le off, 3)) (ht : (pc : Int) + off = (tgt : Int)) (h : x ≤ y) (k : W p l e R s m args below meth c H locs cells slots Q (F0 m tgt ls rest)) : W p l e R s m args below meth c H locs cells slots Q (F0 m pc ls (.int y :: .int x :: rest)) := lv_icmp_le hexec hb hdg ht (fun _ => k) (fun z => absurd h z)
theorem bicmp_le_f (hexec : p.tables.exec = Jvm.exec) (hb : c.code = cc) (hdg : decode cc pc = .ok (.if_icmp .le off, 3)) (ht : (pc : Int) + off = (tgt : Int)) (h : ¬ x ≤ y) (k : W p l e R s m args below meth c H locs cells slots Q (F0 m (pc + 3) ls rest)) : W p l e R s m args below meth c H locs cells slots Q (F0 m pc ls (.int y :: .int x :: rest)) := lv_icmp_le hexec hb hdg ht (fun z => absurd z h) (fun _ => k)
theorem bif_le_t (hexec : p.tables.exec = Jvm.exec) (hb : c.code = cc) (hdg : decode cc pc = .ok (.ifCond .le off, 3)) (ht : (pc : Int) + off = (tgt : Int)) (h : x ≤ 0) (k : W p l e R s m args below meth c H locs cells slots Q (F0 m tgt ls rest)) : W p l e R s m args below meth c H locs cells slots Q (F0 m pc ls (.int x :: rest)) := lv_if_le hexec hb hdg ht (fun _ => k) (fun z => absurd h z)
theorem bif_le_f (hexec : p.tables.exec = Jvm.exec) (hb : c.code = cc) (hdg : decode cc pc = .ok (.ifCond .le off, 3)) (ht : (pc : Int) + off = (tgt : Int)) (h : ¬ x ≤ 0) (k : W p l e R s m args below meth c H locs cells slots Q (F0 m (pc + 3) ls rest)) : W p l e R s m args below meth c H locs cells slots Q (F0 m pc ls (.int x :: rest)) := lv_if_le hexec hb hdg ht (fun z => absurd z h) (fun _ => k)
end BR
/-- ahead of each instruction of the law's methods: the class's world holds the value A; X stands beside it -/
def LH (s : State) (D : va_G) (ct : Nat → ClassId) (o : Nat → Nat) (ad : Nat → Nat → Nat) (Z : Nat → Prop) (X : va_W) (A : AS) (H : Heap) (locs : List Loc) : Prop :=
  ∃ W1, CX ct o ad A W1 ∧ va_P D vwCl (W1 ++ X) H ∧ va_D Z (W1 ++ X) ∧ va_S Z s.heap H locs
/-- the same, of another thing that holds of the world -/
def LY (s : State) (D : va_G) (Z : Nat → Prop) (X : va_W) (Y : va_W → Prop) (H : Heap) (locs : List Loc) : Prop :=
  ∃ W1, Y W1 ∧ va_P D vwCl (W1 ++ X) H ∧ va_D Z (W1 ++ X) ∧ va_S Z s.heap H locs
/-- what stays over a method's walk -/
def LF (p : Program) (s : State) (m : MethodId) (c : Code) (cc : ByteArray) (nL : Nat) (args : Array Value) (Ts : List Cond) (D : va_G) (ct : Nat → ClassId) (Z : Nat → Prop) : Prop :=
  CallFix p m c cc nL s args Ts RL ∧ va_K D vwCl (tysOf ct) s ∧ nsB s ∧ stT Z s s.heap ∧ (∀ q, s.heap.size ≤ q → Z q)
theorem CX.obj {ct : Nat → ClassId} {o : Nat → Nat} {ad : Nat → Nat → Nat} {A : AS} {W : va_W} (h : CX ct o ad A W) : W[29]? = some (o 0, .inr (5, [.ref (ad 8 0), .ref (ad 5 0), .ref (o 7), .ref (o 4), .ref (o 1)])) := by
  obtain ⟨z, w, n, nd, g, rfl, -⟩ := h
  exact xw_get (i := 0) rfl
theorem cx_recv {s : State} {D : va_G} {ct : Nat → ClassId} {o : Nat → Nat} {ad : Nat → Nat → Nat} {A : AS} {W1 W2 : va_W} {H : Heap} (hK : va_K D vwCl (tysOf ct) s) (hP : va_P D vwCl (W1 ++ W2) H) (h : CX ct o ad A W1) : ∃ cell : Cell, H[o 0]? = some cell ∧ cell.vm.isStatics = false ∧ s.vm.findClass RX5 = some cell.cls :=
  va_recv hK (pw_left hP) (ci := 5) (q0 := 29) rfl h.obj
section LQ
variable {p : Program} {l : Launch} {e : Env} {R : Room} {s : State} {m : MethodId} {args : Array Value} {below : List Frame} {meth : Method} {c : Code} {H : Heap} {locs : List Loc} {cells slots : Nat} {Q : State → Prop}
variable {cc bytes : ByteArray} {pc nL idx maxL n mc ms : Nat} {ls : Array Slot} {rest st As : List Value} {D : va_G} {ct : Nat → ClassId} {o : Nat → Nat} {ad : Nat → Nat → Nat} {Z : Nat → Prop} {X W0 : va_W} {A A1 : AS} {F : Int32 × AS} {r : Int32}
variable {Ts ws : List Cond} {y : MethodName} {rm : Room} {ret : Option FieldType} {Xp : AS → va_W → Prop}
/-- a call of the class -/
theorem lq_call (C : LF p s m c cc nL args Ts D ct Z) (hI : LH s D ct o ad Z X A H locs) (hM : ∀ W sz, CX ct o ad A W → Met l y ws rm (muPS D ct W sz (.ref (o 0) :: As)) (mxQ D ct W sz F (CX ct o ad)) 0 0 (va_A W sz)) (cw : CallW R s args RL RX5 idx y bytes maxL ret ws rm 0 0 n)
    (hn : As.length = n) (hsize : ls.size = nL) (hst : st = As.reverse ++ .ref (o 0) :: rest) (hW : (rest.map fun v => v.category).sum ≤ 8) (hdg : decode cc pc = .ok (.invokevirtual idx, 3)) (hf : cells ≤ R.cells ∧ slots ≤ R.slots) (hr : F.1 = r) (h2 : F.2 = A1)
    (k : ∀ (H : Heap) (locs : List Loc), LH s D ct o ad Z X A1 H locs → W p l e R s m args below meth c H locs cells slots Q (F0 m (pc + 3) ls (.int r :: rest))) : W p l e R s m args below meth c H locs cells slots Q (F0 m pc ls st) := by
  obtain ⟨W1, hC, hP, hD, hS⟩ := hI
  obtain ⟨Cf, hK, hN, hZ, hA⟩ := C
  have hF1 := w_free (wc := W1) hD (List.Perm.refl _) hS hA
  refine va_calli (va_runV (rest := rest) Cf (hM W1 H.size hC) cw ⟨muPS.blind, cx_recv hK hP hC, muPS.at hZ hS hF1 (pw_left hP) (dw_left hD) hK hN⟩ rfl hn hsize hst (lv_room hW) hdg hf) hS (fun q _ h => hF1 q h) hF1 (fun r1 V tt H1 locs1 ht hvm hr1 hB hz1 hk1 hS => ?_)
  obtain ⟨hP, hD⟩ := muE.join (ws' := V ++ X) hP hD (List.Perm.refl _) (List.Perm.refl _) hk1 hF1 ht hB
  obtain ⟨e1, e2⟩ := hr1
  rw [e1, hr]
  rw [h2] at e2
  exact k H1 locs1 ⟨V, e2, hP, hD, hS⟩
/-- a call of the law's own methods that go through the class -/
theorem lq_stat (C : LF p s m c cc nL args Ts D ct Z) (hI : LH s D ct o ad Z X A H locs) (hM : ∀ W sz, CX ct o ad A W → Met l y ws rm (muPS D ct W sz As) (mxQ D ct W sz F Xp) mc ms (va_A W sz)) (cw : CallB R s args RL idx y bytes maxL ret ws rm mc ms n ∧ (Cond.static y).before args s = true)
    (hn : As.length = n) (hsize : ls.size = nL) (hst : st = As.reverse ++ rest) (hW : (rest.map fun v => v.category).sum ≤ 8) (hdg : decode cc pc = .ok (.invokestatic idx, 3)) (hf : cells + mc ≤ R.cells ∧ slots + ms ≤ R.slots) (hr : F.1 = r)
    (k : ∀ (H : Heap) (locs : List Loc), LY s D Z X (Xp F.2) H locs → W p l e R s m args below meth c H locs (cells + mc) (slots + ms) Q (F0 m (pc + 3) ls (.int r :: rest))) : W p l e R s m args below meth c H locs cells slots Q (F0 m pc ls st) := by
  obtain ⟨W1, hC, hP, hD, hS⟩ := hI
  obtain ⟨Cf, hK, hN, hZ, hA⟩ := C
  have hF1 := w_free (wc := W1) hD (List.Perm.refl _) hS hA
  refine va_calli (va_runS (rest := rest) Cf (hM W1 H.size hC) cw ⟨muPS.blind, muPS.at hZ hS hF1 (pw_left hP) (dw_left hD) hK hN⟩ rfl hn hsize hst (lv_room hW) hdg hf) hS (fun q _ h => hF1 q h) hF1 (fun r1 V tt H1 locs1 ht hvm hr1 hB hz1 hk1 hS => ?_)
  obtain ⟨hP, hD⟩ := muE.join (ws' := V ++ X) hP hD (List.Perm.refl _) (List.Perm.refl _) hk1 hF1 ht hB
  obtain ⟨e1, e2⟩ := hr1
  rw [e1, hr]
  exact k H1 locs1 ⟨V, e2, hP, hD, hS⟩
/-- a call of the law's own methods that see no cell -/
theorem lq_pure (C : LF p s m c cc nL args Ts D ct Z) (hM : Met l y ws rm (roP D ct [] As) (vp_Si (fun z => z = r)) 0 0 noA) (cw : CallB R s args RL idx y bytes maxL ret ws rm 0 0 n ∧ (Cond.static y).before args s = true)
    (hn : As.length = n) (hsize : ls.size = nL) (hst : st = As.reverse ++ rest) (hW : (rest.map fun v => v.category).sum ≤ 8) (hdg : decode cc pc = .ok (.invokestatic idx, 3)) (hf : cells ≤ R.cells ∧ slots ≤ R.slots)
    (k : W p l e R s m args below meth c H locs cells slots Q (F0 m (pc + 3) ls (.int r :: rest))) : W p l e R s m args below meth c H locs cells slots Q (F0 m pc ls st) := by
  obtain ⟨Cf, hK, hN, hZ, hA⟩ := C
  refine vp_callSi (va_runS (rest := rest) Cf hM cw ⟨roP.blind, roP.at (H := H) pw_nil hK hN⟩ rfl hn hsize hst (lv_room hW) hdg hf).run (fun z hz => ?_)
  rw [hz]
  exact k
theorem ap_get {W1 X : va_W} {i : Nat} : (W1 ++ X)[W1.length + i]? = X[i]? := by rw [List.getElem?_append_right (by omega)]; congr 1; omega
theorem ap_set {W1 X : va_W} {i : Nat} {q : Nat × va_E} : (W1 ++ X).set (W1.length + i) q = W1 ++ X.set i q := by
  rw [List.set_append_right _ _ (by omega)]; congr 2; omega
/-- a new row of ints -/
theorem lq_new (C : LF p s m c cc nL args Ts D ct Z) (hI : LH s D ct o ad Z X A H locs) {i : Int32} {N : Nat} (ei : i = nI N) (hN : N < 2 ^ 20) (hw : Cond.arrayClass .int ∈ Ts) (hcells : cells + 1 ≤ R.cells) (hslots : slots + N ≤ R.slots) (hdg : decode cc pc = .ok (.newarray .int, 2))
    (k : ∀ (q : Nat) (H : Heap), LH s D ct o ad Z (X ++ [(q, .inl (ct 0, N, .inl (fun _ => 0)))]) A H locs → W p l e R s m args below meth c H locs (cells + 1) (slots + N) Q (F0 m (pc + 2) ls (.ref q :: rest))) : W p l e R s m args below meth c H locs cells slots Q (F0 m pc ls (.int i :: rest)) := by
  obtain ⟨W1, hC, hP, hD, hS⟩ := hI
  obtain ⟨⟨hx, hb, hml, hown, hts⟩, hK, hN', hZ, hA⟩ := C
  have hn : ¬ i < 0 := by rw [ei]; exact nI_pos (by omega)
  have hi : i.toNatClampNeg = N := by rw [ei]; exact nI_clamp (by omega)
  refine rn_a (atype := .int) (ty := .int) (n := i) (N' := N) hx hb (hts (.arrayClass .int) hw) rfl hK hP hD hS hA (a0 := (N, .inl (fun _ => 0))) (fun _ => rfl) hn hi (by show N * 4 ≤ 536870912; omega) hcells hslots 0 rfl hdg (fun q H hP hD hS => ?_)
  rw [List.append_assoc] at hP hD
  exact k q H ⟨W1, hC, hP, hD, hS⟩
theorem lq_ld (C : LF p s m c cc nL args Ts D ct Z) (hI : LH s D ct o ad Z X A H locs) (x0 : Nat) {a N j : Nat} {f : Nat → Int32} (hq : X[x0]? = some (a, .inl (ct 0, N, .inl f))) {i : Int32} (ei : i = nI j) (hj : j < N) (hN : N < 2 ^ 31) (hdg : decode cc pc = .ok (.iaload, 1))
    (k : W p l e R s m args below meth c H locs cells slots Q (F0 m (pc + 1) ls (.int (f j) :: rest))) : W p l e R s m args below meth c H locs cells slots Q (F0 m pc ls (.int i :: .ref a :: rest)) := by
  obtain ⟨W1, hC, hP, hD, hS⟩ := hI
  obtain ⟨⟨hx, hb, hml, hown, hts⟩, hK, hN', hZ, hA⟩ := C
  exact r_iald hx hb hK hP (W1.length + x0) 0 (ap_get.trans hq) rfl ei hj hN hdg k
theorem lq_st (C : LF p s m c cc nL args Ts D ct Z) (hI : LH s D ct o ad Z X A H locs) (x0 : Nat) {a N j : Nat} {f : Nat → Int32} (hq : X[x0]? = some (a, .inl (ct 0, N, .inl f))) {i z : Int32} (ei : i = nI j) (hj : j < N) (hN : N < 2 ^ 31) (hdg : decode cc pc = .ok (.iastore, 1))
    (k : ∀ (H : Heap) (locs : List Loc), LH s D ct o ad Z (X.set x0 (a, .inl (ct 0, N, .inl (upd f j z)))) A H locs → W p l e R s m args below meth c H locs cells slots Q (F0 m (pc + 1) ls rest)) : W p l e R s m args below meth c H locs cells slots Q (F0 m pc ls (.int z :: .int i :: .ref a :: rest)) := by
  obtain ⟨W1, hC, hP, hD, hS⟩ := hI
  obtain ⟨⟨hx, hb, hml, hown, hts⟩, hK, hN', hZ, hA⟩ := C
  refine r_iast hx hb hK hP hD hS (W1.length + x0) 0 (ap_get.trans hq) rfl ei hj hN hdg (fun H locs hP hD hS => ?_)
  rw [ap_set] at hP hD
  exact k H locs ⟨W1, hC, hP, hD, hS⟩
/-- the end -/
theorem lq_end {v : Int32} (hI : LH s D ct o ad Z X A H locs) (hZe : va_A W0 s.heap.size = Z) (h1 : v = F.1) (h2 : ∀ W, CX ct o ad A W → Xp F.2 W) :
    (∀ t : State, t.heap = H → s.WarmedH t.vm → mxQ D ct W0 s.heap.size F Xp args s (.returned (some (.int v))) t) ∧ (∀ q ∈ locs, va_A W0 s.heap.size q.base) := by
  obtain ⟨W1, hC, hP, hD, hS⟩ := hI
  subst hZe
  exact ⟨fun t ht _ => ⟨⟨v, W1, rfl, ⟨h1, h2 W1 hC⟩, ⟨by rw [ht]; exact pw_left hP, dw_left hD⟩⟩, hS.F ht⟩, hS.2.2⟩
theorem lq_begin (hX : CX ct o ad A W0) (hP : va_P D vwCl W0 s.heap) (hD : va_D Z W0) : LH s D ct o ad Z [] A s.heap [] :=
  ⟨W0, hX, by rw [List.append_nil]; exact hP, by rw [List.append_nil]; exact hD, va_S.rf⟩
theorem LY.lh (h : LY s D Z X (CX ct o ad A) H locs) : LH s D ct o ad Z X A H locs := h
end LQ
