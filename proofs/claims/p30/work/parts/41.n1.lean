set_option maxHeartbeats 400000 in
set_option maxRecDepth 100000 in
theorem k_X0_init (l : Launch) (D : va_G) (ct : Nat → ClassId) (sz : Nat) (x : Nat) : Met l yX0_init wsX0_init ({ frames := 2, cells := 2, slots := 16, locals := 41 }) (muP D ct ([(x, .inr (0, [.int 0, .int 0, .int 0, .int 0, .int 0, .int 0, .int 0, .null, .null]))]) sz [.ref x]) (va_Qv (S := Nat × Nat) (fun _ => True) (fun u t => muE D ct ([(x, .inr (0, [.int 0, .int 0, .int 0, .int 0, .int 0, .int 0, .int 0, .null, .null]))]) (dgW ct x u.1 u.2 dFirst (fun _ => 0) (fun _ => 0)) sz t) (va_A ([(x, .inr (0, [.int 0, .int 0, .int 0, .int 0, .int 0, .int 0, .int 0, .null, .null]))]) sz)) 2 16 (va_A ([(x, .inr (0, [.int 0, .int 0, .int 0, .int 0, .int 0, .int 0, .int 0, .null, .null]))]) sz) := by
  refine Met.ofW (cc := cX0_init) (maxL := 1) (ret := none) (by decide) rfl ?_
  intro p e s m args below meth c s₁ B hml hv
  obtain ⟨rfl, hsz, hP, hK, hN, hD0⟩ := hv
  have hx := B.exec
  have hb := B.bytes
  have hr := B.returns
  have hts := atoms_spec (ws := wsX0_init) B.pre
  have hown : s.vm.findClass RX0 = some m.cls := findClass_of_methodNamed B.named
  have hlocks := B.notSynchronized
  have hin : meth.name = "<init>" := (name_of_methodNamed B.named B.method).1
  subst hsz
  have hD := hD0.self (sz := s.heap.size)
  generalize hAe : va_A ([(x, .inr (0, [.int 0, .int 0, .int 0, .int 0, .int 0, .int 0, .int 0, .null, .null]))]) s.heap.size = A at hD
  have hA : ∀ q : Nat, s.heap.size ≤ q → A q := fun q h => by rw [← hAe]; exact Or.inr h
  have hS : va_S A s.heap s.heap [] := va_S.rf
  have w_1 := hts (.methodLink RX0 3 objectInit) (List.mem_of_getElem? (i := 1) rfl)
  have w_2 := hts (.instanceMethod objectInit) (List.mem_of_getElem? (i := 2) rfl)
  have w_3 := hts (.code objectInit ⟨#[0xb1]⟩ 1 none) (List.mem_of_getElem? (i := 3) rfl)
  have w_4 := hts (.arrayClass .int) (List.mem_of_getElem? (i := 4) rfl)
  have w_5 := hts (.fieldLink RX0 9 "ScannedDigits$Digit" "glow" "[I") (List.mem_of_getElem? (i := 5) rfl)
  have w_6 := hts (.fieldLink RX0 15 "ScannedDigits$Digit" "use" "[I") (List.mem_of_getElem? (i := 6) rfl)
  have hiX0 : ∀ w ∈ wsX00, w ∈ wsX0_init := fun w h => (goodIn_r wsX00 [23, 24, 25, 26, 27, 28, 29, 30, 31] (by decide +kernel) (by decide +kernel) w h).1
  have hl := lv_entry ([.ref x]) (n := 1) (Nat.le_of_ble_eq_true rfl)
  rw [lg_entry_eq]
  generalize (lg_sl ([.ref x]) ++ List.replicate (1 - (lg_sl ([.ref x])).length) Slot.unset).toArray = ls at hl ⊢
  have hl : lv_has ls 1 [(0, .ref x)] := hl
  refine lv_aload_n hx hb dX0_init_0 rfl (lv_at hl 0 rfl) ?_
  refine W.objInit hx hb hown w_1 w_2 w_3 rfl (by rw [hml]; exact hl.1) rfl dX0_init_1 (Nat.le_of_ble_eq_true rfl) (Nat.le_of_ble_eq_true rfl) ?_
  refine W.eq (g2 := F0 m 4 ls []) rfl ?_
  refine lv_aload_n hx hb dX0_init_4 rfl (lv_at hl 0 rfl) ?_
  refine lv_bipush (v := 8) hx hb dX0_init_5 (by decide) ?_
  refine rn_a (atype := .int) (ty := .int) (n := 8) (N' := 8) hx hb w_4 rfl hK hP hD hS hA (a0 := (8, .inl (fun _ => 0))) (fun _ => rfl) (by decide) rfl (Nat.le_of_ble_eq_true rfl) (Nat.le_of_ble_eq_true rfl) (Nat.le_of_ble_eq_true rfl) 0 rfl dX0_init_7 (fun q1 H hP hD hS => ?_)
  have hP : va_P D vwCl ([(x, .inr (0, [.int 0, .int 0, .int 0, .int 0, .int 0, .int 0, .int 0, .null, .null])), (q1, .inl (ct 0, 8, .inl (fun _ => 0)))]) H := hP
  have hD : va_D A ([(x, .inr (0, [.int 0, .int 0, .int 0, .int 0, .int 0, .int 0, .int 0, .null, .null])), (q1, .inl (ct 0, 8, .inl (fun _ => 0)))]) := hD
  refine va_putF (D := D) (ci := 0) (v := .ref q1) (ty := (tyX0 7)) (C := RX0) (T := TX0) (N := 9) hx hb hts hiX0 tyX0 tyX0_ok nmX0 hown hK hP hD hS 0 rfl rfl 7 (by decide) w_5 (fun _ h9 => h9) rfl hin rfl (by decide +kernel) rfl rfl (Nat.le_of_ble_eq_true rfl) dX0_init_9 (fun H locs hP hD hS => ?_)
  have hP : va_P D vwCl ([(x, .inr (0, [.int 0, .int 0, .int 0, .int 0, .int 0, .int 0, .int 0, .ref q1, .null])), (q1, .inl (ct 0, 8, .inl (fun _ => 0)))]) H := hP
  have hD : va_D A ([(x, .inr (0, [.int 0, .int 0, .int 0, .int 0, .int 0, .int 0, .int 0, .ref q1, .null])), (q1, .inl (ct 0, 8, .inl (fun _ => 0)))]) := hD
  refine lv_aload_n hx hb dX0_init_12 rfl (lv_at hl 0 rfl) ?_
  refine lv_bipush (v := 8) hx hb dX0_init_13 (by decide) ?_
  refine rn_a (atype := .int) (ty := .int) (n := 8) (N' := 8) hx hb w_4 rfl hK hP hD hS hA (a0 := (8, .inl (fun _ => 0))) (fun _ => rfl) (by decide) rfl (Nat.le_of_ble_eq_true rfl) (Nat.le_of_ble_eq_true rfl) (Nat.le_of_ble_eq_true rfl) 0 rfl dX0_init_15 (fun q2 H hP hD hS => ?_)
  have hP : va_P D vwCl ([(x, .inr (0, [.int 0, .int 0, .int 0, .int 0, .int 0, .int 0, .int 0, .ref q1, .null])), (q1, .inl (ct 0, 8, .inl (fun _ => 0))), (q2, .inl (ct 0, 8, .inl (fun _ => 0)))]) H := hP
  have hD : va_D A ([(x, .inr (0, [.int 0, .int 0, .int 0, .int 0, .int 0, .int 0, .int 0, .ref q1, .null])), (q1, .inl (ct 0, 8, .inl (fun _ => 0))), (q2, .inl (ct 0, 8, .inl (fun _ => 0)))]) := hD
  refine va_putF (D := D) (ci := 0) (v := .ref q2) (ty := (tyX0 8)) (C := RX0) (T := TX0) (N := 9) hx hb hts hiX0 tyX0 tyX0_ok nmX0 hown hK hP hD hS 0 rfl rfl 8 (by decide) w_6 (fun _ h9 => h9) rfl hin rfl (by decide +kernel) rfl rfl (Nat.le_of_ble_eq_true rfl) dX0_init_17 (fun H locs hP hD hS => ?_)
  have hP : va_P D vwCl ([(x, .inr (0, [.int 0, .int 0, .int 0, .int 0, .int 0, .int 0, .int 0, .ref q1, .ref q2])), (q1, .inl (ct 0, 8, .inl (fun _ => 0))), (q2, .inl (ct 0, 8, .inl (fun _ => 0)))]) H := hP
  have hD : va_D A ([(x, .inr (0, [.int 0, .int 0, .int 0, .int 0, .int 0, .int 0, .int 0, .ref q1, .ref q2])), (q1, .inl (ct 0, 8, .inl (fun _ => 0))), (q2, .inl (ct 0, 8, .inl (fun _ => 0)))]) := hD
  refine lv_aload_n hx hb dX0_init_20 rfl (lv_at hl 0 rfl) ?_
  have hFc_21 := w_free (wc := dgW ct x q1 q2 (fun _ => 0) (fun _ => 0) (fun _ => 0)) hD (List.Perm.of_eq (List.append_nil _).symm) hS hA
  refine va_callv (va_runV (As := []) (rest := []) ⟨hx, hb, hml, hown, hts⟩ (k_X0_makeNew l D ct _ x q1 q2 (fun _ => 0) (fun _ => 0) (fun _ => 0)) (cwV 0 hts gX0_init_X0_makeNew rfl rfl rfl (by decide +kernel) ⟨Nat.le_of_ble_eq_true rfl, Nat.le_of_ble_eq_true rfl⟩) ⟨muP.blind, va_recv hK hP (ci := 0) (q0 := 0) rfl rfl, muP.at hP hD hK hN⟩ rfl rfl hl.1 rfl (lv_room (Nat.le_of_ble_eq_true rfl)) dX0_init_21 ⟨Nat.le_of_ble_eq_true rfl, Nat.le_of_ble_eq_true rfl⟩) hS (fun q _ h => hFc_21 q h) hFc_21 (fun uu tt H1 locs ht hvm hw hB hz1 hk1 hS => ?_)
  obtain ⟨hP, hD⟩ := muE.join (ws' := dgW ct x q1 q2 dFirst (fun _ => 0) (fun _ => 0)) hP hD (List.Perm.of_eq (List.append_nil _).symm) (List.Perm.of_eq (List.append_nil _).symm) hk1 hFc_21 ht hB
  generalize H1 = H at hP hS ⊢
  have hP9 : va_P D vwCl (dgW ct x q1 q2 dFirst (fun _ => 0) (fun _ => 0)) _ := hP
  have hD9 : va_D A (dgW ct x q1 q2 dFirst (fun _ => 0) (fun _ => 0)) := hD
  subst hAe
  exact W.vret hx hb hr (fun tt ht hW => ⟨⟨(q1, q2), rfl, trivial, muE.of (ct := ct) hP9 hD9 ht⟩, hS.F ht⟩) hS.2.2 dX0_init_24
set_option maxHeartbeats 400000 in
set_option maxRecDepth 100000 in
theorem k_X4_init (l : Launch) (D : va_G) (ct : Nat → ClassId) (sz : Nat) (x : Nat) : Met l yX4_init wsX4_init ({ frames := 1, cells := 2, slots := 38, locals := 20 }) (muP D ct ([(x, .inr (4, [.null, .int 0, .null, .int 0]))]) sz [.ref x]) (va_Qv (S := Nat × Nat) (fun _ => True) (fun u t => muE D ct ([(x, .inr (4, [.null, .int 0, .null, .int 0]))]) (txW ct x u.1 u.2 0 0 (fun _ => 0) (fun _ => 0)) sz t) (va_A ([(x, .inr (4, [.null, .int 0, .null, .int 0]))]) sz)) 2 38 (va_A ([(x, .inr (4, [.null, .int 0, .null, .int 0]))]) sz) := by
  refine Met.ofW (cc := cX4_init) (maxL := 1) (ret := none) (by decide) rfl ?_
  intro p e s m args below meth c s₁ B hml hv
  obtain ⟨rfl, hsz, hP, hK, hN, hD0⟩ := hv
  have hx := B.exec
  have hb := B.bytes
  have hr := B.returns
  have hts := atoms_spec (ws := wsX4_init) B.pre
  have hown : s.vm.findClass RX4 = some m.cls := findClass_of_methodNamed B.named
  have hlocks := B.notSynchronized
  have hin : meth.name = "<init>" := (name_of_methodNamed B.named B.method).1
  subst hsz
  have hD := hD0.self (sz := s.heap.size)
  generalize hAe : va_A ([(x, .inr (4, [.null, .int 0, .null, .int 0]))]) s.heap.size = A at hD
  have hA : ∀ q : Nat, s.heap.size ≤ q → A q := fun q h => by rw [← hAe]; exact Or.inr h
  have hS : va_S A s.heap s.heap [] := va_S.rf
  have w_1 := hts (.methodLink RX4 3 objectInit) (List.mem_of_getElem? (i := 1) rfl)
  have w_2 := hts (.instanceMethod objectInit) (List.mem_of_getElem? (i := 2) rfl)
  have w_3 := hts (.code objectInit ⟨#[0xb1]⟩ 1 none) (List.mem_of_getElem? (i := 3) rfl)
  have w_4 := hts (.arrayClass .char) (List.mem_of_getElem? (i := 4) rfl)
  have w_5 := hts (.fieldLink RX4 9 "ScannedDigits$Text" "characters" "[C") (List.mem_of_getElem? (i := 5) rfl)
  have w_6 := hts (.arrayClass .int) (List.mem_of_getElem? (i := 6) rfl)
  have w_7 := hts (.fieldLink RX4 15 "ScannedDigits$Text" "patterns" "[I") (List.mem_of_getElem? (i := 7) rfl)
  have hiX4 : ∀ w ∈ wsX40, w ∈ wsX4_init := fun w h => (goodIn_r wsX40 [8, 9, 10, 11] (by decide +kernel) (by decide +kernel) w h).1
  have hl := lv_entry ([.ref x]) (n := 1) (Nat.le_of_ble_eq_true rfl)
  rw [lg_entry_eq]
  generalize (lg_sl ([.ref x]) ++ List.replicate (1 - (lg_sl ([.ref x])).length) Slot.unset).toArray = ls at hl ⊢
  have hl : lv_has ls 1 [(0, .ref x)] := hl
  refine lv_aload_n hx hb dX4_init_0 rfl (lv_at hl 0 rfl) ?_
  refine W.objInit hx hb hown w_1 w_2 w_3 rfl (by rw [hml]; exact hl.1) rfl dX4_init_1 (Nat.le_of_ble_eq_true rfl) (Nat.le_of_ble_eq_true rfl) ?_
  refine W.eq (g2 := F0 m 4 ls []) rfl ?_
  refine lv_aload_n hx hb dX4_init_4 rfl (lv_at hl 0 rfl) ?_
  refine lv_bipush (v := 30) hx hb dX4_init_5 (by decide) ?_
  refine rn_a (atype := .char) (ty := .char) (n := 30) (N' := 30) hx hb w_4 rfl hK hP hD hS hA (a0 := (30, .inl (fun _ => 0))) (fun _ => rfl) (by decide) rfl (Nat.le_of_ble_eq_true rfl) (Nat.le_of_ble_eq_true rfl) (Nat.le_of_ble_eq_true rfl) 2 rfl dX4_init_7 (fun q1 H hP hD hS => ?_)
  have hP : va_P D vwCl ([(x, .inr (4, [.null, .int 0, .null, .int 0])), (q1, .inl (ct 2, 30, .inl (fun _ => 0)))]) H := hP
  have hD : va_D A ([(x, .inr (4, [.null, .int 0, .null, .int 0])), (q1, .inl (ct 2, 30, .inl (fun _ => 0)))]) := hD
  refine va_putF (D := D) (ci := 4) (v := .ref q1) (ty := (tyX4 0)) (C := RX4) (T := TX4) (N := 4) hx hb hts hiX4 tyX4 tyX4_ok nmX4 hown hK hP hD hS 0 rfl rfl 0 (by decide) w_5 (fun _ h9 => h9) rfl hin rfl (by decide +kernel) rfl rfl (Nat.le_of_ble_eq_true rfl) dX4_init_9 (fun H locs hP hD hS => ?_)
  have hP : va_P D vwCl ([(x, .inr (4, [.ref q1, .int 0, .null, .int 0])), (q1, .inl (ct 2, 30, .inl (fun _ => 0)))]) H := hP
  have hD : va_D A ([(x, .inr (4, [.ref q1, .int 0, .null, .int 0])), (q1, .inl (ct 2, 30, .inl (fun _ => 0)))]) := hD
  refine lv_aload_n hx hb dX4_init_12 rfl (lv_at hl 0 rfl) ?_
  refine lv_bipush (v := 8) hx hb dX4_init_13 (by decide) ?_
  refine rn_a (atype := .int) (ty := .int) (n := 8) (N' := 8) hx hb w_6 rfl hK hP hD hS hA (a0 := (8, .inl (fun _ => 0))) (fun _ => rfl) (by decide) rfl (Nat.le_of_ble_eq_true rfl) (Nat.le_of_ble_eq_true rfl) (Nat.le_of_ble_eq_true rfl) 0 rfl dX4_init_15 (fun q2 H hP hD hS => ?_)
  have hP : va_P D vwCl ([(x, .inr (4, [.ref q1, .int 0, .null, .int 0])), (q1, .inl (ct 2, 30, .inl (fun _ => 0))), (q2, .inl (ct 0, 8, .inl (fun _ => 0)))]) H := hP
  have hD : va_D A ([(x, .inr (4, [.ref q1, .int 0, .null, .int 0])), (q1, .inl (ct 2, 30, .inl (fun _ => 0))), (q2, .inl (ct 0, 8, .inl (fun _ => 0)))]) := hD
  refine va_putF (D := D) (ci := 4) (v := .ref q2) (ty := (tyX4 2)) (C := RX4) (T := TX4) (N := 4) hx hb hts hiX4 tyX4 tyX4_ok nmX4 hown hK hP hD hS 0 rfl rfl 2 (by decide) w_7 (fun _ h9 => h9) rfl hin rfl (by decide +kernel) rfl rfl (Nat.le_of_ble_eq_true rfl) dX4_init_17 (fun H locs hP hD hS => ?_)
  have hP : va_P D vwCl ([(x, .inr (4, [.ref q1, .int 0, .ref q2, .int 0])), (q1, .inl (ct 2, 30, .inl (fun _ => 0))), (q2, .inl (ct 0, 8, .inl (fun _ => 0)))]) H := hP
  have hD : va_D A ([(x, .inr (4, [.ref q1, .int 0, .ref q2, .int 0])), (q1, .inl (ct 2, 30, .inl (fun _ => 0))), (q2, .inl (ct 0, 8, .inl (fun _ => 0)))]) := hD
  have hP9 : va_P D vwCl (txW ct x q1 q2 0 0 (fun _ => 0) (fun _ => 0)) _ := hP
  have hD9 : va_D A (txW ct x q1 q2 0 0 (fun _ => 0) (fun _ => 0)) := hD
  subst hAe
  exact W.vret hx hb hr (fun tt ht hW => ⟨⟨(q1, q2), rfl, trivial, muE.of (ct := ct) hP9 hD9 ht⟩, hS.F ht⟩) hS.2.2 dX4_init_20
