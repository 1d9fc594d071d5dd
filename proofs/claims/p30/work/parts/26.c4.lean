set_option maxHeartbeats 4000000 in
set_option maxRecDepth 100000 in
theorem k_X0_copyFrom (l : Launch) (D : va_G) (ct : Nat → ClassId) (sz : Nat) (x y z : Nat) (f g u : Nat → Int32) (x2 y2 z2 : Nat) (f2 g2 u2 : Nat → Int32) : Met l yX0_copyFrom wsX0_copyFrom ({ frames := 1, cells := 0, slots := 0, locals := 40 }) (muP D ct (dgW ct x y z f g u ++ dgW ct x2 y2 z2 f2 g2 u2) sz [.ref x, .ref x2]) (muV D ct (dgW ct x y z f g u ++ dgW ct x2 y2 z2 f2 g2 u2) (dgW ct x y z f2 g2 u2 ++ dgW ct x2 y2 z2 f2 g2 u2) sz) 0 0 (va_A (dgW ct x y z f g u ++ dgW ct x2 y2 z2 f2 g2 u2) sz) := by
  refine Met.ofW (cc := cX0_copyFrom) (maxL := 2) (ret := none) (by decide) rfl ?_
  intro p e s m args below meth c s₁ B hml hv
  obtain ⟨rfl, hsz, hP, hK, hN, hD0⟩ := hv
  have hx := B.exec
  have hb := B.bytes
  have hr := B.returns
  have hts := atoms_spec (ws := wsX0_copyFrom) B.pre
  have hown : s.vm.findClass RX0 = some m.cls := findClass_of_methodNamed B.named
  have hlocks := B.notSynchronized
  subst hsz
  have hD := hD0.self (sz := s.heap.size)
  generalize hAe : va_A (dgW ct x y z f g u ++ dgW ct x2 y2 z2 f2 g2 u2) s.heap.size = A at hD
  have hA : ∀ q : Nat, s.heap.size ≤ q → A q := fun q h => by rw [← hAe]; exact Or.inr h
  have hS : va_S A s.heap s.heap [] := va_S.rf
  have w_1 := hts (.fieldLink RX0 21 "ScannedDigits$Digit" "width" "I") (List.mem_of_getElem? (i := 1) rfl)
  have w_2 := hts (.fieldLink RX0 25 "ScannedDigits$Digit" "guard" "I") (List.mem_of_getElem? (i := 2) rfl)
  have w_3 := hts (.fieldLink RX0 28 "ScannedDigits$Digit" "brightness" "I") (List.mem_of_getElem? (i := 3) rfl)
  have w_4 := hts (.fieldLink RX0 31 "ScannedDigits$Digit" "pattern" "I") (List.mem_of_getElem? (i := 4) rfl)
  have w_5 := hts (.fieldLink RX0 34 "ScannedDigits$Digit" "group" "I") (List.mem_of_getElem? (i := 5) rfl)
  have w_6 := hts (.fieldLink RX0 37 "ScannedDigits$Digit" "drivenTicks" "I") (List.mem_of_getElem? (i := 6) rfl)
  have w_7 := hts (.fieldLink RX0 43 "ScannedDigits$Digit" "broken" "I") (List.mem_of_getElem? (i := 7) rfl)
  have w_8 := hts (.fieldLink RX0 9 "ScannedDigits$Digit" "glow" "[I") (List.mem_of_getElem? (i := 8) rfl)
  have w_9 := hts (.methodLink RX0 46 arraycopyName) (List.mem_of_getElem? (i := 9) rfl)
  have w_10 := hts (.native arraycopyName) (List.mem_of_getElem? (i := 10) rfl)
  have w_11 := hts (.static arraycopyName) (List.mem_of_getElem? (i := 11) rfl)
  have w_12 := hts (.initialized "java/lang/System") (List.mem_of_getElem? (i := 12) rfl)
  have w_13 := hts (.fieldLink RX0 15 "ScannedDigits$Digit" "use" "[I") (List.mem_of_getElem? (i := 13) rfl)
  have hiX0 : ∀ w ∈ wsX00, w ∈ wsX0_copyFrom := fun w h => (goodIn_r wsX00 [14, 15, 16, 17, 18, 19, 20, 21, 22] (by decide +kernel) (by decide +kernel) w h).1
  have hl := lv_entry ([.ref x, .ref x2]) (n := 2) (Nat.le_of_ble_eq_true rfl)
  rw [lg_entry_eq]
  generalize (lg_sl ([.ref x, .ref x2]) ++ List.replicate (2 - (lg_sl ([.ref x, .ref x2])).length) Slot.unset).toArray = ls at hl ⊢
  have hl : lv_has ls 2 [(0, .ref x), (1, .ref x2)] := hl
  refine lv_aload_n hx hb dX0_copyFrom_0 rfl (lv_at hl 0 rfl) ?_
  refine lv_aload_n hx hb dX0_copyFrom_1 rfl (lv_at hl 1 rfl) ?_
  refine va_get (D := D) (ci := 0) (v := .int (f2 1)) (C := RX0) (T := TX0) (N := 9) hx hb hts hiX0 hown hK hP 3 rfl rfl 0 (by decide) w_1 (fun _ h9 => h9) rfl dX0_copyFrom_2 ?_
  refine va_put (D := D) (ci := 0) (v := .int (f2 1)) (ty := .int) (C := RX0) (T := TX0) (N := 9) hx hb hts hiX0 tyX0 tyX0_ok nmX0 hown hK hP hD hS 0 rfl rfl 0 (by decide) w_1 (fun _ h9 => h9) rfl (by decide +kernel) rfl rfl (Nat.le_of_ble_eq_true rfl) dX0_copyFrom_5 (fun H locs hP hD hS => ?_)
  have hP : va_P D vwCl ([(x, .inr (0, [.int (f2 1), .int (f 2), .int (f 3), .int (f 0), .int (f 4), .int (f 5), .int (f 6), .ref y, .ref z])), (y, .inl (ct 0, 8, .inl (g))), (z, .inl (ct 0, 8, .inl (u))), (x2, .inr (0, [.int (f2 1), .int (f2 2), .int (f2 3), .int (f2 0), .int (f2 4), .int (f2 5), .int (f2 6), .ref y2, .ref z2])), (y2, .inl (ct 0, 8, .inl (g2))), (z2, .inl (ct 0, 8, .inl (u2)))]) H := hP
  have hD : va_D A ([(x, .inr (0, [.int (f2 1), .int (f 2), .int (f 3), .int (f 0), .int (f 4), .int (f 5), .int (f 6), .ref y, .ref z])), (y, .inl (ct 0, 8, .inl (g))), (z, .inl (ct 0, 8, .inl (u))), (x2, .inr (0, [.int (f2 1), .int (f2 2), .int (f2 3), .int (f2 0), .int (f2 4), .int (f2 5), .int (f2 6), .ref y2, .ref z2])), (y2, .inl (ct 0, 8, .inl (g2))), (z2, .inl (ct 0, 8, .inl (u2)))]) := hD
  refine lv_aload_n hx hb dX0_copyFrom_8 rfl (lv_at hl 0 rfl) ?_
  refine lv_aload_n hx hb dX0_copyFrom_9 rfl (lv_at hl 1 rfl) ?_
  refine va_get (D := D) (ci := 0) (v := .int (f2 2)) (C := RX0) (T := TX0) (N := 9) hx hb hts hiX0 hown hK hP 3 rfl rfl 1 (by decide) w_2 (fun _ h9 => h9) rfl dX0_copyFrom_10 ?_
  refine va_put (D := D) (ci := 0) (v := .int (f2 2)) (ty := .int) (C := RX0) (T := TX0) (N := 9) hx hb hts hiX0 tyX0 tyX0_ok nmX0 hown hK hP hD hS 0 rfl rfl 1 (by decide) w_2 (fun _ h9 => h9) rfl (by decide +kernel) rfl rfl (Nat.le_of_ble_eq_true rfl) dX0_copyFrom_13 (fun H locs hP hD hS => ?_)
  have hP : va_P D vwCl ([(x, .inr (0, [.int (f2 1), .int (f2 2), .int (f 3), .int (f 0), .int (f 4), .int (f 5), .int (f 6), .ref y, .ref z])), (y, .inl (ct 0, 8, .inl (g))), (z, .inl (ct 0, 8, .inl (u))), (x2, .inr (0, [.int (f2 1), .int (f2 2), .int (f2 3), .int (f2 0), .int (f2 4), .int (f2 5), .int (f2 6), .ref y2, .ref z2])), (y2, .inl (ct 0, 8, .inl (g2))), (z2, .inl (ct 0, 8, .inl (u2)))]) H := hP
  have hD : va_D A ([(x, .inr (0, [.int (f2 1), .int (f2 2), .int (f 3), .int (f 0), .int (f 4), .int (f 5), .int (f 6), .ref y, .ref z])), (y, .inl (ct 0, 8, .inl (g))), (z, .inl (ct 0, 8, .inl (u))), (x2, .inr (0, [.int (f2 1), .int (f2 2), .int (f2 3), .int (f2 0), .int (f2 4), .int (f2 5), .int (f2 6), .ref y2, .ref z2])), (y2, .inl (ct 0, 8, .inl (g2))), (z2, .inl (ct 0, 8, .inl (u2)))]) := hD
  refine lv_aload_n hx hb dX0_copyFrom_16 rfl (lv_at hl 0 rfl) ?_
  refine lv_aload_n hx hb dX0_copyFrom_17 rfl (lv_at hl 1 rfl) ?_
  refine va_get (D := D) (ci := 0) (v := .int (f2 3)) (C := RX0) (T := TX0) (N := 9) hx hb hts hiX0 hown hK hP 3 rfl rfl 2 (by decide) w_3 (fun _ h9 => h9) rfl dX0_copyFrom_18 ?_
  refine va_put (D := D) (ci := 0) (v := .int (f2 3)) (ty := .int) (C := RX0) (T := TX0) (N := 9) hx hb hts hiX0 tyX0 tyX0_ok nmX0 hown hK hP hD hS 0 rfl rfl 2 (by decide) w_3 (fun _ h9 => h9) rfl (by decide +kernel) rfl rfl (Nat.le_of_ble_eq_true rfl) dX0_copyFrom_21 (fun H locs hP hD hS => ?_)
  have hP : va_P D vwCl ([(x, .inr (0, [.int (f2 1), .int (f2 2), .int (f2 3), .int (f 0), .int (f 4), .int (f 5), .int (f 6), .ref y, .ref z])), (y, .inl (ct 0, 8, .inl (g))), (z, .inl (ct 0, 8, .inl (u))), (x2, .inr (0, [.int (f2 1), .int (f2 2), .int (f2 3), .int (f2 0), .int (f2 4), .int (f2 5), .int (f2 6), .ref y2, .ref z2])), (y2, .inl (ct 0, 8, .inl (g2))), (z2, .inl (ct 0, 8, .inl (u2)))]) H := hP
  have hD : va_D A ([(x, .inr (0, [.int (f2 1), .int (f2 2), .int (f2 3), .int (f 0), .int (f 4), .int (f 5), .int (f 6), .ref y, .ref z])), (y, .inl (ct 0, 8, .inl (g))), (z, .inl (ct 0, 8, .inl (u))), (x2, .inr (0, [.int (f2 1), .int (f2 2), .int (f2 3), .int (f2 0), .int (f2 4), .int (f2 5), .int (f2 6), .ref y2, .ref z2])), (y2, .inl (ct 0, 8, .inl (g2))), (z2, .inl (ct 0, 8, .inl (u2)))]) := hD
  refine lv_aload_n hx hb dX0_copyFrom_24 rfl (lv_at hl 0 rfl) ?_
  refine lv_aload_n hx hb dX0_copyFrom_25 rfl (lv_at hl 1 rfl) ?_
  refine va_get (D := D) (ci := 0) (v := .int (f2 0)) (C := RX0) (T := TX0) (N := 9) hx hb hts hiX0 hown hK hP 3 rfl rfl 3 (by decide) w_4 (fun _ h9 => h9) rfl dX0_copyFrom_26 ?_
  refine va_put (D := D) (ci := 0) (v := .int (f2 0)) (ty := .int) (C := RX0) (T := TX0) (N := 9) hx hb hts hiX0 tyX0 tyX0_ok nmX0 hown hK hP hD hS 0 rfl rfl 3 (by decide) w_4 (fun _ h9 => h9) rfl (by decide +kernel) rfl rfl (Nat.le_of_ble_eq_true rfl) dX0_copyFrom_29 (fun H locs hP hD hS => ?_)
  have hP : va_P D vwCl ([(x, .inr (0, [.int (f2 1), .int (f2 2), .int (f2 3), .int (f2 0), .int (f 4), .int (f 5), .int (f 6), .ref y, .ref z])), (y, .inl (ct 0, 8, .inl (g))), (z, .inl (ct 0, 8, .inl (u))), (x2, .inr (0, [.int (f2 1), .int (f2 2), .int (f2 3), .int (f2 0), .int (f2 4), .int (f2 5), .int (f2 6), .ref y2, .ref z2])), (y2, .inl (ct 0, 8, .inl (g2))), (z2, .inl (ct 0, 8, .inl (u2)))]) H := hP
  have hD : va_D A ([(x, .inr (0, [.int (f2 1), .int (f2 2), .int (f2 3), .int (f2 0), .int (f 4), .int (f 5), .int (f 6), .ref y, .ref z])), (y, .inl (ct 0, 8, .inl (g))), (z, .inl (ct 0, 8, .inl (u))), (x2, .inr (0, [.int (f2 1), .int (f2 2), .int (f2 3), .int (f2 0), .int (f2 4), .int (f2 5), .int (f2 6), .ref y2, .ref z2])), (y2, .inl (ct 0, 8, .inl (g2))), (z2, .inl (ct 0, 8, .inl (u2)))]) := hD
  refine lv_aload_n hx hb dX0_copyFrom_32 rfl (lv_at hl 0 rfl) ?_
  refine lv_aload_n hx hb dX0_copyFrom_33 rfl (lv_at hl 1 rfl) ?_
  refine va_get (D := D) (ci := 0) (v := .int (f2 4)) (C := RX0) (T := TX0) (N := 9) hx hb hts hiX0 hown hK hP 3 rfl rfl 4 (by decide) w_5 (fun _ h9 => h9) rfl dX0_copyFrom_34 ?_
  refine va_put (D := D) (ci := 0) (v := .int (f2 4)) (ty := .int) (C := RX0) (T := TX0) (N := 9) hx hb hts hiX0 tyX0 tyX0_ok nmX0 hown hK hP hD hS 0 rfl rfl 4 (by decide) w_5 (fun _ h9 => h9) rfl (by decide +kernel) rfl rfl (Nat.le_of_ble_eq_true rfl) dX0_copyFrom_37 (fun H locs hP hD hS => ?_)
  have hP : va_P D vwCl ([(x, .inr (0, [.int (f2 1), .int (f2 2), .int (f2 3), .int (f2 0), .int (f2 4), .int (f 5), .int (f 6), .ref y, .ref z])), (y, .inl (ct 0, 8, .inl (g))), (z, .inl (ct 0, 8, .inl (u))), (x2, .inr (0, [.int (f2 1), .int (f2 2), .int (f2 3), .int (f2 0), .int (f2 4), .int (f2 5), .int (f2 6), .ref y2, .ref z2])), (y2, .inl (ct 0, 8, .inl (g2))), (z2, .inl (ct 0, 8, .inl (u2)))]) H := hP
  have hD : va_D A ([(x, .inr (0, [.int (f2 1), .int (f2 2), .int (f2 3), .int (f2 0), .int (f2 4), .int (f 5), .int (f 6), .ref y, .ref z])), (y, .inl (ct 0, 8, .inl (g))), (z, .inl (ct 0, 8, .inl (u))), (x2, .inr (0, [.int (f2 1), .int (f2 2), .int (f2 3), .int (f2 0), .int (f2 4), .int (f2 5), .int (f2 6), .ref y2, .ref z2])), (y2, .inl (ct 0, 8, .inl (g2))), (z2, .inl (ct 0, 8, .inl (u2)))]) := hD
  refine lv_aload_n hx hb dX0_copyFrom_40 rfl (lv_at hl 0 rfl) ?_
  refine lv_aload_n hx hb dX0_copyFrom_41 rfl (lv_at hl 1 rfl) ?_
  refine va_get (D := D) (ci := 0) (v := .int (f2 5)) (C := RX0) (T := TX0) (N := 9) hx hb hts hiX0 hown hK hP 3 rfl rfl 5 (by decide) w_6 (fun _ h9 => h9) rfl dX0_copyFrom_42 ?_
  refine va_put (D := D) (ci := 0) (v := .int (f2 5)) (ty := .int) (C := RX0) (T := TX0) (N := 9) hx hb hts hiX0 tyX0 tyX0_ok nmX0 hown hK hP hD hS 0 rfl rfl 5 (by decide) w_6 (fun _ h9 => h9) rfl (by decide +kernel) rfl rfl (Nat.le_of_ble_eq_true rfl) dX0_copyFrom_45 (fun H locs hP hD hS => ?_)
  have hP : va_P D vwCl ([(x, .inr (0, [.int (f2 1), .int (f2 2), .int (f2 3), .int (f2 0), .int (f2 4), .int (f2 5), .int (f 6), .ref y, .ref z])), (y, .inl (ct 0, 8, .inl (g))), (z, .inl (ct 0, 8, .inl (u))), (x2, .inr (0, [.int (f2 1), .int (f2 2), .int (f2 3), .int (f2 0), .int (f2 4), .int (f2 5), .int (f2 6), .ref y2, .ref z2])), (y2, .inl (ct 0, 8, .inl (g2))), (z2, .inl (ct 0, 8, .inl (u2)))]) H := hP
  have hD : va_D A ([(x, .inr (0, [.int (f2 1), .int (f2 2), .int (f2 3), .int (f2 0), .int (f2 4), .int (f2 5), .int (f 6), .ref y, .ref z])), (y, .inl (ct 0, 8, .inl (g))), (z, .inl (ct 0, 8, .inl (u))), (x2, .inr (0, [.int (f2 1), .int (f2 2), .int (f2 3), .int (f2 0), .int (f2 4), .int (f2 5), .int (f2 6), .ref y2, .ref z2])), (y2, .inl (ct 0, 8, .inl (g2))), (z2, .inl (ct 0, 8, .inl (u2)))]) := hD
  refine lv_aload_n hx hb dX0_copyFrom_48 rfl (lv_at hl 0 rfl) ?_
  refine lv_aload_n hx hb dX0_copyFrom_49 rfl (lv_at hl 1 rfl) ?_
  refine va_get (D := D) (ci := 0) (v := .int (f2 6)) (C := RX0) (T := TX0) (N := 9) hx hb hts hiX0 hown hK hP 3 rfl rfl 6 (by decide) w_7 (fun _ h9 => h9) rfl dX0_copyFrom_50 ?_
  refine va_put (D := D) (ci := 0) (v := .int (f2 6)) (ty := .int) (C := RX0) (T := TX0) (N := 9) hx hb hts hiX0 tyX0 tyX0_ok nmX0 hown hK hP hD hS 0 rfl rfl 6 (by decide) w_7 (fun _ h9 => h9) rfl (by decide +kernel) rfl rfl (Nat.le_of_ble_eq_true rfl) dX0_copyFrom_53 (fun H locs hP hD hS => ?_)
  have hP : va_P D vwCl ([(x, .inr (0, [.int (f2 1), .int (f2 2), .int (f2 3), .int (f2 0), .int (f2 4), .int (f2 5), .int (f2 6), .ref y, .ref z])), (y, .inl (ct 0, 8, .inl (g))), (z, .inl (ct 0, 8, .inl (u))), (x2, .inr (0, [.int (f2 1), .int (f2 2), .int (f2 3), .int (f2 0), .int (f2 4), .int (f2 5), .int (f2 6), .ref y2, .ref z2])), (y2, .inl (ct 0, 8, .inl (g2))), (z2, .inl (ct 0, 8, .inl (u2)))]) H := hP
  have hD : va_D A ([(x, .inr (0, [.int (f2 1), .int (f2 2), .int (f2 3), .int (f2 0), .int (f2 4), .int (f2 5), .int (f2 6), .ref y, .ref z])), (y, .inl (ct 0, 8, .inl (g))), (z, .inl (ct 0, 8, .inl (u))), (x2, .inr (0, [.int (f2 1), .int (f2 2), .int (f2 3), .int (f2 0), .int (f2 4), .int (f2 5), .int (f2 6), .ref y2, .ref z2])), (y2, .inl (ct 0, 8, .inl (g2))), (z2, .inl (ct 0, 8, .inl (u2)))]) := hD
  refine lv_aload_n hx hb dX0_copyFrom_56 rfl (lv_at hl 1 rfl) ?_
  refine va_get (D := D) (ci := 0) (v := .ref y2) (C := RX0) (T := TX0) (N := 9) hx hb hts hiX0 hown hK hP 3 rfl rfl 7 (by decide) w_8 (fun _ h9 => h9) rfl dX0_copyFrom_57 ?_
  refine lv_iconst (v := 0) hx hb dX0_copyFrom_60 (by decide) ?_
  refine lv_aload_n hx hb dX0_copyFrom_61 rfl (lv_at hl 0 rfl) ?_
  refine va_get (D := D) (ci := 0) (v := .ref y) (C := RX0) (T := TX0) (N := 9) hx hb hts hiX0 hown hK hP 0 rfl rfl 7 (by decide) w_8 (fun _ h9 => h9) rfl dX0_copyFrom_62 ?_
  refine lv_iconst (v := 0) hx hb dX0_copyFrom_65 (by decide) ?_
  refine lv_bipush (v := 8) hx hb dX0_copyFrom_66 (by decide) ?_
  refine va_copyi hx hb (by rw [hml]; exact hl.1.symm) hown w_9 w_10 w_11 w_12 hK hP hD hS 4 1 0 0 (ty := .int) rfl rfl rfl rfl rfl (by decide) (by decide) (by decide) (by decide) (by decide) (fun _ _ => rfl) (Nat.le_of_ble_eq_true rfl) (Nat.le_of_ble_eq_true rfl) dX0_copyFrom_68 (fun H locs hP hD hS => ?_)
  have hP : va_P D vwCl ([(x, .inr (0, [.int (f2 1), .int (f2 2), .int (f2 3), .int (f2 0), .int (f2 4), .int (f2 5), .int (f2 6), .ref y, .ref z])), (y, .inl (ct 0, 8, .inl (va_cpy g2 g 0 0 8))), (z, .inl (ct 0, 8, .inl (u))), (x2, .inr (0, [.int (f2 1), .int (f2 2), .int (f2 3), .int (f2 0), .int (f2 4), .int (f2 5), .int (f2 6), .ref y2, .ref z2])), (y2, .inl (ct 0, 8, .inl (g2))), (z2, .inl (ct 0, 8, .inl (u2)))]) H := hP
  have hD : va_D A ([(x, .inr (0, [.int (f2 1), .int (f2 2), .int (f2 3), .int (f2 0), .int (f2 4), .int (f2 5), .int (f2 6), .ref y, .ref z])), (y, .inl (ct 0, 8, .inl (va_cpy g2 g 0 0 8))), (z, .inl (ct 0, 8, .inl (u))), (x2, .inr (0, [.int (f2 1), .int (f2 2), .int (f2 3), .int (f2 0), .int (f2 4), .int (f2 5), .int (f2 6), .ref y2, .ref z2])), (y2, .inl (ct 0, 8, .inl (g2))), (z2, .inl (ct 0, 8, .inl (u2)))]) := hD
  refine lv_aload_n hx hb dX0_copyFrom_71 rfl (lv_at hl 1 rfl) ?_
  refine va_get (D := D) (ci := 0) (v := .ref z2) (C := RX0) (T := TX0) (N := 9) hx hb hts hiX0 hown hK hP 3 rfl rfl 8 (by decide) w_13 (fun _ h9 => h9) rfl dX0_copyFrom_72 ?_
  refine lv_iconst (v := 0) hx hb dX0_copyFrom_75 (by decide) ?_
  refine lv_aload_n hx hb dX0_copyFrom_76 rfl (lv_at hl 0 rfl) ?_
  refine va_get (D := D) (ci := 0) (v := .ref z) (C := RX0) (T := TX0) (N := 9) hx hb hts hiX0 hown hK hP 0 rfl rfl 8 (by decide) w_13 (fun _ h9 => h9) rfl dX0_copyFrom_77 ?_
  refine lv_iconst (v := 0) hx hb dX0_copyFrom_80 (by decide) ?_
  refine lv_bipush (v := 8) hx hb dX0_copyFrom_81 (by decide) ?_
  refine va_copyi hx hb (by rw [hml]; exact hl.1.symm) hown w_9 w_10 w_11 w_12 hK hP hD hS 5 2 0 0 (ty := .int) rfl rfl rfl rfl rfl (by decide) (by decide) (by decide) (by decide) (by decide) (fun _ _ => rfl) (Nat.le_of_ble_eq_true rfl) (Nat.le_of_ble_eq_true rfl) dX0_copyFrom_83 (fun H locs hP hD hS => ?_)
  have hP : va_P D vwCl ([(x, .inr (0, [.int (f2 1), .int (f2 2), .int (f2 3), .int (f2 0), .int (f2 4), .int (f2 5), .int (f2 6), .ref y, .ref z])), (y, .inl (ct 0, 8, .inl (va_cpy g2 g 0 0 8))), (z, .inl (ct 0, 8, .inl (va_cpy u2 u 0 0 8))), (x2, .inr (0, [.int (f2 1), .int (f2 2), .int (f2 3), .int (f2 0), .int (f2 4), .int (f2 5), .int (f2 6), .ref y2, .ref z2])), (y2, .inl (ct 0, 8, .inl (g2))), (z2, .inl (ct 0, 8, .inl (u2)))]) H := hP
  have hD : va_D A ([(x, .inr (0, [.int (f2 1), .int (f2 2), .int (f2 3), .int (f2 0), .int (f2 4), .int (f2 5), .int (f2 6), .ref y, .ref z])), (y, .inl (ct 0, 8, .inl (va_cpy g2 g 0 0 8))), (z, .inl (ct 0, 8, .inl (va_cpy u2 u 0 0 8))), (x2, .inr (0, [.int (f2 1), .int (f2 2), .int (f2 3), .int (f2 0), .int (f2 4), .int (f2 5), .int (f2 6), .ref y2, .ref z2])), (y2, .inl (ct 0, 8, .inl (g2))), (z2, .inl (ct 0, 8, .inl (u2)))]) := hD
  have hP9 : va_P D vwCl (dgW ct x y z f2 g2 u2 ++ dgW ct x2 y2 z2 f2 g2 u2) _ := dg2_cpy hP
  have hD9 : va_D A (dgW ct x y z f2 g2 u2 ++ dgW ct x2 y2 z2 f2 g2 u2) := dg2_dn (f := f2) (g := va_cpy g2 g 0 0 8) (u := va_cpy u2 u 0 0 8) hD
  subst hAe
  exact W.vret hx hb hr (fun tt ht hW => ⟨⟨(), rfl, trivial, muE.of (ct := ct) hP9 hD9 ht⟩, hS.F ht⟩) hS.2.2 dX0_copyFrom_86
set_option maxHeartbeats 4000000 in
set_option maxRecDepth 100000 in
theorem k_X3_copyFrom (l : Launch) (D : va_G) (ct : Nat → ClassId) (sz : Nat) (a b : Nat → Nat) (v w : SV) : Met l yX3_copyFrom wsX3_copyFrom ({ frames := 2, cells := 0, slots := 0, locals := 61 }) (muP D ct (stW ct a v ++ stW ct b w) sz [.ref (a 0), .ref (b 0)]) (muV D ct (stW ct a v ++ stW ct b w) (stW ct a w ++ stW ct b w) sz) 0 0 (va_A (stW ct a v ++ stW ct b w) sz) := by
  refine Met.ofW (cc := cX3_copyFrom) (maxL := 3) (ret := none) (by decide) rfl ?_
  intro p e s m args below meth c s₁ B hml hv
  obtain ⟨rfl, hsz, hP, hK, hN, hD0⟩ := hv
  have hx := B.exec
  have hb := B.bytes
  have hr := B.returns
  have hts := atoms_spec (ws := wsX3_copyFrom) B.pre
  have hown : s.vm.findClass RX3 = some m.cls := findClass_of_methodNamed B.named
  have hlocks := B.notSynchronized
  subst hsz
  have hD := hD0.self (sz := s.heap.size)
  generalize hAe : va_A (stW ct a v ++ stW ct b w) s.heap.size = A at hD
  have hA : ∀ q : Nat, s.heap.size ≤ q → A q := fun q h => by rw [← hAe]; exact Or.inr h
  have hS : va_S A s.heap s.heap [] := va_S.rf
  have w_1 := hts (.fieldLink RX3 11 "ScannedDigits$State" "digits" "[LScannedDigits$Digit;") (List.mem_of_getElem? (i := 1) rfl)
  have w_2 := hts (.fieldLink RX3 17 "ScannedDigits$State" "digitCount" "I") (List.mem_of_getElem? (i := 2) rfl)
  have w_3 := hts (.fieldLink RX3 21 "ScannedDigits$State" "on" "[I") (List.mem_of_getElem? (i := 3) rfl)
  have w_4 := hts (.methodLink RX3 44 arraycopyName) (List.mem_of_getElem? (i := 4) rfl)
  have w_5 := hts (.native arraycopyName) (List.mem_of_getElem? (i := 5) rfl)
  have w_6 := hts (.static arraycopyName) (List.mem_of_getElem? (i := 6) rfl)
  have w_7 := hts (.initialized "java/lang/System") (List.mem_of_getElem? (i := 7) rfl)
  have w_8 := hts (.fieldLink RX3 25 "ScannedDigits$State" "off" "[I") (List.mem_of_getElem? (i := 8) rfl)
  have w_9 := hts (.fieldLink RX3 36 "ScannedDigits$State" "settings" "[I") (List.mem_of_getElem? (i := 9) rfl)
  have w_10 := hts (.fieldLink RX3 50 "ScannedDigits$State" "time" "I") (List.mem_of_getElem? (i := 10) rfl)
  have w_11 := hts (.fieldLink RX3 53 "ScannedDigits$State" "frame" "I") (List.mem_of_getElem? (i := 11) rfl)
  have w_12 := hts (.fieldLink RX3 56 "ScannedDigits$State" "frameTicks" "I") (List.mem_of_getElem? (i := 12) rfl)
  have w_13 := hts (.fieldLink RX3 59 "ScannedDigits$State" "testFrames" "I") (List.mem_of_getElem? (i := 13) rfl)
  have w_14 := hts (.fieldLink RX3 62 "ScannedDigits$State" "drivenTicks" "I") (List.mem_of_getElem? (i := 14) rfl)
  have w_15 := hts (.fieldLink RX3 65 "ScannedDigits$State" "current" "F") (List.mem_of_getElem? (i := 15) rfl)
  have w_16 := hts (.fieldLink RX3 69 "ScannedDigits$State" "peak" "F") (List.mem_of_getElem? (i := 16) rfl)
  have w_17 := hts (.fieldLink RX3 72 "ScannedDigits$State" "charge" "F") (List.mem_of_getElem? (i := 17) rfl)
  have hiX3 : ∀ w ∈ wsX30, w ∈ wsX3_copyFrom := fun w h => (goodIn_r wsX30 [33, 34, 35, 36, 37, 38, 39, 40, 41, 42, 43, 44, 45] (by decide +kernel) (by decide +kernel) w h).1
  have hl := lv_entry ([.ref (a 0), .ref (b 0)]) (n := 3) (Nat.le_of_ble_eq_true rfl)
  rw [lg_entry_eq]
  generalize (lg_sl ([.ref (a 0), .ref (b 0)]) ++ List.replicate (3 - (lg_sl ([.ref (a 0), .ref (b 0)])).length) Slot.unset).toArray = ls at hl ⊢
  have hl : lv_has ls 3 [(0, .ref (a 0)), (1, .ref (b 0))] := hl
  refine lv_iconst (v := 0) hx hb dX3_copyFrom_0 (by decide) ?_
  refine lv_istore_n (lv' := [(2, .int 0), (0, .ref (a 0)), (1, .ref (b 0))]) hx hb dX3_copyFrom_1 rfl hl (by decide) rfl (fun ls hl => ?_)
  have loop_2 : ∀ (n_2 : Nat) (i : Nat), (i ≤ 8) → (9 ≤ i + n_2) → ∀ (H : Heap) (locs : List Loc), va_P D vwCl (stW ct a (cpD v w i) ++ stW ct b w) H → va_D A (stW ct a (cpD v w i) ++ stW ct b w) → va_S A s.heap H locs → ∀ (ls : Array Slot), lv_has ls 3 [(0, .ref (a 0)), (1, .ref (b 0)), (2, .int (nI i))] → W p l e (headSpec wsX3_copyFrom ({ frames := 2, cells := 0, slots := 0, locals := 61 })).room s m #[.ref (a 0), .ref (b 0)] below meth c H locs 0 0 (MQ below (muV D ct (stW ct a v ++ stW ct b w) (stW ct a w ++ stW ct b w) s.heap.size) #[.ref (a 0), .ref (b 0)] s 0 0 (A)) (F0 m 2 ls []) := by
    intro n_2
    induction n_2 with
    | zero =>
      intro i hi hn
      exact absurd hn (by omega)
    | succ n_2 ih_2 =>
      intro i hi hn H locs hP hD hS ls hl
      refine lv_iload_n hx hb dX3_copyFrom_2 rfl (lv_at hl 2 rfl) ?_
      refine lv_bipush (v := 8) hx hb dX3_copyFrom_3 (by decide) ?_
      refine lv_icmp_ge (tgt := 29) hx hb dX3_copyFrom_5 (by decide) (fun c_5 => ?_) (fun c_5 => ?_)
      · have hge : 8 ≤ i := nI_le' (by decide) (by omega) c_5
        obtain rfl : 8 = i := by omega
        obtain ⟨V, hV⟩ : ∃ V, V = cpD v w 8 := ⟨_, rfl⟩
        replace hP := sa_of hV.symm hP
        replace hD := sa_dn (w := V) hD
        refine lv_aload_n hx hb dX3_copyFrom_29 rfl (lv_at hl 0 rfl) ?_
        refine lv_aload_n hx hb dX3_copyFrom_30 rfl (lv_at hl 1 rfl) ?_
        refine va_get (D := D) (ci := 3) (v := .int (w.1 0 0)) (C := RX3) (T := TX3) (N := 13) hx hb hts hiX3 hown hK (pw_right hP) 0 st_c0 rfl 1 (by decide) w_2 (fun _ h9 => h9) rfl dX3_copyFrom_31 ?_
        refine va_put (D := D) (ci := 3) (v := .int (w.1 0 0)) (ty := .int) (C := RX3) (T := TX3) (N := 13) hx hb hts hiX3 tyX3 tyX3_ok nmX3 hown hK hP hD hS 0 sa_c0 rfl 1 (by decide) w_2 (fun _ h9 => h9) rfl (by decide +kernel) rfl rfl (Nat.le_of_ble_eq_true rfl) dX3_copyFrom_34 (fun H locs hP hD hS => ?_)
        have hP : va_P D vwCl (stW ct a (sC (V) 0 (upd ((V).1 0) 0 (w.1 0 0))) ++ stW ct b w) H := sa_p0 (upd ((V).1 0) 0 (w.1 0 0)) hP
        have hD : va_D A (stW ct a (sC (V) 0 (upd ((V).1 0) 0 (w.1 0 0))) ++ stW ct b w) := sa_dset (by decide) hD
        refine lv_aload_n hx hb dX3_copyFrom_37 rfl (lv_at hl 1 rfl) ?_
        refine va_get (D := D) (ci := 3) (v := .ref (b 2)) (C := RX3) (T := TX3) (N := 13) hx hb hts hiX3 hown hK (pw_right hP) 0 st_c0 rfl 2 (by decide) w_3 (fun _ h9 => h9) rfl dX3_copyFrom_38 ?_
        refine lv_iconst (v := 0) hx hb dX3_copyFrom_41 (by decide) ?_
        refine lv_aload_n hx hb dX3_copyFrom_42 rfl (lv_at hl 0 rfl) ?_
        refine va_get (D := D) (ci := 3) (v := .ref (a 2)) (C := RX3) (T := TX3) (N := 13) hx hb hts hiX3 hown hK hP 0 sa_c0 rfl 2 (by decide) w_3 (fun _ h9 => h9) rfl dX3_copyFrom_43 ?_
        refine lv_iconst (v := 0) hx hb dX3_copyFrom_46 (by decide) ?_
        refine lv_iconst (v := 4) hx hb dX3_copyFrom_47 (by decide) ?_
        refine va_copyi hx hb (by rw [hml]; exact hl.1.symm) hown w_4 w_5 w_6 w_7 hK hP hD hS 31 2 0 0 (ty := .int) sb_c2 sa_c2 rfl rfl rfl (by decide) (by decide) (by decide) (by decide) (by decide) (fun _ _ => rfl) (Nat.le_of_ble_eq_true rfl) (Nat.le_of_ble_eq_true rfl) dX3_copyFrom_48 (fun H locs hP hD hS => ?_)
        have hP : va_P D vwCl (stW ct a (sC (sC (V) 0 (upd ((V).1 0) 0 (w.1 0 0))) 1 (w.1 1)) ++ stW ct b w) H := st_c2x (sa_p1 _ hP) (cpy_0 _ _ 4)
        have hD : va_D A (stW ct a (sC (sC (V) 0 (upd ((V).1 0) 0 (w.1 0 0))) 1 (w.1 1)) ++ stW ct b w) := sa_dset (by decide) hD
        refine lv_aload_n hx hb dX3_copyFrom_51 rfl (lv_at hl 1 rfl) ?_
        refine va_get (D := D) (ci := 3) (v := .ref (b 3)) (C := RX3) (T := TX3) (N := 13) hx hb hts hiX3 hown hK (pw_right hP) 0 st_c0 rfl 3 (by decide) w_8 (fun _ h9 => h9) rfl dX3_copyFrom_52 ?_
        refine lv_iconst (v := 0) hx hb dX3_copyFrom_55 (by decide) ?_
        refine lv_aload_n hx hb dX3_copyFrom_56 rfl (lv_at hl 0 rfl) ?_
        refine va_get (D := D) (ci := 3) (v := .ref (a 3)) (C := RX3) (T := TX3) (N := 13) hx hb hts hiX3 hown hK hP 0 sa_c0 rfl 3 (by decide) w_8 (fun _ h9 => h9) rfl dX3_copyFrom_57 ?_
        refine lv_iconst (v := 0) hx hb dX3_copyFrom_60 (by decide) ?_
        refine lv_iconst (v := 4) hx hb dX3_copyFrom_61 (by decide) ?_
        refine va_copyi hx hb (by rw [hml]; exact hl.1.symm) hown w_4 w_5 w_6 w_7 hK hP hD hS 32 3 0 0 (ty := .int) sb_c3 sa_c3 rfl rfl rfl (by decide) (by decide) (by decide) (by decide) (by decide) (fun _ _ => rfl) (Nat.le_of_ble_eq_true rfl) (Nat.le_of_ble_eq_true rfl) dX3_copyFrom_62 (fun H locs hP hD hS => ?_)
        have hP : va_P D vwCl (stW ct a (sC (sC (sC (V) 0 (upd ((V).1 0) 0 (w.1 0 0))) 1 (w.1 1)) 2 (w.1 2)) ++ stW ct b w) H := st_c3x (sa_p2 _ hP) (cpy_0 _ _ 4)
        have hD : va_D A (stW ct a (sC (sC (sC (V) 0 (upd ((V).1 0) 0 (w.1 0 0))) 1 (w.1 1)) 2 (w.1 2)) ++ stW ct b w) := sa_dset (by decide) hD
        refine lv_aload_n hx hb dX3_copyFrom_65 rfl (lv_at hl 1 rfl) ?_
        refine va_get (D := D) (ci := 3) (v := .ref (b 4)) (C := RX3) (T := TX3) (N := 13) hx hb hts hiX3 hown hK (pw_right hP) 0 st_c0 rfl 4 (by decide) w_9 (fun _ h9 => h9) rfl dX3_copyFrom_66 ?_
        refine lv_iconst (v := 0) hx hb dX3_copyFrom_69 (by decide) ?_
        refine lv_aload_n hx hb dX3_copyFrom_70 rfl (lv_at hl 0 rfl) ?_
        refine va_get (D := D) (ci := 3) (v := .ref (a 4)) (C := RX3) (T := TX3) (N := 13) hx hb hts hiX3 hown hK hP 0 sa_c0 rfl 4 (by decide) w_9 (fun _ h9 => h9) rfl dX3_copyFrom_71 ?_
        refine lv_iconst (v := 0) hx hb dX3_copyFrom_74 (by decide) ?_
        refine lv_aload_n hx hb dX3_copyFrom_75 rfl (lv_at hl 0 rfl) ?_
        refine va_get (D := D) (ci := 3) (v := .ref (a 4)) (C := RX3) (T := TX3) (N := 13) hx hb hts hiX3 hown hK hP 0 sa_c0 rfl 4 (by decide) w_9 (fun _ h9 => h9) rfl dX3_copyFrom_76 ?_
        refine va_alen hx hb hK hP 4 0 sa_c4 (ty := .int) rfl (v := 3) rfl dX3_copyFrom_79 ?_
        refine va_copyi hx hb (by rw [hml]; exact hl.1.symm) hown w_4 w_5 w_6 w_7 hK hP hD hS 33 4 0 0 (ty := .int) sb_c4 sa_c4 rfl rfl rfl (by decide) (by decide) (by decide) (by decide) (by decide) (fun _ _ => rfl) (Nat.le_of_ble_eq_true rfl) (Nat.le_of_ble_eq_true rfl) dX3_copyFrom_80 (fun H locs hP hD hS => ?_)
        have hP : va_P D vwCl (stW ct a (cpN V w (upd ((V).1 0) 0 (w.1 0 0)) ((V).2)) ++ stW ct b w) H := sa_of (cpN_i V w _) (st_c4x (sa_p3 _ hP) (cpy_0 _ _ 3))
        have hD : va_D A (stW ct a (cpN V w (upd ((V).1 0) 0 (w.1 0 0)) ((V).2)) ++ stW ct b w) := sa_dset (by decide) hD
        refine lv_aload_n hx hb dX3_copyFrom_83 rfl (lv_at hl 0 rfl) ?_
        refine lv_aload_n hx hb dX3_copyFrom_84 rfl (lv_at hl 1 rfl) ?_
        refine va_get (D := D) (ci := 3) (v := .int (w.1 0 1)) (C := RX3) (T := TX3) (N := 13) hx hb hts hiX3 hown hK (pw_right hP) 0 st_c0 rfl 5 (by decide) w_10 (fun _ h9 => h9) rfl dX3_copyFrom_85 ?_
        refine va_put (D := D) (ci := 3) (v := .int (w.1 0 1)) (ty := .int) (C := RX3) (T := TX3) (N := 13) hx hb hts hiX3 tyX3 tyX3_ok nmX3 hown hK hP hD hS 0 sa_c0 rfl 5 (by decide) w_10 (fun _ h9 => h9) rfl (by decide +kernel) rfl rfl (Nat.le_of_ble_eq_true rfl) dX3_copyFrom_88 (fun H locs hP hD hS => ?_)
        have hP : va_P D vwCl (stW ct a (cpN V w (upd (upd ((V).1 0) 0 (w.1 0 0)) 1 (w.1 0 1)) ((V).2)) ++ stW ct b w) H := sa_of (cpN_0 V w _ _ _) (sa_p0 (v := cpN V w (upd ((V).1 0) 0 (w.1 0 0)) ((V).2)) (upd (upd ((V).1 0) 0 (w.1 0 0)) 1 (w.1 0 1)) hP)
        have hD : va_D A (stW ct a (cpN V w (upd (upd ((V).1 0) 0 (w.1 0 0)) 1 (w.1 0 1)) ((V).2)) ++ stW ct b w) := sa_dset (by decide) hD
        refine lv_aload_n hx hb dX3_copyFrom_91 rfl (lv_at hl 0 rfl) ?_
        refine lv_aload_n hx hb dX3_copyFrom_92 rfl (lv_at hl 1 rfl) ?_
        refine va_get (D := D) (ci := 3) (v := .int (w.1 0 2)) (C := RX3) (T := TX3) (N := 13) hx hb hts hiX3 hown hK (pw_right hP) 0 st_c0 rfl 6 (by decide) w_11 (fun _ h9 => h9) rfl dX3_copyFrom_93 ?_
        refine va_put (D := D) (ci := 3) (v := .int (w.1 0 2)) (ty := .int) (C := RX3) (T := TX3) (N := 13) hx hb hts hiX3 tyX3 tyX3_ok nmX3 hown hK hP hD hS 0 sa_c0 rfl 6 (by decide) w_11 (fun _ h9 => h9) rfl (by decide +kernel) rfl rfl (Nat.le_of_ble_eq_true rfl) dX3_copyFrom_96 (fun H locs hP hD hS => ?_)
        have hP : va_P D vwCl (stW ct a (cpN V w (upd (upd (upd ((V).1 0) 0 (w.1 0 0)) 1 (w.1 0 1)) 2 (w.1 0 2)) ((V).2)) ++ stW ct b w) H := sa_of (cpN_0 V w _ _ _) (sa_p0 (v := cpN V w (upd (upd ((V).1 0) 0 (w.1 0 0)) 1 (w.1 0 1)) ((V).2)) (upd (upd (upd ((V).1 0) 0 (w.1 0 0)) 1 (w.1 0 1)) 2 (w.1 0 2)) hP)
        have hD : va_D A (stW ct a (cpN V w (upd (upd (upd ((V).1 0) 0 (w.1 0 0)) 1 (w.1 0 1)) 2 (w.1 0 2)) ((V).2)) ++ stW ct b w) := sa_dset (by decide) hD
        refine lv_aload_n hx hb dX3_copyFrom_99 rfl (lv_at hl 0 rfl) ?_
        refine lv_aload_n hx hb dX3_copyFrom_100 rfl (lv_at hl 1 rfl) ?_
        refine va_get (D := D) (ci := 3) (v := .int (w.1 0 3)) (C := RX3) (T := TX3) (N := 13) hx hb hts hiX3 hown hK (pw_right hP) 0 st_c0 rfl 7 (by decide) w_12 (fun _ h9 => h9) rfl dX3_copyFrom_101 ?_
        refine va_put (D := D) (ci := 3) (v := .int (w.1 0 3)) (ty := .int) (C := RX3) (T := TX3) (N := 13) hx hb hts hiX3 tyX3 tyX3_ok nmX3 hown hK hP hD hS 0 sa_c0 rfl 7 (by decide) w_12 (fun _ h9 => h9) rfl (by decide +kernel) rfl rfl (Nat.le_of_ble_eq_true rfl) dX3_copyFrom_104 (fun H locs hP hD hS => ?_)
        have hP : va_P D vwCl (stW ct a (cpN V w (upd (upd (upd (upd ((V).1 0) 0 (w.1 0 0)) 1 (w.1 0 1)) 2 (w.1 0 2)) 3 (w.1 0 3)) ((V).2)) ++ stW ct b w) H := sa_of (cpN_0 V w _ _ _) (sa_p0 (v := cpN V w (upd (upd (upd ((V).1 0) 0 (w.1 0 0)) 1 (w.1 0 1)) 2 (w.1 0 2)) ((V).2)) (upd (upd (upd (upd ((V).1 0) 0 (w.1 0 0)) 1 (w.1 0 1)) 2 (w.1 0 2)) 3 (w.1 0 3)) hP)
        have hD : va_D A (stW ct a (cpN V w (upd (upd (upd (upd ((V).1 0) 0 (w.1 0 0)) 1 (w.1 0 1)) 2 (w.1 0 2)) 3 (w.1 0 3)) ((V).2)) ++ stW ct b w) := sa_dset (by decide) hD
        refine lv_aload_n hx hb dX3_copyFrom_107 rfl (lv_at hl 0 rfl) ?_
        refine lv_aload_n hx hb dX3_copyFrom_108 rfl (lv_at hl 1 rfl) ?_
        refine va_get (D := D) (ci := 3) (v := .int (w.1 0 4)) (C := RX3) (T := TX3) (N := 13) hx hb hts hiX3 hown hK (pw_right hP) 0 st_c0 rfl 8 (by decide) w_13 (fun _ h9 => h9) rfl dX3_copyFrom_109 ?_
        refine va_put (D := D) (ci := 3) (v := .int (w.1 0 4)) (ty := .int) (C := RX3) (T := TX3) (N := 13) hx hb hts hiX3 tyX3 tyX3_ok nmX3 hown hK hP hD hS 0 sa_c0 rfl 8 (by decide) w_13 (fun _ h9 => h9) rfl (by decide +kernel) rfl rfl (Nat.le_of_ble_eq_true rfl) dX3_copyFrom_112 (fun H locs hP hD hS => ?_)
        have hP : va_P D vwCl (stW ct a (cpN V w (upd (upd (upd (upd (upd ((V).1 0) 0 (w.1 0 0)) 1 (w.1 0 1)) 2 (w.1 0 2)) 3 (w.1 0 3)) 4 (w.1 0 4)) ((V).2)) ++ stW ct b w) H := sa_of (cpN_0 V w _ _ _) (sa_p0 (v := cpN V w (upd (upd (upd (upd ((V).1 0) 0 (w.1 0 0)) 1 (w.1 0 1)) 2 (w.1 0 2)) 3 (w.1 0 3)) ((V).2)) (upd (upd (upd (upd (upd ((V).1 0) 0 (w.1 0 0)) 1 (w.1 0 1)) 2 (w.1 0 2)) 3 (w.1 0 3)) 4 (w.1 0 4)) hP)
        have hD : va_D A (stW ct a (cpN V w (upd (upd (upd (upd (upd ((V).1 0) 0 (w.1 0 0)) 1 (w.1 0 1)) 2 (w.1 0 2)) 3 (w.1 0 3)) 4 (w.1 0 4)) ((V).2)) ++ stW ct b w) := sa_dset (by decide) hD
        refine lv_aload_n hx hb dX3_copyFrom_115 rfl (lv_at hl 0 rfl) ?_
        refine lv_aload_n hx hb dX3_copyFrom_116 rfl (lv_at hl 1 rfl) ?_
        refine va_get (D := D) (ci := 3) (v := .int (w.1 0 5)) (C := RX3) (T := TX3) (N := 13) hx hb hts hiX3 hown hK (pw_right hP) 0 st_c0 rfl 9 (by decide) w_14 (fun _ h9 => h9) rfl dX3_copyFrom_117 ?_
        refine va_put (D := D) (ci := 3) (v := .int (w.1 0 5)) (ty := .int) (C := RX3) (T := TX3) (N := 13) hx hb hts hiX3 tyX3 tyX3_ok nmX3 hown hK hP hD hS 0 sa_c0 rfl 9 (by decide) w_14 (fun _ h9 => h9) rfl (by decide +kernel) rfl rfl (Nat.le_of_ble_eq_true rfl) dX3_copyFrom_120 (fun H locs hP hD hS => ?_)
        have hP : va_P D vwCl (stW ct a (cpN V w (upd (upd (upd (upd (upd (upd ((V).1 0) 0 (w.1 0 0)) 1 (w.1 0 1)) 2 (w.1 0 2)) 3 (w.1 0 3)) 4 (w.1 0 4)) 5 (w.1 0 5)) ((V).2)) ++ stW ct b w) H := sa_of (cpN_0 V w _ _ _) (sa_p0 (v := cpN V w (upd (upd (upd (upd (upd ((V).1 0) 0 (w.1 0 0)) 1 (w.1 0 1)) 2 (w.1 0 2)) 3 (w.1 0 3)) 4 (w.1 0 4)) ((V).2)) (upd (upd (upd (upd (upd (upd ((V).1 0) 0 (w.1 0 0)) 1 (w.1 0 1)) 2 (w.1 0 2)) 3 (w.1 0 3)) 4 (w.1 0 4)) 5 (w.1 0 5)) hP)
        have hD : va_D A (stW ct a (cpN V w (upd (upd (upd (upd (upd (upd ((V).1 0) 0 (w.1 0 0)) 1 (w.1 0 1)) 2 (w.1 0 2)) 3 (w.1 0 3)) 4 (w.1 0 4)) 5 (w.1 0 5)) ((V).2)) ++ stW ct b w) := sa_dset (by decide) hD
        refine lv_aload_n hx hb dX3_copyFrom_123 rfl (lv_at hl 0 rfl) ?_
        refine lv_aload_n hx hb dX3_copyFrom_124 rfl (lv_at hl 1 rfl) ?_
        refine va_get (D := D) (ci := 3) (v := .float (w.2 0)) (C := RX3) (T := TX3) (N := 13) hx hb hts hiX3 hown hK (pw_right hP) 0 st_c0 rfl 10 (by decide) w_15 (fun _ h9 => h9) rfl dX3_copyFrom_125 ?_
        refine va_put (D := D) (ci := 3) (v := .float (w.2 0)) (ty := .float) (C := RX3) (T := TX3) (N := 13) hx hb hts hiX3 tyX3 tyX3_ok nmX3 hown hK hP hD hS 0 sa_c0 rfl 10 (by decide) w_15 (fun _ h9 => h9) rfl (by decide +kernel) rfl rfl (Nat.le_of_ble_eq_true rfl) dX3_copyFrom_128 (fun H locs hP hD hS => ?_)
        have hP : va_P D vwCl (stW ct a (cpN V w (upd (upd (upd (upd (upd (upd ((V).1 0) 0 (w.1 0 0)) 1 (w.1 0 1)) 2 (w.1 0 2)) 3 (w.1 0 3)) 4 (w.1 0 4)) 5 (w.1 0 5)) (vf_upd ((V).2) 0 (w.2 0))) ++ stW ct b w) H := sa_pf (v := cpN V w (upd (upd (upd (upd (upd (upd ((V).1 0) 0 (w.1 0 0)) 1 (w.1 0 1)) 2 (w.1 0 2)) 3 (w.1 0 3)) 4 (w.1 0 4)) 5 (w.1 0 5)) ((V).2)) (vf_upd ((V).2) 0 (w.2 0)) hP
        have hD : va_D A (stW ct a (cpN V w (upd (upd (upd (upd (upd (upd ((V).1 0) 0 (w.1 0 0)) 1 (w.1 0 1)) 2 (w.1 0 2)) 3 (w.1 0 3)) 4 (w.1 0 4)) 5 (w.1 0 5)) (vf_upd ((V).2) 0 (w.2 0))) ++ stW ct b w) := sa_dset (by decide) hD
        refine lv_aload_n hx hb dX3_copyFrom_131 rfl (lv_at hl 0 rfl) ?_
        refine lv_aload_n hx hb dX3_copyFrom_132 rfl (lv_at hl 1 rfl) ?_
        refine va_get (D := D) (ci := 3) (v := .float (w.2 1)) (C := RX3) (T := TX3) (N := 13) hx hb hts hiX3 hown hK (pw_right hP) 0 st_c0 rfl 11 (by decide) w_16 (fun _ h9 => h9) rfl dX3_copyFrom_133 ?_
        refine va_put (D := D) (ci := 3) (v := .float (w.2 1)) (ty := .float) (C := RX3) (T := TX3) (N := 13) hx hb hts hiX3 tyX3 tyX3_ok nmX3 hown hK hP hD hS 0 sa_c0 rfl 11 (by decide) w_16 (fun _ h9 => h9) rfl (by decide +kernel) rfl rfl (Nat.le_of_ble_eq_true rfl) dX3_copyFrom_136 (fun H locs hP hD hS => ?_)
        have hP : va_P D vwCl (stW ct a (cpN V w (upd (upd (upd (upd (upd (upd ((V).1 0) 0 (w.1 0 0)) 1 (w.1 0 1)) 2 (w.1 0 2)) 3 (w.1 0 3)) 4 (w.1 0 4)) 5 (w.1 0 5)) (vf_upd (vf_upd ((V).2) 0 (w.2 0)) 1 (w.2 1))) ++ stW ct b w) H := sa_pf (v := cpN V w (upd (upd (upd (upd (upd (upd ((V).1 0) 0 (w.1 0 0)) 1 (w.1 0 1)) 2 (w.1 0 2)) 3 (w.1 0 3)) 4 (w.1 0 4)) 5 (w.1 0 5)) (vf_upd ((V).2) 0 (w.2 0))) (vf_upd (vf_upd ((V).2) 0 (w.2 0)) 1 (w.2 1)) hP
        have hD : va_D A (stW ct a (cpN V w (upd (upd (upd (upd (upd (upd ((V).1 0) 0 (w.1 0 0)) 1 (w.1 0 1)) 2 (w.1 0 2)) 3 (w.1 0 3)) 4 (w.1 0 4)) 5 (w.1 0 5)) (vf_upd (vf_upd ((V).2) 0 (w.2 0)) 1 (w.2 1))) ++ stW ct b w) := sa_dset (by decide) hD
        refine lv_aload_n hx hb dX3_copyFrom_139 rfl (lv_at hl 0 rfl) ?_
        refine lv_aload_n hx hb dX3_copyFrom_140 rfl (lv_at hl 1 rfl) ?_
        refine va_get (D := D) (ci := 3) (v := .float (w.2 2)) (C := RX3) (T := TX3) (N := 13) hx hb hts hiX3 hown hK (pw_right hP) 0 st_c0 rfl 12 (by decide) w_17 (fun _ h9 => h9) rfl dX3_copyFrom_141 ?_
        refine va_put (D := D) (ci := 3) (v := .float (w.2 2)) (ty := .float) (C := RX3) (T := TX3) (N := 13) hx hb hts hiX3 tyX3 tyX3_ok nmX3 hown hK hP hD hS 0 sa_c0 rfl 12 (by decide) w_17 (fun _ h9 => h9) rfl (by decide +kernel) rfl rfl (Nat.le_of_ble_eq_true rfl) dX3_copyFrom_144 (fun H locs hP hD hS => ?_)
        have hP : va_P D vwCl (stW ct a (cpN V w (upd (upd (upd (upd (upd (upd ((V).1 0) 0 (w.1 0 0)) 1 (w.1 0 1)) 2 (w.1 0 2)) 3 (w.1 0 3)) 4 (w.1 0 4)) 5 (w.1 0 5)) (vf_upd (vf_upd (vf_upd ((V).2) 0 (w.2 0)) 1 (w.2 1)) 2 (w.2 2))) ++ stW ct b w) H := sa_pf (v := cpN V w (upd (upd (upd (upd (upd (upd ((V).1 0) 0 (w.1 0 0)) 1 (w.1 0 1)) 2 (w.1 0 2)) 3 (w.1 0 3)) 4 (w.1 0 4)) 5 (w.1 0 5)) (vf_upd (vf_upd ((V).2) 0 (w.2 0)) 1 (w.2 1))) (vf_upd (vf_upd (vf_upd ((V).2) 0 (w.2 0)) 1 (w.2 1)) 2 (w.2 2)) hP
        have hD : va_D A (stW ct a (cpN V w (upd (upd (upd (upd (upd (upd ((V).1 0) 0 (w.1 0 0)) 1 (w.1 0 1)) 2 (w.1 0 2)) 3 (w.1 0 3)) 4 (w.1 0 4)) 5 (w.1 0 5)) (vf_upd (vf_upd (vf_upd ((V).2) 0 (w.2 0)) 1 (w.2 1)) 2 (w.2 2))) ++ stW ct b w) := sa_dset (by decide) hD
        have hP9 : va_P D vwCl (stW ct a w ++ stW ct b w) _ := sa_w (cpN_w hV (fun j hj => match j, hj with | 0, _ => rfl | 1, _ => rfl | 2, _ => rfl | 3, _ => rfl | 4, _ => rfl | 5, _ => rfl) (fun j hj => match j, hj with | 0, _ => rfl | 1, _ => rfl | 2, _ => rfl)) hP
        have hD9 : va_D A (stW ct a w ++ stW ct b w) := sa_dn hD
        subst hAe
        exact W.vret hx hb hr (fun tt ht hW => ⟨⟨(), rfl, trivial, muE.of (ct := ct) hP9 hD9 ht⟩, hS.F ht⟩) hS.2.2 dX3_copyFrom_147
      · have hlt : i < 8 := nI_nle' (by decide) (by omega) c_5
        refine lv_aload_n hx hb dX3_copyFrom_8 rfl (lv_at hl 0 rfl) ?_
        refine va_get (D := D) (ci := 3) (v := .ref (a 1)) (C := RX3) (T := TX3) (N := 13) hx hb hts hiX3 hown hK hP 0 sa_c0 rfl 0 (by decide) w_1 (fun _ h9 => h9) rfl dX3_copyFrom_9 ?_
        refine lv_iload_n hx hb dX3_copyFrom_12 rfl (lv_at hl 2 rfl) ?_
        refine r_aldq (v := a (3 * i + 5)) hx hb hK hP 1 4 sa_c1 rfl (k := i) (rfl) (by omega) (by decide) (rfl) dX3_copyFrom_13 ?_
        have hPd_13 : va_P D vwCl (dgA ct a (cpD v w i) i) _ := sa_dgP (by omega) hP
        refine lv_aload_n hx hb dX3_copyFrom_14 rfl (lv_at hl 1 rfl) ?_
        refine va_get (D := D) (ci := 3) (v := .ref (b 1)) (C := RX3) (T := TX3) (N := 13) hx hb hts hiX3 hown hK (pw_right hP) 0 st_c0 rfl 0 (by decide) w_1 (fun _ h9 => h9) rfl dX3_copyFrom_15 ?_
        refine lv_iload_n hx hb dX3_copyFrom_18 rfl (lv_at hl 2 rfl) ?_
        refine r_aldq (v := b (3 * i + 5)) hx hb hK (pw_right hP) 1 4 st_c1 rfl (k := i) (rfl) (by omega) (by decide) (rfl) dX3_copyFrom_19 ?_
        have hPd_19 : va_P D vwCl (dgA ct b w i) _ := st_dgP (by omega) (pw_right hP)
        have hFc_20 := w_free (wc := dgA ct a (cpD v w i) i ++ dgA ct b w i) hD (sb_perm (by omega)) hS hA
        refine va_callv (va_runV (As := [.ref (b (3 * i + 5))]) (rest := []) ⟨hx, hb, hml, hown, hts⟩ (k_X0_copyFrom l D ct _ (a (3 * i + 5)) (a (3 * i + 6)) (a (3 * i + 7)) ((cpD v w i).1 (4 + i)) ((cpD v w i).1 (12 + i)) ((cpD v w i).1 (20 + i)) (b (3 * i + 5)) (b (3 * i + 6)) (b (3 * i + 7)) (w.1 (4 + i)) (w.1 (12 + i)) (w.1 (20 + i))) (cwV 1 hts gX3_copyFrom_X0_copyFrom rfl rfl rfl (by decide +kernel) ⟨Nat.le_of_ble_eq_true rfl, Nat.le_of_ble_eq_true rfl⟩) ⟨muP.blind, va_recv hK (pw_cut (sb_perm (by omega)) hP) (ci := 0) (q0 := 0) rfl rfl, muP.at (pw_cut (sb_perm (by omega)) hP) (dw_cut (sb_perm (by omega)) hD) hK hN⟩ rfl rfl hl.1 rfl (lv_room (Nat.le_of_ble_eq_true rfl)) dX3_copyFrom_20 ⟨Nat.le_of_ble_eq_true rfl, Nat.le_of_ble_eq_true rfl⟩) hS (fun q _ h => hFc_20 q h) hFc_20 (fun uu tt H1 locs ht hvm hw hB hz1 hk1 hS => ?_)
        obtain ⟨hP, hD⟩ := muE.join (ws' := stW ct a (sTri (cpD v w i) i (w.1 (4 + i), w.1 (12 + i), w.1 (20 + i))) ++ stW ct b w) hP hD (sb_perm (by omega)) (sb_perm2 (by omega) _) hk1 hFc_20 ht hB
        generalize H1 = H at hP hS ⊢
        refine lv_iinc (v := nI (i + 1)) (lv' := [(2, .int (nI (i + 1))), (0, .ref (a 0)), (1, .ref (b 0))]) hx hb dX3_copyFrom_23 hl (k := 2) rfl ((nI_succ i).symm) (by decide) rfl (fun ls hl => ?_)
        refine lv_goto (tgt := 2) hx hb dX3_copyFrom_26 (by decide) ?_
        exact ih_2 (i + 1) (by omega) (by omega) _ _ (sa_of (cpD_s v w i) hP) (sa_dn hD) hS ls (lv_sub hl [1, 2, 0] rfl)
  exact loop_2 (9) 0 (Nat.zero_le _) (by omega) _ _ (sa_of (cpD_z v w).symm hP) (sa_dn hD) hS ls (lv_sub hl [1, 2, 0] rfl)
set_option maxHeartbeats 4000000 in
set_option maxRecDepth 100000 in
theorem k_X1_record (l : Launch) (D : va_G) (ct : Nat → ClassId) (sz : Nat) (h rw : Nat) (ad : Nat → Nat → Nat) (n k : Nat) (hn : n < 5) (w : Nat → SV) (b : Nat → Nat) (v : SV) (hk : k ≤ 5) : Met l yX1_record wsX1_record ({ frames := 3, cells := 0, slots := 0, locals := 83 }) (muP D ct (hsW ct h rw ad (nI n) (nI k) w b v) sz [.ref h, .ref (b 0)]) (muV D ct (hsW ct h rw ad (nI n) (nI k) w b v) (hsW ct h rw ad (nI (nxt n)) (nI (kPush k)) (va_up w n v) b v) sz) 0 0 (va_A (hsW ct h rw ad (nI n) (nI k) w b v) sz) := by
  refine Met.ofW (cc := cX1_record) (maxL := 2) (ret := none) (by decide) rfl ?_
  intro p e s m args below meth c s₁ B hml hv
  obtain ⟨rfl, hsz, hP, hK, hN, hD0⟩ := hv
  have hx := B.exec
  have hb := B.bytes
  have hr := B.returns
  have hts := atoms_spec (ws := wsX1_record) B.pre
  have hown : s.vm.findClass RX1 = some m.cls := findClass_of_methodNamed B.named
  have hlocks := B.notSynchronized
  subst hsz
  have hD := hD0.self (sz := s.heap.size)
  generalize hAe : va_A (hsW ct h rw ad (nI n) (nI k) w b v) s.heap.size = A at hD
  have hA : ∀ q : Nat, s.heap.size ≤ q → A q := fun q h => by rw [← hAe]; exact Or.inr h
  have hS : va_S A s.heap s.heap [] := va_S.rf
  have w_1 := hts (.fieldLink RX1 11 "ScannedDigits$History" "rows" "[LScannedDigits$State;") (List.mem_of_getElem? (i := 1) rfl)
  have w_2 := hts (.fieldLink RX1 18 "ScannedDigits$History" "next" "I") (List.mem_of_getElem? (i := 2) rfl)
  have w_3 := hts (.fieldLink RX1 26 "ScannedDigits$History" "size" "I") (List.mem_of_getElem? (i := 3) rfl)
  have w_4 := hts (.methodLink RX1 29 Lib.Math.min.name) (List.mem_of_getElem? (i := 4) rfl)
  have w_5 := hts (.static Lib.Math.min.name) (List.mem_of_getElem? (i := 5) rfl)
  have w_6 := hts (.initialized "java/lang/Math") (List.mem_of_getElem? (i := 6) rfl)
  have w_7 := hts (.code Lib.Math.min.name Lib.Math.min.code 2 (some .int)) (List.mem_of_getElem? (i := 7) rfl)
  have hiX1 : ∀ w ∈ wsX10, w ∈ wsX1_record := fun w h => (goodIn_r wsX10 [45, 46, 47] (by decide +kernel) (by decide +kernel) w h).1
  have hl := lv_entry ([.ref h, .ref (b 0)]) (n := 2) (Nat.le_of_ble_eq_true rfl)
  rw [lg_entry_eq]
  generalize (lg_sl ([.ref h, .ref (b 0)]) ++ List.replicate (2 - (lg_sl ([.ref h, .ref (b 0)])).length) Slot.unset).toArray = ls at hl ⊢
  have hl : lv_has ls 2 [(0, .ref h), (1, .ref (b 0))] := hl
  refine lv_aload_n hx hb dX1_record_0 rfl (lv_at hl 0 rfl) ?_
  refine va_get (D := D) (ci := 1) (v := .ref rw) (C := RX1) (T := TX1) (N := 3) hx hb hts hiX1 hown hK hP 0 rfl rfl 0 (by decide) w_1 (fun _ h9 => h9) rfl dX1_record_1 ?_
  refine lv_aload_n hx hb dX1_record_4 rfl (lv_at hl 0 rfl) ?_
  refine va_get (D := D) (ci := 1) (v := .int (nI n)) (C := RX1) (T := TX1) (N := 3) hx hb hts hiX1 hown hK hP 0 rfl rfl 1 (by decide) w_2 (fun _ h9 => h9) rfl dX1_record_5 ?_
  refine r_aldq (v := ad n 0) hx hb hK hP 1 5 rfl rfl (k := n) (rfl) (by omega) (by decide) (rfl) dX1_record_8 ?_
  refine lv_aload_n hx hb dX1_record_9 rfl (lv_at hl 1 rfl) ?_
  have hFc_10 := w_free (wc := stW ct (ad n) (w n) ++ stW ct b v) hD (hs_perm hn) hS hA
  refine va_callv (va_runV (As := [.ref (b 0)]) (rest := []) ⟨hx, hb, hml, hown, hts⟩ (k_X3_copyFrom l D ct _ (ad n) b (w n) v) (cwV 1 hts gX1_record_X3_copyFrom rfl rfl rfl (by decide +kernel) ⟨Nat.le_of_ble_eq_true rfl, Nat.le_of_ble_eq_true rfl⟩) ⟨muP.blind, va_recv hK (pw_cut (hs_perm hn) hP) (ci := 3) (q0 := 0) rfl rfl, muP.at (pw_cut (hs_perm hn) hP) (dw_cut (hs_perm hn) hD) hK hN⟩ rfl rfl hl.1 rfl (lv_room (Nat.le_of_ble_eq_true rfl)) dX1_record_10 ⟨Nat.le_of_ble_eq_true rfl, Nat.le_of_ble_eq_true rfl⟩) hS (fun q _ h => hFc_10 q h) hFc_10 (fun uu tt H1 locs ht hvm hw hB hz1 hk1 hS => ?_)
  obtain ⟨hP, hD⟩ := muE.join (ws' := hsW ct h rw ad (nI n) (nI k) (va_up w n v) b v) hP hD (hs_perm hn) (hs_permU hn) hk1 hFc_10 ht hB
  generalize H1 = H at hP hS ⊢
  refine lv_aload_n hx hb dX1_record_13 rfl (lv_at hl 0 rfl) ?_
  refine lv_aload_n hx hb dX1_record_14 rfl (lv_at hl 0 rfl) ?_
  refine va_get (D := D) (ci := 1) (v := .int (nI n)) (C := RX1) (T := TX1) (N := 3) hx hb hts hiX1 hown hK hP 0 rfl rfl 1 (by decide) w_2 (fun _ h9 => h9) rfl dX1_record_15 ?_
  refine lv_iconst (v := 4) hx hb dX1_record_18 (by decide) ?_
  refine lv_icmp_ge (tgt := 31) hx hb dX1_record_19 (by decide) (fun c_19 => ?_) (fun c_19 => ?_)
  · have hge : 4 ≤ n := nI_le' (by decide) (by omega) c_19
    refine lv_iconst (v := 0) hx hb dX1_record_31 (by decide) ?_
    refine va_put (D := D) (ci := 1) (v := .int 0) (ty := .int) (C := RX1) (T := TX1) (N := 3) hx hb hts hiX1 tyX1 tyX1_ok nmX1 hown hK hP hD hS 0 rfl rfl 1 (by decide) w_2 (fun _ h9 => h9) rfl (by decide +kernel) rfl rfl (Nat.le_of_ble_eq_true rfl) dX1_record_32 (fun H locs hP hD hS => ?_)
    have hP : va_P D vwCl (hsW ct h rw ad (nI (nxt n)) (nI k) (va_up w n v) b v) H := by unfold nxt; rw [if_neg (by omega)]; exact hP
    have hD : va_D A (hsW ct h rw ad (nI (nxt n)) (nI k) (va_up w n v) b v) := by unfold nxt; rw [if_neg (by omega)]; exact hD
    refine lv_aload_n hx hb dX1_record_35 rfl (lv_at hl 0 rfl) ?_
    refine lv_iconst (v := 5) hx hb dX1_record_36 (by decide) ?_
    refine lv_aload_n hx hb dX1_record_37 rfl (lv_at hl 0 rfl) ?_
    refine va_get (D := D) (ci := 1) (v := .int (nI k)) (C := RX1) (T := TX1) (N := 3) hx hb hts hiX1 hown hK hP 0 rfl rfl 2 (by decide) w_3 (fun _ h9 => h9) rfl dX1_record_38 ?_
    refine lv_iconst (v := 1) hx hb dX1_record_41 (by decide) ?_
    refine lv_iadd hx hb dX1_record_42 ?_
    refine va_mmin hx hb (by rw [hml]; exact hl.1.symm) hown w_4 w_5 w_6 w_7 (Nat.le_of_ble_eq_true rfl) (Nat.le_of_ble_eq_true rfl) (Nat.le_of_ble_eq_true rfl) (Nat.le_of_ble_eq_true rfl) dX1_record_43 ?_
    refine va_put (D := D) (ci := 1) (v := .int (if ((nI k) + 1) < 5 then ((nI k) + 1) else 5)) (ty := .int) (C := RX1) (T := TX1) (N := 3) hx hb hts hiX1 tyX1 tyX1_ok nmX1 hown hK hP hD hS 0 rfl rfl 2 (by decide) w_3 (fun _ h9 => h9) rfl (by decide +kernel) rfl rfl (Nat.le_of_ble_eq_true rfl) dX1_record_46 (fun H locs hP hD hS => ?_)
    have hP : va_P D vwCl (hsW ct h rw ad (nI (nxt n)) (nI (kPush k)) (va_up w n v) b v) H := by rw [← kPush_min hk]; exact hP
    have hD : va_D A (hsW ct h rw ad (nI (nxt n)) (nI (kPush k)) (va_up w n v) b v) := by rw [← kPush_min hk]; exact hD
    have hP9 : va_P D vwCl (hsW ct h rw ad (nI (nxt n)) (nI (kPush k)) (va_up w n v) b v) _ := hP
    have hD9 : va_D A (hsW ct h rw ad (nI (nxt n)) (nI (kPush k)) (va_up w n v) b v) := hD
    subst hAe
    exact W.vret hx hb hr (fun tt ht hW => ⟨⟨(), rfl, trivial, muE.of (ct := ct) hP9 hD9 ht⟩, hS.F ht⟩) hS.2.2 dX1_record_49
  · have hlt : n < 4 := nI_nle' (by decide) (by omega) c_19
    refine lv_aload_n hx hb dX1_record_22 rfl (lv_at hl 0 rfl) ?_
    refine va_get (D := D) (ci := 1) (v := .int (nI n)) (C := RX1) (T := TX1) (N := 3) hx hb hts hiX1 hown hK hP 0 rfl rfl 1 (by decide) w_2 (fun _ h9 => h9) rfl dX1_record_23 ?_
    refine lv_iconst (v := 1) hx hb dX1_record_26 (by decide) ?_
    refine lv_iadd hx hb dX1_record_27 ?_
    refine lv_goto (tgt := 32) hx hb dX1_record_28 (by decide) ?_
    refine va_put (D := D) (ci := 1) (v := .int ((nI n) + 1)) (ty := .int) (C := RX1) (T := TX1) (N := 3) hx hb hts hiX1 tyX1 tyX1_ok nmX1 hown hK hP hD hS 0 rfl rfl 1 (by decide) w_2 (fun _ h9 => h9) rfl (by decide +kernel) rfl rfl (Nat.le_of_ble_eq_true rfl) dX1_record_32 (fun H locs hP hD hS => ?_)
    have hP : va_P D vwCl (hsW ct h rw ad (nI (nxt n)) (nI k) (va_up w n v) b v) H := by unfold nxt; rw [if_pos hlt, ← nI_1]; exact hP
    have hD : va_D A (hsW ct h rw ad (nI (nxt n)) (nI k) (va_up w n v) b v) := by unfold nxt; rw [if_pos hlt, ← nI_1]; exact hD
    refine lv_aload_n hx hb dX1_record_35 rfl (lv_at hl 0 rfl) ?_
    refine lv_iconst (v := 5) hx hb dX1_record_36 (by decide) ?_
    refine lv_aload_n hx hb dX1_record_37 rfl (lv_at hl 0 rfl) ?_
    refine va_get (D := D) (ci := 1) (v := .int (nI k)) (C := RX1) (T := TX1) (N := 3) hx hb hts hiX1 hown hK hP 0 rfl rfl 2 (by decide) w_3 (fun _ h9 => h9) rfl dX1_record_38 ?_
    refine lv_iconst (v := 1) hx hb dX1_record_41 (by decide) ?_
    refine lv_iadd hx hb dX1_record_42 ?_
    refine va_mmin hx hb (by rw [hml]; exact hl.1.symm) hown w_4 w_5 w_6 w_7 (Nat.le_of_ble_eq_true rfl) (Nat.le_of_ble_eq_true rfl) (Nat.le_of_ble_eq_true rfl) (Nat.le_of_ble_eq_true rfl) dX1_record_43 ?_
    refine va_put (D := D) (ci := 1) (v := .int (if ((nI k) + 1) < 5 then ((nI k) + 1) else 5)) (ty := .int) (C := RX1) (T := TX1) (N := 3) hx hb hts hiX1 tyX1 tyX1_ok nmX1 hown hK hP hD hS 0 rfl rfl 2 (by decide) w_3 (fun _ h9 => h9) rfl (by decide +kernel) rfl rfl (Nat.le_of_ble_eq_true rfl) dX1_record_46 (fun H locs hP hD hS => ?_)
    have hP : va_P D vwCl (hsW ct h rw ad (nI (nxt n)) (nI (kPush k)) (va_up w n v) b v) H := by rw [← kPush_min hk]; exact hP
    have hD : va_D A (hsW ct h rw ad (nI (nxt n)) (nI (kPush k)) (va_up w n v) b v) := by rw [← kPush_min hk]; exact hD
    have hP9 : va_P D vwCl (hsW ct h rw ad (nI (nxt n)) (nI (kPush k)) (va_up w n v) b v) _ := hP
    have hD9 : va_D A (hsW ct h rw ad (nI (nxt n)) (nI (kPush k)) (va_up w n v) b v) := hD
    subst hAe
    exact W.vret hx hb hr (fun tt ht hW => ⟨⟨(), rfl, trivial, muE.of (ct := ct) hP9 hD9 ht⟩, hS.F ht⟩) hS.2.2 dX1_record_49
set_option maxHeartbeats 4000000 in
set_option maxRecDepth 100000 in
theorem k_X1_takeBack (l : Launch) (D : va_G) (ct : Nat → ClassId) (sz : Nat) (h rw : Nat) (ad : Nat → Nat → Nat) (n k : Nat) (hn : n < 5) (w : Nat → SV) (b : Nat → Nat) (v : SV) (hk : k ≤ 4) : Met l yX1_takeBack wsX1_takeBack ({ frames := 3, cells := 0, slots := 0, locals := 83 }) (muP D ct (hsW ct h rw ad (nI n) (nI (k + 1)) w b v) sz [.ref h, .ref (b 0)]) (muV D ct (hsW ct h rw ad (nI n) (nI (k + 1)) w b v) (hsW ct h rw ad (nI (prv n)) (nI k) w b (w (prv n))) sz) 0 0 (va_A (hsW ct h rw ad (nI n) (nI (k + 1)) w b v) sz) := by
  refine Met.ofW (cc := cX1_takeBack) (maxL := 2) (ret := none) (by decide) rfl ?_
  intro p e s m args below meth c s₁ B hml hv
  obtain ⟨rfl, hsz, hP, hK, hN, hD0⟩ := hv
  have hx := B.exec
  have hb := B.bytes
  have hr := B.returns
  have hts := atoms_spec (ws := wsX1_takeBack) B.pre
  have hown : s.vm.findClass RX1 = some m.cls := findClass_of_methodNamed B.named
  have hlocks := B.notSynchronized
  subst hsz
  have hD := hD0.self (sz := s.heap.size)
  generalize hAe : va_A (hsW ct h rw ad (nI n) (nI (k + 1)) w b v) s.heap.size = A at hD
  have hA : ∀ q : Nat, s.heap.size ≤ q → A q := fun q h => by rw [← hAe]; exact Or.inr h
  have hS : va_S A s.heap s.heap [] := va_S.rf
  have w_1 := hts (.fieldLink RX1 18 "ScannedDigits$History" "next" "I") (List.mem_of_getElem? (i := 1) rfl)
  have w_2 := hts (.fieldLink RX1 11 "ScannedDigits$History" "rows" "[LScannedDigits$State;") (List.mem_of_getElem? (i := 2) rfl)
  have w_3 := hts (.fieldLink RX1 26 "ScannedDigits$History" "size" "I") (List.mem_of_getElem? (i := 3) rfl)
  have hiX1 : ∀ w ∈ wsX10, w ∈ wsX1_takeBack := fun w h => (goodIn_r wsX10 [41, 42, 43] (by decide +kernel) (by decide +kernel) w h).1
  have hl := lv_entry ([.ref h, .ref (b 0)]) (n := 2) (Nat.le_of_ble_eq_true rfl)
  rw [lg_entry_eq]
  generalize (lg_sl ([.ref h, .ref (b 0)]) ++ List.replicate (2 - (lg_sl ([.ref h, .ref (b 0)])).length) Slot.unset).toArray = ls at hl ⊢
  have hl : lv_has ls 2 [(0, .ref h), (1, .ref (b 0))] := hl
  refine lv_aload_n hx hb dX1_takeBack_0 rfl (lv_at hl 0 rfl) ?_
  refine lv_aload_n hx hb dX1_takeBack_1 rfl (lv_at hl 0 rfl) ?_
  refine va_get (D := D) (ci := 1) (v := .int (nI n)) (C := RX1) (T := TX1) (N := 3) hx hb hts hiX1 hown hK hP 0 rfl rfl 1 (by decide) w_1 (fun _ h9 => h9) rfl dX1_takeBack_2 ?_
  refine lv_if_le (tgt := 17) hx hb dX1_takeBack_5 (by decide) (fun c_5 => ?_) (fun c_5 => ?_)
  · have h0 : n = 0 := Nat.eq_zero_of_not_pos (fun z => nI_nle z (by omega) c_5)
    refine lv_iconst (v := 4) hx hb dX1_takeBack_17 (by decide) ?_
    refine va_put (D := D) (ci := 1) (v := .int 4) (ty := .int) (C := RX1) (T := TX1) (N := 3) hx hb hts hiX1 tyX1 tyX1_ok nmX1 hown hK hP hD hS 0 rfl rfl 1 (by decide) w_1 (fun _ h9 => h9) rfl (by decide +kernel) rfl rfl (Nat.le_of_ble_eq_true rfl) dX1_takeBack_18 (fun H locs hP hD hS => ?_)
    have hP : va_P D vwCl (hsW ct h rw ad (nI (prv n)) (nI (k + 1)) w b v) H := by unfold prv; rw [if_neg (by omega)]; exact hP
    have hD : va_D A (hsW ct h rw ad (nI (prv n)) (nI (k + 1)) w b v) := by unfold prv; rw [if_neg (by omega)]; exact hD
    refine lv_aload_n hx hb dX1_takeBack_21 rfl (lv_at hl 1 rfl) ?_
    refine lv_aload_n hx hb dX1_takeBack_22 rfl (lv_at hl 0 rfl) ?_
    refine va_get (D := D) (ci := 1) (v := .ref rw) (C := RX1) (T := TX1) (N := 3) hx hb hts hiX1 hown hK hP 0 rfl rfl 0 (by decide) w_2 (fun _ h9 => h9) rfl dX1_takeBack_23 ?_
    refine lv_aload_n hx hb dX1_takeBack_26 rfl (lv_at hl 0 rfl) ?_
    refine va_get (D := D) (ci := 1) (v := .int (nI (prv n))) (C := RX1) (T := TX1) (N := 3) hx hb hts hiX1 hown hK hP 0 rfl rfl 1 (by decide) w_1 (fun _ h9 => h9) rfl dX1_takeBack_27 ?_
    refine r_aldq (v := ad (prv n) 0) hx hb hK hP 1 5 rfl rfl (k := (prv n)) (rfl) (prv_lt hn) (by decide) (rfl) dX1_takeBack_30 ?_
    have hFc_31 := w_free (wc := stW ct b v ++ stW ct (ad (prv n)) (w (prv n))) hD (hs_perm5 (prv_lt hn)) hS hA
    refine va_callv (va_runV (As := [.ref (ad (prv n) 0)]) (rest := []) ⟨hx, hb, hml, hown, hts⟩ (k_X3_copyFrom l D ct _ b (ad (prv n)) v (w (prv n))) (cwV 1 hts gX1_takeBack_X3_copyFrom rfl rfl rfl (by decide +kernel) ⟨Nat.le_of_ble_eq_true rfl, Nat.le_of_ble_eq_true rfl⟩) ⟨muP.blind, va_recv hK (pw_cut (hs_perm5 (prv_lt hn)) hP) (ci := 3) (q0 := 0) rfl rfl, muP.at (pw_cut (hs_perm5 (prv_lt hn)) hP) (dw_cut (hs_perm5 (prv_lt hn)) hD) hK hN⟩ rfl rfl hl.1 rfl (lv_room (Nat.le_of_ble_eq_true rfl)) dX1_takeBack_31 ⟨Nat.le_of_ble_eq_true rfl, Nat.le_of_ble_eq_true rfl⟩) hS (fun q _ h => hFc_31 q h) hFc_31 (fun uu tt H1 locs ht hvm hw hB hz1 hk1 hS => ?_)
    obtain ⟨hP, hD⟩ := muE.join (ws' := hsW ct h rw ad (nI (prv n)) (nI (k + 1)) w b (w (prv n))) hP hD (hs_perm5 (prv_lt hn)) (hs_perm5 (prv_lt hn)) hk1 hFc_31 ht hB
    generalize H1 = H at hP hS ⊢
    refine lv_aload_n hx hb dX1_takeBack_34 rfl (lv_at hl 0 rfl) ?_
    refine lv_dup hx hb dX1_takeBack_35 rfl ?_
    refine va_get (D := D) (ci := 1) (v := .int (nI (k + 1))) (C := RX1) (T := TX1) (N := 3) hx hb hts hiX1 hown hK hP 0 rfl rfl 2 (by decide) w_3 (fun _ h9 => h9) rfl dX1_takeBack_36 ?_
    refine lv_iconst (v := 1) hx hb dX1_takeBack_39 (by decide) ?_
    refine lv_isub hx hb dX1_takeBack_40 ?_
    refine va_put (D := D) (ci := 1) (v := .int ((nI (k + 1)) - 1)) (ty := .int) (C := RX1) (T := TX1) (N := 3) hx hb hts hiX1 tyX1 tyX1_ok nmX1 hown hK hP hD hS 0 rfl rfl 2 (by decide) w_3 (fun _ h9 => h9) rfl (by decide +kernel) rfl rfl (Nat.le_of_ble_eq_true rfl) dX1_takeBack_41 (fun H locs hP hD hS => ?_)
    have hP : va_P D vwCl (hsW ct h rw ad (nI (prv n)) (nI k) w b (w (prv n))) H := by rw [← nI_pred k]; exact hP
    have hD : va_D A (hsW ct h rw ad (nI (prv n)) (nI k) w b (w (prv n))) := by rw [← nI_pred k]; exact hD
    have hP9 : va_P D vwCl (hsW ct h rw ad (nI (prv n)) (nI k) w b (w (prv n))) _ := hP
    have hD9 : va_D A (hsW ct h rw ad (nI (prv n)) (nI k) w b (w (prv n))) := hD
    subst hAe
    exact W.vret hx hb hr (fun tt ht hW => ⟨⟨(), rfl, trivial, muE.of (ct := ct) hP9 hD9 ht⟩, hS.F ht⟩) hS.2.2 dX1_takeBack_44
  · have h0 : 0 < n := Nat.pos_of_ne_zero (fun z => c_5 (by rw [z]; decide))
    refine lv_aload_n hx hb dX1_takeBack_8 rfl (lv_at hl 0 rfl) ?_
    refine va_get (D := D) (ci := 1) (v := .int (nI n)) (C := RX1) (T := TX1) (N := 3) hx hb hts hiX1 hown hK hP 0 rfl rfl 1 (by decide) w_1 (fun _ h9 => h9) rfl dX1_takeBack_9 ?_
    refine lv_iconst (v := 1) hx hb dX1_takeBack_12 (by decide) ?_
    refine lv_isub hx hb dX1_takeBack_13 ?_
    refine lv_goto (tgt := 18) hx hb dX1_takeBack_14 (by decide) ?_
    refine va_put (D := D) (ci := 1) (v := .int ((nI n) - 1)) (ty := .int) (C := RX1) (T := TX1) (N := 3) hx hb hts hiX1 tyX1 tyX1_ok nmX1 hown hK hP hD hS 0 rfl rfl 1 (by decide) w_1 (fun _ h9 => h9) rfl (by decide +kernel) rfl rfl (Nat.le_of_ble_eq_true rfl) dX1_takeBack_18 (fun H locs hP hD hS => ?_)
    have hP : va_P D vwCl (hsW ct h rw ad (nI (prv n)) (nI (k + 1)) w b v) H := by unfold prv; rw [if_pos h0, ← nI_dec h0]; exact hP
    have hD : va_D A (hsW ct h rw ad (nI (prv n)) (nI (k + 1)) w b v) := by unfold prv; rw [if_pos h0, ← nI_dec h0]; exact hD
    refine lv_aload_n hx hb dX1_takeBack_21 rfl (lv_at hl 1 rfl) ?_
    refine lv_aload_n hx hb dX1_takeBack_22 rfl (lv_at hl 0 rfl) ?_
    refine va_get (D := D) (ci := 1) (v := .ref rw) (C := RX1) (T := TX1) (N := 3) hx hb hts hiX1 hown hK hP 0 rfl rfl 0 (by decide) w_2 (fun _ h9 => h9) rfl dX1_takeBack_23 ?_
    refine lv_aload_n hx hb dX1_takeBack_26 rfl (lv_at hl 0 rfl) ?_
    refine va_get (D := D) (ci := 1) (v := .int (nI (prv n))) (C := RX1) (T := TX1) (N := 3) hx hb hts hiX1 hown hK hP 0 rfl rfl 1 (by decide) w_1 (fun _ h9 => h9) rfl dX1_takeBack_27 ?_
    refine r_aldq (v := ad (prv n) 0) hx hb hK hP 1 5 rfl rfl (k := (prv n)) (rfl) (prv_lt hn) (by decide) (rfl) dX1_takeBack_30 ?_
    have hFc_31 := w_free (wc := stW ct b v ++ stW ct (ad (prv n)) (w (prv n))) hD (hs_perm5 (prv_lt hn)) hS hA
    refine va_callv (va_runV (As := [.ref (ad (prv n) 0)]) (rest := []) ⟨hx, hb, hml, hown, hts⟩ (k_X3_copyFrom l D ct _ b (ad (prv n)) v (w (prv n))) (cwV 1 hts gX1_takeBack_X3_copyFrom rfl rfl rfl (by decide +kernel) ⟨Nat.le_of_ble_eq_true rfl, Nat.le_of_ble_eq_true rfl⟩) ⟨muP.blind, va_recv hK (pw_cut (hs_perm5 (prv_lt hn)) hP) (ci := 3) (q0 := 0) rfl rfl, muP.at (pw_cut (hs_perm5 (prv_lt hn)) hP) (dw_cut (hs_perm5 (prv_lt hn)) hD) hK hN⟩ rfl rfl hl.1 rfl (lv_room (Nat.le_of_ble_eq_true rfl)) dX1_takeBack_31 ⟨Nat.le_of_ble_eq_true rfl, Nat.le_of_ble_eq_true rfl⟩) hS (fun q _ h => hFc_31 q h) hFc_31 (fun uu tt H1 locs ht hvm hw hB hz1 hk1 hS => ?_)
    obtain ⟨hP, hD⟩ := muE.join (ws' := hsW ct h rw ad (nI (prv n)) (nI (k + 1)) w b (w (prv n))) hP hD (hs_perm5 (prv_lt hn)) (hs_perm5 (prv_lt hn)) hk1 hFc_31 ht hB
    generalize H1 = H at hP hS ⊢
    refine lv_aload_n hx hb dX1_takeBack_34 rfl (lv_at hl 0 rfl) ?_
    refine lv_dup hx hb dX1_takeBack_35 rfl ?_
    refine va_get (D := D) (ci := 1) (v := .int (nI (k + 1))) (C := RX1) (T := TX1) (N := 3) hx hb hts hiX1 hown hK hP 0 rfl rfl 2 (by decide) w_3 (fun _ h9 => h9) rfl dX1_takeBack_36 ?_
    refine lv_iconst (v := 1) hx hb dX1_takeBack_39 (by decide) ?_
    refine lv_isub hx hb dX1_takeBack_40 ?_
    refine va_put (D := D) (ci := 1) (v := .int ((nI (k + 1)) - 1)) (ty := .int) (C := RX1) (T := TX1) (N := 3) hx hb hts hiX1 tyX1 tyX1_ok nmX1 hown hK hP hD hS 0 rfl rfl 2 (by decide) w_3 (fun _ h9 => h9) rfl (by decide +kernel) rfl rfl (Nat.le_of_ble_eq_true rfl) dX1_takeBack_41 (fun H locs hP hD hS => ?_)
    have hP : va_P D vwCl (hsW ct h rw ad (nI (prv n)) (nI k) w b (w (prv n))) H := by rw [← nI_pred k]; exact hP
    have hD : va_D A (hsW ct h rw ad (nI (prv n)) (nI k) w b (w (prv n))) := by rw [← nI_pred k]; exact hD
    have hP9 : va_P D vwCl (hsW ct h rw ad (nI (prv n)) (nI k) w b (w (prv n))) _ := hP
    have hD9 : va_D A (hsW ct h rw ad (nI (prv n)) (nI k) w b (w (prv n))) := hD
    subst hAe
    exact W.vret hx hb hr (fun tt ht hW => ⟨⟨(), rfl, trivial, muE.of (ct := ct) hP9 hD9 ht⟩, hS.F ht⟩) hS.2.2 dX1_takeBack_44
