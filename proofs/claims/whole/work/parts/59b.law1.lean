/-! the law: a case each -/
set_option maxHeartbeats 400000 in
set_option maxRecDepth 100000 in
theorem lc_test {p : Program} {e : Env} {s : State} {m : MethodId} {below : List Frame} {meth : Method} {c : Code} (l : Launch) {D : va_G} {ct : Nat → ClassId} {o : Nat → Nat} {ad : Nat → Nat → Nat} {a : Nat → Nat} {b L : Nat} {xs : Nat → Int32} (C : LC p s m meth c b L xs D ct) {i cnt : Nat} (hi : i + 4 ≤ L) (hc : cnt < 512) {H : Heap} {locs : List Loc} (hI : LI s D ct o ad a cnt H locs) {ls : Array Slot} (hl : lv_has ls 8 [(0, .ref b), (1, .ref (o 0)), (2, .ref (a 0)), (3, .int (nI i))])
    (K : ∀ (H : Heap) (locs : List Loc), LI s D ct o ad a (cnt + 1) H locs → ∀ ls : Array Slot, lv_has ls 8 [(0, .ref b), (1, .ref (o 0)), (2, .ref (a 0)), (3, .int (nI i))] → W p l e room_1 s m #[Value.ref b] below meth c H locs 600000 7302250 (lw_Z below #[Value.ref b] s) (F0 m 939 ls [])) : W p l e room_1 s m #[Value.ref b] below meth c H locs 600000 7302250 (lw_Z below #[Value.ref b] s) (F0 m 443 ls []) := by
  obtain ⟨hx, hb, hml, hown, hts, hX, hbl, hK, hN, hZ, hr, hlk, hL⟩ := C
  obtain ⟨A, B, W1, W2, hA1, hB2, hsim, okA, okB, hP, hD, hS⟩ := hI
  have hbA : ¬ s.heap.size ≤ b := Nat.not_le.mpr hbl
  have hA : ∀ q : Nat, s.heap.size ≤ q → (fun q : Nat => s.heap.size ≤ q) q := fun _ h => h
  refine lv_aload_n hx hb dL_law_443 rfl (lv_at hl 1 rfl) ?_
  refine lv_aload_n hx hb dL_law_444 rfl (lv_at hl 0 rfl) ?_
  refine lv_iload_n hx hb dL_law_445 rfl (lv_at hl 3 rfl) ?_
  refine lv_iconst (v := 1) hx hb dL_law_446 (by decide) ?_
  refine lv_iadd hx hb dL_law_447 ?_
  refine lv_as (y := nI (i + 1)) (nI_add i 1) ?_
  refine va_sld hx hb hX hbl hbA hS (r_in (k := i + 1) rfl (by omega) (by omega)) dL_law_448 ?_
  refine lv_as (y := xs (i + 1)) (by rw [nI_clamp (by omega)]) ?_
  have hF1 := w_free (wc := W1) hD (List.Perm.refl _) hS hA
  refine va_calli (va_runV (As := [.int (xs (i + 1))]) (rest := []) ⟨hx, hb, hml, hown, hts⟩ (cx_test l D ct _ o ad hA1 okA (by omega) (xs (i + 1))) (cwV 1 hts gL_law_X5_test rfl rfl rfl (by decide +kernel) ⟨Nat.le_of_ble_eq_true rfl, Nat.le_of_ble_eq_true rfl⟩) ⟨muPS.blind, cx_recv hK hP hA1, muPS.at hZ hS hF1 (pw_left hP) (dw_left hD) hK hN⟩ rfl rfl hl.1 rfl (lv_room (Nat.le_of_ble_eq_true rfl)) dL_law_449 ⟨Nat.le_of_ble_eq_true rfl, Nat.le_of_ble_eq_true rfl⟩) hS (fun q _ h => hF1 q h) hF1 (fun r1 V1 tt H1 locs1 ht hvm hr1 hB1 hz1 hk1 hS => ?_)
  obtain ⟨hP, hD⟩ := muE.join (ws' := V1 ++ W2) hP hD (List.Perm.refl _) (List.Perm.refl _) hk1 hF1 ht hB1
  refine lv_aload_n hx hb dL_law_452 rfl (lv_at hl 2 rfl) ?_
  refine lv_aload_n hx hb dL_law_453 rfl (lv_at hl 0 rfl) ?_
  refine lv_iload_n hx hb dL_law_454 rfl (lv_at hl 3 rfl) ?_
  refine lv_iconst (v := 1) hx hb dL_law_455 (by decide) ?_
  refine lv_iadd hx hb dL_law_456 ?_
  refine lv_as (y := nI (i + 1)) (nI_add i 1) ?_
  refine va_sld hx hb hX hbl hbA hS (r_in (k := i + 1) rfl (by omega) (by omega)) dL_law_457 ?_
  refine lv_as (y := xs (i + 1)) (by rw [nI_clamp (by omega)]) ?_
  have hF2 := w_free (wc := W2) hD List.perm_append_comm hS hA
  refine va_calli (va_runV (As := [.int (xs (i + 1))]) (rest := [.int r1]) ⟨hx, hb, hml, hown, hts⟩ (mx_test l D ct _ a hB2 okB (by omega) (xs (i + 1))) (cwV 1 hts gL_law_X6_test rfl rfl rfl (by decide +kernel) ⟨Nat.le_of_ble_eq_true rfl, Nat.le_of_ble_eq_true rfl⟩) ⟨muP.blind, mx_recv hK hP hB2, muP.at (pw_right hP) (dw_right hD) hK hN⟩ rfl rfl hl.1 rfl (lv_room (Nat.le_of_ble_eq_true rfl)) dL_law_458 ⟨Nat.le_of_ble_eq_true rfl, Nat.le_of_ble_eq_true rfl⟩) hS (fun q _ h => hF2 q h) hF2 (fun r2 V2 tt H1 locs1 ht hvm hr2 hB2 hz1 hk1 hS => ?_)
  obtain ⟨hP, hD⟩ := muE.join (ws' := V1 ++ V2) hP hD List.perm_append_comm List.perm_append_comm hk1 hF2 ht hB2
  have hs9 := s_test (x := xs (i + 1)) hsim okA
  have oA := o_test (x := xs (i + 1)) okA
  have oB := o_test (x := xs (i + 1)) okB
  refine lv_icmp_eq (tgt := 939) hx hb dL_law_461 (by decide) (fun _ => ?_) (fun c9 => ?_)
  · exact K _ _ ⟨_, _, V1, V2, hr1.2, hr2.2, hs9.2, oA.mono (by omega), oB.mono (by omega), hP, hD, hS⟩ ls hl
  · exact absurd (hr1.1.trans (hs9.1.trans hr2.1.symm)) c9

set_option maxHeartbeats 400000 in
set_option maxRecDepth 100000 in
theorem lc_pass {p : Program} {e : Env} {s : State} {m : MethodId} {below : List Frame} {meth : Method} {c : Code} (l : Launch) {D : va_G} {ct : Nat → ClassId} {o : Nat → Nat} {ad : Nat → Nat → Nat} {a : Nat → Nat} {b L : Nat} {xs : Nat → Int32} (C : LC p s m meth c b L xs D ct) {i cnt : Nat} (hi : i + 4 ≤ L) (hc : cnt < 512) {H : Heap} {locs : List Loc} (hI : LI s D ct o ad a cnt H locs) {ls : Array Slot} (hl : lv_has ls 8 [(0, .ref b), (1, .ref (o 0)), (2, .ref (a 0)), (3, .int (nI i))])
    (K : ∀ (H : Heap) (locs : List Loc), LI s D ct o ad a (cnt + 1) H locs → ∀ ls : Array Slot, lv_has ls 8 [(0, .ref b), (1, .ref (o 0)), (2, .ref (a 0)), (3, .int (nI i))] → W p l e room_1 s m #[Value.ref b] below meth c H locs 600000 7302250 (lw_Z below #[Value.ref b] s) (F0 m 939 ls [])) : W p l e room_1 s m #[Value.ref b] below meth c H locs 600000 7302250 (lw_Z below #[Value.ref b] s) (F0 m 466 ls []) := by
  obtain ⟨hx, hb, hml, hown, hts, hX, hbl, hK, hN, hZ, hr, hlk, hL⟩ := C
  obtain ⟨A, B, W1, W2, hA1, hB2, hsim, okA, okB, hP, hD, hS⟩ := hI
  have hbA : ¬ s.heap.size ≤ b := Nat.not_le.mpr hbl
  have hA : ∀ q : Nat, s.heap.size ≤ q → (fun q : Nat => s.heap.size ≤ q) q := fun _ h => h
  refine lv_aload_n hx hb dL_law_466 rfl (lv_at hl 1 rfl) ?_
  refine lv_aload_n hx hb dL_law_467 rfl (lv_at hl 0 rfl) ?_
  refine lv_iload_n hx hb dL_law_468 rfl (lv_at hl 3 rfl) ?_
  refine lv_iconst (v := 1) hx hb dL_law_469 (by decide) ?_
  refine lv_iadd hx hb dL_law_470 ?_
  refine lv_as (y := nI (i + 1)) (nI_add i 1) ?_
  refine va_sld hx hb hX hbl hbA hS (r_in (k := i + 1) rfl (by omega) (by omega)) dL_law_471 ?_
  refine lv_as (y := xs (i + 1)) (by rw [nI_clamp (by omega)]) ?_
  have hF1 := w_free (wc := W1) hD (List.Perm.refl _) hS hA
  refine va_calli (va_runV (As := [.int (xs (i + 1))]) (rest := []) ⟨hx, hb, hml, hown, hts⟩ (cx_pass l D ct _ o ad hA1 okA (by omega) (xs (i + 1))) (cwV 1 hts gL_law_X5_pass rfl rfl rfl (by decide +kernel) ⟨Nat.le_of_ble_eq_true rfl, Nat.le_of_ble_eq_true rfl⟩) ⟨muPS.blind, cx_recv hK hP hA1, muPS.at hZ hS hF1 (pw_left hP) (dw_left hD) hK hN⟩ rfl rfl hl.1 rfl (lv_room (Nat.le_of_ble_eq_true rfl)) dL_law_472 ⟨Nat.le_of_ble_eq_true rfl, Nat.le_of_ble_eq_true rfl⟩) hS (fun q _ h => hF1 q h) hF1 (fun r1 V1 tt H1 locs1 ht hvm hr1 hB1 hz1 hk1 hS => ?_)
  obtain ⟨hP, hD⟩ := muE.join (ws' := V1 ++ W2) hP hD (List.Perm.refl _) (List.Perm.refl _) hk1 hF1 ht hB1
  refine lv_aload_n hx hb dL_law_475 rfl (lv_at hl 2 rfl) ?_
  refine lv_aload_n hx hb dL_law_476 rfl (lv_at hl 0 rfl) ?_
  refine lv_iload_n hx hb dL_law_477 rfl (lv_at hl 3 rfl) ?_
  refine lv_iconst (v := 1) hx hb dL_law_478 (by decide) ?_
  refine lv_iadd hx hb dL_law_479 ?_
  refine lv_as (y := nI (i + 1)) (nI_add i 1) ?_
  refine va_sld hx hb hX hbl hbA hS (r_in (k := i + 1) rfl (by omega) (by omega)) dL_law_480 ?_
  refine lv_as (y := xs (i + 1)) (by rw [nI_clamp (by omega)]) ?_
  have hF2 := w_free (wc := W2) hD List.perm_append_comm hS hA
  refine va_calli (va_runV (As := [.int (xs (i + 1))]) (rest := [.int r1]) ⟨hx, hb, hml, hown, hts⟩ (mx_pass l D ct _ a hB2 okB (by omega) (xs (i + 1))) (cwV 1 hts gL_law_X6_pass rfl rfl rfl (by decide +kernel) ⟨Nat.le_of_ble_eq_true rfl, Nat.le_of_ble_eq_true rfl⟩) ⟨muP.blind, mx_recv hK hP hB2, muP.at (pw_right hP) (dw_right hD) hK hN⟩ rfl rfl hl.1 rfl (lv_room (Nat.le_of_ble_eq_true rfl)) dL_law_481 ⟨Nat.le_of_ble_eq_true rfl, Nat.le_of_ble_eq_true rfl⟩) hS (fun q _ h => hF2 q h) hF2 (fun r2 V2 tt H1 locs1 ht hvm hr2 hB2 hz1 hk1 hS => ?_)
  obtain ⟨hP, hD⟩ := muE.join (ws' := V1 ++ V2) hP hD List.perm_append_comm List.perm_append_comm hk1 hF2 ht hB2
  have hs9 := s_pass (x := xs (i + 1)) hsim okA
  have oA := o_pass (x := xs (i + 1)) okA
  have oB := o_pass (x := xs (i + 1)) okB
  refine lv_icmp_eq (tgt := 939) hx hb dL_law_484 (by decide) (fun _ => ?_) (fun c9 => ?_)
  · exact K _ _ ⟨_, _, V1, V2, hr1.2, hr2.2, hs9.2, oA.mono (by omega), oB.mono (by omega), hP, hD, hS⟩ ls hl
  · exact absurd (hr1.1.trans (hs9.1.trans hr2.1.symm)) c9

set_option maxHeartbeats 400000 in
set_option maxRecDepth 100000 in
theorem lc_passFrames {p : Program} {e : Env} {s : State} {m : MethodId} {below : List Frame} {meth : Method} {c : Code} (l : Launch) {D : va_G} {ct : Nat → ClassId} {o : Nat → Nat} {ad : Nat → Nat → Nat} {a : Nat → Nat} {b L : Nat} {xs : Nat → Int32} (C : LC p s m meth c b L xs D ct) {i cnt : Nat} (hi : i + 4 ≤ L) (hc : cnt < 512) {H : Heap} {locs : List Loc} (hI : LI s D ct o ad a cnt H locs) {ls : Array Slot} (hl : lv_has ls 8 [(0, .ref b), (1, .ref (o 0)), (2, .ref (a 0)), (3, .int (nI i))])
    (K : ∀ (H : Heap) (locs : List Loc), LI s D ct o ad a (cnt + 1) H locs → ∀ ls : Array Slot, lv_has ls 8 [(0, .ref b), (1, .ref (o 0)), (2, .ref (a 0)), (3, .int (nI i))] → W p l e room_1 s m #[Value.ref b] below meth c H locs 600000 7302250 (lw_Z below #[Value.ref b] s) (F0 m 939 ls [])) : W p l e room_1 s m #[Value.ref b] below meth c H locs 600000 7302250 (lw_Z below #[Value.ref b] s) (F0 m 489 ls []) := by
  obtain ⟨hx, hb, hml, hown, hts, hX, hbl, hK, hN, hZ, hr, hlk, hL⟩ := C
  obtain ⟨A, B, W1, W2, hA1, hB2, hsim, okA, okB, hP, hD, hS⟩ := hI
  have hbA : ¬ s.heap.size ≤ b := Nat.not_le.mpr hbl
  have hA : ∀ q : Nat, s.heap.size ≤ q → (fun q : Nat => s.heap.size ≤ q) q := fun _ h => h
  refine lv_aload_n hx hb dL_law_489 rfl (lv_at hl 1 rfl) ?_
  refine lv_aload_n hx hb dL_law_490 rfl (lv_at hl 0 rfl) ?_
  refine lv_iload_n hx hb dL_law_491 rfl (lv_at hl 3 rfl) ?_
  refine lv_iconst (v := 1) hx hb dL_law_492 (by decide) ?_
  refine lv_iadd hx hb dL_law_493 ?_
  refine lv_as (y := nI (i + 1)) (nI_add i 1) ?_
  refine va_sld hx hb hX hbl hbA hS (r_in (k := i + 1) rfl (by omega) (by omega)) dL_law_494 ?_
  refine lv_as (y := xs (i + 1)) (by rw [nI_clamp (by omega)]) ?_
  have hF1 := w_free (wc := W1) hD (List.Perm.refl _) hS hA
  refine va_calli (va_runV (As := [.int (xs (i + 1))]) (rest := []) ⟨hx, hb, hml, hown, hts⟩ (cx_passFrames l D ct _ o ad hA1 okA (by omega) (xs (i + 1))) (cwV 1 hts gL_law_X5_passFrames rfl rfl rfl (by decide +kernel) ⟨Nat.le_of_ble_eq_true rfl, Nat.le_of_ble_eq_true rfl⟩) ⟨muPS.blind, cx_recv hK hP hA1, muPS.at hZ hS hF1 (pw_left hP) (dw_left hD) hK hN⟩ rfl rfl hl.1 rfl (lv_room (Nat.le_of_ble_eq_true rfl)) dL_law_495 ⟨Nat.le_of_ble_eq_true rfl, Nat.le_of_ble_eq_true rfl⟩) hS (fun q _ h => hF1 q h) hF1 (fun r1 V1 tt H1 locs1 ht hvm hr1 hB1 hz1 hk1 hS => ?_)
  obtain ⟨hP, hD⟩ := muE.join (ws' := V1 ++ W2) hP hD (List.Perm.refl _) (List.Perm.refl _) hk1 hF1 ht hB1
  refine lv_aload_n hx hb dL_law_498 rfl (lv_at hl 2 rfl) ?_
  refine lv_aload_n hx hb dL_law_499 rfl (lv_at hl 0 rfl) ?_
  refine lv_iload_n hx hb dL_law_500 rfl (lv_at hl 3 rfl) ?_
  refine lv_iconst (v := 1) hx hb dL_law_501 (by decide) ?_
  refine lv_iadd hx hb dL_law_502 ?_
  refine lv_as (y := nI (i + 1)) (nI_add i 1) ?_
  refine va_sld hx hb hX hbl hbA hS (r_in (k := i + 1) rfl (by omega) (by omega)) dL_law_503 ?_
  refine lv_as (y := xs (i + 1)) (by rw [nI_clamp (by omega)]) ?_
  have hF2 := w_free (wc := W2) hD List.perm_append_comm hS hA
  refine va_calli (va_runV (As := [.int (xs (i + 1))]) (rest := [.int r1]) ⟨hx, hb, hml, hown, hts⟩ (mx_passFrames l D ct _ a hB2 okB (by omega) (xs (i + 1))) (cwV 1 hts gL_law_X6_passFrames rfl rfl rfl (by decide +kernel) ⟨Nat.le_of_ble_eq_true rfl, Nat.le_of_ble_eq_true rfl⟩) ⟨muP.blind, mx_recv hK hP hB2, muP.at (pw_right hP) (dw_right hD) hK hN⟩ rfl rfl hl.1 rfl (lv_room (Nat.le_of_ble_eq_true rfl)) dL_law_504 ⟨Nat.le_of_ble_eq_true rfl, Nat.le_of_ble_eq_true rfl⟩) hS (fun q _ h => hF2 q h) hF2 (fun r2 V2 tt H1 locs1 ht hvm hr2 hB2 hz1 hk1 hS => ?_)
  obtain ⟨hP, hD⟩ := muE.join (ws' := V1 ++ V2) hP hD List.perm_append_comm List.perm_append_comm hk1 hF2 ht hB2
  have hs9 := s_passFrames (x := xs (i + 1)) hsim okA
  have oA := o_passFrames (x := xs (i + 1)) okA
  have oB := o_passFrames (x := xs (i + 1)) okB
  refine lv_icmp_eq (tgt := 939) hx hb dL_law_507 (by decide) (fun _ => ?_) (fun c9 => ?_)
  · exact K _ _ ⟨_, _, V1, V2, hr1.2, hr2.2, hs9.2, oA.mono (by omega), oB.mono (by omega), hP, hD, hS⟩ ls hl
  · exact absurd (hr1.1.trans (hs9.1.trans hr2.1.symm)) c9

set_option maxHeartbeats 400000 in
set_option maxRecDepth 100000 in
theorem lc_type {p : Program} {e : Env} {s : State} {m : MethodId} {below : List Frame} {meth : Method} {c : Code} (l : Launch) {D : va_G} {ct : Nat → ClassId} {o : Nat → Nat} {ad : Nat → Nat → Nat} {a : Nat → Nat} {b L : Nat} {xs : Nat → Int32} (C : LC p s m meth c b L xs D ct) {i cnt : Nat} (hi : i + 4 ≤ L) (hc : cnt < 512) {H : Heap} {locs : List Loc} (hI : LI s D ct o ad a cnt H locs) {ls : Array Slot} (hl : lv_has ls 8 [(0, .ref b), (1, .ref (o 0)), (2, .ref (a 0)), (3, .int (nI i))])
    (K : ∀ (H : Heap) (locs : List Loc), LI s D ct o ad a (cnt + 1) H locs → ∀ ls : Array Slot, lv_has ls 8 [(0, .ref b), (1, .ref (o 0)), (2, .ref (a 0)), (3, .int (nI i))] → W p l e room_1 s m #[Value.ref b] below meth c H locs 600000 7302250 (lw_Z below #[Value.ref b] s) (F0 m 939 ls [])) : W p l e room_1 s m #[Value.ref b] below meth c H locs 600000 7302250 (lw_Z below #[Value.ref b] s) (F0 m 512 ls []) := by
  obtain ⟨hx, hb, hml, hown, hts, hX, hbl, hK, hN, hZ, hr, hlk, hL⟩ := C
  obtain ⟨A, B, W1, W2, hA1, hB2, hsim, okA, okB, hP, hD, hS⟩ := hI
  have hbA : ¬ s.heap.size ≤ b := Nat.not_le.mpr hbl
  have hA : ∀ q : Nat, s.heap.size ≤ q → (fun q : Nat => s.heap.size ≤ q) q := fun _ h => h
  refine lv_aload_n hx hb dL_law_512 rfl (lv_at hl 1 rfl) ?_
  refine lv_aload_n hx hb dL_law_513 rfl (lv_at hl 0 rfl) ?_
  refine lv_iload_n hx hb dL_law_514 rfl (lv_at hl 3 rfl) ?_
  refine lv_iconst (v := 1) hx hb dL_law_515 (by decide) ?_
  refine lv_iadd hx hb dL_law_516 ?_
  refine lv_as (y := nI (i + 1)) (nI_add i 1) ?_
  refine va_sld hx hb hX hbl hbA hS (r_in (k := i + 1) rfl (by omega) (by omega)) dL_law_517 ?_
  refine lv_as (y := xs (i + 1)) (by rw [nI_clamp (by omega)]) ?_
  refine lv_i2c (v := ((xs (i + 1)).toUInt32 % 65536).toInt32) hx hb dL_law_518 rfl ?_
  have hF1 := w_free (wc := W1) hD (List.Perm.refl _) hS hA
  refine va_calli (va_runV (As := [.int (((xs (i + 1)).toUInt32 % 65536).toInt32)]) (rest := []) ⟨hx, hb, hml, hown, hts⟩ (cx_type l D ct _ o ad hA1 okA (by omega) (((xs (i + 1)).toUInt32 % 65536).toInt32) (c16 _)) (cwV 1 hts gL_law_X5_type rfl rfl rfl (by decide +kernel) ⟨Nat.le_of_ble_eq_true rfl, Nat.le_of_ble_eq_true rfl⟩) ⟨muPS.blind, cx_recv hK hP hA1, muPS.at hZ hS hF1 (pw_left hP) (dw_left hD) hK hN⟩ rfl rfl hl.1 rfl (lv_room (Nat.le_of_ble_eq_true rfl)) dL_law_519 ⟨Nat.le_of_ble_eq_true rfl, Nat.le_of_ble_eq_true rfl⟩) hS (fun q _ h => hF1 q h) hF1 (fun r1 V1 tt H1 locs1 ht hvm hr1 hB1 hz1 hk1 hS => ?_)
  obtain ⟨hP, hD⟩ := muE.join (ws' := V1 ++ W2) hP hD (List.Perm.refl _) (List.Perm.refl _) hk1 hF1 ht hB1
  refine lv_aload_n hx hb dL_law_522 rfl (lv_at hl 2 rfl) ?_
  refine lv_aload_n hx hb dL_law_523 rfl (lv_at hl 0 rfl) ?_
  refine lv_iload_n hx hb dL_law_524 rfl (lv_at hl 3 rfl) ?_
  refine lv_iconst (v := 1) hx hb dL_law_525 (by decide) ?_
  refine lv_iadd hx hb dL_law_526 ?_
  refine lv_as (y := nI (i + 1)) (nI_add i 1) ?_
  refine va_sld hx hb hX hbl hbA hS (r_in (k := i + 1) rfl (by omega) (by omega)) dL_law_527 ?_
  refine lv_as (y := xs (i + 1)) (by rw [nI_clamp (by omega)]) ?_
  refine lv_i2c (v := ((xs (i + 1)).toUInt32 % 65536).toInt32) hx hb dL_law_528 rfl ?_
  have hF2 := w_free (wc := W2) hD List.perm_append_comm hS hA
  refine va_calli (va_runV (As := [.int (((xs (i + 1)).toUInt32 % 65536).toInt32)]) (rest := [.int r1]) ⟨hx, hb, hml, hown, hts⟩ (mx_type l D ct _ a hB2 okB (by omega) (((xs (i + 1)).toUInt32 % 65536).toInt32) (c16 _)) (cwV 1 hts gL_law_X6_type rfl rfl rfl (by decide +kernel) ⟨Nat.le_of_ble_eq_true rfl, Nat.le_of_ble_eq_true rfl⟩) ⟨muP.blind, mx_recv hK hP hB2, muP.at (pw_right hP) (dw_right hD) hK hN⟩ rfl rfl hl.1 rfl (lv_room (Nat.le_of_ble_eq_true rfl)) dL_law_529 ⟨Nat.le_of_ble_eq_true rfl, Nat.le_of_ble_eq_true rfl⟩) hS (fun q _ h => hF2 q h) hF2 (fun r2 V2 tt H1 locs1 ht hvm hr2 hB2 hz1 hk1 hS => ?_)
  obtain ⟨hP, hD⟩ := muE.join (ws' := V1 ++ V2) hP hD List.perm_append_comm List.perm_append_comm hk1 hF2 ht hB2
  have hs9 := s_type (x := ((xs (i + 1)).toUInt32 % 65536).toInt32) hsim okA
  have oA := o_type (x := ((xs (i + 1)).toUInt32 % 65536).toInt32) okA
  have oB := o_type (x := ((xs (i + 1)).toUInt32 % 65536).toInt32) okB
  refine lv_icmp_eq (tgt := 939) hx hb dL_law_532 (by decide) (fun _ => ?_) (fun c9 => ?_)
  · exact K _ _ ⟨_, _, V1, V2, hr1.2, hr2.2, hs9.2, oA.mono (by omega), oB.mono (by omega), hP, hD, hS⟩ ls hl
  · exact absurd (hr1.1.trans (hs9.1.trans hr2.1.symm)) c9

set_option maxHeartbeats 400000 in
set_option maxRecDepth 100000 in
theorem lc_clearText {p : Program} {e : Env} {s : State} {m : MethodId} {below : List Frame} {meth : Method} {c : Code} (l : Launch) {D : va_G} {ct : Nat → ClassId} {o : Nat → Nat} {ad : Nat → Nat → Nat} {a : Nat → Nat} {b L : Nat} {xs : Nat → Int32} (C : LC p s m meth c b L xs D ct) {i cnt : Nat} (hi : i + 4 ≤ L) (hc : cnt < 512) {H : Heap} {locs : List Loc} (hI : LI s D ct o ad a cnt H locs) {ls : Array Slot} (hl : lv_has ls 8 [(0, .ref b), (1, .ref (o 0)), (2, .ref (a 0)), (3, .int (nI i))])
    (K : ∀ (H : Heap) (locs : List Loc), LI s D ct o ad a (cnt + 1) H locs → ∀ ls : Array Slot, lv_has ls 8 [(0, .ref b), (1, .ref (o 0)), (2, .ref (a 0)), (3, .int (nI i))] → W p l e room_1 s m #[Value.ref b] below meth c H locs 600000 7302250 (lw_Z below #[Value.ref b] s) (F0 m 939 ls [])) : W p l e room_1 s m #[Value.ref b] below meth c H locs 600000 7302250 (lw_Z below #[Value.ref b] s) (F0 m 537 ls []) := by
  obtain ⟨hx, hb, hml, hown, hts, hX, hbl, hK, hN, hZ, hr, hlk, hL⟩ := C
  obtain ⟨A, B, W1, W2, hA1, hB2, hsim, okA, okB, hP, hD, hS⟩ := hI
  have hbA : ¬ s.heap.size ≤ b := Nat.not_le.mpr hbl
  have hA : ∀ q : Nat, s.heap.size ≤ q → (fun q : Nat => s.heap.size ≤ q) q := fun _ h => h
  refine lv_aload_n hx hb dL_law_537 rfl (lv_at hl 1 rfl) ?_
  have hF1 := w_free (wc := W1) hD (List.Perm.refl _) hS hA
  refine va_calli (va_runV (As := []) (rest := []) ⟨hx, hb, hml, hown, hts⟩ (cx_clearText l D ct _ o ad hA1 okA (by omega) ) (cwV 0 hts gL_law_X5_clearText rfl rfl rfl (by decide +kernel) ⟨Nat.le_of_ble_eq_true rfl, Nat.le_of_ble_eq_true rfl⟩) ⟨muPS.blind, cx_recv hK hP hA1, muPS.at hZ hS hF1 (pw_left hP) (dw_left hD) hK hN⟩ rfl rfl hl.1 rfl (lv_room (Nat.le_of_ble_eq_true rfl)) dL_law_538 ⟨Nat.le_of_ble_eq_true rfl, Nat.le_of_ble_eq_true rfl⟩) hS (fun q _ h => hF1 q h) hF1 (fun r1 V1 tt H1 locs1 ht hvm hr1 hB1 hz1 hk1 hS => ?_)
  obtain ⟨hP, hD⟩ := muE.join (ws' := V1 ++ W2) hP hD (List.Perm.refl _) (List.Perm.refl _) hk1 hF1 ht hB1
  refine lv_aload_n hx hb dL_law_541 rfl (lv_at hl 2 rfl) ?_
  have hF2 := w_free (wc := W2) hD List.perm_append_comm hS hA
  refine va_calli (va_runV (As := []) (rest := [.int r1]) ⟨hx, hb, hml, hown, hts⟩ (mx_clearText l D ct _ a hB2 okB (by omega) ) (cwV 0 hts gL_law_X6_clearText rfl rfl rfl (by decide +kernel) ⟨Nat.le_of_ble_eq_true rfl, Nat.le_of_ble_eq_true rfl⟩) ⟨muP.blind, mx_recv hK hP hB2, muP.at (pw_right hP) (dw_right hD) hK hN⟩ rfl rfl hl.1 rfl (lv_room (Nat.le_of_ble_eq_true rfl)) dL_law_542 ⟨Nat.le_of_ble_eq_true rfl, Nat.le_of_ble_eq_true rfl⟩) hS (fun q _ h => hF2 q h) hF2 (fun r2 V2 tt H1 locs1 ht hvm hr2 hB2 hz1 hk1 hS => ?_)
  obtain ⟨hP, hD⟩ := muE.join (ws' := V1 ++ V2) hP hD List.perm_append_comm List.perm_append_comm hk1 hF2 ht hB2
  have hs9 := s_clearText  hsim okA
  have oA := o_clearText  okA
  have oB := o_clearText  okB
  refine lv_icmp_eq (tgt := 939) hx hb dL_law_545 (by decide) (fun _ => ?_) (fun c9 => ?_)
  · exact K _ _ ⟨_, _, V1, V2, hr1.2, hr2.2, hs9.2, oA.mono (by omega), oB.mono (by omega), hP, hD, hS⟩ ls hl
  · exact absurd (hr1.1.trans (hs9.1.trans hr2.1.symm)) c9

set_option maxHeartbeats 400000 in
set_option maxRecDepth 100000 in
theorem lc_show {p : Program} {e : Env} {s : State} {m : MethodId} {below : List Frame} {meth : Method} {c : Code} (l : Launch) {D : va_G} {ct : Nat → ClassId} {o : Nat → Nat} {ad : Nat → Nat → Nat} {a : Nat → Nat} {b L : Nat} {xs : Nat → Int32} (C : LC p s m meth c b L xs D ct) {i cnt : Nat} (hi : i + 4 ≤ L) (hc : cnt < 512) {H : Heap} {locs : List Loc} (hI : LI s D ct o ad a cnt H locs) {ls : Array Slot} (hl : lv_has ls 8 [(0, .ref b), (1, .ref (o 0)), (2, .ref (a 0)), (3, .int (nI i))])
    (K : ∀ (H : Heap) (locs : List Loc), LI s D ct o ad a (cnt + 1) H locs → ∀ ls : Array Slot, lv_has ls 8 [(0, .ref b), (1, .ref (o 0)), (2, .ref (a 0)), (3, .int (nI i))] → W p l e room_1 s m #[Value.ref b] below meth c H locs 600000 7302250 (lw_Z below #[Value.ref b] s) (F0 m 939 ls [])) : W p l e room_1 s m #[Value.ref b] below meth c H locs 600000 7302250 (lw_Z below #[Value.ref b] s) (F0 m 550 ls []) := by
  obtain ⟨hx, hb, hml, hown, hts, hX, hbl, hK, hN, hZ, hr, hlk, hL⟩ := C
  obtain ⟨A, B, W1, W2, hA1, hB2, hsim, okA, okB, hP, hD, hS⟩ := hI
  have hbA : ¬ s.heap.size ≤ b := Nat.not_le.mpr hbl
  have hA : ∀ q : Nat, s.heap.size ≤ q → (fun q : Nat => s.heap.size ≤ q) q := fun _ h => h
  refine lv_aload_n hx hb dL_law_550 rfl (lv_at hl 1 rfl) ?_
  have hF1 := w_free (wc := W1) hD (List.Perm.refl _) hS hA
  refine va_calli (va_runV (As := []) (rest := []) ⟨hx, hb, hml, hown, hts⟩ (cx_show l D ct _ o ad hA1 okA (by omega) ) (cwV 0 hts gL_law_X5_show rfl rfl rfl (by decide +kernel) ⟨Nat.le_of_ble_eq_true rfl, Nat.le_of_ble_eq_true rfl⟩) ⟨muPS.blind, cx_recv hK hP hA1, muPS.at hZ hS hF1 (pw_left hP) (dw_left hD) hK hN⟩ rfl rfl hl.1 rfl (lv_room (Nat.le_of_ble_eq_true rfl)) dL_law_551 ⟨Nat.le_of_ble_eq_true rfl, Nat.le_of_ble_eq_true rfl⟩) hS (fun q _ h => hF1 q h) hF1 (fun r1 V1 tt H1 locs1 ht hvm hr1 hB1 hz1 hk1 hS => ?_)
  obtain ⟨hP, hD⟩ := muE.join (ws' := V1 ++ W2) hP hD (List.Perm.refl _) (List.Perm.refl _) hk1 hF1 ht hB1
  refine lv_aload_n hx hb dL_law_554 rfl (lv_at hl 2 rfl) ?_
  have hF2 := w_free (wc := W2) hD List.perm_append_comm hS hA
  refine va_calli (va_runV (As := []) (rest := [.int r1]) ⟨hx, hb, hml, hown, hts⟩ (mx_show l D ct _ a hB2 okB (by omega) ) (cwV 0 hts gL_law_X6_show rfl rfl rfl (by decide +kernel) ⟨Nat.le_of_ble_eq_true rfl, Nat.le_of_ble_eq_true rfl⟩) ⟨muP.blind, mx_recv hK hP hB2, muP.at (pw_right hP) (dw_right hD) hK hN⟩ rfl rfl hl.1 rfl (lv_room (Nat.le_of_ble_eq_true rfl)) dL_law_555 ⟨Nat.le_of_ble_eq_true rfl, Nat.le_of_ble_eq_true rfl⟩) hS (fun q _ h => hF2 q h) hF2 (fun r2 V2 tt H1 locs1 ht hvm hr2 hB2 hz1 hk1 hS => ?_)
  obtain ⟨hP, hD⟩ := muE.join (ws' := V1 ++ V2) hP hD List.perm_append_comm List.perm_append_comm hk1 hF2 ht hB2
  have hs9 := s_show  hsim okA
  have oA := o_show  okA
  have oB := o_show  okB
  refine lv_icmp_eq (tgt := 939) hx hb dL_law_558 (by decide) (fun _ => ?_) (fun c9 => ?_)
  · exact K _ _ ⟨_, _, V1, V2, hr1.2, hr2.2, hs9.2, oA.mono (by omega), oB.mono (by omega), hP, hD, hS⟩ ls hl
  · exact absurd (hr1.1.trans (hs9.1.trans hr2.1.symm)) c9

set_option maxHeartbeats 400000 in
set_option maxRecDepth 100000 in
theorem lc_undo {p : Program} {e : Env} {s : State} {m : MethodId} {below : List Frame} {meth : Method} {c : Code} (l : Launch) {D : va_G} {ct : Nat → ClassId} {o : Nat → Nat} {ad : Nat → Nat → Nat} {a : Nat → Nat} {b L : Nat} {xs : Nat → Int32} (C : LC p s m meth c b L xs D ct) {i cnt : Nat} (hi : i + 4 ≤ L) (hc : cnt < 512) {H : Heap} {locs : List Loc} (hI : LI s D ct o ad a cnt H locs) {ls : Array Slot} (hl : lv_has ls 8 [(0, .ref b), (1, .ref (o 0)), (2, .ref (a 0)), (3, .int (nI i))])
    (K : ∀ (H : Heap) (locs : List Loc), LI s D ct o ad a (cnt + 1) H locs → ∀ ls : Array Slot, lv_has ls 8 [(0, .ref b), (1, .ref (o 0)), (2, .ref (a 0)), (3, .int (nI i))] → W p l e room_1 s m #[Value.ref b] below meth c H locs 600000 7302250 (lw_Z below #[Value.ref b] s) (F0 m 939 ls [])) : W p l e room_1 s m #[Value.ref b] below meth c H locs 600000 7302250 (lw_Z below #[Value.ref b] s) (F0 m 563 ls []) := by
  obtain ⟨hx, hb, hml, hown, hts, hX, hbl, hK, hN, hZ, hr, hlk, hL⟩ := C
  obtain ⟨A, B, W1, W2, hA1, hB2, hsim, okA, okB, hP, hD, hS⟩ := hI
  have hbA : ¬ s.heap.size ≤ b := Nat.not_le.mpr hbl
  have hA : ∀ q : Nat, s.heap.size ≤ q → (fun q : Nat => s.heap.size ≤ q) q := fun _ h => h
  refine lv_aload_n hx hb dL_law_563 rfl (lv_at hl 1 rfl) ?_
  have hF1 := w_free (wc := W1) hD (List.Perm.refl _) hS hA
  refine va_calli (va_runV (As := []) (rest := []) ⟨hx, hb, hml, hown, hts⟩ (cx_undo l D ct _ o ad hA1 okA (by omega) ) (cwV 0 hts gL_law_X5_undo rfl rfl rfl (by decide +kernel) ⟨Nat.le_of_ble_eq_true rfl, Nat.le_of_ble_eq_true rfl⟩) ⟨muPS.blind, cx_recv hK hP hA1, muPS.at hZ hS hF1 (pw_left hP) (dw_left hD) hK hN⟩ rfl rfl hl.1 rfl (lv_room (Nat.le_of_ble_eq_true rfl)) dL_law_564 ⟨Nat.le_of_ble_eq_true rfl, Nat.le_of_ble_eq_true rfl⟩) hS (fun q _ h => hF1 q h) hF1 (fun r1 V1 tt H1 locs1 ht hvm hr1 hB1 hz1 hk1 hS => ?_)
  obtain ⟨hP, hD⟩ := muE.join (ws' := V1 ++ W2) hP hD (List.Perm.refl _) (List.Perm.refl _) hk1 hF1 ht hB1
  refine lv_aload_n hx hb dL_law_567 rfl (lv_at hl 2 rfl) ?_
  have hF2 := w_free (wc := W2) hD List.perm_append_comm hS hA
  refine va_calli (va_runV (As := []) (rest := [.int r1]) ⟨hx, hb, hml, hown, hts⟩ (mx_undo l D ct _ a hB2 okB (by omega) ) (cwV 0 hts gL_law_X6_undo rfl rfl rfl (by decide +kernel) ⟨Nat.le_of_ble_eq_true rfl, Nat.le_of_ble_eq_true rfl⟩) ⟨muP.blind, mx_recv hK hP hB2, muP.at (pw_right hP) (dw_right hD) hK hN⟩ rfl rfl hl.1 rfl (lv_room (Nat.le_of_ble_eq_true rfl)) dL_law_568 ⟨Nat.le_of_ble_eq_true rfl, Nat.le_of_ble_eq_true rfl⟩) hS (fun q _ h => hF2 q h) hF2 (fun r2 V2 tt H1 locs1 ht hvm hr2 hB2 hz1 hk1 hS => ?_)
  obtain ⟨hP, hD⟩ := muE.join (ws' := V1 ++ V2) hP hD List.perm_append_comm List.perm_append_comm hk1 hF2 ht hB2
  have hs9 := s_undo  hsim okA
  have oA := o_undo  okA
  have oB := o_undo  okB
  refine lv_icmp_eq (tgt := 939) hx hb dL_law_571 (by decide) (fun _ => ?_) (fun c9 => ?_)
  · exact K _ _ ⟨_, _, V1, V2, hr1.2, hr2.2, hs9.2, oA.mono (by omega), oB.mono (by omega), hP, hD, hS⟩ ls hl
  · exact absurd (hr1.1.trans (hs9.1.trans hr2.1.symm)) c9

set_option maxHeartbeats 400000 in
set_option maxRecDepth 100000 in
theorem lc_keep {p : Program} {e : Env} {s : State} {m : MethodId} {below : List Frame} {meth : Method} {c : Code} (l : Launch) {D : va_G} {ct : Nat → ClassId} {o : Nat → Nat} {ad : Nat → Nat → Nat} {a : Nat → Nat} {b L : Nat} {xs : Nat → Int32} (C : LC p s m meth c b L xs D ct) {i cnt : Nat} (hi : i + 4 ≤ L) (hc : cnt < 512) {H : Heap} {locs : List Loc} (hI : LI s D ct o ad a cnt H locs) {ls : Array Slot} (hl : lv_has ls 8 [(0, .ref b), (1, .ref (o 0)), (2, .ref (a 0)), (3, .int (nI i))])
    (K : ∀ (H : Heap) (locs : List Loc), LI s D ct o ad a (cnt + 1) H locs → ∀ ls : Array Slot, lv_has ls 8 [(0, .ref b), (1, .ref (o 0)), (2, .ref (a 0)), (3, .int (nI i))] → W p l e room_1 s m #[Value.ref b] below meth c H locs 600000 7302250 (lw_Z below #[Value.ref b] s) (F0 m 939 ls [])) : W p l e room_1 s m #[Value.ref b] below meth c H locs 600000 7302250 (lw_Z below #[Value.ref b] s) (F0 m 576 ls []) := by
  obtain ⟨hx, hb, hml, hown, hts, hX, hbl, hK, hN, hZ, hr, hlk, hL⟩ := C
  obtain ⟨A, B, W1, W2, hA1, hB2, hsim, okA, okB, hP, hD, hS⟩ := hI
  have hbA : ¬ s.heap.size ≤ b := Nat.not_le.mpr hbl
  have hA : ∀ q : Nat, s.heap.size ≤ q → (fun q : Nat => s.heap.size ≤ q) q := fun _ h => h
  refine lv_aload_n hx hb dL_law_576 rfl (lv_at hl 1 rfl) ?_
  refine lv_aload_n hx hb dL_law_577 rfl (lv_at hl 0 rfl) ?_
  refine lv_iload_n hx hb dL_law_578 rfl (lv_at hl 3 rfl) ?_
  refine lv_iconst (v := 1) hx hb dL_law_579 (by decide) ?_
  refine lv_iadd hx hb dL_law_580 ?_
  refine lv_as (y := nI (i + 1)) (nI_add i 1) ?_
  refine va_sld hx hb hX hbl hbA hS (r_in (k := i + 1) rfl (by omega) (by omega)) dL_law_581 ?_
  refine lv_as (y := xs (i + 1)) (by rw [nI_clamp (by omega)]) ?_
  have hF1 := w_free (wc := W1) hD (List.Perm.refl _) hS hA
  refine va_calli (va_runV (As := [.int (xs (i + 1))]) (rest := []) ⟨hx, hb, hml, hown, hts⟩ (cx_keep l D ct _ o ad hA1 okA (by omega) (xs (i + 1))) (cwV 1 hts gL_law_X5_keep rfl rfl rfl (by decide +kernel) ⟨Nat.le_of_ble_eq_true rfl, Nat.le_of_ble_eq_true rfl⟩) ⟨muPS.blind, cx_recv hK hP hA1, muPS.at hZ hS hF1 (pw_left hP) (dw_left hD) hK hN⟩ rfl rfl hl.1 rfl (lv_room (Nat.le_of_ble_eq_true rfl)) dL_law_582 ⟨Nat.le_of_ble_eq_true rfl, Nat.le_of_ble_eq_true rfl⟩) hS (fun q _ h => hF1 q h) hF1 (fun r1 V1 tt H1 locs1 ht hvm hr1 hB1 hz1 hk1 hS => ?_)
  obtain ⟨hP, hD⟩ := muE.join (ws' := V1 ++ W2) hP hD (List.Perm.refl _) (List.Perm.refl _) hk1 hF1 ht hB1
  refine lv_aload_n hx hb dL_law_585 rfl (lv_at hl 2 rfl) ?_
  refine lv_aload_n hx hb dL_law_586 rfl (lv_at hl 0 rfl) ?_
  refine lv_iload_n hx hb dL_law_587 rfl (lv_at hl 3 rfl) ?_
  refine lv_iconst (v := 1) hx hb dL_law_588 (by decide) ?_
  refine lv_iadd hx hb dL_law_589 ?_
  refine lv_as (y := nI (i + 1)) (nI_add i 1) ?_
  refine va_sld hx hb hX hbl hbA hS (r_in (k := i + 1) rfl (by omega) (by omega)) dL_law_590 ?_
  refine lv_as (y := xs (i + 1)) (by rw [nI_clamp (by omega)]) ?_
  have hF2 := w_free (wc := W2) hD List.perm_append_comm hS hA
  refine va_calli (va_runV (As := [.int (xs (i + 1))]) (rest := [.int r1]) ⟨hx, hb, hml, hown, hts⟩ (mx_keep l D ct _ a hB2 okB (by omega) (xs (i + 1))) (cwV 1 hts gL_law_X6_keep rfl rfl rfl (by decide +kernel) ⟨Nat.le_of_ble_eq_true rfl, Nat.le_of_ble_eq_true rfl⟩) ⟨muP.blind, mx_recv hK hP hB2, muP.at (pw_right hP) (dw_right hD) hK hN⟩ rfl rfl hl.1 rfl (lv_room (Nat.le_of_ble_eq_true rfl)) dL_law_591 ⟨Nat.le_of_ble_eq_true rfl, Nat.le_of_ble_eq_true rfl⟩) hS (fun q _ h => hF2 q h) hF2 (fun r2 V2 tt H1 locs1 ht hvm hr2 hB2 hz1 hk1 hS => ?_)
  obtain ⟨hP, hD⟩ := muE.join (ws' := V1 ++ V2) hP hD List.perm_append_comm List.perm_append_comm hk1 hF2 ht hB2
  have hs9 := s_keep (x := xs (i + 1)) hsim okA
  have oA := o_keep (x := xs (i + 1)) okA
  have oB := o_keep (x := xs (i + 1)) okB
  refine lv_icmp_eq (tgt := 939) hx hb dL_law_594 (by decide) (fun _ => ?_) (fun c9 => ?_)
  · exact K _ _ ⟨_, _, V1, V2, hr1.2, hr2.2, hs9.2, oA.mono (by omega), oB.mono (by omega), hP, hD, hS⟩ ls hl
  · exact absurd (hr1.1.trans (hs9.1.trans hr2.1.symm)) c9

set_option maxHeartbeats 400000 in
set_option maxRecDepth 100000 in
theorem lc_restore {p : Program} {e : Env} {s : State} {m : MethodId} {below : List Frame} {meth : Method} {c : Code} (l : Launch) {D : va_G} {ct : Nat → ClassId} {o : Nat → Nat} {ad : Nat → Nat → Nat} {a : Nat → Nat} {b L : Nat} {xs : Nat → Int32} (C : LC p s m meth c b L xs D ct) {i cnt : Nat} (hi : i + 4 ≤ L) (hc : cnt < 512) {H : Heap} {locs : List Loc} (hI : LI s D ct o ad a cnt H locs) {ls : Array Slot} (hl : lv_has ls 8 [(0, .ref b), (1, .ref (o 0)), (2, .ref (a 0)), (3, .int (nI i))])
    (K : ∀ (H : Heap) (locs : List Loc), LI s D ct o ad a (cnt + 1) H locs → ∀ ls : Array Slot, lv_has ls 8 [(0, .ref b), (1, .ref (o 0)), (2, .ref (a 0)), (3, .int (nI i))] → W p l e room_1 s m #[Value.ref b] below meth c H locs 600000 7302250 (lw_Z below #[Value.ref b] s) (F0 m 939 ls [])) : W p l e room_1 s m #[Value.ref b] below meth c H locs 600000 7302250 (lw_Z below #[Value.ref b] s) (F0 m 599 ls []) := by
  obtain ⟨hx, hb, hml, hown, hts, hX, hbl, hK, hN, hZ, hr, hlk, hL⟩ := C
  obtain ⟨A, B, W1, W2, hA1, hB2, hsim, okA, okB, hP, hD, hS⟩ := hI
  have hbA : ¬ s.heap.size ≤ b := Nat.not_le.mpr hbl
  have hA : ∀ q : Nat, s.heap.size ≤ q → (fun q : Nat => s.heap.size ≤ q) q := fun _ h => h
  refine lv_aload_n hx hb dL_law_599 rfl (lv_at hl 1 rfl) ?_
  refine lv_aload_n hx hb dL_law_600 rfl (lv_at hl 0 rfl) ?_
  refine lv_iload_n hx hb dL_law_601 rfl (lv_at hl 3 rfl) ?_
  refine lv_iconst (v := 1) hx hb dL_law_602 (by decide) ?_
  refine lv_iadd hx hb dL_law_603 ?_
  refine lv_as (y := nI (i + 1)) (nI_add i 1) ?_
  refine va_sld hx hb hX hbl hbA hS (r_in (k := i + 1) rfl (by omega) (by omega)) dL_law_604 ?_
  refine lv_as (y := xs (i + 1)) (by rw [nI_clamp (by omega)]) ?_
  have hF1 := w_free (wc := W1) hD (List.Perm.refl _) hS hA
  refine va_calli (va_runV (As := [.int (xs (i + 1))]) (rest := []) ⟨hx, hb, hml, hown, hts⟩ (cx_restore l D ct _ o ad hA1 okA (by omega) (xs (i + 1))) (cwV 1 hts gL_law_X5_restore rfl rfl rfl (by decide +kernel) ⟨Nat.le_of_ble_eq_true rfl, Nat.le_of_ble_eq_true rfl⟩) ⟨muPS.blind, cx_recv hK hP hA1, muPS.at hZ hS hF1 (pw_left hP) (dw_left hD) hK hN⟩ rfl rfl hl.1 rfl (lv_room (Nat.le_of_ble_eq_true rfl)) dL_law_605 ⟨Nat.le_of_ble_eq_true rfl, Nat.le_of_ble_eq_true rfl⟩) hS (fun q _ h => hF1 q h) hF1 (fun r1 V1 tt H1 locs1 ht hvm hr1 hB1 hz1 hk1 hS => ?_)
  obtain ⟨hP, hD⟩ := muE.join (ws' := V1 ++ W2) hP hD (List.Perm.refl _) (List.Perm.refl _) hk1 hF1 ht hB1
  refine lv_aload_n hx hb dL_law_608 rfl (lv_at hl 2 rfl) ?_
  refine lv_aload_n hx hb dL_law_609 rfl (lv_at hl 0 rfl) ?_
  refine lv_iload_n hx hb dL_law_610 rfl (lv_at hl 3 rfl) ?_
  refine lv_iconst (v := 1) hx hb dL_law_611 (by decide) ?_
  refine lv_iadd hx hb dL_law_612 ?_
  refine lv_as (y := nI (i + 1)) (nI_add i 1) ?_
  refine va_sld hx hb hX hbl hbA hS (r_in (k := i + 1) rfl (by omega) (by omega)) dL_law_613 ?_
  refine lv_as (y := xs (i + 1)) (by rw [nI_clamp (by omega)]) ?_
  have hF2 := w_free (wc := W2) hD List.perm_append_comm hS hA
  refine va_calli (va_runV (As := [.int (xs (i + 1))]) (rest := [.int r1]) ⟨hx, hb, hml, hown, hts⟩ (mx_restore l D ct _ a hB2 okB (by omega) (xs (i + 1))) (cwV 1 hts gL_law_X6_restore rfl rfl rfl (by decide +kernel) ⟨Nat.le_of_ble_eq_true rfl, Nat.le_of_ble_eq_true rfl⟩) ⟨muP.blind, mx_recv hK hP hB2, muP.at (pw_right hP) (dw_right hD) hK hN⟩ rfl rfl hl.1 rfl (lv_room (Nat.le_of_ble_eq_true rfl)) dL_law_614 ⟨Nat.le_of_ble_eq_true rfl, Nat.le_of_ble_eq_true rfl⟩) hS (fun q _ h => hF2 q h) hF2 (fun r2 V2 tt H1 locs1 ht hvm hr2 hB2 hz1 hk1 hS => ?_)
  obtain ⟨hP, hD⟩ := muE.join (ws' := V1 ++ V2) hP hD List.perm_append_comm List.perm_append_comm hk1 hF2 ht hB2
  have hs9 := s_restore (x := xs (i + 1)) hsim okA
  have oA := o_restore (x := xs (i + 1)) okA
  have oB := o_restore (x := xs (i + 1)) okB
  refine lv_icmp_eq (tgt := 939) hx hb dL_law_617 (by decide) (fun _ => ?_) (fun c9 => ?_)
  · exact K _ _ ⟨_, _, V1, V2, hr1.2, hr2.2, hs9.2, oA.mono (by omega), oB.mono (by omega), hP, hD, hS⟩ ls hl
  · exact absurd (hr1.1.trans (hs9.1.trans hr2.1.symm)) c9
