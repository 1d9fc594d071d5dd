/-! the law: a case each -/
set_option maxHeartbeats 400000 in
set_option maxRecDepth 100000 in
theorem lc_digit {p : Program} {e : Env} {s : State} {m : MethodId} {below : List Frame} {meth : Method} {c : Code} (l : Launch) {D : va_G} {ct : Nat → ClassId} {o : Nat → Nat} {ad : Nat → Nat → Nat} {a : Nat → Nat} {b L : Nat} {xs : Nat → Int32} (C : LC p s m meth c b L xs D ct) {i cnt : Nat} (hi : i + 4 ≤ L) (hc : cnt < 512) {H : Heap} {locs : List Loc} (hI : LI s D ct o ad a cnt H locs) {ls : Array Slot} (hl : lv_has ls 8 [(0, .ref b), (1, .ref (o 0)), (2, .ref (a 0)), (3, .int (nI i))])
    (K : ∀ (H : Heap) (locs : List Loc), LI s D ct o ad a (cnt + 1) H locs → ∀ ls : Array Slot, lv_has ls 8 [(0, .ref b), (1, .ref (o 0)), (2, .ref (a 0)), (3, .int (nI i))] → W p l e room_1 s m #[Value.ref b] below meth c H locs 600000 7302250 (lw_Z below #[Value.ref b] s) (F0 m 939 ls [])) : W p l e room_1 s m #[Value.ref b] below meth c H locs 600000 7302250 (lw_Z below #[Value.ref b] s) (F0 m 622 ls []) := by
  obtain ⟨hx, hb, hml, hown, hts, hX, hbl, hK, hN, hZ, hr, hlk, hL⟩ := C
  obtain ⟨A, B, W1, W2, hA1, hB2, hsim, okA, okB, hP, hD, hS⟩ := hI
  have hbA : ¬ s.heap.size ≤ b := Nat.not_le.mpr hbl
  have hA : ∀ q : Nat, s.heap.size ≤ q → (fun q : Nat => s.heap.size ≤ q) q := fun _ h => h
  refine lv_aload_n hx hb dL_law_622 rfl (lv_at hl 1 rfl) ?_
  refine lv_aload_n hx hb dL_law_623 rfl (lv_at hl 0 rfl) ?_
  refine lv_iload_n hx hb dL_law_624 rfl (lv_at hl 3 rfl) ?_
  refine lv_iconst (v := 1) hx hb dL_law_625 (by decide) ?_
  refine lv_iadd hx hb dL_law_626 ?_
  refine lv_as (y := nI (i + 1)) (nI_add i 1) ?_
  refine va_sld hx hb hX hbl hbA hS (r_in (k := i + 1) rfl (by omega) (by omega)) dL_law_627 ?_
  refine lv_as (y := xs (i + 1)) (by rw [nI_clamp (by omega)]) ?_
  refine lv_aload_n hx hb dL_law_628 rfl (lv_at hl 0 rfl) ?_
  refine lv_iload_n hx hb dL_law_629 rfl (lv_at hl 3 rfl) ?_
  refine lv_iconst (v := 2) hx hb dL_law_630 (by decide) ?_
  refine lv_iadd hx hb dL_law_631 ?_
  refine lv_as (y := nI (i + 2)) (nI_add i 2) ?_
  refine va_sld hx hb hX hbl hbA hS (r_in (k := i + 2) rfl (by omega) (by omega)) dL_law_632 ?_
  refine lv_as (y := xs (i + 2)) (by rw [nI_clamp (by omega)]) ?_
  have hF1 := w_free (wc := W1) hD (List.Perm.refl _) hS hA
  refine va_calli (va_runV (As := [.int (xs (i + 1)), .int (xs (i + 2))]) (rest := []) ⟨hx, hb, hml, hown, hts⟩ (cx_digit l D ct _ o ad hA1 okA (by omega) (xs (i + 1)) (xs (i + 2))) (cwV 2 hts gL_law_X5_digit rfl rfl rfl (by decide +kernel) ⟨Nat.le_of_ble_eq_true rfl, Nat.le_of_ble_eq_true rfl⟩) ⟨muPS.blind, cx_recv hK hP hA1, muPS.at hZ hS hF1 (pw_left hP) (dw_left hD) hK hN⟩ rfl rfl hl.1 rfl (lv_room (Nat.le_of_ble_eq_true rfl)) dL_law_633 ⟨Nat.le_of_ble_eq_true rfl, Nat.le_of_ble_eq_true rfl⟩) hS (fun q _ h => hF1 q h) hF1 (fun r1 V1 tt H1 locs1 ht hvm hr1 hB1 hz1 hk1 hS => ?_)
  obtain ⟨hP, hD⟩ := muE.join (ws' := V1 ++ W2) hP hD (List.Perm.refl _) (List.Perm.refl _) hk1 hF1 ht hB1
  refine lv_aload_n hx hb dL_law_636 rfl (lv_at hl 2 rfl) ?_
  refine lv_aload_n hx hb dL_law_637 rfl (lv_at hl 0 rfl) ?_
  refine lv_iload_n hx hb dL_law_638 rfl (lv_at hl 3 rfl) ?_
  refine lv_iconst (v := 1) hx hb dL_law_639 (by decide) ?_
  refine lv_iadd hx hb dL_law_640 ?_
  refine lv_as (y := nI (i + 1)) (nI_add i 1) ?_
  refine va_sld hx hb hX hbl hbA hS (r_in (k := i + 1) rfl (by omega) (by omega)) dL_law_641 ?_
  refine lv_as (y := xs (i + 1)) (by rw [nI_clamp (by omega)]) ?_
  refine lv_aload_n hx hb dL_law_642 rfl (lv_at hl 0 rfl) ?_
  refine lv_iload_n hx hb dL_law_643 rfl (lv_at hl 3 rfl) ?_
  refine lv_iconst (v := 2) hx hb dL_law_644 (by decide) ?_
  refine lv_iadd hx hb dL_law_645 ?_
  refine lv_as (y := nI (i + 2)) (nI_add i 2) ?_
  refine va_sld hx hb hX hbl hbA hS (r_in (k := i + 2) rfl (by omega) (by omega)) dL_law_646 ?_
  refine lv_as (y := xs (i + 2)) (by rw [nI_clamp (by omega)]) ?_
  have hF2 := w_free (wc := W2) hD List.perm_append_comm hS hA
  refine va_calli (va_runV (As := [.int (xs (i + 1)), .int (xs (i + 2))]) (rest := [.int r1]) ⟨hx, hb, hml, hown, hts⟩ (mx_digit l D ct _ a hB2 okB (by omega) (xs (i + 1)) (xs (i + 2))) (cwV 2 hts gL_law_X6_digit rfl rfl rfl (by decide +kernel) ⟨Nat.le_of_ble_eq_true rfl, Nat.le_of_ble_eq_true rfl⟩) ⟨muP.blind, mx_recv hK hP hB2, muP.at (pw_right hP) (dw_right hD) hK hN⟩ rfl rfl hl.1 rfl (lv_room (Nat.le_of_ble_eq_true rfl)) dL_law_647 ⟨Nat.le_of_ble_eq_true rfl, Nat.le_of_ble_eq_true rfl⟩) hS (fun q _ h => hF2 q h) hF2 (fun r2 V2 tt H1 locs1 ht hvm hr2 hB2 hz1 hk1 hS => ?_)
  obtain ⟨hP, hD⟩ := muE.join (ws' := V1 ++ V2) hP hD List.perm_append_comm List.perm_append_comm hk1 hF2 ht hB2
  have hs9 := s_digit (x := xs (i + 1)) (y := xs (i + 2)) hsim okA
  have oA := o_digit (x := xs (i + 1)) (y := xs (i + 2)) okA
  have oB := o_digit (x := xs (i + 1)) (y := xs (i + 2)) okB
  refine lv_icmp_eq (tgt := 939) hx hb dL_law_650 (by decide) (fun _ => ?_) (fun c9 => ?_)
  · exact K _ _ ⟨_, _, V1, V2, hr1.2, hr2.2, hs9.2, oA.mono (by omega), oB.mono (by omega), hP, hD, hS⟩ ls hl
  · exact absurd (hr1.1.trans (hs9.1.trans hr2.1.symm)) c9

set_option maxHeartbeats 400000 in
set_option maxRecDepth 100000 in
theorem lc_segment {p : Program} {e : Env} {s : State} {m : MethodId} {below : List Frame} {meth : Method} {c : Code} (l : Launch) {D : va_G} {ct : Nat → ClassId} {o : Nat → Nat} {ad : Nat → Nat → Nat} {a : Nat → Nat} {b L : Nat} {xs : Nat → Int32} (C : LC p s m meth c b L xs D ct) {i cnt : Nat} (hi : i + 4 ≤ L) (hc : cnt < 512) {H : Heap} {locs : List Loc} (hI : LI s D ct o ad a cnt H locs) {ls : Array Slot} (hl : lv_has ls 8 [(0, .ref b), (1, .ref (o 0)), (2, .ref (a 0)), (3, .int (nI i))])
    (K : ∀ (H : Heap) (locs : List Loc), LI s D ct o ad a (cnt + 1) H locs → ∀ ls : Array Slot, lv_has ls 8 [(0, .ref b), (1, .ref (o 0)), (2, .ref (a 0)), (3, .int (nI i))] → W p l e room_1 s m #[Value.ref b] below meth c H locs 600000 7302250 (lw_Z below #[Value.ref b] s) (F0 m 939 ls [])) : W p l e room_1 s m #[Value.ref b] below meth c H locs 600000 7302250 (lw_Z below #[Value.ref b] s) (F0 m 655 ls []) := by
  obtain ⟨hx, hb, hml, hown, hts, hX, hbl, hK, hN, hZ, hr, hlk, hL⟩ := C
  obtain ⟨A, B, W1, W2, hA1, hB2, hsim, okA, okB, hP, hD, hS⟩ := hI
  have hbA : ¬ s.heap.size ≤ b := Nat.not_le.mpr hbl
  have hA : ∀ q : Nat, s.heap.size ≤ q → (fun q : Nat => s.heap.size ≤ q) q := fun _ h => h
  refine lv_aload_n hx hb dL_law_655 rfl (lv_at hl 1 rfl) ?_
  refine lv_aload_n hx hb dL_law_656 rfl (lv_at hl 0 rfl) ?_
  refine lv_iload_n hx hb dL_law_657 rfl (lv_at hl 3 rfl) ?_
  refine lv_iconst (v := 1) hx hb dL_law_658 (by decide) ?_
  refine lv_iadd hx hb dL_law_659 ?_
  refine lv_as (y := nI (i + 1)) (nI_add i 1) ?_
  refine va_sld hx hb hX hbl hbA hS (r_in (k := i + 1) rfl (by omega) (by omega)) dL_law_660 ?_
  refine lv_as (y := xs (i + 1)) (by rw [nI_clamp (by omega)]) ?_
  refine lv_aload_n hx hb dL_law_661 rfl (lv_at hl 0 rfl) ?_
  refine lv_iload_n hx hb dL_law_662 rfl (lv_at hl 3 rfl) ?_
  refine lv_iconst (v := 2) hx hb dL_law_663 (by decide) ?_
  refine lv_iadd hx hb dL_law_664 ?_
  refine lv_as (y := nI (i + 2)) (nI_add i 2) ?_
  refine va_sld hx hb hX hbl hbA hS (r_in (k := i + 2) rfl (by omega) (by omega)) dL_law_665 ?_
  refine lv_as (y := xs (i + 2)) (by rw [nI_clamp (by omega)]) ?_
  refine lv_aload_n hx hb dL_law_666 rfl (lv_at hl 0 rfl) ?_
  refine lv_iload_n hx hb dL_law_667 rfl (lv_at hl 3 rfl) ?_
  refine lv_iconst (v := 3) hx hb dL_law_668 (by decide) ?_
  refine lv_iadd hx hb dL_law_669 ?_
  refine lv_as (y := nI (i + 3)) (nI_add i 3) ?_
  refine va_sld hx hb hX hbl hbA hS (r_in (k := i + 3) rfl (by omega) (by omega)) dL_law_670 ?_
  refine lv_as (y := xs (i + 3)) (by rw [nI_clamp (by omega)]) ?_
  have hF1 := w_free (wc := W1) hD (List.Perm.refl _) hS hA
  refine va_calli (va_runV (As := [.int (xs (i + 1)), .int (xs (i + 2)), .int (xs (i + 3))]) (rest := []) ⟨hx, hb, hml, hown, hts⟩ (cx_segment l D ct _ o ad hA1 okA (by omega) (xs (i + 1)) (xs (i + 2)) (xs (i + 3))) (cwV 3 hts gL_law_X5_segment rfl rfl rfl (by decide +kernel) ⟨Nat.le_of_ble_eq_true rfl, Nat.le_of_ble_eq_true rfl⟩) ⟨muPS.blind, cx_recv hK hP hA1, muPS.at hZ hS hF1 (pw_left hP) (dw_left hD) hK hN⟩ rfl rfl hl.1 rfl (lv_room (Nat.le_of_ble_eq_true rfl)) dL_law_671 ⟨Nat.le_of_ble_eq_true rfl, Nat.le_of_ble_eq_true rfl⟩) hS (fun q _ h => hF1 q h) hF1 (fun r1 V1 tt H1 locs1 ht hvm hr1 hB1 hz1 hk1 hS => ?_)
  obtain ⟨hP, hD⟩ := muE.join (ws' := V1 ++ W2) hP hD (List.Perm.refl _) (List.Perm.refl _) hk1 hF1 ht hB1
  refine lv_aload_n hx hb dL_law_674 rfl (lv_at hl 2 rfl) ?_
  refine lv_aload_n hx hb dL_law_675 rfl (lv_at hl 0 rfl) ?_
  refine lv_iload_n hx hb dL_law_676 rfl (lv_at hl 3 rfl) ?_
  refine lv_iconst (v := 1) hx hb dL_law_677 (by decide) ?_
  refine lv_iadd hx hb dL_law_678 ?_
  refine lv_as (y := nI (i + 1)) (nI_add i 1) ?_
  refine va_sld hx hb hX hbl hbA hS (r_in (k := i + 1) rfl (by omega) (by omega)) dL_law_679 ?_
  refine lv_as (y := xs (i + 1)) (by rw [nI_clamp (by omega)]) ?_
  refine lv_aload_n hx hb dL_law_680 rfl (lv_at hl 0 rfl) ?_
  refine lv_iload_n hx hb dL_law_681 rfl (lv_at hl 3 rfl) ?_
  refine lv_iconst (v := 2) hx hb dL_law_682 (by decide) ?_
  refine lv_iadd hx hb dL_law_683 ?_
  refine lv_as (y := nI (i + 2)) (nI_add i 2) ?_
  refine va_sld hx hb hX hbl hbA hS (r_in (k := i + 2) rfl (by omega) (by omega)) dL_law_684 ?_
  refine lv_as (y := xs (i + 2)) (by rw [nI_clamp (by omega)]) ?_
  refine lv_aload_n hx hb dL_law_685 rfl (lv_at hl 0 rfl) ?_
  refine lv_iload_n hx hb dL_law_686 rfl (lv_at hl 3 rfl) ?_
  refine lv_iconst (v := 3) hx hb dL_law_687 (by decide) ?_
  refine lv_iadd hx hb dL_law_688 ?_
  refine lv_as (y := nI (i + 3)) (nI_add i 3) ?_
  refine va_sld hx hb hX hbl hbA hS (r_in (k := i + 3) rfl (by omega) (by omega)) dL_law_689 ?_
  refine lv_as (y := xs (i + 3)) (by rw [nI_clamp (by omega)]) ?_
  have hF2 := w_free (wc := W2) hD List.perm_append_comm hS hA
  refine va_calli (va_runV (As := [.int (xs (i + 1)), .int (xs (i + 2)), .int (xs (i + 3))]) (rest := [.int r1]) ⟨hx, hb, hml, hown, hts⟩ (mx_segment l D ct _ a hB2 okB (by omega) (xs (i + 1)) (xs (i + 2)) (xs (i + 3))) (cwV 3 hts gL_law_X6_segment rfl rfl rfl (by decide +kernel) ⟨Nat.le_of_ble_eq_true rfl, Nat.le_of_ble_eq_true rfl⟩) ⟨muP.blind, mx_recv hK hP hB2, muP.at (pw_right hP) (dw_right hD) hK hN⟩ rfl rfl hl.1 rfl (lv_room (Nat.le_of_ble_eq_true rfl)) dL_law_690 ⟨Nat.le_of_ble_eq_true rfl, Nat.le_of_ble_eq_true rfl⟩) hS (fun q _ h => hF2 q h) hF2 (fun r2 V2 tt H1 locs1 ht hvm hr2 hB2 hz1 hk1 hS => ?_)
  obtain ⟨hP, hD⟩ := muE.join (ws' := V1 ++ V2) hP hD List.perm_append_comm List.perm_append_comm hk1 hF2 ht hB2
  have hs9 := s_segment (x := xs (i + 1)) (y := xs (i + 2)) (z := xs (i + 3)) hsim okA
  have oA := o_segment (x := xs (i + 1)) (y := xs (i + 2)) (z := xs (i + 3)) okA
  have oB := o_segment (x := xs (i + 1)) (y := xs (i + 2)) (z := xs (i + 3)) okB
  refine lv_icmp_eq (tgt := 939) hx hb dL_law_693 (by decide) (fun _ => ?_) (fun c9 => ?_)
  · exact K _ _ ⟨_, _, V1, V2, hr1.2, hr2.2, hs9.2, oA.mono (by omega), oB.mono (by omega), hP, hD, hS⟩ ls hl
  · exact absurd (hr1.1.trans (hs9.1.trans hr2.1.symm)) c9

set_option maxHeartbeats 400000 in
set_option maxRecDepth 100000 in
theorem lc_litIn {p : Program} {e : Env} {s : State} {m : MethodId} {below : List Frame} {meth : Method} {c : Code} (l : Launch) {D : va_G} {ct : Nat → ClassId} {o : Nat → Nat} {ad : Nat → Nat → Nat} {a : Nat → Nat} {b L : Nat} {xs : Nat → Int32} (C : LC p s m meth c b L xs D ct) {i cnt : Nat} (hi : i + 4 ≤ L) (hc : cnt < 512) {H : Heap} {locs : List Loc} (hI : LI s D ct o ad a cnt H locs) {ls : Array Slot} (hl : lv_has ls 8 [(0, .ref b), (1, .ref (o 0)), (2, .ref (a 0)), (3, .int (nI i))])
    (K : ∀ (H : Heap) (locs : List Loc), LI s D ct o ad a (cnt + 1) H locs → ∀ ls : Array Slot, lv_has ls 8 [(0, .ref b), (1, .ref (o 0)), (2, .ref (a 0)), (3, .int (nI i))] → W p l e room_1 s m #[Value.ref b] below meth c H locs 600000 7302250 (lw_Z below #[Value.ref b] s) (F0 m 939 ls [])) : W p l e room_1 s m #[Value.ref b] below meth c H locs 600000 7302250 (lw_Z below #[Value.ref b] s) (F0 m 698 ls []) := by
  obtain ⟨hx, hb, hml, hown, hts, hX, hbl, hK, hN, hZ, hr, hlk, hL⟩ := C
  obtain ⟨A, B, W1, W2, hA1, hB2, hsim, okA, okB, hP, hD, hS⟩ := hI
  have hbA : ¬ s.heap.size ≤ b := Nat.not_le.mpr hbl
  have hA : ∀ q : Nat, s.heap.size ≤ q → (fun q : Nat => s.heap.size ≤ q) q := fun _ h => h
  refine lv_aload_n hx hb dL_law_698 rfl (lv_at hl 1 rfl) ?_
  refine lv_aload_n hx hb dL_law_699 rfl (lv_at hl 0 rfl) ?_
  refine lv_iload_n hx hb dL_law_700 rfl (lv_at hl 3 rfl) ?_
  refine lv_iconst (v := 1) hx hb dL_law_701 (by decide) ?_
  refine lv_iadd hx hb dL_law_702 ?_
  refine lv_as (y := nI (i + 1)) (nI_add i 1) ?_
  refine va_sld hx hb hX hbl hbA hS (r_in (k := i + 1) rfl (by omega) (by omega)) dL_law_703 ?_
  refine lv_as (y := xs (i + 1)) (by rw [nI_clamp (by omega)]) ?_
  refine lv_aload_n hx hb dL_law_704 rfl (lv_at hl 0 rfl) ?_
  refine lv_iload_n hx hb dL_law_705 rfl (lv_at hl 3 rfl) ?_
  refine lv_iconst (v := 2) hx hb dL_law_706 (by decide) ?_
  refine lv_iadd hx hb dL_law_707 ?_
  refine lv_as (y := nI (i + 2)) (nI_add i 2) ?_
  refine va_sld hx hb hX hbl hbA hS (r_in (k := i + 2) rfl (by omega) (by omega)) dL_law_708 ?_
  refine lv_as (y := xs (i + 2)) (by rw [nI_clamp (by omega)]) ?_
  have hF1 := w_free (wc := W1) hD (List.Perm.refl _) hS hA
  refine va_calli (va_runV (As := [.int (xs (i + 1)), .int (xs (i + 2))]) (rest := []) ⟨hx, hb, hml, hown, hts⟩ (cx_litIn l D ct _ o ad hA1 okA (by omega) (xs (i + 1)) (xs (i + 2))) (cwV 2 hts gL_law_X5_litIn rfl rfl rfl (by decide +kernel) ⟨Nat.le_of_ble_eq_true rfl, Nat.le_of_ble_eq_true rfl⟩) ⟨muPS.blind, cx_recv hK hP hA1, muPS.at hZ hS hF1 (pw_left hP) (dw_left hD) hK hN⟩ rfl rfl hl.1 rfl (lv_room (Nat.le_of_ble_eq_true rfl)) dL_law_709 ⟨Nat.le_of_ble_eq_true rfl, Nat.le_of_ble_eq_true rfl⟩) hS (fun q _ h => hF1 q h) hF1 (fun r1 V1 tt H1 locs1 ht hvm hr1 hB1 hz1 hk1 hS => ?_)
  obtain ⟨hP, hD⟩ := muE.join (ws' := V1 ++ W2) hP hD (List.Perm.refl _) (List.Perm.refl _) hk1 hF1 ht hB1
  refine lv_aload_n hx hb dL_law_712 rfl (lv_at hl 2 rfl) ?_
  refine lv_aload_n hx hb dL_law_713 rfl (lv_at hl 0 rfl) ?_
  refine lv_iload_n hx hb dL_law_714 rfl (lv_at hl 3 rfl) ?_
  refine lv_iconst (v := 1) hx hb dL_law_715 (by decide) ?_
  refine lv_iadd hx hb dL_law_716 ?_
  refine lv_as (y := nI (i + 1)) (nI_add i 1) ?_
  refine va_sld hx hb hX hbl hbA hS (r_in (k := i + 1) rfl (by omega) (by omega)) dL_law_717 ?_
  refine lv_as (y := xs (i + 1)) (by rw [nI_clamp (by omega)]) ?_
  refine lv_aload_n hx hb dL_law_718 rfl (lv_at hl 0 rfl) ?_
  refine lv_iload_n hx hb dL_law_719 rfl (lv_at hl 3 rfl) ?_
  refine lv_iconst (v := 2) hx hb dL_law_720 (by decide) ?_
  refine lv_iadd hx hb dL_law_721 ?_
  refine lv_as (y := nI (i + 2)) (nI_add i 2) ?_
  refine va_sld hx hb hX hbl hbA hS (r_in (k := i + 2) rfl (by omega) (by omega)) dL_law_722 ?_
  refine lv_as (y := xs (i + 2)) (by rw [nI_clamp (by omega)]) ?_
  have hF2 := w_free (wc := W2) hD List.perm_append_comm hS hA
  refine va_calli (va_runV (As := [.int (xs (i + 1)), .int (xs (i + 2))]) (rest := [.int r1]) ⟨hx, hb, hml, hown, hts⟩ (mx_litIn l D ct _ a hB2 okB (by omega) (xs (i + 1)) (xs (i + 2))) (cwV 2 hts gL_law_X6_litIn rfl rfl rfl (by decide +kernel) ⟨Nat.le_of_ble_eq_true rfl, Nat.le_of_ble_eq_true rfl⟩) ⟨muP.blind, mx_recv hK hP hB2, muP.at (pw_right hP) (dw_right hD) hK hN⟩ rfl rfl hl.1 rfl (lv_room (Nat.le_of_ble_eq_true rfl)) dL_law_723 ⟨Nat.le_of_ble_eq_true rfl, Nat.le_of_ble_eq_true rfl⟩) hS (fun q _ h => hF2 q h) hF2 (fun r2 V2 tt H1 locs1 ht hvm hr2 hB2 hz1 hk1 hS => ?_)
  obtain ⟨hP, hD⟩ := muE.join (ws' := V1 ++ V2) hP hD List.perm_append_comm List.perm_append_comm hk1 hF2 ht hB2
  have hs9 := s_litIn (x := xs (i + 1)) (y := xs (i + 2)) hsim okA
  have oA := o_litIn (x := xs (i + 1)) (y := xs (i + 2)) okA
  have oB := o_litIn (x := xs (i + 1)) (y := xs (i + 2)) okB
  refine lv_icmp_eq (tgt := 939) hx hb dL_law_726 (by decide) (fun _ => ?_) (fun c9 => ?_)
  · exact K _ _ ⟨_, _, V1, V2, hr1.2, hr2.2, hs9.2, oA.mono (by omega), oB.mono (by omega), hP, hD, hS⟩ ls hl
  · exact absurd (hr1.1.trans (hs9.1.trans hr2.1.symm)) c9

set_option maxHeartbeats 400000 in
set_option maxRecDepth 100000 in
theorem lc_steadyGlow {p : Program} {e : Env} {s : State} {m : MethodId} {below : List Frame} {meth : Method} {c : Code} (l : Launch) {D : va_G} {ct : Nat → ClassId} {o : Nat → Nat} {ad : Nat → Nat → Nat} {a : Nat → Nat} {b L : Nat} {xs : Nat → Int32} (C : LC p s m meth c b L xs D ct) {i cnt : Nat} (hi : i + 4 ≤ L) (hc : cnt < 512) {H : Heap} {locs : List Loc} (hI : LI s D ct o ad a cnt H locs) {ls : Array Slot} (hl : lv_has ls 8 [(0, .ref b), (1, .ref (o 0)), (2, .ref (a 0)), (3, .int (nI i))])
    (K : ∀ (H : Heap) (locs : List Loc), LI s D ct o ad a (cnt + 1) H locs → ∀ ls : Array Slot, lv_has ls 8 [(0, .ref b), (1, .ref (o 0)), (2, .ref (a 0)), (3, .int (nI i))] → W p l e room_1 s m #[Value.ref b] below meth c H locs 600000 7302250 (lw_Z below #[Value.ref b] s) (F0 m 939 ls [])) : W p l e room_1 s m #[Value.ref b] below meth c H locs 600000 7302250 (lw_Z below #[Value.ref b] s) (F0 m 731 ls []) := by
  obtain ⟨hx, hb, hml, hown, hts, hX, hbl, hK, hN, hZ, hr, hlk, hL⟩ := C
  obtain ⟨A, B, W1, W2, hA1, hB2, hsim, okA, okB, hP, hD, hS⟩ := hI
  have hbA : ¬ s.heap.size ≤ b := Nat.not_le.mpr hbl
  have hA : ∀ q : Nat, s.heap.size ≤ q → (fun q : Nat => s.heap.size ≤ q) q := fun _ h => h
  refine lv_aload_n hx hb dL_law_731 rfl (lv_at hl 1 rfl) ?_
  refine lv_aload_n hx hb dL_law_732 rfl (lv_at hl 0 rfl) ?_
  refine lv_iload_n hx hb dL_law_733 rfl (lv_at hl 3 rfl) ?_
  refine lv_iconst (v := 1) hx hb dL_law_734 (by decide) ?_
  refine lv_iadd hx hb dL_law_735 ?_
  refine lv_as (y := nI (i + 1)) (nI_add i 1) ?_
  refine va_sld hx hb hX hbl hbA hS (r_in (k := i + 1) rfl (by omega) (by omega)) dL_law_736 ?_
  refine lv_as (y := xs (i + 1)) (by rw [nI_clamp (by omega)]) ?_
  have hF1 := w_free (wc := W1) hD (List.Perm.refl _) hS hA
  refine va_calli (va_runV (As := [.int (xs (i + 1))]) (rest := []) ⟨hx, hb, hml, hown, hts⟩ (cx_steadyGlow l D ct _ o ad hA1 okA (by omega) (xs (i + 1))) (cwV 1 hts gL_law_X5_steadyGlow rfl rfl rfl (by decide +kernel) ⟨Nat.le_of_ble_eq_true rfl, Nat.le_of_ble_eq_true rfl⟩) ⟨muPS.blind, cx_recv hK hP hA1, muPS.at hZ hS hF1 (pw_left hP) (dw_left hD) hK hN⟩ rfl rfl hl.1 rfl (lv_room (Nat.le_of_ble_eq_true rfl)) dL_law_737 ⟨Nat.le_of_ble_eq_true rfl, Nat.le_of_ble_eq_true rfl⟩) hS (fun q _ h => hF1 q h) hF1 (fun r1 V1 tt H1 locs1 ht hvm hr1 hB1 hz1 hk1 hS => ?_)
  obtain ⟨hP, hD⟩ := muE.join (ws' := V1 ++ W2) hP hD (List.Perm.refl _) (List.Perm.refl _) hk1 hF1 ht hB1
  refine lv_aload_n hx hb dL_law_740 rfl (lv_at hl 2 rfl) ?_
  refine lv_aload_n hx hb dL_law_741 rfl (lv_at hl 0 rfl) ?_
  refine lv_iload_n hx hb dL_law_742 rfl (lv_at hl 3 rfl) ?_
  refine lv_iconst (v := 1) hx hb dL_law_743 (by decide) ?_
  refine lv_iadd hx hb dL_law_744 ?_
  refine lv_as (y := nI (i + 1)) (nI_add i 1) ?_
  refine va_sld hx hb hX hbl hbA hS (r_in (k := i + 1) rfl (by omega) (by omega)) dL_law_745 ?_
  refine lv_as (y := xs (i + 1)) (by rw [nI_clamp (by omega)]) ?_
  have hF2 := w_free (wc := W2) hD List.perm_append_comm hS hA
  refine va_calli (va_runV (As := [.int (xs (i + 1))]) (rest := [.int r1]) ⟨hx, hb, hml, hown, hts⟩ (mx_steadyGlow l D ct _ a hB2 okB (by omega) (xs (i + 1))) (cwV 1 hts gL_law_X6_steadyGlow rfl rfl rfl (by decide +kernel) ⟨Nat.le_of_ble_eq_true rfl, Nat.le_of_ble_eq_true rfl⟩) ⟨muP.blind, mx_recv hK hP hB2, muP.at (pw_right hP) (dw_right hD) hK hN⟩ rfl rfl hl.1 rfl (lv_room (Nat.le_of_ble_eq_true rfl)) dL_law_746 ⟨Nat.le_of_ble_eq_true rfl, Nat.le_of_ble_eq_true rfl⟩) hS (fun q _ h => hF2 q h) hF2 (fun r2 V2 tt H1 locs1 ht hvm hr2 hB2 hz1 hk1 hS => ?_)
  obtain ⟨hP, hD⟩ := muE.join (ws' := V1 ++ V2) hP hD List.perm_append_comm List.perm_append_comm hk1 hF2 ht hB2
  have hs9 := s_steadyGlow (x := xs (i + 1)) hsim okA
  have oA := o_steadyGlow (x := xs (i + 1)) okA
  have oB := o_steadyGlow (x := xs (i + 1)) okB
  refine lv_icmp_eq (tgt := 939) hx hb dL_law_749 (by decide) (fun _ => ?_) (fun c9 => ?_)
  · exact K _ _ ⟨_, _, V1, V2, hr1.2, hr2.2, hs9.2, oA.mono (by omega), oB.mono (by omega), hP, hD, hS⟩ ls hl
  · exact absurd (hr1.1.trans (hs9.1.trans hr2.1.symm)) c9

set_option maxHeartbeats 400000 in
set_option maxRecDepth 100000 in
theorem lc_current {p : Program} {e : Env} {s : State} {m : MethodId} {below : List Frame} {meth : Method} {c : Code} (l : Launch) {D : va_G} {ct : Nat → ClassId} {o : Nat → Nat} {ad : Nat → Nat → Nat} {a : Nat → Nat} {b L : Nat} {xs : Nat → Int32} (C : LC p s m meth c b L xs D ct) {i cnt : Nat} (hi : i + 4 ≤ L) (hc : cnt < 512) {H : Heap} {locs : List Loc} (hI : LI s D ct o ad a cnt H locs) {ls : Array Slot} (hl : lv_has ls 8 [(0, .ref b), (1, .ref (o 0)), (2, .ref (a 0)), (3, .int (nI i))])
    (K : ∀ (H : Heap) (locs : List Loc), LI s D ct o ad a (cnt + 1) H locs → ∀ ls : Array Slot, lv_has ls 8 [(0, .ref b), (1, .ref (o 0)), (2, .ref (a 0)), (3, .int (nI i))] → W p l e room_1 s m #[Value.ref b] below meth c H locs 600000 7302250 (lw_Z below #[Value.ref b] s) (F0 m 939 ls [])) : W p l e room_1 s m #[Value.ref b] below meth c H locs 600000 7302250 (lw_Z below #[Value.ref b] s) (F0 m 754 ls []) := by
  obtain ⟨hx, hb, hml, hown, hts, hX, hbl, hK, hN, hZ, hr, hlk, hL⟩ := C
  obtain ⟨A, B, W1, W2, hA1, hB2, hsim, okA, okB, hP, hD, hS⟩ := hI
  have hbA : ¬ s.heap.size ≤ b := Nat.not_le.mpr hbl
  have hA : ∀ q : Nat, s.heap.size ≤ q → (fun q : Nat => s.heap.size ≤ q) q := fun _ h => h
  refine lv_aload_n hx hb dL_law_754 rfl (lv_at hl 1 rfl) ?_
  refine lv_aload_n hx hb dL_law_755 rfl (lv_at hl 0 rfl) ?_
  refine lv_iload_n hx hb dL_law_756 rfl (lv_at hl 3 rfl) ?_
  refine lv_iconst (v := 1) hx hb dL_law_757 (by decide) ?_
  refine lv_iadd hx hb dL_law_758 ?_
  refine lv_as (y := nI (i + 1)) (nI_add i 1) ?_
  refine va_sld hx hb hX hbl hbA hS (r_in (k := i + 1) rfl (by omega) (by omega)) dL_law_759 ?_
  refine lv_as (y := xs (i + 1)) (by rw [nI_clamp (by omega)]) ?_
  refine vp_callSf ((va_runV (As := [.int (xs (i + 1))]) (rest := []) ⟨hx, hb, hml, hown, hts⟩ (cx_current l D ct o ad hA1 okA (xs (i + 1))) (cwV 1 hts gL_law_X5_current rfl rfl rfl (by decide +kernel) ⟨Nat.le_of_ble_eq_true rfl, Nat.le_of_ble_eq_true rfl⟩) ⟨roP.blind, cx_recv hK hP hA1, roP.at (pw_left hP) hK hN⟩ rfl rfl hl.1 rfl (lv_room (Nat.le_of_ble_eq_true rfl)) dL_law_760 ⟨Nat.le_of_ble_eq_true rfl, Nat.le_of_ble_eq_true rfl⟩).run) (fun r1 h1 => ?_)
  obtain rfl : r1 = f_current A (xs (i + 1)) := h1
  have hn := cur_nn (A := A) okA.inv (xs (i + 1))
  refine lv_f2d hx hb dL_law_763 (f2d_ok hn).1 ?_
  refine lv_dstore (lv' := [(4, .double (FP.f2d (f_current A (xs (i + 1))))), (0, .ref b), (1, .ref (o 0)), (2, .ref (a 0)), (3, .int (nI i))]) hx hb dL_law_764 hl (by decide) rfl (fun ls hl => ?_)
  refine lv_aload_n hx hb dL_law_766 rfl (lv_at hl 3 rfl) ?_
  refine lv_aload_n hx hb dL_law_767 rfl (lv_at hl 1 rfl) ?_
  refine lv_iload_n hx hb dL_law_768 rfl (lv_at hl 4 rfl) ?_
  refine lv_iconst (v := 1) hx hb dL_law_769 (by decide) ?_
  refine lv_iadd hx hb dL_law_770 ?_
  refine lv_as (y := nI (i + 1)) (nI_add i 1) ?_
  refine va_sld hx hb hX hbl hbA hS (r_in (k := i + 1) rfl (by omega) (by omega)) dL_law_771 ?_
  refine lv_as (y := xs (i + 1)) (by rw [nI_clamp (by omega)]) ?_
  refine vp_callSf ((va_runV (As := [.int (xs (i + 1))]) (rest := []) ⟨hx, hb, hml, hown, hts⟩ (mx_current l D ct a hB2 okB (xs (i + 1))) (cwV 1 hts gL_law_X6_current rfl rfl rfl (by decide +kernel) ⟨Nat.le_of_ble_eq_true rfl, Nat.le_of_ble_eq_true rfl⟩) ⟨roP.blind, mx_recv hK hP hB2, roP.at (pw_right hP) hK hN⟩ rfl rfl hl.1 rfl (lv_room (Nat.le_of_ble_eq_true rfl)) dL_law_772 ⟨Nat.le_of_ble_eq_true rfl, Nat.le_of_ble_eq_true rfl⟩).run) (fun r2 h2 => ?_)
  obtain rfl : r2 = f_current A (xs (i + 1)) := h2.trans (s_current hsim).symm
  refine lv_f2d hx hb dL_law_775 (f2d_ok hn).1 ?_
  refine lv_dstore (lv' := [(6, .double (FP.f2d (f_current A (xs (i + 1))))), (4, .double (FP.f2d (f_current A (xs (i + 1))))), (0, .ref b), (1, .ref (o 0)), (2, .ref (a 0)), (3, .int (nI i))]) hx hb dL_law_776 hl (by decide) rfl (fun ls hl => ?_)
  refine lv_dload hx hb dL_law_778 (lv_at hl 1 rfl) ?_
  refine lv_dload hx hb dL_law_780 (lv_at hl 0 rfl) ?_
  refine lv_dcmp hx hb dL_law_782 ?_
  refine lv_if_eq (tgt := 804) hx hb dL_law_783 (by decide) (fun _ => ?_) (fun c9 => absurd (f2d_ok hn).2 c9)
  refine lv_goto (tgt := 939) hx hb dL_law_804 (by decide) ?_
  exact K _ _ ⟨A, B, W1, W2, hA1, hB2, hsim, okA.mono (by omega), okB.mono (by omega), hP, hD, hS⟩ ls (lv_sub hl [2, 3, 4, 5] rfl)

set_option maxHeartbeats 400000 in
set_option maxRecDepth 100000 in
theorem lc_thousandths {p : Program} {e : Env} {s : State} {m : MethodId} {below : List Frame} {meth : Method} {c : Code} (l : Launch) {D : va_G} {ct : Nat → ClassId} {o : Nat → Nat} {ad : Nat → Nat → Nat} {a : Nat → Nat} {b L : Nat} {xs : Nat → Int32} (C : LC p s m meth c b L xs D ct) {i cnt : Nat} (hi : i + 4 ≤ L) (hc : cnt < 512) {H : Heap} {locs : List Loc} (hI : LI s D ct o ad a cnt H locs) {ls : Array Slot} (hl : lv_has ls 8 [(0, .ref b), (1, .ref (o 0)), (2, .ref (a 0)), (3, .int (nI i))])
    (K : ∀ (H : Heap) (locs : List Loc), LI s D ct o ad a (cnt + 1) H locs → ∀ ls : Array Slot, lv_has ls 8 [(0, .ref b), (1, .ref (o 0)), (2, .ref (a 0)), (3, .int (nI i))] → W p l e room_1 s m #[Value.ref b] below meth c H locs 600000 7302250 (lw_Z below #[Value.ref b] s) (F0 m 939 ls [])) : W p l e room_1 s m #[Value.ref b] below meth c H locs 600000 7302250 (lw_Z below #[Value.ref b] s) (F0 m 807 ls []) := by
  obtain ⟨hx, hb, hml, hown, hts, hX, hbl, hK, hN, hZ, hr, hlk, hL⟩ := C
  obtain ⟨A, B, W1, W2, hA1, hB2, hsim, okA, okB, hP, hD, hS⟩ := hI
  have hbA : ¬ s.heap.size ≤ b := Nat.not_le.mpr hbl
  have hA : ∀ q : Nat, s.heap.size ≤ q → (fun q : Nat => s.heap.size ≤ q) q := fun _ h => h
  refine lv_aload_n hx hb dL_law_807 rfl (lv_at hl 1 rfl) ?_
  refine lv_aload_n hx hb dL_law_808 rfl (lv_at hl 0 rfl) ?_
  refine lv_iload_n hx hb dL_law_809 rfl (lv_at hl 3 rfl) ?_
  refine lv_iconst (v := 1) hx hb dL_law_810 (by decide) ?_
  refine lv_iadd hx hb dL_law_811 ?_
  refine lv_as (y := nI (i + 1)) (nI_add i 1) ?_
  refine va_sld hx hb hX hbl hbA hS (r_in (k := i + 1) rfl (by omega) (by omega)) dL_law_812 ?_
  refine lv_as (y := xs (i + 1)) (by rw [nI_clamp (by omega)]) ?_
  have hF1 := w_free (wc := W1) hD (List.Perm.refl _) hS hA
  refine va_calli (va_runV (As := [.int (xs (i + 1))]) (rest := []) ⟨hx, hb, hml, hown, hts⟩ (cx_thousandths l D ct _ o ad hA1 okA (by omega) (xs (i + 1))) (cwV 1 hts gL_law_X5_thousandths rfl rfl rfl (by decide +kernel) ⟨Nat.le_of_ble_eq_true rfl, Nat.le_of_ble_eq_true rfl⟩) ⟨muPS.blind, cx_recv hK hP hA1, muPS.at hZ hS hF1 (pw_left hP) (dw_left hD) hK hN⟩ rfl rfl hl.1 rfl (lv_room (Nat.le_of_ble_eq_true rfl)) dL_law_813 ⟨Nat.le_of_ble_eq_true rfl, Nat.le_of_ble_eq_true rfl⟩) hS (fun q _ h => hF1 q h) hF1 (fun r1 V1 tt H1 locs1 ht hvm hr1 hB1 hz1 hk1 hS => ?_)
  obtain ⟨hP, hD⟩ := muE.join (ws' := V1 ++ W2) hP hD (List.Perm.refl _) (List.Perm.refl _) hk1 hF1 ht hB1
  refine lv_aload_n hx hb dL_law_816 rfl (lv_at hl 2 rfl) ?_
  refine lv_aload_n hx hb dL_law_817 rfl (lv_at hl 0 rfl) ?_
  refine lv_iload_n hx hb dL_law_818 rfl (lv_at hl 3 rfl) ?_
  refine lv_iconst (v := 1) hx hb dL_law_819 (by decide) ?_
  refine lv_iadd hx hb dL_law_820 ?_
  refine lv_as (y := nI (i + 1)) (nI_add i 1) ?_
  refine va_sld hx hb hX hbl hbA hS (r_in (k := i + 1) rfl (by omega) (by omega)) dL_law_821 ?_
  refine lv_as (y := xs (i + 1)) (by rw [nI_clamp (by omega)]) ?_
  have hF2 := w_free (wc := W2) hD List.perm_append_comm hS hA
  refine va_calli (va_runV (As := [.int (xs (i + 1))]) (rest := [.int r1]) ⟨hx, hb, hml, hown, hts⟩ (mx_thousandths l D ct _ a hB2 okB (by omega) (xs (i + 1))) (cwV 1 hts gL_law_X6_thousandths rfl rfl rfl (by decide +kernel) ⟨Nat.le_of_ble_eq_true rfl, Nat.le_of_ble_eq_true rfl⟩) ⟨muP.blind, mx_recv hK hP hB2, muP.at (pw_right hP) (dw_right hD) hK hN⟩ rfl rfl hl.1 rfl (lv_room (Nat.le_of_ble_eq_true rfl)) dL_law_822 ⟨Nat.le_of_ble_eq_true rfl, Nat.le_of_ble_eq_true rfl⟩) hS (fun q _ h => hF2 q h) hF2 (fun r2 V2 tt H1 locs1 ht hvm hr2 hB2 hz1 hk1 hS => ?_)
  obtain ⟨hP, hD⟩ := muE.join (ws' := V1 ++ V2) hP hD List.perm_append_comm List.perm_append_comm hk1 hF2 ht hB2
  have hs9 := s_thousandths (x := xs (i + 1)) hsim okA
  have oA := o_thousandths (x := xs (i + 1)) okA
  have oB := o_thousandths (x := xs (i + 1)) okB
  refine lv_icmp_eq (tgt := 939) hx hb dL_law_825 (by decide) (fun _ => ?_) (fun c9 => ?_)
  · exact K _ _ ⟨_, _, V1, V2, hr1.2, hr2.2, hs9.2, oA.mono (by omega), oB.mono (by omega), hP, hD, hS⟩ ls hl
  · exact absurd (hr1.1.trans (hs9.1.trans hr2.1.symm)) c9

set_option maxHeartbeats 400000 in
set_option maxRecDepth 100000 in
theorem lc_duty {p : Program} {e : Env} {s : State} {m : MethodId} {below : List Frame} {meth : Method} {c : Code} (l : Launch) {D : va_G} {ct : Nat → ClassId} {o : Nat → Nat} {ad : Nat → Nat → Nat} {a : Nat → Nat} {b L : Nat} {xs : Nat → Int32} (C : LC p s m meth c b L xs D ct) {i cnt : Nat} (hi : i + 4 ≤ L) (hc : cnt < 512) {H : Heap} {locs : List Loc} (hI : LI s D ct o ad a cnt H locs) {ls : Array Slot} (hl : lv_has ls 8 [(0, .ref b), (1, .ref (o 0)), (2, .ref (a 0)), (3, .int (nI i))])
    (K : ∀ (H : Heap) (locs : List Loc), LI s D ct o ad a (cnt + 1) H locs → ∀ ls : Array Slot, lv_has ls 8 [(0, .ref b), (1, .ref (o 0)), (2, .ref (a 0)), (3, .int (nI i))] → W p l e room_1 s m #[Value.ref b] below meth c H locs 600000 7302250 (lw_Z below #[Value.ref b] s) (F0 m 939 ls [])) : W p l e room_1 s m #[Value.ref b] below meth c H locs 600000 7302250 (lw_Z below #[Value.ref b] s) (F0 m 830 ls []) := by
  obtain ⟨hx, hb, hml, hown, hts, hX, hbl, hK, hN, hZ, hr, hlk, hL⟩ := C
  obtain ⟨A, B, W1, W2, hA1, hB2, hsim, okA, okB, hP, hD, hS⟩ := hI
  have hbA : ¬ s.heap.size ≤ b := Nat.not_le.mpr hbl
  have hA : ∀ q : Nat, s.heap.size ≤ q → (fun q : Nat => s.heap.size ≤ q) q := fun _ h => h
  refine lv_aload_n hx hb dL_law_830 rfl (lv_at hl 1 rfl) ?_
  refine lv_aload_n hx hb dL_law_831 rfl (lv_at hl 0 rfl) ?_
  refine lv_iload_n hx hb dL_law_832 rfl (lv_at hl 3 rfl) ?_
  refine lv_iconst (v := 1) hx hb dL_law_833 (by decide) ?_
  refine lv_iadd hx hb dL_law_834 ?_
  refine lv_as (y := nI (i + 1)) (nI_add i 1) ?_
  refine va_sld hx hb hX hbl hbA hS (r_in (k := i + 1) rfl (by omega) (by omega)) dL_law_835 ?_
  refine lv_as (y := xs (i + 1)) (by rw [nI_clamp (by omega)]) ?_
  refine vp_callSf ((va_runV (As := [.int (xs (i + 1))]) (rest := []) ⟨hx, hb, hml, hown, hts⟩ (cx_duty l D ct o ad hA1 okA (xs (i + 1))) (cwV 1 hts gL_law_X5_duty rfl rfl rfl (by decide +kernel) ⟨Nat.le_of_ble_eq_true rfl, Nat.le_of_ble_eq_true rfl⟩) ⟨roP.blind, cx_recv hK hP hA1, roP.at (pw_left hP) hK hN⟩ rfl rfl hl.1 rfl (lv_room (Nat.le_of_ble_eq_true rfl)) dL_law_836 ⟨Nat.le_of_ble_eq_true rfl, Nat.le_of_ble_eq_true rfl⟩).run) (fun r1 h1 => ?_)
  obtain rfl : r1 = f_duty A (xs (i + 1)) := h1
  have hn := duty_nn (A := A) (xs (i + 1))
  refine lv_f2d hx hb dL_law_839 (f2d_ok hn).1 ?_
  refine lv_dstore (lv' := [(4, .double (FP.f2d (f_duty A (xs (i + 1))))), (0, .ref b), (1, .ref (o 0)), (2, .ref (a 0)), (3, .int (nI i))]) hx hb dL_law_840 hl (by decide) rfl (fun ls hl => ?_)
  refine lv_aload_n hx hb dL_law_842 rfl (lv_at hl 3 rfl) ?_
  refine lv_aload_n hx hb dL_law_843 rfl (lv_at hl 1 rfl) ?_
  refine lv_iload_n hx hb dL_law_844 rfl (lv_at hl 4 rfl) ?_
  refine lv_iconst (v := 1) hx hb dL_law_845 (by decide) ?_
  refine lv_iadd hx hb dL_law_846 ?_
  refine lv_as (y := nI (i + 1)) (nI_add i 1) ?_
  refine va_sld hx hb hX hbl hbA hS (r_in (k := i + 1) rfl (by omega) (by omega)) dL_law_847 ?_
  refine lv_as (y := xs (i + 1)) (by rw [nI_clamp (by omega)]) ?_
  refine vp_callSf ((va_runV (As := [.int (xs (i + 1))]) (rest := []) ⟨hx, hb, hml, hown, hts⟩ (mx_duty l D ct a hB2 okB (xs (i + 1))) (cwV 1 hts gL_law_X6_duty rfl rfl rfl (by decide +kernel) ⟨Nat.le_of_ble_eq_true rfl, Nat.le_of_ble_eq_true rfl⟩) ⟨roP.blind, mx_recv hK hP hB2, roP.at (pw_right hP) hK hN⟩ rfl rfl hl.1 rfl (lv_room (Nat.le_of_ble_eq_true rfl)) dL_law_848 ⟨Nat.le_of_ble_eq_true rfl, Nat.le_of_ble_eq_true rfl⟩).run) (fun r2 h2 => ?_)
  obtain rfl : r2 = f_duty A (xs (i + 1)) := h2.trans (s_duty hsim okA).symm
  refine lv_f2d hx hb dL_law_851 (f2d_ok hn).1 ?_
  refine lv_dstore (lv' := [(6, .double (FP.f2d (f_duty A (xs (i + 1))))), (4, .double (FP.f2d (f_duty A (xs (i + 1))))), (0, .ref b), (1, .ref (o 0)), (2, .ref (a 0)), (3, .int (nI i))]) hx hb dL_law_852 hl (by decide) rfl (fun ls hl => ?_)
  refine lv_dload hx hb dL_law_854 (lv_at hl 1 rfl) ?_
  refine lv_dload hx hb dL_law_856 (lv_at hl 0 rfl) ?_
  refine lv_dcmp hx hb dL_law_858 ?_
  refine lv_if_eq (tgt := 880) hx hb dL_law_859 (by decide) (fun _ => ?_) (fun c9 => absurd (f2d_ok hn).2 c9)
  refine lv_goto (tgt := 939) hx hb dL_law_880 (by decide) ?_
  exact K _ _ ⟨A, B, W1, W2, hA1, hB2, hsim, okA.mono (by omega), okB.mono (by omega), hP, hD, hS⟩ ls (lv_sub hl [2, 3, 4, 5] rfl)

set_option maxHeartbeats 400000 in
set_option maxRecDepth 100000 in
theorem lc_count {p : Program} {e : Env} {s : State} {m : MethodId} {below : List Frame} {meth : Method} {c : Code} (l : Launch) {D : va_G} {ct : Nat → ClassId} {o : Nat → Nat} {ad : Nat → Nat → Nat} {a : Nat → Nat} {b L : Nat} {xs : Nat → Int32} (C : LC p s m meth c b L xs D ct) {i cnt : Nat} (hi : i + 4 ≤ L) (hc : cnt < 512) {H : Heap} {locs : List Loc} (hI : LI s D ct o ad a cnt H locs) {ls : Array Slot} (hl : lv_has ls 8 [(0, .ref b), (1, .ref (o 0)), (2, .ref (a 0)), (3, .int (nI i))])
    (K : ∀ (H : Heap) (locs : List Loc), LI s D ct o ad a (cnt + 1) H locs → ∀ ls : Array Slot, lv_has ls 8 [(0, .ref b), (1, .ref (o 0)), (2, .ref (a 0)), (3, .int (nI i))] → W p l e room_1 s m #[Value.ref b] below meth c H locs 600000 7302250 (lw_Z below #[Value.ref b] s) (F0 m 939 ls [])) : W p l e room_1 s m #[Value.ref b] below meth c H locs 600000 7302250 (lw_Z below #[Value.ref b] s) (F0 m 883 ls []) := by
  obtain ⟨hx, hb, hml, hown, hts, hX, hbl, hK, hN, hZ, hr, hlk, hL⟩ := C
  obtain ⟨A, B, W1, W2, hA1, hB2, hsim, okA, okB, hP, hD, hS⟩ := hI
  have hbA : ¬ s.heap.size ≤ b := Nat.not_le.mpr hbl
  have hA : ∀ q : Nat, s.heap.size ≤ q → (fun q : Nat => s.heap.size ≤ q) q := fun _ h => h
  refine lv_aload_n hx hb dL_law_883 rfl (lv_at hl 1 rfl) ?_
  refine lv_aload_n hx hb dL_law_884 rfl (lv_at hl 0 rfl) ?_
  refine lv_iload_n hx hb dL_law_885 rfl (lv_at hl 3 rfl) ?_
  refine lv_iconst (v := 1) hx hb dL_law_886 (by decide) ?_
  refine lv_iadd hx hb dL_law_887 ?_
  refine lv_as (y := nI (i + 1)) (nI_add i 1) ?_
  refine va_sld hx hb hX hbl hbA hS (r_in (k := i + 1) rfl (by omega) (by omega)) dL_law_888 ?_
  refine lv_as (y := xs (i + 1)) (by rw [nI_clamp (by omega)]) ?_
  have hF1 := w_free (wc := W1) hD (List.Perm.refl _) hS hA
  refine va_calli (va_runV (As := [.int (xs (i + 1))]) (rest := []) ⟨hx, hb, hml, hown, hts⟩ (cx_count l D ct _ o ad hA1 okA (by omega) (xs (i + 1))) (cwV 1 hts gL_law_X5_count rfl rfl rfl (by decide +kernel) ⟨Nat.le_of_ble_eq_true rfl, Nat.le_of_ble_eq_true rfl⟩) ⟨muPS.blind, cx_recv hK hP hA1, muPS.at hZ hS hF1 (pw_left hP) (dw_left hD) hK hN⟩ rfl rfl hl.1 rfl (lv_room (Nat.le_of_ble_eq_true rfl)) dL_law_889 ⟨Nat.le_of_ble_eq_true rfl, Nat.le_of_ble_eq_true rfl⟩) hS (fun q _ h => hF1 q h) hF1 (fun r1 V1 tt H1 locs1 ht hvm hr1 hB1 hz1 hk1 hS => ?_)
  obtain ⟨hP, hD⟩ := muE.join (ws' := V1 ++ W2) hP hD (List.Perm.refl _) (List.Perm.refl _) hk1 hF1 ht hB1
  refine lv_aload_n hx hb dL_law_892 rfl (lv_at hl 2 rfl) ?_
  refine lv_aload_n hx hb dL_law_893 rfl (lv_at hl 0 rfl) ?_
  refine lv_iload_n hx hb dL_law_894 rfl (lv_at hl 3 rfl) ?_
  refine lv_iconst (v := 1) hx hb dL_law_895 (by decide) ?_
  refine lv_iadd hx hb dL_law_896 ?_
  refine lv_as (y := nI (i + 1)) (nI_add i 1) ?_
  refine va_sld hx hb hX hbl hbA hS (r_in (k := i + 1) rfl (by omega) (by omega)) dL_law_897 ?_
  refine lv_as (y := xs (i + 1)) (by rw [nI_clamp (by omega)]) ?_
  have hF2 := w_free (wc := W2) hD List.perm_append_comm hS hA
  refine va_calli (va_runV (As := [.int (xs (i + 1))]) (rest := [.int r1]) ⟨hx, hb, hml, hown, hts⟩ (mx_count l D ct _ a hB2 okB (by omega) (xs (i + 1))) (cwV 1 hts gL_law_X6_count rfl rfl rfl (by decide +kernel) ⟨Nat.le_of_ble_eq_true rfl, Nat.le_of_ble_eq_true rfl⟩) ⟨muP.blind, mx_recv hK hP hB2, muP.at (pw_right hP) (dw_right hD) hK hN⟩ rfl rfl hl.1 rfl (lv_room (Nat.le_of_ble_eq_true rfl)) dL_law_898 ⟨Nat.le_of_ble_eq_true rfl, Nat.le_of_ble_eq_true rfl⟩) hS (fun q _ h => hF2 q h) hF2 (fun r2 V2 tt H1 locs1 ht hvm hr2 hB2 hz1 hk1 hS => ?_)
  obtain ⟨hP, hD⟩ := muE.join (ws' := V1 ++ V2) hP hD List.perm_append_comm List.perm_append_comm hk1 hF2 ht hB2
  have hs9 := s_count (x := xs (i + 1)) hsim okA
  have oA := o_count (x := xs (i + 1)) okA
  have oB := o_count (x := xs (i + 1)) okB
  refine lv_icmp_eq (tgt := 939) hx hb dL_law_901 (by decide) (fun _ => ?_) (fun c9 => ?_)
  · exact K _ _ ⟨_, _, V1, V2, hr1.2, hr2.2, hs9.2, oA.mono (by omega), oB.mono (by omega), hP, hD, hS⟩ ls hl
  · exact absurd (hr1.1.trans (hs9.1.trans hr2.1.symm)) c9

set_option maxHeartbeats 400000 in
set_option maxRecDepth 100000 in
theorem lc_group {p : Program} {e : Env} {s : State} {m : MethodId} {below : List Frame} {meth : Method} {c : Code} (l : Launch) {D : va_G} {ct : Nat → ClassId} {o : Nat → Nat} {ad : Nat → Nat → Nat} {a : Nat → Nat} {b L : Nat} {xs : Nat → Int32} (C : LC p s m meth c b L xs D ct) {i cnt : Nat} (hi : i + 4 ≤ L) (hc : cnt < 512) {H : Heap} {locs : List Loc} (hI : LI s D ct o ad a cnt H locs) {ls : Array Slot} (hl : lv_has ls 8 [(0, .ref b), (1, .ref (o 0)), (2, .ref (a 0)), (3, .int (nI i))])
    (K : ∀ (H : Heap) (locs : List Loc), LI s D ct o ad a (cnt + 1) H locs → ∀ ls : Array Slot, lv_has ls 8 [(0, .ref b), (1, .ref (o 0)), (2, .ref (a 0)), (3, .int (nI i))] → W p l e room_1 s m #[Value.ref b] below meth c H locs 600000 7302250 (lw_Z below #[Value.ref b] s) (F0 m 939 ls [])) : W p l e room_1 s m #[Value.ref b] below meth c H locs 600000 7302250 (lw_Z below #[Value.ref b] s) (F0 m 906 ls []) := by
  obtain ⟨hx, hb, hml, hown, hts, hX, hbl, hK, hN, hZ, hr, hlk, hL⟩ := C
  obtain ⟨A, B, W1, W2, hA1, hB2, hsim, okA, okB, hP, hD, hS⟩ := hI
  have hbA : ¬ s.heap.size ≤ b := Nat.not_le.mpr hbl
  have hA : ∀ q : Nat, s.heap.size ≤ q → (fun q : Nat => s.heap.size ≤ q) q := fun _ h => h
  refine lv_aload_n hx hb dL_law_906 rfl (lv_at hl 1 rfl) ?_
  refine lv_aload_n hx hb dL_law_907 rfl (lv_at hl 0 rfl) ?_
  refine lv_iload_n hx hb dL_law_908 rfl (lv_at hl 3 rfl) ?_
  refine lv_iconst (v := 1) hx hb dL_law_909 (by decide) ?_
  refine lv_iadd hx hb dL_law_910 ?_
  refine lv_as (y := nI (i + 1)) (nI_add i 1) ?_
  refine va_sld hx hb hX hbl hbA hS (r_in (k := i + 1) rfl (by omega) (by omega)) dL_law_911 ?_
  refine lv_as (y := xs (i + 1)) (by rw [nI_clamp (by omega)]) ?_
  refine lv_aload_n hx hb dL_law_912 rfl (lv_at hl 0 rfl) ?_
  refine lv_iload_n hx hb dL_law_913 rfl (lv_at hl 3 rfl) ?_
  refine lv_iconst (v := 2) hx hb dL_law_914 (by decide) ?_
  refine lv_iadd hx hb dL_law_915 ?_
  refine lv_as (y := nI (i + 2)) (nI_add i 2) ?_
  refine va_sld hx hb hX hbl hbA hS (r_in (k := i + 2) rfl (by omega) (by omega)) dL_law_916 ?_
  refine lv_as (y := xs (i + 2)) (by rw [nI_clamp (by omega)]) ?_
  have hF1 := w_free (wc := W1) hD (List.Perm.refl _) hS hA
  refine va_calli (va_runV (As := [.int (xs (i + 1)), .int (xs (i + 2))]) (rest := []) ⟨hx, hb, hml, hown, hts⟩ (cx_group l D ct _ o ad hA1 okA (by omega) (xs (i + 1)) (xs (i + 2))) (cwV 2 hts gL_law_X5_group rfl rfl rfl (by decide +kernel) ⟨Nat.le_of_ble_eq_true rfl, Nat.le_of_ble_eq_true rfl⟩) ⟨muPS.blind, cx_recv hK hP hA1, muPS.at hZ hS hF1 (pw_left hP) (dw_left hD) hK hN⟩ rfl rfl hl.1 rfl (lv_room (Nat.le_of_ble_eq_true rfl)) dL_law_917 ⟨Nat.le_of_ble_eq_true rfl, Nat.le_of_ble_eq_true rfl⟩) hS (fun q _ h => hF1 q h) hF1 (fun r1 V1 tt H1 locs1 ht hvm hr1 hB1 hz1 hk1 hS => ?_)
  obtain ⟨hP, hD⟩ := muE.join (ws' := V1 ++ W2) hP hD (List.Perm.refl _) (List.Perm.refl _) hk1 hF1 ht hB1
  refine lv_aload_n hx hb dL_law_920 rfl (lv_at hl 2 rfl) ?_
  refine lv_aload_n hx hb dL_law_921 rfl (lv_at hl 0 rfl) ?_
  refine lv_iload_n hx hb dL_law_922 rfl (lv_at hl 3 rfl) ?_
  refine lv_iconst (v := 1) hx hb dL_law_923 (by decide) ?_
  refine lv_iadd hx hb dL_law_924 ?_
  refine lv_as (y := nI (i + 1)) (nI_add i 1) ?_
  refine va_sld hx hb hX hbl hbA hS (r_in (k := i + 1) rfl (by omega) (by omega)) dL_law_925 ?_
  refine lv_as (y := xs (i + 1)) (by rw [nI_clamp (by omega)]) ?_
  refine lv_aload_n hx hb dL_law_926 rfl (lv_at hl 0 rfl) ?_
  refine lv_iload_n hx hb dL_law_927 rfl (lv_at hl 3 rfl) ?_
  refine lv_iconst (v := 2) hx hb dL_law_928 (by decide) ?_
  refine lv_iadd hx hb dL_law_929 ?_
  refine lv_as (y := nI (i + 2)) (nI_add i 2) ?_
  refine va_sld hx hb hX hbl hbA hS (r_in (k := i + 2) rfl (by omega) (by omega)) dL_law_930 ?_
  refine lv_as (y := xs (i + 2)) (by rw [nI_clamp (by omega)]) ?_
  have hF2 := w_free (wc := W2) hD List.perm_append_comm hS hA
  refine va_calli (va_runV (As := [.int (xs (i + 1)), .int (xs (i + 2))]) (rest := [.int r1]) ⟨hx, hb, hml, hown, hts⟩ (mx_group l D ct _ a hB2 okB (by omega) (xs (i + 1)) (xs (i + 2))) (cwV 2 hts gL_law_X6_group rfl rfl rfl (by decide +kernel) ⟨Nat.le_of_ble_eq_true rfl, Nat.le_of_ble_eq_true rfl⟩) ⟨muP.blind, mx_recv hK hP hB2, muP.at (pw_right hP) (dw_right hD) hK hN⟩ rfl rfl hl.1 rfl (lv_room (Nat.le_of_ble_eq_true rfl)) dL_law_931 ⟨Nat.le_of_ble_eq_true rfl, Nat.le_of_ble_eq_true rfl⟩) hS (fun q _ h => hF2 q h) hF2 (fun r2 V2 tt H1 locs1 ht hvm hr2 hB2 hz1 hk1 hS => ?_)
  obtain ⟨hP, hD⟩ := muE.join (ws' := V1 ++ V2) hP hD List.perm_append_comm List.perm_append_comm hk1 hF2 ht hB2
  have hs9 := s_group (x := xs (i + 1)) (y := xs (i + 2)) hsim okA
  have oA := o_group (x := xs (i + 1)) (y := xs (i + 2)) okA
  have oB := o_group (x := xs (i + 1)) (y := xs (i + 2)) okB
  refine lv_icmp_eq (tgt := 939) hx hb dL_law_934 (by decide) (fun _ => ?_) (fun c9 => ?_)
  · exact K _ _ ⟨_, _, V1, V2, hr1.2, hr2.2, hs9.2, oA.mono (by omega), oB.mono (by omega), hP, hD, hS⟩ ls hl
  · exact absurd (hr1.1.trans (hs9.1.trans hr2.1.symm)) c9
