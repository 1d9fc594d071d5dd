/-! the law: a case each -/
set_option maxHeartbeats 400000 in
set_option maxRecDepth 100000 in
theorem lc_setDigits {p : Program} {e : Env} {s : State} {m : MethodId} {below : List Frame} {meth : Method} {c : Code} (l : Launch) {D : va_G} {ct : Nat → ClassId} {o : Nat → Nat} {ad : Nat → Nat → Nat} {a : Nat → Nat} {b L : Nat} {xs : Nat → Int32} (C : LC p s m meth c b L xs D ct) {i cnt : Nat} (hi : i + 4 ≤ L) (hc : cnt < 512) {H : Heap} {locs : List Loc} (hI : LI s D ct o ad a cnt H locs) {ls : Array Slot} (hl : lv_has ls 8 [(0, .ref b), (1, .ref (o 0)), (2, .ref (a 0)), (3, .int (nI i))])
    (K : ∀ (H : Heap) (locs : List Loc), LI s D ct o ad a (cnt + 1) H locs → ∀ ls : Array Slot, lv_has ls 8 [(0, .ref b), (1, .ref (o 0)), (2, .ref (a 0)), (3, .int (nI i))] → W p l e room_1 s m #[Value.ref b] below meth c H locs 600000 7302250 (lw_Z below #[Value.ref b] s) (F0 m 939 ls [])) : W p l e room_1 s m #[Value.ref b] below meth c H locs 600000 7302250 (lw_Z below #[Value.ref b] s) (F0 m 156 ls []) := by
  obtain ⟨hx, hb, hml, hown, hts, hX, hbl, hK, hN, hZ, hr, hlk, hL⟩ := C
  obtain ⟨A, B, W1, W2, hA1, hB2, hsim, okA, okB, hP, hD, hS⟩ := hI
  have hbA : ¬ s.heap.size ≤ b := Nat.not_le.mpr hbl
  have hA : ∀ q : Nat, s.heap.size ≤ q → (fun q : Nat => s.heap.size ≤ q) q := fun _ h => h
  refine lv_aload_n hx hb dL_law_156 rfl (lv_at hl 1 rfl) ?_
  refine lv_aload_n hx hb dL_law_157 rfl (lv_at hl 0 rfl) ?_
  refine lv_iload_n hx hb dL_law_158 rfl (lv_at hl 3 rfl) ?_
  refine lv_iconst (v := 1) hx hb dL_law_159 (by decide) ?_
  refine lv_iadd hx hb dL_law_160 ?_
  refine lv_as (y := nI (i + 1)) (nI_add i 1) ?_
  refine va_sld hx hb hX hbl hbA hS (r_in (k := i + 1) rfl (by omega) (by omega)) dL_law_161 ?_
  refine lv_as (y := xs (i + 1)) (by rw [nI_clamp (by omega)]) ?_
  have hF1 := w_free (wc := W1) hD (List.Perm.refl _) hS hA
  refine va_calli (va_runV (As := [.int (xs (i + 1))]) (rest := []) ⟨hx, hb, hml, hown, hts⟩ (cx_setDigits l D ct _ o ad hA1 okA (by omega) (xs (i + 1))) (cwV 1 hts gL_law_X5_setDigits rfl rfl rfl (by decide +kernel) ⟨Nat.le_of_ble_eq_true rfl, Nat.le_of_ble_eq_true rfl⟩) ⟨muPS.blind, cx_recv hK hP hA1, muPS.at hZ hS hF1 (pw_left hP) (dw_left hD) hK hN⟩ rfl rfl hl.1 rfl (lv_room (Nat.le_of_ble_eq_true rfl)) dL_law_162 ⟨Nat.le_of_ble_eq_true rfl, Nat.le_of_ble_eq_true rfl⟩) hS (fun q _ h => hF1 q h) hF1 (fun r1 V1 tt H1 locs1 ht hvm hr1 hB1 hz1 hk1 hS => ?_)
  obtain ⟨hP, hD⟩ := muE.join (ws' := V1 ++ W2) hP hD (List.Perm.refl _) (List.Perm.refl _) hk1 hF1 ht hB1
  refine lv_aload_n hx hb dL_law_165 rfl (lv_at hl 2 rfl) ?_
  refine lv_aload_n hx hb dL_law_166 rfl (lv_at hl 0 rfl) ?_
  refine lv_iload_n hx hb dL_law_167 rfl (lv_at hl 3 rfl) ?_
  refine lv_iconst (v := 1) hx hb dL_law_168 (by decide) ?_
  refine lv_iadd hx hb dL_law_169 ?_
  refine lv_as (y := nI (i + 1)) (nI_add i 1) ?_
  refine va_sld hx hb hX hbl hbA hS (r_in (k := i + 1) rfl (by omega) (by omega)) dL_law_170 ?_
  refine lv_as (y := xs (i + 1)) (by rw [nI_clamp (by omega)]) ?_
  have hF2 := w_free (wc := W2) hD List.perm_append_comm hS hA
  refine va_calli (va_runV (As := [.int (xs (i + 1))]) (rest := [.int r1]) ⟨hx, hb, hml, hown, hts⟩ (mx_setDigits l D ct _ a hB2 okB (by omega) (xs (i + 1))) (cwV 1 hts gL_law_X6_setDigits rfl rfl rfl (by decide +kernel) ⟨Nat.le_of_ble_eq_true rfl, Nat.le_of_ble_eq_true rfl⟩) ⟨muP.blind, mx_recv hK hP hB2, muP.at (pw_right hP) (dw_right hD) hK hN⟩ rfl rfl hl.1 rfl (lv_room (Nat.le_of_ble_eq_true rfl)) dL_law_171 ⟨Nat.le_of_ble_eq_true rfl, Nat.le_of_ble_eq_true rfl⟩) hS (fun q _ h => hF2 q h) hF2 (fun r2 V2 tt H1 locs1 ht hvm hr2 hB2 hz1 hk1 hS => ?_)
  obtain ⟨hP, hD⟩ := muE.join (ws' := V1 ++ V2) hP hD List.perm_append_comm List.perm_append_comm hk1 hF2 ht hB2
  have hs9 := s_setDigits (x := xs (i + 1)) hsim okA
  have oA := o_setDigits (x := xs (i + 1)) okA
  have oB := o_setDigits (x := xs (i + 1)) okB
  refine lv_icmp_eq (tgt := 939) hx hb dL_law_174 (by decide) (fun _ => ?_) (fun c9 => ?_)
  · exact K _ _ ⟨_, _, V1, V2, hr1.2, hr2.2, hs9.2, oA.mono (by omega), oB.mono (by omega), hP, hD, hS⟩ ls hl
  · exact absurd (hr1.1.trans (hs9.1.trans hr2.1.symm)) c9

set_option maxHeartbeats 400000 in
set_option maxRecDepth 100000 in
theorem lc_setWidth {p : Program} {e : Env} {s : State} {m : MethodId} {below : List Frame} {meth : Method} {c : Code} (l : Launch) {D : va_G} {ct : Nat → ClassId} {o : Nat → Nat} {ad : Nat → Nat → Nat} {a : Nat → Nat} {b L : Nat} {xs : Nat → Int32} (C : LC p s m meth c b L xs D ct) {i cnt : Nat} (hi : i + 4 ≤ L) (hc : cnt < 512) {H : Heap} {locs : List Loc} (hI : LI s D ct o ad a cnt H locs) {ls : Array Slot} (hl : lv_has ls 8 [(0, .ref b), (1, .ref (o 0)), (2, .ref (a 0)), (3, .int (nI i))])
    (K : ∀ (H : Heap) (locs : List Loc), LI s D ct o ad a (cnt + 1) H locs → ∀ ls : Array Slot, lv_has ls 8 [(0, .ref b), (1, .ref (o 0)), (2, .ref (a 0)), (3, .int (nI i))] → W p l e room_1 s m #[Value.ref b] below meth c H locs 600000 7302250 (lw_Z below #[Value.ref b] s) (F0 m 939 ls [])) : W p l e room_1 s m #[Value.ref b] below meth c H locs 600000 7302250 (lw_Z below #[Value.ref b] s) (F0 m 179 ls []) := by
  obtain ⟨hx, hb, hml, hown, hts, hX, hbl, hK, hN, hZ, hr, hlk, hL⟩ := C
  obtain ⟨A, B, W1, W2, hA1, hB2, hsim, okA, okB, hP, hD, hS⟩ := hI
  have hbA : ¬ s.heap.size ≤ b := Nat.not_le.mpr hbl
  have hA : ∀ q : Nat, s.heap.size ≤ q → (fun q : Nat => s.heap.size ≤ q) q := fun _ h => h
  refine lv_aload_n hx hb dL_law_179 rfl (lv_at hl 1 rfl) ?_
  refine lv_aload_n hx hb dL_law_180 rfl (lv_at hl 0 rfl) ?_
  refine lv_iload_n hx hb dL_law_181 rfl (lv_at hl 3 rfl) ?_
  refine lv_iconst (v := 1) hx hb dL_law_182 (by decide) ?_
  refine lv_iadd hx hb dL_law_183 ?_
  refine lv_as (y := nI (i + 1)) (nI_add i 1) ?_
  refine va_sld hx hb hX hbl hbA hS (r_in (k := i + 1) rfl (by omega) (by omega)) dL_law_184 ?_
  refine lv_as (y := xs (i + 1)) (by rw [nI_clamp (by omega)]) ?_
  refine lv_aload_n hx hb dL_law_185 rfl (lv_at hl 0 rfl) ?_
  refine lv_iload_n hx hb dL_law_186 rfl (lv_at hl 3 rfl) ?_
  refine lv_iconst (v := 2) hx hb dL_law_187 (by decide) ?_
  refine lv_iadd hx hb dL_law_188 ?_
  refine lv_as (y := nI (i + 2)) (nI_add i 2) ?_
  refine va_sld hx hb hX hbl hbA hS (r_in (k := i + 2) rfl (by omega) (by omega)) dL_law_189 ?_
  refine lv_as (y := xs (i + 2)) (by rw [nI_clamp (by omega)]) ?_
  have hF1 := w_free (wc := W1) hD (List.Perm.refl _) hS hA
  refine va_calli (va_runV (As := [.int (xs (i + 1)), .int (xs (i + 2))]) (rest := []) ⟨hx, hb, hml, hown, hts⟩ (cx_setWidth l D ct _ o ad hA1 okA (by omega) (xs (i + 1)) (xs (i + 2))) (cwV 2 hts gL_law_X5_setWidth rfl rfl rfl (by decide +kernel) ⟨Nat.le_of_ble_eq_true rfl, Nat.le_of_ble_eq_true rfl⟩) ⟨muPS.blind, cx_recv hK hP hA1, muPS.at hZ hS hF1 (pw_left hP) (dw_left hD) hK hN⟩ rfl rfl hl.1 rfl (lv_room (Nat.le_of_ble_eq_true rfl)) dL_law_190 ⟨Nat.le_of_ble_eq_true rfl, Nat.le_of_ble_eq_true rfl⟩) hS (fun q _ h => hF1 q h) hF1 (fun r1 V1 tt H1 locs1 ht hvm hr1 hB1 hz1 hk1 hS => ?_)
  obtain ⟨hP, hD⟩ := muE.join (ws' := V1 ++ W2) hP hD (List.Perm.refl _) (List.Perm.refl _) hk1 hF1 ht hB1
  refine lv_aload_n hx hb dL_law_193 rfl (lv_at hl 2 rfl) ?_
  refine lv_aload_n hx hb dL_law_194 rfl (lv_at hl 0 rfl) ?_
  refine lv_iload_n hx hb dL_law_195 rfl (lv_at hl 3 rfl) ?_
  refine lv_iconst (v := 1) hx hb dL_law_196 (by decide) ?_
  refine lv_iadd hx hb dL_law_197 ?_
  refine lv_as (y := nI (i + 1)) (nI_add i 1) ?_
  refine va_sld hx hb hX hbl hbA hS (r_in (k := i + 1) rfl (by omega) (by omega)) dL_law_198 ?_
  refine lv_as (y := xs (i + 1)) (by rw [nI_clamp (by omega)]) ?_
  refine lv_aload_n hx hb dL_law_199 rfl (lv_at hl 0 rfl) ?_
  refine lv_iload_n hx hb dL_law_200 rfl (lv_at hl 3 rfl) ?_
  refine lv_iconst (v := 2) hx hb dL_law_201 (by decide) ?_
  refine lv_iadd hx hb dL_law_202 ?_
  refine lv_as (y := nI (i + 2)) (nI_add i 2) ?_
  refine va_sld hx hb hX hbl hbA hS (r_in (k := i + 2) rfl (by omega) (by omega)) dL_law_203 ?_
  refine lv_as (y := xs (i + 2)) (by rw [nI_clamp (by omega)]) ?_
  have hF2 := w_free (wc := W2) hD List.perm_append_comm hS hA
  refine va_calli (va_runV (As := [.int (xs (i + 1)), .int (xs (i + 2))]) (rest := [.int r1]) ⟨hx, hb, hml, hown, hts⟩ (mx_setWidth l D ct _ a hB2 okB (by omega) (xs (i + 1)) (xs (i + 2))) (cwV 2 hts gL_law_X6_setWidth rfl rfl rfl (by decide +kernel) ⟨Nat.le_of_ble_eq_true rfl, Nat.le_of_ble_eq_true rfl⟩) ⟨muP.blind, mx_recv hK hP hB2, muP.at (pw_right hP) (dw_right hD) hK hN⟩ rfl rfl hl.1 rfl (lv_room (Nat.le_of_ble_eq_true rfl)) dL_law_204 ⟨Nat.le_of_ble_eq_true rfl, Nat.le_of_ble_eq_true rfl⟩) hS (fun q _ h => hF2 q h) hF2 (fun r2 V2 tt H1 locs1 ht hvm hr2 hB2 hz1 hk1 hS => ?_)
  obtain ⟨hP, hD⟩ := muE.join (ws' := V1 ++ V2) hP hD List.perm_append_comm List.perm_append_comm hk1 hF2 ht hB2
  have hs9 := s_setWidth (x := xs (i + 1)) (y := xs (i + 2)) hsim okA
  have oA := o_setWidth (x := xs (i + 1)) (y := xs (i + 2)) okA
  have oB := o_setWidth (x := xs (i + 1)) (y := xs (i + 2)) okB
  refine lv_icmp_eq (tgt := 939) hx hb dL_law_207 (by decide) (fun _ => ?_) (fun c9 => ?_)
  · exact K _ _ ⟨_, _, V1, V2, hr1.2, hr2.2, hs9.2, oA.mono (by omega), oB.mono (by omega), hP, hD, hS⟩ ls hl
  · exact absurd (hr1.1.trans (hs9.1.trans hr2.1.symm)) c9

set_option maxHeartbeats 400000 in
set_option maxRecDepth 100000 in
theorem lc_setGuard {p : Program} {e : Env} {s : State} {m : MethodId} {below : List Frame} {meth : Method} {c : Code} (l : Launch) {D : va_G} {ct : Nat → ClassId} {o : Nat → Nat} {ad : Nat → Nat → Nat} {a : Nat → Nat} {b L : Nat} {xs : Nat → Int32} (C : LC p s m meth c b L xs D ct) {i cnt : Nat} (hi : i + 4 ≤ L) (hc : cnt < 512) {H : Heap} {locs : List Loc} (hI : LI s D ct o ad a cnt H locs) {ls : Array Slot} (hl : lv_has ls 8 [(0, .ref b), (1, .ref (o 0)), (2, .ref (a 0)), (3, .int (nI i))])
    (K : ∀ (H : Heap) (locs : List Loc), LI s D ct o ad a (cnt + 1) H locs → ∀ ls : Array Slot, lv_has ls 8 [(0, .ref b), (1, .ref (o 0)), (2, .ref (a 0)), (3, .int (nI i))] → W p l e room_1 s m #[Value.ref b] below meth c H locs 600000 7302250 (lw_Z below #[Value.ref b] s) (F0 m 939 ls [])) : W p l e room_1 s m #[Value.ref b] below meth c H locs 600000 7302250 (lw_Z below #[Value.ref b] s) (F0 m 212 ls []) := by
  obtain ⟨hx, hb, hml, hown, hts, hX, hbl, hK, hN, hZ, hr, hlk, hL⟩ := C
  obtain ⟨A, B, W1, W2, hA1, hB2, hsim, okA, okB, hP, hD, hS⟩ := hI
  have hbA : ¬ s.heap.size ≤ b := Nat.not_le.mpr hbl
  have hA : ∀ q : Nat, s.heap.size ≤ q → (fun q : Nat => s.heap.size ≤ q) q := fun _ h => h
  refine lv_aload_n hx hb dL_law_212 rfl (lv_at hl 1 rfl) ?_
  refine lv_aload_n hx hb dL_law_213 rfl (lv_at hl 0 rfl) ?_
  refine lv_iload_n hx hb dL_law_214 rfl (lv_at hl 3 rfl) ?_
  refine lv_iconst (v := 1) hx hb dL_law_215 (by decide) ?_
  refine lv_iadd hx hb dL_law_216 ?_
  refine lv_as (y := nI (i + 1)) (nI_add i 1) ?_
  refine va_sld hx hb hX hbl hbA hS (r_in (k := i + 1) rfl (by omega) (by omega)) dL_law_217 ?_
  refine lv_as (y := xs (i + 1)) (by rw [nI_clamp (by omega)]) ?_
  refine lv_aload_n hx hb dL_law_218 rfl (lv_at hl 0 rfl) ?_
  refine lv_iload_n hx hb dL_law_219 rfl (lv_at hl 3 rfl) ?_
  refine lv_iconst (v := 2) hx hb dL_law_220 (by decide) ?_
  refine lv_iadd hx hb dL_law_221 ?_
  refine lv_as (y := nI (i + 2)) (nI_add i 2) ?_
  refine va_sld hx hb hX hbl hbA hS (r_in (k := i + 2) rfl (by omega) (by omega)) dL_law_222 ?_
  refine lv_as (y := xs (i + 2)) (by rw [nI_clamp (by omega)]) ?_
  have hF1 := w_free (wc := W1) hD (List.Perm.refl _) hS hA
  refine va_calli (va_runV (As := [.int (xs (i + 1)), .int (xs (i + 2))]) (rest := []) ⟨hx, hb, hml, hown, hts⟩ (cx_setGuard l D ct _ o ad hA1 okA (by omega) (xs (i + 1)) (xs (i + 2))) (cwV 2 hts gL_law_X5_setGuard rfl rfl rfl (by decide +kernel) ⟨Nat.le_of_ble_eq_true rfl, Nat.le_of_ble_eq_true rfl⟩) ⟨muPS.blind, cx_recv hK hP hA1, muPS.at hZ hS hF1 (pw_left hP) (dw_left hD) hK hN⟩ rfl rfl hl.1 rfl (lv_room (Nat.le_of_ble_eq_true rfl)) dL_law_223 ⟨Nat.le_of_ble_eq_true rfl, Nat.le_of_ble_eq_true rfl⟩) hS (fun q _ h => hF1 q h) hF1 (fun r1 V1 tt H1 locs1 ht hvm hr1 hB1 hz1 hk1 hS => ?_)
  obtain ⟨hP, hD⟩ := muE.join (ws' := V1 ++ W2) hP hD (List.Perm.refl _) (List.Perm.refl _) hk1 hF1 ht hB1
  refine lv_aload_n hx hb dL_law_226 rfl (lv_at hl 2 rfl) ?_
  refine lv_aload_n hx hb dL_law_227 rfl (lv_at hl 0 rfl) ?_
  refine lv_iload_n hx hb dL_law_228 rfl (lv_at hl 3 rfl) ?_
  refine lv_iconst (v := 1) hx hb dL_law_229 (by decide) ?_
  refine lv_iadd hx hb dL_law_230 ?_
  refine lv_as (y := nI (i + 1)) (nI_add i 1) ?_
  refine va_sld hx hb hX hbl hbA hS (r_in (k := i + 1) rfl (by omega) (by omega)) dL_law_231 ?_
  refine lv_as (y := xs (i + 1)) (by rw [nI_clamp (by omega)]) ?_
  refine lv_aload_n hx hb dL_law_232 rfl (lv_at hl 0 rfl) ?_
  refine lv_iload_n hx hb dL_law_233 rfl (lv_at hl 3 rfl) ?_
  refine lv_iconst (v := 2) hx hb dL_law_234 (by decide) ?_
  refine lv_iadd hx hb dL_law_235 ?_
  refine lv_as (y := nI (i + 2)) (nI_add i 2) ?_
  refine va_sld hx hb hX hbl hbA hS (r_in (k := i + 2) rfl (by omega) (by omega)) dL_law_236 ?_
  refine lv_as (y := xs (i + 2)) (by rw [nI_clamp (by omega)]) ?_
  have hF2 := w_free (wc := W2) hD List.perm_append_comm hS hA
  refine va_calli (va_runV (As := [.int (xs (i + 1)), .int (xs (i + 2))]) (rest := [.int r1]) ⟨hx, hb, hml, hown, hts⟩ (mx_setGuard l D ct _ a hB2 okB (by omega) (xs (i + 1)) (xs (i + 2))) (cwV 2 hts gL_law_X6_setGuard rfl rfl rfl (by decide +kernel) ⟨Nat.le_of_ble_eq_true rfl, Nat.le_of_ble_eq_true rfl⟩) ⟨muP.blind, mx_recv hK hP hB2, muP.at (pw_right hP) (dw_right hD) hK hN⟩ rfl rfl hl.1 rfl (lv_room (Nat.le_of_ble_eq_true rfl)) dL_law_237 ⟨Nat.le_of_ble_eq_true rfl, Nat.le_of_ble_eq_true rfl⟩) hS (fun q _ h => hF2 q h) hF2 (fun r2 V2 tt H1 locs1 ht hvm hr2 hB2 hz1 hk1 hS => ?_)
  obtain ⟨hP, hD⟩ := muE.join (ws' := V1 ++ V2) hP hD List.perm_append_comm List.perm_append_comm hk1 hF2 ht hB2
  have hs9 := s_setGuard (x := xs (i + 1)) (y := xs (i + 2)) hsim okA
  have oA := o_setGuard (x := xs (i + 1)) (y := xs (i + 2)) okA
  have oB := o_setGuard (x := xs (i + 1)) (y := xs (i + 2)) okB
  refine lv_icmp_eq (tgt := 939) hx hb dL_law_240 (by decide) (fun _ => ?_) (fun c9 => ?_)
  · exact K _ _ ⟨_, _, V1, V2, hr1.2, hr2.2, hs9.2, oA.mono (by omega), oB.mono (by omega), hP, hD, hS⟩ ls hl
  · exact absurd (hr1.1.trans (hs9.1.trans hr2.1.symm)) c9

set_option maxHeartbeats 400000 in
set_option maxRecDepth 100000 in
theorem lc_setBrightness {p : Program} {e : Env} {s : State} {m : MethodId} {below : List Frame} {meth : Method} {c : Code} (l : Launch) {D : va_G} {ct : Nat → ClassId} {o : Nat → Nat} {ad : Nat → Nat → Nat} {a : Nat → Nat} {b L : Nat} {xs : Nat → Int32} (C : LC p s m meth c b L xs D ct) {i cnt : Nat} (hi : i + 4 ≤ L) (hc : cnt < 512) {H : Heap} {locs : List Loc} (hI : LI s D ct o ad a cnt H locs) {ls : Array Slot} (hl : lv_has ls 8 [(0, .ref b), (1, .ref (o 0)), (2, .ref (a 0)), (3, .int (nI i))])
    (K : ∀ (H : Heap) (locs : List Loc), LI s D ct o ad a (cnt + 1) H locs → ∀ ls : Array Slot, lv_has ls 8 [(0, .ref b), (1, .ref (o 0)), (2, .ref (a 0)), (3, .int (nI i))] → W p l e room_1 s m #[Value.ref b] below meth c H locs 600000 7302250 (lw_Z below #[Value.ref b] s) (F0 m 939 ls [])) : W p l e room_1 s m #[Value.ref b] below meth c H locs 600000 7302250 (lw_Z below #[Value.ref b] s) (F0 m 245 ls []) := by
  obtain ⟨hx, hb, hml, hown, hts, hX, hbl, hK, hN, hZ, hr, hlk, hL⟩ := C
  obtain ⟨A, B, W1, W2, hA1, hB2, hsim, okA, okB, hP, hD, hS⟩ := hI
  have hbA : ¬ s.heap.size ≤ b := Nat.not_le.mpr hbl
  have hA : ∀ q : Nat, s.heap.size ≤ q → (fun q : Nat => s.heap.size ≤ q) q := fun _ h => h
  refine lv_aload_n hx hb dL_law_245 rfl (lv_at hl 1 rfl) ?_
  refine lv_aload_n hx hb dL_law_246 rfl (lv_at hl 0 rfl) ?_
  refine lv_iload_n hx hb dL_law_247 rfl (lv_at hl 3 rfl) ?_
  refine lv_iconst (v := 1) hx hb dL_law_248 (by decide) ?_
  refine lv_iadd hx hb dL_law_249 ?_
  refine lv_as (y := nI (i + 1)) (nI_add i 1) ?_
  refine va_sld hx hb hX hbl hbA hS (r_in (k := i + 1) rfl (by omega) (by omega)) dL_law_250 ?_
  refine lv_as (y := xs (i + 1)) (by rw [nI_clamp (by omega)]) ?_
  refine lv_aload_n hx hb dL_law_251 rfl (lv_at hl 0 rfl) ?_
  refine lv_iload_n hx hb dL_law_252 rfl (lv_at hl 3 rfl) ?_
  refine lv_iconst (v := 2) hx hb dL_law_253 (by decide) ?_
  refine lv_iadd hx hb dL_law_254 ?_
  refine lv_as (y := nI (i + 2)) (nI_add i 2) ?_
  refine va_sld hx hb hX hbl hbA hS (r_in (k := i + 2) rfl (by omega) (by omega)) dL_law_255 ?_
  refine lv_as (y := xs (i + 2)) (by rw [nI_clamp (by omega)]) ?_
  have hF1 := w_free (wc := W1) hD (List.Perm.refl _) hS hA
  refine va_calli (va_runV (As := [.int (xs (i + 1)), .int (xs (i + 2))]) (rest := []) ⟨hx, hb, hml, hown, hts⟩ (cx_setBrightness l D ct _ o ad hA1 okA (by omega) (xs (i + 1)) (xs (i + 2))) (cwV 2 hts gL_law_X5_setBrightness rfl rfl rfl (by decide +kernel) ⟨Nat.le_of_ble_eq_true rfl, Nat.le_of_ble_eq_true rfl⟩) ⟨muPS.blind, cx_recv hK hP hA1, muPS.at hZ hS hF1 (pw_left hP) (dw_left hD) hK hN⟩ rfl rfl hl.1 rfl (lv_room (Nat.le_of_ble_eq_true rfl)) dL_law_256 ⟨Nat.le_of_ble_eq_true rfl, Nat.le_of_ble_eq_true rfl⟩) hS (fun q _ h => hF1 q h) hF1 (fun r1 V1 tt H1 locs1 ht hvm hr1 hB1 hz1 hk1 hS => ?_)
  obtain ⟨hP, hD⟩ := muE.join (ws' := V1 ++ W2) hP hD (List.Perm.refl _) (List.Perm.refl _) hk1 hF1 ht hB1
  refine lv_aload_n hx hb dL_law_259 rfl (lv_at hl 2 rfl) ?_
  refine lv_aload_n hx hb dL_law_260 rfl (lv_at hl 0 rfl) ?_
  refine lv_iload_n hx hb dL_law_261 rfl (lv_at hl 3 rfl) ?_
  refine lv_iconst (v := 1) hx hb dL_law_262 (by decide) ?_
  refine lv_iadd hx hb dL_law_263 ?_
  refine lv_as (y := nI (i + 1)) (nI_add i 1) ?_
  refine va_sld hx hb hX hbl hbA hS (r_in (k := i + 1) rfl (by omega) (by omega)) dL_law_264 ?_
  refine lv_as (y := xs (i + 1)) (by rw [nI_clamp (by omega)]) ?_
  refine lv_aload_n hx hb dL_law_265 rfl (lv_at hl 0 rfl) ?_
  refine lv_iload_n hx hb dL_law_266 rfl (lv_at hl 3 rfl) ?_
  refine lv_iconst (v := 2) hx hb dL_law_267 (by decide) ?_
  refine lv_iadd hx hb dL_law_268 ?_
  refine lv_as (y := nI (i + 2)) (nI_add i 2) ?_
  refine va_sld hx hb hX hbl hbA hS (r_in (k := i + 2) rfl (by omega) (by omega)) dL_law_269 ?_
  refine lv_as (y := xs (i + 2)) (by rw [nI_clamp (by omega)]) ?_
  have hF2 := w_free (wc := W2) hD List.perm_append_comm hS hA
  refine va_calli (va_runV (As := [.int (xs (i + 1)), .int (xs (i + 2))]) (rest := [.int r1]) ⟨hx, hb, hml, hown, hts⟩ (mx_setBrightness l D ct _ a hB2 okB (by omega) (xs (i + 1)) (xs (i + 2))) (cwV 2 hts gL_law_X6_setBrightness rfl rfl rfl (by decide +kernel) ⟨Nat.le_of_ble_eq_true rfl, Nat.le_of_ble_eq_true rfl⟩) ⟨muP.blind, mx_recv hK hP hB2, muP.at (pw_right hP) (dw_right hD) hK hN⟩ rfl rfl hl.1 rfl (lv_room (Nat.le_of_ble_eq_true rfl)) dL_law_270 ⟨Nat.le_of_ble_eq_true rfl, Nat.le_of_ble_eq_true rfl⟩) hS (fun q _ h => hF2 q h) hF2 (fun r2 V2 tt H1 locs1 ht hvm hr2 hB2 hz1 hk1 hS => ?_)
  obtain ⟨hP, hD⟩ := muE.join (ws' := V1 ++ V2) hP hD List.perm_append_comm List.perm_append_comm hk1 hF2 ht hB2
  have hs9 := s_setBrightness (x := xs (i + 1)) (y := xs (i + 2)) hsim okA
  have oA := o_setBrightness (x := xs (i + 1)) (y := xs (i + 2)) okA
  have oB := o_setBrightness (x := xs (i + 1)) (y := xs (i + 2)) okB
  refine lv_icmp_eq (tgt := 939) hx hb dL_law_273 (by decide) (fun _ => ?_) (fun c9 => ?_)
  · exact K _ _ ⟨_, _, V1, V2, hr1.2, hr2.2, hs9.2, oA.mono (by omega), oB.mono (by omega), hP, hD, hS⟩ ls hl
  · exact absurd (hr1.1.trans (hs9.1.trans hr2.1.symm)) c9

set_option maxHeartbeats 400000 in
set_option maxRecDepth 100000 in
theorem lc_setPattern {p : Program} {e : Env} {s : State} {m : MethodId} {below : List Frame} {meth : Method} {c : Code} (l : Launch) {D : va_G} {ct : Nat → ClassId} {o : Nat → Nat} {ad : Nat → Nat → Nat} {a : Nat → Nat} {b L : Nat} {xs : Nat → Int32} (C : LC p s m meth c b L xs D ct) {i cnt : Nat} (hi : i + 4 ≤ L) (hc : cnt < 512) {H : Heap} {locs : List Loc} (hI : LI s D ct o ad a cnt H locs) {ls : Array Slot} (hl : lv_has ls 8 [(0, .ref b), (1, .ref (o 0)), (2, .ref (a 0)), (3, .int (nI i))])
    (K : ∀ (H : Heap) (locs : List Loc), LI s D ct o ad a (cnt + 1) H locs → ∀ ls : Array Slot, lv_has ls 8 [(0, .ref b), (1, .ref (o 0)), (2, .ref (a 0)), (3, .int (nI i))] → W p l e room_1 s m #[Value.ref b] below meth c H locs 600000 7302250 (lw_Z below #[Value.ref b] s) (F0 m 939 ls [])) : W p l e room_1 s m #[Value.ref b] below meth c H locs 600000 7302250 (lw_Z below #[Value.ref b] s) (F0 m 278 ls []) := by
  obtain ⟨hx, hb, hml, hown, hts, hX, hbl, hK, hN, hZ, hr, hlk, hL⟩ := C
  obtain ⟨A, B, W1, W2, hA1, hB2, hsim, okA, okB, hP, hD, hS⟩ := hI
  have hbA : ¬ s.heap.size ≤ b := Nat.not_le.mpr hbl
  have hA : ∀ q : Nat, s.heap.size ≤ q → (fun q : Nat => s.heap.size ≤ q) q := fun _ h => h
  refine lv_aload_n hx hb dL_law_278 rfl (lv_at hl 1 rfl) ?_
  refine lv_aload_n hx hb dL_law_279 rfl (lv_at hl 0 rfl) ?_
  refine lv_iload_n hx hb dL_law_280 rfl (lv_at hl 3 rfl) ?_
  refine lv_iconst (v := 1) hx hb dL_law_281 (by decide) ?_
  refine lv_iadd hx hb dL_law_282 ?_
  refine lv_as (y := nI (i + 1)) (nI_add i 1) ?_
  refine va_sld hx hb hX hbl hbA hS (r_in (k := i + 1) rfl (by omega) (by omega)) dL_law_283 ?_
  refine lv_as (y := xs (i + 1)) (by rw [nI_clamp (by omega)]) ?_
  refine lv_aload_n hx hb dL_law_284 rfl (lv_at hl 0 rfl) ?_
  refine lv_iload_n hx hb dL_law_285 rfl (lv_at hl 3 rfl) ?_
  refine lv_iconst (v := 2) hx hb dL_law_286 (by decide) ?_
  refine lv_iadd hx hb dL_law_287 ?_
  refine lv_as (y := nI (i + 2)) (nI_add i 2) ?_
  refine va_sld hx hb hX hbl hbA hS (r_in (k := i + 2) rfl (by omega) (by omega)) dL_law_288 ?_
  refine lv_as (y := xs (i + 2)) (by rw [nI_clamp (by omega)]) ?_
  have hF1 := w_free (wc := W1) hD (List.Perm.refl _) hS hA
  refine va_calli (va_runV (As := [.int (xs (i + 1)), .int (xs (i + 2))]) (rest := []) ⟨hx, hb, hml, hown, hts⟩ (cx_setPattern l D ct _ o ad hA1 okA (by omega) (xs (i + 1)) (xs (i + 2))) (cwV 2 hts gL_law_X5_setPattern rfl rfl rfl (by decide +kernel) ⟨Nat.le_of_ble_eq_true rfl, Nat.le_of_ble_eq_true rfl⟩) ⟨muPS.blind, cx_recv hK hP hA1, muPS.at hZ hS hF1 (pw_left hP) (dw_left hD) hK hN⟩ rfl rfl hl.1 rfl (lv_room (Nat.le_of_ble_eq_true rfl)) dL_law_289 ⟨Nat.le_of_ble_eq_true rfl, Nat.le_of_ble_eq_true rfl⟩) hS (fun q _ h => hF1 q h) hF1 (fun r1 V1 tt H1 locs1 ht hvm hr1 hB1 hz1 hk1 hS => ?_)
  obtain ⟨hP, hD⟩ := muE.join (ws' := V1 ++ W2) hP hD (List.Perm.refl _) (List.Perm.refl _) hk1 hF1 ht hB1
  refine lv_aload_n hx hb dL_law_292 rfl (lv_at hl 2 rfl) ?_
  refine lv_aload_n hx hb dL_law_293 rfl (lv_at hl 0 rfl) ?_
  refine lv_iload_n hx hb dL_law_294 rfl (lv_at hl 3 rfl) ?_
  refine lv_iconst (v := 1) hx hb dL_law_295 (by decide) ?_
  refine lv_iadd hx hb dL_law_296 ?_
  refine lv_as (y := nI (i + 1)) (nI_add i 1) ?_
  refine va_sld hx hb hX hbl hbA hS (r_in (k := i + 1) rfl (by omega) (by omega)) dL_law_297 ?_
  refine lv_as (y := xs (i + 1)) (by rw [nI_clamp (by omega)]) ?_
  refine lv_aload_n hx hb dL_law_298 rfl (lv_at hl 0 rfl) ?_
  refine lv_iload_n hx hb dL_law_299 rfl (lv_at hl 3 rfl) ?_
  refine lv_iconst (v := 2) hx hb dL_law_300 (by decide) ?_
  refine lv_iadd hx hb dL_law_301 ?_
  refine lv_as (y := nI (i + 2)) (nI_add i 2) ?_
  refine va_sld hx hb hX hbl hbA hS (r_in (k := i + 2) rfl (by omega) (by omega)) dL_law_302 ?_
  refine lv_as (y := xs (i + 2)) (by rw [nI_clamp (by omega)]) ?_
  have hF2 := w_free (wc := W2) hD List.perm_append_comm hS hA
  refine va_calli (va_runV (As := [.int (xs (i + 1)), .int (xs (i + 2))]) (rest := [.int r1]) ⟨hx, hb, hml, hown, hts⟩ (mx_setPattern l D ct _ a hB2 okB (by omega) (xs (i + 1)) (xs (i + 2))) (cwV 2 hts gL_law_X6_setPattern rfl rfl rfl (by decide +kernel) ⟨Nat.le_of_ble_eq_true rfl, Nat.le_of_ble_eq_true rfl⟩) ⟨muP.blind, mx_recv hK hP hB2, muP.at (pw_right hP) (dw_right hD) hK hN⟩ rfl rfl hl.1 rfl (lv_room (Nat.le_of_ble_eq_true rfl)) dL_law_303 ⟨Nat.le_of_ble_eq_true rfl, Nat.le_of_ble_eq_true rfl⟩) hS (fun q _ h => hF2 q h) hF2 (fun r2 V2 tt H1 locs1 ht hvm hr2 hB2 hz1 hk1 hS => ?_)
  obtain ⟨hP, hD⟩ := muE.join (ws' := V1 ++ V2) hP hD List.perm_append_comm List.perm_append_comm hk1 hF2 ht hB2
  have hs9 := s_setPattern (x := xs (i + 1)) (y := xs (i + 2)) hsim okA
  have oA := o_setPattern (x := xs (i + 1)) (y := xs (i + 2)) okA
  have oB := o_setPattern (x := xs (i + 1)) (y := xs (i + 2)) okB
  refine lv_icmp_eq (tgt := 939) hx hb dL_law_306 (by decide) (fun _ => ?_) (fun c9 => ?_)
  · exact K _ _ ⟨_, _, V1, V2, hr1.2, hr2.2, hs9.2, oA.mono (by omega), oB.mono (by omega), hP, hD, hS⟩ ls hl
  · exact absurd (hr1.1.trans (hs9.1.trans hr2.1.symm)) c9

set_option maxHeartbeats 400000 in
set_option maxRecDepth 100000 in
theorem lc_setGroup {p : Program} {e : Env} {s : State} {m : MethodId} {below : List Frame} {meth : Method} {c : Code} (l : Launch) {D : va_G} {ct : Nat → ClassId} {o : Nat → Nat} {ad : Nat → Nat → Nat} {a : Nat → Nat} {b L : Nat} {xs : Nat → Int32} (C : LC p s m meth c b L xs D ct) {i cnt : Nat} (hi : i + 4 ≤ L) (hc : cnt < 512) {H : Heap} {locs : List Loc} (hI : LI s D ct o ad a cnt H locs) {ls : Array Slot} (hl : lv_has ls 8 [(0, .ref b), (1, .ref (o 0)), (2, .ref (a 0)), (3, .int (nI i))])
    (K : ∀ (H : Heap) (locs : List Loc), LI s D ct o ad a (cnt + 1) H locs → ∀ ls : Array Slot, lv_has ls 8 [(0, .ref b), (1, .ref (o 0)), (2, .ref (a 0)), (3, .int (nI i))] → W p l e room_1 s m #[Value.ref b] below meth c H locs 600000 7302250 (lw_Z below #[Value.ref b] s) (F0 m 939 ls [])) : W p l e room_1 s m #[Value.ref b] below meth c H locs 600000 7302250 (lw_Z below #[Value.ref b] s) (F0 m 311 ls []) := by
  obtain ⟨hx, hb, hml, hown, hts, hX, hbl, hK, hN, hZ, hr, hlk, hL⟩ := C
  obtain ⟨A, B, W1, W2, hA1, hB2, hsim, okA, okB, hP, hD, hS⟩ := hI
  have hbA : ¬ s.heap.size ≤ b := Nat.not_le.mpr hbl
  have hA : ∀ q : Nat, s.heap.size ≤ q → (fun q : Nat => s.heap.size ≤ q) q := fun _ h => h
  refine lv_aload_n hx hb dL_law_311 rfl (lv_at hl 1 rfl) ?_
  refine lv_aload_n hx hb dL_law_312 rfl (lv_at hl 0 rfl) ?_
  refine lv_iload_n hx hb dL_law_313 rfl (lv_at hl 3 rfl) ?_
  refine lv_iconst (v := 1) hx hb dL_law_314 (by decide) ?_
  refine lv_iadd hx hb dL_law_315 ?_
  refine lv_as (y := nI (i + 1)) (nI_add i 1) ?_
  refine va_sld hx hb hX hbl hbA hS (r_in (k := i + 1) rfl (by omega) (by omega)) dL_law_316 ?_
  refine lv_as (y := xs (i + 1)) (by rw [nI_clamp (by omega)]) ?_
  refine lv_aload_n hx hb dL_law_317 rfl (lv_at hl 0 rfl) ?_
  refine lv_iload_n hx hb dL_law_318 rfl (lv_at hl 3 rfl) ?_
  refine lv_iconst (v := 2) hx hb dL_law_319 (by decide) ?_
  refine lv_iadd hx hb dL_law_320 ?_
  refine lv_as (y := nI (i + 2)) (nI_add i 2) ?_
  refine va_sld hx hb hX hbl hbA hS (r_in (k := i + 2) rfl (by omega) (by omega)) dL_law_321 ?_
  refine lv_as (y := xs (i + 2)) (by rw [nI_clamp (by omega)]) ?_
  have hF1 := w_free (wc := W1) hD (List.Perm.refl _) hS hA
  refine va_calli (va_runV (As := [.int (xs (i + 1)), .int (xs (i + 2))]) (rest := []) ⟨hx, hb, hml, hown, hts⟩ (cx_setGroup l D ct _ o ad hA1 okA (by omega) (xs (i + 1)) (xs (i + 2))) (cwV 2 hts gL_law_X5_setGroup rfl rfl rfl (by decide +kernel) ⟨Nat.le_of_ble_eq_true rfl, Nat.le_of_ble_eq_true rfl⟩) ⟨muPS.blind, cx_recv hK hP hA1, muPS.at hZ hS hF1 (pw_left hP) (dw_left hD) hK hN⟩ rfl rfl hl.1 rfl (lv_room (Nat.le_of_ble_eq_true rfl)) dL_law_322 ⟨Nat.le_of_ble_eq_true rfl, Nat.le_of_ble_eq_true rfl⟩) hS (fun q _ h => hF1 q h) hF1 (fun r1 V1 tt H1 locs1 ht hvm hr1 hB1 hz1 hk1 hS => ?_)
  obtain ⟨hP, hD⟩ := muE.join (ws' := V1 ++ W2) hP hD (List.Perm.refl _) (List.Perm.refl _) hk1 hF1 ht hB1
  refine lv_aload_n hx hb dL_law_325 rfl (lv_at hl 2 rfl) ?_
  refine lv_aload_n hx hb dL_law_326 rfl (lv_at hl 0 rfl) ?_
  refine lv_iload_n hx hb dL_law_327 rfl (lv_at hl 3 rfl) ?_
  refine lv_iconst (v := 1) hx hb dL_law_328 (by decide) ?_
  refine lv_iadd hx hb dL_law_329 ?_
  refine lv_as (y := nI (i + 1)) (nI_add i 1) ?_
  refine va_sld hx hb hX hbl hbA hS (r_in (k := i + 1) rfl (by omega) (by omega)) dL_law_330 ?_
  refine lv_as (y := xs (i + 1)) (by rw [nI_clamp (by omega)]) ?_
  refine lv_aload_n hx hb dL_law_331 rfl (lv_at hl 0 rfl) ?_
  refine lv_iload_n hx hb dL_law_332 rfl (lv_at hl 3 rfl) ?_
  refine lv_iconst (v := 2) hx hb dL_law_333 (by decide) ?_
  refine lv_iadd hx hb dL_law_334 ?_
  refine lv_as (y := nI (i + 2)) (nI_add i 2) ?_
  refine va_sld hx hb hX hbl hbA hS (r_in (k := i + 2) rfl (by omega) (by omega)) dL_law_335 ?_
  refine lv_as (y := xs (i + 2)) (by rw [nI_clamp (by omega)]) ?_
  have hF2 := w_free (wc := W2) hD List.perm_append_comm hS hA
  refine va_calli (va_runV (As := [.int (xs (i + 1)), .int (xs (i + 2))]) (rest := [.int r1]) ⟨hx, hb, hml, hown, hts⟩ (mx_setGroup l D ct _ a hB2 okB (by omega) (xs (i + 1)) (xs (i + 2))) (cwV 2 hts gL_law_X6_setGroup rfl rfl rfl (by decide +kernel) ⟨Nat.le_of_ble_eq_true rfl, Nat.le_of_ble_eq_true rfl⟩) ⟨muP.blind, mx_recv hK hP hB2, muP.at (pw_right hP) (dw_right hD) hK hN⟩ rfl rfl hl.1 rfl (lv_room (Nat.le_of_ble_eq_true rfl)) dL_law_336 ⟨Nat.le_of_ble_eq_true rfl, Nat.le_of_ble_eq_true rfl⟩) hS (fun q _ h => hF2 q h) hF2 (fun r2 V2 tt H1 locs1 ht hvm hr2 hB2 hz1 hk1 hS => ?_)
  obtain ⟨hP, hD⟩ := muE.join (ws' := V1 ++ V2) hP hD List.perm_append_comm List.perm_append_comm hk1 hF2 ht hB2
  have hs9 := s_setGroup (x := xs (i + 1)) (y := xs (i + 2)) hsim okA
  have oA := o_setGroup (x := xs (i + 1)) (y := xs (i + 2)) okA
  have oB := o_setGroup (x := xs (i + 1)) (y := xs (i + 2)) okB
  refine lv_icmp_eq (tgt := 939) hx hb dL_law_339 (by decide) (fun _ => ?_) (fun c9 => ?_)
  · exact K _ _ ⟨_, _, V1, V2, hr1.2, hr2.2, hs9.2, oA.mono (by omega), oB.mono (by omega), hP, hD, hS⟩ ls hl
  · exact absurd (hr1.1.trans (hs9.1.trans hr2.1.symm)) c9

set_option maxHeartbeats 400000 in
set_option maxRecDepth 100000 in
theorem lc_setBlink {p : Program} {e : Env} {s : State} {m : MethodId} {below : List Frame} {meth : Method} {c : Code} (l : Launch) {D : va_G} {ct : Nat → ClassId} {o : Nat → Nat} {ad : Nat → Nat → Nat} {a : Nat → Nat} {b L : Nat} {xs : Nat → Int32} (C : LC p s m meth c b L xs D ct) {i cnt : Nat} (hi : i + 4 ≤ L) (hc : cnt < 512) {H : Heap} {locs : List Loc} (hI : LI s D ct o ad a cnt H locs) {ls : Array Slot} (hl : lv_has ls 8 [(0, .ref b), (1, .ref (o 0)), (2, .ref (a 0)), (3, .int (nI i))])
    (K : ∀ (H : Heap) (locs : List Loc), LI s D ct o ad a (cnt + 1) H locs → ∀ ls : Array Slot, lv_has ls 8 [(0, .ref b), (1, .ref (o 0)), (2, .ref (a 0)), (3, .int (nI i))] → W p l e room_1 s m #[Value.ref b] below meth c H locs 600000 7302250 (lw_Z below #[Value.ref b] s) (F0 m 939 ls [])) : W p l e room_1 s m #[Value.ref b] below meth c H locs 600000 7302250 (lw_Z below #[Value.ref b] s) (F0 m 344 ls []) := by
  obtain ⟨hx, hb, hml, hown, hts, hX, hbl, hK, hN, hZ, hr, hlk, hL⟩ := C
  obtain ⟨A, B, W1, W2, hA1, hB2, hsim, okA, okB, hP, hD, hS⟩ := hI
  have hbA : ¬ s.heap.size ≤ b := Nat.not_le.mpr hbl
  have hA : ∀ q : Nat, s.heap.size ≤ q → (fun q : Nat => s.heap.size ≤ q) q := fun _ h => h
  refine lv_aload_n hx hb dL_law_344 rfl (lv_at hl 1 rfl) ?_
  refine lv_aload_n hx hb dL_law_345 rfl (lv_at hl 0 rfl) ?_
  refine lv_iload_n hx hb dL_law_346 rfl (lv_at hl 3 rfl) ?_
  refine lv_iconst (v := 1) hx hb dL_law_347 (by decide) ?_
  refine lv_iadd hx hb dL_law_348 ?_
  refine lv_as (y := nI (i + 1)) (nI_add i 1) ?_
  refine va_sld hx hb hX hbl hbA hS (r_in (k := i + 1) rfl (by omega) (by omega)) dL_law_349 ?_
  refine lv_as (y := xs (i + 1)) (by rw [nI_clamp (by omega)]) ?_
  refine lv_aload_n hx hb dL_law_350 rfl (lv_at hl 0 rfl) ?_
  refine lv_iload_n hx hb dL_law_351 rfl (lv_at hl 3 rfl) ?_
  refine lv_iconst (v := 2) hx hb dL_law_352 (by decide) ?_
  refine lv_iadd hx hb dL_law_353 ?_
  refine lv_as (y := nI (i + 2)) (nI_add i 2) ?_
  refine va_sld hx hb hX hbl hbA hS (r_in (k := i + 2) rfl (by omega) (by omega)) dL_law_354 ?_
  refine lv_as (y := xs (i + 2)) (by rw [nI_clamp (by omega)]) ?_
  refine lv_aload_n hx hb dL_law_355 rfl (lv_at hl 0 rfl) ?_
  refine lv_iload_n hx hb dL_law_356 rfl (lv_at hl 3 rfl) ?_
  refine lv_iconst (v := 3) hx hb dL_law_357 (by decide) ?_
  refine lv_iadd hx hb dL_law_358 ?_
  refine lv_as (y := nI (i + 3)) (nI_add i 3) ?_
  refine va_sld hx hb hX hbl hbA hS (r_in (k := i + 3) rfl (by omega) (by omega)) dL_law_359 ?_
  refine lv_as (y := xs (i + 3)) (by rw [nI_clamp (by omega)]) ?_
  have hF1 := w_free (wc := W1) hD (List.Perm.refl _) hS hA
  refine va_calli (va_runV (As := [.int (xs (i + 1)), .int (xs (i + 2)), .int (xs (i + 3))]) (rest := []) ⟨hx, hb, hml, hown, hts⟩ (cx_setBlink l D ct _ o ad hA1 okA (by omega) (xs (i + 1)) (xs (i + 2)) (xs (i + 3))) (cwV 3 hts gL_law_X5_setBlink rfl rfl rfl (by decide +kernel) ⟨Nat.le_of_ble_eq_true rfl, Nat.le_of_ble_eq_true rfl⟩) ⟨muPS.blind, cx_recv hK hP hA1, muPS.at hZ hS hF1 (pw_left hP) (dw_left hD) hK hN⟩ rfl rfl hl.1 rfl (lv_room (Nat.le_of_ble_eq_true rfl)) dL_law_360 ⟨Nat.le_of_ble_eq_true rfl, Nat.le_of_ble_eq_true rfl⟩) hS (fun q _ h => hF1 q h) hF1 (fun r1 V1 tt H1 locs1 ht hvm hr1 hB1 hz1 hk1 hS => ?_)
  obtain ⟨hP, hD⟩ := muE.join (ws' := V1 ++ W2) hP hD (List.Perm.refl _) (List.Perm.refl _) hk1 hF1 ht hB1
  refine lv_aload_n hx hb dL_law_363 rfl (lv_at hl 2 rfl) ?_
  refine lv_aload_n hx hb dL_law_364 rfl (lv_at hl 0 rfl) ?_
  refine lv_iload_n hx hb dL_law_365 rfl (lv_at hl 3 rfl) ?_
  refine lv_iconst (v := 1) hx hb dL_law_366 (by decide) ?_
  refine lv_iadd hx hb dL_law_367 ?_
  refine lv_as (y := nI (i + 1)) (nI_add i 1) ?_
  refine va_sld hx hb hX hbl hbA hS (r_in (k := i + 1) rfl (by omega) (by omega)) dL_law_368 ?_
  refine lv_as (y := xs (i + 1)) (by rw [nI_clamp (by omega)]) ?_
  refine lv_aload_n hx hb dL_law_369 rfl (lv_at hl 0 rfl) ?_
  refine lv_iload_n hx hb dL_law_370 rfl (lv_at hl 3 rfl) ?_
  refine lv_iconst (v := 2) hx hb dL_law_371 (by decide) ?_
  refine lv_iadd hx hb dL_law_372 ?_
  refine lv_as (y := nI (i + 2)) (nI_add i 2) ?_
  refine va_sld hx hb hX hbl hbA hS (r_in (k := i + 2) rfl (by omega) (by omega)) dL_law_373 ?_
  refine lv_as (y := xs (i + 2)) (by rw [nI_clamp (by omega)]) ?_
  refine lv_aload_n hx hb dL_law_374 rfl (lv_at hl 0 rfl) ?_
  refine lv_iload_n hx hb dL_law_375 rfl (lv_at hl 3 rfl) ?_
  refine lv_iconst (v := 3) hx hb dL_law_376 (by decide) ?_
  refine lv_iadd hx hb dL_law_377 ?_
  refine lv_as (y := nI (i + 3)) (nI_add i 3) ?_
  refine va_sld hx hb hX hbl hbA hS (r_in (k := i + 3) rfl (by omega) (by omega)) dL_law_378 ?_
  refine lv_as (y := xs (i + 3)) (by rw [nI_clamp (by omega)]) ?_
  have hF2 := w_free (wc := W2) hD List.perm_append_comm hS hA
  refine va_calli (va_runV (As := [.int (xs (i + 1)), .int (xs (i + 2)), .int (xs (i + 3))]) (rest := [.int r1]) ⟨hx, hb, hml, hown, hts⟩ (mx_setBlink l D ct _ a hB2 okB (by omega) (xs (i + 1)) (xs (i + 2)) (xs (i + 3))) (cwV 3 hts gL_law_X6_setBlink rfl rfl rfl (by decide +kernel) ⟨Nat.le_of_ble_eq_true rfl, Nat.le_of_ble_eq_true rfl⟩) ⟨muP.blind, mx_recv hK hP hB2, muP.at (pw_right hP) (dw_right hD) hK hN⟩ rfl rfl hl.1 rfl (lv_room (Nat.le_of_ble_eq_true rfl)) dL_law_379 ⟨Nat.le_of_ble_eq_true rfl, Nat.le_of_ble_eq_true rfl⟩) hS (fun q _ h => hF2 q h) hF2 (fun r2 V2 tt H1 locs1 ht hvm hr2 hB2 hz1 hk1 hS => ?_)
  obtain ⟨hP, hD⟩ := muE.join (ws' := V1 ++ V2) hP hD List.perm_append_comm List.perm_append_comm hk1 hF2 ht hB2
  have hs9 := s_setBlink (x := xs (i + 1)) (y := xs (i + 2)) (z := xs (i + 3)) hsim okA
  have oA := o_setBlink (x := xs (i + 1)) (y := xs (i + 2)) (z := xs (i + 3)) okA
  have oB := o_setBlink (x := xs (i + 1)) (y := xs (i + 2)) (z := xs (i + 3)) okB
  refine lv_icmp_eq (tgt := 939) hx hb dL_law_382 (by decide) (fun _ => ?_) (fun c9 => ?_)
  · exact K _ _ ⟨_, _, V1, V2, hr1.2, hr2.2, hs9.2, oA.mono (by omega), oB.mono (by omega), hP, hD, hS⟩ ls hl
  · exact absurd (hr1.1.trans (hs9.1.trans hr2.1.symm)) c9

set_option maxHeartbeats 400000 in
set_option maxRecDepth 100000 in
theorem lc_set {p : Program} {e : Env} {s : State} {m : MethodId} {below : List Frame} {meth : Method} {c : Code} (l : Launch) {D : va_G} {ct : Nat → ClassId} {o : Nat → Nat} {ad : Nat → Nat → Nat} {a : Nat → Nat} {b L : Nat} {xs : Nat → Int32} (C : LC p s m meth c b L xs D ct) {i cnt : Nat} (hi : i + 4 ≤ L) (hc : cnt < 512) {H : Heap} {locs : List Loc} (hI : LI s D ct o ad a cnt H locs) {ls : Array Slot} (hl : lv_has ls 8 [(0, .ref b), (1, .ref (o 0)), (2, .ref (a 0)), (3, .int (nI i))])
    (K : ∀ (H : Heap) (locs : List Loc), LI s D ct o ad a (cnt + 1) H locs → ∀ ls : Array Slot, lv_has ls 8 [(0, .ref b), (1, .ref (o 0)), (2, .ref (a 0)), (3, .int (nI i))] → W p l e room_1 s m #[Value.ref b] below meth c H locs 600000 7302250 (lw_Z below #[Value.ref b] s) (F0 m 939 ls [])) : W p l e room_1 s m #[Value.ref b] below meth c H locs 600000 7302250 (lw_Z below #[Value.ref b] s) (F0 m 387 ls []) := by
  obtain ⟨hx, hb, hml, hown, hts, hX, hbl, hK, hN, hZ, hr, hlk, hL⟩ := C
  obtain ⟨A, B, W1, W2, hA1, hB2, hsim, okA, okB, hP, hD, hS⟩ := hI
  have hbA : ¬ s.heap.size ≤ b := Nat.not_le.mpr hbl
  have hA : ∀ q : Nat, s.heap.size ≤ q → (fun q : Nat => s.heap.size ≤ q) q := fun _ h => h
  refine lv_aload_n hx hb dL_law_387 rfl (lv_at hl 1 rfl) ?_
  refine lv_aload_n hx hb dL_law_388 rfl (lv_at hl 0 rfl) ?_
  refine lv_iload_n hx hb dL_law_389 rfl (lv_at hl 3 rfl) ?_
  refine lv_iconst (v := 1) hx hb dL_law_390 (by decide) ?_
  refine lv_iadd hx hb dL_law_391 ?_
  refine lv_as (y := nI (i + 1)) (nI_add i 1) ?_
  refine va_sld hx hb hX hbl hbA hS (r_in (k := i + 1) rfl (by omega) (by omega)) dL_law_392 ?_
  refine lv_as (y := xs (i + 1)) (by rw [nI_clamp (by omega)]) ?_
  refine lv_aload_n hx hb dL_law_393 rfl (lv_at hl 0 rfl) ?_
  refine lv_iload_n hx hb dL_law_394 rfl (lv_at hl 3 rfl) ?_
  refine lv_iconst (v := 2) hx hb dL_law_395 (by decide) ?_
  refine lv_iadd hx hb dL_law_396 ?_
  refine lv_as (y := nI (i + 2)) (nI_add i 2) ?_
  refine va_sld hx hb hX hbl hbA hS (r_in (k := i + 2) rfl (by omega) (by omega)) dL_law_397 ?_
  refine lv_as (y := xs (i + 2)) (by rw [nI_clamp (by omega)]) ?_
  have hF1 := w_free (wc := W1) hD (List.Perm.refl _) hS hA
  refine va_calli (va_runV (As := [.int (xs (i + 1)), .int (xs (i + 2))]) (rest := []) ⟨hx, hb, hml, hown, hts⟩ (cx_set l D ct _ o ad hA1 okA (by omega) (xs (i + 1)) (xs (i + 2))) (cwV 2 hts gL_law_X5_set rfl rfl rfl (by decide +kernel) ⟨Nat.le_of_ble_eq_true rfl, Nat.le_of_ble_eq_true rfl⟩) ⟨muPS.blind, cx_recv hK hP hA1, muPS.at hZ hS hF1 (pw_left hP) (dw_left hD) hK hN⟩ rfl rfl hl.1 rfl (lv_room (Nat.le_of_ble_eq_true rfl)) dL_law_398 ⟨Nat.le_of_ble_eq_true rfl, Nat.le_of_ble_eq_true rfl⟩) hS (fun q _ h => hF1 q h) hF1 (fun r1 V1 tt H1 locs1 ht hvm hr1 hB1 hz1 hk1 hS => ?_)
  obtain ⟨hP, hD⟩ := muE.join (ws' := V1 ++ W2) hP hD (List.Perm.refl _) (List.Perm.refl _) hk1 hF1 ht hB1
  refine lv_aload_n hx hb dL_law_401 rfl (lv_at hl 2 rfl) ?_
  refine lv_aload_n hx hb dL_law_402 rfl (lv_at hl 0 rfl) ?_
  refine lv_iload_n hx hb dL_law_403 rfl (lv_at hl 3 rfl) ?_
  refine lv_iconst (v := 1) hx hb dL_law_404 (by decide) ?_
  refine lv_iadd hx hb dL_law_405 ?_
  refine lv_as (y := nI (i + 1)) (nI_add i 1) ?_
  refine va_sld hx hb hX hbl hbA hS (r_in (k := i + 1) rfl (by omega) (by omega)) dL_law_406 ?_
  refine lv_as (y := xs (i + 1)) (by rw [nI_clamp (by omega)]) ?_
  refine lv_aload_n hx hb dL_law_407 rfl (lv_at hl 0 rfl) ?_
  refine lv_iload_n hx hb dL_law_408 rfl (lv_at hl 3 rfl) ?_
  refine lv_iconst (v := 2) hx hb dL_law_409 (by decide) ?_
  refine lv_iadd hx hb dL_law_410 ?_
  refine lv_as (y := nI (i + 2)) (nI_add i 2) ?_
  refine va_sld hx hb hX hbl hbA hS (r_in (k := i + 2) rfl (by omega) (by omega)) dL_law_411 ?_
  refine lv_as (y := xs (i + 2)) (by rw [nI_clamp (by omega)]) ?_
  have hF2 := w_free (wc := W2) hD List.perm_append_comm hS hA
  refine va_calli (va_runV (As := [.int (xs (i + 1)), .int (xs (i + 2))]) (rest := [.int r1]) ⟨hx, hb, hml, hown, hts⟩ (mx_set l D ct _ a hB2 okB (by omega) (xs (i + 1)) (xs (i + 2))) (cwV 2 hts gL_law_X6_set rfl rfl rfl (by decide +kernel) ⟨Nat.le_of_ble_eq_true rfl, Nat.le_of_ble_eq_true rfl⟩) ⟨muP.blind, mx_recv hK hP hB2, muP.at (pw_right hP) (dw_right hD) hK hN⟩ rfl rfl hl.1 rfl (lv_room (Nat.le_of_ble_eq_true rfl)) dL_law_412 ⟨Nat.le_of_ble_eq_true rfl, Nat.le_of_ble_eq_true rfl⟩) hS (fun q _ h => hF2 q h) hF2 (fun r2 V2 tt H1 locs1 ht hvm hr2 hB2 hz1 hk1 hS => ?_)
  obtain ⟨hP, hD⟩ := muE.join (ws' := V1 ++ V2) hP hD List.perm_append_comm List.perm_append_comm hk1 hF2 ht hB2
  have hs9 := s_set (x := xs (i + 1)) (y := xs (i + 2)) hsim okA
  have oA := o_set (x := xs (i + 1)) (y := xs (i + 2)) okA
  have oB := o_set (x := xs (i + 1)) (y := xs (i + 2)) okB
  refine lv_icmp_eq (tgt := 939) hx hb dL_law_415 (by decide) (fun _ => ?_) (fun c9 => ?_)
  · exact K _ _ ⟨_, _, V1, V2, hr1.2, hr2.2, hs9.2, oA.mono (by omega), oB.mono (by omega), hP, hD, hS⟩ ls hl
  · exact absurd (hr1.1.trans (hs9.1.trans hr2.1.symm)) c9

set_option maxHeartbeats 400000 in
set_option maxRecDepth 100000 in
theorem lc_replace {p : Program} {e : Env} {s : State} {m : MethodId} {below : List Frame} {meth : Method} {c : Code} (l : Launch) {D : va_G} {ct : Nat → ClassId} {o : Nat → Nat} {ad : Nat → Nat → Nat} {a : Nat → Nat} {b L : Nat} {xs : Nat → Int32} (C : LC p s m meth c b L xs D ct) {i cnt : Nat} (hi : i + 4 ≤ L) (hc : cnt < 512) {H : Heap} {locs : List Loc} (hI : LI s D ct o ad a cnt H locs) {ls : Array Slot} (hl : lv_has ls 8 [(0, .ref b), (1, .ref (o 0)), (2, .ref (a 0)), (3, .int (nI i))])
    (K : ∀ (H : Heap) (locs : List Loc), LI s D ct o ad a (cnt + 1) H locs → ∀ ls : Array Slot, lv_has ls 8 [(0, .ref b), (1, .ref (o 0)), (2, .ref (a 0)), (3, .int (nI i))] → W p l e room_1 s m #[Value.ref b] below meth c H locs 600000 7302250 (lw_Z below #[Value.ref b] s) (F0 m 939 ls [])) : W p l e room_1 s m #[Value.ref b] below meth c H locs 600000 7302250 (lw_Z below #[Value.ref b] s) (F0 m 420 ls []) := by
  obtain ⟨hx, hb, hml, hown, hts, hX, hbl, hK, hN, hZ, hr, hlk, hL⟩ := C
  obtain ⟨A, B, W1, W2, hA1, hB2, hsim, okA, okB, hP, hD, hS⟩ := hI
  have hbA : ¬ s.heap.size ≤ b := Nat.not_le.mpr hbl
  have hA : ∀ q : Nat, s.heap.size ≤ q → (fun q : Nat => s.heap.size ≤ q) q := fun _ h => h
  refine lv_aload_n hx hb dL_law_420 rfl (lv_at hl 1 rfl) ?_
  refine lv_aload_n hx hb dL_law_421 rfl (lv_at hl 0 rfl) ?_
  refine lv_iload_n hx hb dL_law_422 rfl (lv_at hl 3 rfl) ?_
  refine lv_iconst (v := 1) hx hb dL_law_423 (by decide) ?_
  refine lv_iadd hx hb dL_law_424 ?_
  refine lv_as (y := nI (i + 1)) (nI_add i 1) ?_
  refine va_sld hx hb hX hbl hbA hS (r_in (k := i + 1) rfl (by omega) (by omega)) dL_law_425 ?_
  refine lv_as (y := xs (i + 1)) (by rw [nI_clamp (by omega)]) ?_
  have hF1 := w_free (wc := W1) hD (List.Perm.refl _) hS hA
  refine va_calli (va_runV (As := [.int (xs (i + 1))]) (rest := []) ⟨hx, hb, hml, hown, hts⟩ (cx_replace l D ct _ o ad hA1 okA (by omega) (xs (i + 1))) (cwV 1 hts gL_law_X5_replace rfl rfl rfl (by decide +kernel) ⟨Nat.le_of_ble_eq_true rfl, Nat.le_of_ble_eq_true rfl⟩) ⟨muPS.blind, cx_recv hK hP hA1, muPS.at hZ hS hF1 (pw_left hP) (dw_left hD) hK hN⟩ rfl rfl hl.1 rfl (lv_room (Nat.le_of_ble_eq_true rfl)) dL_law_426 ⟨Nat.le_of_ble_eq_true rfl, Nat.le_of_ble_eq_true rfl⟩) hS (fun q _ h => hF1 q h) hF1 (fun r1 V1 tt H1 locs1 ht hvm hr1 hB1 hz1 hk1 hS => ?_)
  obtain ⟨hP, hD⟩ := muE.join (ws' := V1 ++ W2) hP hD (List.Perm.refl _) (List.Perm.refl _) hk1 hF1 ht hB1
  refine lv_aload_n hx hb dL_law_429 rfl (lv_at hl 2 rfl) ?_
  refine lv_aload_n hx hb dL_law_430 rfl (lv_at hl 0 rfl) ?_
  refine lv_iload_n hx hb dL_law_431 rfl (lv_at hl 3 rfl) ?_
  refine lv_iconst (v := 1) hx hb dL_law_432 (by decide) ?_
  refine lv_iadd hx hb dL_law_433 ?_
  refine lv_as (y := nI (i + 1)) (nI_add i 1) ?_
  refine va_sld hx hb hX hbl hbA hS (r_in (k := i + 1) rfl (by omega) (by omega)) dL_law_434 ?_
  refine lv_as (y := xs (i + 1)) (by rw [nI_clamp (by omega)]) ?_
  have hF2 := w_free (wc := W2) hD List.perm_append_comm hS hA
  refine va_calli (va_runV (As := [.int (xs (i + 1))]) (rest := [.int r1]) ⟨hx, hb, hml, hown, hts⟩ (mx_replace l D ct _ a hB2 okB (by omega) (xs (i + 1))) (cwV 1 hts gL_law_X6_replace rfl rfl rfl (by decide +kernel) ⟨Nat.le_of_ble_eq_true rfl, Nat.le_of_ble_eq_true rfl⟩) ⟨muP.blind, mx_recv hK hP hB2, muP.at (pw_right hP) (dw_right hD) hK hN⟩ rfl rfl hl.1 rfl (lv_room (Nat.le_of_ble_eq_true rfl)) dL_law_435 ⟨Nat.le_of_ble_eq_true rfl, Nat.le_of_ble_eq_true rfl⟩) hS (fun q _ h => hF2 q h) hF2 (fun r2 V2 tt H1 locs1 ht hvm hr2 hB2 hz1 hk1 hS => ?_)
  obtain ⟨hP, hD⟩ := muE.join (ws' := V1 ++ V2) hP hD List.perm_append_comm List.perm_append_comm hk1 hF2 ht hB2
  have hs9 := s_replace (x := xs (i + 1)) hsim okA
  have oA := o_replace (x := xs (i + 1)) okA
  have oB := o_replace (x := xs (i + 1)) okB
  refine lv_icmp_eq (tgt := 939) hx hb dL_law_438 (by decide) (fun _ => ?_) (fun c9 => ?_)
  · exact K _ _ ⟨_, _, V1, V2, hr1.2, hr2.2, hs9.2, oA.mono (by omega), oB.mono (by omega), hP, hD, hS⟩ ls hl
  · exact absurd (hr1.1.trans (hs9.1.trans hr2.1.symm)) c9
