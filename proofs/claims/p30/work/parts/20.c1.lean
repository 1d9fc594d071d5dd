set_option maxHeartbeats 4000000 in
set_option maxRecDepth 100000 in
theorem k_J6_bitCount_0f7a4 (l : Launch) (D : va_G) (ct : Nat → ClassId) (x : Int32) : Met l yJ6_bitCount_0f7a4 wsJ6_bitCount_0f7a4 ({ frames := 0, cells := 0, slots := 0, locals := 0 }) (roP D ct ([]) [.int x]) (vp_Si (fun r => r = bcF x)) 0 0 noA := by
  refine Met.ofW (cc := cJ6_bitCount_0f7a4) (maxL := 1) (ret := (some .int)) (by decide) rfl ?_
  intro p e s m args below meth c s₁ B hml hv
  obtain ⟨rfl, hP, hK, hN⟩ := hv
  have hx := B.exec
  have hb := B.bytes
  have hr := B.returns
  have hts := atoms_spec (ws := wsJ6_bitCount_0f7a4) B.pre
  have hown : s.vm.findClass RJ6 = some m.cls := findClass_of_methodNamed B.named
  have hlocks := B.notSynchronized
  have w_1 := hts (.constant RJ6 265 (1431655765)) (List.mem_of_getElem? (i := 1) rfl)
  have w_2 := hts (.constant RJ6 266 (858993459)) (List.mem_of_getElem? (i := 2) rfl)
  have w_3 := hts (.constant RJ6 267 (252645135)) (List.mem_of_getElem? (i := 3) rfl)
  have hl := lv_entry ([.int x]) (n := 1) (Nat.le_of_ble_eq_true rfl)
  rw [lg_entry_eq]
  generalize (lg_sl ([.int x]) ++ List.replicate (1 - (lg_sl ([.int x])).length) Slot.unset).toArray = ls at hl ⊢
  have hl : lv_has ls 1 [(0, .int x)] := hl
  refine lv_iload_n hx hb dJ6_bitCount_0f7a4_0 rfl (lv_at hl 0 rfl) ?_
  refine lv_iload_n hx hb dJ6_bitCount_0f7a4_1 rfl (lv_at hl 0 rfl) ?_
  refine lv_iconst (v := 1) hx hb dJ6_bitCount_0f7a4_2 (by decide) ?_
  refine lv_iushr (v := ush x 1) hx hb dJ6_bitCount_0f7a4_3 (rfl) ?_
  refine lv_ldcw (v := 1431655765) hx hb hown w_1 dJ6_bitCount_0f7a4_4 ?_
  refine lv_iand hx hb dJ6_bitCount_0f7a4_7 ?_
  refine lv_isub hx hb dJ6_bitCount_0f7a4_8 ?_
  refine lv_as (y := bcA x) (rfl) ?_
  refine lv_istore_n (lv' := [(0, .int (bcA x))]) hx hb dJ6_bitCount_0f7a4_9 rfl hl (by decide) rfl (fun ls hl => ?_)
  refine lv_iload_n hx hb dJ6_bitCount_0f7a4_10 rfl (lv_at hl 0 rfl) ?_
  refine lv_ldcw (v := 858993459) hx hb hown w_2 dJ6_bitCount_0f7a4_11 ?_
  refine lv_iand hx hb dJ6_bitCount_0f7a4_14 ?_
  refine lv_iload_n hx hb dJ6_bitCount_0f7a4_15 rfl (lv_at hl 0 rfl) ?_
  refine lv_iconst (v := 2) hx hb dJ6_bitCount_0f7a4_16 (by decide) ?_
  refine lv_iushr (v := ush (bcA x) 2) hx hb dJ6_bitCount_0f7a4_17 (rfl) ?_
  refine lv_ldcw (v := 858993459) hx hb hown w_2 dJ6_bitCount_0f7a4_18 ?_
  refine lv_iand hx hb dJ6_bitCount_0f7a4_21 ?_
  refine lv_iadd hx hb dJ6_bitCount_0f7a4_22 ?_
  refine lv_as (y := bcB (bcA x)) (rfl) ?_
  refine lv_istore_n (lv' := [(0, .int (bcB (bcA x)))]) hx hb dJ6_bitCount_0f7a4_23 rfl hl (by decide) rfl (fun ls hl => ?_)
  refine lv_iload_n hx hb dJ6_bitCount_0f7a4_24 rfl (lv_at hl 0 rfl) ?_
  refine lv_iload_n hx hb dJ6_bitCount_0f7a4_25 rfl (lv_at hl 0 rfl) ?_
  refine lv_iconst (v := 4) hx hb dJ6_bitCount_0f7a4_26 (by decide) ?_
  refine lv_iushr (v := ush (bcB (bcA x)) 4) hx hb dJ6_bitCount_0f7a4_27 (rfl) ?_
  refine lv_iadd hx hb dJ6_bitCount_0f7a4_28 ?_
  refine lv_ldcw (v := 252645135) hx hb hown w_3 dJ6_bitCount_0f7a4_29 ?_
  refine lv_iand hx hb dJ6_bitCount_0f7a4_32 ?_
  refine lv_as (y := bcC (bcB (bcA x))) (rfl) ?_
  refine lv_istore_n (lv' := [(0, .int (bcC (bcB (bcA x))))]) hx hb dJ6_bitCount_0f7a4_33 rfl hl (by decide) rfl (fun ls hl => ?_)
  refine lv_iload_n hx hb dJ6_bitCount_0f7a4_34 rfl (lv_at hl 0 rfl) ?_
  refine lv_iload_n hx hb dJ6_bitCount_0f7a4_35 rfl (lv_at hl 0 rfl) ?_
  refine lv_bipush (v := 8) hx hb dJ6_bitCount_0f7a4_36 (by decide) ?_
  refine lv_iushr (v := ush (bcC (bcB (bcA x))) 8) hx hb dJ6_bitCount_0f7a4_38 (rfl) ?_
  refine lv_iadd hx hb dJ6_bitCount_0f7a4_39 ?_
  refine lv_as (y := bcD (bcC (bcB (bcA x)))) (rfl) ?_
  refine lv_istore_n (lv' := [(0, .int (bcD (bcC (bcB (bcA x)))))]) hx hb dJ6_bitCount_0f7a4_40 rfl hl (by decide) rfl (fun ls hl => ?_)
  refine lv_iload_n hx hb dJ6_bitCount_0f7a4_41 rfl (lv_at hl 0 rfl) ?_
  refine lv_iload_n hx hb dJ6_bitCount_0f7a4_42 rfl (lv_at hl 0 rfl) ?_
  refine lv_bipush (v := 16) hx hb dJ6_bitCount_0f7a4_43 (by decide) ?_
  refine lv_iushr (v := ush (bcD (bcC (bcB (bcA x)))) 16) hx hb dJ6_bitCount_0f7a4_45 (rfl) ?_
  refine lv_iadd hx hb dJ6_bitCount_0f7a4_46 ?_
  refine lv_as (y := bcE (bcD (bcC (bcB (bcA x))))) (rfl) ?_
  refine lv_istore_n (lv' := [(0, .int (bcE (bcD (bcC (bcB (bcA x))))))]) hx hb dJ6_bitCount_0f7a4_47 rfl hl (by decide) rfl (fun ls hl => ?_)
  refine lv_iload_n hx hb dJ6_bitCount_0f7a4_48 rfl (lv_at hl 0 rfl) ?_
  refine lv_bipush (v := 63) hx hb dJ6_bitCount_0f7a4_49 (by decide) ?_
  refine lv_iand hx hb dJ6_bitCount_0f7a4_51 ?_
  exact W.iret (v := ((bcE (bcD (bcC (bcB (bcA x))))) &&& 63)) hx hb hr (fun tt ht hW => ⟨((bcE (bcD (bcC (bcB (bcA x))))) &&& 63), rfl, rfl, ht⟩) (fun q hq => absurd hq List.not_mem_nil) dJ6_bitCount_0f7a4_52
set_option maxHeartbeats 4000000 in
set_option maxRecDepth 100000 in
theorem k_X5_isWithin (l : Launch) (D : va_G) (ct : Nat → ClassId) (x lo hi : Int32) : Met l yX5_isWithin wsX5_isWithin ({ frames := 0, cells := 0, slots := 0, locals := 0 }) (roP D ct ([]) [.int x, .int lo, .int hi]) (vp_Si (fun r => r = pIn x lo hi)) 0 0 noA := by
  refine Met.ofW (cc := cX5_isWithin) (maxL := 3) (ret := (some .boolean)) (by decide) rfl ?_
  intro p e s m args below meth c s₁ B hml hv
  obtain ⟨rfl, hP, hK, hN⟩ := hv
  have hx := B.exec
  have hb := B.bytes
  have hr := B.returns
  have hts := atoms_spec (ws := wsX5_isWithin) B.pre
  have hown : s.vm.findClass RX5 = some m.cls := findClass_of_methodNamed B.named
  have hlocks := B.notSynchronized
  have hl := lv_entry ([.int x, .int lo, .int hi]) (n := 3) (Nat.le_of_ble_eq_true rfl)
  rw [lg_entry_eq]
  generalize (lg_sl ([.int x, .int lo, .int hi]) ++ List.replicate (3 - (lg_sl ([.int x, .int lo, .int hi])).length) Slot.unset).toArray = ls at hl ⊢
  have hl : lv_has ls 3 [(0, .int x), (1, .int lo), (2, .int hi)] := hl
  refine lv_iload_n hx hb dX5_isWithin_0 rfl (lv_at hl 0 rfl) ?_
  refine lv_iload_n hx hb dX5_isWithin_1 rfl (lv_at hl 1 rfl) ?_
  refine lv_icmp_lt (tgt := 14) hx hb dX5_isWithin_2 (by decide) (fun c_2 => ?_) (fun c_2 => ?_)
  · refine lv_iconst (v := 0) hx hb dX5_isWithin_14 (by decide) ?_
    exact W.zret (v := 0) hx hb hr (by decide) (fun tt ht hW => ⟨0, rfl, (if_pos (Or.inl c_2)).symm, ht⟩) (fun q hq => absurd hq List.not_mem_nil) dX5_isWithin_15
  · refine lv_iload_n hx hb dX5_isWithin_5 rfl (lv_at hl 0 rfl) ?_
    refine lv_iload_n hx hb dX5_isWithin_6 rfl (lv_at hl 2 rfl) ?_
    refine lv_icmp_gt (tgt := 14) hx hb dX5_isWithin_7 (by decide) (fun c_7 => ?_) (fun c_7 => ?_)
    · refine lv_iconst (v := 0) hx hb dX5_isWithin_14 (by decide) ?_
      exact W.zret (v := 0) hx hb hr (by decide) (fun tt ht hW => ⟨0, rfl, (if_pos (Or.inr c_7)).symm, ht⟩) (fun q hq => absurd hq List.not_mem_nil) dX5_isWithin_15
    · refine lv_iconst (v := 1) hx hb dX5_isWithin_10 (by decide) ?_
      refine lv_goto (tgt := 15) hx hb dX5_isWithin_11 (by decide) ?_
      exact W.zret (v := 1) hx hb hr (by decide) (fun tt ht hW => ⟨1, rfl, (if_neg (fun h => h.elim c_2 c_7)).symm, ht⟩) (fun q hq => absurd hq List.not_mem_nil) dX5_isWithin_15
set_option maxHeartbeats 4000000 in
set_option maxRecDepth 100000 in
theorem k_X5_glowLit (l : Launch) (D : va_G) (ct : Nat → ClassId) (g : Int32) : Met l yX5_glowLit wsX5_glowLit ({ frames := 1, cells := 0, slots := 0, locals := 24 }) (roP D ct ([]) [.int g]) (vp_Si (fun r => r = pBri g)) 0 0 noA := by
  refine Met.ofW (cc := cX5_glowLit) (maxL := 2) (ret := (some .int)) (by decide) rfl ?_
  intro p e s m args below meth c s₁ B hml hv
  obtain ⟨rfl, hP, hK, hN⟩ := hv
  have hx := B.exec
  have hb := B.bytes
  have hr := B.returns
  have hts := atoms_spec (ws := wsX5_glowLit) B.pre
  have hown : s.vm.findClass RX5 = some m.cls := findClass_of_methodNamed B.named
  have hlocks := B.notSynchronized
  have w_1 := hts (.methodLink RX5 234 Lib.Math.max.name) (List.mem_of_getElem? (i := 1) rfl)
  have w_2 := hts (.static Lib.Math.max.name) (List.mem_of_getElem? (i := 2) rfl)
  have w_3 := hts (.initialized "java/lang/Math") (List.mem_of_getElem? (i := 3) rfl)
  have w_4 := hts (.code Lib.Math.max.name Lib.Math.max.code 2 (some .int)) (List.mem_of_getElem? (i := 4) rfl)
  have w_5 := hts (.methodLink RX5 240 Lib.Math.min.name) (List.mem_of_getElem? (i := 5) rfl)
  have w_6 := hts (.static Lib.Math.min.name) (List.mem_of_getElem? (i := 6) rfl)
  have w_7 := hts (.code Lib.Math.min.name Lib.Math.min.code 2 (some .int)) (List.mem_of_getElem? (i := 7) rfl)
  have hl := lv_entry ([.int g]) (n := 2) (Nat.le_of_ble_eq_true rfl)
  rw [lg_entry_eq]
  generalize (lg_sl ([.int g]) ++ List.replicate (2 - (lg_sl ([.int g])).length) Slot.unset).toArray = ls at hl ⊢
  have hl : lv_has ls 2 [(0, .int g)] := hl
  refine lv_iconst (v := 1) hx hb dX5_glowLit_0 (by decide) ?_
  refine lv_sipush (v := 1000) hx hb dX5_glowLit_1 (by decide) ?_
  refine lv_iload_n hx hb dX5_glowLit_4 rfl (lv_at hl 0 rfl) ?_
  refine lv_isub hx hb dX5_glowLit_5 ?_
  refine lv_iconst (v := 4) hx hb dX5_glowLit_6 (by decide) ?_
  refine lv_idiv hx hb dX5_glowLit_7 (by decide) ?_
  refine va_mmax hx hb (by rw [hml]; exact hl.1.symm) hown w_1 w_2 w_3 w_4 (Nat.le_of_ble_eq_true rfl) (Nat.le_of_ble_eq_true rfl) (Nat.le_of_ble_eq_true rfl) (Nat.le_of_ble_eq_true rfl) dX5_glowLit_8 ?_
  refine lv_istore_n (lv' := [(1, .int (if 1 < ((1000 - g) / 4) then ((1000 - g) / 4) else 1)), (0, .int g)]) hx hb dX5_glowLit_11 rfl hl (by decide) rfl (fun ls hl => ?_)
  refine lv_sipush (v := 1000) hx hb dX5_glowLit_12 (by decide) ?_
  refine lv_iload_n hx hb dX5_glowLit_15 rfl (lv_at hl 1 rfl) ?_
  refine lv_iload_n hx hb dX5_glowLit_16 rfl (lv_at hl 0 rfl) ?_
  refine lv_iadd hx hb dX5_glowLit_17 ?_
  refine va_mmin hx hb (by rw [hml]; exact hl.1.symm) hown w_5 w_6 w_3 w_7 (Nat.le_of_ble_eq_true rfl) (Nat.le_of_ble_eq_true rfl) (Nat.le_of_ble_eq_true rfl) (Nat.le_of_ble_eq_true rfl) dX5_glowLit_18 ?_
  exact W.iret (v := (if (g + (if 1 < ((1000 - g) / 4) then ((1000 - g) / 4) else 1)) < 1000 then (g + (if 1 < ((1000 - g) / 4) then ((1000 - g) / 4) else 1)) else 1000)) hx hb hr (fun tt ht hW => ⟨(if (g + (if 1 < ((1000 - g) / 4) then ((1000 - g) / 4) else 1)) < 1000 then (g + (if 1 < ((1000 - g) / 4) then ((1000 - g) / 4) else 1)) else 1000), rfl, glowLit_eq g, ht⟩) (fun q hq => absurd hq List.not_mem_nil) dX5_glowLit_21
set_option maxHeartbeats 4000000 in
set_option maxRecDepth 100000 in
theorem k_X5_glowUnlit (l : Launch) (D : va_G) (ct : Nat → ClassId) (g q : Int32) (hq : 0 < q) : Met l yX5_glowUnlit wsX5_glowUnlit ({ frames := 1, cells := 0, slots := 0, locals := 24 }) (roP D ct ([]) [.int g, .int q]) (vp_Si (fun r => r = pDar g q)) 0 0 noA := by
  refine Met.ofW (cc := cX5_glowUnlit) (maxL := 3) (ret := (some .int)) (by decide) rfl ?_
  intro p e s m args below meth c s₁ B hml hv
  obtain ⟨rfl, hP, hK, hN⟩ := hv
  have hx := B.exec
  have hb := B.bytes
  have hr := B.returns
  have hts := atoms_spec (ws := wsX5_glowUnlit) B.pre
  have hown : s.vm.findClass RX5 = some m.cls := findClass_of_methodNamed B.named
  have hlocks := B.notSynchronized
  have w_1 := hts (.methodLink RX5 234 Lib.Math.max.name) (List.mem_of_getElem? (i := 1) rfl)
  have w_2 := hts (.static Lib.Math.max.name) (List.mem_of_getElem? (i := 2) rfl)
  have w_3 := hts (.initialized "java/lang/Math") (List.mem_of_getElem? (i := 3) rfl)
  have w_4 := hts (.code Lib.Math.max.name Lib.Math.max.code 2 (some .int)) (List.mem_of_getElem? (i := 4) rfl)
  have hl := lv_entry ([.int g, .int q]) (n := 3) (Nat.le_of_ble_eq_true rfl)
  rw [lg_entry_eq]
  generalize (lg_sl ([.int g, .int q]) ++ List.replicate (3 - (lg_sl ([.int g, .int q])).length) Slot.unset).toArray = ls at hl ⊢
  have hl : lv_has ls 3 [(0, .int g), (1, .int q)] := hl
  refine lv_iload_n hx hb dX5_glowUnlit_0 rfl (lv_at hl 1 rfl) ?_
  refine lv_if_le (tgt := 10) hx hb dX5_glowUnlit_1 (by decide) (fun c_1 => ?_) (fun c_1 => ?_)
  · exact absurd c_1 (Int32.not_le.mpr hq)
  · refine lv_iload_n hx hb dX5_glowUnlit_4 rfl (lv_at hl 0 rfl) ?_
    refine lv_iload_n hx hb dX5_glowUnlit_5 rfl (lv_at hl 1 rfl) ?_
    refine lv_idiv hx hb dX5_glowUnlit_6 (fun z => by rw [z] at hq; exact absurd hq (by decide)) ?_
    refine lv_goto (tgt := 11) hx hb dX5_glowUnlit_7 (by decide) ?_
    refine lv_istore_n (lv' := [(2, .int (g / q)), (0, .int g), (1, .int q)]) hx hb dX5_glowUnlit_11 rfl hl (by decide) rfl (fun ls hl => ?_)
    refine lv_iconst (v := 0) hx hb dX5_glowUnlit_12 (by decide) ?_
    refine lv_iload_n hx hb dX5_glowUnlit_13 rfl (lv_at hl 1 rfl) ?_
    refine lv_iload_n hx hb dX5_glowUnlit_14 rfl (lv_at hl 0 rfl) ?_
    refine lv_isub hx hb dX5_glowUnlit_15 ?_
    refine lv_iconst (v := 1) hx hb dX5_glowUnlit_16 (by decide) ?_
    refine lv_isub hx hb dX5_glowUnlit_17 ?_
    refine va_mmax hx hb (by rw [hml]; exact hl.1.symm) hown w_1 w_2 w_3 w_4 (Nat.le_of_ble_eq_true rfl) (Nat.le_of_ble_eq_true rfl) (Nat.le_of_ble_eq_true rfl) (Nat.le_of_ble_eq_true rfl) dX5_glowUnlit_18 ?_
    exact W.iret (v := (if 0 < ((g - (g / q)) - 1) then ((g - (g / q)) - 1) else 0)) hx hb hr (fun tt ht hW => ⟨(if 0 < ((g - (g / q)) - 1) then ((g - (g / q)) - 1) else 0), rfl, glowUn_eq g q, ht⟩) (fun q hq => absurd hq List.not_mem_nil) dX5_glowUnlit_21
set_option maxHeartbeats 4000000 in
set_option maxRecDepth 100000 in
theorem k_X0_litPartAt (l : Launch) (D : va_G) (ct : Nat → ClassId) (x y z : Nat) (f g u : Nat → Int32) (b : Int32) : Met l yX0_litPartAt wsX0_litPartAt ({ frames := 0, cells := 0, slots := 0, locals := 0 }) (roP D ct (dgW ct x y z f g u) [.ref x, .int b]) (vp_Si (fun r => r = (f 1 - f 2) * b / 15)) 0 0 noA := by
  refine Met.ofW (cc := cX0_litPartAt) (maxL := 2) (ret := (some .int)) (by decide) rfl ?_
  intro p e s m args below meth c s₁ B hml hv
  obtain ⟨rfl, hP, hK, hN⟩ := hv
  have hx := B.exec
  have hb := B.bytes
  have hr := B.returns
  have hts := atoms_spec (ws := wsX0_litPartAt) B.pre
  have hown : s.vm.findClass RX0 = some m.cls := findClass_of_methodNamed B.named
  have hlocks := B.notSynchronized
  have w_1 := hts (.fieldLink RX0 21 "ScannedDigits$Digit" "width" "I") (List.mem_of_getElem? (i := 1) rfl)
  have w_2 := hts (.fieldLink RX0 25 "ScannedDigits$Digit" "guard" "I") (List.mem_of_getElem? (i := 2) rfl)
  have hiX0 : ∀ w ∈ wsX00, w ∈ wsX0_litPartAt := fun w h => (goodIn_r wsX00 [3, 4, 5, 6, 7, 8, 9, 10, 11] (by decide +kernel) (by decide +kernel) w h).1
  have hl := lv_entry ([.ref x, .int b]) (n := 2) (Nat.le_of_ble_eq_true rfl)
  rw [lg_entry_eq]
  generalize (lg_sl ([.ref x, .int b]) ++ List.replicate (2 - (lg_sl ([.ref x, .int b])).length) Slot.unset).toArray = ls at hl ⊢
  have hl : lv_has ls 2 [(0, .ref x), (1, .int b)] := hl
  refine lv_aload_n hx hb dX0_litPartAt_0 rfl (lv_at hl 0 rfl) ?_
  refine va_get (D := D) (ci := 0) (v := .int (f 1)) (C := RX0) (T := TX0) (N := 9) hx hb hts hiX0 hown hK hP 0 rfl rfl 0 (by decide) w_1 (fun _ h9 => h9) rfl dX0_litPartAt_1 ?_
  refine lv_aload_n hx hb dX0_litPartAt_4 rfl (lv_at hl 0 rfl) ?_
  refine va_get (D := D) (ci := 0) (v := .int (f 2)) (C := RX0) (T := TX0) (N := 9) hx hb hts hiX0 hown hK hP 0 rfl rfl 1 (by decide) w_2 (fun _ h9 => h9) rfl dX0_litPartAt_5 ?_
  refine lv_isub hx hb dX0_litPartAt_8 ?_
  refine lv_iload_n hx hb dX0_litPartAt_9 rfl (lv_at hl 1 rfl) ?_
  refine lv_imul hx hb dX0_litPartAt_10 ?_
  refine lv_bipush (v := 15) hx hb dX0_litPartAt_11 (by decide) ?_
  refine lv_idiv hx hb dX0_litPartAt_13 (by decide) ?_
  exact W.iret (v := ((((f 1) - (f 2)) * b) / 15)) hx hb hr (fun tt ht hW => ⟨((((f 1) - (f 2)) * b) / 15), rfl, rfl, ht⟩) (fun q hq => absurd hq List.not_mem_nil) dX0_litPartAt_14
set_option maxHeartbeats 4000000 in
set_option maxRecDepth 100000 in
theorem k_X0_litPart (l : Launch) (D : va_G) (ct : Nat → ClassId) (x y z : Nat) (f g u : Nat → Int32) : Met l yX0_litPart wsX0_litPart ({ frames := 1, cells := 0, slots := 0, locals := 21 }) (roP D ct (dgW ct x y z f g u) [.ref x]) (vp_Si (fun r => r = (f 1 - f 2) * f 3 / 15)) 0 0 noA := by
  refine Met.ofW (cc := cX0_litPart) (maxL := 1) (ret := (some .int)) (by decide) rfl ?_
  intro p e s m args below meth c s₁ B hml hv
  obtain ⟨rfl, hP, hK, hN⟩ := hv
  have hx := B.exec
  have hb := B.bytes
  have hr := B.returns
  have hts := atoms_spec (ws := wsX0_litPart) B.pre
  have hown : s.vm.findClass RX0 = some m.cls := findClass_of_methodNamed B.named
  have hlocks := B.notSynchronized
  have w_1 := hts (.fieldLink RX0 28 "ScannedDigits$Digit" "brightness" "I") (List.mem_of_getElem? (i := 1) rfl)
  have hiX0 : ∀ w ∈ wsX00, w ∈ wsX0_litPart := fun w h => (goodIn_r wsX00 [9, 10, 11, 12, 13, 14, 15, 16, 17] (by decide +kernel) (by decide +kernel) w h).1
  have hl := lv_entry ([.ref x]) (n := 1) (Nat.le_of_ble_eq_true rfl)
  rw [lg_entry_eq]
  generalize (lg_sl ([.ref x]) ++ List.replicate (1 - (lg_sl ([.ref x])).length) Slot.unset).toArray = ls at hl ⊢
  have hl : lv_has ls 1 [(0, .ref x)] := hl
  refine lv_aload_n hx hb dX0_litPart_0 rfl (lv_at hl 0 rfl) ?_
  refine lv_aload_n hx hb dX0_litPart_1 rfl (lv_at hl 0 rfl) ?_
  refine va_get (D := D) (ci := 0) (v := .int (f 3)) (C := RX0) (T := TX0) (N := 9) hx hb hts hiX0 hown hK hP 0 rfl rfl 2 (by decide) w_1 (fun _ h9 => h9) rfl dX0_litPart_2 ?_
  refine vp_callSi (va_runV (As := [.int (f 3)]) (rest := []) ⟨hx, hb, hml, hown, hts⟩ (k_X0_litPartAt l D ct x y z f g u (f 3)) (cwV 1 hts gX0_litPart_X0_litPartAt rfl rfl rfl (by decide +kernel) ⟨Nat.le_of_ble_eq_true rfl, Nat.le_of_ble_eq_true rfl⟩) ⟨roP.blind, va_recv hK hP (ci := 0) (q0 := 0) rfl rfl, roP.at hP hK hN⟩ rfl rfl hl.1 rfl (lv_room (Nat.le_of_ble_eq_true rfl)) dX0_litPart_5 ⟨Nat.le_of_ble_eq_true rfl, Nat.le_of_ble_eq_true rfl⟩).run (fun r_5 h_5 => ?_)
  obtain rfl : r_5 = (f 1 - f 2) * f 3 / 15 := h_5
  exact W.iret (v := ((f 1 - f 2) * f 3 / 15)) hx hb hr (fun tt ht hW => ⟨((f 1 - f 2) * f 3 / 15), rfl, rfl, ht⟩) (fun q hq => absurd hq List.not_mem_nil) dX0_litPart_8
set_option maxHeartbeats 4000000 in
set_option maxRecDepth 100000 in
theorem k_X0_seen (l : Launch) (D : va_G) (ct : Nat → ClassId) (x y z : Nat) (f g u : Nat → Int32) (th : Int32) : Met l yX0_seen wsX0_seen ({ frames := 0, cells := 0, slots := 0, locals := 0 }) (roP D ct (dgW ct x y z f g u) [.ref x, .int th]) (vp_Si (fun r => r = pSeen g th 8)) 0 0 noA := by
  refine Met.ofW (cc := cX0_seen) (maxL := 4) (ret := (some .int)) (by decide) rfl ?_
  intro p e s m args below meth c s₁ B hml hv
  obtain ⟨rfl, hP, hK, hN⟩ := hv
  have hx := B.exec
  have hb := B.bytes
  have hr := B.returns
  have hts := atoms_spec (ws := wsX0_seen) B.pre
  have hown : s.vm.findClass RX0 = some m.cls := findClass_of_methodNamed B.named
  have hlocks := B.notSynchronized
  have w_1 := hts (.fieldLink RX0 9 "ScannedDigits$Digit" "glow" "[I") (List.mem_of_getElem? (i := 1) rfl)
  have hiX0 : ∀ w ∈ wsX00, w ∈ wsX0_seen := fun w h => (goodIn_r wsX00 [2, 3, 4, 5, 6, 7, 8, 9, 10] (by decide +kernel) (by decide +kernel) w h).1
  have hl := lv_entry ([.ref x, .int th]) (n := 4) (Nat.le_of_ble_eq_true rfl)
  rw [lg_entry_eq]
  generalize (lg_sl ([.ref x, .int th]) ++ List.replicate (4 - (lg_sl ([.ref x, .int th])).length) Slot.unset).toArray = ls at hl ⊢
  have hl : lv_has ls 4 [(0, .ref x), (1, .int th)] := hl
  refine lv_iconst (v := 0) hx hb dX0_seen_0 (by decide) ?_
  refine lv_istore_n (lv' := [(2, .int 0), (0, .ref x), (1, .int th)]) hx hb dX0_seen_1 rfl hl (by decide) rfl (fun ls hl => ?_)
  refine lv_iconst (v := 0) hx hb dX0_seen_2 (by decide) ?_
  refine lv_istore_n (lv' := [(3, .int 0), (2, .int 0), (0, .ref x), (1, .int th)]) hx hb dX0_seen_3 rfl hl (by decide) rfl (fun ls hl => ?_)
  have loop_4 : ∀ (n_4 : Nat) (i : Nat) (q : Int32), (i ≤ 8) → (9 ≤ i + n_4) → (q = pSeen g th i) → ∀ (ls : Array Slot), lv_has ls 4 [(2, .int q), (3, .int (nI i)), (0, .ref x), (1, .int th)] → W p l e (headSpec wsX0_seen ({ frames := 0, cells := 0, slots := 0, locals := 0 })).room s m #[.ref x, .int th] below meth c s.heap [] 0 0 (MQ below (vp_Si (fun r => r = pSeen g th 8)) #[.ref x, .int th] s 0 0 (noA)) (F0 m 4 ls []) := by
    intro n_4
    induction n_4 with
    | zero =>
      intro i q hi hn hx2
      exact absurd hn (by omega)
    | succ n_4 ih_4 =>
      intro i q hi hn hx2 ls hl
      refine lv_iload_n hx hb dX0_seen_4 rfl (lv_at hl 1 rfl) ?_
      refine lv_bipush (v := 8) hx hb dX0_seen_5 (by decide) ?_
      refine lv_icmp_ge (tgt := 32) hx hb dX0_seen_7 (by decide) (fun c_7 => ?_) (fun c_7 => ?_)
      · have hge : 8 ≤ i := nI_le' (by decide) (by omega) c_7
        refine lv_iload_n hx hb dX0_seen_32 rfl (lv_at hl 0 rfl) ?_
        exact W.iret (v := q) hx hb hr (fun tt ht hW => ⟨q, rfl, by rw [hx2, show i = 8 by omega], ht⟩) (fun q hq => absurd hq List.not_mem_nil) dX0_seen_33
      · have hlt : i < 8 := nI_nle' (by decide) (by omega) c_7
        refine lv_aload_n hx hb dX0_seen_10 rfl (lv_at hl 2 rfl) ?_
        refine va_get (D := D) (ci := 0) (v := .ref y) (C := RX0) (T := TX0) (N := 9) hx hb hts hiX0 hown hK hP 0 rfl rfl 7 (by decide) w_1 (fun _ h9 => h9) rfl dX0_seen_11 ?_
        refine lv_iload_n hx hb dX0_seen_14 rfl (lv_at hl 1 rfl) ?_
        refine r_iald hx hb hK hP 1 0 rfl rfl (k := i) (rfl) (by omega) (by decide) dX0_seen_15 ?_
        refine lv_iload_n hx hb dX0_seen_16 rfl (lv_at hl 3 rfl) ?_
        refine lv_icmp_lt (tgt := 26) hx hb dX0_seen_17 (by decide) (fun c_17 => ?_) (fun c_17 => ?_)
        · refine lv_iinc (v := nI (i + 1)) (lv' := [(3, .int (nI (i + 1))), (2, .int q), (0, .ref x), (1, .int th)]) hx hb dX0_seen_26 hl (k := 1) rfl ((nI_succ i).symm) (by decide) rfl (fun ls hl => ?_)
          refine lv_goto (tgt := 4) hx hb dX0_seen_29 (by decide) ?_
          exact ih_4 (i + 1) _ (by omega) (by omega) (by rw [hx2]; show _ = _ ||| (if _ then _ else _); rw [if_pos c_17, Int32.or_zero]) ls (lv_sub hl [1, 0, 2, 3] rfl)
        · refine lv_iload_n hx hb dX0_seen_20 rfl (lv_at hl 0 rfl) ?_
          refine lv_iconst (v := 1) hx hb dX0_seen_21 (by decide) ?_
          refine lv_iload_n hx hb dX0_seen_22 rfl (lv_at hl 1 rfl) ?_
          refine lv_ishl hx hb dX0_seen_23 ?_
          refine lv_ior hx hb dX0_seen_24 ?_
          refine lv_istore_n (lv' := [(2, .int (q ||| (1 <<< ((nI i) &&& 31)))), (3, .int (nI i)), (0, .ref x), (1, .int th)]) hx hb dX0_seen_25 rfl hl (by decide) rfl (fun ls hl => ?_)
          refine lv_iinc (v := nI (i + 1)) (lv' := [(3, .int (nI (i + 1))), (2, .int (q ||| (1 <<< ((nI i) &&& 31)))), (0, .ref x), (1, .int th)]) hx hb dX0_seen_26 hl (k := 1) rfl ((nI_succ i).symm) (by decide) rfl (fun ls hl => ?_)
          refine lv_goto (tgt := 4) hx hb dX0_seen_29 (by decide) ?_
          exact ih_4 (i + 1) _ (by omega) (by omega) (by rw [hx2]; show _ = _ ||| (if _ then _ else _); rw [if_neg c_17]) ls (lv_sub hl [1, 0, 2, 3] rfl)
  exact loop_4 (9) 0 0 (Nat.zero_le _) (by omega) rfl ls (lv_sub hl [1, 0, 2, 3] rfl)
set_option maxHeartbeats 4000000 in
set_option maxRecDepth 100000 in
theorem k_X0_glowSum (l : Launch) (D : va_G) (ct : Nat → ClassId) (x y z : Nat) (f g u : Nat → Int32) : Met l yX0_glowSum wsX0_glowSum ({ frames := 0, cells := 0, slots := 0, locals := 0 }) (roP D ct (dgW ct x y z f g u) [.ref x]) (vp_Si (fun r => r = pSum g 8)) 0 0 noA := by
  refine Met.ofW (cc := cX0_glowSum) (maxL := 3) (ret := (some .int)) (by decide) rfl ?_
  intro p e s m args below meth c s₁ B hml hv
  obtain ⟨rfl, hP, hK, hN⟩ := hv
  have hx := B.exec
  have hb := B.bytes
  have hr := B.returns
  have hts := atoms_spec (ws := wsX0_glowSum) B.pre
  have hown : s.vm.findClass RX0 = some m.cls := findClass_of_methodNamed B.named
  have hlocks := B.notSynchronized
  have w_1 := hts (.fieldLink RX0 9 "ScannedDigits$Digit" "glow" "[I") (List.mem_of_getElem? (i := 1) rfl)
  have hiX0 : ∀ w ∈ wsX00, w ∈ wsX0_glowSum := fun w h => (goodIn_r wsX00 [2, 3, 4, 5, 6, 7, 8, 9, 10] (by decide +kernel) (by decide +kernel) w h).1
  have hl := lv_entry ([.ref x]) (n := 3) (Nat.le_of_ble_eq_true rfl)
  rw [lg_entry_eq]
  generalize (lg_sl ([.ref x]) ++ List.replicate (3 - (lg_sl ([.ref x])).length) Slot.unset).toArray = ls at hl ⊢
  have hl : lv_has ls 3 [(0, .ref x)] := hl
  refine lv_iconst (v := 0) hx hb dX0_glowSum_0 (by decide) ?_
  refine lv_istore_n (lv' := [(1, .int 0), (0, .ref x)]) hx hb dX0_glowSum_1 rfl hl (by decide) rfl (fun ls hl => ?_)
  refine lv_iconst (v := 0) hx hb dX0_glowSum_2 (by decide) ?_
  refine lv_istore_n (lv' := [(2, .int 0), (1, .int 0), (0, .ref x)]) hx hb dX0_glowSum_3 rfl hl (by decide) rfl (fun ls hl => ?_)
  have loop_4 : ∀ (n_4 : Nat) (i : Nat) (q : Int32), (i ≤ 8) → (9 ≤ i + n_4) → (q = pSum g i) → ∀ (ls : Array Slot), lv_has ls 3 [(1, .int q), (2, .int (nI i)), (0, .ref x)] → W p l e (headSpec wsX0_glowSum ({ frames := 0, cells := 0, slots := 0, locals := 0 })).room s m #[.ref x] below meth c s.heap [] 0 0 (MQ below (vp_Si (fun r => r = pSum g 8)) #[.ref x] s 0 0 (noA)) (F0 m 4 ls []) := by
    intro n_4
    induction n_4 with
    | zero =>
      intro i q hi hn hx2
      exact absurd hn (by omega)
    | succ n_4 ih_4 =>
      intro i q hi hn hx2 ls hl
      refine lv_iload_n hx hb dX0_glowSum_4 rfl (lv_at hl 1 rfl) ?_
      refine lv_bipush (v := 8) hx hb dX0_glowSum_5 (by decide) ?_
      refine lv_icmp_ge (tgt := 25) hx hb dX0_glowSum_7 (by decide) (fun c_7 => ?_) (fun c_7 => ?_)
      · have hge : 8 ≤ i := nI_le' (by decide) (by omega) c_7
        refine lv_iload_n hx hb dX0_glowSum_25 rfl (lv_at hl 0 rfl) ?_
        exact W.iret (v := q) hx hb hr (fun tt ht hW => ⟨q, rfl, by rw [hx2, show i = 8 by omega], ht⟩) (fun q hq => absurd hq List.not_mem_nil) dX0_glowSum_26
      · have hlt : i < 8 := nI_nle' (by decide) (by omega) c_7
        refine lv_iload_n hx hb dX0_glowSum_10 rfl (lv_at hl 0 rfl) ?_
        refine lv_aload_n hx hb dX0_glowSum_11 rfl (lv_at hl 2 rfl) ?_
        refine va_get (D := D) (ci := 0) (v := .ref y) (C := RX0) (T := TX0) (N := 9) hx hb hts hiX0 hown hK hP 0 rfl rfl 7 (by decide) w_1 (fun _ h9 => h9) rfl dX0_glowSum_12 ?_
        refine lv_iload_n hx hb dX0_glowSum_15 rfl (lv_at hl 1 rfl) ?_
        refine r_iald hx hb hK hP 1 0 rfl rfl (k := i) (rfl) (by omega) (by decide) dX0_glowSum_16 ?_
        refine lv_iadd hx hb dX0_glowSum_17 ?_
        refine lv_istore_n (lv' := [(1, .int (q + (g i))), (2, .int (nI i)), (0, .ref x)]) hx hb dX0_glowSum_18 rfl hl (by decide) rfl (fun ls hl => ?_)
        refine lv_iinc (v := nI (i + 1)) (lv' := [(2, .int (nI (i + 1))), (1, .int (q + (g i))), (0, .ref x)]) hx hb dX0_glowSum_19 hl (k := 1) rfl ((nI_succ i).symm) (by decide) rfl (fun ls hl => ?_)
        refine lv_goto (tgt := 4) hx hb dX0_glowSum_22 (by decide) ?_
        exact ih_4 (i + 1) _ (by omega) (by omega) (by rw [hx2]; rfl) ls (lv_sub hl [1, 0, 2] rfl)
  exact loop_4 (9) 0 0 (Nat.zero_le _) (by omega) rfl ls (lv_sub hl [1, 0, 2] rfl)
set_option maxHeartbeats 4000000 in
set_option maxRecDepth 100000 in
theorem k_X3_find_ok (l : Launch) (D : va_G) (ct : Nat → ClassId) (a : Nat → Nat) (v : SV) (ok : Inv v) (d : Nat) (hd : d < nOf v) : Met l yX3_find wsX3_find ({ frames := 1, cells := 0, slots := 0, locals := 22 }) (roP D ct (stW ct a v) [.ref (a 0), .int (nI d)]) (va_Sq (fun r => r = some (a (3 * d + 5)))) 0 0 noA := by
  refine Met.ofW (cc := cX3_find) (maxL := 2) (ret := (some (.object "ScannedDigits$Digit"))) (by decide) rfl ?_
  intro p e s m args below meth c s₁ B hml hv
  obtain ⟨rfl, hP, hK, hN⟩ := hv
  have hx := B.exec
  have hb := B.bytes
  have hr := B.returns
  have hts := atoms_spec (ws := wsX3_find) B.pre
  have hown : s.vm.findClass RX3 = some m.cls := findClass_of_methodNamed B.named
  have hlocks := B.notSynchronized
  have w_1 := hts (.fieldLink RX3 17 "ScannedDigits$State" "digitCount" "I") (List.mem_of_getElem? (i := 1) rfl)
  have w_2 := hts (.fieldLink RX3 11 "ScannedDigits$State" "digits" "[LScannedDigits$Digit;") (List.mem_of_getElem? (i := 2) rfl)
  have w_3 := hts (.static yX5_isWithin) (List.mem_of_getElem? (i := 3) rfl)
  have w_4 := hts (.initialized RX5) (List.mem_of_getElem? (i := 4) rfl)
  have hiX3 : ∀ w ∈ wsX30, w ∈ wsX3_find := fun w h => (goodIn_r wsX30 [6, 7, 8, 9, 10, 11, 12, 13, 14, 15, 16, 17, 18] (by decide +kernel) (by decide +kernel) w h).1
  have hl := lv_entry ([.ref (a 0), .int (nI d)]) (n := 2) (Nat.le_of_ble_eq_true rfl)
  rw [lg_entry_eq]
  generalize (lg_sl ([.ref (a 0), .int (nI d)]) ++ List.replicate (2 - (lg_sl ([.ref (a 0), .int (nI d)])).length) Slot.unset).toArray = ls at hl ⊢
  have hl : lv_has ls 2 [(0, .ref (a 0)), (1, .int (nI d))] := hl
  have hd8 : d < 8 := Nat.lt_of_lt_of_le hd ok.n8
  have hvd := vD_of ok hd
  refine lv_iload_n hx hb dX3_find_0 rfl (lv_at hl 1 rfl) ?_
  refine lv_iconst (v := 0) hx hb dX3_find_1 (by decide) ?_
  refine lv_aload_n hx hb dX3_find_2 rfl (lv_at hl 0 rfl) ?_
  refine va_get (D := D) (ci := 3) (v := .int (v.1 0 0)) (C := RX3) (T := TX3) (N := 13) hx hb hts hiX3 hown hK hP 0 st_c0 rfl 1 (by decide) w_1 (fun _ h9 => h9) rfl dX3_find_3 ?_
  refine lv_iconst (v := 1) hx hb dX3_find_6 (by decide) ?_
  refine lv_isub hx hb dX3_find_7 ?_
  refine vp_callSi (va_runSN (As := [.int (nI d), .int 0, .int ((v.1 0 0) - 1)]) (rest := []) ⟨hx, hb, hml, hown, hts⟩ (k_X5_isWithin l D ct (nI d) 0 (v.1 0 0 - 1)) ⟨va_cnB 3 hts gX3_find_X5_isWithin_n75 rfl rfl rfl hN.2.2.1 w_4 (by decide +kernel) ⟨Nat.le_of_ble_eq_true rfl, Nat.le_of_ble_eq_true rfl⟩, w_3, trivial⟩ ⟨roP.blind, roP.at pw_nil hK hN⟩ rfl rfl hl.1 rfl (lv_room (Nat.le_of_ble_eq_true rfl)) dX3_find_8 ⟨Nat.le_of_ble_eq_true rfl, Nat.le_of_ble_eq_true rfl⟩).run (fun r_8 h_8 => ?_)
  obtain rfl : r_8 = pIn (nI d) 0 (v.1 0 0 - 1) := h_8
  refine lv_if_eq (tgt := 23) hx hb dX3_find_11 (by decide) (fun c_11 => ?_) (fun c_11 => ?_)
  · exact absurd (pIn_0 c_11) hvd
  · refine lv_aload_n hx hb dX3_find_14 rfl (lv_at hl 0 rfl) ?_
    refine va_get (D := D) (ci := 3) (v := .ref (a 1)) (C := RX3) (T := TX3) (N := 13) hx hb hts hiX3 hown hK hP 0 st_c0 rfl 0 (by decide) w_2 (fun _ h9 => h9) rfl dX3_find_15 ?_
    refine lv_iload_n hx hb dX3_find_18 rfl (lv_at hl 1 rfl) ?_
    refine r_aldq (v := a (3 * d + 5)) hx hb hK hP 1 4 st_c1 rfl (k := d) (rfl) (by omega) (by decide) (rfl) dX3_find_19 ?_
    have hPd_19 : va_P D vwCl (dgA ct a v d) _ := st_dgP (by omega) hP
    refine lv_goto (tgt := 24) hx hb dX3_find_20 (by decide) ?_
    exact W.aret (v := .ref (a (3 * d + 5))) hx hb hr (Or.inl ⟨_, rfl⟩) (Or.inr ⟨_, rfl⟩) (fun tt ht hW => ⟨(some (a (3 * d + 5))), rfl, rfl, ht⟩) (fun q hq => absurd hq List.not_mem_nil) dX3_find_24
set_option maxHeartbeats 4000000 in
set_option maxRecDepth 100000 in
theorem k_X3_find_no (l : Launch) (D : va_G) (ct : Nat → ClassId) (a : Nat → Nat) (v : SV) (x : Int32) (hnd : ¬ vD v x) : Met l yX3_find wsX3_find ({ frames := 1, cells := 0, slots := 0, locals := 22 }) (roP D ct (stW ct a v) [.ref (a 0), .int x]) (va_Sq (fun r => r = none)) 0 0 noA := by
  refine Met.ofW (cc := cX3_find) (maxL := 2) (ret := (some (.object "ScannedDigits$Digit"))) (by decide) rfl ?_
  intro p e s m args below meth c s₁ B hml hv
  obtain ⟨rfl, hP, hK, hN⟩ := hv
  have hx := B.exec
  have hb := B.bytes
  have hr := B.returns
  have hts := atoms_spec (ws := wsX3_find) B.pre
  have hown : s.vm.findClass RX3 = some m.cls := findClass_of_methodNamed B.named
  have hlocks := B.notSynchronized
  have w_1 := hts (.fieldLink RX3 17 "ScannedDigits$State" "digitCount" "I") (List.mem_of_getElem? (i := 1) rfl)
  have w_3 := hts (.static yX5_isWithin) (List.mem_of_getElem? (i := 3) rfl)
  have w_4 := hts (.initialized RX5) (List.mem_of_getElem? (i := 4) rfl)
  have hiX3 : ∀ w ∈ wsX30, w ∈ wsX3_find := fun w h => (goodIn_r wsX30 [6, 7, 8, 9, 10, 11, 12, 13, 14, 15, 16, 17, 18] (by decide +kernel) (by decide +kernel) w h).1
  have hl := lv_entry ([.ref (a 0), .int x]) (n := 2) (Nat.le_of_ble_eq_true rfl)
  rw [lg_entry_eq]
  generalize (lg_sl ([.ref (a 0), .int x]) ++ List.replicate (2 - (lg_sl ([.ref (a 0), .int x])).length) Slot.unset).toArray = ls at hl ⊢
  have hl : lv_has ls 2 [(0, .ref (a 0)), (1, .int x)] := hl
  refine lv_iload_n hx hb dX3_find_0 rfl (lv_at hl 1 rfl) ?_
  refine lv_iconst (v := 0) hx hb dX3_find_1 (by decide) ?_
  refine lv_aload_n hx hb dX3_find_2 rfl (lv_at hl 0 rfl) ?_
  refine va_get (D := D) (ci := 3) (v := .int (v.1 0 0)) (C := RX3) (T := TX3) (N := 13) hx hb hts hiX3 hown hK hP 0 st_c0 rfl 1 (by decide) w_1 (fun _ h9 => h9) rfl dX3_find_3 ?_
  refine lv_iconst (v := 1) hx hb dX3_find_6 (by decide) ?_
  refine lv_isub hx hb dX3_find_7 ?_
  refine vp_callSi (va_runSN (As := [.int x, .int 0, .int ((v.1 0 0) - 1)]) (rest := []) ⟨hx, hb, hml, hown, hts⟩ (k_X5_isWithin l D ct x 0 (v.1 0 0 - 1)) ⟨va_cnB 3 hts gX3_find_X5_isWithin_n75 rfl rfl rfl hN.2.2.1 w_4 (by decide +kernel) ⟨Nat.le_of_ble_eq_true rfl, Nat.le_of_ble_eq_true rfl⟩, w_3, trivial⟩ ⟨roP.blind, roP.at pw_nil hK hN⟩ rfl rfl hl.1 rfl (lv_room (Nat.le_of_ble_eq_true rfl)) dX3_find_8 ⟨Nat.le_of_ble_eq_true rfl, Nat.le_of_ble_eq_true rfl⟩).run (fun r_8 h_8 => ?_)
  obtain rfl : r_8 = pIn x 0 (v.1 0 0 - 1) := h_8
  refine lv_if_eq (tgt := 23) hx hb dX3_find_11 (by decide) (fun c_11 => ?_) (fun c_11 => ?_)
  · refine lv_null hx hb dX3_find_23 ?_
    exact W.aret (v := .null) hx hb hr (Or.inl ⟨_, rfl⟩) (Or.inl rfl) (fun tt ht hW => ⟨none, rfl, rfl, ht⟩) (fun q hq => absurd hq List.not_mem_nil) dX3_find_24
  · exact absurd (pIn_1 c_11) hnd
set_option maxHeartbeats 4000000 in
set_option maxRecDepth 100000 in
theorem k_X3_slotStart (l : Launch) (D : va_G) (ct : Nat → ClassId) (a : Nat → Nat) (v : SV) (k : Nat) (hk : k ≤ 8) : Met l yX3_slotStart wsX3_slotStart ({ frames := 0, cells := 0, slots := 0, locals := 0 }) (roP D ct (stW ct a v) [.ref (a 0), .int (nI k)]) (vp_Si (fun r => r = pBeg v k)) 0 0 noA := by
  refine Met.ofW (cc := cX3_slotStart) (maxL := 4) (ret := (some .int)) (by decide) rfl ?_
  intro p e s m args below meth c s₁ B hml hv
  obtain ⟨rfl, hP, hK, hN⟩ := hv
  have hx := B.exec
  have hb := B.bytes
  have hr := B.returns
  have hts := atoms_spec (ws := wsX3_slotStart) B.pre
  have hown : s.vm.findClass RX3 = some m.cls := findClass_of_methodNamed B.named
  have hlocks := B.notSynchronized
  have w_1 := hts (.fieldLink RX3 11 "ScannedDigits$State" "digits" "[LScannedDigits$Digit;") (List.mem_of_getElem? (i := 1) rfl)
  have w_2 := hts (.fieldLink RX3 85 "ScannedDigits$Digit" "width" "I") (List.mem_of_getElem? (i := 2) rfl)
  have hiX3 : ∀ w ∈ wsX30, w ∈ wsX3_slotStart := fun w h => (goodIn_r wsX30 [3, 4, 5, 6, 7, 8, 9, 10, 11, 12, 13, 14, 15] (by decide +kernel) (by decide +kernel) w h).1
  have hiX0 : ∀ w ∈ wsX00, w ∈ wsX3_slotStart := fun w h => (goodIn_r wsX00 [16, 17, 18, 19, 20, 21, 22, 23, 24] (by decide +kernel) (by decide +kernel) w h).1
  have hl := lv_entry ([.ref (a 0), .int (nI k)]) (n := 4) (Nat.le_of_ble_eq_true rfl)
  rw [lg_entry_eq]
  generalize (lg_sl ([.ref (a 0), .int (nI k)]) ++ List.replicate (4 - (lg_sl ([.ref (a 0), .int (nI k)])).length) Slot.unset).toArray = ls at hl ⊢
  have hl : lv_has ls 4 [(0, .ref (a 0)), (1, .int (nI k))] := hl
  refine lv_iconst (v := 0) hx hb dX3_slotStart_0 (by decide) ?_
  refine lv_istore_n (lv' := [(2, .int 0), (0, .ref (a 0)), (1, .int (nI k))]) hx hb dX3_slotStart_1 rfl hl (by decide) rfl (fun ls hl => ?_)
  refine lv_iconst (v := 0) hx hb dX3_slotStart_2 (by decide) ?_
  refine lv_istore_n (lv' := [(3, .int 0), (2, .int 0), (0, .ref (a 0)), (1, .int (nI k))]) hx hb dX3_slotStart_3 rfl hl (by decide) rfl (fun ls hl => ?_)
  have loop_4 : ∀ (n_4 : Nat) (i : Nat) (x : Int32), (i ≤ k) → (k + 1 ≤ i + n_4) → (x = pBeg v i) → ∀ (ls : Array Slot), lv_has ls 4 [(2, .int x), (3, .int (nI i)), (0, .ref (a 0)), (1, .int (nI k))] → W p l e (headSpec wsX3_slotStart ({ frames := 0, cells := 0, slots := 0, locals := 0 })).room s m #[.ref (a 0), .int (nI k)] below meth c s.heap [] 0 0 (MQ below (vp_Si (fun r => r = pBeg v k)) #[.ref (a 0), .int (nI k)] s 0 0 (noA)) (F0 m 4 ls []) := by
    intro n_4
    induction n_4 with
    | zero =>
      intro i x hi hn hx2
      exact absurd hn (by omega)
    | succ n_4 ih_4 =>
      intro i x hi hn hx2 ls hl
      refine lv_iload_n hx hb dX3_slotStart_4 rfl (lv_at hl 1 rfl) ?_
      refine lv_iload_n hx hb dX3_slotStart_5 rfl (lv_at hl 3 rfl) ?_
      refine lv_icmp_ge (tgt := 27) hx hb dX3_slotStart_6 (by decide) (fun c_6 => ?_) (fun c_6 => ?_)
      · have hge : k ≤ i := nI_le' (by omega) (by omega) c_6
        refine lv_iload_n hx hb dX3_slotStart_27 rfl (lv_at hl 0 rfl) ?_
        exact W.iret (v := x) hx hb hr (fun tt ht hW => ⟨x, rfl, by rw [hx2, show i = k by omega], ht⟩) (fun q hq => absurd hq List.not_mem_nil) dX3_slotStart_28
      · have hlt : i < k := nI_nle' (by omega) (by omega) c_6
        refine lv_iload_n hx hb dX3_slotStart_9 rfl (lv_at hl 0 rfl) ?_
        refine lv_aload_n hx hb dX3_slotStart_10 rfl (lv_at hl 2 rfl) ?_
        refine va_get (D := D) (ci := 3) (v := .ref (a 1)) (C := RX3) (T := TX3) (N := 13) hx hb hts hiX3 hown hK hP 0 st_c0 rfl 0 (by decide) w_1 (fun _ h9 => h9) rfl dX3_slotStart_11 ?_
        refine lv_iload_n hx hb dX3_slotStart_14 rfl (lv_at hl 1 rfl) ?_
        refine r_aldq (v := a (3 * i + 5)) hx hb hK hP 1 4 st_c1 rfl (k := i) (rfl) (by omega) (by decide) (rfl) dX3_slotStart_15 ?_
        have hPd_15 : va_P D vwCl (dgA ct a v i) _ := st_dgP (by omega) hP
        refine va_get (D := D) (ci := 0) (v := .int (v.1 (4 + i) 1)) (C := RX0) (T := TX0) (N := 9) hx hb hts hiX0 hown hK hPd_15 0 rfl rfl 0 (by decide) w_2 (fun _ h9 => h9) rfl dX3_slotStart_16 ?_
        refine lv_iadd hx hb dX3_slotStart_19 ?_
        refine lv_istore_n (lv' := [(2, .int (x + (v.1 (4 + i) 1))), (3, .int (nI i)), (0, .ref (a 0)), (1, .int (nI k))]) hx hb dX3_slotStart_20 rfl hl (by decide) rfl (fun ls hl => ?_)
        refine lv_iinc (v := nI (i + 1)) (lv' := [(3, .int (nI (i + 1))), (2, .int (x + (v.1 (4 + i) 1))), (0, .ref (a 0)), (1, .int (nI k))]) hx hb dX3_slotStart_21 hl (k := 1) rfl ((nI_succ i).symm) (by decide) rfl (fun ls hl => ?_)
        refine lv_goto (tgt := 4) hx hb dX3_slotStart_24 (by decide) ?_
        exact ih_4 (i + 1) _ (by omega) (by omega) (by rw [hx2]; rfl) ls (lv_sub hl [1, 0, 2, 3] rfl)
  exact loop_4 (k + 1) 0 0 (Nat.zero_le _) (by omega) rfl ls (lv_sub hl [1, 0, 2, 3] rfl)
set_option maxHeartbeats 4000000 in
set_option maxRecDepth 100000 in
theorem k_X3_frameLength (l : Launch) (D : va_G) (ct : Nat → ClassId) (a : Nat → Nat) (v : SV) (hn8 : nOf v ≤ 8) (hnI : v.1 0 0 = nI (nOf v)) : Met l yX3_frameLength wsX3_frameLength ({ frames := 1, cells := 0, slots := 0, locals := 23 }) (roP D ct (stW ct a v) [.ref (a 0)]) (vp_Si (fun r => r = pLen v)) 0 0 noA := by
  refine Met.ofW (cc := cX3_frameLength) (maxL := 1) (ret := (some .int)) (by decide) rfl ?_
  intro p e s m args below meth c s₁ B hml hv
  obtain ⟨rfl, hP, hK, hN⟩ := hv
  have hx := B.exec
  have hb := B.bytes
  have hr := B.returns
  have hts := atoms_spec (ws := wsX3_frameLength) B.pre
  have hown : s.vm.findClass RX3 = some m.cls := findClass_of_methodNamed B.named
  have hlocks := B.notSynchronized
  have w_1 := hts (.fieldLink RX3 17 "ScannedDigits$State" "digitCount" "I") (List.mem_of_getElem? (i := 1) rfl)
  have hiX3 : ∀ w ∈ wsX30, w ∈ wsX3_frameLength := fun w h => (goodIn_r wsX30 [9, 10, 11, 12, 13, 14, 15, 16, 17, 18, 19, 20, 21] (by decide +kernel) (by decide +kernel) w h).1
  have hl := lv_entry ([.ref (a 0)]) (n := 1) (Nat.le_of_ble_eq_true rfl)
  rw [lg_entry_eq]
  generalize (lg_sl ([.ref (a 0)]) ++ List.replicate (1 - (lg_sl ([.ref (a 0)])).length) Slot.unset).toArray = ls at hl ⊢
  have hl : lv_has ls 1 [(0, .ref (a 0))] := hl
  refine lv_aload_n hx hb dX3_frameLength_0 rfl (lv_at hl 0 rfl) ?_
  refine lv_aload_n hx hb dX3_frameLength_1 rfl (lv_at hl 0 rfl) ?_
  refine va_get (D := D) (ci := 3) (v := .int (v.1 0 0)) (C := RX3) (T := TX3) (N := 13) hx hb hts hiX3 hown hK hP 0 st_c0 rfl 1 (by decide) w_1 (fun _ h9 => h9) rfl dX3_frameLength_2 ?_
  refine lv_as (y := nI (nOf v)) hnI ?_
  refine vp_callSi (va_runV (As := [.int (nI (nOf v))]) (rest := []) ⟨hx, hb, hml, hown, hts⟩ (k_X3_slotStart l D ct a v (nOf v) hn8) (cwV 1 hts gX3_frameLength_X3_slotStart rfl rfl rfl (by decide +kernel) ⟨Nat.le_of_ble_eq_true rfl, Nat.le_of_ble_eq_true rfl⟩) ⟨roP.blind, va_recv hK hP (ci := 3) (q0 := 0) rfl rfl, roP.at hP hK hN⟩ rfl rfl hl.1 rfl (lv_room (Nat.le_of_ble_eq_true rfl)) dX3_frameLength_5 ⟨Nat.le_of_ble_eq_true rfl, Nat.le_of_ble_eq_true rfl⟩).run (fun r_5 h_5 => ?_)
  obtain rfl : r_5 = pBeg v (nOf v) := h_5
  exact W.iret (v := (pBeg v (nOf v))) hx hb hr (fun tt ht hW => ⟨(pBeg v (nOf v)), rfl, rfl, ht⟩) (fun q hq => absurd hq List.not_mem_nil) dX3_frameLength_8
set_option maxHeartbeats 4000000 in
set_option maxRecDepth 100000 in
theorem k_X3_slotNow (l : Launch) (D : va_G) (ct : Nat → ClassId) (a : Nat → Nat) (v : SV) (ok : Inv v) : Met l yX3_slotNow wsX3_slotNow ({ frames := 0, cells := 0, slots := 0, locals := 0 }) (roP D ct (stW ct a v) [.ref (a 0)]) (vp_Si (fun r => r = nI (pSlot v))) 0 0 noA := by
  refine Met.ofW (cc := cX3_slotNow) (maxL := 3) (ret := (some .int)) (by decide) rfl ?_
  intro p e s m args below meth c s₁ B hml hv
  obtain ⟨rfl, hP, hK, hN⟩ := hv
  have hx := B.exec
  have hb := B.bytes
  have hr := B.returns
  have hts := atoms_spec (ws := wsX3_slotNow) B.pre
  have hown : s.vm.findClass RX3 = some m.cls := findClass_of_methodNamed B.named
  have hlocks := B.notSynchronized
  have w_1 := hts (.fieldLink RX3 11 "ScannedDigits$State" "digits" "[LScannedDigits$Digit;") (List.mem_of_getElem? (i := 1) rfl)
  have w_2 := hts (.fieldLink RX3 85 "ScannedDigits$Digit" "width" "I") (List.mem_of_getElem? (i := 2) rfl)
  have w_3 := hts (.fieldLink RX3 17 "ScannedDigits$State" "digitCount" "I") (List.mem_of_getElem? (i := 3) rfl)
  have w_4 := hts (.fieldLink RX3 56 "ScannedDigits$State" "frameTicks" "I") (List.mem_of_getElem? (i := 4) rfl)
  have hiX3 : ∀ w ∈ wsX30, w ∈ wsX3_slotNow := fun w h => (goodIn_r wsX30 [5, 6, 7, 8, 9, 10, 11, 12, 13, 14, 15, 16, 17] (by decide +kernel) (by decide +kernel) w h).1
  have hiX0 : ∀ w ∈ wsX00, w ∈ wsX3_slotNow := fun w h => (goodIn_r wsX00 [18, 19, 20, 21, 22, 23, 24, 25, 26] (by decide +kernel) (by decide +kernel) w h).1
  have hl := lv_entry ([.ref (a 0)]) (n := 3) (Nat.le_of_ble_eq_true rfl)
  rw [lg_entry_eq]
  generalize (lg_sl ([.ref (a 0)]) ++ List.replicate (3 - (lg_sl ([.ref (a 0)])).length) Slot.unset).toArray = ls at hl ⊢
  have hl : lv_has ls 3 [(0, .ref (a 0))] := hl
  have n8 := ok.n8
  have n1 := ok.n1
  have htk := ok.tick
  have hn1 : v.1 0 0 - 1 = nI (nOf v - 1) := by
    rw [ok.cnt]
    obtain ⟨q, hq⟩ : ∃ q, nOf v = q + 1 := ⟨nOf v - 1, by omega⟩
    rw [hq, nI_pred]; rfl
  refine lv_iconst (v := 0) hx hb dX3_slotNow_0 (by decide) ?_
  refine lv_istore_n (lv' := [(1, .int 0), (0, .ref (a 0))]) hx hb dX3_slotNow_1 rfl hl (by decide) rfl (fun ls hl => ?_)
  refine lv_aload_n hx hb dX3_slotNow_2 rfl (lv_at hl 1 rfl) ?_
  refine va_get (D := D) (ci := 3) (v := .ref (a 1)) (C := RX3) (T := TX3) (N := 13) hx hb hts hiX3 hown hK hP 0 st_c0 rfl 0 (by decide) w_1 (fun _ h9 => h9) rfl dX3_slotNow_3 ?_
  refine lv_iconst (v := 0) hx hb dX3_slotNow_6 (by decide) ?_
  refine r_aldq (v := a (3 * 0 + 5)) hx hb hK hP 1 4 st_c1 rfl (k := 0) (rfl) (by decide) (by decide) (rfl) dX3_slotNow_7 ?_
  have hPd_7 : va_P D vwCl (dgA ct a v 0) _ := st_dgP (by decide) hP
  refine va_get (D := D) (ci := 0) (v := .int (v.1 (4 + 0) 1)) (C := RX0) (T := TX0) (N := 9) hx hb hts hiX0 hown hK hPd_7 0 rfl rfl 0 (by decide) w_2 (fun _ h9 => h9) rfl dX3_slotNow_8 ?_
  refine lv_istore_n (lv' := [(2, .int (v.1 (4 + 0) 1)), (1, .int 0), (0, .ref (a 0))]) hx hb dX3_slotNow_11 rfl hl (by decide) rfl (fun ls hl => ?_)
  have loop_12 : ∀ (n_12 : Nat) (i : Nat) (x : Int32), (i < nOf v) → (nOf v ≤ i + n_12) → (x = pBeg v (i + 1)) → (pSlotF v (8 - i) i = pSlot v) → ∀ (ls : Array Slot), lv_has ls 3 [(1, .int (nI i)), (2, .int x), (0, .ref (a 0))] → W p l e (headSpec wsX3_slotNow ({ frames := 0, cells := 0, slots := 0, locals := 0 })).room s m #[.ref (a 0)] below meth c s.heap [] 0 0 (MQ below (vp_Si (fun r => r = nI (pSlot v))) #[.ref (a 0)] s 0 0 (noA)) (F0 m 12 ls []) := by
    intro n_12
    induction n_12 with
    | zero =>
      intro i x hi hn hx2 hq
      exact absurd hn (by omega)
    | succ n_12 ih_12 =>
      intro i x hi hn hx2 hq ls hl
      refine lv_iload_n hx hb dX3_slotNow_12 rfl (lv_at hl 0 rfl) ?_
      refine lv_aload_n hx hb dX3_slotNow_13 rfl (lv_at hl 2 rfl) ?_
      refine va_get (D := D) (ci := 3) (v := .int (v.1 0 0)) (C := RX3) (T := TX3) (N := 13) hx hb hts hiX3 hown hK hP 0 st_c0 rfl 1 (by decide) w_3 (fun _ h9 => h9) rfl dX3_slotNow_14 ?_
      refine lv_iconst (v := 1) hx hb dX3_slotNow_17 (by decide) ?_
      refine lv_isub hx hb dX3_slotNow_18 ?_
      refine lv_as (y := nI (nOf v - 1)) (hn1) ?_
      refine lv_icmp_ge (tgt := 48) hx hb dX3_slotNow_19 (by decide) (fun c_19 => ?_) (fun c_19 => ?_)
      · have hge : nOf v - 1 ≤ i := nI_le' (by omega) (by omega) c_19
        refine lv_iload_n hx hb dX3_slotNow_48 rfl (lv_at hl 0 rfl) ?_
        exact W.iret (v := (nI i)) hx hb hr (fun tt ht hW => ⟨(nI i), rfl, by rw [← hq, pSlot_exit (by omega) (by rw [show i + 1 = nOf v by omega]; exact htk)], ht⟩) (fun q hq => absurd hq List.not_mem_nil) dX3_slotNow_49
      · have hlt : i < nOf v - 1 := nI_nle' (by omega) (by omega) c_19
        refine lv_aload_n hx hb dX3_slotNow_22 rfl (lv_at hl 2 rfl) ?_
        refine va_get (D := D) (ci := 3) (v := .int (v.1 0 3)) (C := RX3) (T := TX3) (N := 13) hx hb hts hiX3 hown hK hP 0 st_c0 rfl 7 (by decide) w_4 (fun _ h9 => h9) rfl dX3_slotNow_23 ?_
        refine lv_iload_n hx hb dX3_slotNow_26 rfl (lv_at hl 1 rfl) ?_
        refine lv_icmp_lt (tgt := 48) hx hb dX3_slotNow_27 (by decide) (fun c_27 => ?_) (fun c_27 => ?_)
        · refine lv_iload_n hx hb dX3_slotNow_48 rfl (lv_at hl 0 rfl) ?_
          exact W.iret (v := (nI i)) hx hb hr (fun tt ht hW => ⟨(nI i), rfl, by rw [← hq, pSlot_exit (by omega) (hx2 ▸ c_27)], ht⟩) (fun q hq => absurd hq List.not_mem_nil) dX3_slotNow_49
        · refine lv_iinc (v := nI (i + 1)) (lv' := [(1, .int (nI (i + 1))), (2, .int x), (0, .ref (a 0))]) hx hb dX3_slotNow_30 hl (k := 0) rfl ((nI_succ i).symm) (by decide) rfl (fun ls hl => ?_)
          refine lv_iload_n hx hb dX3_slotNow_33 rfl (lv_at hl 1 rfl) ?_
          refine lv_aload_n hx hb dX3_slotNow_34 rfl (lv_at hl 2 rfl) ?_
          refine va_get (D := D) (ci := 3) (v := .ref (a 1)) (C := RX3) (T := TX3) (N := 13) hx hb hts hiX3 hown hK hP 0 st_c0 rfl 0 (by decide) w_1 (fun _ h9 => h9) rfl dX3_slotNow_35 ?_
          refine lv_iload_n hx hb dX3_slotNow_38 rfl (lv_at hl 0 rfl) ?_
          refine r_aldq (v := a (3 * (i + 1) + 5)) hx hb hK hP 1 4 st_c1 rfl (k := (i + 1)) (rfl) (by omega) (by decide) (rfl) dX3_slotNow_39 ?_
          have hPd_39 : va_P D vwCl (dgA ct a v (i + 1)) _ := st_dgP (by omega) hP
          refine va_get (D := D) (ci := 0) (v := .int (v.1 (4 + (i + 1)) 1)) (C := RX0) (T := TX0) (N := 9) hx hb hts hiX0 hown hK hPd_39 0 rfl rfl 0 (by decide) w_2 (fun _ h9 => h9) rfl dX3_slotNow_40 ?_
          refine lv_iadd hx hb dX3_slotNow_43 ?_
          refine lv_istore_n (lv' := [(2, .int (x + (v.1 (4 + (i + 1)) 1))), (1, .int (nI (i + 1))), (0, .ref (a 0))]) hx hb dX3_slotNow_44 rfl hl (by decide) rfl (fun ls hl => ?_)
          refine lv_goto (tgt := 12) hx hb dX3_slotNow_45 (by decide) ?_
          exact ih_12 (i + 1) _ (by omega) (by omega) (by rw [hx2]; rfl) ((pSlot_next (by omega) (hx2 ▸ c_27)).symm.trans hq) ls (lv_sub hl [1, 0, 2] rfl)
  exact loop_12 (nOf v) 0 _ (by omega) (by omega) (Int32.zero_add _).symm rfl ls (lv_sub hl [1, 0, 2] rfl)
set_option maxHeartbeats 4000000 in
set_option maxRecDepth 100000 in
theorem k_X3_isGroupOn (l : Launch) (D : va_G) (ct : Nat → ClassId) (a : Nat → Nat) (v : SV) (g : Nat) (hg : g < 4) (ok : Inv v) : Met l yX3_isGroupOn wsX3_isGroupOn ({ frames := 0, cells := 0, slots := 0, locals := 0 }) (roP D ct (stW ct a v) [.ref (a 0), .int (nI g)]) (vp_Si (fun r => r = if pOn v g then 1 else 0)) 0 0 noA := by
  refine Met.ofW (cc := cX3_isGroupOn) (maxL := 3) (ret := (some .boolean)) (by decide) rfl ?_
  intro p e s m args below meth c s₁ B hml hv
  obtain ⟨rfl, hP, hK, hN⟩ := hv
  have hx := B.exec
  have hb := B.bytes
  have hr := B.returns
  have hts := atoms_spec (ws := wsX3_isGroupOn) B.pre
  have hown : s.vm.findClass RX3 = some m.cls := findClass_of_methodNamed B.named
  have hlocks := B.notSynchronized
  have w_1 := hts (.fieldLink RX3 21 "ScannedDigits$State" "on" "[I") (List.mem_of_getElem? (i := 1) rfl)
  have w_2 := hts (.fieldLink RX3 25 "ScannedDigits$State" "off" "[I") (List.mem_of_getElem? (i := 2) rfl)
  have w_3 := hts (.fieldLink RX3 53 "ScannedDigits$State" "frame" "I") (List.mem_of_getElem? (i := 3) rfl)
  have hiX3 : ∀ w ∈ wsX30, w ∈ wsX3_isGroupOn := fun w h => (goodIn_r wsX30 [4, 5, 6, 7, 8, 9, 10, 11, 12, 13, 14, 15, 16] (by decide +kernel) (by decide +kernel) w h).1
  have hl := lv_entry ([.ref (a 0), .int (nI g)]) (n := 3) (Nat.le_of_ble_eq_true rfl)
  rw [lg_entry_eq]
  generalize (lg_sl ([.ref (a 0), .int (nI g)]) ++ List.replicate (3 - (lg_sl ([.ref (a 0), .int (nI g)])).length) Slot.unset).toArray = ls at hl ⊢
  have hl : lv_has ls 3 [(0, .ref (a 0)), (1, .int (nI g))] := hl
  refine lv_aload_n hx hb dX3_isGroupOn_0 rfl (lv_at hl 0 rfl) ?_
  refine va_get (D := D) (ci := 3) (v := .ref (a 2)) (C := RX3) (T := TX3) (N := 13) hx hb hts hiX3 hown hK hP 0 st_c0 rfl 2 (by decide) w_1 (fun _ h9 => h9) rfl dX3_isGroupOn_1 ?_
  refine lv_iload_n hx hb dX3_isGroupOn_4 rfl (lv_at hl 1 rfl) ?_
  refine r_iald hx hb hK hP 2 0 st_c2 rfl (k := g) (rfl) (by omega) (by decide) dX3_isGroupOn_5 ?_
  refine lv_aload_n hx hb dX3_isGroupOn_6 rfl (lv_at hl 0 rfl) ?_
  refine va_get (D := D) (ci := 3) (v := .ref (a 3)) (C := RX3) (T := TX3) (N := 13) hx hb hts hiX3 hown hK hP 0 st_c0 rfl 3 (by decide) w_2 (fun _ h9 => h9) rfl dX3_isGroupOn_7 ?_
  refine lv_iload_n hx hb dX3_isGroupOn_10 rfl (lv_at hl 1 rfl) ?_
  refine r_iald hx hb hK hP 3 0 st_c3 rfl (k := g) (rfl) (by omega) (by decide) dX3_isGroupOn_11 ?_
  refine lv_iadd hx hb dX3_isGroupOn_12 ?_
  refine lv_istore_n (lv' := [(2, .int (((v.1 1) g) + ((v.1 2) g))), (0, .ref (a 0)), (1, .int (nI g))]) hx hb dX3_isGroupOn_13 rfl hl (by decide) rfl (fun ls hl => ?_)
  refine lv_iload_n hx hb dX3_isGroupOn_14 rfl (lv_at hl 0 rfl) ?_
  refine lv_if_le (tgt := 33) hx hb dX3_isGroupOn_15 (by decide) (fun c_15 => ?_) (fun c_15 => ?_)
  · have h0 : g = 0 := Nat.eq_zero_of_not_pos (fun z => Int32.not_le.mpr (ok.perp z hg) c_15)
    refine lv_iconst (v := 1) hx hb dX3_isGroupOn_33 (by decide) ?_
    refine lv_goto (tgt := 38) hx hb dX3_isGroupOn_34 (by decide) ?_
    exact W.zret (v := 1) hx hb hr (by decide) (fun tt ht hW => ⟨1, rfl, (if_pos (Or.inl h0)).symm, ht⟩) (fun q hq => absurd hq List.not_mem_nil) dX3_isGroupOn_38
  · have h0 : 0 < g := Nat.pos_of_ne_zero (fun z => c_15 (by rw [z, ok.2.2.2.1.1, ok.2.2.2.1.2]; decide))
    refine lv_aload_n hx hb dX3_isGroupOn_18 rfl (lv_at hl 1 rfl) ?_
    refine va_get (D := D) (ci := 3) (v := .int (v.1 0 2)) (C := RX3) (T := TX3) (N := 13) hx hb hts hiX3 hown hK hP 0 st_c0 rfl 6 (by decide) w_3 (fun _ h9 => h9) rfl dX3_isGroupOn_19 ?_
    refine lv_iload_n hx hb dX3_isGroupOn_22 rfl (lv_at hl 0 rfl) ?_
    refine lv_irem hx hb dX3_isGroupOn_23 (ok.per h0 hg) ?_
    refine lv_aload_n hx hb dX3_isGroupOn_24 rfl (lv_at hl 1 rfl) ?_
    refine va_get (D := D) (ci := 3) (v := .ref (a 2)) (C := RX3) (T := TX3) (N := 13) hx hb hts hiX3 hown hK hP 0 st_c0 rfl 2 (by decide) w_1 (fun _ h9 => h9) rfl dX3_isGroupOn_25 ?_
    refine lv_iload_n hx hb dX3_isGroupOn_28 rfl (lv_at hl 2 rfl) ?_
    refine r_iald hx hb hK hP 2 0 st_c2 rfl (k := g) (rfl) (by omega) (by decide) dX3_isGroupOn_29 ?_
    refine lv_icmp_ge (tgt := 37) hx hb dX3_isGroupOn_30 (by decide) (fun c_30 => ?_) (fun c_30 => ?_)
    · refine lv_iconst (v := 0) hx hb dX3_isGroupOn_37 (by decide) ?_
      exact W.zret (v := 0) hx hb hr (by decide) (fun tt ht hW => ⟨0, rfl, (if_neg (fun z => z.elim (fun q => by omega) (fun q => Int32.not_lt.mpr c_30 q))).symm, ht⟩) (fun q hq => absurd hq List.not_mem_nil) dX3_isGroupOn_38
    · refine lv_iconst (v := 1) hx hb dX3_isGroupOn_33 (by decide) ?_
      refine lv_goto (tgt := 38) hx hb dX3_isGroupOn_34 (by decide) ?_
      exact W.zret (v := 1) hx hb hr (by decide) (fun tt ht hW => ⟨1, rfl, (if_pos (Or.inr (i_not_le c_30))).symm, ht⟩) (fun q hq => absurd hq List.not_mem_nil) dX3_isGroupOn_38
set_option maxHeartbeats 4000000 in
set_option maxRecDepth 100000 in
theorem k_X3_digitsInGroup (l : Launch) (D : va_G) (ct : Nat → ClassId) (a : Nat → Nat) (v : SV) (g : Int32) (n8 : nOf v ≤ 8) (hcn : v.1 0 0 = nI (nOf v)) : Met l yX3_digitsInGroup wsX3_digitsInGroup ({ frames := 0, cells := 0, slots := 0, locals := 0 }) (roP D ct (stW ct a v) [.ref (a 0), .int g]) (vp_Si (fun r => r = pDin v g (nOf v))) 0 0 noA := by
  refine Met.ofW (cc := cX3_digitsInGroup) (maxL := 4) (ret := (some .int)) (by decide) rfl ?_
  intro p e s m args below meth c s₁ B hml hv
  obtain ⟨rfl, hP, hK, hN⟩ := hv
  have hx := B.exec
  have hb := B.bytes
  have hr := B.returns
  have hts := atoms_spec (ws := wsX3_digitsInGroup) B.pre
  have hown : s.vm.findClass RX3 = some m.cls := findClass_of_methodNamed B.named
  have hlocks := B.notSynchronized
  have w_1 := hts (.fieldLink RX3 17 "ScannedDigits$State" "digitCount" "I") (List.mem_of_getElem? (i := 1) rfl)
  have w_2 := hts (.fieldLink RX3 11 "ScannedDigits$State" "digits" "[LScannedDigits$Digit;") (List.mem_of_getElem? (i := 2) rfl)
  have w_3 := hts (.fieldLink RX3 95 "ScannedDigits$Digit" "group" "I") (List.mem_of_getElem? (i := 3) rfl)
  have hiX3 : ∀ w ∈ wsX30, w ∈ wsX3_digitsInGroup := fun w h => (goodIn_r wsX30 [4, 5, 6, 7, 8, 9, 10, 11, 12, 13, 14, 15, 16] (by decide +kernel) (by decide +kernel) w h).1
  have hiX0 : ∀ w ∈ wsX00, w ∈ wsX3_digitsInGroup := fun w h => (goodIn_r wsX00 [17, 18, 19, 20, 21, 22, 23, 24, 25] (by decide +kernel) (by decide +kernel) w h).1
  have hl := lv_entry ([.ref (a 0), .int g]) (n := 4) (Nat.le_of_ble_eq_true rfl)
  rw [lg_entry_eq]
  generalize (lg_sl ([.ref (a 0), .int g]) ++ List.replicate (4 - (lg_sl ([.ref (a 0), .int g])).length) Slot.unset).toArray = ls at hl ⊢
  have hl : lv_has ls 4 [(0, .ref (a 0)), (1, .int g)] := hl
  refine lv_iconst (v := 0) hx hb dX3_digitsInGroup_0 (by decide) ?_
  refine lv_istore_n (lv' := [(2, .int 0), (0, .ref (a 0)), (1, .int g)]) hx hb dX3_digitsInGroup_1 rfl hl (by decide) rfl (fun ls hl => ?_)
  refine lv_iconst (v := 0) hx hb dX3_digitsInGroup_2 (by decide) ?_
  refine lv_istore_n (lv' := [(3, .int 0), (2, .int 0), (0, .ref (a 0)), (1, .int g)]) hx hb dX3_digitsInGroup_3 rfl hl (by decide) rfl (fun ls hl => ?_)
  have loop_4 : ∀ (n_4 : Nat) (i : Nat) (x : Int32), (i ≤ nOf v) → (nOf v + 1 ≤ i + n_4) → (x = pDin v g i) → ∀ (ls : Array Slot), lv_has ls 4 [(2, .int x), (3, .int (nI i)), (0, .ref (a 0)), (1, .int g)] → W p l e (headSpec wsX3_digitsInGroup ({ frames := 0, cells := 0, slots := 0, locals := 0 })).room s m #[.ref (a 0), .int g] below meth c s.heap [] 0 0 (MQ below (vp_Si (fun r => r = pDin v g (nOf v))) #[.ref (a 0), .int g] s 0 0 (noA)) (F0 m 4 ls []) := by
    intro n_4
    induction n_4 with
    | zero =>
      intro i x hi hn hx2
      exact absurd hn (by omega)
    | succ n_4 ih_4 =>
      intro i x hi hn hx2 ls hl
      refine lv_iload_n hx hb dX3_digitsInGroup_4 rfl (lv_at hl 1 rfl) ?_
      refine lv_aload_n hx hb dX3_digitsInGroup_5 rfl (lv_at hl 2 rfl) ?_
      refine va_get (D := D) (ci := 3) (v := .int (v.1 0 0)) (C := RX3) (T := TX3) (N := 13) hx hb hts hiX3 hown hK hP 0 st_c0 rfl 1 (by decide) w_1 (fun _ h9 => h9) rfl dX3_digitsInGroup_6 ?_
      refine lv_as (y := nI (nOf v)) hcn ?_
      refine lv_icmp_ge (tgt := 34) hx hb dX3_digitsInGroup_9 (by decide) (fun c_9 => ?_) (fun c_9 => ?_)
      · have hge : nOf v ≤ i := nI_le' (by omega) (by omega) c_9
        refine lv_iload_n hx hb dX3_digitsInGroup_34 rfl (lv_at hl 0 rfl) ?_
        exact W.iret (v := x) hx hb hr (fun tt ht hW => ⟨x, rfl, by rw [hx2, show i = nOf v by omega], ht⟩) (fun q hq => absurd hq List.not_mem_nil) dX3_digitsInGroup_35
      · have hlt : i < nOf v := nI_nle' (by omega) (by omega) c_9
        refine lv_aload_n hx hb dX3_digitsInGroup_12 rfl (lv_at hl 2 rfl) ?_
        refine va_get (D := D) (ci := 3) (v := .ref (a 1)) (C := RX3) (T := TX3) (N := 13) hx hb hts hiX3 hown hK hP 0 st_c0 rfl 0 (by decide) w_2 (fun _ h9 => h9) rfl dX3_digitsInGroup_13 ?_
        refine lv_iload_n hx hb dX3_digitsInGroup_16 rfl (lv_at hl 1 rfl) ?_
        refine r_aldq (v := a (3 * i + 5)) hx hb hK hP 1 4 st_c1 rfl (k := i) (rfl) (by omega) (by decide) (rfl) dX3_digitsInGroup_17 ?_
        have hPd_17 : va_P D vwCl (dgA ct a v i) _ := st_dgP (by omega) hP
        refine va_get (D := D) (ci := 0) (v := .int (v.1 (4 + i) 4)) (C := RX0) (T := TX0) (N := 9) hx hb hts hiX0 hown hK hPd_17 0 rfl rfl 4 (by decide) w_3 (fun _ h9 => h9) rfl dX3_digitsInGroup_18 ?_
        refine lv_iload_n hx hb dX3_digitsInGroup_21 rfl (lv_at hl 3 rfl) ?_
        refine lv_icmp_ne (tgt := 28) hx hb dX3_digitsInGroup_22 (by decide) (fun c_22 => ?_) (fun c_22 => ?_)
        · refine lv_iinc (v := nI (i + 1)) (lv' := [(3, .int (nI (i + 1))), (2, .int x), (0, .ref (a 0)), (1, .int g)]) hx hb dX3_digitsInGroup_28 hl (k := 1) rfl ((nI_succ i).symm) (by decide) rfl (fun ls hl => ?_)
          refine lv_goto (tgt := 4) hx hb dX3_digitsInGroup_31 (by decide) ?_
          exact ih_4 (i + 1) _ (by omega) (by omega) (by rw [hx2]; show _ = _ + (if _ then _ else _); rw [if_neg c_22, Int32.add_zero]) ls (lv_sub hl [1, 0, 2, 3] rfl)
        · refine lv_iinc (v := x + 1) (lv' := [(2, .int (x + 1)), (3, .int (nI i)), (0, .ref (a 0)), (1, .int g)]) hx hb dX3_digitsInGroup_25 hl (k := 0) rfl (rfl) (by decide) rfl (fun ls hl => ?_)
          refine lv_iinc (v := nI (i + 1)) (lv' := [(3, .int (nI (i + 1))), (2, .int (x + 1)), (0, .ref (a 0)), (1, .int g)]) hx hb dX3_digitsInGroup_28 hl (k := 1) rfl ((nI_succ i).symm) (by decide) rfl (fun ls hl => ?_)
          refine lv_goto (tgt := 4) hx hb dX3_digitsInGroup_31 (by decide) ?_
          exact ih_4 (i + 1) _ (by omega) (by omega) (by rw [hx2]; show _ = _ + (if _ then _ else _); rw [if_pos c_22]) ls (lv_sub hl [1, 0, 2, 3] rfl)
  exact loop_4 (nOf v + 1) 0 0 (Nat.zero_le _) (by omega) rfl ls (lv_sub hl [1, 0, 2, 3] rfl)
set_option maxHeartbeats 4000000 in
set_option maxRecDepth 100000 in
theorem k_X3_brokenSegments (l : Launch) (D : va_G) (ct : Nat → ClassId) (a : Nat → Nat) (v : SV) (ok : Inv v) : Met l yX3_brokenSegments wsX3_brokenSegments ({ frames := 1, cells := 0, slots := 0, locals := 20 }) (roP D ct (stW ct a v) [.ref (a 0)]) (vp_Si (fun r => r = pBroS v (nOf v))) 0 0 noA := by
  refine Met.ofW (cc := cX3_brokenSegments) (maxL := 3) (ret := (some .int)) (by decide) rfl ?_
  intro p e s m args below meth c s₁ B hml hv
  obtain ⟨rfl, hP, hK, hN⟩ := hv
  have hx := B.exec
  have hb := B.bytes
  have hr := B.returns
  have hts := atoms_spec (ws := wsX3_brokenSegments) B.pre
  have hown : s.vm.findClass RX3 = some m.cls := findClass_of_methodNamed B.named
  have hlocks := B.notSynchronized
  have w_1 := hts (.fieldLink RX3 17 "ScannedDigits$State" "digitCount" "I") (List.mem_of_getElem? (i := 1) rfl)
  have w_2 := hts (.fieldLink RX3 11 "ScannedDigits$State" "digits" "[LScannedDigits$Digit;") (List.mem_of_getElem? (i := 2) rfl)
  have w_3 := hts (.fieldLink RX3 98 "ScannedDigits$Digit" "broken" "I") (List.mem_of_getElem? (i := 3) rfl)
  have hiX3 : ∀ w ∈ wsX30, w ∈ wsX3_brokenSegments := fun w h => (goodIn_r wsX30 [11, 12, 13, 14, 15, 16, 17, 18, 19, 20, 21, 22, 23] (by decide +kernel) (by decide +kernel) w h).1
  have hiX0 : ∀ w ∈ wsX00, w ∈ wsX3_brokenSegments := fun w h => (goodIn_r wsX00 [24, 25, 26, 27, 28, 29, 30, 31, 32] (by decide +kernel) (by decide +kernel) w h).1
  have hl := lv_entry ([.ref (a 0)]) (n := 3) (Nat.le_of_ble_eq_true rfl)
  rw [lg_entry_eq]
  generalize (lg_sl ([.ref (a 0)]) ++ List.replicate (3 - (lg_sl ([.ref (a 0)])).length) Slot.unset).toArray = ls at hl ⊢
  have hl : lv_has ls 3 [(0, .ref (a 0))] := hl
  have n8 := ok.n8
  refine lv_iconst (v := 0) hx hb dX3_brokenSegments_0 (by decide) ?_
  refine lv_istore_n (lv' := [(1, .int 0), (0, .ref (a 0))]) hx hb dX3_brokenSegments_1 rfl hl (by decide) rfl (fun ls hl => ?_)
  refine lv_iconst (v := 0) hx hb dX3_brokenSegments_2 (by decide) ?_
  refine lv_istore_n (lv' := [(2, .int 0), (1, .int 0), (0, .ref (a 0))]) hx hb dX3_brokenSegments_3 rfl hl (by decide) rfl (fun ls hl => ?_)
  have loop_4 : ∀ (n_4 : Nat) (i : Nat) (x : Int32), (i ≤ nOf v) → (nOf v + 1 ≤ i + n_4) → (x = pBroS v i) → ∀ (ls : Array Slot), lv_has ls 3 [(1, .int x), (2, .int (nI i)), (0, .ref (a 0))] → W p l e (headSpec wsX3_brokenSegments ({ frames := 1, cells := 0, slots := 0, locals := 20 })).room s m #[.ref (a 0)] below meth c s.heap [] 0 0 (MQ below (vp_Si (fun r => r = pBroS v (nOf v))) #[.ref (a 0)] s 0 0 (noA)) (F0 m 4 ls []) := by
    intro n_4
    induction n_4 with
    | zero =>
      intro i x hi hn hx2
      exact absurd hn (by omega)
    | succ n_4 ih_4 =>
      intro i x hi hn hx2 ls hl
      refine lv_iload_n hx hb dX3_brokenSegments_4 rfl (lv_at hl 1 rfl) ?_
      refine lv_aload_n hx hb dX3_brokenSegments_5 rfl (lv_at hl 2 rfl) ?_
      refine va_get (D := D) (ci := 3) (v := .int (v.1 0 0)) (C := RX3) (T := TX3) (N := 13) hx hb hts hiX3 hown hK hP 0 st_c0 rfl 1 (by decide) w_1 (fun _ h9 => h9) rfl dX3_brokenSegments_6 ?_
      refine lv_as (y := nI (nOf v)) ok.cnt ?_
      refine lv_icmp_ge (tgt := 33) hx hb dX3_brokenSegments_9 (by decide) (fun c_9 => ?_) (fun c_9 => ?_)
      · have hge : nOf v ≤ i := nI_le' (by omega) (by omega) c_9
        refine lv_iload_n hx hb dX3_brokenSegments_33 rfl (lv_at hl 0 rfl) ?_
        exact W.iret (v := x) hx hb hr (fun tt ht hW => ⟨x, rfl, by rw [hx2, show i = nOf v by omega], ht⟩) (fun q hq => absurd hq List.not_mem_nil) dX3_brokenSegments_34
      · have hlt : i < nOf v := nI_nle' (by omega) (by omega) c_9
        refine lv_iload_n hx hb dX3_brokenSegments_12 rfl (lv_at hl 0 rfl) ?_
        refine lv_aload_n hx hb dX3_brokenSegments_13 rfl (lv_at hl 2 rfl) ?_
        refine va_get (D := D) (ci := 3) (v := .ref (a 1)) (C := RX3) (T := TX3) (N := 13) hx hb hts hiX3 hown hK hP 0 st_c0 rfl 0 (by decide) w_2 (fun _ h9 => h9) rfl dX3_brokenSegments_14 ?_
        refine lv_iload_n hx hb dX3_brokenSegments_17 rfl (lv_at hl 1 rfl) ?_
        refine r_aldq (v := a (3 * i + 5)) hx hb hK hP 1 4 st_c1 rfl (k := i) (rfl) (by omega) (by decide) (rfl) dX3_brokenSegments_18 ?_
        have hPd_18 : va_P D vwCl (dgA ct a v i) _ := st_dgP (by omega) hP
        refine va_get (D := D) (ci := 0) (v := .int (v.1 (4 + i) 6)) (C := RX0) (T := TX0) (N := 9) hx hb hts hiX0 hown hK hPd_18 0 rfl rfl 6 (by decide) w_3 (fun _ h9 => h9) rfl dX3_brokenSegments_19 ?_
        refine vp_callSi (va_runS (As := [.int (v.1 (4 + i) 6)]) (rest := [.int x]) ⟨hx, hb, hml, hown, hts⟩ (k_J6_bitCount_0f7a4 l D ct (v.1 (4 + i) 6)) (va_cwS 1 hts gX3_brokenSegments_J6_bitCount_0f7a4 rfl rfl rfl (by decide +kernel) ⟨Nat.le_of_ble_eq_true rfl, Nat.le_of_ble_eq_true rfl⟩) ⟨roP.blind, roP.at pw_nil hK hN⟩ rfl rfl hl.1 rfl (lv_room (Nat.le_of_ble_eq_true rfl)) dX3_brokenSegments_22 ⟨Nat.le_of_ble_eq_true rfl, Nat.le_of_ble_eq_true rfl⟩).run (fun r_22 h_22 => ?_)
        obtain rfl : r_22 = bcF (v.1 (4 + i) 6) := h_22
        refine lv_as (y := pBro (v.1 (4 + i) 6) 8) (bcF_of (ok.dg hlt).2.2.2.2.2) ?_
        refine lv_iadd hx hb dX3_brokenSegments_25 ?_
        refine lv_istore_n (lv' := [(1, .int (x + (pBro (v.1 (4 + i) 6) 8))), (2, .int (nI i)), (0, .ref (a 0))]) hx hb dX3_brokenSegments_26 rfl hl (by decide) rfl (fun ls hl => ?_)
        refine lv_iinc (v := nI (i + 1)) (lv' := [(2, .int (nI (i + 1))), (1, .int (x + (pBro (v.1 (4 + i) 6) 8))), (0, .ref (a 0))]) hx hb dX3_brokenSegments_27 hl (k := 1) rfl ((nI_succ i).symm) (by decide) rfl (fun ls hl => ?_)
        refine lv_goto (tgt := 4) hx hb dX3_brokenSegments_30 (by decide) ?_
        exact ih_4 (i + 1) _ (by omega) (by omega) (by rw [hx2]; rfl) ls (lv_sub hl [1, 0, 2] rfl)
  exact loop_4 (nOf v + 1) 0 0 (Nat.zero_le _) (by omega) rfl ls (lv_sub hl [1, 0, 2] rfl)
set_option maxHeartbeats 4000000 in
set_option maxRecDepth 100000 in
theorem k_X3_isDriven (l : Launch) (D : va_G) (ct : Nat → ClassId) (a : Nat → Nat) (v : SV) (d : Nat) (hd : d < nOf v) (ok : Inv v) : Met l yX3_isDriven wsX3_isDriven ({ frames := 1, cells := 0, slots := 0, locals := 23 }) (roP D ct (stW ct a v) [.ref (a 0), .int (nI d)]) (vp_Si (fun r => r = if pDrv v d then 1 else 0)) 0 0 noA := by
  refine Met.ofW (cc := cX3_isDriven) (maxL := 5) (ret := (some .boolean)) (by decide) rfl ?_
  intro p e s m args below meth c s₁ B hml hv
  obtain ⟨rfl, hP, hK, hN⟩ := hv
  have hx := B.exec
  have hb := B.bytes
  have hr := B.returns
  have hts := atoms_spec (ws := wsX3_isDriven) B.pre
  have hown : s.vm.findClass RX3 = some m.cls := findClass_of_methodNamed B.named
  have hlocks := B.notSynchronized
  have w_1 := hts (.fieldLink RX3 11 "ScannedDigits$State" "digits" "[LScannedDigits$Digit;") (List.mem_of_getElem? (i := 1) rfl)
  have w_2 := hts (.fieldLink RX3 59 "ScannedDigits$State" "testFrames" "I") (List.mem_of_getElem? (i := 2) rfl)
  have w_3 := hts (.fieldLink RX3 106 "ScannedDigits$Digit" "brightness" "I") (List.mem_of_getElem? (i := 3) rfl)
  have w_4 := hts (.fieldLink RX3 56 "ScannedDigits$State" "frameTicks" "I") (List.mem_of_getElem? (i := 4) rfl)
  have w_5 := hts (.fieldLink RX3 95 "ScannedDigits$Digit" "group" "I") (List.mem_of_getElem? (i := 5) rfl)
  have hiX3 : ∀ w ∈ wsX30, w ∈ wsX3_isDriven := fun w h => (goodIn_r wsX30 [26, 27, 28, 29, 30, 31, 32, 33, 34, 35, 36, 37, 38] (by decide +kernel) (by decide +kernel) w h).1
  have hiX0 : ∀ w ∈ wsX00, w ∈ wsX3_isDriven := fun w h => (goodIn_r wsX00 [39, 40, 41, 42, 43, 44, 45, 46, 47] (by decide +kernel) (by decide +kernel) w h).1
  have hl := lv_entry ([.ref (a 0), .int (nI d)]) (n := 5) (Nat.le_of_ble_eq_true rfl)
  rw [lg_entry_eq]
  generalize (lg_sl ([.ref (a 0), .int (nI d)]) ++ List.replicate (5 - (lg_sl ([.ref (a 0), .int (nI d)])).length) Slot.unset).toArray = ls at hl ⊢
  have hl : lv_has ls 5 [(0, .ref (a 0)), (1, .int (nI d))] := hl
  have hd8 : d < 8 := Nat.lt_of_lt_of_le hd ok.n8
  obtain ⟨g, hg, eg⟩ := ok.gr hd
  have eg2 : gOf v d = g := by
    show (v.1 (4 + d) 4).toNatClampNeg = g
    rw [eg]; exact nI_clamp (by omega)
  refine lv_aload_n hx hb dX3_isDriven_0 rfl (lv_at hl 0 rfl) ?_
  refine va_get (D := D) (ci := 3) (v := .ref (a 1)) (C := RX3) (T := TX3) (N := 13) hx hb hts hiX3 hown hK hP 0 st_c0 rfl 0 (by decide) w_1 (fun _ h9 => h9) rfl dX3_isDriven_1 ?_
  refine lv_iload_n hx hb dX3_isDriven_4 rfl (lv_at hl 1 rfl) ?_
  refine r_aldq (v := a (3 * d + 5)) hx hb hK hP 1 4 st_c1 rfl (k := d) (rfl) (by omega) (by decide) (rfl) dX3_isDriven_5 ?_
  have hPd_5 : va_P D vwCl (dgA ct a v d) _ := st_dgP (by omega) hP
  refine lv_astore_n (lv' := [(2, .ref (a (3 * d + 5))), (0, .ref (a 0)), (1, .int (nI d))]) hx hb dX3_isDriven_6 rfl hl (by decide) rfl (fun ls hl => ?_)
  refine lv_aload_n hx hb dX3_isDriven_7 rfl (lv_at hl 1 rfl) ?_
  refine va_get (D := D) (ci := 3) (v := .int (v.1 0 4)) (C := RX3) (T := TX3) (N := 13) hx hb hts hiX3 hown hK hP 0 st_c0 rfl 8 (by decide) w_2 (fun _ h9 => h9) rfl dX3_isDriven_8 ?_
  refine lv_if_le (tgt := 18) hx hb dX3_isDriven_11 (by decide) (fun c_11 => ?_) (fun c_11 => ?_)
  · refine lv_iconst (v := 0) hx hb dX3_isDriven_18 (by decide) ?_
    refine lv_istore_n (lv' := [(3, .int 0), (2, .ref (a (3 * d + 5))), (0, .ref (a 0)), (1, .int (nI d))]) hx hb dX3_isDriven_19 rfl hl (by decide) rfl (fun ls hl => ?_)
    refine lv_aload_n hx hb dX3_isDriven_20 rfl (lv_at hl 1 rfl) ?_
    refine lv_iload_n hx hb dX3_isDriven_21 rfl (lv_at hl 0 rfl) ?_
    refine lv_if_eq (tgt := 30) hx hb dX3_isDriven_22 (by decide) (fun c_22 => ?_) (fun c_22 => ?_)
    · refine lv_aload_n hx hb dX3_isDriven_30 rfl (lv_at hl 1 rfl) ?_
      refine va_get (D := D) (ci := 0) (v := .int (v.1 (4 + d) 3)) (C := RX0) (T := TX0) (N := 9) hx hb hts hiX0 hown hK hPd_5 0 rfl rfl 2 (by decide) w_3 (fun _ h9 => h9) rfl dX3_isDriven_31 ?_
      refine vp_callSi (va_runV (As := [.int (v.1 (4 + d) 3)]) (rest := []) ⟨hx, hb, hml, hown, hts⟩ (k_X0_litPartAt l D ct (a (3 * d + 5)) (a (3 * d + 6)) (a (3 * d + 7)) (v.1 (4 + d)) (v.1 (12 + d)) (v.1 (20 + d)) (v.1 (4 + d) 3)) (cwV 1 hts gX3_isDriven_X0_litPartAt rfl rfl rfl (by decide +kernel) ⟨Nat.le_of_ble_eq_true rfl, Nat.le_of_ble_eq_true rfl⟩) ⟨roP.blind, va_recv hK hPd_5 (ci := 0) (q0 := 0) rfl rfl, roP.at hPd_5 hK hN⟩ rfl rfl hl.1 rfl (lv_room (Nat.le_of_ble_eq_true rfl)) dX3_isDriven_34 ⟨Nat.le_of_ble_eq_true rfl, Nat.le_of_ble_eq_true rfl⟩).run (fun r_34 h_34 => ?_)
      obtain rfl : r_34 = (v.1 (4 + d) 1 - v.1 (4 + d) 2) * v.1 (4 + d) 3 / 15 := h_34
      refine lv_istore (lv' := [(4, .int ((v.1 (4 + d) 1 - v.1 (4 + d) 2) * v.1 (4 + d) 3 / 15)), (3, .int 0), (2, .ref (a (3 * d + 5))), (0, .ref (a 0)), (1, .int (nI d))]) hx hb dX3_isDriven_37 hl (by decide) rfl (fun ls hl => ?_)
      refine lv_aload_n hx hb dX3_isDriven_39 rfl (lv_at hl 3 rfl) ?_
      refine va_get (D := D) (ci := 3) (v := .int (v.1 0 3)) (C := RX3) (T := TX3) (N := 13) hx hb hts hiX3 hown hK hP 0 st_c0 rfl 7 (by decide) w_4 (fun _ h9 => h9) rfl dX3_isDriven_40 ?_
      refine lv_aload_n hx hb dX3_isDriven_43 rfl (lv_at hl 3 rfl) ?_
      refine lv_iload_n hx hb dX3_isDriven_44 rfl (lv_at hl 4 rfl) ?_
      refine vp_callSi (va_runV (As := [.int (nI d)]) (rest := [.int (v.1 0 3)]) ⟨hx, hb, hml, hown, hts⟩ (k_X3_slotStart l D ct a v d (by omega)) (cwV 1 hts gX3_isDriven_X3_slotStart rfl rfl rfl (by decide +kernel) ⟨Nat.le_of_ble_eq_true rfl, Nat.le_of_ble_eq_true rfl⟩) ⟨roP.blind, va_recv hK hP (ci := 3) (q0 := 0) rfl rfl, roP.at hP hK hN⟩ rfl rfl hl.1 rfl (lv_room (Nat.le_of_ble_eq_true rfl)) dX3_isDriven_45 ⟨Nat.le_of_ble_eq_true rfl, Nat.le_of_ble_eq_true rfl⟩).run (fun r_45 h_45 => ?_)
      obtain rfl : r_45 = pBeg v d := h_45
      refine lv_isub hx hb dX3_isDriven_48 ?_
      refine lv_iload hx hb dX3_isDriven_49 (lv_at hl 0 rfl) ?_
      refine lv_icmp_ge (tgt := 73) hx hb dX3_isDriven_51 (by decide) (fun c_51 => ?_) (fun c_51 => ?_)
      · refine lv_iconst (v := 0) hx hb dX3_isDriven_73 (by decide) ?_
        exact W.zret (v := 0) hx hb hr (by decide) (fun tt ht hW => ⟨0, rfl, (if_neg (fun z => z.elim (fun q => Int32.not_lt.mpr c_11 q.1) (fun q => Int32.not_lt.mpr c_51 q.2.1))).symm, ht⟩) (fun q hq => absurd hq List.not_mem_nil) dX3_isDriven_74
      · refine lv_iload_n hx hb dX3_isDriven_54 rfl (lv_at hl 1 rfl) ?_
        refine lv_if_ne (tgt := 69) hx hb dX3_isDriven_55 (by decide) (fun c_55 => ?_) (fun c_55 => ?_)
        · exact absurd rfl c_55
        · refine lv_aload_n hx hb dX3_isDriven_58 rfl (lv_at hl 3 rfl) ?_
          refine lv_aload_n hx hb dX3_isDriven_59 rfl (lv_at hl 2 rfl) ?_
          refine va_get (D := D) (ci := 0) (v := .int (v.1 (4 + d) 4)) (C := RX0) (T := TX0) (N := 9) hx hb hts hiX0 hown hK hPd_5 0 rfl rfl 4 (by decide) w_5 (fun _ h9 => h9) rfl dX3_isDriven_60 ?_
          refine lv_as (y := nI g) eg ?_
          refine vp_callSi (va_runV (As := [.int (nI g)]) (rest := []) ⟨hx, hb, hml, hown, hts⟩ (k_X3_isGroupOn l D ct a v g hg ok) (cwV 1 hts gX3_isDriven_X3_isGroupOn rfl rfl rfl (by decide +kernel) ⟨Nat.le_of_ble_eq_true rfl, Nat.le_of_ble_eq_true rfl⟩) ⟨roP.blind, va_recv hK hP (ci := 3) (q0 := 0) rfl rfl, roP.at hP hK hN⟩ rfl rfl hl.1 rfl (lv_room (Nat.le_of_ble_eq_true rfl)) dX3_isDriven_63 ⟨Nat.le_of_ble_eq_true rfl, Nat.le_of_ble_eq_true rfl⟩).run (fun r_63 h_63 => ?_)
          obtain rfl : r_63 = if pOn v g then 1 else 0 := h_63
          refine lv_if_eq (tgt := 73) hx hb dX3_isDriven_66 (by decide) (fun c_66 => ?_) (fun c_66 => ?_)
          · have hon : ¬ pOn v g := fun z => by rw [if_pos z] at c_66; exact absurd c_66 (by decide)
            refine lv_iconst (v := 0) hx hb dX3_isDriven_73 (by decide) ?_
            exact W.zret (v := 0) hx hb hr (by decide) (fun tt ht hW => ⟨0, rfl, (if_neg (fun z => z.elim (fun q => Int32.not_lt.mpr c_11 q.1) (fun q => hon (eg2 ▸ q.2.2)))).symm, ht⟩) (fun q hq => absurd hq List.not_mem_nil) dX3_isDriven_74
          · have hon : pOn v g := Classical.byContradiction (fun z => by rw [if_neg z] at c_66; exact c_66 rfl)
            refine lv_iconst (v := 1) hx hb dX3_isDriven_69 (by decide) ?_
            refine lv_goto (tgt := 74) hx hb dX3_isDriven_70 (by decide) ?_
            exact W.zret (v := 1) hx hb hr (by decide) (fun tt ht hW => ⟨1, rfl, (if_pos (Or.inr ⟨Int32.not_lt.mpr c_11, i_not_le c_51, eg2.symm ▸ hon⟩)).symm, ht⟩) (fun q hq => absurd hq List.not_mem_nil) dX3_isDriven_74
    · exact absurd rfl c_22
  · refine lv_iconst (v := 1) hx hb dX3_isDriven_14 (by decide) ?_
    refine lv_goto (tgt := 19) hx hb dX3_isDriven_15 (by decide) ?_
    refine lv_istore_n (lv' := [(3, .int 1), (2, .ref (a (3 * d + 5))), (0, .ref (a 0)), (1, .int (nI d))]) hx hb dX3_isDriven_19 rfl hl (by decide) rfl (fun ls hl => ?_)
    refine lv_aload_n hx hb dX3_isDriven_20 rfl (lv_at hl 1 rfl) ?_
    refine lv_iload_n hx hb dX3_isDriven_21 rfl (lv_at hl 0 rfl) ?_
    refine lv_if_eq (tgt := 30) hx hb dX3_isDriven_22 (by decide) (fun c_22 => ?_) (fun c_22 => ?_)
    · exact absurd c_22 (by decide)
    · refine lv_bipush (v := 15) hx hb dX3_isDriven_25 (by decide) ?_
      refine lv_goto (tgt := 34) hx hb dX3_isDriven_27 (by decide) ?_
      refine vp_callSi (va_runV (As := [.int 15]) (rest := []) ⟨hx, hb, hml, hown, hts⟩ (k_X0_litPartAt l D ct (a (3 * d + 5)) (a (3 * d + 6)) (a (3 * d + 7)) (v.1 (4 + d)) (v.1 (12 + d)) (v.1 (20 + d)) 15) (cwV 1 hts gX3_isDriven_X0_litPartAt rfl rfl rfl (by decide +kernel) ⟨Nat.le_of_ble_eq_true rfl, Nat.le_of_ble_eq_true rfl⟩) ⟨roP.blind, va_recv hK hPd_5 (ci := 0) (q0 := 0) rfl rfl, roP.at hPd_5 hK hN⟩ rfl rfl hl.1 rfl (lv_room (Nat.le_of_ble_eq_true rfl)) dX3_isDriven_34 ⟨Nat.le_of_ble_eq_true rfl, Nat.le_of_ble_eq_true rfl⟩).run (fun r_34 h_34 => ?_)
      obtain rfl : r_34 = (v.1 (4 + d) 1 - v.1 (4 + d) 2) * 15 / 15 := h_34
      refine lv_as (y := v.1 (4 + d) 1 - v.1 (4 + d) 2) (lp_15 ok hd) ?_
      refine lv_istore (lv' := [(4, .int (v.1 (4 + d) 1 - v.1 (4 + d) 2)), (3, .int 1), (2, .ref (a (3 * d + 5))), (0, .ref (a 0)), (1, .int (nI d))]) hx hb dX3_isDriven_37 hl (by decide) rfl (fun ls hl => ?_)
      refine lv_aload_n hx hb dX3_isDriven_39 rfl (lv_at hl 3 rfl) ?_
      refine va_get (D := D) (ci := 3) (v := .int (v.1 0 3)) (C := RX3) (T := TX3) (N := 13) hx hb hts hiX3 hown hK hP 0 st_c0 rfl 7 (by decide) w_4 (fun _ h9 => h9) rfl dX3_isDriven_40 ?_
      refine lv_aload_n hx hb dX3_isDriven_43 rfl (lv_at hl 3 rfl) ?_
      refine lv_iload_n hx hb dX3_isDriven_44 rfl (lv_at hl 4 rfl) ?_
      refine vp_callSi (va_runV (As := [.int (nI d)]) (rest := [.int (v.1 0 3)]) ⟨hx, hb, hml, hown, hts⟩ (k_X3_slotStart l D ct a v d (by omega)) (cwV 1 hts gX3_isDriven_X3_slotStart rfl rfl rfl (by decide +kernel) ⟨Nat.le_of_ble_eq_true rfl, Nat.le_of_ble_eq_true rfl⟩) ⟨roP.blind, va_recv hK hP (ci := 3) (q0 := 0) rfl rfl, roP.at hP hK hN⟩ rfl rfl hl.1 rfl (lv_room (Nat.le_of_ble_eq_true rfl)) dX3_isDriven_45 ⟨Nat.le_of_ble_eq_true rfl, Nat.le_of_ble_eq_true rfl⟩).run (fun r_45 h_45 => ?_)
      obtain rfl : r_45 = pBeg v d := h_45
      refine lv_isub hx hb dX3_isDriven_48 ?_
      refine lv_iload hx hb dX3_isDriven_49 (lv_at hl 0 rfl) ?_
      refine lv_icmp_ge (tgt := 73) hx hb dX3_isDriven_51 (by decide) (fun c_51 => ?_) (fun c_51 => ?_)
      · refine lv_iconst (v := 0) hx hb dX3_isDriven_73 (by decide) ?_
        exact W.zret (v := 0) hx hb hr (by decide) (fun tt ht hW => ⟨0, rfl, (if_neg (fun z => z.elim (fun q => Int32.not_lt.mpr c_51 q.2) (fun q => q.1 (i_not_le c_11)))).symm, ht⟩) (fun q hq => absurd hq List.not_mem_nil) dX3_isDriven_74
      · refine lv_iload_n hx hb dX3_isDriven_54 rfl (lv_at hl 1 rfl) ?_
        refine lv_if_ne (tgt := 69) hx hb dX3_isDriven_55 (by decide) (fun c_55 => ?_) (fun c_55 => ?_)
        · refine lv_iconst (v := 1) hx hb dX3_isDriven_69 (by decide) ?_
          refine lv_goto (tgt := 74) hx hb dX3_isDriven_70 (by decide) ?_
          exact W.zret (v := 1) hx hb hr (by decide) (fun tt ht hW => ⟨1, rfl, (if_pos (Or.inl ⟨i_not_le c_11, i_not_le c_51⟩)).symm, ht⟩) (fun q hq => absurd hq List.not_mem_nil) dX3_isDriven_74
        · exact absurd c_55 (by decide)
set_option maxHeartbeats 4000000 in
set_option maxRecDepth 100000 in
theorem k_X3_litNext (l : Launch) (D : va_G) (ct : Nat → ClassId) (a : Nat → Nat) (v : SV) (ok : Inv v) : Met l yX3_litNext wsX3_litNext ({ frames := 2, cells := 0, slots := 0, locals := 47 }) (roP D ct (stW ct a v) [.ref (a 0)]) (vp_Si (fun r => r = pLit v (pSlot v))) 0 0 noA := by
  refine Met.ofW (cc := cX3_litNext) (maxL := 3) (ret := (some .int)) (by decide) rfl ?_
  intro p e s m args below meth c s₁ B hml hv
  obtain ⟨rfl, hP, hK, hN⟩ := hv
  have hx := B.exec
  have hb := B.bytes
  have hr := B.returns
  have hts := atoms_spec (ws := wsX3_litNext) B.pre
  have hown : s.vm.findClass RX3 = some m.cls := findClass_of_methodNamed B.named
  have hlocks := B.notSynchronized
  have w_1 := hts (.fieldLink RX3 59 "ScannedDigits$State" "testFrames" "I") (List.mem_of_getElem? (i := 1) rfl)
  have w_2 := hts (.fieldLink RX3 11 "ScannedDigits$State" "digits" "[LScannedDigits$Digit;") (List.mem_of_getElem? (i := 2) rfl)
  have w_3 := hts (.fieldLink RX3 88 "ScannedDigits$Digit" "pattern" "I") (List.mem_of_getElem? (i := 3) rfl)
  have w_4 := hts (.fieldLink RX3 98 "ScannedDigits$Digit" "broken" "I") (List.mem_of_getElem? (i := 4) rfl)
  have hiX3 : ∀ w ∈ wsX30, w ∈ wsX3_litNext := fun w h => (goodIn_r wsX30 [37, 38, 39, 40, 41, 42, 43, 44, 45, 46, 47, 48, 49] (by decide +kernel) (by decide +kernel) w h).1
  have hiX0 : ∀ w ∈ wsX00, w ∈ wsX3_litNext := fun w h => (goodIn_r wsX00 [50, 51, 52, 53, 54, 55, 56, 57, 58] (by decide +kernel) (by decide +kernel) w h).1
  have hl := lv_entry ([.ref (a 0)]) (n := 3) (Nat.le_of_ble_eq_true rfl)
  rw [lg_entry_eq]
  generalize (lg_sl ([.ref (a 0)]) ++ List.replicate (3 - (lg_sl ([.ref (a 0)])).length) Slot.unset).toArray = ls at hl ⊢
  have hl : lv_has ls 3 [(0, .ref (a 0))] := hl
  have hs8 := ok.slot8
  refine lv_aload_n hx hb dX3_litNext_0 rfl (lv_at hl 0 rfl) ?_
  refine vp_callSi (va_runV (As := []) (rest := []) ⟨hx, hb, hml, hown, hts⟩ (k_X3_slotNow l D ct a v ok) (cwV 0 hts gX3_litNext_X3_slotNow rfl rfl rfl (by decide +kernel) ⟨Nat.le_of_ble_eq_true rfl, Nat.le_of_ble_eq_true rfl⟩) ⟨roP.blind, va_recv hK hP (ci := 3) (q0 := 0) rfl rfl, roP.at hP hK hN⟩ rfl rfl hl.1 rfl (lv_room (Nat.le_of_ble_eq_true rfl)) dX3_litNext_1 ⟨Nat.le_of_ble_eq_true rfl, Nat.le_of_ble_eq_true rfl⟩).run (fun r_1 h_1 => ?_)
  obtain rfl : r_1 = nI (pSlot v) := h_1
  refine lv_istore_n (lv' := [(1, .int (nI (pSlot v))), (0, .ref (a 0))]) hx hb dX3_litNext_4 rfl hl (by decide) rfl (fun ls hl => ?_)
  refine lv_aload_n hx hb dX3_litNext_5 rfl (lv_at hl 1 rfl) ?_
  refine lv_iload_n hx hb dX3_litNext_6 rfl (lv_at hl 0 rfl) ?_
  refine vp_callSi (va_runV (As := [.int (nI (pSlot v))]) (rest := []) ⟨hx, hb, hml, hown, hts⟩ (k_X3_isDriven l D ct a v (pSlot v) ok.slot ok) (cwV 1 hts gX3_litNext_X3_isDriven rfl rfl rfl (by decide +kernel) ⟨Nat.le_of_ble_eq_true rfl, Nat.le_of_ble_eq_true rfl⟩) ⟨roP.blind, va_recv hK hP (ci := 3) (q0 := 0) rfl rfl, roP.at hP hK hN⟩ rfl rfl hl.1 rfl (lv_room (Nat.le_of_ble_eq_true rfl)) dX3_litNext_7 ⟨Nat.le_of_ble_eq_true rfl, Nat.le_of_ble_eq_true rfl⟩).run (fun r_7 h_7 => ?_)
  obtain rfl : r_7 = if pDrv v (pSlot v) then 1 else 0 := h_7
  refine lv_if_ne (tgt := 15) hx hb dX3_litNext_10 (by decide) (fun c_10 => ?_) (fun c_10 => ?_)
  · have hdr : pDrv v (pSlot v) := Classical.byContradiction (fun z => by rw [if_neg z] at c_10; exact c_10 rfl)
    refine lv_aload_n hx hb dX3_litNext_15 rfl (lv_at hl 1 rfl) ?_
    refine va_get (D := D) (ci := 3) (v := .int (v.1 0 4)) (C := RX3) (T := TX3) (N := 13) hx hb hts hiX3 hown hK hP 0 st_c0 rfl 8 (by decide) w_1 (fun _ h9 => h9) rfl dX3_litNext_16 ?_
    refine lv_if_le (tgt := 28) hx hb dX3_litNext_19 (by decide) (fun c_19 => ?_) (fun c_19 => ?_)
    · refine lv_aload_n hx hb dX3_litNext_28 rfl (lv_at hl 1 rfl) ?_
      refine va_get (D := D) (ci := 3) (v := .ref (a 1)) (C := RX3) (T := TX3) (N := 13) hx hb hts hiX3 hown hK hP 0 st_c0 rfl 0 (by decide) w_2 (fun _ h9 => h9) rfl dX3_litNext_29 ?_
      refine lv_iload_n hx hb dX3_litNext_32 rfl (lv_at hl 0 rfl) ?_
      refine r_aldq (v := a (3 * (pSlot v) + 5)) hx hb hK hP 1 4 st_c1 rfl (k := (pSlot v)) (rfl) (hs8) (by decide) (rfl) dX3_litNext_33 ?_
      have hPd_33 : va_P D vwCl (dgA ct a v (pSlot v)) _ := st_dgP (hs8) hP
      refine va_get (D := D) (ci := 0) (v := .int (v.1 (4 + (pSlot v)) 0)) (C := RX0) (T := TX0) (N := 9) hx hb hts hiX0 hown hK hPd_33 0 rfl rfl 3 (by decide) w_3 (fun _ h9 => h9) rfl dX3_litNext_34 ?_
      refine lv_istore_n (lv' := [(2, .int (v.1 (4 + (pSlot v)) 0)), (1, .int (nI (pSlot v))), (0, .ref (a 0))]) hx hb dX3_litNext_37 rfl hl (by decide) rfl (fun ls hl => ?_)
      refine lv_iload_n hx hb dX3_litNext_38 rfl (lv_at hl 0 rfl) ?_
      refine lv_aload_n hx hb dX3_litNext_39 rfl (lv_at hl 2 rfl) ?_
      refine va_get (D := D) (ci := 3) (v := .ref (a 1)) (C := RX3) (T := TX3) (N := 13) hx hb hts hiX3 hown hK hP 0 st_c0 rfl 0 (by decide) w_2 (fun _ h9 => h9) rfl dX3_litNext_40 ?_
      refine lv_iload_n hx hb dX3_litNext_43 rfl (lv_at hl 1 rfl) ?_
      refine r_aldq (v := a (3 * (pSlot v) + 5)) hx hb hK hP 1 4 st_c1 rfl (k := (pSlot v)) (rfl) (hs8) (by decide) (rfl) dX3_litNext_44 ?_
      have hPd_44 : va_P D vwCl (dgA ct a v (pSlot v)) _ := st_dgP (hs8) hP
      refine va_get (D := D) (ci := 0) (v := .int (v.1 (4 + (pSlot v)) 6)) (C := RX0) (T := TX0) (N := 9) hx hb hts hiX0 hown hK hPd_44 0 rfl rfl 6 (by decide) w_4 (fun _ h9 => h9) rfl dX3_litNext_45 ?_
      refine lv_iconst (v := (-1)) hx hb dX3_litNext_48 (by decide) ?_
      refine lv_ixor hx hb dX3_litNext_49 ?_
      refine lv_iand hx hb dX3_litNext_50 ?_
      exact W.iret (v := ((v.1 (4 + (pSlot v)) 0) &&& ((v.1 (4 + (pSlot v)) 6) ^^^ (-1)))) hx hb hr (fun tt ht hW => ⟨((v.1 (4 + (pSlot v)) 0) &&& ((v.1 (4 + (pSlot v)) 6) ^^^ (-1))), rfl, ((if_pos (show pSlot v = pSlot v ∧ pDrv v (pSlot v) from ⟨rfl, hdr⟩)).trans (by rw [if_neg (Int32.not_lt.mpr c_19)])).symm, ht⟩) (fun q hq => absurd hq List.not_mem_nil) dX3_litNext_51
    · refine lv_sipush (v := 255) hx hb dX3_litNext_22 (by decide) ?_
      refine lv_goto (tgt := 37) hx hb dX3_litNext_25 (by decide) ?_
      refine lv_istore_n (lv' := [(2, .int 255), (1, .int (nI (pSlot v))), (0, .ref (a 0))]) hx hb dX3_litNext_37 rfl hl (by decide) rfl (fun ls hl => ?_)
      refine lv_iload_n hx hb dX3_litNext_38 rfl (lv_at hl 0 rfl) ?_
      refine lv_aload_n hx hb dX3_litNext_39 rfl (lv_at hl 2 rfl) ?_
      refine va_get (D := D) (ci := 3) (v := .ref (a 1)) (C := RX3) (T := TX3) (N := 13) hx hb hts hiX3 hown hK hP 0 st_c0 rfl 0 (by decide) w_2 (fun _ h9 => h9) rfl dX3_litNext_40 ?_
      refine lv_iload_n hx hb dX3_litNext_43 rfl (lv_at hl 1 rfl) ?_
      refine r_aldq (v := a (3 * (pSlot v) + 5)) hx hb hK hP 1 4 st_c1 rfl (k := (pSlot v)) (rfl) (hs8) (by decide) (rfl) dX3_litNext_44 ?_
      have hPd_44 : va_P D vwCl (dgA ct a v (pSlot v)) _ := st_dgP (hs8) hP
      refine va_get (D := D) (ci := 0) (v := .int (v.1 (4 + (pSlot v)) 6)) (C := RX0) (T := TX0) (N := 9) hx hb hts hiX0 hown hK hPd_44 0 rfl rfl 6 (by decide) w_4 (fun _ h9 => h9) rfl dX3_litNext_45 ?_
      refine lv_iconst (v := (-1)) hx hb dX3_litNext_48 (by decide) ?_
      refine lv_ixor hx hb dX3_litNext_49 ?_
      refine lv_iand hx hb dX3_litNext_50 ?_
      exact W.iret (v := (255 &&& ((v.1 (4 + (pSlot v)) 6) ^^^ (-1)))) hx hb hr (fun tt ht hW => ⟨(255 &&& ((v.1 (4 + (pSlot v)) 6) ^^^ (-1))), rfl, ((if_pos (show pSlot v = pSlot v ∧ pDrv v (pSlot v) from ⟨rfl, hdr⟩)).trans (by rw [if_pos (i_not_le c_19)])).symm, ht⟩) (fun q hq => absurd hq List.not_mem_nil) dX3_litNext_51
  · have hdr : ¬ pDrv v (pSlot v) := fun z => by rw [if_pos z] at c_10; exact absurd c_10 (by decide)
    refine lv_iconst (v := 0) hx hb dX3_litNext_13 (by decide) ?_
    exact W.iret (v := 0) hx hb hr (fun tt ht hW => ⟨0, rfl, (if_neg (fun z => hdr z.2)).symm, ht⟩) (fun q hq => absurd hq List.not_mem_nil) dX3_litNext_14
