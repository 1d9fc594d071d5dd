set_option maxHeartbeats 4000000 in
set_option maxRecDepth 100000 in
theorem k_X6_in (l : Launch) (D : va_G) (ct : Nat → ClassId) (x lo hi : Int32) : Met l yX6_in wsX6_in ({ frames := 0, cells := 0, slots := 0, locals := 0 }) (roP D ct ([]) [.int x, .int lo, .int hi]) (vp_Si (fun r => r = pIn x lo hi)) 0 0 noA := by
  refine Met.ofW (cc := cX6_in) (maxL := 3) (ret := (some .boolean)) (by decide) rfl ?_
  intro p e s m args below meth c s₁ B hml hv
  obtain ⟨rfl, hP, hK, hN⟩ := hv
  have hx := B.exec
  have hb := B.bytes
  have hr := B.returns
  have hts := atoms_spec (ws := wsX6_in) B.pre
  have hown : s.vm.findClass RX6 = some m.cls := findClass_of_methodNamed B.named
  have hlocks := B.notSynchronized
  have hl := lv_entry ([.int x, .int lo, .int hi]) (n := 3) (Nat.le_of_ble_eq_true rfl)
  rw [lg_entry_eq]
  generalize (lg_sl ([.int x, .int lo, .int hi]) ++ List.replicate (3 - (lg_sl ([.int x, .int lo, .int hi])).length) Slot.unset).toArray = ls at hl ⊢
  have hl : lv_has ls 3 [(0, .int x), (1, .int lo), (2, .int hi)] := hl
  refine lv_iload_n hx hb dX6_in_0 rfl (lv_at hl 0 rfl) ?_
  refine lv_iload_n hx hb dX6_in_1 rfl (lv_at hl 1 rfl) ?_
  refine lv_icmp_lt (tgt := 14) hx hb dX6_in_2 (by decide) (fun c_2 => ?_) (fun c_2 => ?_)
  · refine lv_iconst (v := 0) hx hb dX6_in_14 (by decide) ?_
    exact W.zret (v := 0) hx hb hr (by decide) (fun tt ht hW => ⟨0, rfl, (if_pos (Or.inl c_2)).symm, ht⟩) (fun q hq => absurd hq List.not_mem_nil) dX6_in_15
  · refine lv_iload_n hx hb dX6_in_5 rfl (lv_at hl 0 rfl) ?_
    refine lv_iload_n hx hb dX6_in_6 rfl (lv_at hl 2 rfl) ?_
    refine lv_icmp_gt (tgt := 14) hx hb dX6_in_7 (by decide) (fun c_7 => ?_) (fun c_7 => ?_)
    · refine lv_iconst (v := 0) hx hb dX6_in_14 (by decide) ?_
      exact W.zret (v := 0) hx hb hr (by decide) (fun tt ht hW => ⟨0, rfl, (if_pos (Or.inr c_7)).symm, ht⟩) (fun q hq => absurd hq List.not_mem_nil) dX6_in_15
    · refine lv_iconst (v := 1) hx hb dX6_in_10 (by decide) ?_
      refine lv_goto (tgt := 15) hx hb dX6_in_11 (by decide) ?_
      exact W.zret (v := 1) hx hb hr (by decide) (fun tt ht hW => ⟨1, rfl, (if_neg (fun h => h.elim c_2 c_7)).symm, ht⟩) (fun q hq => absurd hq List.not_mem_nil) dX6_in_15

set_option maxHeartbeats 4000000 in
set_option maxRecDepth 100000 in
theorem k_X6_of (l : Launch) (D : va_G) (ct : Nat → ClassId) (h r : Nat) (tl : List Value) (v : SV) (d f : Nat) (hd : d < 8) (hf : f < 6) : Met l yX6_of wsX6_of ({ frames := 0, cells := 0, slots := 0, locals := 0 }) (roP D ct (mR ct h r tl v) [.ref h, .int (nI d), .int (nI f)]) (vp_Si (fun r => r = v.1 (4 + d) f)) 0 0 noA := by
  refine Met.ofW (cc := cX6_of) (maxL := 3) (ret := (some .int)) (by decide) rfl ?_
  intro p e s m args below meth c s₁ B hml hv
  obtain ⟨rfl, hP, hK, hN⟩ := hv
  have hx := B.exec
  have hb := B.bytes
  have hr := B.returns
  have hts := atoms_spec (ws := wsX6_of) B.pre
  have hown : s.vm.findClass RX6 = some m.cls := findClass_of_methodNamed B.named
  have hlocks := B.notSynchronized
  have w_1 := hts (.fieldLink RX6 7 "ScannedDigitsModel" "row" "[I") (List.mem_of_getElem? (i := 1) rfl)
  have hiX6 : ∀ w ∈ wsX60, w ∈ wsX6_of := fun w h => (goodIn_r wsX60 [2, 3, 4, 5, 6, 7, 8, 9, 10, 11, 12, 13, 14] (by decide +kernel) (by decide +kernel) w h).1
  have hl := lv_entry ([.ref h, .int (nI d), .int (nI f)]) (n := 3) (Nat.le_of_ble_eq_true rfl)
  rw [lg_entry_eq]
  generalize (lg_sl ([.ref h, .int (nI d), .int (nI f)]) ++ List.replicate (3 - (lg_sl ([.ref h, .int (nI d), .int (nI f)])).length) Slot.unset).toArray = ls at hl ⊢
  have hl : lv_has ls 3 [(0, .ref h), (1, .int (nI d)), (2, .int (nI f))] := hl
  refine lv_aload_n hx hb dX6_of_0 rfl (lv_at hl 0 rfl) ?_
  refine va_get (D := D) (ci := 6) (v := .ref r) (C := RX6) (T := TX6) (N := 13) hx hb hts hiX6 hown hK hP 0 rfl rfl 0 (by decide) w_1 (fun _ h9 => h9) rfl dX6_of_1 ?_
  refine lv_bipush (v := 16) hx hb dX6_of_4 (by decide) ?_
  refine lv_bipush (v := 6) hx hb dX6_of_6 (by decide) ?_
  refine lv_iload_n hx hb dX6_of_8 rfl (lv_at hl 1 rfl) ?_
  refine lv_imul hx hb dX6_of_9 ?_
  refine lv_iadd hx hb dX6_of_10 ?_
  refine lv_iload_n hx hb dX6_of_11 rfl (lv_at hl 2 rfl) ?_
  refine lv_iadd hx hb dX6_of_12 ?_
  refine r_iald hx hb hK hP 1 0 rfl rfl (k := 16 + 6 * d + f) (ix_6 d f) (by omega) (by decide) dX6_of_13 ?_
  exact W.iret (v := ((rowOf v) (16 + 6 * d + f))) hx hb hr (fun tt ht hW => ⟨((rowOf v) (16 + 6 * d + f)), rfl, row_d v hd hf, ht⟩) (fun q hq => absurd hq List.not_mem_nil) dX6_of_14

set_option maxHeartbeats 4000000 in
set_option maxRecDepth 100000 in
theorem k_X6_noDigit (l : Launch) (D : va_G) (ct : Nat → ClassId) (h r : Nat) (tl : List Value) (v : SV) (x : Int32) : Met l yX6_noDigit wsX6_noDigit ({ frames := 1, cells := 0, slots := 0, locals := 22 }) (roP D ct (mR ct h r tl v) [.ref h, .int x]) (vp_Si (fun r => r = if vD v x then 0 else 1)) 0 0 noA := by
  refine Met.ofW (cc := cX6_noDigit) (maxL := 2) (ret := (some .boolean)) (by decide) rfl ?_
  intro p e s m args below meth c s₁ B hml hv
  obtain ⟨rfl, hP, hK, hN⟩ := hv
  have hx := B.exec
  have hb := B.bytes
  have hr := B.returns
  have hts := atoms_spec (ws := wsX6_noDigit) B.pre
  have hown : s.vm.findClass RX6 = some m.cls := findClass_of_methodNamed B.named
  have hlocks := B.notSynchronized
  have w_1 := hts (.fieldLink RX6 7 "ScannedDigitsModel" "row" "[I") (List.mem_of_getElem? (i := 1) rfl)
  have hiX6 : ∀ w ∈ wsX60, w ∈ wsX6_noDigit := fun w h => (goodIn_r wsX60 [6, 7, 8, 9, 10, 11, 12, 13, 14, 15, 16, 17, 18] (by decide +kernel) (by decide +kernel) w h).1
  have hl := lv_entry ([.ref h, .int x]) (n := 2) (Nat.le_of_ble_eq_true rfl)
  rw [lg_entry_eq]
  generalize (lg_sl ([.ref h, .int x]) ++ List.replicate (2 - (lg_sl ([.ref h, .int x])).length) Slot.unset).toArray = ls at hl ⊢
  have hl : lv_has ls 2 [(0, .ref h), (1, .int x)] := hl
  refine lv_iload_n hx hb dX6_noDigit_0 rfl (lv_at hl 1 rfl) ?_
  refine lv_iconst (v := 0) hx hb dX6_noDigit_1 (by decide) ?_
  refine lv_aload_n hx hb dX6_noDigit_2 rfl (lv_at hl 0 rfl) ?_
  refine va_get (D := D) (ci := 6) (v := .ref r) (C := RX6) (T := TX6) (N := 13) hx hb hts hiX6 hown hK hP 0 rfl rfl 0 (by decide) w_1 (fun _ h9 => h9) rfl dX6_noDigit_3 ?_
  refine lv_iconst (v := 0) hx hb dX6_noDigit_6 (by decide) ?_
  refine r_iald hx hb hK hP 1 0 rfl rfl (k := 0) (rfl) (by decide) (by decide) dX6_noDigit_7 ?_
  refine lv_as (y := v.1 0 0) (row_0 v (by decide)) ?_
  refine lv_iconst (v := 1) hx hb dX6_noDigit_8 (by decide) ?_
  refine lv_isub hx hb dX6_noDigit_9 ?_
  refine vp_callSi (va_runS (As := [.int x, .int 0, .int ((v.1 0 0) - 1)]) (rest := []) ⟨hx, hb, hml, hown, hts⟩ (k_X6_in l D ct x 0 (v.1 0 0 - 1)) (va_cwS 3 hts gX6_noDigit_X6_in rfl rfl rfl (by decide +kernel) ⟨Nat.le_of_ble_eq_true rfl, Nat.le_of_ble_eq_true rfl⟩) ⟨roP.blind, roP.at pw_nil hK hN⟩ rfl rfl hl.1 rfl (lv_room (Nat.le_of_ble_eq_true rfl)) dX6_noDigit_10 ⟨Nat.le_of_ble_eq_true rfl, Nat.le_of_ble_eq_true rfl⟩).run (fun r_10 h_10 => ?_)
  obtain rfl : r_10 = pIn x 0 (v.1 0 0 - 1) := h_10
  refine lv_if_ne (tgt := 20) hx hb dX6_noDigit_13 (by decide) (fun c_13 => ?_) (fun c_13 => ?_)
  · refine lv_iconst (v := 0) hx hb dX6_noDigit_20 (by decide) ?_
    exact W.zret (v := 0) hx hb hr (by decide) (fun tt ht hW => ⟨0, rfl, (if_pos (pIn_1 c_13)).symm, ht⟩) (fun q hq => absurd hq List.not_mem_nil) dX6_noDigit_21
  · refine lv_iconst (v := 1) hx hb dX6_noDigit_16 (by decide) ?_
    refine lv_goto (tgt := 21) hx hb dX6_noDigit_17 (by decide) ?_
    exact W.zret (v := 1) hx hb hr (by decide) (fun tt ht hW => ⟨1, rfl, (if_neg (fun h => h (pIn_0 c_13))).symm, ht⟩) (fun q hq => absurd hq List.not_mem_nil) dX6_noDigit_21

set_option maxHeartbeats 4000000 in
set_option maxRecDepth 100000 in
theorem k_X6_litPart (l : Launch) (D : va_G) (ct : Nat → ClassId) (h r : Nat) (tl : List Value) (v : SV) (d : Nat) (hd : d < 8) : Met l yX6_litPart wsX6_litPart ({ frames := 1, cells := 0, slots := 0, locals := 22 }) (roP D ct (mR ct h r tl v) [.ref h, .int (nI d)]) (vp_Si (fun r => r = pLP v d)) 0 0 noA := by
  refine Met.ofW (cc := cX6_litPart) (maxL := 2) (ret := (some .int)) (by decide) rfl ?_
  intro p e s m args below meth c s₁ B hml hv
  obtain ⟨rfl, hP, hK, hN⟩ := hv
  have hx := B.exec
  have hb := B.bytes
  have hr := B.returns
  have hts := atoms_spec (ws := wsX6_litPart) B.pre
  have hown : s.vm.findClass RX6 = some m.cls := findClass_of_methodNamed B.named
  have hlocks := B.notSynchronized
  have hl := lv_entry ([.ref h, .int (nI d)]) (n := 2) (Nat.le_of_ble_eq_true rfl)
  rw [lg_entry_eq]
  generalize (lg_sl ([.ref h, .int (nI d)]) ++ List.replicate (2 - (lg_sl ([.ref h, .int (nI d)])).length) Slot.unset).toArray = ls at hl ⊢
  have hl : lv_has ls 2 [(0, .ref h), (1, .int (nI d))] := hl
  refine lv_aload_n hx hb dX6_litPart_0 rfl (lv_at hl 0 rfl) ?_
  refine lv_iload_n hx hb dX6_litPart_1 rfl (lv_at hl 1 rfl) ?_
  refine lv_iconst (v := 1) hx hb dX6_litPart_2 (by decide) ?_
  refine vp_callSi (va_runV (As := [.int (nI d), .int 1]) (rest := []) ⟨hx, hb, hml, hown, hts⟩ (k_X6_of l D ct h r tl v d 1 hd (by decide)) (cwV 2 hts gX6_litPart_X6_of rfl rfl rfl (by decide +kernel) ⟨Nat.le_of_ble_eq_true rfl, Nat.le_of_ble_eq_true rfl⟩) ⟨roP.blind, va_recv hK hP (ci := 6) (q0 := 0) rfl rfl, roP.at hP hK hN⟩ rfl rfl hl.1 rfl (lv_room (Nat.le_of_ble_eq_true rfl)) dX6_litPart_3 ⟨Nat.le_of_ble_eq_true rfl, Nat.le_of_ble_eq_true rfl⟩).run (fun r_3 h_3 => ?_)
  obtain rfl : r_3 = v.1 (4 + d) 1 := h_3
  refine lv_aload_n hx hb dX6_litPart_6 rfl (lv_at hl 0 rfl) ?_
  refine lv_iload_n hx hb dX6_litPart_7 rfl (lv_at hl 1 rfl) ?_
  refine lv_iconst (v := 2) hx hb dX6_litPart_8 (by decide) ?_
  refine vp_callSi (va_runV (As := [.int (nI d), .int 2]) (rest := [.int (v.1 (4 + d) 1)]) ⟨hx, hb, hml, hown, hts⟩ (k_X6_of l D ct h r tl v d 2 hd (by decide)) (cwV 2 hts gX6_litPart_X6_of rfl rfl rfl (by decide +kernel) ⟨Nat.le_of_ble_eq_true rfl, Nat.le_of_ble_eq_true rfl⟩) ⟨roP.blind, va_recv hK hP (ci := 6) (q0 := 0) rfl rfl, roP.at hP hK hN⟩ rfl rfl hl.1 rfl (lv_room (Nat.le_of_ble_eq_true rfl)) dX6_litPart_9 ⟨Nat.le_of_ble_eq_true rfl, Nat.le_of_ble_eq_true rfl⟩).run (fun r_9 h_9 => ?_)
  obtain rfl : r_9 = v.1 (4 + d) 2 := h_9
  refine lv_isub hx hb dX6_litPart_12 ?_
  refine lv_aload_n hx hb dX6_litPart_13 rfl (lv_at hl 0 rfl) ?_
  refine lv_iload_n hx hb dX6_litPart_14 rfl (lv_at hl 1 rfl) ?_
  refine lv_iconst (v := 3) hx hb dX6_litPart_15 (by decide) ?_
  refine vp_callSi (va_runV (As := [.int (nI d), .int 3]) (rest := [.int ((v.1 (4 + d) 1) - (v.1 (4 + d) 2))]) ⟨hx, hb, hml, hown, hts⟩ (k_X6_of l D ct h r tl v d 3 hd (by decide)) (cwV 2 hts gX6_litPart_X6_of rfl rfl rfl (by decide +kernel) ⟨Nat.le_of_ble_eq_true rfl, Nat.le_of_ble_eq_true rfl⟩) ⟨roP.blind, va_recv hK hP (ci := 6) (q0 := 0) rfl rfl, roP.at hP hK hN⟩ rfl rfl hl.1 rfl (lv_room (Nat.le_of_ble_eq_true rfl)) dX6_litPart_16 ⟨Nat.le_of_ble_eq_true rfl, Nat.le_of_ble_eq_true rfl⟩).run (fun r_16 h_16 => ?_)
  obtain rfl : r_16 = v.1 (4 + d) 3 := h_16
  refine lv_imul hx hb dX6_litPart_19 ?_
  refine lv_bipush (v := 15) hx hb dX6_litPart_20 (by decide) ?_
  refine lv_idiv hx hb dX6_litPart_22 (by decide) ?_
  exact W.iret (v := ((((v.1 (4 + d) 1) - (v.1 (4 + d) 2)) * (v.1 (4 + d) 3)) / 15)) hx hb hr (fun tt ht hW => ⟨((((v.1 (4 + d) 1) - (v.1 (4 + d) 2)) * (v.1 (4 + d) 3)) / 15), rfl, rfl, ht⟩) (fun q hq => absurd hq List.not_mem_nil) dX6_litPart_23

set_option maxHeartbeats 4000000 in
set_option maxRecDepth 100000 in
theorem k_X6_beginOf (l : Launch) (D : va_G) (ct : Nat → ClassId) (h r : Nat) (tl : List Value) (v : SV) (k : Nat) (hk : k ≤ 8) : Met l yX6_beginOf wsX6_beginOf ({ frames := 1, cells := 0, slots := 0, locals := 22 }) (roP D ct (mR ct h r tl v) [.ref h, .int (nI k)]) (vp_Si (fun r => r = pBeg v k)) 0 0 noA := by
  refine Met.ofW (cc := cX6_beginOf) (maxL := 4) (ret := (some .int)) (by decide) rfl ?_
  intro p e s m args below meth c s₁ B hml hv
  obtain ⟨rfl, hP, hK, hN⟩ := hv
  have hx := B.exec
  have hb := B.bytes
  have hr := B.returns
  have hts := atoms_spec (ws := wsX6_beginOf) B.pre
  have hown : s.vm.findClass RX6 = some m.cls := findClass_of_methodNamed B.named
  have hlocks := B.notSynchronized
  have hl := lv_entry ([.ref h, .int (nI k)]) (n := 4) (Nat.le_of_ble_eq_true rfl)
  rw [lg_entry_eq]
  generalize (lg_sl ([.ref h, .int (nI k)]) ++ List.replicate (4 - (lg_sl ([.ref h, .int (nI k)])).length) Slot.unset).toArray = ls at hl ⊢
  have hl : lv_has ls 4 [(0, .ref h), (1, .int (nI k))] := hl
  refine lv_iconst (v := 0) hx hb dX6_beginOf_0 (by decide) ?_
  refine lv_istore_n (lv' := [(2, .int 0), (0, .ref h), (1, .int (nI k))]) hx hb dX6_beginOf_1 rfl hl (by decide) rfl (fun ls hl => ?_)
  refine lv_iconst (v := 0) hx hb dX6_beginOf_2 (by decide) ?_
  refine lv_istore_n (lv' := [(3, .int 0), (2, .int 0), (0, .ref h), (1, .int (nI k))]) hx hb dX6_beginOf_3 rfl hl (by decide) rfl (fun ls hl => ?_)
  have loop_4 : ∀ (n_4 : Nat) (i : Nat) (x : Int32), (i ≤ k) → (k + 1 ≤ i + n_4) → (x = pBeg v i) → ∀ (ls : Array Slot), lv_has ls 4 [(2, .int x), (3, .int (nI i)), (0, .ref h), (1, .int (nI k))] → W p l e (headSpec wsX6_beginOf ({ frames := 1, cells := 0, slots := 0, locals := 22 })).room s m #[.ref h, .int (nI k)] below meth c s.heap [] 0 0 (MQ below (vp_Si (fun r => r = pBeg v k)) #[.ref h, .int (nI k)] s 0 0 (noA)) (F0 m 4 ls []) := by
    intro n_4
    induction n_4 with
    | zero =>
      intro i x hi hn hx2
      exact absurd hn (by omega)
    | succ n_4 ih_4 =>
      intro i x hi hn hx2 ls hl
      refine lv_iload_n hx hb dX6_beginOf_4 rfl (lv_at hl 1 rfl) ?_
      refine lv_iload_n hx hb dX6_beginOf_5 rfl (lv_at hl 3 rfl) ?_
      refine lv_icmp_ge (tgt := 24) hx hb dX6_beginOf_6 (by decide) (fun c_6 => ?_) (fun c_6 => ?_)
      · have hge : k ≤ i := nI_le' (by omega) (by omega) c_6
        refine lv_iload_n hx hb dX6_beginOf_24 rfl (lv_at hl 0 rfl) ?_
        exact W.iret (v := x) hx hb hr (fun tt ht hW => ⟨x, rfl, by rw [hx2, show i = k by omega], ht⟩) (fun q hq => absurd hq List.not_mem_nil) dX6_beginOf_25
      · have hlt : i < k := nI_nle' (by omega) (by omega) c_6
        refine lv_iload_n hx hb dX6_beginOf_9 rfl (lv_at hl 0 rfl) ?_
        refine lv_aload_n hx hb dX6_beginOf_10 rfl (lv_at hl 2 rfl) ?_
        refine lv_iload_n hx hb dX6_beginOf_11 rfl (lv_at hl 1 rfl) ?_
        refine lv_iconst (v := 1) hx hb dX6_beginOf_12 (by decide) ?_
        refine vp_callSi (va_runV (As := [.int (nI i), .int 1]) (rest := [.int x]) ⟨hx, hb, hml, hown, hts⟩ (k_X6_of l D ct h r tl v i 1 (by omega) (by decide)) (cwV 2 hts gX6_beginOf_X6_of rfl rfl rfl (by decide +kernel) ⟨Nat.le_of_ble_eq_true rfl, Nat.le_of_ble_eq_true rfl⟩) ⟨roP.blind, va_recv hK hP (ci := 6) (q0 := 0) rfl rfl, roP.at hP hK hN⟩ rfl rfl hl.1 rfl (lv_room (Nat.le_of_ble_eq_true rfl)) dX6_beginOf_13 ⟨Nat.le_of_ble_eq_true rfl, Nat.le_of_ble_eq_true rfl⟩).run (fun r_13 h_13 => ?_)
        obtain rfl : r_13 = v.1 (4 + i) 1 := h_13
        refine lv_iadd hx hb dX6_beginOf_16 ?_
        refine lv_istore_n (lv' := [(2, .int (x + (v.1 (4 + i) 1))), (3, .int (nI i)), (0, .ref h), (1, .int (nI k))]) hx hb dX6_beginOf_17 rfl hl (by decide) rfl (fun ls hl => ?_)
        refine lv_iinc (v := nI (i + 1)) (lv' := [(3, .int (nI (i + 1))), (2, .int (x + (v.1 (4 + i) 1))), (0, .ref h), (1, .int (nI k))]) hx hb dX6_beginOf_18 hl (k := 1) rfl ((nI_succ i).symm) (by decide) rfl (fun ls hl => ?_)
        refine lv_goto (tgt := 4) hx hb dX6_beginOf_21 (by decide) ?_
        exact ih_4 (i + 1) (x + v.1 (4 + i) 1) (by omega) (by omega) (by rw [hx2]; rfl) ls (lv_sub hl [1, 0, 2, 3] rfl)
  exact loop_4 (k + 1) 0 0 (Nat.zero_le _) (by omega) rfl ls (lv_sub hl [1, 0, 2, 3] rfl)

set_option maxHeartbeats 4000000 in
set_option maxRecDepth 100000 in
theorem k_X6_frameLength (l : Launch) (D : va_G) (ct : Nat → ClassId) (h r : Nat) (tl : List Value) (v : SV) (hn8 : nOf v ≤ 8) (hnI : v.1 0 0 = nI (nOf v)) : Met l yX6_frameLength wsX6_frameLength ({ frames := 2, cells := 0, slots := 0, locals := 45 }) (roP D ct (mR ct h r tl v) [.ref h]) (vp_Si (fun r => r = pLen v)) 0 0 noA := by
  refine Met.ofW (cc := cX6_frameLength) (maxL := 1) (ret := (some .int)) (by decide) rfl ?_
  intro p e s m args below meth c s₁ B hml hv
  obtain ⟨rfl, hP, hK, hN⟩ := hv
  have hx := B.exec
  have hb := B.bytes
  have hr := B.returns
  have hts := atoms_spec (ws := wsX6_frameLength) B.pre
  have hown : s.vm.findClass RX6 = some m.cls := findClass_of_methodNamed B.named
  have hlocks := B.notSynchronized
  have w_1 := hts (.fieldLink RX6 7 "ScannedDigitsModel" "row" "[I") (List.mem_of_getElem? (i := 1) rfl)
  have hiX6 : ∀ w ∈ wsX60, w ∈ wsX6_frameLength := fun w h => (goodIn_r wsX60 [11, 12, 13, 14, 15, 16, 17, 18, 19, 20, 21, 22, 23] (by decide +kernel) (by decide +kernel) w h).1
  have hl := lv_entry ([.ref h]) (n := 1) (Nat.le_of_ble_eq_true rfl)
  rw [lg_entry_eq]
  generalize (lg_sl ([.ref h]) ++ List.replicate (1 - (lg_sl ([.ref h])).length) Slot.unset).toArray = ls at hl ⊢
  have hl : lv_has ls 1 [(0, .ref h)] := hl
  refine lv_aload_n hx hb dX6_frameLength_0 rfl (lv_at hl 0 rfl) ?_
  refine lv_aload_n hx hb dX6_frameLength_1 rfl (lv_at hl 0 rfl) ?_
  refine va_get (D := D) (ci := 6) (v := .ref r) (C := RX6) (T := TX6) (N := 13) hx hb hts hiX6 hown hK hP 0 rfl rfl 0 (by decide) w_1 (fun _ h9 => h9) rfl dX6_frameLength_2 ?_
  refine lv_iconst (v := 0) hx hb dX6_frameLength_5 (by decide) ?_
  refine r_iald hx hb hK hP 1 0 rfl rfl (k := 0) (rfl) (by decide) (by decide) dX6_frameLength_6 ?_
  refine lv_as (y := nI (nOf v)) ((row_0 v (by decide)).trans hnI) ?_
  refine vp_callSi (va_runV (As := [.int (nI (nOf v))]) (rest := []) ⟨hx, hb, hml, hown, hts⟩ (k_X6_beginOf l D ct h r tl v (nOf v) hn8) (cwV 1 hts gX6_frameLength_X6_beginOf rfl rfl rfl (by decide +kernel) ⟨Nat.le_of_ble_eq_true rfl, Nat.le_of_ble_eq_true rfl⟩) ⟨roP.blind, va_recv hK hP (ci := 6) (q0 := 0) rfl rfl, roP.at hP hK hN⟩ rfl rfl hl.1 rfl (lv_room (Nat.le_of_ble_eq_true rfl)) dX6_frameLength_7 ⟨Nat.le_of_ble_eq_true rfl, Nat.le_of_ble_eq_true rfl⟩).run (fun r_7 h_7 => ?_)
  obtain rfl : r_7 = pBeg v (nOf v) := h_7
  exact W.iret (v := (pBeg v (nOf v))) hx hb hr (fun tt ht hW => ⟨(pBeg v (nOf v)), rfl, rfl, ht⟩) (fun q hq => absurd hq List.not_mem_nil) dX6_frameLength_10

