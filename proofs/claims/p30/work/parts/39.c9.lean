set_option maxHeartbeats 4000000 in
set_option maxRecDepth 100000 in
theorem k_X5_digit_e1 (l : Launch) (D : va_G) (ct : Nat → ClassId) (o : Nat → Nat) (ad : Nat → Nat → Nat) (v z : SV) (w : Nat → SV) (n k : Nat) (hn : n < 5) (hk : k ≤ 5) (s0 s1 : SV) (i0 i1 : Int32) (t : Nat) (nd : Int32) (f g : Nat → Int32) (x : Int32) (y1 : Int32) (hnd : ¬ vD v x) : Met l yX5_digit wsX5_digit ({ frames := 2, cells := 0, slots := 0, locals := 43 }) (roPS D ct (stW ct (ad 8) v ++ xR ct o ad z w (nI n) (nI k) s0 s1 i0 i1 (nI t) nd f g) [.ref (o 0), .int x, .int y1]) (vp_Si (fun r => r = -1)) 0 0 noA := by
  refine Met.ofW (cc := cX5_digit) (maxL := 4) (ret := (some .int)) (by decide) rfl ?_
  intro p e s m args below meth c s₁ B hml hv
  obtain ⟨rfl, hZ, hP, hK, hN⟩ := hv
  have hx := B.exec
  have hb := B.bytes
  have hr := B.returns
  have hts := atoms_spec (ws := wsX5_digit) B.pre
  have hown : s.vm.findClass RX5 = some m.cls := findClass_of_methodNamed B.named
  have hlocks := B.notSynchronized
  have hS : va_S noA s.heap s.heap [] := va_S.rf
  obtain ⟨tch, zch, Tch⟩ := hZ.ch
  obtain ⟨tpt, zpt, Tpt⟩ := hZ.pt
  obtain ⟨tle, zle, Tle⟩ := hZ.le
  obtain ⟨tmo, zmo, Tmo⟩ := hZ.mo
  have w_1 := hts (.fieldLink RX5 10 "ScannedDigits" "now" "LScannedDigits$State;") (List.mem_of_getElem? (i := 1) rfl)
  have hiX5 : ∀ w ∈ wsX50, w ∈ wsX5_digit := fun w h => (goodIn_r wsX50 [51, 52, 53, 54, 55] (by decide +kernel) (by decide +kernel) w h).1
  have hl := lv_entry ([.ref (o 0), .int x, .int y1]) (n := 4) (Nat.le_of_ble_eq_true rfl)
  rw [lg_entry_eq]
  generalize (lg_sl ([.ref (o 0), .int x, .int y1]) ++ List.replicate (4 - (lg_sl ([.ref (o 0), .int x, .int y1])).length) Slot.unset).toArray = ls at hl ⊢
  have hl : lv_has ls 4 [(0, .ref (o 0)), (1, .int x), (2, .int y1)] := hl
  refine lv_aload_n hx hb dX5_digit_0 rfl (lv_at hl 0 rfl) ?_
  refine va_get (D := D) (ci := 5) (v := .ref ((ad 8) 0)) (C := RX5) (T := TX5) (N := 5) hx hb hts hiX5 hown hK hP 29 (xw_get (i := 0) rfl) rfl 0 (by decide) w_1 (fun _ h9 => h9) rfl dX5_digit_1 ?_
  refine lv_iload_n hx hb dX5_digit_4 rfl (lv_at hl 1 rfl) ?_
  refine va_csq (va_runV (As := [.int x]) (rest := []) ⟨hx, hb, hml, hown, hts⟩ (k_X3_find_no l D ct (ad 8) v x hnd) (cwV 1 hts gX5_digit_X3_find rfl rfl rfl (by decide +kernel) ⟨Nat.le_of_ble_eq_true rfl, Nat.le_of_ble_eq_true rfl⟩) ⟨roP.blind, va_recv hK (pw_left hP) (ci := 3) (q0 := 0) rfl rfl, roP.at (pw_left hP) hK hN⟩ rfl rfl hl.1 rfl (lv_room (Nat.le_of_ble_eq_true rfl)) dX5_digit_5 ⟨Nat.le_of_ble_eq_true rfl, Nat.le_of_ble_eq_true rfl⟩).run (fun r_5 h_5 => ?_)
  obtain rfl : r_5 = none := h_5
  have hg_5 : va_rf (none) = .null := rfl
  rw [hg_5]
  refine lv_astore_nN (lv' := [(3, .null), (0, .ref (o 0)), (1, .int x), (2, .int y1)]) hx hb dX5_digit_8 rfl hl (by decide) rfl (fun ls hl => ?_)
  refine lv_aload_nN hx hb dX5_digit_9 rfl (lv_at hl 0 rfl) ?_
  refine lv_ifnonnullN hx hb dX5_digit_10 ?_
  refine lv_iconst (v := (-1)) hx hb dX5_digit_13 (by decide) ?_
  exact W.iret (v := (-1)) hx hb hr (fun tt ht hW => ⟨(-1), rfl, rfl, ht⟩) (fun q hq => absurd hq List.not_mem_nil) dX5_digit_14
set_option maxHeartbeats 4000000 in
set_option maxRecDepth 100000 in
theorem k_X5_digit_ok (l : Launch) (D : va_G) (ct : Nat → ClassId) (o : Nat → Nat) (ad : Nat → Nat → Nat) (v z : SV) (w : Nat → SV) (n k : Nat) (hn : n < 5) (hk : k ≤ 5) (s0 s1 : SV) (i0 i1 : Int32) (t : Nat) (nd : Int32) (f g : Nat → Int32) (ok : Inv v) (d : Nat) (hd : d < nOf v) (y : Int32) : Met l yX5_digit wsX5_digit ({ frames := 2, cells := 0, slots := 0, locals := 43 }) (roPS D ct (stW ct (ad 8) v ++ xR ct o ad z w (nI n) (nI k) s0 s1 i0 i1 (nI t) nd f g) [.ref (o 0), .int (nI d), .int y]) (vp_Si (fun r => r = pDgt v d y)) 0 0 noA := by
  refine Met.ofW (cc := cX5_digit) (maxL := 4) (ret := (some .int)) (by decide) rfl ?_
  intro p e s m args below meth c s₁ B hml hv
  obtain ⟨rfl, hZ, hP, hK, hN⟩ := hv
  have hx := B.exec
  have hb := B.bytes
  have hr := B.returns
  have hts := atoms_spec (ws := wsX5_digit) B.pre
  have hown : s.vm.findClass RX5 = some m.cls := findClass_of_methodNamed B.named
  have hlocks := B.notSynchronized
  have hS : va_S noA s.heap s.heap [] := va_S.rf
  obtain ⟨tch, zch, Tch⟩ := hZ.ch
  obtain ⟨tpt, zpt, Tpt⟩ := hZ.pt
  obtain ⟨tle, zle, Tle⟩ := hZ.le
  obtain ⟨tmo, zmo, Tmo⟩ := hZ.mo
  have w_1 := hts (.fieldLink RX5 10 "ScannedDigits" "now" "LScannedDigits$State;") (List.mem_of_getElem? (i := 1) rfl)
  have w_2 := hts (.fieldLink RX5 79 "ScannedDigits$Digit" "pattern" "I") (List.mem_of_getElem? (i := 2) rfl)
  have w_3 := hts (.fieldLink RX5 168 "ScannedDigits$Digit" "width" "I") (List.mem_of_getElem? (i := 3) rfl)
  have w_4 := hts (.fieldLink RX5 68 "ScannedDigits$Digit" "guard" "I") (List.mem_of_getElem? (i := 4) rfl)
  have w_5 := hts (.fieldLink RX5 76 "ScannedDigits$Digit" "brightness" "I") (List.mem_of_getElem? (i := 5) rfl)
  have w_6 := hts (.fieldLink RX5 82 "ScannedDigits$Digit" "group" "I") (List.mem_of_getElem? (i := 6) rfl)
  have w_7 := hts (.fieldLink RX5 102 "ScannedDigits$State" "settings" "[I") (List.mem_of_getElem? (i := 7) rfl)
  have w_8 := hts (.fieldLink RX5 105 "ScannedDigits$Digit" "broken" "I") (List.mem_of_getElem? (i := 8) rfl)
  have w_9 := hts (.fieldLink RX5 183 "ScannedDigits$Digit" "drivenTicks" "I") (List.mem_of_getElem? (i := 9) rfl)
  have hiX5 : ∀ w ∈ wsX50, w ∈ wsX5_digit := fun w h => (goodIn_r wsX50 [51, 52, 53, 54, 55] (by decide +kernel) (by decide +kernel) w h).1
  have hiX0 : ∀ w ∈ wsX00, w ∈ wsX5_digit := fun w h => (goodIn_r wsX00 [56, 57, 58, 59, 60, 61, 62, 63, 64] (by decide +kernel) (by decide +kernel) w h).1
  have hiX3 : ∀ w ∈ wsX30, w ∈ wsX5_digit := fun w h => (goodIn_r wsX30 [65, 66, 67, 68, 69, 70, 71, 72, 73, 74, 75, 76, 77] (by decide +kernel) (by decide +kernel) w h).1
  have hl := lv_entry ([.ref (o 0), .int (nI d), .int y]) (n := 4) (Nat.le_of_ble_eq_true rfl)
  rw [lg_entry_eq]
  generalize (lg_sl ([.ref (o 0), .int (nI d), .int y]) ++ List.replicate (4 - (lg_sl ([.ref (o 0), .int (nI d), .int y])).length) Slot.unset).toArray = ls at hl ⊢
  have hl : lv_has ls 4 [(0, .ref (o 0)), (1, .int (nI d)), (2, .int y)] := hl
  have hd8 : d < 8 := Nat.lt_of_lt_of_le hd ok.n8
  refine lv_aload_n hx hb dX5_digit_0 rfl (lv_at hl 0 rfl) ?_
  refine va_get (D := D) (ci := 5) (v := .ref ((ad 8) 0)) (C := RX5) (T := TX5) (N := 5) hx hb hts hiX5 hown hK hP 29 (xw_get (i := 0) rfl) rfl 0 (by decide) w_1 (fun _ h9 => h9) rfl dX5_digit_1 ?_
  refine lv_iload_n hx hb dX5_digit_4 rfl (lv_at hl 1 rfl) ?_
  refine va_csq (va_runV (As := [.int (nI d)]) (rest := []) ⟨hx, hb, hml, hown, hts⟩ (k_X3_find_ok l D ct (ad 8) v ok d hd) (cwV 1 hts gX5_digit_X3_find rfl rfl rfl (by decide +kernel) ⟨Nat.le_of_ble_eq_true rfl, Nat.le_of_ble_eq_true rfl⟩) ⟨roP.blind, va_recv hK (pw_left hP) (ci := 3) (q0 := 0) rfl rfl, roP.at (pw_left hP) hK hN⟩ rfl rfl hl.1 rfl (lv_room (Nat.le_of_ble_eq_true rfl)) dX5_digit_5 ⟨Nat.le_of_ble_eq_true rfl, Nat.le_of_ble_eq_true rfl⟩).run (fun r_5 h_5 => ?_)
  obtain rfl : r_5 = some ((ad 8) (3 * d + 5)) := h_5
  have hg_5 : va_rf (some ((ad 8) (3 * d + 5))) = .ref ((ad 8) (3 * d + 5)) := rfl
  rw [hg_5]
  refine lv_astore_n (lv' := [(3, .ref ((ad 8) (3 * d + 5))), (0, .ref (o 0)), (1, .int (nI d)), (2, .int y)]) hx hb dX5_digit_8 rfl hl (by decide) rfl (fun ls hl => ?_)
  refine lv_aload_n hx hb dX5_digit_9 rfl (lv_at hl 0 rfl) ?_
  refine lv_ifnonnull (tgt := 15) hx hb dX5_digit_10 (by decide) ?_
  refine lv_iload_n hx hb dX5_digit_15 rfl (lv_at hl 3 rfl) ?_
  by_cases sw_16 : (y).toInt < 0 ∨ 11 < (y).toInt
  · refine lv_tableOut (tgt := 160) hx hb dX5_digit_16 sw_16 (by decide) ?_
    refine lv_bipush (v := (-2)) hx hb dX5_digit_160 (by decide) ?_
    exact W.iret (v := (-2)) hx hb hr (fun tt ht hW => ⟨(-2), rfl, pDgt_out sw_16, ht⟩) (fun q hq => absurd hq List.not_mem_nil) dX5_digit_162
  · have sv_16 : y = 0 ∨ y = 1 ∨ y = 2 ∨ y = 3 ∨ y = 4 ∨ y = 5 ∨ y = 6 ∨ y = 7 ∨ y = 8 ∨ y = 9 ∨ y = 10 ∨ y = 11 := sw_cases_0_11 sw_16
    rcases sv_16 with rfl | rfl | rfl | rfl | rfl | rfl | rfl | rfl | rfl | rfl | rfl | rfl
    · refine lv_tableIn (off := 64) (tgt := 80) hx hb dX5_digit_16 (by decide) (by decide) (by decide) (by decide) ?_
      refine lv_aload_n hx hb dX5_digit_80 rfl (lv_at hl 0 rfl) ?_
      refine va_get (D := D) (ci := 0) (v := .int (v.1 (4 + d) 0)) (C := RX0) (T := TX0) (N := 9) hx hb hts hiX0 hown hK hP (3 * d + 5) (sa_getD (by omega)) rfl 3 (by decide) w_2 (fun _ h9 => h9) rfl dX5_digit_81 ?_
      exact W.iret (v := (v.1 (4 + d) 0)) hx hb hr (fun tt ht hW => ⟨(v.1 (4 + d) 0), rfl, rfl, ht⟩) (fun q hq => absurd hq List.not_mem_nil) dX5_digit_84
    · refine lv_tableIn (off := 69) (tgt := 85) hx hb dX5_digit_16 (by decide) (by decide) (by decide) (by decide) ?_
      refine lv_aload_n hx hb dX5_digit_85 rfl (lv_at hl 0 rfl) ?_
      refine va_get (D := D) (ci := 0) (v := .int (v.1 (4 + d) 1)) (C := RX0) (T := TX0) (N := 9) hx hb hts hiX0 hown hK hP (3 * d + 5) (sa_getD (by omega)) rfl 0 (by decide) w_3 (fun _ h9 => h9) rfl dX5_digit_86 ?_
      exact W.iret (v := (v.1 (4 + d) 1)) hx hb hr (fun tt ht hW => ⟨(v.1 (4 + d) 1), rfl, rfl, ht⟩) (fun q hq => absurd hq List.not_mem_nil) dX5_digit_89
    · refine lv_tableIn (off := 74) (tgt := 90) hx hb dX5_digit_16 (by decide) (by decide) (by decide) (by decide) ?_
      refine lv_aload_n hx hb dX5_digit_90 rfl (lv_at hl 0 rfl) ?_
      refine va_get (D := D) (ci := 0) (v := .int (v.1 (4 + d) 2)) (C := RX0) (T := TX0) (N := 9) hx hb hts hiX0 hown hK hP (3 * d + 5) (sa_getD (by omega)) rfl 1 (by decide) w_4 (fun _ h9 => h9) rfl dX5_digit_91 ?_
      exact W.iret (v := (v.1 (4 + d) 2)) hx hb hr (fun tt ht hW => ⟨(v.1 (4 + d) 2), rfl, rfl, ht⟩) (fun q hq => absurd hq List.not_mem_nil) dX5_digit_94
    · refine lv_tableIn (off := 79) (tgt := 95) hx hb dX5_digit_16 (by decide) (by decide) (by decide) (by decide) ?_
      refine lv_aload_n hx hb dX5_digit_95 rfl (lv_at hl 0 rfl) ?_
      refine va_get (D := D) (ci := 0) (v := .int (v.1 (4 + d) 3)) (C := RX0) (T := TX0) (N := 9) hx hb hts hiX0 hown hK hP (3 * d + 5) (sa_getD (by omega)) rfl 2 (by decide) w_5 (fun _ h9 => h9) rfl dX5_digit_96 ?_
      exact W.iret (v := (v.1 (4 + d) 3)) hx hb hr (fun tt ht hW => ⟨(v.1 (4 + d) 3), rfl, rfl, ht⟩) (fun q hq => absurd hq List.not_mem_nil) dX5_digit_99
    · refine lv_tableIn (off := 84) (tgt := 100) hx hb dX5_digit_16 (by decide) (by decide) (by decide) (by decide) ?_
      refine lv_aload_n hx hb dX5_digit_100 rfl (lv_at hl 0 rfl) ?_
      refine va_get (D := D) (ci := 0) (v := .int (v.1 (4 + d) 4)) (C := RX0) (T := TX0) (N := 9) hx hb hts hiX0 hown hK hP (3 * d + 5) (sa_getD (by omega)) rfl 4 (by decide) w_6 (fun _ h9 => h9) rfl dX5_digit_101 ?_
      exact W.iret (v := (v.1 (4 + d) 4)) hx hb hr (fun tt ht hW => ⟨(v.1 (4 + d) 4), rfl, rfl, ht⟩) (fun q hq => absurd hq List.not_mem_nil) dX5_digit_104
    · refine lv_tableIn (off := 89) (tgt := 105) hx hb dX5_digit_16 (by decide) (by decide) (by decide) (by decide) ?_
      refine lv_aload_n hx hb dX5_digit_105 rfl (lv_at hl 0 rfl) ?_
      refine vp_callSi (va_runV (As := []) (rest := []) ⟨hx, hb, hml, hown, hts⟩ (k_X0_litPart l D ct ((ad 8) (3 * d + 5)) ((ad 8) (3 * d + 6)) ((ad 8) (3 * d + 7)) (v.1 (4 + d)) (v.1 (12 + d)) (v.1 (20 + d)) ) (cwV 0 hts gX5_digit_X0_litPart rfl rfl rfl (by decide +kernel) ⟨Nat.le_of_ble_eq_true rfl, Nat.le_of_ble_eq_true rfl⟩) ⟨roP.blind, va_recv hK (sa_dgP hd8 hP) (ci := 0) (q0 := 0) rfl rfl, roP.at (sa_dgP hd8 hP) hK hN⟩ rfl rfl hl.1 rfl (lv_room (Nat.le_of_ble_eq_true rfl)) dX5_digit_106 ⟨Nat.le_of_ble_eq_true rfl, Nat.le_of_ble_eq_true rfl⟩).run (fun r_106 h_106 => ?_)
      obtain rfl : r_106 = pLP v d := h_106
      exact W.iret (v := (pLP v d)) hx hb hr (fun tt ht hW => ⟨(pLP v d), rfl, rfl, ht⟩) (fun q hq => absurd hq List.not_mem_nil) dX5_digit_109
    · refine lv_tableIn (off := 94) (tgt := 110) hx hb dX5_digit_16 (by decide) (by decide) (by decide) (by decide) ?_
      refine lv_aload_n hx hb dX5_digit_110 rfl (lv_at hl 1 rfl) ?_
      refine va_get (D := D) (ci := 5) (v := .ref ((ad 8) 0)) (C := RX5) (T := TX5) (N := 5) hx hb hts hiX5 hown hK hP 29 (xw_get (i := 0) rfl) rfl 0 (by decide) w_1 (fun _ h9 => h9) rfl dX5_digit_111 ?_
      refine lv_iload_n hx hb dX5_digit_114 rfl (lv_at hl 2 rfl) ?_
      refine vp_callSi (va_runV (As := [.int (nI d)]) (rest := []) ⟨hx, hb, hml, hown, hts⟩ (k_X3_slotStart l D ct (ad 8) v d (by omega)) (cwV 1 hts gX5_digit_X3_slotStart rfl rfl rfl (by decide +kernel) ⟨Nat.le_of_ble_eq_true rfl, Nat.le_of_ble_eq_true rfl⟩) ⟨roP.blind, va_recv hK (pw_left hP) (ci := 3) (q0 := 0) rfl rfl, roP.at (pw_left hP) hK hN⟩ rfl rfl hl.1 rfl (lv_room (Nat.le_of_ble_eq_true rfl)) dX5_digit_115 ⟨Nat.le_of_ble_eq_true rfl, Nat.le_of_ble_eq_true rfl⟩).run (fun r_115 h_115 => ?_)
      obtain rfl : r_115 = pBeg v d := h_115
      exact W.iret (v := (pBeg v d)) hx hb hr (fun tt ht hW => ⟨(pBeg v d), rfl, rfl, ht⟩) (fun q hq => absurd hq List.not_mem_nil) dX5_digit_118
    · refine lv_tableIn (off := 103) (tgt := 119) hx hb dX5_digit_16 (by decide) (by decide) (by decide) (by decide) ?_
      refine lv_aload_n hx hb dX5_digit_119 rfl (lv_at hl 0 rfl) ?_
      refine lv_aload_n hx hb dX5_digit_120 rfl (lv_at hl 1 rfl) ?_
      refine va_get (D := D) (ci := 5) (v := .ref ((ad 8) 0)) (C := RX5) (T := TX5) (N := 5) hx hb hts hiX5 hown hK hP 29 (xw_get (i := 0) rfl) rfl 0 (by decide) w_1 (fun _ h9 => h9) rfl dX5_digit_121 ?_
      refine va_get (D := D) (ci := 3) (v := .ref ((ad 8) 4)) (C := RX3) (T := TX3) (N := 13) hx hb hts hiX3 hown hK hP 0 sa_c0 rfl 4 (by decide) w_7 (fun _ h9 => h9) rfl dX5_digit_124 ?_
      refine lv_iconst (v := 1) hx hb dX5_digit_127 (by decide) ?_
      refine r_iald hx hb hK hP 4 0 sa_c4 rfl (k := 1) (rfl) (by decide) (by decide) dX5_digit_128 ?_
      refine vp_callSi (va_runV (As := [.int ((v.1 3) 1)]) (rest := []) ⟨hx, hb, hml, hown, hts⟩ (k_X0_seen l D ct ((ad 8) (3 * d + 5)) ((ad 8) (3 * d + 6)) ((ad 8) (3 * d + 7)) (v.1 (4 + d)) (v.1 (12 + d)) (v.1 (20 + d)) (v.1 3 1)) (cwV 1 hts gX5_digit_X0_seen rfl rfl rfl (by decide +kernel) ⟨Nat.le_of_ble_eq_true rfl, Nat.le_of_ble_eq_true rfl⟩) ⟨roP.blind, va_recv hK (sa_dgP hd8 hP) (ci := 0) (q0 := 0) rfl rfl, roP.at (sa_dgP hd8 hP) hK hN⟩ rfl rfl hl.1 rfl (lv_room (Nat.le_of_ble_eq_true rfl)) dX5_digit_129 ⟨Nat.le_of_ble_eq_true rfl, Nat.le_of_ble_eq_true rfl⟩).run (fun r_129 h_129 => ?_)
      obtain rfl : r_129 = pSeen (v.1 (12 + d)) (v.1 3 1) 8 := h_129
      exact W.iret (v := (pSeen (v.1 (12 + d)) (v.1 3 1) 8)) hx hb hr (fun tt ht hW => ⟨(pSeen (v.1 (12 + d)) (v.1 3 1) 8), rfl, rfl, ht⟩) (fun q hq => absurd hq List.not_mem_nil) dX5_digit_132
    · refine lv_tableIn (off := 117) (tgt := 133) hx hb dX5_digit_16 (by decide) (by decide) (by decide) (by decide) ?_
      refine lv_aload_n hx hb dX5_digit_133 rfl (lv_at hl 0 rfl) ?_
      refine va_get (D := D) (ci := 0) (v := .int (v.1 (4 + d) 6)) (C := RX0) (T := TX0) (N := 9) hx hb hts hiX0 hown hK hP (3 * d + 5) (sa_getD (by omega)) rfl 6 (by decide) w_8 (fun _ h9 => h9) rfl dX5_digit_134 ?_
      exact W.iret (v := (v.1 (4 + d) 6)) hx hb hr (fun tt ht hW => ⟨(v.1 (4 + d) 6), rfl, rfl, ht⟩) (fun q hq => absurd hq List.not_mem_nil) dX5_digit_137
    · refine lv_tableIn (off := 122) (tgt := 138) hx hb dX5_digit_16 (by decide) (by decide) (by decide) (by decide) ?_
      refine lv_aload_n hx hb dX5_digit_138 rfl (lv_at hl 0 rfl) ?_
      refine vp_callSi (va_runV (As := []) (rest := []) ⟨hx, hb, hml, hown, hts⟩ (k_X0_glowSum l D ct ((ad 8) (3 * d + 5)) ((ad 8) (3 * d + 6)) ((ad 8) (3 * d + 7)) (v.1 (4 + d)) (v.1 (12 + d)) (v.1 (20 + d)) ) (cwV 0 hts gX5_digit_X0_glowSum rfl rfl rfl (by decide +kernel) ⟨Nat.le_of_ble_eq_true rfl, Nat.le_of_ble_eq_true rfl⟩) ⟨roP.blind, va_recv hK (sa_dgP hd8 hP) (ci := 0) (q0 := 0) rfl rfl, roP.at (sa_dgP hd8 hP) hK hN⟩ rfl rfl hl.1 rfl (lv_room (Nat.le_of_ble_eq_true rfl)) dX5_digit_139 ⟨Nat.le_of_ble_eq_true rfl, Nat.le_of_ble_eq_true rfl⟩).run (fun r_139 h_139 => ?_)
      obtain rfl : r_139 = pSum (v.1 (12 + d)) 8 := h_139
      exact W.iret (v := (pSum (v.1 (12 + d)) 8)) hx hb hr (fun tt ht hW => ⟨(pSum (v.1 (12 + d)) 8), rfl, rfl, ht⟩) (fun q hq => absurd hq List.not_mem_nil) dX5_digit_142
    · refine lv_tableIn (off := 127) (tgt := 143) hx hb dX5_digit_16 (by decide) (by decide) (by decide) (by decide) ?_
      refine lv_aload_n hx hb dX5_digit_143 rfl (lv_at hl 0 rfl) ?_
      refine va_get (D := D) (ci := 0) (v := .int (v.1 (4 + d) 0)) (C := RX0) (T := TX0) (N := 9) hx hb hts hiX0 hown hK hP (3 * d + 5) (sa_getD (by omega)) rfl 3 (by decide) w_2 (fun _ h9 => h9) rfl dX5_digit_144 ?_
      refine lv_sipush (v := (-129)) hx hb dX5_digit_147 (by decide) ?_
      refine lv_iand hx hb dX5_digit_150 ?_
      refine lv_as (y := v.1 (4 + d) 0 &&& 127) (and_m129 (ok.dg hd).2.2.2.2.1) ?_
      refine vp_callSi (va_runS (As := [.int (v.1 (4 + d) 0 &&& 127)]) (rest := []) ⟨hx, hb, hml, hown, hts⟩ (k_X5_characterOf l D ct (v.1 (4 + d) 0 &&& 127) (and_ne4 (ok.dg hd).2.2.2.2.1)) (va_cwS 1 hts gX5_digit_X5_characterOf rfl rfl rfl (by decide +kernel) ⟨Nat.le_of_ble_eq_true rfl, Nat.le_of_ble_eq_true rfl⟩) ⟨roPS.blind, roPS.at hZ hS pw_nil hK hN⟩ rfl rfl hl.1 rfl (lv_room (Nat.le_of_ble_eq_true rfl)) dX5_digit_151 ⟨Nat.le_of_ble_eq_true rfl, Nat.le_of_ble_eq_true rfl⟩).run (fun r_151 h_151 => ?_)
      obtain rfl : r_151 = pChr (v.1 (4 + d) 0 &&& 127) := h_151
      exact W.iret (v := (pChr (v.1 (4 + d) 0 &&& 127))) hx hb hr (fun tt ht hW => ⟨(pChr (v.1 (4 + d) 0 &&& 127)), rfl, rfl, ht⟩) (fun q hq => absurd hq List.not_mem_nil) dX5_digit_154
    · refine lv_tableIn (off := 139) (tgt := 155) hx hb dX5_digit_16 (by decide) (by decide) (by decide) (by decide) ?_
      refine lv_aload_n hx hb dX5_digit_155 rfl (lv_at hl 0 rfl) ?_
      refine va_get (D := D) (ci := 0) (v := .int (v.1 (4 + d) 5)) (C := RX0) (T := TX0) (N := 9) hx hb hts hiX0 hown hK hP (3 * d + 5) (sa_getD (by omega)) rfl 5 (by decide) w_9 (fun _ h9 => h9) rfl dX5_digit_156 ?_
      exact W.iret (v := (v.1 (4 + d) 5)) hx hb hr (fun tt ht hW => ⟨(v.1 (4 + d) 5), rfl, rfl, ht⟩) (fun q hq => absurd hq List.not_mem_nil) dX5_digit_159
set_option maxHeartbeats 4000000 in
set_option maxRecDepth 100000 in
theorem k_X5_segment_e1 (l : Launch) (D : va_G) (ct : Nat → ClassId) (o : Nat → Nat) (ad : Nat → Nat → Nat) (v z : SV) (w : Nat → SV) (n k : Nat) (hn : n < 5) (hk : k ≤ 5) (s0 s1 : SV) (i0 i1 : Int32) (t : Nat) (nd : Int32) (f g : Nat → Int32) (x y y2 : Int32) (hnd : ¬ vD v x) : Met l yX5_segment wsX5_segment ({ frames := 2, cells := 0, slots := 0, locals := 43 }) (roP D ct (stW ct (ad 8) v ++ xR ct o ad z w (nI n) (nI k) s0 s1 i0 i1 (nI t) nd f g) [.ref (o 0), .int x, .int y, .int y2]) (vp_Si (fun r => r = -1)) 0 0 noA := by
  refine Met.ofW (cc := cX5_segment) (maxL := 5) (ret := (some .int)) (by decide) rfl ?_
  intro p e s m args below meth c s₁ B hml hv
  obtain ⟨rfl, hP, hK, hN⟩ := hv
  have hx := B.exec
  have hb := B.bytes
  have hr := B.returns
  have hts := atoms_spec (ws := wsX5_segment) B.pre
  have hown : s.vm.findClass RX5 = some m.cls := findClass_of_methodNamed B.named
  have hlocks := B.notSynchronized
  have w_1 := hts (.fieldLink RX5 10 "ScannedDigits" "now" "LScannedDigits$State;") (List.mem_of_getElem? (i := 1) rfl)
  have hiX5 : ∀ w ∈ wsX50, w ∈ wsX5_segment := fun w h => (goodIn_r wsX50 [23, 24, 25, 26, 27] (by decide +kernel) (by decide +kernel) w h).1
  have hl := lv_entry ([.ref (o 0), .int x, .int y, .int y2]) (n := 5) (Nat.le_of_ble_eq_true rfl)
  rw [lg_entry_eq]
  generalize (lg_sl ([.ref (o 0), .int x, .int y, .int y2]) ++ List.replicate (5 - (lg_sl ([.ref (o 0), .int x, .int y, .int y2])).length) Slot.unset).toArray = ls at hl ⊢
  have hl : lv_has ls 5 [(0, .ref (o 0)), (1, .int x), (2, .int y), (3, .int y2)] := hl
  refine lv_aload_n hx hb dX5_segment_0 rfl (lv_at hl 0 rfl) ?_
  refine va_get (D := D) (ci := 5) (v := .ref ((ad 8) 0)) (C := RX5) (T := TX5) (N := 5) hx hb hts hiX5 hown hK hP 29 (xw_get (i := 0) rfl) rfl 0 (by decide) w_1 (fun _ h9 => h9) rfl dX5_segment_1 ?_
  refine lv_iload_n hx hb dX5_segment_4 rfl (lv_at hl 1 rfl) ?_
  refine va_csq (va_runV (As := [.int x]) (rest := []) ⟨hx, hb, hml, hown, hts⟩ (k_X3_find_no l D ct (ad 8) v x hnd) (cwV 1 hts gX5_segment_X3_find rfl rfl rfl (by decide +kernel) ⟨Nat.le_of_ble_eq_true rfl, Nat.le_of_ble_eq_true rfl⟩) ⟨roP.blind, va_recv hK (pw_left hP) (ci := 3) (q0 := 0) rfl rfl, roP.at (pw_left hP) hK hN⟩ rfl rfl hl.1 rfl (lv_room (Nat.le_of_ble_eq_true rfl)) dX5_segment_5 ⟨Nat.le_of_ble_eq_true rfl, Nat.le_of_ble_eq_true rfl⟩).run (fun r_5 h_5 => ?_)
  obtain rfl : r_5 = none := h_5
  have hg_5 : va_rf (none) = .null := rfl
  rw [hg_5]
  refine lv_astoreN (lv' := [(4, .null), (0, .ref (o 0)), (1, .int x), (2, .int y), (3, .int y2)]) hx hb dX5_segment_8 hl (by decide) rfl (fun ls hl => ?_)
  refine lv_aloadN hx hb dX5_segment_10 (lv_at hl 0 rfl) ?_
  refine lv_ifnullN (tgt := 25) hx hb dX5_segment_12 (by decide) ?_
  refine lv_iconst (v := (-1)) hx hb dX5_segment_25 (by decide) ?_
  exact W.iret (v := (-1)) hx hb hr (fun tt ht hW => ⟨(-1), rfl, rfl, ht⟩) (fun q hq => absurd hq List.not_mem_nil) dX5_segment_26
set_option maxHeartbeats 4000000 in
set_option maxRecDepth 100000 in
theorem k_X5_segment_e2 (l : Launch) (D : va_G) (ct : Nat → ClassId) (o : Nat → Nat) (ad : Nat → Nat → Nat) (v z : SV) (w : Nat → SV) (n k : Nat) (hn : n < 5) (hk : k ≤ 5) (s0 s1 : SV) (i0 i1 : Int32) (t : Nat) (nd : Int32) (f g : Nat → Int32) (ok : Inv v) (d : Nat) (hd : d < nOf v) (y y2 : Int32) (hin : pIn y 0 7 = 0) : Met l yX5_segment wsX5_segment ({ frames := 2, cells := 0, slots := 0, locals := 43 }) (roP D ct (stW ct (ad 8) v ++ xR ct o ad z w (nI n) (nI k) s0 s1 i0 i1 (nI t) nd f g) [.ref (o 0), .int (nI d), .int y, .int y2]) (vp_Si (fun r => r = -1)) 0 0 noA := by
  refine Met.ofW (cc := cX5_segment) (maxL := 5) (ret := (some .int)) (by decide) rfl ?_
  intro p e s m args below meth c s₁ B hml hv
  obtain ⟨rfl, hP, hK, hN⟩ := hv
  have hx := B.exec
  have hb := B.bytes
  have hr := B.returns
  have hts := atoms_spec (ws := wsX5_segment) B.pre
  have hown : s.vm.findClass RX5 = some m.cls := findClass_of_methodNamed B.named
  have hlocks := B.notSynchronized
  have w_1 := hts (.fieldLink RX5 10 "ScannedDigits" "now" "LScannedDigits$State;") (List.mem_of_getElem? (i := 1) rfl)
  have hiX5 : ∀ w ∈ wsX50, w ∈ wsX5_segment := fun w h => (goodIn_r wsX50 [23, 24, 25, 26, 27] (by decide +kernel) (by decide +kernel) w h).1
  have hl := lv_entry ([.ref (o 0), .int (nI d), .int y, .int y2]) (n := 5) (Nat.le_of_ble_eq_true rfl)
  rw [lg_entry_eq]
  generalize (lg_sl ([.ref (o 0), .int (nI d), .int y, .int y2]) ++ List.replicate (5 - (lg_sl ([.ref (o 0), .int (nI d), .int y, .int y2])).length) Slot.unset).toArray = ls at hl ⊢
  have hl : lv_has ls 5 [(0, .ref (o 0)), (1, .int (nI d)), (2, .int y), (3, .int y2)] := hl
  have hd8 : d < 8 := Nat.lt_of_lt_of_le hd ok.n8
  refine lv_aload_n hx hb dX5_segment_0 rfl (lv_at hl 0 rfl) ?_
  refine va_get (D := D) (ci := 5) (v := .ref ((ad 8) 0)) (C := RX5) (T := TX5) (N := 5) hx hb hts hiX5 hown hK hP 29 (xw_get (i := 0) rfl) rfl 0 (by decide) w_1 (fun _ h9 => h9) rfl dX5_segment_1 ?_
  refine lv_iload_n hx hb dX5_segment_4 rfl (lv_at hl 1 rfl) ?_
  refine va_csq (va_runV (As := [.int (nI d)]) (rest := []) ⟨hx, hb, hml, hown, hts⟩ (k_X3_find_ok l D ct (ad 8) v ok d hd) (cwV 1 hts gX5_segment_X3_find rfl rfl rfl (by decide +kernel) ⟨Nat.le_of_ble_eq_true rfl, Nat.le_of_ble_eq_true rfl⟩) ⟨roP.blind, va_recv hK (pw_left hP) (ci := 3) (q0 := 0) rfl rfl, roP.at (pw_left hP) hK hN⟩ rfl rfl hl.1 rfl (lv_room (Nat.le_of_ble_eq_true rfl)) dX5_segment_5 ⟨Nat.le_of_ble_eq_true rfl, Nat.le_of_ble_eq_true rfl⟩).run (fun r_5 h_5 => ?_)
  obtain rfl : r_5 = some ((ad 8) (3 * d + 5)) := h_5
  have hg_5 : va_rf (some ((ad 8) (3 * d + 5))) = .ref ((ad 8) (3 * d + 5)) := rfl
  rw [hg_5]
  refine lv_astore (lv' := [(4, .ref ((ad 8) (3 * d + 5))), (0, .ref (o 0)), (1, .int (nI d)), (2, .int y), (3, .int y2)]) hx hb dX5_segment_8 hl (by decide) rfl (fun ls hl => ?_)
  refine lv_aload hx hb dX5_segment_10 (lv_at hl 0 rfl) ?_
  refine lv_ifnull hx hb dX5_segment_12 ?_
  refine lv_iload_n hx hb dX5_segment_15 rfl (lv_at hl 3 rfl) ?_
  refine lv_iconst (v := 0) hx hb dX5_segment_16 (by decide) ?_
  refine lv_bipush (v := 7) hx hb dX5_segment_17 (by decide) ?_
  refine vp_callSi (va_runS (As := [.int y, .int 0, .int 7]) (rest := []) ⟨hx, hb, hml, hown, hts⟩ (k_X5_isWithin l D ct y 0 7) (va_cwS 3 hts gX5_segment_X5_isWithin rfl rfl rfl (by decide +kernel) ⟨Nat.le_of_ble_eq_true rfl, Nat.le_of_ble_eq_true rfl⟩) ⟨roP.blind, roP.at pw_nil hK hN⟩ rfl rfl hl.1 rfl (lv_room (Nat.le_of_ble_eq_true rfl)) dX5_segment_19 ⟨Nat.le_of_ble_eq_true rfl, Nat.le_of_ble_eq_true rfl⟩).run (fun r_19 h_19 => ?_)
  obtain rfl : r_19 = pIn y 0 7 := h_19
  refine lv_if_ne (tgt := 27) hx hb dX5_segment_22 (by decide) (fun c_22 => ?_) (fun c_22 => ?_)
  · exact absurd hin c_22
  · refine lv_iconst (v := (-1)) hx hb dX5_segment_25 (by decide) ?_
    exact W.iret (v := (-1)) hx hb hr (fun tt ht hW => ⟨(-1), rfl, rfl, ht⟩) (fun q hq => absurd hq List.not_mem_nil) dX5_segment_26
set_option maxHeartbeats 4000000 in
set_option maxRecDepth 100000 in
theorem k_X5_segment_ok (l : Launch) (D : va_G) (ct : Nat → ClassId) (o : Nat → Nat) (ad : Nat → Nat → Nat) (v z : SV) (w : Nat → SV) (n k : Nat) (hn : n < 5) (hk : k ≤ 5) (s0 s1 : SV) (i0 i1 : Int32) (t : Nat) (nd : Int32) (f g : Nat → Int32) (ok : Inv v) (d : Nat) (hd : d < nOf v) (j : Nat) (hj : j < 8) (y : Int32) : Met l yX5_segment wsX5_segment ({ frames := 2, cells := 0, slots := 0, locals := 43 }) (roP D ct (stW ct (ad 8) v ++ xR ct o ad z w (nI n) (nI k) s0 s1 i0 i1 (nI t) nd f g) [.ref (o 0), .int (nI d), .int (nI j), .int y]) (vp_Si (fun r => r = pSgm v d j y)) 0 0 noA := by
  refine Met.ofW (cc := cX5_segment) (maxL := 5) (ret := (some .int)) (by decide) rfl ?_
  intro p e s m args below meth c s₁ B hml hv
  obtain ⟨rfl, hP, hK, hN⟩ := hv
  have hx := B.exec
  have hb := B.bytes
  have hr := B.returns
  have hts := atoms_spec (ws := wsX5_segment) B.pre
  have hown : s.vm.findClass RX5 = some m.cls := findClass_of_methodNamed B.named
  have hlocks := B.notSynchronized
  have w_1 := hts (.fieldLink RX5 10 "ScannedDigits" "now" "LScannedDigits$State;") (List.mem_of_getElem? (i := 1) rfl)
  have w_2 := hts (.fieldLink RX5 186 "ScannedDigits$Digit" "glow" "[I") (List.mem_of_getElem? (i := 2) rfl)
  have w_3 := hts (.fieldLink RX5 189 "ScannedDigits$Digit" "use" "[I") (List.mem_of_getElem? (i := 3) rfl)
  have w_4 := hts (.fieldLink RX5 105 "ScannedDigits$Digit" "broken" "I") (List.mem_of_getElem? (i := 4) rfl)
  have w_5 := hts (.fieldLink RX5 102 "ScannedDigits$State" "settings" "[I") (List.mem_of_getElem? (i := 5) rfl)
  have hiX5 : ∀ w ∈ wsX50, w ∈ wsX5_segment := fun w h => (goodIn_r wsX50 [23, 24, 25, 26, 27] (by decide +kernel) (by decide +kernel) w h).1
  have hiX0 : ∀ w ∈ wsX00, w ∈ wsX5_segment := fun w h => (goodIn_r wsX00 [28, 29, 30, 31, 32, 33, 34, 35, 36] (by decide +kernel) (by decide +kernel) w h).1
  have hiX3 : ∀ w ∈ wsX30, w ∈ wsX5_segment := fun w h => (goodIn_r wsX30 [37, 38, 39, 40, 41, 42, 43, 44, 45, 46, 47, 48, 49] (by decide +kernel) (by decide +kernel) w h).1
  have hl := lv_entry ([.ref (o 0), .int (nI d), .int (nI j), .int y]) (n := 5) (Nat.le_of_ble_eq_true rfl)
  rw [lg_entry_eq]
  generalize (lg_sl ([.ref (o 0), .int (nI d), .int (nI j), .int y]) ++ List.replicate (5 - (lg_sl ([.ref (o 0), .int (nI d), .int (nI j), .int y])).length) Slot.unset).toArray = ls at hl ⊢
  have hl : lv_has ls 5 [(0, .ref (o 0)), (1, .int (nI d)), (2, .int (nI j)), (3, .int y)] := hl
  have hd8 : d < 8 := Nat.lt_of_lt_of_le hd ok.n8
  have hin : ¬ pIn (nI j) 0 7 = 0 := pIn_ok (a := 0) (b := 7) rfl rfl (Nat.zero_le _) (by omega) (by decide)
  have hPd : va_P D vwCl (dgA ct (ad 8) v d) _ := sa_dgP hd8 hP
  refine lv_aload_n hx hb dX5_segment_0 rfl (lv_at hl 0 rfl) ?_
  refine va_get (D := D) (ci := 5) (v := .ref ((ad 8) 0)) (C := RX5) (T := TX5) (N := 5) hx hb hts hiX5 hown hK hP 29 (xw_get (i := 0) rfl) rfl 0 (by decide) w_1 (fun _ h9 => h9) rfl dX5_segment_1 ?_
  refine lv_iload_n hx hb dX5_segment_4 rfl (lv_at hl 1 rfl) ?_
  refine va_csq (va_runV (As := [.int (nI d)]) (rest := []) ⟨hx, hb, hml, hown, hts⟩ (k_X3_find_ok l D ct (ad 8) v ok d hd) (cwV 1 hts gX5_segment_X3_find rfl rfl rfl (by decide +kernel) ⟨Nat.le_of_ble_eq_true rfl, Nat.le_of_ble_eq_true rfl⟩) ⟨roP.blind, va_recv hK (pw_left hP) (ci := 3) (q0 := 0) rfl rfl, roP.at (pw_left hP) hK hN⟩ rfl rfl hl.1 rfl (lv_room (Nat.le_of_ble_eq_true rfl)) dX5_segment_5 ⟨Nat.le_of_ble_eq_true rfl, Nat.le_of_ble_eq_true rfl⟩).run (fun r_5 h_5 => ?_)
  obtain rfl : r_5 = some ((ad 8) (3 * d + 5)) := h_5
  have hg_5 : va_rf (some ((ad 8) (3 * d + 5))) = .ref ((ad 8) (3 * d + 5)) := rfl
  rw [hg_5]
  refine lv_astore (lv' := [(4, .ref ((ad 8) (3 * d + 5))), (0, .ref (o 0)), (1, .int (nI d)), (2, .int (nI j)), (3, .int y)]) hx hb dX5_segment_8 hl (by decide) rfl (fun ls hl => ?_)
  refine lv_aload hx hb dX5_segment_10 (lv_at hl 0 rfl) ?_
  refine lv_ifnull hx hb dX5_segment_12 ?_
  refine lv_iload_n hx hb dX5_segment_15 rfl (lv_at hl 3 rfl) ?_
  refine lv_iconst (v := 0) hx hb dX5_segment_16 (by decide) ?_
  refine lv_bipush (v := 7) hx hb dX5_segment_17 (by decide) ?_
  refine vp_callSi (va_runS (As := [.int (nI j), .int 0, .int 7]) (rest := []) ⟨hx, hb, hml, hown, hts⟩ (k_X5_isWithin l D ct (nI j) 0 7) (va_cwS 3 hts gX5_segment_X5_isWithin rfl rfl rfl (by decide +kernel) ⟨Nat.le_of_ble_eq_true rfl, Nat.le_of_ble_eq_true rfl⟩) ⟨roP.blind, roP.at pw_nil hK hN⟩ rfl rfl hl.1 rfl (lv_room (Nat.le_of_ble_eq_true rfl)) dX5_segment_19 ⟨Nat.le_of_ble_eq_true rfl, Nat.le_of_ble_eq_true rfl⟩).run (fun r_19 h_19 => ?_)
  obtain rfl : r_19 = pIn (nI j) 0 7 := h_19
  refine lv_if_ne (tgt := 27) hx hb dX5_segment_22 (by decide) (fun c_22 => ?_) (fun c_22 => ?_)
  · refine lv_iload_n hx hb dX5_segment_27 rfl (lv_at hl 4 rfl) ?_
    by_cases sw_28 : (y).toInt < 0 ∨ 3 < (y).toInt
    · refine lv_tableOut (tgt := 105) hx hb dX5_segment_28 sw_28 (by decide) ?_
      refine lv_bipush (v := (-2)) hx hb dX5_segment_105 (by decide) ?_
      exact W.iret (v := (-2)) hx hb hr (fun tt ht hW => ⟨(-2), rfl, pSgm_out sw_28, ht⟩) (fun q hq => absurd hq List.not_mem_nil) dX5_segment_107
    · have sv_28 : y = 0 ∨ y = 1 ∨ y = 2 ∨ y = 3 := sw_cases_0_3 sw_28
      rcases sv_28 with rfl | rfl | rfl | rfl
      · refine lv_tableIn (off := 32) (tgt := 60) hx hb dX5_segment_28 (by decide) (by decide) (by decide) (by decide) ?_
        refine lv_aload hx hb dX5_segment_60 (lv_at hl 0 rfl) ?_
        refine va_get (D := D) (ci := 0) (v := .ref ((ad 8) (3 * d + 6))) (C := RX0) (T := TX0) (N := 9) hx hb hts hiX0 hown hK hPd 0 rfl rfl 7 (by decide) w_2 (fun _ h9 => h9) rfl dX5_segment_62 ?_
        refine lv_iload_n hx hb dX5_segment_65 rfl (lv_at hl 3 rfl) ?_
        refine r_iald hx hb hK hPd 1 0 rfl rfl (k := j) (rfl) (by omega) (by decide) dX5_segment_66 ?_
        exact W.iret (v := ((v.1 (12 + d)) j)) hx hb hr (fun tt ht hW => ⟨((v.1 (12 + d)) j), rfl, rfl, ht⟩) (fun q hq => absurd hq List.not_mem_nil) dX5_segment_67
      · refine lv_tableIn (off := 40) (tgt := 68) hx hb dX5_segment_28 (by decide) (by decide) (by decide) (by decide) ?_
        refine lv_aload hx hb dX5_segment_68 (lv_at hl 0 rfl) ?_
        refine va_get (D := D) (ci := 0) (v := .ref ((ad 8) (3 * d + 7))) (C := RX0) (T := TX0) (N := 9) hx hb hts hiX0 hown hK hPd 0 rfl rfl 8 (by decide) w_3 (fun _ h9 => h9) rfl dX5_segment_70 ?_
        refine lv_iload_n hx hb dX5_segment_73 rfl (lv_at hl 3 rfl) ?_
        refine r_iald hx hb hK hPd 2 0 rfl rfl (k := j) (rfl) (by omega) (by decide) dX5_segment_74 ?_
        exact W.iret (v := ((v.1 (20 + d)) j)) hx hb hr (fun tt ht hW => ⟨((v.1 (20 + d)) j), rfl, rfl, ht⟩) (fun q hq => absurd hq List.not_mem_nil) dX5_segment_75
      · refine lv_tableIn (off := 48) (tgt := 76) hx hb dX5_segment_28 (by decide) (by decide) (by decide) (by decide) ?_
        refine lv_aload hx hb dX5_segment_76 (lv_at hl 0 rfl) ?_
        refine va_get (D := D) (ci := 0) (v := .int (v.1 (4 + d) 6)) (C := RX0) (T := TX0) (N := 9) hx hb hts hiX0 hown hK hPd 0 rfl rfl 6 (by decide) w_4 (fun _ h9 => h9) rfl dX5_segment_78 ?_
        refine lv_iload_n hx hb dX5_segment_81 rfl (lv_at hl 3 rfl) ?_
        refine lv_ishr hx hb dX5_segment_82 ?_
        refine lv_iconst (v := 1) hx hb dX5_segment_83 (by decide) ?_
        refine lv_iand hx hb dX5_segment_84 ?_
        exact W.iret (v := (((v.1 (4 + d) 6) >>> ((nI j) &&& 31)) &&& 1)) hx hb hr (fun tt ht hW => ⟨(((v.1 (4 + d) 6) >>> ((nI j) &&& 31)) &&& 1), rfl, rfl, ht⟩) (fun q hq => absurd hq List.not_mem_nil) dX5_segment_85
      · refine lv_tableIn (off := 58) (tgt := 86) hx hb dX5_segment_28 (by decide) (by decide) (by decide) (by decide) ?_
        refine lv_aload hx hb dX5_segment_86 (lv_at hl 0 rfl) ?_
        refine lv_aload_n hx hb dX5_segment_88 rfl (lv_at hl 1 rfl) ?_
        refine va_get (D := D) (ci := 5) (v := .ref ((ad 8) 0)) (C := RX5) (T := TX5) (N := 5) hx hb hts hiX5 hown hK hP 29 (xw_get (i := 0) rfl) rfl 0 (by decide) w_1 (fun _ h9 => h9) rfl dX5_segment_89 ?_
        refine va_get (D := D) (ci := 3) (v := .ref ((ad 8) 4)) (C := RX3) (T := TX3) (N := 13) hx hb hts hiX3 hown hK hP 0 sa_c0 rfl 4 (by decide) w_5 (fun _ h9 => h9) rfl dX5_segment_92 ?_
        refine lv_iconst (v := 1) hx hb dX5_segment_95 (by decide) ?_
        refine r_iald hx hb hK hP 4 0 sa_c4 rfl (k := 1) (rfl) (by decide) (by decide) dX5_segment_96 ?_
        refine vp_callSi (va_runV (As := [.int ((v.1 3) 1)]) (rest := []) ⟨hx, hb, hml, hown, hts⟩ (k_X0_seen l D ct ((ad 8) (3 * d + 5)) ((ad 8) (3 * d + 6)) ((ad 8) (3 * d + 7)) (v.1 (4 + d)) (v.1 (12 + d)) (v.1 (20 + d)) (v.1 3 1)) (cwV 1 hts gX5_segment_X0_seen rfl rfl rfl (by decide +kernel) ⟨Nat.le_of_ble_eq_true rfl, Nat.le_of_ble_eq_true rfl⟩) ⟨roP.blind, va_recv hK (sa_dgP hd8 hP) (ci := 0) (q0 := 0) rfl rfl, roP.at (sa_dgP hd8 hP) hK hN⟩ rfl rfl hl.1 rfl (lv_room (Nat.le_of_ble_eq_true rfl)) dX5_segment_97 ⟨Nat.le_of_ble_eq_true rfl, Nat.le_of_ble_eq_true rfl⟩).run (fun r_97 h_97 => ?_)
        obtain rfl : r_97 = pSeen (v.1 (12 + d)) (v.1 3 1) 8 := h_97
        refine lv_iload_n hx hb dX5_segment_100 rfl (lv_at hl 3 rfl) ?_
        refine lv_ishr hx hb dX5_segment_101 ?_
        refine lv_iconst (v := 1) hx hb dX5_segment_102 (by decide) ?_
        refine lv_iand hx hb dX5_segment_103 ?_
        exact W.iret (v := (((pSeen (v.1 (12 + d)) (v.1 3 1) 8) >>> ((nI j) &&& 31)) &&& 1)) hx hb hr (fun tt ht hW => ⟨(((pSeen (v.1 (12 + d)) (v.1 3 1) 8) >>> ((nI j) &&& 31)) &&& 1), rfl, rfl, ht⟩) (fun q hq => absurd hq List.not_mem_nil) dX5_segment_104
  · exact absurd c_22 hin
set_option maxHeartbeats 4000000 in
set_option maxRecDepth 100000 in
theorem k_X5_litIn_e1 (l : Launch) (D : va_G) (ct : Nat → ClassId) (o : Nat → Nat) (ad : Nat → Nat → Nat) (v z : SV) (w : Nat → SV) (n k : Nat) (hn : n < 5) (hk : k ≤ 5) (s0 s1 : SV) (i0 i1 : Int32) (t : Nat) (nd : Int32) (f g : Nat → Int32) (x : Int32) (y1 : Int32) (hnd : ¬ vD v x) : Met l yX5_litIn wsX5_litIn ({ frames := 5, cells := 0, slots := 0, locals := 116 }) (roP D ct (stW ct (ad 8) v ++ xR ct o ad z w (nI n) (nI k) s0 s1 i0 i1 (nI t) nd f g) [.ref (o 0), .int x, .int y1]) (vp_Si (fun r => r = -1)) 0 0 noA := by
  refine Met.ofW (cc := cX5_litIn) (maxL := 3) (ret := (some .int)) (by decide) rfl ?_
  intro p e s m args below meth c s₁ B hml hv
  obtain ⟨rfl, hP, hK, hN⟩ := hv
  have hx := B.exec
  have hb := B.bytes
  have hr := B.returns
  have hts := atoms_spec (ws := wsX5_litIn) B.pre
  have hown : s.vm.findClass RX5 = some m.cls := findClass_of_methodNamed B.named
  have hlocks := B.notSynchronized
  have w_1 := hts (.fieldLink RX5 10 "ScannedDigits" "now" "LScannedDigits$State;") (List.mem_of_getElem? (i := 1) rfl)
  have hiX5 : ∀ w ∈ wsX50, w ∈ wsX5_litIn := fun w h => (goodIn_r wsX50 [125, 126, 127, 128, 129] (by decide +kernel) (by decide +kernel) w h).1
  have hl := lv_entry ([.ref (o 0), .int x, .int y1]) (n := 3) (Nat.le_of_ble_eq_true rfl)
  rw [lg_entry_eq]
  generalize (lg_sl ([.ref (o 0), .int x, .int y1]) ++ List.replicate (3 - (lg_sl ([.ref (o 0), .int x, .int y1])).length) Slot.unset).toArray = ls at hl ⊢
  have hl : lv_has ls 3 [(0, .ref (o 0)), (1, .int x), (2, .int y1)] := hl
  refine lv_aload_n hx hb dX5_litIn_0 rfl (lv_at hl 0 rfl) ?_
  refine va_get (D := D) (ci := 5) (v := .ref ((ad 8) 0)) (C := RX5) (T := TX5) (N := 5) hx hb hts hiX5 hown hK hP 29 (xw_get (i := 0) rfl) rfl 0 (by decide) w_1 (fun _ h9 => h9) rfl dX5_litIn_1 ?_
  refine lv_iload_n hx hb dX5_litIn_4 rfl (lv_at hl 1 rfl) ?_
  refine va_csq (va_runV (As := [.int x]) (rest := []) ⟨hx, hb, hml, hown, hts⟩ (k_X3_find_no l D ct (ad 8) v x hnd) (cwV 1 hts gX5_litIn_X3_find rfl rfl rfl (by decide +kernel) ⟨Nat.le_of_ble_eq_true rfl, Nat.le_of_ble_eq_true rfl⟩) ⟨roP.blind, va_recv hK (pw_left hP) (ci := 3) (q0 := 0) rfl rfl, roP.at (pw_left hP) hK hN⟩ rfl rfl hl.1 rfl (lv_room (Nat.le_of_ble_eq_true rfl)) dX5_litIn_5 ⟨Nat.le_of_ble_eq_true rfl, Nat.le_of_ble_eq_true rfl⟩).run (fun r_5 h_5 => ?_)
  obtain rfl : r_5 = none := h_5
  have hg_5 : va_rf (none) = .null := rfl
  rw [hg_5]
  refine lv_ifnonnullN hx hb dX5_litIn_8 ?_
  refine lv_iconst (v := (-1)) hx hb dX5_litIn_11 (by decide) ?_
  exact W.iret (v := (-1)) hx hb hr (fun tt ht hW => ⟨(-1), rfl, rfl, ht⟩) (fun q hq => absurd hq List.not_mem_nil) dX5_litIn_12
set_option maxHeartbeats 4000000 in
set_option maxRecDepth 100000 in
theorem k_X5_litIn_e2 (l : Launch) (D : va_G) (ct : Nat → ClassId) (o : Nat → Nat) (ad : Nat → Nat → Nat) (v z : SV) (w : Nat → SV) (n k : Nat) (hn : n < 5) (hk : k ≤ 5) (s0 s1 : SV) (i0 i1 : Int32) (t : Nat) (nd : Int32) (f g : Nat → Int32) (ok : Inv v) (d : Nat) (hd : d < nOf v) (y : Int32) (hin : pIn y 0 500 = 0) : Met l yX5_litIn wsX5_litIn ({ frames := 5, cells := 0, slots := 0, locals := 116 }) (roP D ct (stW ct (ad 8) v ++ xR ct o ad z w (nI n) (nI k) s0 s1 i0 i1 (nI t) nd f g) [.ref (o 0), .int (nI d), .int y]) (vp_Si (fun r => r = -2)) 0 0 noA := by
  refine Met.ofW (cc := cX5_litIn) (maxL := 3) (ret := (some .int)) (by decide) rfl ?_
  intro p e s m args below meth c s₁ B hml hv
  obtain ⟨rfl, hP, hK, hN⟩ := hv
  have hx := B.exec
  have hb := B.bytes
  have hr := B.returns
  have hts := atoms_spec (ws := wsX5_litIn) B.pre
  have hown : s.vm.findClass RX5 = some m.cls := findClass_of_methodNamed B.named
  have hlocks := B.notSynchronized
  have w_1 := hts (.fieldLink RX5 10 "ScannedDigits" "now" "LScannedDigits$State;") (List.mem_of_getElem? (i := 1) rfl)
  have hiX5 : ∀ w ∈ wsX50, w ∈ wsX5_litIn := fun w h => (goodIn_r wsX50 [125, 126, 127, 128, 129] (by decide +kernel) (by decide +kernel) w h).1
  have hl := lv_entry ([.ref (o 0), .int (nI d), .int y]) (n := 3) (Nat.le_of_ble_eq_true rfl)
  rw [lg_entry_eq]
  generalize (lg_sl ([.ref (o 0), .int (nI d), .int y]) ++ List.replicate (3 - (lg_sl ([.ref (o 0), .int (nI d), .int y])).length) Slot.unset).toArray = ls at hl ⊢
  have hl : lv_has ls 3 [(0, .ref (o 0)), (1, .int (nI d)), (2, .int y)] := hl
  have hd8 : d < 8 := Nat.lt_of_lt_of_le hd ok.n8
  refine lv_aload_n hx hb dX5_litIn_0 rfl (lv_at hl 0 rfl) ?_
  refine va_get (D := D) (ci := 5) (v := .ref ((ad 8) 0)) (C := RX5) (T := TX5) (N := 5) hx hb hts hiX5 hown hK hP 29 (xw_get (i := 0) rfl) rfl 0 (by decide) w_1 (fun _ h9 => h9) rfl dX5_litIn_1 ?_
  refine lv_iload_n hx hb dX5_litIn_4 rfl (lv_at hl 1 rfl) ?_
  refine va_csq (va_runV (As := [.int (nI d)]) (rest := []) ⟨hx, hb, hml, hown, hts⟩ (k_X3_find_ok l D ct (ad 8) v ok d hd) (cwV 1 hts gX5_litIn_X3_find rfl rfl rfl (by decide +kernel) ⟨Nat.le_of_ble_eq_true rfl, Nat.le_of_ble_eq_true rfl⟩) ⟨roP.blind, va_recv hK (pw_left hP) (ci := 3) (q0 := 0) rfl rfl, roP.at (pw_left hP) hK hN⟩ rfl rfl hl.1 rfl (lv_room (Nat.le_of_ble_eq_true rfl)) dX5_litIn_5 ⟨Nat.le_of_ble_eq_true rfl, Nat.le_of_ble_eq_true rfl⟩).run (fun r_5 h_5 => ?_)
  obtain rfl : r_5 = some ((ad 8) (3 * d + 5)) := h_5
  have hg_5 : va_rf (some ((ad 8) (3 * d + 5))) = .ref ((ad 8) (3 * d + 5)) := rfl
  rw [hg_5]
  refine lv_ifnonnull (tgt := 13) hx hb dX5_litIn_8 (by decide) ?_
  refine lv_iload_n hx hb dX5_litIn_13 rfl (lv_at hl 2 rfl) ?_
  refine lv_iconst (v := 0) hx hb dX5_litIn_14 (by decide) ?_
  refine lv_sipush (v := 500) hx hb dX5_litIn_15 (by decide) ?_
  refine vp_callSi (va_runS (As := [.int y, .int 0, .int 500]) (rest := []) ⟨hx, hb, hml, hown, hts⟩ (k_X5_isWithin l D ct y 0 500) (va_cwS 3 hts gX5_litIn_X5_isWithin rfl rfl rfl (by decide +kernel) ⟨Nat.le_of_ble_eq_true rfl, Nat.le_of_ble_eq_true rfl⟩) ⟨roP.blind, roP.at pw_nil hK hN⟩ rfl rfl hl.1 rfl (lv_room (Nat.le_of_ble_eq_true rfl)) dX5_litIn_18 ⟨Nat.le_of_ble_eq_true rfl, Nat.le_of_ble_eq_true rfl⟩).run (fun r_18 h_18 => ?_)
  obtain rfl : r_18 = pIn y 0 500 := h_18
  refine lv_if_ne (tgt := 27) hx hb dX5_litIn_21 (by decide) (fun c_21 => ?_) (fun c_21 => ?_)
  · exact absurd hin c_21
  · refine lv_bipush (v := (-2)) hx hb dX5_litIn_24 (by decide) ?_
    exact W.iret (v := (-2)) hx hb hr (fun tt ht hW => ⟨(-2), rfl, rfl, ht⟩) (fun q hq => absurd hq List.not_mem_nil) dX5_litIn_26
set_option maxHeartbeats 4000000 in
set_option maxRecDepth 100000 in
theorem k_X5_litIn_ok (l : Launch) (D : va_G) (ct : Nat → ClassId) (sz : Nat) (o : Nat → Nat) (ad : Nat → Nat → Nat) (v z : SV) (w : Nat → SV) (n k : Nat) (hn : n < 5) (hk : k ≤ 5) (s0 s1 : SV) (i0 i1 : Int32) (t : Nat) (nd : Int32) (f g : Nat → Int32) (ok : Inv v) (d : Nat) (hd : d < nOf v) (N : Nat) (h5 : N ≤ 500) : Met l yX5_litIn wsX5_litIn ({ frames := 5, cells := 0, slots := 0, locals := 116 }) (muP D ct (stW ct (ad 8) v ++ xR ct o ad z w (nI n) (nI k) s0 s1 i0 i1 (nI t) nd f g) sz [.ref (o 0), .int (nI d), .int (nI N)]) (muI D ct (stW ct (ad 8) v ++ xR ct o ad z w (nI n) (nI k) s0 s1 i0 i1 (nI t) nd f g) (stW ct (ad 8) v ++ xR ct o ad (pTks v N) w (nI n) (nI k) s0 s1 i0 i1 (nI t) nd f g) sz (fun r => r = pLit (pTks v N) d)) 0 0 (va_A (stW ct (ad 8) v ++ xR ct o ad z w (nI n) (nI k) s0 s1 i0 i1 (nI t) nd f g) sz) := by
  refine Met.ofW (cc := cX5_litIn) (maxL := 3) (ret := (some .int)) (by decide) rfl ?_
  intro p e s m args below meth c s₁ B hml hv
  obtain ⟨rfl, hsz, hP, hK, hN, hD0⟩ := hv
  have hx := B.exec
  have hb := B.bytes
  have hr := B.returns
  have hts := atoms_spec (ws := wsX5_litIn) B.pre
  have hown : s.vm.findClass RX5 = some m.cls := findClass_of_methodNamed B.named
  have hlocks := B.notSynchronized
  subst hsz
  have hD := hD0.self (sz := s.heap.size)
  generalize hAe : va_A (stW ct (ad 8) v ++ xR ct o ad z w (nI n) (nI k) s0 s1 i0 i1 (nI t) nd f g) s.heap.size = A at hD
  have hA : ∀ q : Nat, s.heap.size ≤ q → A q := fun q h => by rw [← hAe]; exact Or.inr h
  have hS : va_S A s.heap s.heap [] := va_S.rf
  have w_1 := hts (.fieldLink RX5 10 "ScannedDigits" "now" "LScannedDigits$State;") (List.mem_of_getElem? (i := 1) rfl)
  have w_2 := hts (.fieldLink RX5 16 "ScannedDigits" "future" "LScannedDigits$State;") (List.mem_of_getElem? (i := 2) rfl)
  have hiX5 : ∀ w ∈ wsX50, w ∈ wsX5_litIn := fun w h => (goodIn_r wsX50 [125, 126, 127, 128, 129] (by decide +kernel) (by decide +kernel) w h).1
  have hl := lv_entry ([.ref (o 0), .int (nI d), .int (nI N)]) (n := 3) (Nat.le_of_ble_eq_true rfl)
  rw [lg_entry_eq]
  generalize (lg_sl ([.ref (o 0), .int (nI d), .int (nI N)]) ++ List.replicate (3 - (lg_sl ([.ref (o 0), .int (nI d), .int (nI N)])).length) Slot.unset).toArray = ls at hl ⊢
  have hl : lv_has ls 3 [(0, .ref (o 0)), (1, .int (nI d)), (2, .int (nI N))] := hl
  have hd8 : d < 8 := Nat.lt_of_lt_of_le hd ok.n8
  have hin : ¬ pIn (nI N) 0 500 = 0 := pIn_ok (a := 0) (b := 500) rfl rfl (Nat.zero_le _) h5 (by decide)
  have okN := Inv_tks ok N
  have hsl := okN.slot8
  refine lv_aload_n hx hb dX5_litIn_0 rfl (lv_at hl 0 rfl) ?_
  refine va_get (D := D) (ci := 5) (v := .ref ((ad 8) 0)) (C := RX5) (T := TX5) (N := 5) hx hb hts hiX5 hown hK hP 29 (xw_get (i := 0) rfl) rfl 0 (by decide) w_1 (fun _ h9 => h9) rfl dX5_litIn_1 ?_
  refine lv_iload_n hx hb dX5_litIn_4 rfl (lv_at hl 1 rfl) ?_
  refine va_csq (va_runV (As := [.int (nI d)]) (rest := []) ⟨hx, hb, hml, hown, hts⟩ (k_X3_find_ok l D ct (ad 8) v ok d hd) (cwV 1 hts gX5_litIn_X3_find rfl rfl rfl (by decide +kernel) ⟨Nat.le_of_ble_eq_true rfl, Nat.le_of_ble_eq_true rfl⟩) ⟨roP.blind, va_recv hK (pw_left hP) (ci := 3) (q0 := 0) rfl rfl, roP.at (pw_left hP) hK hN⟩ rfl rfl hl.1 rfl (lv_room (Nat.le_of_ble_eq_true rfl)) dX5_litIn_5 ⟨Nat.le_of_ble_eq_true rfl, Nat.le_of_ble_eq_true rfl⟩).run (fun r_5 h_5 => ?_)
  obtain rfl : r_5 = some ((ad 8) (3 * d + 5)) := h_5
  have hg_5 : va_rf (some ((ad 8) (3 * d + 5))) = .ref ((ad 8) (3 * d + 5)) := rfl
  rw [hg_5]
  refine lv_ifnonnull (tgt := 13) hx hb dX5_litIn_8 (by decide) ?_
  refine lv_iload_n hx hb dX5_litIn_13 rfl (lv_at hl 2 rfl) ?_
  refine lv_iconst (v := 0) hx hb dX5_litIn_14 (by decide) ?_
  refine lv_sipush (v := 500) hx hb dX5_litIn_15 (by decide) ?_
  refine vp_callSi (va_runS (As := [.int (nI N), .int 0, .int 500]) (rest := []) ⟨hx, hb, hml, hown, hts⟩ (k_X5_isWithin l D ct (nI N) 0 500) (va_cwS 3 hts gX5_litIn_X5_isWithin rfl rfl rfl (by decide +kernel) ⟨Nat.le_of_ble_eq_true rfl, Nat.le_of_ble_eq_true rfl⟩) ⟨roP.blind, roP.at pw_nil hK hN⟩ rfl rfl hl.1 rfl (lv_room (Nat.le_of_ble_eq_true rfl)) dX5_litIn_18 ⟨Nat.le_of_ble_eq_true rfl, Nat.le_of_ble_eq_true rfl⟩).run (fun r_18 h_18 => ?_)
  obtain rfl : r_18 = pIn (nI N) 0 500 := h_18
  refine lv_if_ne (tgt := 27) hx hb dX5_litIn_21 (by decide) (fun c_21 => ?_) (fun c_21 => ?_)
  · refine lv_aload_n hx hb dX5_litIn_27 rfl (lv_at hl 0 rfl) ?_
    refine va_get (D := D) (ci := 5) (v := .ref (ad 5 0)) (C := RX5) (T := TX5) (N := 5) hx hb hts hiX5 hown hK hP 29 (xw_get (i := 0) rfl) rfl 1 (by decide) w_2 (fun _ h9 => h9) rfl dX5_litIn_28 ?_
    refine lv_aload_n hx hb dX5_litIn_31 rfl (lv_at hl 0 rfl) ?_
    refine va_get (D := D) (ci := 5) (v := .ref ((ad 8) 0)) (C := RX5) (T := TX5) (N := 5) hx hb hts hiX5 hown hK hP 29 (xw_get (i := 0) rfl) rfl 0 (by decide) w_1 (fun _ h9 => h9) rfl dX5_litIn_32 ?_
    have hFc_35 := w_free (wc := stW ct (ad 5) z ++ stW ct (ad 8) v) hD (xw_c) hS hA
    refine va_callv (va_runV (As := [.ref ((ad 8) 0)]) (rest := []) ⟨hx, hb, hml, hown, hts⟩ (k_X3_copyFrom l D ct _ (ad 5) (ad 8) z v) (cwV 1 hts gX5_litIn_X3_copyFrom rfl rfl rfl (by decide +kernel) ⟨Nat.le_of_ble_eq_true rfl, Nat.le_of_ble_eq_true rfl⟩) ⟨muP.blind, va_recv hK (pw_cut xw_c hP) (ci := 3) (q0 := 0) rfl rfl, muP.at (pw_cut xw_c hP) (dw_cut xw_c hD) hK hN⟩ rfl rfl hl.1 rfl (lv_room (Nat.le_of_ble_eq_true rfl)) dX5_litIn_35 ⟨Nat.le_of_ble_eq_true rfl, Nat.le_of_ble_eq_true rfl⟩) hS (fun q _ h => hFc_35 q h) hFc_35 (fun uu tt H1 locs ht hvm hw hB hz1 hk1 hS => ?_)
    obtain ⟨hP, hD⟩ := muE.join (ws' := stW ct (ad 8) v ++ xR ct o ad v w (nI n) (nI k) s0 s1 i0 i1 (nI t) nd f g) hP hD (xw_c) (xw_c) hk1 hFc_35 ht hB
    generalize H1 = H at hP hS ⊢
    refine lv_aload_n hx hb dX5_litIn_38 rfl (lv_at hl 0 rfl) ?_
    refine va_get (D := D) (ci := 5) (v := .ref (ad 5 0)) (C := RX5) (T := TX5) (N := 5) hx hb hts hiX5 hown hK hP 29 (xw_get (i := 0) rfl) rfl 1 (by decide) w_2 (fun _ h9 => h9) rfl dX5_litIn_39 ?_
    refine lv_iload_n hx hb dX5_litIn_42 rfl (lv_at hl 2 rfl) ?_
    have hFc_43 := w_free (wc := stW ct (ad 5) v) hD (xw_f) hS hA
    refine va_calli (va_runV (As := [.int (nI N)]) (rest := []) ⟨hx, hb, hml, hown, hts⟩ (k_X3_runTicks l D ct _ (ad 5) v ok N (by omega)) (cwV 1 hts gX5_litIn_X3_runTicks rfl rfl rfl (by decide +kernel) ⟨Nat.le_of_ble_eq_true rfl, Nat.le_of_ble_eq_true rfl⟩) ⟨muP.blind, va_recv hK (pw_cut xw_f hP) (ci := 3) (q0 := 0) rfl rfl, muP.at (pw_cut xw_f hP) (dw_cut xw_f hD) hK hN⟩ rfl rfl hl.1 rfl (lv_room (Nat.le_of_ble_eq_true rfl)) dX5_litIn_43 ⟨Nat.le_of_ble_eq_true rfl, Nat.le_of_ble_eq_true rfl⟩) hS (fun q _ h => hFc_43 q h) hFc_43 (fun r_43 uu tt H1 locs ht hvm h_43 hB hz1 hk1 hS => ?_)
    obtain ⟨hP, hD⟩ := muE.join (ws' := stW ct (ad 8) v ++ xR ct o ad (pTks v N) w (nI n) (nI k) s0 s1 i0 i1 (nI t) nd f g) hP hD (xw_f) (xw_f) hk1 hFc_43 ht hB
    generalize H1 = H at hP hS ⊢
    refine lv_pop hx hb dX5_litIn_46 rfl ?_
    refine lv_aload_n hx hb dX5_litIn_47 rfl (lv_at hl 0 rfl) ?_
    refine va_get (D := D) (ci := 5) (v := .ref (ad 5 0)) (C := RX5) (T := TX5) (N := 5) hx hb hts hiX5 hown hK hP 29 (xw_get (i := 0) rfl) rfl 1 (by decide) w_2 (fun _ h9 => h9) rfl dX5_litIn_48 ?_
    refine vp_callSi (va_runV (As := []) (rest := []) ⟨hx, hb, hml, hown, hts⟩ (k_X3_slotNow l D ct (ad 5) (pTks v N) okN) (cwV 0 hts gX5_litIn_X3_slotNow rfl rfl rfl (by decide +kernel) ⟨Nat.le_of_ble_eq_true rfl, Nat.le_of_ble_eq_true rfl⟩) ⟨roP.blind, va_recv hK (pw_cut xw_f hP) (ci := 3) (q0 := 0) rfl rfl, roP.at (pw_cut xw_f hP) hK hN⟩ rfl rfl hl.1 rfl (lv_room (Nat.le_of_ble_eq_true rfl)) dX5_litIn_51 ⟨Nat.le_of_ble_eq_true rfl, Nat.le_of_ble_eq_true rfl⟩).run (fun r_51 h_51 => ?_)
    obtain rfl : r_51 = nI (pSlot (pTks v N)) := h_51
    refine lv_iload_n hx hb dX5_litIn_54 rfl (lv_at hl 1 rfl) ?_
    refine lv_icmp_ne (tgt := 68) hx hb dX5_litIn_55 (by decide) (fun c_55 => ?_) (fun c_55 => ?_)
    · have hne : ¬ pSlot (pTks v N) = d := fun q => c_55 (congrArg nI q)
      refine lv_iconst (v := 0) hx hb dX5_litIn_68 (by decide) ?_
      have hP9 : va_P D vwCl (stW ct (ad 8) v ++ xR ct o ad (pTks v N) w (nI n) (nI k) s0 s1 i0 i1 (nI t) nd f g) _ := hP
      have hD9 : va_D A (stW ct (ad 8) v ++ xR ct o ad (pTks v N) w (nI n) (nI k) s0 s1 i0 i1 (nI t) nd f g) := hD
      subst hAe
      exact W.iret (v := 0) hx hb hr (fun tt ht hW => ⟨⟨0, (), rfl, pLit_no hne, muE.of (ct := ct) hP9 hD9 ht⟩, hS.F ht⟩) hS.2.2 dX5_litIn_69
    · have heq : pSlot (pTks v N) = d := (nI_eq (by omega) (by omega)).mp c_55
      refine lv_aload_n hx hb dX5_litIn_58 rfl (lv_at hl 0 rfl) ?_
      refine va_get (D := D) (ci := 5) (v := .ref (ad 5 0)) (C := RX5) (T := TX5) (N := 5) hx hb hts hiX5 hown hK hP 29 (xw_get (i := 0) rfl) rfl 1 (by decide) w_2 (fun _ h9 => h9) rfl dX5_litIn_59 ?_
      refine vp_callSi (va_runV (As := []) (rest := []) ⟨hx, hb, hml, hown, hts⟩ (k_X3_litNext l D ct (ad 5) (pTks v N) okN) (cwV 0 hts gX5_litIn_X3_litNext rfl rfl rfl (by decide +kernel) ⟨Nat.le_of_ble_eq_true rfl, Nat.le_of_ble_eq_true rfl⟩) ⟨roP.blind, va_recv hK (pw_cut xw_f hP) (ci := 3) (q0 := 0) rfl rfl, roP.at (pw_cut xw_f hP) hK hN⟩ rfl rfl hl.1 rfl (lv_room (Nat.le_of_ble_eq_true rfl)) dX5_litIn_62 ⟨Nat.le_of_ble_eq_true rfl, Nat.le_of_ble_eq_true rfl⟩).run (fun r_62 h_62 => ?_)
      obtain rfl : r_62 = pLit (pTks v N) (pSlot (pTks v N)) := h_62
      refine lv_goto (tgt := 69) hx hb dX5_litIn_65 (by decide) ?_
      have hP9 : va_P D vwCl (stW ct (ad 8) v ++ xR ct o ad (pTks v N) w (nI n) (nI k) s0 s1 i0 i1 (nI t) nd f g) _ := hP
      have hD9 : va_D A (stW ct (ad 8) v ++ xR ct o ad (pTks v N) w (nI n) (nI k) s0 s1 i0 i1 (nI t) nd f g) := hD
      subst hAe
      exact W.iret (v := (pLit (pTks v N) (pSlot (pTks v N)))) hx hb hr (fun tt ht hW => ⟨⟨(pLit (pTks v N) (pSlot (pTks v N))), (), rfl, by rw [heq], muE.of (ct := ct) hP9 hD9 ht⟩, hS.F ht⟩) hS.2.2 dX5_litIn_69
  · exact absurd c_21 hin
set_option maxHeartbeats 4000000 in
set_option maxRecDepth 100000 in
theorem k_X5_steadyGlow_e1 (l : Launch) (D : va_G) (ct : Nat → ClassId) (o : Nat → Nat) (ad : Nat → Nat → Nat) (v z : SV) (w : Nat → SV) (n k : Nat) (hn : n < 5) (hk : k ≤ 5) (s0 s1 : SV) (i0 i1 : Int32) (t : Nat) (nd : Int32) (f g : Nat → Int32) (x : Int32) (hnd : ¬ vD v x) : Met l yX5_steadyGlow wsX5_steadyGlow ({ frames := 3, cells := 0, slots := 0, locals := 72 }) (roP D ct (stW ct (ad 8) v ++ xR ct o ad z w (nI n) (nI k) s0 s1 i0 i1 (nI t) nd f g) [.ref (o 0), .int x]) (vp_Si (fun r => r = -1)) 0 0 noA := by
  refine Met.ofW (cc := cX5_steadyGlow) (maxL := 4) (ret := (some .int)) (by decide) rfl ?_
  intro p e s m args below meth c s₁ B hml hv
  obtain ⟨rfl, hP, hK, hN⟩ := hv
  have hx := B.exec
  have hb := B.bytes
  have hr := B.returns
  have hts := atoms_spec (ws := wsX5_steadyGlow) B.pre
  have hown : s.vm.findClass RX5 = some m.cls := findClass_of_methodNamed B.named
  have hlocks := B.notSynchronized
  have w_1 := hts (.fieldLink RX5 10 "ScannedDigits" "now" "LScannedDigits$State;") (List.mem_of_getElem? (i := 1) rfl)
  have hiX5 : ∀ w ∈ wsX50, w ∈ wsX5_steadyGlow := fun w h => (goodIn_r wsX50 [50, 51, 52, 53, 54] (by decide +kernel) (by decide +kernel) w h).1
  have hl := lv_entry ([.ref (o 0), .int x]) (n := 4) (Nat.le_of_ble_eq_true rfl)
  rw [lg_entry_eq]
  generalize (lg_sl ([.ref (o 0), .int x]) ++ List.replicate (4 - (lg_sl ([.ref (o 0), .int x])).length) Slot.unset).toArray = ls at hl ⊢
  have hl : lv_has ls 4 [(0, .ref (o 0)), (1, .int x)] := hl
  refine lv_aload_n hx hb dX5_steadyGlow_0 rfl (lv_at hl 0 rfl) ?_
  refine va_get (D := D) (ci := 5) (v := .ref ((ad 8) 0)) (C := RX5) (T := TX5) (N := 5) hx hb hts hiX5 hown hK hP 29 (xw_get (i := 0) rfl) rfl 0 (by decide) w_1 (fun _ h9 => h9) rfl dX5_steadyGlow_1 ?_
  refine lv_iload_n hx hb dX5_steadyGlow_4 rfl (lv_at hl 1 rfl) ?_
  refine va_csq (va_runV (As := [.int x]) (rest := []) ⟨hx, hb, hml, hown, hts⟩ (k_X3_find_no l D ct (ad 8) v x hnd) (cwV 1 hts gX5_steadyGlow_X3_find rfl rfl rfl (by decide +kernel) ⟨Nat.le_of_ble_eq_true rfl, Nat.le_of_ble_eq_true rfl⟩) ⟨roP.blind, va_recv hK (pw_left hP) (ci := 3) (q0 := 0) rfl rfl, roP.at (pw_left hP) hK hN⟩ rfl rfl hl.1 rfl (lv_room (Nat.le_of_ble_eq_true rfl)) dX5_steadyGlow_5 ⟨Nat.le_of_ble_eq_true rfl, Nat.le_of_ble_eq_true rfl⟩).run (fun r_5 h_5 => ?_)
  obtain rfl : r_5 = none := h_5
  have hg_5 : va_rf (none) = .null := rfl
  rw [hg_5]
  refine lv_astore_nN (lv' := [(2, .null), (0, .ref (o 0)), (1, .int x)]) hx hb dX5_steadyGlow_8 rfl hl (by decide) rfl (fun ls hl => ?_)
  refine lv_aload_nN hx hb dX5_steadyGlow_9 rfl (lv_at hl 0 rfl) ?_
  refine lv_ifnonnullN hx hb dX5_steadyGlow_10 ?_
  refine lv_iconst (v := (-1)) hx hb dX5_steadyGlow_13 (by decide) ?_
  exact W.iret (v := (-1)) hx hb hr (fun tt ht hW => ⟨(-1), rfl, rfl, ht⟩) (fun q hq => absurd hq List.not_mem_nil) dX5_steadyGlow_14
set_option maxHeartbeats 4000000 in
set_option maxRecDepth 100000 in
theorem k_X5_steadyGlow_ok (l : Launch) (D : va_G) (ct : Nat → ClassId) (o : Nat → Nat) (ad : Nat → Nat → Nat) (v z : SV) (w : Nat → SV) (n k : Nat) (hn : n < 5) (hk : k ≤ 5) (s0 s1 : SV) (i0 i1 : Int32) (t : Nat) (nd : Int32) (f g : Nat → Int32) (ok : Inv v) (d : Nat) (hd : d < nOf v) (L M q : Nat) (hLP : pLP v d = nI L) (hMP : pLen v - pLP v d = nI M) (hqd : v.1 3 0 = nI q) (hL2 : L < 2 ^ 30) (hM2 : M < 2 ^ 30) (hq : 0 < q) (hq2 : q < 2 ^ 31) : Met l yX5_steadyGlow wsX5_steadyGlow ({ frames := 3, cells := 0, slots := 0, locals := 72 }) (roP D ct (stW ct (ad 8) v ++ xR ct o ad z w (nI n) (nI k) s0 s1 i0 i1 (nI t) nd f g) [.ref (o 0), .int (nI d)]) (vp_Si (fun r => r = if L = 0 then 0 else nI (pSt L M q))) 0 0 noA := by
  refine Met.ofW (cc := cX5_steadyGlow) (maxL := 4) (ret := (some .int)) (by decide) rfl ?_
  intro p e s m args below meth c s₁ B hml hv
  obtain ⟨rfl, hP, hK, hN⟩ := hv
  have hx := B.exec
  have hb := B.bytes
  have hr := B.returns
  have hts := atoms_spec (ws := wsX5_steadyGlow) B.pre
  have hown : s.vm.findClass RX5 = some m.cls := findClass_of_methodNamed B.named
  have hlocks := B.notSynchronized
  have w_1 := hts (.fieldLink RX5 10 "ScannedDigits" "now" "LScannedDigits$State;") (List.mem_of_getElem? (i := 1) rfl)
  have w_2 := hts (.fieldLink RX5 102 "ScannedDigits$State" "settings" "[I") (List.mem_of_getElem? (i := 2) rfl)
  have hiX5 : ∀ w ∈ wsX50, w ∈ wsX5_steadyGlow := fun w h => (goodIn_r wsX50 [50, 51, 52, 53, 54] (by decide +kernel) (by decide +kernel) w h).1
  have hiX3 : ∀ w ∈ wsX30, w ∈ wsX5_steadyGlow := fun w h => (goodIn_r wsX30 [55, 56, 57, 58, 59, 60, 61, 62, 63, 64, 65, 66, 67] (by decide +kernel) (by decide +kernel) w h).1
  have hl := lv_entry ([.ref (o 0), .int (nI d)]) (n := 4) (Nat.le_of_ble_eq_true rfl)
  rw [lg_entry_eq]
  generalize (lg_sl ([.ref (o 0), .int (nI d)]) ++ List.replicate (4 - (lg_sl ([.ref (o 0), .int (nI d)])).length) Slot.unset).toArray = ls at hl ⊢
  have hl : lv_has ls 4 [(0, .ref (o 0)), (1, .int (nI d))] := hl
  have hd8 : d < 8 := Nat.lt_of_lt_of_le hd ok.n8
  refine lv_aload_n hx hb dX5_steadyGlow_0 rfl (lv_at hl 0 rfl) ?_
  refine va_get (D := D) (ci := 5) (v := .ref ((ad 8) 0)) (C := RX5) (T := TX5) (N := 5) hx hb hts hiX5 hown hK hP 29 (xw_get (i := 0) rfl) rfl 0 (by decide) w_1 (fun _ h9 => h9) rfl dX5_steadyGlow_1 ?_
  refine lv_iload_n hx hb dX5_steadyGlow_4 rfl (lv_at hl 1 rfl) ?_
  refine va_csq (va_runV (As := [.int (nI d)]) (rest := []) ⟨hx, hb, hml, hown, hts⟩ (k_X3_find_ok l D ct (ad 8) v ok d hd) (cwV 1 hts gX5_steadyGlow_X3_find rfl rfl rfl (by decide +kernel) ⟨Nat.le_of_ble_eq_true rfl, Nat.le_of_ble_eq_true rfl⟩) ⟨roP.blind, va_recv hK (pw_left hP) (ci := 3) (q0 := 0) rfl rfl, roP.at (pw_left hP) hK hN⟩ rfl rfl hl.1 rfl (lv_room (Nat.le_of_ble_eq_true rfl)) dX5_steadyGlow_5 ⟨Nat.le_of_ble_eq_true rfl, Nat.le_of_ble_eq_true rfl⟩).run (fun r_5 h_5 => ?_)
  obtain rfl : r_5 = some ((ad 8) (3 * d + 5)) := h_5
  have hg_5 : va_rf (some ((ad 8) (3 * d + 5))) = .ref ((ad 8) (3 * d + 5)) := rfl
  rw [hg_5]
  refine lv_astore_n (lv' := [(2, .ref ((ad 8) (3 * d + 5))), (0, .ref (o 0)), (1, .int (nI d))]) hx hb dX5_steadyGlow_8 rfl hl (by decide) rfl (fun ls hl => ?_)
  refine lv_aload_n hx hb dX5_steadyGlow_9 rfl (lv_at hl 0 rfl) ?_
  refine lv_ifnonnull (tgt := 15) hx hb dX5_steadyGlow_10 (by decide) ?_
  refine lv_aload_n hx hb dX5_steadyGlow_15 rfl (lv_at hl 0 rfl) ?_
  refine vp_callSi (va_runV (As := []) (rest := []) ⟨hx, hb, hml, hown, hts⟩ (k_X0_litPart l D ct ((ad 8) (3 * d + 5)) ((ad 8) (3 * d + 6)) ((ad 8) (3 * d + 7)) (v.1 (4 + d)) (v.1 (12 + d)) (v.1 (20 + d)) ) (cwV 0 hts gX5_steadyGlow_X0_litPart rfl rfl rfl (by decide +kernel) ⟨Nat.le_of_ble_eq_true rfl, Nat.le_of_ble_eq_true rfl⟩) ⟨roP.blind, va_recv hK (sa_dgP hd8 hP) (ci := 0) (q0 := 0) rfl rfl, roP.at (sa_dgP hd8 hP) hK hN⟩ rfl rfl hl.1 rfl (lv_room (Nat.le_of_ble_eq_true rfl)) dX5_steadyGlow_16 ⟨Nat.le_of_ble_eq_true rfl, Nat.le_of_ble_eq_true rfl⟩).run (fun r_16 h_16 => ?_)
  obtain rfl : r_16 = pLP v d := h_16
  refine lv_as (y := nI L) (hLP) ?_
  refine lv_istore_n (lv' := [(3, .int (nI L)), (2, .ref ((ad 8) (3 * d + 5))), (0, .ref (o 0)), (1, .int (nI d))]) hx hb dX5_steadyGlow_19 rfl hl (by decide) rfl (fun ls hl => ?_)
  refine lv_iload_n hx hb dX5_steadyGlow_20 rfl (lv_at hl 0 rfl) ?_
  refine lv_if_ne (tgt := 26) hx hb dX5_steadyGlow_21 (by decide) (fun c_21 => ?_) (fun c_21 => ?_)
  · have hL : 0 < L := Nat.pos_of_ne_zero (fun z => c_21 (by rw [z]; rfl))
    refine lv_iload_n hx hb dX5_steadyGlow_26 rfl (lv_at hl 0 rfl) ?_
    refine lv_aload_n hx hb dX5_steadyGlow_27 rfl (lv_at hl 2 rfl) ?_
    refine va_get (D := D) (ci := 5) (v := .ref ((ad 8) 0)) (C := RX5) (T := TX5) (N := 5) hx hb hts hiX5 hown hK hP 29 (xw_get (i := 0) rfl) rfl 0 (by decide) w_1 (fun _ h9 => h9) rfl dX5_steadyGlow_28 ?_
    refine vp_callSi (va_runV (As := []) (rest := [.int (nI L)]) ⟨hx, hb, hml, hown, hts⟩ (k_X3_frameLength l D ct (ad 8) v ok.n8 ok.cnt) (cwV 0 hts gX5_steadyGlow_X3_frameLength rfl rfl rfl (by decide +kernel) ⟨Nat.le_of_ble_eq_true rfl, Nat.le_of_ble_eq_true rfl⟩) ⟨roP.blind, va_recv hK (pw_left hP) (ci := 3) (q0 := 0) rfl rfl, roP.at (pw_left hP) hK hN⟩ rfl rfl hl.1 rfl (lv_room (Nat.le_of_ble_eq_true rfl)) dX5_steadyGlow_31 ⟨Nat.le_of_ble_eq_true rfl, Nat.le_of_ble_eq_true rfl⟩).run (fun r_31 h_31 => ?_)
    obtain rfl : r_31 = pLen v := h_31
    refine lv_iload_n hx hb dX5_steadyGlow_34 rfl (lv_at hl 0 rfl) ?_
    refine lv_isub hx hb dX5_steadyGlow_35 ?_
    refine lv_as (y := nI M) ((by rw [← hLP]; exact hMP)) ?_
    refine lv_aload_n hx hb dX5_steadyGlow_36 rfl (lv_at hl 2 rfl) ?_
    refine va_get (D := D) (ci := 5) (v := .ref ((ad 8) 0)) (C := RX5) (T := TX5) (N := 5) hx hb hts hiX5 hown hK hP 29 (xw_get (i := 0) rfl) rfl 0 (by decide) w_1 (fun _ h9 => h9) rfl dX5_steadyGlow_37 ?_
    refine va_get (D := D) (ci := 3) (v := .ref ((ad 8) 4)) (C := RX3) (T := TX3) (N := 13) hx hb hts hiX3 hown hK hP 0 sa_c0 rfl 4 (by decide) w_2 (fun _ h9 => h9) rfl dX5_steadyGlow_40 ?_
    refine lv_iconst (v := 0) hx hb dX5_steadyGlow_43 (by decide) ?_
    refine r_iald hx hb hK hP 4 0 sa_c4 rfl (k := 0) (rfl) (by decide) (by decide) dX5_steadyGlow_44 ?_
    refine lv_as (y := nI q) (hqd) ?_
    refine vp_callSi (va_runS (As := [.int (nI L), .int (nI M), .int (nI q)]) (rest := []) ⟨hx, hb, hml, hown, hts⟩ (k_X5_glowOfFrames l D ct L M q hL hL2 hM2 hq hq2) (va_cwS 3 hts gX5_steadyGlow_X5_glowOfFrames rfl rfl rfl (by decide +kernel) ⟨Nat.le_of_ble_eq_true rfl, Nat.le_of_ble_eq_true rfl⟩) ⟨roP.blind, roP.at pw_nil hK hN⟩ rfl rfl hl.1 rfl (lv_room (Nat.le_of_ble_eq_true rfl)) dX5_steadyGlow_45 ⟨Nat.le_of_ble_eq_true rfl, Nat.le_of_ble_eq_true rfl⟩).run (fun r_45 h_45 => ?_)
    obtain rfl : r_45 = nI (pSt L M q) := h_45
    exact W.iret (v := (nI (pSt L M q))) hx hb hr (fun tt ht hW => ⟨(nI (pSt L M q)), rfl, (if_neg (by omega)).symm, ht⟩) (fun q hq => absurd hq List.not_mem_nil) dX5_steadyGlow_48
  · have hL : L = 0 := (nI_eq (by omega) (by decide)).mp (show nI L = nI 0 from c_21)
    refine lv_iconst (v := 0) hx hb dX5_steadyGlow_24 (by decide) ?_
    exact W.iret (v := 0) hx hb hr (fun tt ht hW => ⟨0, rfl, (if_pos hL).symm, ht⟩) (fun q hq => absurd hq List.not_mem_nil) dX5_steadyGlow_25
set_option maxHeartbeats 4000000 in
set_option maxRecDepth 100000 in
theorem k_X5_current (l : Launch) (D : va_G) (ct : Nat → ClassId) (o : Nat → Nat) (ad : Nat → Nat → Nat) (v z : SV) (w : Nat → SV) (n k : Nat) (hn : n < 5) (hk : k ≤ 5) (s0 s1 : SV) (i0 i1 : Int32) (t : Nat) (nd : Int32) (f g : Nat → Int32) (x : Int32) : Met l yX5_current wsX5_current ({ frames := 0, cells := 0, slots := 0, locals := 0 }) (roP D ct (stW ct (ad 8) v ++ xR ct o ad z w (nI n) (nI k) s0 s1 i0 i1 (nI t) nd f g) [.ref (o 0), .int x]) (vp_Sf (fun r => r = pFl v x)) 0 0 noA := by
  refine Met.ofW (cc := cX5_current) (maxL := 2) (ret := (some .float)) (by decide) rfl ?_
  intro p e s m args below meth c s₁ B hml hv
  obtain ⟨rfl, hP, hK, hN⟩ := hv
  have hx := B.exec
  have hb := B.bytes
  have hr := B.returns
  have hts := atoms_spec (ws := wsX5_current) B.pre
  have hown : s.vm.findClass RX5 = some m.cls := findClass_of_methodNamed B.named
  have hlocks := B.notSynchronized
  have w_1 := hts (.fieldLink RX5 10 "ScannedDigits" "now" "LScannedDigits$State;") (List.mem_of_getElem? (i := 1) rfl)
  have w_2 := hts (.fieldLink RX5 202 "ScannedDigits$State" "current" "F") (List.mem_of_getElem? (i := 2) rfl)
  have w_3 := hts (.fieldLink RX5 206 "ScannedDigits$State" "peak" "F") (List.mem_of_getElem? (i := 3) rfl)
  have w_4 := hts (.fieldLink RX5 209 "ScannedDigits$State" "charge" "F") (List.mem_of_getElem? (i := 4) rfl)
  have hiX5 : ∀ w ∈ wsX50, w ∈ wsX5_current := fun w h => (goodIn_r wsX50 [5, 6, 7, 8, 9] (by decide +kernel) (by decide +kernel) w h).1
  have hiX3 : ∀ w ∈ wsX30, w ∈ wsX5_current := fun w h => (goodIn_r wsX30 [10, 11, 12, 13, 14, 15, 16, 17, 18, 19, 20, 21, 22] (by decide +kernel) (by decide +kernel) w h).1
  have hl := lv_entry ([.ref (o 0), .int x]) (n := 2) (Nat.le_of_ble_eq_true rfl)
  rw [lg_entry_eq]
  generalize (lg_sl ([.ref (o 0), .int x]) ++ List.replicate (2 - (lg_sl ([.ref (o 0), .int x])).length) Slot.unset).toArray = ls at hl ⊢
  have hl : lv_has ls 2 [(0, .ref (o 0)), (1, .int x)] := hl
  refine lv_iload_n hx hb dX5_current_0 rfl (lv_at hl 1 rfl) ?_
  by_cases sw_1 : (x).toInt < 0 ∨ 2 < (x).toInt
  · refine lv_tableOut (tgt := 52) hx hb dX5_current_1 sw_1 (by decide) ?_
    refine lv_fconst0 hx hb dX5_current_52 ?_
    exact W.fret (v := FP.fconst0) hx hb hr (fun tt ht hW => ⟨FP.fconst0, rfl, pFl_out sw_1, ht⟩) (fun q hq => absurd hq List.not_mem_nil) dX5_current_53
  · have sv_1 : x = 0 ∨ x = 1 ∨ x = 2 := sw_cases_0_2 sw_1
    rcases sv_1 with rfl | rfl | rfl
    · refine lv_tableIn (off := 27) (tgt := 28) hx hb dX5_current_1 (by decide) (by decide) (by decide) (by decide) ?_
      refine lv_aload_n hx hb dX5_current_28 rfl (lv_at hl 0 rfl) ?_
      refine va_get (D := D) (ci := 5) (v := .ref ((ad 8) 0)) (C := RX5) (T := TX5) (N := 5) hx hb hts hiX5 hown hK hP 29 (xw_get (i := 0) rfl) rfl 0 (by decide) w_1 (fun _ h9 => h9) rfl dX5_current_29 ?_
      refine va_get (D := D) (ci := 3) (v := .float (v.2 0)) (C := RX3) (T := TX3) (N := 13) hx hb hts hiX3 hown hK hP 0 sa_c0 rfl 10 (by decide) w_2 (fun _ h9 => h9) rfl dX5_current_32 ?_
      exact W.fret (v := (v.2 0)) hx hb hr (fun tt ht hW => ⟨(v.2 0), rfl, rfl, ht⟩) (fun q hq => absurd hq List.not_mem_nil) dX5_current_35
    · refine lv_tableIn (off := 35) (tgt := 36) hx hb dX5_current_1 (by decide) (by decide) (by decide) (by decide) ?_
      refine lv_aload_n hx hb dX5_current_36 rfl (lv_at hl 0 rfl) ?_
      refine va_get (D := D) (ci := 5) (v := .ref ((ad 8) 0)) (C := RX5) (T := TX5) (N := 5) hx hb hts hiX5 hown hK hP 29 (xw_get (i := 0) rfl) rfl 0 (by decide) w_1 (fun _ h9 => h9) rfl dX5_current_37 ?_
      refine va_get (D := D) (ci := 3) (v := .float (v.2 1)) (C := RX3) (T := TX3) (N := 13) hx hb hts hiX3 hown hK hP 0 sa_c0 rfl 11 (by decide) w_3 (fun _ h9 => h9) rfl dX5_current_40 ?_
      exact W.fret (v := (v.2 1)) hx hb hr (fun tt ht hW => ⟨(v.2 1), rfl, rfl, ht⟩) (fun q hq => absurd hq List.not_mem_nil) dX5_current_43
    · refine lv_tableIn (off := 43) (tgt := 44) hx hb dX5_current_1 (by decide) (by decide) (by decide) (by decide) ?_
      refine lv_aload_n hx hb dX5_current_44 rfl (lv_at hl 0 rfl) ?_
      refine va_get (D := D) (ci := 5) (v := .ref ((ad 8) 0)) (C := RX5) (T := TX5) (N := 5) hx hb hts hiX5 hown hK hP 29 (xw_get (i := 0) rfl) rfl 0 (by decide) w_1 (fun _ h9 => h9) rfl dX5_current_45 ?_
      refine va_get (D := D) (ci := 3) (v := .float (v.2 2)) (C := RX3) (T := TX3) (N := 13) hx hb hts hiX3 hown hK hP 0 sa_c0 rfl 12 (by decide) w_4 (fun _ h9 => h9) rfl dX5_current_48 ?_
      exact W.fret (v := (v.2 2)) hx hb hr (fun tt ht hW => ⟨(v.2 2), rfl, rfl, ht⟩) (fun q hq => absurd hq List.not_mem_nil) dX5_current_51
set_option maxHeartbeats 4000000 in
set_option maxRecDepth 100000 in
theorem k_X5_thousandths_e (l : Launch) (D : va_G) (ct : Nat → ClassId) (o : Nat → Nat) (ad : Nat → Nat → Nat) (v z : SV) (w : Nat → SV) (n k : Nat) (hn : n < 5) (hk : k ≤ 5) (s0 s1 : SV) (i0 i1 : Int32) (t : Nat) (nd : Int32) (f g : Nat → Int32) (x : Int32) (hin : pIn x 0 2 = 0) : Met l yX5_thousandths wsX5_thousandths ({ frames := 1, cells := 0, slots := 0, locals := 22 }) (roP D ct (stW ct (ad 8) v ++ xR ct o ad z w (nI n) (nI k) s0 s1 i0 i1 (nI t) nd f g) [.ref (o 0), .int x]) (vp_Si (fun r => r = -2)) 0 0 noA := by
  refine Met.ofW (cc := cX5_thousandths) (maxL := 2) (ret := (some .int)) (by decide) rfl ?_
  intro p e s m args below meth c s₁ B hml hv
  obtain ⟨rfl, hP, hK, hN⟩ := hv
  have hx := B.exec
  have hb := B.bytes
  have hr := B.returns
  have hts := atoms_spec (ws := wsX5_thousandths) B.pre
  have hown : s.vm.findClass RX5 = some m.cls := findClass_of_methodNamed B.named
  have hlocks := B.notSynchronized
  have hl := lv_entry ([.ref (o 0), .int x]) (n := 2) (Nat.le_of_ble_eq_true rfl)
  rw [lg_entry_eq]
  generalize (lg_sl ([.ref (o 0), .int x]) ++ List.replicate (2 - (lg_sl ([.ref (o 0), .int x])).length) Slot.unset).toArray = ls at hl ⊢
  have hl : lv_has ls 2 [(0, .ref (o 0)), (1, .int x)] := hl
  refine lv_iload_n hx hb dX5_thousandths_0 rfl (lv_at hl 1 rfl) ?_
  refine lv_iconst (v := 0) hx hb dX5_thousandths_1 (by decide) ?_
  refine lv_iconst (v := 2) hx hb dX5_thousandths_2 (by decide) ?_
  refine vp_callSi (va_runS (As := [.int x, .int 0, .int 2]) (rest := []) ⟨hx, hb, hml, hown, hts⟩ (k_X5_isWithin l D ct x 0 2) (va_cwS 3 hts gX5_thousandths_X5_isWithin rfl rfl rfl (by decide +kernel) ⟨Nat.le_of_ble_eq_true rfl, Nat.le_of_ble_eq_true rfl⟩) ⟨roP.blind, roP.at pw_nil hK hN⟩ rfl rfl hl.1 rfl (lv_room (Nat.le_of_ble_eq_true rfl)) dX5_thousandths_3 ⟨Nat.le_of_ble_eq_true rfl, Nat.le_of_ble_eq_true rfl⟩).run (fun r_3 h_3 => ?_)
  obtain rfl : r_3 = pIn x 0 2 := h_3
  refine lv_if_ne (tgt := 12) hx hb dX5_thousandths_6 (by decide) (fun c_6 => ?_) (fun c_6 => ?_)
  · exact absurd hin c_6
  · refine lv_bipush (v := (-2)) hx hb dX5_thousandths_9 (by decide) ?_
    exact W.iret (v := (-2)) hx hb hr (fun tt ht hW => ⟨(-2), rfl, rfl, ht⟩) (fun q hq => absurd hq List.not_mem_nil) dX5_thousandths_11
set_option maxHeartbeats 4000000 in
set_option maxRecDepth 100000 in
theorem k_X5_thousandths_ok (l : Launch) (D : va_G) (ct : Nat → ClassId) (o : Nat → Nat) (ad : Nat → Nat → Nat) (v z : SV) (w : Nat → SV) (n k : Nat) (hn : n < 5) (hk : k ≤ 5) (s0 s1 : SV) (i0 i1 : Int32) (t : Nat) (nd : Int32) (f g : Nat → Int32) (ok : Inv v) (j : Nat) (hj : j < 3) : Met l yX5_thousandths wsX5_thousandths ({ frames := 1, cells := 0, slots := 0, locals := 22 }) (roP D ct (stW ct (ad 8) v ++ xR ct o ad z w (nI n) (nI k) s0 s1 i0 i1 (nI t) nd f g) [.ref (o 0), .int (nI j)]) (vp_Si (fun r => r = FP.f2i (FP.fmul (v.2 j) 1148846080))) 0 0 noA := by
  refine Met.ofW (cc := cX5_thousandths) (maxL := 2) (ret := (some .int)) (by decide) rfl ?_
  intro p e s m args below meth c s₁ B hml hv
  obtain ⟨rfl, hP, hK, hN⟩ := hv
  have hx := B.exec
  have hb := B.bytes
  have hr := B.returns
  have hts := atoms_spec (ws := wsX5_thousandths) B.pre
  have hown : s.vm.findClass RX5 = some m.cls := findClass_of_methodNamed B.named
  have hlocks := B.notSynchronized
  have w_1 := hts (.constantFloat RX5 215 (1148846080)) (List.mem_of_getElem? (i := 1) rfl)
  have hl := lv_entry ([.ref (o 0), .int (nI j)]) (n := 2) (Nat.le_of_ble_eq_true rfl)
  rw [lg_entry_eq]
  generalize (lg_sl ([.ref (o 0), .int (nI j)]) ++ List.replicate (2 - (lg_sl ([.ref (o 0), .int (nI j)])).length) Slot.unset).toArray = ls at hl ⊢
  have hl : lv_has ls 2 [(0, .ref (o 0)), (1, .int (nI j))] := hl
  have hin : ¬ pIn (nI j) 0 2 = 0 := pIn_ok (a := 0) (b := 2) rfl rfl (Nat.zero_le _) (by omega) (by decide)
  refine lv_iload_n hx hb dX5_thousandths_0 rfl (lv_at hl 1 rfl) ?_
  refine lv_iconst (v := 0) hx hb dX5_thousandths_1 (by decide) ?_
  refine lv_iconst (v := 2) hx hb dX5_thousandths_2 (by decide) ?_
  refine vp_callSi (va_runS (As := [.int (nI j), .int 0, .int 2]) (rest := []) ⟨hx, hb, hml, hown, hts⟩ (k_X5_isWithin l D ct (nI j) 0 2) (va_cwS 3 hts gX5_thousandths_X5_isWithin rfl rfl rfl (by decide +kernel) ⟨Nat.le_of_ble_eq_true rfl, Nat.le_of_ble_eq_true rfl⟩) ⟨roP.blind, roP.at pw_nil hK hN⟩ rfl rfl hl.1 rfl (lv_room (Nat.le_of_ble_eq_true rfl)) dX5_thousandths_3 ⟨Nat.le_of_ble_eq_true rfl, Nat.le_of_ble_eq_true rfl⟩).run (fun r_3 h_3 => ?_)
  obtain rfl : r_3 = pIn (nI j) 0 2 := h_3
  refine lv_if_ne (tgt := 12) hx hb dX5_thousandths_6 (by decide) (fun c_6 => ?_) (fun c_6 => ?_)
  · refine lv_aload_n hx hb dX5_thousandths_12 rfl (lv_at hl 0 rfl) ?_
    refine lv_iload_n hx hb dX5_thousandths_13 rfl (lv_at hl 1 rfl) ?_
    refine vp_callSf (va_runV (As := [.int (nI j)]) (rest := []) ⟨hx, hb, hml, hown, hts⟩ (k_X5_current l D ct o ad v z w n k hn hk s0 s1 i0 i1 t nd f g (nI j)) (cwV 1 hts gX5_thousandths_X5_current rfl rfl rfl (by decide +kernel) ⟨Nat.le_of_ble_eq_true rfl, Nat.le_of_ble_eq_true rfl⟩) ⟨roP.blind, va_recv hK hP (ci := 5) (q0 := 29) rfl rfl, roP.at hP hK hN⟩ rfl rfl hl.1 rfl (lv_room (Nat.le_of_ble_eq_true rfl)) dX5_thousandths_14 ⟨Nat.le_of_ble_eq_true rfl, Nat.le_of_ble_eq_true rfl⟩).run (fun r_14 h_14 => ?_)
    obtain rfl : r_14 = pFl v (nI j) := h_14
    refine lv_asf (y := v.2 j) (pFl_in v hj) ?_
    refine lv_ldcf (v := 1148846080) hx hb hown w_1 dX5_thousandths_17 ?_
    refine lv_fmul hx hb dX5_thousandths_19 (fl_th ok.2.2.2.2.2.2.2 hj) ?_
    refine lv_f2i hx hb dX5_thousandths_20 ?_
    exact W.iret (v := (FP.f2i (FP.fmul (v.2 j) 1148846080))) hx hb hr (fun tt ht hW => ⟨(FP.f2i (FP.fmul (v.2 j) 1148846080)), rfl, rfl, ht⟩) (fun q hq => absurd hq List.not_mem_nil) dX5_thousandths_21
  · exact absurd c_6 hin
set_option maxHeartbeats 4000000 in
set_option maxRecDepth 100000 in
theorem k_X5_count (l : Launch) (D : va_G) (ct : Nat → ClassId) (o : Nat → Nat) (ad : Nat → Nat → Nat) (v z : SV) (w : Nat → SV) (n k : Nat) (hn : n < 5) (hk : k ≤ 5) (s0 s1 : SV) (i0 i1 : Int32) (t : Nat) (nd : Int32) (f g : Nat → Int32) (ok : Inv v) (y : Int32) : Met l yX5_count wsX5_count ({ frames := 2, cells := 0, slots := 0, locals := 43 }) (roP D ct (stW ct (ad 8) v ++ xR ct o ad z w (nI n) (nI k) s0 s1 i0 i1 (nI t) nd f g) [.ref (o 0), .int y]) (vp_Si (fun r => r = pCou v k t y)) 0 0 noA := by
  refine Met.ofW (cc := cX5_count) (maxL := 2) (ret := (some .int)) (by decide) rfl ?_
  intro p e s m args below meth c s₁ B hml hv
  obtain ⟨rfl, hP, hK, hN⟩ := hv
  have hx := B.exec
  have hb := B.bytes
  have hr := B.returns
  have hts := atoms_spec (ws := wsX5_count) B.pre
  have hown : s.vm.findClass RX5 = some m.cls := findClass_of_methodNamed B.named
  have hlocks := B.notSynchronized
  have w_1 := hts (.fieldLink RX5 10 "ScannedDigits" "now" "LScannedDigits$State;") (List.mem_of_getElem? (i := 1) rfl)
  have w_2 := hts (.fieldLink RX5 125 "ScannedDigits$State" "time" "I") (List.mem_of_getElem? (i := 2) rfl)
  have w_3 := hts (.fieldLink RX5 48 "ScannedDigits$State" "digitCount" "I") (List.mem_of_getElem? (i := 3) rfl)
  have w_4 := hts (.fieldLink RX5 216 "ScannedDigits$State" "frame" "I") (List.mem_of_getElem? (i := 4) rfl)
  have w_5 := hts (.fieldLink RX5 122 "ScannedDigits$State" "frameTicks" "I") (List.mem_of_getElem? (i := 5) rfl)
  have w_6 := hts (.fieldLink RX5 116 "ScannedDigits$State" "testFrames" "I") (List.mem_of_getElem? (i := 6) rfl)
  have w_7 := hts (.fieldLink RX5 219 "ScannedDigits$State" "drivenTicks" "I") (List.mem_of_getElem? (i := 7) rfl)
  have w_8 := hts (.fieldLink RX5 102 "ScannedDigits$State" "settings" "[I") (List.mem_of_getElem? (i := 8) rfl)
  have w_9 := hts (.fieldLink RX5 22 "ScannedDigits" "history" "LScannedDigits$History;") (List.mem_of_getElem? (i := 9) rfl)
  have w_10 := hts (.fieldLink RX5 152 "ScannedDigits$History" "size" "I") (List.mem_of_getElem? (i := 10) rfl)
  have w_11 := hts (.fieldLink RX5 35 "ScannedDigits" "text" "LScannedDigits$Text;") (List.mem_of_getElem? (i := 11) rfl)
  have w_12 := hts (.fieldLink RX5 136 "ScannedDigits$Text" "length" "I") (List.mem_of_getElem? (i := 12) rfl)
  have hiX5 : ∀ w ∈ wsX50, w ∈ wsX5_count := fun w h => (goodIn_r wsX50 [42, 43, 44, 45, 46] (by decide +kernel) (by decide +kernel) w h).1
  have hiX3 : ∀ w ∈ wsX30, w ∈ wsX5_count := fun w h => (goodIn_r wsX30 [47, 48, 49, 50, 51, 52, 53, 54, 55, 56, 57, 58, 59] (by decide +kernel) (by decide +kernel) w h).1
  have hiX1 : ∀ w ∈ wsX10, w ∈ wsX5_count := fun w h => (goodIn_r wsX10 [60, 61, 62] (by decide +kernel) (by decide +kernel) w h).1
  have hiX4 : ∀ w ∈ wsX40, w ∈ wsX5_count := fun w h => (goodIn_r wsX40 [63, 64, 65, 66] (by decide +kernel) (by decide +kernel) w h).1
  have hl := lv_entry ([.ref (o 0), .int y]) (n := 2) (Nat.le_of_ble_eq_true rfl)
  rw [lg_entry_eq]
  generalize (lg_sl ([.ref (o 0), .int y]) ++ List.replicate (2 - (lg_sl ([.ref (o 0), .int y])).length) Slot.unset).toArray = ls at hl ⊢
  have hl : lv_has ls 2 [(0, .ref (o 0)), (1, .int y)] := hl
  refine lv_iload_n hx hb dX5_count_0 rfl (lv_at hl 1 rfl) ?_
  by_cases sw_1 : (y).toInt < 0 ∨ 13 < (y).toInt
  · refine lv_tableOut (tgt := 173) hx hb dX5_count_1 sw_1 (by decide) ?_
    refine lv_bipush (v := (-2)) hx hb dX5_count_173 (by decide) ?_
    exact W.iret (v := (-2)) hx hb hr (fun tt ht hW => ⟨(-2), rfl, pCou_out sw_1, ht⟩) (fun q hq => absurd hq List.not_mem_nil) dX5_count_175
  · have sv_1 : y = 0 ∨ y = 1 ∨ y = 2 ∨ y = 3 ∨ y = 4 ∨ y = 5 ∨ y = 6 ∨ y = 7 ∨ y = 8 ∨ y = 9 ∨ y = 10 ∨ y = 11 ∨ y = 12 ∨ y = 13 := sw_cases_0_13 sw_1
    rcases sv_1 with rfl | rfl | rfl | rfl | rfl | rfl | rfl | rfl | rfl | rfl | rfl | rfl | rfl | rfl
    · refine lv_tableIn (off := 71) (tgt := 72) hx hb dX5_count_1 (by decide) (by decide) (by decide) (by decide) ?_
      refine lv_aload_n hx hb dX5_count_72 rfl (lv_at hl 0 rfl) ?_
      refine va_get (D := D) (ci := 5) (v := .ref ((ad 8) 0)) (C := RX5) (T := TX5) (N := 5) hx hb hts hiX5 hown hK hP 29 (xw_get (i := 0) rfl) rfl 0 (by decide) w_1 (fun _ h9 => h9) rfl dX5_count_73 ?_
      refine va_get (D := D) (ci := 3) (v := .int (v.1 0 1)) (C := RX3) (T := TX3) (N := 13) hx hb hts hiX3 hown hK hP 0 sa_c0 rfl 5 (by decide) w_2 (fun _ h9 => h9) rfl dX5_count_76 ?_
      exact W.iret (v := (v.1 0 1)) hx hb hr (fun tt ht hW => ⟨(v.1 0 1), rfl, rfl, ht⟩) (fun q hq => absurd hq List.not_mem_nil) dX5_count_79
    · refine lv_tableIn (off := 79) (tgt := 80) hx hb dX5_count_1 (by decide) (by decide) (by decide) (by decide) ?_
      refine lv_aload_n hx hb dX5_count_80 rfl (lv_at hl 0 rfl) ?_
      refine va_get (D := D) (ci := 5) (v := .ref ((ad 8) 0)) (C := RX5) (T := TX5) (N := 5) hx hb hts hiX5 hown hK hP 29 (xw_get (i := 0) rfl) rfl 0 (by decide) w_1 (fun _ h9 => h9) rfl dX5_count_81 ?_
      refine va_get (D := D) (ci := 3) (v := .int (v.1 0 0)) (C := RX3) (T := TX3) (N := 13) hx hb hts hiX3 hown hK hP 0 sa_c0 rfl 1 (by decide) w_3 (fun _ h9 => h9) rfl dX5_count_84 ?_
      exact W.iret (v := (v.1 0 0)) hx hb hr (fun tt ht hW => ⟨(v.1 0 0), rfl, rfl, ht⟩) (fun q hq => absurd hq List.not_mem_nil) dX5_count_87
    · refine lv_tableIn (off := 87) (tgt := 88) hx hb dX5_count_1 (by decide) (by decide) (by decide) (by decide) ?_
      refine lv_aload_n hx hb dX5_count_88 rfl (lv_at hl 0 rfl) ?_
      refine va_get (D := D) (ci := 5) (v := .ref ((ad 8) 0)) (C := RX5) (T := TX5) (N := 5) hx hb hts hiX5 hown hK hP 29 (xw_get (i := 0) rfl) rfl 0 (by decide) w_1 (fun _ h9 => h9) rfl dX5_count_89 ?_
      refine vp_callSi (va_runV (As := []) (rest := []) ⟨hx, hb, hml, hown, hts⟩ (k_X3_frameLength l D ct (ad 8) v ok.n8 ok.cnt) (cwV 0 hts gX5_count_X3_frameLength rfl rfl rfl (by decide +kernel) ⟨Nat.le_of_ble_eq_true rfl, Nat.le_of_ble_eq_true rfl⟩) ⟨roP.blind, va_recv hK (pw_left hP) (ci := 3) (q0 := 0) rfl rfl, roP.at (pw_left hP) hK hN⟩ rfl rfl hl.1 rfl (lv_room (Nat.le_of_ble_eq_true rfl)) dX5_count_92 ⟨Nat.le_of_ble_eq_true rfl, Nat.le_of_ble_eq_true rfl⟩).run (fun r_92 h_92 => ?_)
      obtain rfl : r_92 = pLen v := h_92
      exact W.iret (v := (pLen v)) hx hb hr (fun tt ht hW => ⟨(pLen v), rfl, rfl, ht⟩) (fun q hq => absurd hq List.not_mem_nil) dX5_count_95
    · refine lv_tableIn (off := 95) (tgt := 96) hx hb dX5_count_1 (by decide) (by decide) (by decide) (by decide) ?_
      refine lv_aload_n hx hb dX5_count_96 rfl (lv_at hl 0 rfl) ?_
      refine va_get (D := D) (ci := 5) (v := .ref ((ad 8) 0)) (C := RX5) (T := TX5) (N := 5) hx hb hts hiX5 hown hK hP 29 (xw_get (i := 0) rfl) rfl 0 (by decide) w_1 (fun _ h9 => h9) rfl dX5_count_97 ?_
      refine va_get (D := D) (ci := 3) (v := .int (v.1 0 2)) (C := RX3) (T := TX3) (N := 13) hx hb hts hiX3 hown hK hP 0 sa_c0 rfl 6 (by decide) w_4 (fun _ h9 => h9) rfl dX5_count_100 ?_
      exact W.iret (v := (v.1 0 2)) hx hb hr (fun tt ht hW => ⟨(v.1 0 2), rfl, rfl, ht⟩) (fun q hq => absurd hq List.not_mem_nil) dX5_count_103
    · refine lv_tableIn (off := 103) (tgt := 104) hx hb dX5_count_1 (by decide) (by decide) (by decide) (by decide) ?_
      refine lv_aload_n hx hb dX5_count_104 rfl (lv_at hl 0 rfl) ?_
      refine va_get (D := D) (ci := 5) (v := .ref ((ad 8) 0)) (C := RX5) (T := TX5) (N := 5) hx hb hts hiX5 hown hK hP 29 (xw_get (i := 0) rfl) rfl 0 (by decide) w_1 (fun _ h9 => h9) rfl dX5_count_105 ?_
      refine va_get (D := D) (ci := 3) (v := .int (v.1 0 3)) (C := RX3) (T := TX3) (N := 13) hx hb hts hiX3 hown hK hP 0 sa_c0 rfl 7 (by decide) w_5 (fun _ h9 => h9) rfl dX5_count_108 ?_
      exact W.iret (v := (v.1 0 3)) hx hb hr (fun tt ht hW => ⟨(v.1 0 3), rfl, rfl, ht⟩) (fun q hq => absurd hq List.not_mem_nil) dX5_count_111
    · refine lv_tableIn (off := 111) (tgt := 112) hx hb dX5_count_1 (by decide) (by decide) (by decide) (by decide) ?_
      refine lv_aload_n hx hb dX5_count_112 rfl (lv_at hl 0 rfl) ?_
      refine va_get (D := D) (ci := 5) (v := .ref ((ad 8) 0)) (C := RX5) (T := TX5) (N := 5) hx hb hts hiX5 hown hK hP 29 (xw_get (i := 0) rfl) rfl 0 (by decide) w_1 (fun _ h9 => h9) rfl dX5_count_113 ?_
      refine vp_callSi (va_runV (As := []) (rest := []) ⟨hx, hb, hml, hown, hts⟩ (k_X3_slotNow l D ct (ad 8) v ok) (cwV 0 hts gX5_count_X3_slotNow rfl rfl rfl (by decide +kernel) ⟨Nat.le_of_ble_eq_true rfl, Nat.le_of_ble_eq_true rfl⟩) ⟨roP.blind, va_recv hK (pw_left hP) (ci := 3) (q0 := 0) rfl rfl, roP.at (pw_left hP) hK hN⟩ rfl rfl hl.1 rfl (lv_room (Nat.le_of_ble_eq_true rfl)) dX5_count_116 ⟨Nat.le_of_ble_eq_true rfl, Nat.le_of_ble_eq_true rfl⟩).run (fun r_116 h_116 => ?_)
      obtain rfl : r_116 = nI (pSlot v) := h_116
      exact W.iret (v := (nI (pSlot v))) hx hb hr (fun tt ht hW => ⟨(nI (pSlot v)), rfl, rfl, ht⟩) (fun q hq => absurd hq List.not_mem_nil) dX5_count_119
    · refine lv_tableIn (off := 119) (tgt := 120) hx hb dX5_count_1 (by decide) (by decide) (by decide) (by decide) ?_
      refine lv_aload_n hx hb dX5_count_120 rfl (lv_at hl 0 rfl) ?_
      refine va_get (D := D) (ci := 5) (v := .ref ((ad 8) 0)) (C := RX5) (T := TX5) (N := 5) hx hb hts hiX5 hown hK hP 29 (xw_get (i := 0) rfl) rfl 0 (by decide) w_1 (fun _ h9 => h9) rfl dX5_count_121 ?_
      refine va_get (D := D) (ci := 3) (v := .int (v.1 0 4)) (C := RX3) (T := TX3) (N := 13) hx hb hts hiX3 hown hK hP 0 sa_c0 rfl 8 (by decide) w_6 (fun _ h9 => h9) rfl dX5_count_124 ?_
      exact W.iret (v := (v.1 0 4)) hx hb hr (fun tt ht hW => ⟨(v.1 0 4), rfl, rfl, ht⟩) (fun q hq => absurd hq List.not_mem_nil) dX5_count_127
    · refine lv_tableIn (off := 127) (tgt := 128) hx hb dX5_count_1 (by decide) (by decide) (by decide) (by decide) ?_
      refine lv_aload_n hx hb dX5_count_128 rfl (lv_at hl 0 rfl) ?_
      refine va_get (D := D) (ci := 5) (v := .ref ((ad 8) 0)) (C := RX5) (T := TX5) (N := 5) hx hb hts hiX5 hown hK hP 29 (xw_get (i := 0) rfl) rfl 0 (by decide) w_1 (fun _ h9 => h9) rfl dX5_count_129 ?_
      refine va_get (D := D) (ci := 3) (v := .int (v.1 0 5)) (C := RX3) (T := TX3) (N := 13) hx hb hts hiX3 hown hK hP 0 sa_c0 rfl 9 (by decide) w_7 (fun _ h9 => h9) rfl dX5_count_132 ?_
      exact W.iret (v := (v.1 0 5)) hx hb hr (fun tt ht hW => ⟨(v.1 0 5), rfl, rfl, ht⟩) (fun q hq => absurd hq List.not_mem_nil) dX5_count_135
    · refine lv_tableIn (off := 135) (tgt := 136) hx hb dX5_count_1 (by decide) (by decide) (by decide) (by decide) ?_
      refine lv_aload_n hx hb dX5_count_136 rfl (lv_at hl 0 rfl) ?_
      refine va_get (D := D) (ci := 5) (v := .ref ((ad 8) 0)) (C := RX5) (T := TX5) (N := 5) hx hb hts hiX5 hown hK hP 29 (xw_get (i := 0) rfl) rfl 0 (by decide) w_1 (fun _ h9 => h9) rfl dX5_count_137 ?_
      refine vp_callSi (va_runV (As := []) (rest := []) ⟨hx, hb, hml, hown, hts⟩ (k_X3_brokenSegments l D ct (ad 8) v ok) (cwV 0 hts gX5_count_X3_brokenSegments rfl rfl rfl (by decide +kernel) ⟨Nat.le_of_ble_eq_true rfl, Nat.le_of_ble_eq_true rfl⟩) ⟨roP.blind, va_recv hK (pw_left hP) (ci := 3) (q0 := 0) rfl rfl, roP.at (pw_left hP) hK hN⟩ rfl rfl hl.1 rfl (lv_room (Nat.le_of_ble_eq_true rfl)) dX5_count_140 ⟨Nat.le_of_ble_eq_true rfl, Nat.le_of_ble_eq_true rfl⟩).run (fun r_140 h_140 => ?_)
      obtain rfl : r_140 = pBroS v (nOf v) := h_140
      exact W.iret (v := (pBroS v (nOf v))) hx hb hr (fun tt ht hW => ⟨(pBroS v (nOf v)), rfl, rfl, ht⟩) (fun q hq => absurd hq List.not_mem_nil) dX5_count_143
    · refine lv_tableIn (off := 143) (tgt := 144) hx hb dX5_count_1 (by decide) (by decide) (by decide) (by decide) ?_
      refine lv_aload_n hx hb dX5_count_144 rfl (lv_at hl 0 rfl) ?_
      refine va_get (D := D) (ci := 5) (v := .ref ((ad 8) 0)) (C := RX5) (T := TX5) (N := 5) hx hb hts hiX5 hown hK hP 29 (xw_get (i := 0) rfl) rfl 0 (by decide) w_1 (fun _ h9 => h9) rfl dX5_count_145 ?_
      refine va_get (D := D) (ci := 3) (v := .ref ((ad 8) 4)) (C := RX3) (T := TX3) (N := 13) hx hb hts hiX3 hown hK hP 0 sa_c0 rfl 4 (by decide) w_8 (fun _ h9 => h9) rfl dX5_count_148 ?_
      refine lv_iload_n hx hb dX5_count_151 rfl (lv_at hl 1 rfl) ?_
      refine lv_bipush (v := 9) hx hb dX5_count_152 (by decide) ?_
      refine lv_isub hx hb dX5_count_154 ?_
      refine lv_as (y := nI 0) (rfl) ?_
      refine r_iald hx hb hK hP 4 0 sa_c4 rfl (k := 0) (rfl) (by omega) (by decide) dX5_count_155 ?_
      exact W.iret (v := ((v.1 3) 0)) hx hb hr (fun tt ht hW => ⟨((v.1 3) 0), rfl, rfl, ht⟩) (fun q hq => absurd hq List.not_mem_nil) dX5_count_156
    · refine lv_tableIn (off := 143) (tgt := 144) hx hb dX5_count_1 (by decide) (by decide) (by decide) (by decide) ?_
      refine lv_aload_n hx hb dX5_count_144 rfl (lv_at hl 0 rfl) ?_
      refine va_get (D := D) (ci := 5) (v := .ref ((ad 8) 0)) (C := RX5) (T := TX5) (N := 5) hx hb hts hiX5 hown hK hP 29 (xw_get (i := 0) rfl) rfl 0 (by decide) w_1 (fun _ h9 => h9) rfl dX5_count_145 ?_
      refine va_get (D := D) (ci := 3) (v := .ref ((ad 8) 4)) (C := RX3) (T := TX3) (N := 13) hx hb hts hiX3 hown hK hP 0 sa_c0 rfl 4 (by decide) w_8 (fun _ h9 => h9) rfl dX5_count_148 ?_
      refine lv_iload_n hx hb dX5_count_151 rfl (lv_at hl 1 rfl) ?_
      refine lv_bipush (v := 9) hx hb dX5_count_152 (by decide) ?_
      refine lv_isub hx hb dX5_count_154 ?_
      refine lv_as (y := nI 1) (rfl) ?_
      refine r_iald hx hb hK hP 4 0 sa_c4 rfl (k := 1) (rfl) (by omega) (by decide) dX5_count_155 ?_
      exact W.iret (v := ((v.1 3) 1)) hx hb hr (fun tt ht hW => ⟨((v.1 3) 1), rfl, rfl, ht⟩) (fun q hq => absurd hq List.not_mem_nil) dX5_count_156
    · refine lv_tableIn (off := 143) (tgt := 144) hx hb dX5_count_1 (by decide) (by decide) (by decide) (by decide) ?_
      refine lv_aload_n hx hb dX5_count_144 rfl (lv_at hl 0 rfl) ?_
      refine va_get (D := D) (ci := 5) (v := .ref ((ad 8) 0)) (C := RX5) (T := TX5) (N := 5) hx hb hts hiX5 hown hK hP 29 (xw_get (i := 0) rfl) rfl 0 (by decide) w_1 (fun _ h9 => h9) rfl dX5_count_145 ?_
      refine va_get (D := D) (ci := 3) (v := .ref ((ad 8) 4)) (C := RX3) (T := TX3) (N := 13) hx hb hts hiX3 hown hK hP 0 sa_c0 rfl 4 (by decide) w_8 (fun _ h9 => h9) rfl dX5_count_148 ?_
      refine lv_iload_n hx hb dX5_count_151 rfl (lv_at hl 1 rfl) ?_
      refine lv_bipush (v := 9) hx hb dX5_count_152 (by decide) ?_
      refine lv_isub hx hb dX5_count_154 ?_
      refine lv_as (y := nI 2) (rfl) ?_
      refine r_iald hx hb hK hP 4 0 sa_c4 rfl (k := 2) (rfl) (by omega) (by decide) dX5_count_155 ?_
      exact W.iret (v := ((v.1 3) 2)) hx hb hr (fun tt ht hW => ⟨((v.1 3) 2), rfl, rfl, ht⟩) (fun q hq => absurd hq List.not_mem_nil) dX5_count_156
    · refine lv_tableIn (off := 156) (tgt := 157) hx hb dX5_count_1 (by decide) (by decide) (by decide) (by decide) ?_
      refine lv_aload_n hx hb dX5_count_157 rfl (lv_at hl 0 rfl) ?_
      refine va_get (D := D) (ci := 5) (v := .ref (o 7)) (C := RX5) (T := TX5) (N := 5) hx hb hts hiX5 hown hK hP 29 (xw_get (i := 0) rfl) rfl 2 (by decide) w_9 (fun _ h9 => h9) rfl dX5_count_158 ?_
      refine va_get (D := D) (ci := 1) (v := .int (nI k)) (C := RX1) (T := TX1) (N := 3) hx hb hts hiX1 hown hK hP 36 (xw_get (i := 7) rfl) rfl 2 (by decide) w_10 (fun _ h9 => h9) rfl dX5_count_161 ?_
      exact W.iret (v := (nI k)) hx hb hr (fun tt ht hW => ⟨(nI k), rfl, rfl, ht⟩) (fun q hq => absurd hq List.not_mem_nil) dX5_count_164
    · refine lv_tableIn (off := 164) (tgt := 165) hx hb dX5_count_1 (by decide) (by decide) (by decide) (by decide) ?_
      refine lv_aload_n hx hb dX5_count_165 rfl (lv_at hl 0 rfl) ?_
      refine va_get (D := D) (ci := 5) (v := .ref (o 1)) (C := RX5) (T := TX5) (N := 5) hx hb hts hiX5 hown hK hP 29 (xw_get (i := 0) rfl) rfl 4 (by decide) w_11 (fun _ h9 => h9) rfl dX5_count_166 ?_
      refine va_get (D := D) (ci := 4) (v := .int (nI t)) (C := RX4) (T := TX4) (N := 4) hx hb hts hiX4 hown hK hP 30 (xw_get (i := 1) rfl) rfl 1 (by decide) w_12 (fun _ h9 => h9) rfl dX5_count_169 ?_
      exact W.iret (v := (nI t)) hx hb hr (fun tt ht hW => ⟨(nI t), rfl, rfl, ht⟩) (fun q hq => absurd hq List.not_mem_nil) dX5_count_172
set_option maxHeartbeats 4000000 in
set_option maxRecDepth 100000 in
theorem k_X5_group_e1 (l : Launch) (D : va_G) (ct : Nat → ClassId) (o : Nat → Nat) (ad : Nat → Nat → Nat) (v z : SV) (w : Nat → SV) (n k : Nat) (hn : n < 5) (hk : k ≤ 5) (s0 s1 : SV) (i0 i1 : Int32) (t : Nat) (nd : Int32) (f g : Nat → Int32) (x y : Int32) (hin : pIn x 0 3 = 0) : Met l yX5_group wsX5_group ({ frames := 1, cells := 0, slots := 0, locals := 23 }) (roP D ct (stW ct (ad 8) v ++ xR ct o ad z w (nI n) (nI k) s0 s1 i0 i1 (nI t) nd f g) [.ref (o 0), .int x, .int y]) (vp_Si (fun r => r = -1)) 0 0 noA := by
  refine Met.ofW (cc := cX5_group) (maxL := 3) (ret := (some .int)) (by decide) rfl ?_
  intro p e s m args below meth c s₁ B hml hv
  obtain ⟨rfl, hP, hK, hN⟩ := hv
  have hx := B.exec
  have hb := B.bytes
  have hr := B.returns
  have hts := atoms_spec (ws := wsX5_group) B.pre
  have hown : s.vm.findClass RX5 = some m.cls := findClass_of_methodNamed B.named
  have hlocks := B.notSynchronized
  have hl := lv_entry ([.ref (o 0), .int x, .int y]) (n := 3) (Nat.le_of_ble_eq_true rfl)
  rw [lg_entry_eq]
  generalize (lg_sl ([.ref (o 0), .int x, .int y]) ++ List.replicate (3 - (lg_sl ([.ref (o 0), .int x, .int y])).length) Slot.unset).toArray = ls at hl ⊢
  have hl : lv_has ls 3 [(0, .ref (o 0)), (1, .int x), (2, .int y)] := hl
  refine lv_iload_n hx hb dX5_group_0 rfl (lv_at hl 1 rfl) ?_
  refine lv_iconst (v := 0) hx hb dX5_group_1 (by decide) ?_
  refine lv_iconst (v := 3) hx hb dX5_group_2 (by decide) ?_
  refine vp_callSi (va_runS (As := [.int x, .int 0, .int 3]) (rest := []) ⟨hx, hb, hml, hown, hts⟩ (k_X5_isWithin l D ct x 0 3) (va_cwS 3 hts gX5_group_X5_isWithin rfl rfl rfl (by decide +kernel) ⟨Nat.le_of_ble_eq_true rfl, Nat.le_of_ble_eq_true rfl⟩) ⟨roP.blind, roP.at pw_nil hK hN⟩ rfl rfl hl.1 rfl (lv_room (Nat.le_of_ble_eq_true rfl)) dX5_group_3 ⟨Nat.le_of_ble_eq_true rfl, Nat.le_of_ble_eq_true rfl⟩).run (fun r_3 h_3 => ?_)
  obtain rfl : r_3 = pIn x 0 3 := h_3
  refine lv_if_ne (tgt := 11) hx hb dX5_group_6 (by decide) (fun c_6 => ?_) (fun c_6 => ?_)
  · exact absurd hin c_6
  · refine lv_iconst (v := (-1)) hx hb dX5_group_9 (by decide) ?_
    exact W.iret (v := (-1)) hx hb hr (fun tt ht hW => ⟨(-1), rfl, rfl, ht⟩) (fun q hq => absurd hq List.not_mem_nil) dX5_group_10
set_option maxHeartbeats 4000000 in
set_option maxRecDepth 100000 in
theorem k_X5_group_ok (l : Launch) (D : va_G) (ct : Nat → ClassId) (o : Nat → Nat) (ad : Nat → Nat → Nat) (v z : SV) (w : Nat → SV) (n k : Nat) (hn : n < 5) (hk : k ≤ 5) (s0 s1 : SV) (i0 i1 : Int32) (t : Nat) (nd : Int32) (f g : Nat → Int32) (ok : Inv v) (q : Nat) (hg : q < 4) (y : Int32) : Met l yX5_group wsX5_group ({ frames := 1, cells := 0, slots := 0, locals := 23 }) (roP D ct (stW ct (ad 8) v ++ xR ct o ad z w (nI n) (nI k) s0 s1 i0 i1 (nI t) nd f g) [.ref (o 0), .int (nI q), .int y]) (vp_Si (fun r => r = pGrp v q y)) 0 0 noA := by
  refine Met.ofW (cc := cX5_group) (maxL := 3) (ret := (some .int)) (by decide) rfl ?_
  intro p e s m args below meth c s₁ B hml hv
  obtain ⟨rfl, hP, hK, hN⟩ := hv
  have hx := B.exec
  have hb := B.bytes
  have hr := B.returns
  have hts := atoms_spec (ws := wsX5_group) B.pre
  have hown : s.vm.findClass RX5 = some m.cls := findClass_of_methodNamed B.named
  have hlocks := B.notSynchronized
  have w_1 := hts (.fieldLink RX5 10 "ScannedDigits" "now" "LScannedDigits$State;") (List.mem_of_getElem? (i := 1) rfl)
  have w_2 := hts (.fieldLink RX5 85 "ScannedDigits$State" "on" "[I") (List.mem_of_getElem? (i := 2) rfl)
  have w_3 := hts (.fieldLink RX5 89 "ScannedDigits$State" "off" "[I") (List.mem_of_getElem? (i := 3) rfl)
  have hiX5 : ∀ w ∈ wsX50, w ∈ wsX5_group := fun w h => (goodIn_r wsX50 [23, 24, 25, 26, 27] (by decide +kernel) (by decide +kernel) w h).1
  have hiX3 : ∀ w ∈ wsX30, w ∈ wsX5_group := fun w h => (goodIn_r wsX30 [28, 29, 30, 31, 32, 33, 34, 35, 36, 37, 38, 39, 40] (by decide +kernel) (by decide +kernel) w h).1
  have hl := lv_entry ([.ref (o 0), .int (nI q), .int y]) (n := 3) (Nat.le_of_ble_eq_true rfl)
  rw [lg_entry_eq]
  generalize (lg_sl ([.ref (o 0), .int (nI q), .int y]) ++ List.replicate (3 - (lg_sl ([.ref (o 0), .int (nI q), .int y])).length) Slot.unset).toArray = ls at hl ⊢
  have hl : lv_has ls 3 [(0, .ref (o 0)), (1, .int (nI q)), (2, .int y)] := hl
  have hin : ¬ pIn (nI q) 0 3 = 0 := pIn_ok (a := 0) (b := 3) rfl rfl (Nat.zero_le _) (by omega) (by decide)
  refine lv_iload_n hx hb dX5_group_0 rfl (lv_at hl 1 rfl) ?_
  refine lv_iconst (v := 0) hx hb dX5_group_1 (by decide) ?_
  refine lv_iconst (v := 3) hx hb dX5_group_2 (by decide) ?_
  refine vp_callSi (va_runS (As := [.int (nI q), .int 0, .int 3]) (rest := []) ⟨hx, hb, hml, hown, hts⟩ (k_X5_isWithin l D ct (nI q) 0 3) (va_cwS 3 hts gX5_group_X5_isWithin rfl rfl rfl (by decide +kernel) ⟨Nat.le_of_ble_eq_true rfl, Nat.le_of_ble_eq_true rfl⟩) ⟨roP.blind, roP.at pw_nil hK hN⟩ rfl rfl hl.1 rfl (lv_room (Nat.le_of_ble_eq_true rfl)) dX5_group_3 ⟨Nat.le_of_ble_eq_true rfl, Nat.le_of_ble_eq_true rfl⟩).run (fun r_3 h_3 => ?_)
  obtain rfl : r_3 = pIn (nI q) 0 3 := h_3
  refine lv_if_ne (tgt := 11) hx hb dX5_group_6 (by decide) (fun c_6 => ?_) (fun c_6 => ?_)
  · refine lv_iload_n hx hb dX5_group_11 rfl (lv_at hl 2 rfl) ?_
    by_cases sw_12 : (y).toInt < 0 ∨ 3 < (y).toInt
    · refine lv_tableOut (tgt := 90) hx hb dX5_group_12 sw_12 (by decide) ?_
      refine lv_bipush (v := (-2)) hx hb dX5_group_90 (by decide) ?_
      exact W.iret (v := (-2)) hx hb hr (fun tt ht hW => ⟨(-2), rfl, pGrp_out sw_12, ht⟩) (fun q hq => absurd hq List.not_mem_nil) dX5_group_92
    · have sv_12 : y = 0 ∨ y = 1 ∨ y = 2 ∨ y = 3 := sw_cases_0_3 sw_12
      rcases sv_12 with rfl | rfl | rfl | rfl
      · refine lv_tableIn (off := 32) (tgt := 44) hx hb dX5_group_12 (by decide) (by decide) (by decide) (by decide) ?_
        refine lv_aload_n hx hb dX5_group_44 rfl (lv_at hl 0 rfl) ?_
        refine va_get (D := D) (ci := 5) (v := .ref ((ad 8) 0)) (C := RX5) (T := TX5) (N := 5) hx hb hts hiX5 hown hK hP 29 (xw_get (i := 0) rfl) rfl 0 (by decide) w_1 (fun _ h9 => h9) rfl dX5_group_45 ?_
        refine va_get (D := D) (ci := 3) (v := .ref ((ad 8) 2)) (C := RX3) (T := TX3) (N := 13) hx hb hts hiX3 hown hK hP 0 sa_c0 rfl 2 (by decide) w_2 (fun _ h9 => h9) rfl dX5_group_48 ?_
        refine lv_iload_n hx hb dX5_group_51 rfl (lv_at hl 1 rfl) ?_
        refine r_iald hx hb hK hP 2 0 sa_c2 rfl (k := q) (rfl) (by omega) (by decide) dX5_group_52 ?_
        exact W.iret (v := ((v.1 1) q)) hx hb hr (fun tt ht hW => ⟨((v.1 1) q), rfl, rfl, ht⟩) (fun q hq => absurd hq List.not_mem_nil) dX5_group_53
      · refine lv_tableIn (off := 42) (tgt := 54) hx hb dX5_group_12 (by decide) (by decide) (by decide) (by decide) ?_
        refine lv_aload_n hx hb dX5_group_54 rfl (lv_at hl 0 rfl) ?_
        refine va_get (D := D) (ci := 5) (v := .ref ((ad 8) 0)) (C := RX5) (T := TX5) (N := 5) hx hb hts hiX5 hown hK hP 29 (xw_get (i := 0) rfl) rfl 0 (by decide) w_1 (fun _ h9 => h9) rfl dX5_group_55 ?_
        refine va_get (D := D) (ci := 3) (v := .ref ((ad 8) 3)) (C := RX3) (T := TX3) (N := 13) hx hb hts hiX3 hown hK hP 0 sa_c0 rfl 3 (by decide) w_3 (fun _ h9 => h9) rfl dX5_group_58 ?_
        refine lv_iload_n hx hb dX5_group_61 rfl (lv_at hl 1 rfl) ?_
        refine r_iald hx hb hK hP 3 0 sa_c3 rfl (k := q) (rfl) (by omega) (by decide) dX5_group_62 ?_
        exact W.iret (v := ((v.1 2) q)) hx hb hr (fun tt ht hW => ⟨((v.1 2) q), rfl, rfl, ht⟩) (fun q hq => absurd hq List.not_mem_nil) dX5_group_63
      · refine lv_tableIn (off := 52) (tgt := 64) hx hb dX5_group_12 (by decide) (by decide) (by decide) (by decide) ?_
        refine lv_aload_n hx hb dX5_group_64 rfl (lv_at hl 0 rfl) ?_
        refine va_get (D := D) (ci := 5) (v := .ref ((ad 8) 0)) (C := RX5) (T := TX5) (N := 5) hx hb hts hiX5 hown hK hP 29 (xw_get (i := 0) rfl) rfl 0 (by decide) w_1 (fun _ h9 => h9) rfl dX5_group_65 ?_
        refine lv_iload_n hx hb dX5_group_68 rfl (lv_at hl 1 rfl) ?_
        refine vp_callSi (va_runV (As := [.int (nI q)]) (rest := []) ⟨hx, hb, hml, hown, hts⟩ (k_X3_isGroupOn l D ct (ad 8) v q hg ok) (cwV 1 hts gX5_group_X3_isGroupOn rfl rfl rfl (by decide +kernel) ⟨Nat.le_of_ble_eq_true rfl, Nat.le_of_ble_eq_true rfl⟩) ⟨roP.blind, va_recv hK (pw_left hP) (ci := 3) (q0 := 0) rfl rfl, roP.at (pw_left hP) hK hN⟩ rfl rfl hl.1 rfl (lv_room (Nat.le_of_ble_eq_true rfl)) dX5_group_69 ⟨Nat.le_of_ble_eq_true rfl, Nat.le_of_ble_eq_true rfl⟩).run (fun r_69 h_69 => ?_)
        obtain rfl : r_69 = if pOn v q then 1 else 0 := h_69
        refine lv_if_eq (tgt := 79) hx hb dX5_group_72 (by decide) (fun c_72 => ?_) (fun c_72 => ?_)
        · have hon : ¬ pOn v q := fun z => by rw [if_pos z] at c_72; exact absurd c_72 (by decide)
          refine lv_iconst (v := 0) hx hb dX5_group_79 (by decide) ?_
          exact W.iret (v := 0) hx hb hr (fun tt ht hW => ⟨0, rfl, (if_neg hon).symm, ht⟩) (fun q hq => absurd hq List.not_mem_nil) dX5_group_80
        · have hon : pOn v q := Classical.byContradiction (fun z => by rw [if_neg z] at c_72; exact c_72 rfl)
          refine lv_iconst (v := 1) hx hb dX5_group_75 (by decide) ?_
          refine lv_goto (tgt := 80) hx hb dX5_group_76 (by decide) ?_
          exact W.iret (v := 1) hx hb hr (fun tt ht hW => ⟨1, rfl, (if_pos hon).symm, ht⟩) (fun q hq => absurd hq List.not_mem_nil) dX5_group_80
      · refine lv_tableIn (off := 69) (tgt := 81) hx hb dX5_group_12 (by decide) (by decide) (by decide) (by decide) ?_
        refine lv_aload_n hx hb dX5_group_81 rfl (lv_at hl 0 rfl) ?_
        refine va_get (D := D) (ci := 5) (v := .ref ((ad 8) 0)) (C := RX5) (T := TX5) (N := 5) hx hb hts hiX5 hown hK hP 29 (xw_get (i := 0) rfl) rfl 0 (by decide) w_1 (fun _ h9 => h9) rfl dX5_group_82 ?_
        refine lv_iload_n hx hb dX5_group_85 rfl (lv_at hl 1 rfl) ?_
        refine vp_callSi (va_runV (As := [.int (nI q)]) (rest := []) ⟨hx, hb, hml, hown, hts⟩ (k_X3_digitsInGroup l D ct (ad 8) v (nI q) ok.n8 ok.cnt) (cwV 1 hts gX5_group_X3_digitsInGroup rfl rfl rfl (by decide +kernel) ⟨Nat.le_of_ble_eq_true rfl, Nat.le_of_ble_eq_true rfl⟩) ⟨roP.blind, va_recv hK (pw_left hP) (ci := 3) (q0 := 0) rfl rfl, roP.at (pw_left hP) hK hN⟩ rfl rfl hl.1 rfl (lv_room (Nat.le_of_ble_eq_true rfl)) dX5_group_86 ⟨Nat.le_of_ble_eq_true rfl, Nat.le_of_ble_eq_true rfl⟩).run (fun r_86 h_86 => ?_)
        obtain rfl : r_86 = pDin v (nI q) (nOf v) := h_86
        exact W.iret (v := (pDin v (nI q) (nOf v))) hx hb hr (fun tt ht hW => ⟨(pDin v (nI q) (nOf v)), rfl, rfl, ht⟩) (fun q hq => absurd hq List.not_mem_nil) dX5_group_89
  · exact absurd c_6 hin
