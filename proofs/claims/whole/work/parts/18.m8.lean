set_option maxHeartbeats 4000000 in
set_option maxRecDepth 100000 in
theorem k_X6_digit_e1 (l : Launch) (D : va_G) (ct : Nat → ClassId) (a : Nat → Nat) (v u : SV) (w sl : Nat → SV) (k t : Nat) (hk : k ≤ 5) (ik tx rd : Nat → Int32) (x y : Int32) (hnd : ¬ vD v x) : Met l yX6_digit wsX6_digit ({ frames := 2, cells := 0, slots := 0, locals := 45 }) (roP D ct (mG ct a (nI k) (nI t) (rowOf v) v.2 (rowOf u) u.2 (hisI w) (hisF w) (hisI sl) (hisF sl) ik tx rd) [.ref (a 0), .int x, .int y]) (vp_Si (fun r => r = -1)) 0 0 noA := by
  refine Met.ofW (cc := cX6_digit) (maxL := 3) (ret := (some .int)) (by decide) rfl ?_
  intro p e s m args below meth c s₁ B hml hv
  obtain ⟨rfl, hP, hK, hN⟩ := hv
  have hx := B.exec
  have hb := B.bytes
  have hr := B.returns
  have hts := atoms_spec (ws := wsX6_digit) B.pre
  have hown : s.vm.findClass RX6 = some m.cls := findClass_of_methodNamed B.named
  have hlocks := B.notSynchronized
  have hl := lv_entry ([.ref (a 0), .int x, .int y]) (n := 3) (Nat.le_of_ble_eq_true rfl)
  rw [lg_entry_eq]
  generalize (lg_sl ([.ref (a 0), .int x, .int y]) ++ List.replicate (3 - (lg_sl ([.ref (a 0), .int x, .int y])).length) Slot.unset).toArray = ls at hl ⊢
  have hl : lv_has ls 3 [(0, .ref (a 0)), (1, .int x), (2, .int y)] := hl
  refine lv_aload_n hx hb dX6_digit_0 rfl (lv_at hl 0 rfl) ?_
  refine lv_iload_n hx hb dX6_digit_1 rfl (lv_at hl 1 rfl) ?_
  refine vp_callSi (va_runV (As := [.int x]) (rest := []) ⟨hx, hb, hml, hown, hts⟩ (k_X6_noDigit l D ct (a 0) (a 1) (mTl a (nI k) (nI t)) v x) (cwV 1 hts gX6_digit_X6_noDigit rfl rfl rfl (by decide +kernel) ⟨Nat.le_of_ble_eq_true rfl, Nat.le_of_ble_eq_true rfl⟩) ⟨roP.blind, va_recv hK (mG_R hP) (ci := 6) (q0 := 0) rfl rfl, roP.at (mG_R hP) hK hN⟩ rfl rfl hl.1 rfl (lv_room (Nat.le_of_ble_eq_true rfl)) dX6_digit_2 ⟨Nat.le_of_ble_eq_true rfl, Nat.le_of_ble_eq_true rfl⟩).run (fun r_2 h_2 => ?_)
  obtain rfl : r_2 = if vD v x then 0 else 1 := h_2
  refine lv_if_eq (tgt := 10) hx hb dX6_digit_5 (by decide) (fun c_5 => ?_) (fun c_5 => ?_)
  · exact absurd ((if_neg hnd).symm.trans c_5) (by decide)
  · refine lv_iconst (v := (-1)) hx hb dX6_digit_8 (by decide) ?_
    exact W.iret (v := (-1)) hx hb hr (fun tt ht hW => ⟨(-1), rfl, rfl, ht⟩) (fun q hq => absurd hq List.not_mem_nil) dX6_digit_9

set_option maxHeartbeats 4000000 in
set_option maxRecDepth 100000 in
theorem k_X6_digit_ok (l : Launch) (D : va_G) (ct : Nat → ClassId) (a : Nat → Nat) (v u : SV) (w sl : Nat → SV) (k t : Nat) (hk : k ≤ 5) (ik tx rd : Nat → Int32) (ok : Inv v) (d : Nat) (hd : d < nOf v) (y : Int32) : Met l yX6_digit wsX6_digit ({ frames := 2, cells := 0, slots := 0, locals := 45 }) (roP D ct (mG ct a (nI k) (nI t) (rowOf v) v.2 (rowOf u) u.2 (hisI w) (hisF w) (hisI sl) (hisF sl) ik tx rd) [.ref (a 0), .int (nI d), .int y]) (vp_Si (fun r => r = pDgt v d y)) 0 0 noA := by
  refine Met.ofW (cc := cX6_digit) (maxL := 3) (ret := (some .int)) (by decide) rfl ?_
  intro p e s m args below meth c s₁ B hml hv
  obtain ⟨rfl, hP, hK, hN⟩ := hv
  have hx := B.exec
  have hb := B.bytes
  have hr := B.returns
  have hts := atoms_spec (ws := wsX6_digit) B.pre
  have hown : s.vm.findClass RX6 = some m.cls := findClass_of_methodNamed B.named
  have hlocks := B.notSynchronized
  have w_1 := hts (.fieldLink RX6 7 "ScannedDigitsModel" "row" "[I") (List.mem_of_getElem? (i := 1) rfl)
  have hiX6 : ∀ w ∈ wsX60, w ∈ wsX6_digit := fun w h => (goodIn_r wsX60 [37, 38, 39, 40, 41, 42, 43, 44, 45, 46, 47, 48, 49] (by decide +kernel) (by decide +kernel) w h).1
  have hl := lv_entry ([.ref (a 0), .int (nI d), .int y]) (n := 3) (Nat.le_of_ble_eq_true rfl)
  rw [lg_entry_eq]
  generalize (lg_sl ([.ref (a 0), .int (nI d), .int y]) ++ List.replicate (3 - (lg_sl ([.ref (a 0), .int (nI d), .int y])).length) Slot.unset).toArray = ls at hl ⊢
  have hl : lv_has ls 3 [(0, .ref (a 0)), (1, .int (nI d)), (2, .int y)] := hl
  have hd8 : d < 8 := Nat.lt_of_lt_of_le hd ok.n8
  have hvd := vD_of ok hd
  refine lv_aload_n hx hb dX6_digit_0 rfl (lv_at hl 0 rfl) ?_
  refine lv_iload_n hx hb dX6_digit_1 rfl (lv_at hl 1 rfl) ?_
  refine vp_callSi (va_runV (As := [.int (nI d)]) (rest := []) ⟨hx, hb, hml, hown, hts⟩ (k_X6_noDigit l D ct (a 0) (a 1) (mTl a (nI k) (nI t)) v (nI d)) (cwV 1 hts gX6_digit_X6_noDigit rfl rfl rfl (by decide +kernel) ⟨Nat.le_of_ble_eq_true rfl, Nat.le_of_ble_eq_true rfl⟩) ⟨roP.blind, va_recv hK (mG_R hP) (ci := 6) (q0 := 0) rfl rfl, roP.at (mG_R hP) hK hN⟩ rfl rfl hl.1 rfl (lv_room (Nat.le_of_ble_eq_true rfl)) dX6_digit_2 ⟨Nat.le_of_ble_eq_true rfl, Nat.le_of_ble_eq_true rfl⟩).run (fun r_2 h_2 => ?_)
  obtain rfl : r_2 = if vD v (nI d) then 0 else 1 := h_2
  refine lv_if_eq (tgt := 10) hx hb dX6_digit_5 (by decide) (fun c_5 => ?_) (fun c_5 => ?_)
  · refine lv_iload_n hx hb dX6_digit_10 rfl (lv_at hl 2 rfl) ?_
    by_cases sw_11 : (y).toInt < 0 ∨ 11 < (y).toInt
    · refine lv_tableOut (tgt := 135) hx hb dX6_digit_11 sw_11 (by decide) ?_
      refine lv_bipush (v := (-2)) hx hb dX6_digit_135 (by decide) ?_
      exact W.iret (v := (-2)) hx hb hr (fun tt ht hW => ⟨(-2), rfl, pDgt_out sw_11, ht⟩) (fun q hq => absurd hq List.not_mem_nil) dX6_digit_137
    · have sv_11 : y = 0 ∨ y = 1 ∨ y = 2 ∨ y = 3 ∨ y = 4 ∨ y = 5 ∨ y = 6 ∨ y = 7 ∨ y = 8 ∨ y = 9 ∨ y = 10 ∨ y = 11 := sw_cases_0_11 sw_11
      rcases sv_11 with rfl | rfl | rfl | rfl | rfl | rfl | rfl | rfl | rfl | rfl | rfl | rfl
      · refine lv_tableIn (off := 61) (tgt := 72) hx hb dX6_digit_11 (by decide) (by decide) (by decide) (by decide) ?_
        refine lv_aload_n hx hb dX6_digit_72 rfl (lv_at hl 0 rfl) ?_
        refine lv_iload_n hx hb dX6_digit_73 rfl (lv_at hl 1 rfl) ?_
        refine lv_iload_n hx hb dX6_digit_74 rfl (lv_at hl 2 rfl) ?_
        refine vp_callSi (va_runV (As := [.int (nI d), .int 0]) (rest := []) ⟨hx, hb, hml, hown, hts⟩ (k_X6_of l D ct (a 0) (a 1) (mTl a (nI k) (nI t)) v d 0 hd8 (by decide)) (cwV 2 hts gX6_digit_X6_of rfl rfl rfl (by decide +kernel) ⟨Nat.le_of_ble_eq_true rfl, Nat.le_of_ble_eq_true rfl⟩) ⟨roP.blind, va_recv hK (mG_R hP) (ci := 6) (q0 := 0) rfl rfl, roP.at (mG_R hP) hK hN⟩ rfl rfl hl.1 rfl (lv_room (Nat.le_of_ble_eq_true rfl)) dX6_digit_75 ⟨Nat.le_of_ble_eq_true rfl, Nat.le_of_ble_eq_true rfl⟩).run (fun r_75 h_75 => ?_)
        obtain rfl : r_75 = v.1 (4 + d) 0 := h_75
        exact W.iret (v := (v.1 (4 + d) 0)) hx hb hr (fun tt ht hW => ⟨(v.1 (4 + d) 0), rfl, rfl, ht⟩) (fun q hq => absurd hq List.not_mem_nil) dX6_digit_78
      · refine lv_tableIn (off := 61) (tgt := 72) hx hb dX6_digit_11 (by decide) (by decide) (by decide) (by decide) ?_
        refine lv_aload_n hx hb dX6_digit_72 rfl (lv_at hl 0 rfl) ?_
        refine lv_iload_n hx hb dX6_digit_73 rfl (lv_at hl 1 rfl) ?_
        refine lv_iload_n hx hb dX6_digit_74 rfl (lv_at hl 2 rfl) ?_
        refine vp_callSi (va_runV (As := [.int (nI d), .int 1]) (rest := []) ⟨hx, hb, hml, hown, hts⟩ (k_X6_of l D ct (a 0) (a 1) (mTl a (nI k) (nI t)) v d 1 hd8 (by decide)) (cwV 2 hts gX6_digit_X6_of rfl rfl rfl (by decide +kernel) ⟨Nat.le_of_ble_eq_true rfl, Nat.le_of_ble_eq_true rfl⟩) ⟨roP.blind, va_recv hK (mG_R hP) (ci := 6) (q0 := 0) rfl rfl, roP.at (mG_R hP) hK hN⟩ rfl rfl hl.1 rfl (lv_room (Nat.le_of_ble_eq_true rfl)) dX6_digit_75 ⟨Nat.le_of_ble_eq_true rfl, Nat.le_of_ble_eq_true rfl⟩).run (fun r_75 h_75 => ?_)
        obtain rfl : r_75 = v.1 (4 + d) 1 := h_75
        exact W.iret (v := (v.1 (4 + d) 1)) hx hb hr (fun tt ht hW => ⟨(v.1 (4 + d) 1), rfl, rfl, ht⟩) (fun q hq => absurd hq List.not_mem_nil) dX6_digit_78
      · refine lv_tableIn (off := 61) (tgt := 72) hx hb dX6_digit_11 (by decide) (by decide) (by decide) (by decide) ?_
        refine lv_aload_n hx hb dX6_digit_72 rfl (lv_at hl 0 rfl) ?_
        refine lv_iload_n hx hb dX6_digit_73 rfl (lv_at hl 1 rfl) ?_
        refine lv_iload_n hx hb dX6_digit_74 rfl (lv_at hl 2 rfl) ?_
        refine vp_callSi (va_runV (As := [.int (nI d), .int 2]) (rest := []) ⟨hx, hb, hml, hown, hts⟩ (k_X6_of l D ct (a 0) (a 1) (mTl a (nI k) (nI t)) v d 2 hd8 (by decide)) (cwV 2 hts gX6_digit_X6_of rfl rfl rfl (by decide +kernel) ⟨Nat.le_of_ble_eq_true rfl, Nat.le_of_ble_eq_true rfl⟩) ⟨roP.blind, va_recv hK (mG_R hP) (ci := 6) (q0 := 0) rfl rfl, roP.at (mG_R hP) hK hN⟩ rfl rfl hl.1 rfl (lv_room (Nat.le_of_ble_eq_true rfl)) dX6_digit_75 ⟨Nat.le_of_ble_eq_true rfl, Nat.le_of_ble_eq_true rfl⟩).run (fun r_75 h_75 => ?_)
        obtain rfl : r_75 = v.1 (4 + d) 2 := h_75
        exact W.iret (v := (v.1 (4 + d) 2)) hx hb hr (fun tt ht hW => ⟨(v.1 (4 + d) 2), rfl, rfl, ht⟩) (fun q hq => absurd hq List.not_mem_nil) dX6_digit_78
      · refine lv_tableIn (off := 61) (tgt := 72) hx hb dX6_digit_11 (by decide) (by decide) (by decide) (by decide) ?_
        refine lv_aload_n hx hb dX6_digit_72 rfl (lv_at hl 0 rfl) ?_
        refine lv_iload_n hx hb dX6_digit_73 rfl (lv_at hl 1 rfl) ?_
        refine lv_iload_n hx hb dX6_digit_74 rfl (lv_at hl 2 rfl) ?_
        refine vp_callSi (va_runV (As := [.int (nI d), .int 3]) (rest := []) ⟨hx, hb, hml, hown, hts⟩ (k_X6_of l D ct (a 0) (a 1) (mTl a (nI k) (nI t)) v d 3 hd8 (by decide)) (cwV 2 hts gX6_digit_X6_of rfl rfl rfl (by decide +kernel) ⟨Nat.le_of_ble_eq_true rfl, Nat.le_of_ble_eq_true rfl⟩) ⟨roP.blind, va_recv hK (mG_R hP) (ci := 6) (q0 := 0) rfl rfl, roP.at (mG_R hP) hK hN⟩ rfl rfl hl.1 rfl (lv_room (Nat.le_of_ble_eq_true rfl)) dX6_digit_75 ⟨Nat.le_of_ble_eq_true rfl, Nat.le_of_ble_eq_true rfl⟩).run (fun r_75 h_75 => ?_)
        obtain rfl : r_75 = v.1 (4 + d) 3 := h_75
        exact W.iret (v := (v.1 (4 + d) 3)) hx hb hr (fun tt ht hW => ⟨(v.1 (4 + d) 3), rfl, rfl, ht⟩) (fun q hq => absurd hq List.not_mem_nil) dX6_digit_78
      · refine lv_tableIn (off := 61) (tgt := 72) hx hb dX6_digit_11 (by decide) (by decide) (by decide) (by decide) ?_
        refine lv_aload_n hx hb dX6_digit_72 rfl (lv_at hl 0 rfl) ?_
        refine lv_iload_n hx hb dX6_digit_73 rfl (lv_at hl 1 rfl) ?_
        refine lv_iload_n hx hb dX6_digit_74 rfl (lv_at hl 2 rfl) ?_
        refine vp_callSi (va_runV (As := [.int (nI d), .int 4]) (rest := []) ⟨hx, hb, hml, hown, hts⟩ (k_X6_of l D ct (a 0) (a 1) (mTl a (nI k) (nI t)) v d 4 hd8 (by decide)) (cwV 2 hts gX6_digit_X6_of rfl rfl rfl (by decide +kernel) ⟨Nat.le_of_ble_eq_true rfl, Nat.le_of_ble_eq_true rfl⟩) ⟨roP.blind, va_recv hK (mG_R hP) (ci := 6) (q0 := 0) rfl rfl, roP.at (mG_R hP) hK hN⟩ rfl rfl hl.1 rfl (lv_room (Nat.le_of_ble_eq_true rfl)) dX6_digit_75 ⟨Nat.le_of_ble_eq_true rfl, Nat.le_of_ble_eq_true rfl⟩).run (fun r_75 h_75 => ?_)
        obtain rfl : r_75 = v.1 (4 + d) 4 := h_75
        exact W.iret (v := (v.1 (4 + d) 4)) hx hb hr (fun tt ht hW => ⟨(v.1 (4 + d) 4), rfl, rfl, ht⟩) (fun q hq => absurd hq List.not_mem_nil) dX6_digit_78
      · refine lv_tableIn (off := 68) (tgt := 79) hx hb dX6_digit_11 (by decide) (by decide) (by decide) (by decide) ?_
        refine lv_aload_n hx hb dX6_digit_79 rfl (lv_at hl 0 rfl) ?_
        refine lv_iload_n hx hb dX6_digit_80 rfl (lv_at hl 1 rfl) ?_
        refine vp_callSi (va_runV (As := [.int (nI d)]) (rest := []) ⟨hx, hb, hml, hown, hts⟩ (k_X6_litPart l D ct (a 0) (a 1) (mTl a (nI k) (nI t)) v d hd8) (cwV 1 hts gX6_digit_X6_litPart rfl rfl rfl (by decide +kernel) ⟨Nat.le_of_ble_eq_true rfl, Nat.le_of_ble_eq_true rfl⟩) ⟨roP.blind, va_recv hK (mG_R hP) (ci := 6) (q0 := 0) rfl rfl, roP.at (mG_R hP) hK hN⟩ rfl rfl hl.1 rfl (lv_room (Nat.le_of_ble_eq_true rfl)) dX6_digit_81 ⟨Nat.le_of_ble_eq_true rfl, Nat.le_of_ble_eq_true rfl⟩).run (fun r_81 h_81 => ?_)
        obtain rfl : r_81 = pLP v d := h_81
        exact W.iret (v := (pLP v d)) hx hb hr (fun tt ht hW => ⟨(pLP v d), rfl, rfl, ht⟩) (fun q hq => absurd hq List.not_mem_nil) dX6_digit_84
      · refine lv_tableIn (off := 74) (tgt := 85) hx hb dX6_digit_11 (by decide) (by decide) (by decide) (by decide) ?_
        refine lv_aload_n hx hb dX6_digit_85 rfl (lv_at hl 0 rfl) ?_
        refine lv_iload_n hx hb dX6_digit_86 rfl (lv_at hl 1 rfl) ?_
        refine vp_callSi (va_runV (As := [.int (nI d)]) (rest := []) ⟨hx, hb, hml, hown, hts⟩ (k_X6_beginOf l D ct (a 0) (a 1) (mTl a (nI k) (nI t)) v d (by omega)) (cwV 1 hts gX6_digit_X6_beginOf rfl rfl rfl (by decide +kernel) ⟨Nat.le_of_ble_eq_true rfl, Nat.le_of_ble_eq_true rfl⟩) ⟨roP.blind, va_recv hK (mG_R hP) (ci := 6) (q0 := 0) rfl rfl, roP.at (mG_R hP) hK hN⟩ rfl rfl hl.1 rfl (lv_room (Nat.le_of_ble_eq_true rfl)) dX6_digit_87 ⟨Nat.le_of_ble_eq_true rfl, Nat.le_of_ble_eq_true rfl⟩).run (fun r_87 h_87 => ?_)
        obtain rfl : r_87 = pBeg v d := h_87
        exact W.iret (v := (pBeg v d)) hx hb hr (fun tt ht hW => ⟨(pBeg v d), rfl, rfl, ht⟩) (fun q hq => absurd hq List.not_mem_nil) dX6_digit_90
      · refine lv_tableIn (off := 80) (tgt := 91) hx hb dX6_digit_11 (by decide) (by decide) (by decide) (by decide) ?_
        refine lv_aload_n hx hb dX6_digit_91 rfl (lv_at hl 0 rfl) ?_
        refine lv_iload_n hx hb dX6_digit_92 rfl (lv_at hl 1 rfl) ?_
        refine vp_callSi (va_runV (As := [.int (nI d)]) (rest := []) ⟨hx, hb, hml, hown, hts⟩ (k_X6_seenOf l D ct (a 0) (a 1) (mTl a (nI k) (nI t)) v d hd8) (cwV 1 hts gX6_digit_X6_seenOf rfl rfl rfl (by decide +kernel) ⟨Nat.le_of_ble_eq_true rfl, Nat.le_of_ble_eq_true rfl⟩) ⟨roP.blind, va_recv hK (mG_R hP) (ci := 6) (q0 := 0) rfl rfl, roP.at (mG_R hP) hK hN⟩ rfl rfl hl.1 rfl (lv_room (Nat.le_of_ble_eq_true rfl)) dX6_digit_93 ⟨Nat.le_of_ble_eq_true rfl, Nat.le_of_ble_eq_true rfl⟩).run (fun r_93 h_93 => ?_)
        obtain rfl : r_93 = pSeen (v.1 (12 + d)) (v.1 3 1) 8 := h_93
        exact W.iret (v := (pSeen (v.1 (12 + d)) (v.1 3 1) 8)) hx hb hr (fun tt ht hW => ⟨(pSeen (v.1 (12 + d)) (v.1 3 1) 8), rfl, rfl, ht⟩) (fun q hq => absurd hq List.not_mem_nil) dX6_digit_96
      · refine lv_tableIn (off := 86) (tgt := 97) hx hb dX6_digit_11 (by decide) (by decide) (by decide) (by decide) ?_
        refine lv_aload_n hx hb dX6_digit_97 rfl (lv_at hl 0 rfl) ?_
        refine va_get (D := D) (ci := 6) (v := .ref (a 1)) (C := RX6) (T := TX6) (N := 13) hx hb hts hiX6 hown hK hP 0 rfl rfl 0 (by decide) w_1 (fun _ h9 => h9) rfl dX6_digit_98 ?_
        refine lv_sipush (v := 192) hx hb dX6_digit_101 (by decide) ?_
        refine lv_iload_n hx hb dX6_digit_104 rfl (lv_at hl 1 rfl) ?_
        refine lv_iadd hx hb dX6_digit_105 ?_
        refine r_iald hx hb hK hP 1 0 rfl rfl (k := 192 + d) (ix_a 192 d 192 rfl) (by omega) (by decide) dX6_digit_106 ?_
        refine lv_as (y := v.1 (4 + d) 6) (row_b v hd8) ?_
        exact W.iret (v := (v.1 (4 + d) 6)) hx hb hr (fun tt ht hW => ⟨(v.1 (4 + d) 6), rfl, rfl, ht⟩) (fun q hq => absurd hq List.not_mem_nil) dX6_digit_107
      · refine lv_tableIn (off := 97) (tgt := 108) hx hb dX6_digit_11 (by decide) (by decide) (by decide) (by decide) ?_
        refine lv_aload_n hx hb dX6_digit_108 rfl (lv_at hl 0 rfl) ?_
        refine lv_iload_n hx hb dX6_digit_109 rfl (lv_at hl 1 rfl) ?_
        refine vp_callSi (va_runV (As := [.int (nI d)]) (rest := []) ⟨hx, hb, hml, hown, hts⟩ (k_X6_glowOf l D ct (a 0) (a 1) (mTl a (nI k) (nI t)) v d hd8) (cwV 1 hts gX6_digit_X6_glowOf rfl rfl rfl (by decide +kernel) ⟨Nat.le_of_ble_eq_true rfl, Nat.le_of_ble_eq_true rfl⟩) ⟨roP.blind, va_recv hK (mG_R hP) (ci := 6) (q0 := 0) rfl rfl, roP.at (mG_R hP) hK hN⟩ rfl rfl hl.1 rfl (lv_room (Nat.le_of_ble_eq_true rfl)) dX6_digit_110 ⟨Nat.le_of_ble_eq_true rfl, Nat.le_of_ble_eq_true rfl⟩).run (fun r_110 h_110 => ?_)
        obtain rfl : r_110 = pSum (v.1 (12 + d)) 8 := h_110
        exact W.iret (v := (pSum (v.1 (12 + d)) 8)) hx hb hr (fun tt ht hW => ⟨(pSum (v.1 (12 + d)) 8), rfl, rfl, ht⟩) (fun q hq => absurd hq List.not_mem_nil) dX6_digit_113
      · refine lv_tableIn (off := 103) (tgt := 114) hx hb dX6_digit_11 (by decide) (by decide) (by decide) (by decide) ?_
        refine lv_aload_n hx hb dX6_digit_114 rfl (lv_at hl 0 rfl) ?_
        refine lv_aload_n hx hb dX6_digit_115 rfl (lv_at hl 0 rfl) ?_
        refine lv_iload_n hx hb dX6_digit_116 rfl (lv_at hl 1 rfl) ?_
        refine lv_iconst (v := 0) hx hb dX6_digit_117 (by decide) ?_
        refine vp_callSi (va_runV (As := [.int (nI d), .int 0]) (rest := [.ref (a 0)]) ⟨hx, hb, hml, hown, hts⟩ (k_X6_of l D ct (a 0) (a 1) (mTl a (nI k) (nI t)) v d 0 hd8 (by decide)) (cwV 2 hts gX6_digit_X6_of rfl rfl rfl (by decide +kernel) ⟨Nat.le_of_ble_eq_true rfl, Nat.le_of_ble_eq_true rfl⟩) ⟨roP.blind, va_recv hK (mG_R hP) (ci := 6) (q0 := 0) rfl rfl, roP.at (mG_R hP) hK hN⟩ rfl rfl hl.1 rfl (lv_room (Nat.le_of_ble_eq_true rfl)) dX6_digit_118 ⟨Nat.le_of_ble_eq_true rfl, Nat.le_of_ble_eq_true rfl⟩).run (fun r_118 h_118 => ?_)
        obtain rfl : r_118 = v.1 (4 + d) 0 := h_118
        refine lv_bipush (v := 127) hx hb dX6_digit_121 (by decide) ?_
        refine lv_iand hx hb dX6_digit_123 ?_
        refine vp_callSi (va_runV (As := [.int ((v.1 (4 + d) 0) &&& 127)]) (rest := []) ⟨hx, hb, hml, hown, hts⟩ (k_X6_charOf l D ct (a 0) (a 1) (mTl a (nI k) (nI t)) v (v.1 (4 + d) 0 &&& 127)) (cwV 1 hts gX6_digit_X6_charOf rfl rfl rfl (by decide +kernel) ⟨Nat.le_of_ble_eq_true rfl, Nat.le_of_ble_eq_true rfl⟩) ⟨roP.blind, va_recv hK (mG_R hP) (ci := 6) (q0 := 0) rfl rfl, roP.at (mG_R hP) hK hN⟩ rfl rfl hl.1 rfl (lv_room (Nat.le_of_ble_eq_true rfl)) dX6_digit_124 ⟨Nat.le_of_ble_eq_true rfl, Nat.le_of_ble_eq_true rfl⟩).run (fun r_124 h_124 => ?_)
        obtain rfl : r_124 = pChr (v.1 (4 + d) 0 &&& 127) := h_124
        exact W.iret (v := (pChr (v.1 (4 + d) 0 &&& 127))) hx hb hr (fun tt ht hW => ⟨(pChr (v.1 (4 + d) 0 &&& 127)), rfl, rfl, ht⟩) (fun q hq => absurd hq List.not_mem_nil) dX6_digit_127
      · refine lv_tableIn (off := 117) (tgt := 128) hx hb dX6_digit_11 (by decide) (by decide) (by decide) (by decide) ?_
        refine lv_aload_n hx hb dX6_digit_128 rfl (lv_at hl 0 rfl) ?_
        refine lv_iload_n hx hb dX6_digit_129 rfl (lv_at hl 1 rfl) ?_
        refine lv_iconst (v := 5) hx hb dX6_digit_130 (by decide) ?_
        refine vp_callSi (va_runV (As := [.int (nI d), .int 5]) (rest := []) ⟨hx, hb, hml, hown, hts⟩ (k_X6_of l D ct (a 0) (a 1) (mTl a (nI k) (nI t)) v d 5 hd8 (by decide)) (cwV 2 hts gX6_digit_X6_of rfl rfl rfl (by decide +kernel) ⟨Nat.le_of_ble_eq_true rfl, Nat.le_of_ble_eq_true rfl⟩) ⟨roP.blind, va_recv hK (mG_R hP) (ci := 6) (q0 := 0) rfl rfl, roP.at (mG_R hP) hK hN⟩ rfl rfl hl.1 rfl (lv_room (Nat.le_of_ble_eq_true rfl)) dX6_digit_131 ⟨Nat.le_of_ble_eq_true rfl, Nat.le_of_ble_eq_true rfl⟩).run (fun r_131 h_131 => ?_)
        obtain rfl : r_131 = v.1 (4 + d) 5 := h_131
        exact W.iret (v := (v.1 (4 + d) 5)) hx hb hr (fun tt ht hW => ⟨(v.1 (4 + d) 5), rfl, rfl, ht⟩) (fun q hq => absurd hq List.not_mem_nil) dX6_digit_134
  · exact absurd (if_pos hvd) c_5

set_option maxHeartbeats 4000000 in
set_option maxRecDepth 100000 in
theorem k_X6_segment_e1 (l : Launch) (D : va_G) (ct : Nat → ClassId) (a : Nat → Nat) (v u : SV) (w sl : Nat → SV) (k t : Nat) (hk : k ≤ 5) (ik tx rd : Nat → Int32) (x y z : Int32) (hnd : ¬ vD v x ∨ pIn y 0 7 = 0) : Met l yX6_segment wsX6_segment ({ frames := 2, cells := 0, slots := 0, locals := 43 }) (roP D ct (mG ct a (nI k) (nI t) (rowOf v) v.2 (rowOf u) u.2 (hisI w) (hisF w) (hisI sl) (hisF sl) ik tx rd) [.ref (a 0), .int x, .int y, .int z]) (vp_Si (fun r => r = -1)) 0 0 noA := by
  refine Met.ofW (cc := cX6_segment) (maxL := 4) (ret := (some .int)) (by decide) rfl ?_
  intro p e s m args below meth c s₁ B hml hv
  obtain ⟨rfl, hP, hK, hN⟩ := hv
  have hx := B.exec
  have hb := B.bytes
  have hr := B.returns
  have hts := atoms_spec (ws := wsX6_segment) B.pre
  have hown : s.vm.findClass RX6 = some m.cls := findClass_of_methodNamed B.named
  have hlocks := B.notSynchronized
  have hl := lv_entry ([.ref (a 0), .int x, .int y, .int z]) (n := 4) (Nat.le_of_ble_eq_true rfl)
  rw [lg_entry_eq]
  generalize (lg_sl ([.ref (a 0), .int x, .int y, .int z]) ++ List.replicate (4 - (lg_sl ([.ref (a 0), .int x, .int y, .int z])).length) Slot.unset).toArray = ls at hl ⊢
  have hl : lv_has ls 4 [(0, .ref (a 0)), (1, .int x), (2, .int y), (3, .int z)] := hl
  refine lv_aload_n hx hb dX6_segment_0 rfl (lv_at hl 0 rfl) ?_
  refine lv_iload_n hx hb dX6_segment_1 rfl (lv_at hl 1 rfl) ?_
  refine vp_callSi (va_runV (As := [.int x]) (rest := []) ⟨hx, hb, hml, hown, hts⟩ (k_X6_noDigit l D ct (a 0) (a 1) (mTl a (nI k) (nI t)) v x) (cwV 1 hts gX6_segment_X6_noDigit rfl rfl rfl (by decide +kernel) ⟨Nat.le_of_ble_eq_true rfl, Nat.le_of_ble_eq_true rfl⟩) ⟨roP.blind, va_recv hK (mG_R hP) (ci := 6) (q0 := 0) rfl rfl, roP.at (mG_R hP) hK hN⟩ rfl rfl hl.1 rfl (lv_room (Nat.le_of_ble_eq_true rfl)) dX6_segment_2 ⟨Nat.le_of_ble_eq_true rfl, Nat.le_of_ble_eq_true rfl⟩).run (fun r_2 h_2 => ?_)
  obtain rfl : r_2 = if vD v x then 0 else 1 := h_2
  refine lv_if_ne (tgt := 18) hx hb dX6_segment_5 (by decide) (fun c_5 => ?_) (fun c_5 => ?_)
  · refine lv_iconst (v := (-1)) hx hb dX6_segment_18 (by decide) ?_
    exact W.iret (v := (-1)) hx hb hr (fun tt ht hW => ⟨(-1), rfl, rfl, ht⟩) (fun q hq => absurd hq List.not_mem_nil) dX6_segment_19
  · have hvd : vD v x := Classical.byContradiction (fun z => absurd ((if_neg z).symm.trans c_5) (by decide))
    refine lv_iload_n hx hb dX6_segment_8 rfl (lv_at hl 2 rfl) ?_
    refine lv_iconst (v := 0) hx hb dX6_segment_9 (by decide) ?_
    refine lv_bipush (v := 7) hx hb dX6_segment_10 (by decide) ?_
    refine vp_callSi (va_runS (As := [.int y, .int 0, .int 7]) (rest := []) ⟨hx, hb, hml, hown, hts⟩ (k_X6_in l D ct y 0 7) (va_cwS 3 hts gX6_segment_X6_in rfl rfl rfl (by decide +kernel) ⟨Nat.le_of_ble_eq_true rfl, Nat.le_of_ble_eq_true rfl⟩) ⟨roP.blind, roP.at pw_nil hK hN⟩ rfl rfl hl.1 rfl (lv_room (Nat.le_of_ble_eq_true rfl)) dX6_segment_12 ⟨Nat.le_of_ble_eq_true rfl, Nat.le_of_ble_eq_true rfl⟩).run (fun r_12 h_12 => ?_)
    obtain rfl : r_12 = pIn y 0 7 := h_12
    refine lv_if_ne (tgt := 20) hx hb dX6_segment_15 (by decide) (fun c_15 => ?_) (fun c_15 => ?_)
    · exact (hnd.elim (fun z => absurd hvd z) (fun z => absurd z c_15))
    · refine lv_iconst (v := (-1)) hx hb dX6_segment_18 (by decide) ?_
      exact W.iret (v := (-1)) hx hb hr (fun tt ht hW => ⟨(-1), rfl, rfl, ht⟩) (fun q hq => absurd hq List.not_mem_nil) dX6_segment_19

set_option maxHeartbeats 4000000 in
set_option maxRecDepth 100000 in
theorem k_X6_segment_ok (l : Launch) (D : va_G) (ct : Nat → ClassId) (a : Nat → Nat) (v u : SV) (w sl : Nat → SV) (k t : Nat) (hk : k ≤ 5) (ik tx rd : Nat → Int32) (ok : Inv v) (d : Nat) (hd : d < nOf v) (j : Nat) (hj : j < 8) (y : Int32) : Met l yX6_segment wsX6_segment ({ frames := 2, cells := 0, slots := 0, locals := 43 }) (roP D ct (mG ct a (nI k) (nI t) (rowOf v) v.2 (rowOf u) u.2 (hisI w) (hisF w) (hisI sl) (hisF sl) ik tx rd) [.ref (a 0), .int (nI d), .int (nI j), .int y]) (vp_Si (fun r => r = pSgm v d j y)) 0 0 noA := by
  refine Met.ofW (cc := cX6_segment) (maxL := 4) (ret := (some .int)) (by decide) rfl ?_
  intro p e s m args below meth c s₁ B hml hv
  obtain ⟨rfl, hP, hK, hN⟩ := hv
  have hx := B.exec
  have hb := B.bytes
  have hr := B.returns
  have hts := atoms_spec (ws := wsX6_segment) B.pre
  have hown : s.vm.findClass RX6 = some m.cls := findClass_of_methodNamed B.named
  have hlocks := B.notSynchronized
  have w_1 := hts (.fieldLink RX6 7 "ScannedDigitsModel" "row" "[I") (List.mem_of_getElem? (i := 1) rfl)
  have hiX6 : ∀ w ∈ wsX60, w ∈ wsX6_segment := fun w h => (goodIn_r wsX60 [14, 15, 16, 17, 18, 19, 20, 21, 22, 23, 24, 25, 26] (by decide +kernel) (by decide +kernel) w h).1
  have hl := lv_entry ([.ref (a 0), .int (nI d), .int (nI j), .int y]) (n := 4) (Nat.le_of_ble_eq_true rfl)
  rw [lg_entry_eq]
  generalize (lg_sl ([.ref (a 0), .int (nI d), .int (nI j), .int y]) ++ List.replicate (4 - (lg_sl ([.ref (a 0), .int (nI d), .int (nI j), .int y])).length) Slot.unset).toArray = ls at hl ⊢
  have hl : lv_has ls 4 [(0, .ref (a 0)), (1, .int (nI d)), (2, .int (nI j)), (3, .int y)] := hl
  have hd8 : d < 8 := Nat.lt_of_lt_of_le hd ok.n8
  have hvd := vD_of ok hd
  have hin : ¬ pIn (nI j) 0 7 = 0 := pIn_ok (a := 0) (b := 7) rfl rfl (Nat.zero_le _) (by omega) (by decide)
  refine lv_aload_n hx hb dX6_segment_0 rfl (lv_at hl 0 rfl) ?_
  refine lv_iload_n hx hb dX6_segment_1 rfl (lv_at hl 1 rfl) ?_
  refine vp_callSi (va_runV (As := [.int (nI d)]) (rest := []) ⟨hx, hb, hml, hown, hts⟩ (k_X6_noDigit l D ct (a 0) (a 1) (mTl a (nI k) (nI t)) v (nI d)) (cwV 1 hts gX6_segment_X6_noDigit rfl rfl rfl (by decide +kernel) ⟨Nat.le_of_ble_eq_true rfl, Nat.le_of_ble_eq_true rfl⟩) ⟨roP.blind, va_recv hK (mG_R hP) (ci := 6) (q0 := 0) rfl rfl, roP.at (mG_R hP) hK hN⟩ rfl rfl hl.1 rfl (lv_room (Nat.le_of_ble_eq_true rfl)) dX6_segment_2 ⟨Nat.le_of_ble_eq_true rfl, Nat.le_of_ble_eq_true rfl⟩).run (fun r_2 h_2 => ?_)
  obtain rfl : r_2 = if vD v (nI d) then 0 else 1 := h_2
  refine lv_if_ne (tgt := 18) hx hb dX6_segment_5 (by decide) (fun c_5 => ?_) (fun c_5 => ?_)
  · exact absurd (if_pos hvd) c_5
  · refine lv_iload_n hx hb dX6_segment_8 rfl (lv_at hl 2 rfl) ?_
    refine lv_iconst (v := 0) hx hb dX6_segment_9 (by decide) ?_
    refine lv_bipush (v := 7) hx hb dX6_segment_10 (by decide) ?_
    refine vp_callSi (va_runS (As := [.int (nI j), .int 0, .int 7]) (rest := []) ⟨hx, hb, hml, hown, hts⟩ (k_X6_in l D ct (nI j) 0 7) (va_cwS 3 hts gX6_segment_X6_in rfl rfl rfl (by decide +kernel) ⟨Nat.le_of_ble_eq_true rfl, Nat.le_of_ble_eq_true rfl⟩) ⟨roP.blind, roP.at pw_nil hK hN⟩ rfl rfl hl.1 rfl (lv_room (Nat.le_of_ble_eq_true rfl)) dX6_segment_12 ⟨Nat.le_of_ble_eq_true rfl, Nat.le_of_ble_eq_true rfl⟩).run (fun r_12 h_12 => ?_)
    obtain rfl : r_12 = pIn (nI j) 0 7 := h_12
    refine lv_if_ne (tgt := 20) hx hb dX6_segment_15 (by decide) (fun c_15 => ?_) (fun c_15 => ?_)
    · refine lv_iload_n hx hb dX6_segment_20 rfl (lv_at hl 3 rfl) ?_
      by_cases sw_21 : (y).toInt < 0 ∨ 3 < (y).toInt
      · refine lv_tableOut (tgt := 108) hx hb dX6_segment_21 sw_21 (by decide) ?_
        refine lv_bipush (v := (-2)) hx hb dX6_segment_108 (by decide) ?_
        exact W.iret (v := (-2)) hx hb hr (fun tt ht hW => ⟨(-2), rfl, pSgm_out sw_21, ht⟩) (fun q hq => absurd hq List.not_mem_nil) dX6_segment_110
      · have sv_21 : y = 0 ∨ y = 1 ∨ y = 2 ∨ y = 3 := sw_cases_0_3 sw_21
        rcases sv_21 with rfl | rfl | rfl | rfl
        · refine lv_tableIn (off := 31) (tgt := 52) hx hb dX6_segment_21 (by decide) (by decide) (by decide) (by decide) ?_
          refine lv_aload_n hx hb dX6_segment_52 rfl (lv_at hl 0 rfl) ?_
          refine va_get (D := D) (ci := 6) (v := .ref (a 1)) (C := RX6) (T := TX6) (N := 13) hx hb hts hiX6 hown hK hP 0 rfl rfl 0 (by decide) w_1 (fun _ h9 => h9) rfl dX6_segment_53 ?_
          refine lv_bipush (v := 64) hx hb dX6_segment_56 (by decide) ?_
          refine lv_bipush (v := 8) hx hb dX6_segment_58 (by decide) ?_
          refine lv_iload_n hx hb dX6_segment_60 rfl (lv_at hl 1 rfl) ?_
          refine lv_imul hx hb dX6_segment_61 ?_
          refine lv_iadd hx hb dX6_segment_62 ?_
          refine lv_iload_n hx hb dX6_segment_63 rfl (lv_at hl 2 rfl) ?_
          refine lv_iadd hx hb dX6_segment_64 ?_
          refine r_iald hx hb hK hP 1 0 rfl rfl (k := 64 + 8 * d + j) (ix_8 64 d j 64 rfl) (by omega) (by decide) dX6_segment_65 ?_
          refine lv_as (y := v.1 (12 + d) j) (row_g v hd8 hj) ?_
          exact W.iret (v := (v.1 (12 + d) j)) hx hb hr (fun tt ht hW => ⟨(v.1 (12 + d) j), rfl, rfl, ht⟩) (fun q hq => absurd hq List.not_mem_nil) dX6_segment_66
        · refine lv_tableIn (off := 46) (tgt := 67) hx hb dX6_segment_21 (by decide) (by decide) (by decide) (by decide) ?_
          refine lv_aload_n hx hb dX6_segment_67 rfl (lv_at hl 0 rfl) ?_
          refine va_get (D := D) (ci := 6) (v := .ref (a 1)) (C := RX6) (T := TX6) (N := 13) hx hb hts hiX6 hown hK hP 0 rfl rfl 0 (by decide) w_1 (fun _ h9 => h9) rfl dX6_segment_68 ?_
          refine lv_sipush (v := 128) hx hb dX6_segment_71 (by decide) ?_
          refine lv_bipush (v := 8) hx hb dX6_segment_74 (by decide) ?_
          refine lv_iload_n hx hb dX6_segment_76 rfl (lv_at hl 1 rfl) ?_
          refine lv_imul hx hb dX6_segment_77 ?_
          refine lv_iadd hx hb dX6_segment_78 ?_
          refine lv_iload_n hx hb dX6_segment_79 rfl (lv_at hl 2 rfl) ?_
          refine lv_iadd hx hb dX6_segment_80 ?_
          refine r_iald hx hb hK hP 1 0 rfl rfl (k := 128 + 8 * d + j) (ix_8 128 d j 128 rfl) (by omega) (by decide) dX6_segment_81 ?_
          refine lv_as (y := v.1 (20 + d) j) (row_u v hd8 hj) ?_
          exact W.iret (v := (v.1 (20 + d) j)) hx hb hr (fun tt ht hW => ⟨(v.1 (20 + d) j), rfl, rfl, ht⟩) (fun q hq => absurd hq List.not_mem_nil) dX6_segment_82
        · refine lv_tableIn (off := 62) (tgt := 83) hx hb dX6_segment_21 (by decide) (by decide) (by decide) (by decide) ?_
          refine lv_aload_n hx hb dX6_segment_83 rfl (lv_at hl 0 rfl) ?_
          refine va_get (D := D) (ci := 6) (v := .ref (a 1)) (C := RX6) (T := TX6) (N := 13) hx hb hts hiX6 hown hK hP 0 rfl rfl 0 (by decide) w_1 (fun _ h9 => h9) rfl dX6_segment_84 ?_
          refine lv_sipush (v := 192) hx hb dX6_segment_87 (by decide) ?_
          refine lv_iload_n hx hb dX6_segment_90 rfl (lv_at hl 1 rfl) ?_
          refine lv_iadd hx hb dX6_segment_91 ?_
          refine r_iald hx hb hK hP 1 0 rfl rfl (k := 192 + d) (ix_a 192 d 192 rfl) (by omega) (by decide) dX6_segment_92 ?_
          refine lv_as (y := v.1 (4 + d) 6) (row_b v hd8) ?_
          refine lv_iload_n hx hb dX6_segment_93 rfl (lv_at hl 2 rfl) ?_
          refine lv_ishr hx hb dX6_segment_94 ?_
          refine lv_iconst (v := 1) hx hb dX6_segment_95 (by decide) ?_
          refine lv_iand hx hb dX6_segment_96 ?_
          exact W.iret (v := (((v.1 (4 + d) 6) >>> ((nI j) &&& 31)) &&& 1)) hx hb hr (fun tt ht hW => ⟨(((v.1 (4 + d) 6) >>> ((nI j) &&& 31)) &&& 1), rfl, rfl, ht⟩) (fun q hq => absurd hq List.not_mem_nil) dX6_segment_97
        · refine lv_tableIn (off := 77) (tgt := 98) hx hb dX6_segment_21 (by decide) (by decide) (by decide) (by decide) ?_
          refine lv_aload_n hx hb dX6_segment_98 rfl (lv_at hl 0 rfl) ?_
          refine lv_iload_n hx hb dX6_segment_99 rfl (lv_at hl 1 rfl) ?_
          refine vp_callSi (va_runV (As := [.int (nI d)]) (rest := []) ⟨hx, hb, hml, hown, hts⟩ (k_X6_seenOf l D ct (a 0) (a 1) (mTl a (nI k) (nI t)) v d hd8) (cwV 1 hts gX6_segment_X6_seenOf rfl rfl rfl (by decide +kernel) ⟨Nat.le_of_ble_eq_true rfl, Nat.le_of_ble_eq_true rfl⟩) ⟨roP.blind, va_recv hK (mG_R hP) (ci := 6) (q0 := 0) rfl rfl, roP.at (mG_R hP) hK hN⟩ rfl rfl hl.1 rfl (lv_room (Nat.le_of_ble_eq_true rfl)) dX6_segment_100 ⟨Nat.le_of_ble_eq_true rfl, Nat.le_of_ble_eq_true rfl⟩).run (fun r_100 h_100 => ?_)
          obtain rfl : r_100 = pSeen (v.1 (12 + d)) (v.1 3 1) 8 := h_100
          refine lv_iload_n hx hb dX6_segment_103 rfl (lv_at hl 2 rfl) ?_
          refine lv_ishr hx hb dX6_segment_104 ?_
          refine lv_iconst (v := 1) hx hb dX6_segment_105 (by decide) ?_
          refine lv_iand hx hb dX6_segment_106 ?_
          exact W.iret (v := (((pSeen (v.1 (12 + d)) (v.1 3 1) 8) >>> ((nI j) &&& 31)) &&& 1)) hx hb hr (fun tt ht hW => ⟨(((pSeen (v.1 (12 + d)) (v.1 3 1) 8) >>> ((nI j) &&& 31)) &&& 1), rfl, rfl, ht⟩) (fun q hq => absurd hq List.not_mem_nil) dX6_segment_107
    · exact absurd c_15 hin

set_option maxHeartbeats 4000000 in
set_option maxRecDepth 100000 in
theorem k_X6_current_e (l : Launch) (D : va_G) (ct : Nat → ClassId) (a : Nat → Nat) (v u : SV) (w sl : Nat → SV) (k t : Nat) (hk : k ≤ 5) (ik tx rd : Nat → Int32) (x : Int32) (hin : pIn x 0 2 = 0) : Met l yX6_current wsX6_current ({ frames := 1, cells := 0, slots := 0, locals := 22 }) (roP D ct (mG ct a (nI k) (nI t) (rowOf v) v.2 (rowOf u) u.2 (hisI w) (hisF w) (hisI sl) (hisF sl) ik tx rd) [.ref (a 0), .int x]) (vp_Sf (fun r => r = FP.fconst0)) 0 0 noA := by
  refine Met.ofW (cc := cX6_current) (maxL := 2) (ret := (some .float)) (by decide) rfl ?_
  intro p e s m args below meth c s₁ B hml hv
  obtain ⟨rfl, hP, hK, hN⟩ := hv
  have hx := B.exec
  have hb := B.bytes
  have hr := B.returns
  have hts := atoms_spec (ws := wsX6_current) B.pre
  have hown : s.vm.findClass RX6 = some m.cls := findClass_of_methodNamed B.named
  have hlocks := B.notSynchronized
  have hl := lv_entry ([.ref (a 0), .int x]) (n := 2) (Nat.le_of_ble_eq_true rfl)
  rw [lg_entry_eq]
  generalize (lg_sl ([.ref (a 0), .int x]) ++ List.replicate (2 - (lg_sl ([.ref (a 0), .int x])).length) Slot.unset).toArray = ls at hl ⊢
  have hl : lv_has ls 2 [(0, .ref (a 0)), (1, .int x)] := hl
  refine lv_iload_n hx hb dX6_current_0 rfl (lv_at hl 1 rfl) ?_
  refine lv_iconst (v := 0) hx hb dX6_current_1 (by decide) ?_
  refine lv_iconst (v := 2) hx hb dX6_current_2 (by decide) ?_
  refine vp_callSi (va_runS (As := [.int x, .int 0, .int 2]) (rest := []) ⟨hx, hb, hml, hown, hts⟩ (k_X6_in l D ct x 0 2) (va_cwS 3 hts gX6_current_X6_in rfl rfl rfl (by decide +kernel) ⟨Nat.le_of_ble_eq_true rfl, Nat.le_of_ble_eq_true rfl⟩) ⟨roP.blind, roP.at pw_nil hK hN⟩ rfl rfl hl.1 rfl (lv_room (Nat.le_of_ble_eq_true rfl)) dX6_current_3 ⟨Nat.le_of_ble_eq_true rfl, Nat.le_of_ble_eq_true rfl⟩).run (fun r_3 h_3 => ?_)
  obtain rfl : r_3 = pIn x 0 2 := h_3
  refine lv_if_eq (tgt := 18) hx hb dX6_current_6 (by decide) (fun c_6 => ?_) (fun c_6 => ?_)
  · refine lv_fconst0 hx hb dX6_current_18 ?_
    exact W.fret (v := FP.fconst0) hx hb hr (fun tt ht hW => ⟨FP.fconst0, rfl, rfl, ht⟩) (fun q hq => absurd hq List.not_mem_nil) dX6_current_19
  · exact absurd hin c_6

set_option maxHeartbeats 4000000 in
set_option maxRecDepth 100000 in
theorem k_X6_current_ok (l : Launch) (D : va_G) (ct : Nat → ClassId) (a : Nat → Nat) (v u : SV) (w sl : Nat → SV) (k t : Nat) (hk : k ≤ 5) (ik tx rd : Nat → Int32) (j : Nat) (hj : j < 3) : Met l yX6_current wsX6_current ({ frames := 1, cells := 0, slots := 0, locals := 22 }) (roP D ct (mG ct a (nI k) (nI t) (rowOf v) v.2 (rowOf u) u.2 (hisI w) (hisF w) (hisI sl) (hisF sl) ik tx rd) [.ref (a 0), .int (nI j)]) (vp_Sf (fun r => r = v.2 j)) 0 0 noA := by
  refine Met.ofW (cc := cX6_current) (maxL := 2) (ret := (some .float)) (by decide) rfl ?_
  intro p e s m args below meth c s₁ B hml hv
  obtain ⟨rfl, hP, hK, hN⟩ := hv
  have hx := B.exec
  have hb := B.bytes
  have hr := B.returns
  have hts := atoms_spec (ws := wsX6_current) B.pre
  have hown : s.vm.findClass RX6 = some m.cls := findClass_of_methodNamed B.named
  have hlocks := B.notSynchronized
  have w_1 := hts (.fieldLink RX6 13 "ScannedDigitsModel" "flow" "[F") (List.mem_of_getElem? (i := 1) rfl)
  have hiX6 : ∀ w ∈ wsX60, w ∈ wsX6_current := fun w h => (goodIn_r wsX60 [6, 7, 8, 9, 10, 11, 12, 13, 14, 15, 16, 17, 18] (by decide +kernel) (by decide +kernel) w h).1
  have hl := lv_entry ([.ref (a 0), .int (nI j)]) (n := 2) (Nat.le_of_ble_eq_true rfl)
  rw [lg_entry_eq]
  generalize (lg_sl ([.ref (a 0), .int (nI j)]) ++ List.replicate (2 - (lg_sl ([.ref (a 0), .int (nI j)])).length) Slot.unset).toArray = ls at hl ⊢
  have hl : lv_has ls 2 [(0, .ref (a 0)), (1, .int (nI j))] := hl
  have hin : ¬ pIn (nI j) 0 2 = 0 := pIn_ok (a := 0) (b := 2) rfl rfl (Nat.zero_le _) (by omega) (by decide)
  refine lv_iload_n hx hb dX6_current_0 rfl (lv_at hl 1 rfl) ?_
  refine lv_iconst (v := 0) hx hb dX6_current_1 (by decide) ?_
  refine lv_iconst (v := 2) hx hb dX6_current_2 (by decide) ?_
  refine vp_callSi (va_runS (As := [.int (nI j), .int 0, .int 2]) (rest := []) ⟨hx, hb, hml, hown, hts⟩ (k_X6_in l D ct (nI j) 0 2) (va_cwS 3 hts gX6_current_X6_in rfl rfl rfl (by decide +kernel) ⟨Nat.le_of_ble_eq_true rfl, Nat.le_of_ble_eq_true rfl⟩) ⟨roP.blind, roP.at pw_nil hK hN⟩ rfl rfl hl.1 rfl (lv_room (Nat.le_of_ble_eq_true rfl)) dX6_current_3 ⟨Nat.le_of_ble_eq_true rfl, Nat.le_of_ble_eq_true rfl⟩).run (fun r_3 h_3 => ?_)
  obtain rfl : r_3 = pIn (nI j) 0 2 := h_3
  refine lv_if_eq (tgt := 18) hx hb dX6_current_6 (by decide) (fun c_6 => ?_) (fun c_6 => ?_)
  · exact absurd c_6 hin
  · refine lv_aload_n hx hb dX6_current_9 rfl (lv_at hl 0 rfl) ?_
    refine va_get (D := D) (ci := 6) (v := .ref (a 2)) (C := RX6) (T := TX6) (N := 13) hx hb hts hiX6 hown hK hP 0 rfl rfl 1 (by decide) w_1 (fun _ h9 => h9) rfl dX6_current_10 ?_
    refine lv_iload_n hx hb dX6_current_13 rfl (lv_at hl 1 rfl) ?_
    refine r_fald hx hb hK hP 2 1 rfl rfl (k := j) (rfl) (by omega) (by decide) dX6_current_14 ?_
    refine lv_goto (tgt := 19) hx hb dX6_current_15 (by decide) ?_
    exact W.fret (v := (v.2 j)) hx hb hr (fun tt ht hW => ⟨(v.2 j), rfl, rfl, ht⟩) (fun q hq => absurd hq List.not_mem_nil) dX6_current_19

set_option maxHeartbeats 4000000 in
set_option maxRecDepth 100000 in
theorem k_X6_thousandths_e (l : Launch) (D : va_G) (ct : Nat → ClassId) (a : Nat → Nat) (v u : SV) (w sl : Nat → SV) (k t : Nat) (hk : k ≤ 5) (ik tx rd : Nat → Int32) (x : Int32) (hin : pIn x 0 2 = 0) : Met l yX6_thousandths wsX6_thousandths ({ frames := 1, cells := 0, slots := 0, locals := 22 }) (roP D ct (mG ct a (nI k) (nI t) (rowOf v) v.2 (rowOf u) u.2 (hisI w) (hisF w) (hisI sl) (hisF sl) ik tx rd) [.ref (a 0), .int x]) (vp_Si (fun r => r = -2)) 0 0 noA := by
  refine Met.ofW (cc := cX6_thousandths) (maxL := 2) (ret := (some .int)) (by decide) rfl ?_
  intro p e s m args below meth c s₁ B hml hv
  obtain ⟨rfl, hP, hK, hN⟩ := hv
  have hx := B.exec
  have hb := B.bytes
  have hr := B.returns
  have hts := atoms_spec (ws := wsX6_thousandths) B.pre
  have hown : s.vm.findClass RX6 = some m.cls := findClass_of_methodNamed B.named
  have hlocks := B.notSynchronized
  have hl := lv_entry ([.ref (a 0), .int x]) (n := 2) (Nat.le_of_ble_eq_true rfl)
  rw [lg_entry_eq]
  generalize (lg_sl ([.ref (a 0), .int x]) ++ List.replicate (2 - (lg_sl ([.ref (a 0), .int x])).length) Slot.unset).toArray = ls at hl ⊢
  have hl : lv_has ls 2 [(0, .ref (a 0)), (1, .int x)] := hl
  refine lv_iload_n hx hb dX6_thousandths_0 rfl (lv_at hl 1 rfl) ?_
  refine lv_iconst (v := 0) hx hb dX6_thousandths_1 (by decide) ?_
  refine lv_iconst (v := 2) hx hb dX6_thousandths_2 (by decide) ?_
  refine vp_callSi (va_runS (As := [.int x, .int 0, .int 2]) (rest := []) ⟨hx, hb, hml, hown, hts⟩ (k_X6_in l D ct x 0 2) (va_cwS 3 hts gX6_thousandths_X6_in rfl rfl rfl (by decide +kernel) ⟨Nat.le_of_ble_eq_true rfl, Nat.le_of_ble_eq_true rfl⟩) ⟨roP.blind, roP.at pw_nil hK hN⟩ rfl rfl hl.1 rfl (lv_room (Nat.le_of_ble_eq_true rfl)) dX6_thousandths_3 ⟨Nat.le_of_ble_eq_true rfl, Nat.le_of_ble_eq_true rfl⟩).run (fun r_3 h_3 => ?_)
  obtain rfl : r_3 = pIn x 0 2 := h_3
  refine lv_if_eq (tgt := 22) hx hb dX6_thousandths_6 (by decide) (fun c_6 => ?_) (fun c_6 => ?_)
  · refine lv_bipush (v := (-2)) hx hb dX6_thousandths_22 (by decide) ?_
    exact W.iret (v := (-2)) hx hb hr (fun tt ht hW => ⟨(-2), rfl, rfl, ht⟩) (fun q hq => absurd hq List.not_mem_nil) dX6_thousandths_24
  · exact absurd hin c_6

set_option maxHeartbeats 4000000 in
set_option maxRecDepth 100000 in
theorem k_X6_thousandths_ok (l : Launch) (D : va_G) (ct : Nat → ClassId) (a : Nat → Nat) (v u : SV) (w sl : Nat → SV) (k t : Nat) (hk : k ≤ 5) (ik tx rd : Nat → Int32) (ok : Inv v) (j : Nat) (hj : j < 3) : Met l yX6_thousandths wsX6_thousandths ({ frames := 1, cells := 0, slots := 0, locals := 22 }) (roP D ct (mG ct a (nI k) (nI t) (rowOf v) v.2 (rowOf u) u.2 (hisI w) (hisF w) (hisI sl) (hisF sl) ik tx rd) [.ref (a 0), .int (nI j)]) (vp_Si (fun r => r = FP.f2i (FP.fmul (v.2 j) 1148846080))) 0 0 noA := by
  refine Met.ofW (cc := cX6_thousandths) (maxL := 2) (ret := (some .int)) (by decide) rfl ?_
  intro p e s m args below meth c s₁ B hml hv
  obtain ⟨rfl, hP, hK, hN⟩ := hv
  have hx := B.exec
  have hb := B.bytes
  have hr := B.returns
  have hts := atoms_spec (ws := wsX6_thousandths) B.pre
  have hown : s.vm.findClass RX6 = some m.cls := findClass_of_methodNamed B.named
  have hlocks := B.notSynchronized
  have w_1 := hts (.fieldLink RX6 13 "ScannedDigitsModel" "flow" "[F") (List.mem_of_getElem? (i := 1) rfl)
  have w_2 := hts (.constantFloat RX6 148 (1148846080)) (List.mem_of_getElem? (i := 2) rfl)
  have hiX6 : ∀ w ∈ wsX60, w ∈ wsX6_thousandths := fun w h => (goodIn_r wsX60 [7, 8, 9, 10, 11, 12, 13, 14, 15, 16, 17, 18, 19] (by decide +kernel) (by decide +kernel) w h).1
  have hl := lv_entry ([.ref (a 0), .int (nI j)]) (n := 2) (Nat.le_of_ble_eq_true rfl)
  rw [lg_entry_eq]
  generalize (lg_sl ([.ref (a 0), .int (nI j)]) ++ List.replicate (2 - (lg_sl ([.ref (a 0), .int (nI j)])).length) Slot.unset).toArray = ls at hl ⊢
  have hl : lv_has ls 2 [(0, .ref (a 0)), (1, .int (nI j))] := hl
  have hin : ¬ pIn (nI j) 0 2 = 0 := pIn_ok (a := 0) (b := 2) rfl rfl (Nat.zero_le _) (by omega) (by decide)
  refine lv_iload_n hx hb dX6_thousandths_0 rfl (lv_at hl 1 rfl) ?_
  refine lv_iconst (v := 0) hx hb dX6_thousandths_1 (by decide) ?_
  refine lv_iconst (v := 2) hx hb dX6_thousandths_2 (by decide) ?_
  refine vp_callSi (va_runS (As := [.int (nI j), .int 0, .int 2]) (rest := []) ⟨hx, hb, hml, hown, hts⟩ (k_X6_in l D ct (nI j) 0 2) (va_cwS 3 hts gX6_thousandths_X6_in rfl rfl rfl (by decide +kernel) ⟨Nat.le_of_ble_eq_true rfl, Nat.le_of_ble_eq_true rfl⟩) ⟨roP.blind, roP.at pw_nil hK hN⟩ rfl rfl hl.1 rfl (lv_room (Nat.le_of_ble_eq_true rfl)) dX6_thousandths_3 ⟨Nat.le_of_ble_eq_true rfl, Nat.le_of_ble_eq_true rfl⟩).run (fun r_3 h_3 => ?_)
  obtain rfl : r_3 = pIn (nI j) 0 2 := h_3
  refine lv_if_eq (tgt := 22) hx hb dX6_thousandths_6 (by decide) (fun c_6 => ?_) (fun c_6 => ?_)
  · exact absurd c_6 hin
  · refine lv_aload_n hx hb dX6_thousandths_9 rfl (lv_at hl 0 rfl) ?_
    refine va_get (D := D) (ci := 6) (v := .ref (a 2)) (C := RX6) (T := TX6) (N := 13) hx hb hts hiX6 hown hK hP 0 rfl rfl 1 (by decide) w_1 (fun _ h9 => h9) rfl dX6_thousandths_10 ?_
    refine lv_iload_n hx hb dX6_thousandths_13 rfl (lv_at hl 1 rfl) ?_
    refine r_fald hx hb hK hP 2 1 rfl rfl (k := j) (rfl) (by omega) (by decide) dX6_thousandths_14 ?_
    refine lv_ldcf (v := 1148846080) hx hb hown w_2 dX6_thousandths_15 ?_
    refine lv_fmul hx hb dX6_thousandths_17 (fl_th ok.2.2.2.2.2.2.2 hj) ?_
    refine lv_f2i hx hb dX6_thousandths_18 ?_
    refine lv_goto (tgt := 24) hx hb dX6_thousandths_19 (by decide) ?_
    exact W.iret (v := (FP.f2i (FP.fmul (v.2 j) 1148846080))) hx hb hr (fun tt ht hW => ⟨(FP.f2i (FP.fmul (v.2 j) 1148846080)), rfl, rfl, ht⟩) (fun q hq => absurd hq List.not_mem_nil) dX6_thousandths_24

set_option maxHeartbeats 4000000 in
set_option maxRecDepth 100000 in
theorem k_X6_duty_e (l : Launch) (D : va_G) (ct : Nat → ClassId) (a : Nat → Nat) (v u : SV) (w sl : Nat → SV) (k t : Nat) (hk : k ≤ 5) (ik tx rd : Nat → Int32) (x : Int32) (hnd : ¬ vD v x ∨ v.1 0 1 = 0) : Met l yX6_duty wsX6_duty ({ frames := 2, cells := 0, slots := 0, locals := 43 }) (roP D ct (mG ct a (nI k) (nI t) (rowOf v) v.2 (rowOf u) u.2 (hisI w) (hisF w) (hisI sl) (hisF sl) ik tx rd) [.ref (a 0), .int x]) (vp_Sf (fun r => r = FP.fconst0)) 0 0 noA := by
  refine Met.ofW (cc := cX6_duty) (maxL := 2) (ret := (some .float)) (by decide) rfl ?_
  intro p e s m args below meth c s₁ B hml hv
  obtain ⟨rfl, hP, hK, hN⟩ := hv
  have hx := B.exec
  have hb := B.bytes
  have hr := B.returns
  have hts := atoms_spec (ws := wsX6_duty) B.pre
  have hown : s.vm.findClass RX6 = some m.cls := findClass_of_methodNamed B.named
  have hlocks := B.notSynchronized
  have w_1 := hts (.fieldLink RX6 7 "ScannedDigitsModel" "row" "[I") (List.mem_of_getElem? (i := 1) rfl)
  have hiX6 : ∀ w ∈ wsX60, w ∈ wsX6_duty := fun w h => (goodIn_r wsX60 [14, 15, 16, 17, 18, 19, 20, 21, 22, 23, 24, 25, 26] (by decide +kernel) (by decide +kernel) w h).1
  have hl := lv_entry ([.ref (a 0), .int x]) (n := 2) (Nat.le_of_ble_eq_true rfl)
  rw [lg_entry_eq]
  generalize (lg_sl ([.ref (a 0), .int x]) ++ List.replicate (2 - (lg_sl ([.ref (a 0), .int x])).length) Slot.unset).toArray = ls at hl ⊢
  have hl : lv_has ls 2 [(0, .ref (a 0)), (1, .int x)] := hl
  refine lv_aload_n hx hb dX6_duty_0 rfl (lv_at hl 0 rfl) ?_
  refine lv_iload_n hx hb dX6_duty_1 rfl (lv_at hl 1 rfl) ?_
  refine vp_callSi (va_runV (As := [.int x]) (rest := []) ⟨hx, hb, hml, hown, hts⟩ (k_X6_noDigit l D ct (a 0) (a 1) (mTl a (nI k) (nI t)) v x) (cwV 1 hts gX6_duty_X6_noDigit rfl rfl rfl (by decide +kernel) ⟨Nat.le_of_ble_eq_true rfl, Nat.le_of_ble_eq_true rfl⟩) ⟨roP.blind, va_recv hK (mG_R hP) (ci := 6) (q0 := 0) rfl rfl, roP.at (mG_R hP) hK hN⟩ rfl rfl hl.1 rfl (lv_room (Nat.le_of_ble_eq_true rfl)) dX6_duty_2 ⟨Nat.le_of_ble_eq_true rfl, Nat.le_of_ble_eq_true rfl⟩).run (fun r_2 h_2 => ?_)
  obtain rfl : r_2 = if vD v x then 0 else 1 := h_2
  refine lv_if_ne (tgt := 17) hx hb dX6_duty_5 (by decide) (fun c_5 => ?_) (fun c_5 => ?_)
  · refine lv_fconst0 hx hb dX6_duty_17 ?_
    refine lv_goto (tgt := 36) hx hb dX6_duty_18 (by decide) ?_
    exact W.fret (v := FP.fconst0) hx hb hr (fun tt ht hW => ⟨FP.fconst0, rfl, rfl, ht⟩) (fun q hq => absurd hq List.not_mem_nil) dX6_duty_36
  · have hvd : vD v x := Classical.byContradiction (fun z => absurd ((if_neg z).symm.trans c_5) (by decide))
    refine lv_aload_n hx hb dX6_duty_8 rfl (lv_at hl 0 rfl) ?_
    refine va_get (D := D) (ci := 6) (v := .ref (a 1)) (C := RX6) (T := TX6) (N := 13) hx hb hts hiX6 hown hK hP 0 rfl rfl 0 (by decide) w_1 (fun _ h9 => h9) rfl dX6_duty_9 ?_
    refine lv_iconst (v := 1) hx hb dX6_duty_12 (by decide) ?_
    refine r_iald hx hb hK hP 1 0 rfl rfl (k := 1) (rfl) (by decide) (by decide) dX6_duty_13 ?_
    refine lv_as (y := v.1 0 1) (row_0 v (by decide)) ?_
    refine lv_if_ne (tgt := 21) hx hb dX6_duty_14 (by decide) (fun c_14 => ?_) (fun c_14 => ?_)
    · exact (hnd.elim (fun z => absurd hvd z) (fun z => absurd z c_14))
    · refine lv_fconst0 hx hb dX6_duty_17 ?_
      refine lv_goto (tgt := 36) hx hb dX6_duty_18 (by decide) ?_
      exact W.fret (v := FP.fconst0) hx hb hr (fun tt ht hW => ⟨FP.fconst0, rfl, rfl, ht⟩) (fun q hq => absurd hq List.not_mem_nil) dX6_duty_36

set_option maxHeartbeats 4000000 in
set_option maxRecDepth 100000 in
theorem k_X6_duty_ok (l : Launch) (D : va_G) (ct : Nat → ClassId) (a : Nat → Nat) (v u : SV) (w sl : Nat → SV) (k t : Nat) (hk : k ≤ 5) (ik tx rd : Nat → Int32) (ok : Inv v) (d : Nat) (hd : d < nOf v) (ht0 : ¬ v.1 0 1 = 0) : Met l yX6_duty wsX6_duty ({ frames := 2, cells := 0, slots := 0, locals := 43 }) (roP D ct (mG ct a (nI k) (nI t) (rowOf v) v.2 (rowOf u) u.2 (hisI w) (hisF w) (hisI sl) (hisF sl) ik tx rd) [.ref (a 0), .int (nI d)]) (vp_Sf (fun r => r = FP.fdiv (FP.i2f (v.1 (4 + d) 5)) (FP.i2f (v.1 0 1)))) 0 0 noA := by
  refine Met.ofW (cc := cX6_duty) (maxL := 2) (ret := (some .float)) (by decide) rfl ?_
  intro p e s m args below meth c s₁ B hml hv
  obtain ⟨rfl, hP, hK, hN⟩ := hv
  have hx := B.exec
  have hb := B.bytes
  have hr := B.returns
  have hts := atoms_spec (ws := wsX6_duty) B.pre
  have hown : s.vm.findClass RX6 = some m.cls := findClass_of_methodNamed B.named
  have hlocks := B.notSynchronized
  have w_1 := hts (.fieldLink RX6 7 "ScannedDigitsModel" "row" "[I") (List.mem_of_getElem? (i := 1) rfl)
  have hiX6 : ∀ w ∈ wsX60, w ∈ wsX6_duty := fun w h => (goodIn_r wsX60 [14, 15, 16, 17, 18, 19, 20, 21, 22, 23, 24, 25, 26] (by decide +kernel) (by decide +kernel) w h).1
  have hl := lv_entry ([.ref (a 0), .int (nI d)]) (n := 2) (Nat.le_of_ble_eq_true rfl)
  rw [lg_entry_eq]
  generalize (lg_sl ([.ref (a 0), .int (nI d)]) ++ List.replicate (2 - (lg_sl ([.ref (a 0), .int (nI d)])).length) Slot.unset).toArray = ls at hl ⊢
  have hl : lv_has ls 2 [(0, .ref (a 0)), (1, .int (nI d))] := hl
  have hd8 : d < 8 := Nat.lt_of_lt_of_le hd ok.n8
  have hvd := vD_of ok hd
  refine lv_aload_n hx hb dX6_duty_0 rfl (lv_at hl 0 rfl) ?_
  refine lv_iload_n hx hb dX6_duty_1 rfl (lv_at hl 1 rfl) ?_
  refine vp_callSi (va_runV (As := [.int (nI d)]) (rest := []) ⟨hx, hb, hml, hown, hts⟩ (k_X6_noDigit l D ct (a 0) (a 1) (mTl a (nI k) (nI t)) v (nI d)) (cwV 1 hts gX6_duty_X6_noDigit rfl rfl rfl (by decide +kernel) ⟨Nat.le_of_ble_eq_true rfl, Nat.le_of_ble_eq_true rfl⟩) ⟨roP.blind, va_recv hK (mG_R hP) (ci := 6) (q0 := 0) rfl rfl, roP.at (mG_R hP) hK hN⟩ rfl rfl hl.1 rfl (lv_room (Nat.le_of_ble_eq_true rfl)) dX6_duty_2 ⟨Nat.le_of_ble_eq_true rfl, Nat.le_of_ble_eq_true rfl⟩).run (fun r_2 h_2 => ?_)
  obtain rfl : r_2 = if vD v (nI d) then 0 else 1 := h_2
  refine lv_if_ne (tgt := 17) hx hb dX6_duty_5 (by decide) (fun c_5 => ?_) (fun c_5 => ?_)
  · exact absurd (if_pos hvd) c_5
  · refine lv_aload_n hx hb dX6_duty_8 rfl (lv_at hl 0 rfl) ?_
    refine va_get (D := D) (ci := 6) (v := .ref (a 1)) (C := RX6) (T := TX6) (N := 13) hx hb hts hiX6 hown hK hP 0 rfl rfl 0 (by decide) w_1 (fun _ h9 => h9) rfl dX6_duty_9 ?_
    refine lv_iconst (v := 1) hx hb dX6_duty_12 (by decide) ?_
    refine r_iald hx hb hK hP 1 0 rfl rfl (k := 1) (rfl) (by decide) (by decide) dX6_duty_13 ?_
    refine lv_as (y := v.1 0 1) (row_0 v (by decide)) ?_
    refine lv_if_ne (tgt := 21) hx hb dX6_duty_14 (by decide) (fun c_14 => ?_) (fun c_14 => ?_)
    · refine lv_aload_n hx hb dX6_duty_21 rfl (lv_at hl 0 rfl) ?_
      refine lv_iload_n hx hb dX6_duty_22 rfl (lv_at hl 1 rfl) ?_
      refine lv_iconst (v := 5) hx hb dX6_duty_23 (by decide) ?_
      refine vp_callSi (va_runV (As := [.int (nI d), .int 5]) (rest := []) ⟨hx, hb, hml, hown, hts⟩ (k_X6_of l D ct (a 0) (a 1) (mTl a (nI k) (nI t)) v d 5 hd8 (by decide)) (cwV 2 hts gX6_duty_X6_of rfl rfl rfl (by decide +kernel) ⟨Nat.le_of_ble_eq_true rfl, Nat.le_of_ble_eq_true rfl⟩) ⟨roP.blind, va_recv hK (mG_R hP) (ci := 6) (q0 := 0) rfl rfl, roP.at (mG_R hP) hK hN⟩ rfl rfl hl.1 rfl (lv_room (Nat.le_of_ble_eq_true rfl)) dX6_duty_24 ⟨Nat.le_of_ble_eq_true rfl, Nat.le_of_ble_eq_true rfl⟩).run (fun r_24 h_24 => ?_)
      obtain rfl : r_24 = v.1 (4 + d) 5 := h_24
      refine lv_i2f hx hb dX6_duty_27 ?_
      refine lv_aload_n hx hb dX6_duty_28 rfl (lv_at hl 0 rfl) ?_
      refine va_get (D := D) (ci := 6) (v := .ref (a 1)) (C := RX6) (T := TX6) (N := 13) hx hb hts hiX6 hown hK hP 0 rfl rfl 0 (by decide) w_1 (fun _ h9 => h9) rfl dX6_duty_29 ?_
      refine lv_iconst (v := 1) hx hb dX6_duty_32 (by decide) ?_
      refine r_iald hx hb hK hP 1 0 rfl rfl (k := 1) (rfl) (by decide) (by decide) dX6_duty_33 ?_
      refine lv_as (y := v.1 0 1) (row_0 v (by decide)) ?_
      refine lv_i2f hx hb dX6_duty_34 ?_
      refine lv_fdiv hx hb dX6_duty_35 (fl_du ht0) ?_
      exact W.fret (v := (FP.fdiv (FP.i2f (v.1 (4 + d) 5)) (FP.i2f (v.1 0 1)))) hx hb hr (fun tt ht hW => ⟨(FP.fdiv (FP.i2f (v.1 (4 + d) 5)) (FP.i2f (v.1 0 1))), rfl, rfl, ht⟩) (fun q hq => absurd hq List.not_mem_nil) dX6_duty_36
    · exact absurd c_14 ht0

set_option maxHeartbeats 4000000 in
set_option maxRecDepth 100000 in
theorem k_X6_count (l : Launch) (D : va_G) (ct : Nat → ClassId) (a : Nat → Nat) (v u : SV) (w sl : Nat → SV) (k t : Nat) (hk : k ≤ 5) (ik tx rd : Nat → Int32) (ok : Inv v) (y : Int32) : Met l yX6_count wsX6_count ({ frames := 3, cells := 0, slots := 0, locals := 66 }) (roP D ct (mG ct a (nI k) (nI t) (rowOf v) v.2 (rowOf u) u.2 (hisI w) (hisF w) (hisI sl) (hisF sl) ik tx rd) [.ref (a 0), .int y]) (vp_Si (fun r => r = pCou v k t y)) 0 0 noA := by
  refine Met.ofW (cc := cX6_count) (maxL := 2) (ret := (some .int)) (by decide) rfl ?_
  intro p e s m args below meth c s₁ B hml hv
  obtain ⟨rfl, hP, hK, hN⟩ := hv
  have hx := B.exec
  have hb := B.bytes
  have hr := B.returns
  have hts := atoms_spec (ws := wsX6_count) B.pre
  have hown : s.vm.findClass RX6 = some m.cls := findClass_of_methodNamed B.named
  have hlocks := B.notSynchronized
  have w_1 := hts (.fieldLink RX6 7 "ScannedDigitsModel" "row" "[I") (List.mem_of_getElem? (i := 1) rfl)
  have w_2 := hts (.fieldLink RX6 51 "ScannedDigitsModel" "kept" "I") (List.mem_of_getElem? (i := 2) rfl)
  have w_3 := hts (.fieldLink RX6 129 "ScannedDigitsModel" "typed" "I") (List.mem_of_getElem? (i := 3) rfl)
  have hiX6 : ∀ w ∈ wsX60, w ∈ wsX6_count := fun w h => (goodIn_r wsX60 [29, 30, 31, 32, 33, 34, 35, 36, 37, 38, 39, 40, 41] (by decide +kernel) (by decide +kernel) w h).1
  have hl := lv_entry ([.ref (a 0), .int y]) (n := 2) (Nat.le_of_ble_eq_true rfl)
  rw [lg_entry_eq]
  generalize (lg_sl ([.ref (a 0), .int y]) ++ List.replicate (2 - (lg_sl ([.ref (a 0), .int y])).length) Slot.unset).toArray = ls at hl ⊢
  have hl : lv_has ls 2 [(0, .ref (a 0)), (1, .int y)] := hl
  refine lv_iload_n hx hb dX6_count_0 rfl (lv_at hl 1 rfl) ?_
  by_cases sw_1 : (y).toInt < 0 ∨ 13 < (y).toInt
  · refine lv_tableOut (tgt := 152) hx hb dX6_count_1 sw_1 (by decide) ?_
    refine lv_bipush (v := (-2)) hx hb dX6_count_152 (by decide) ?_
    exact W.iret (v := (-2)) hx hb hr (fun tt ht hW => ⟨(-2), rfl, pCou_out sw_1, ht⟩) (fun q hq => absurd hq List.not_mem_nil) dX6_count_154
  · have sv_1 : y = 0 ∨ y = 1 ∨ y = 2 ∨ y = 3 ∨ y = 4 ∨ y = 5 ∨ y = 6 ∨ y = 7 ∨ y = 8 ∨ y = 9 ∨ y = 10 ∨ y = 11 ∨ y = 12 ∨ y = 13 := sw_cases_0_13 sw_1
    rcases sv_1 with rfl | rfl | rfl | rfl | rfl | rfl | rfl | rfl | rfl | rfl | rfl | rfl | rfl | rfl
    · refine lv_tableIn (off := 71) (tgt := 72) hx hb dX6_count_1 (by decide) (by decide) (by decide) (by decide) ?_
      refine lv_aload_n hx hb dX6_count_72 rfl (lv_at hl 0 rfl) ?_
      refine va_get (D := D) (ci := 6) (v := .ref (a 1)) (C := RX6) (T := TX6) (N := 13) hx hb hts hiX6 hown hK hP 0 rfl rfl 0 (by decide) w_1 (fun _ h9 => h9) rfl dX6_count_73 ?_
      refine lv_iconst (v := 1) hx hb dX6_count_76 (by decide) ?_
      refine r_iald hx hb hK hP 1 0 rfl rfl (k := 1) (rfl) (by decide) (by decide) dX6_count_77 ?_
      refine lv_as (y := v.1 0 1) (row_0 v (by decide)) ?_
      exact W.iret (v := (v.1 0 1)) hx hb hr (fun tt ht hW => ⟨(v.1 0 1), rfl, rfl, ht⟩) (fun q hq => absurd hq List.not_mem_nil) dX6_count_78
    · refine lv_tableIn (off := 78) (tgt := 79) hx hb dX6_count_1 (by decide) (by decide) (by decide) (by decide) ?_
      refine lv_aload_n hx hb dX6_count_79 rfl (lv_at hl 0 rfl) ?_
      refine va_get (D := D) (ci := 6) (v := .ref (a 1)) (C := RX6) (T := TX6) (N := 13) hx hb hts hiX6 hown hK hP 0 rfl rfl 0 (by decide) w_1 (fun _ h9 => h9) rfl dX6_count_80 ?_
      refine lv_iconst (v := 0) hx hb dX6_count_83 (by decide) ?_
      refine r_iald hx hb hK hP 1 0 rfl rfl (k := 0) (rfl) (by decide) (by decide) dX6_count_84 ?_
      refine lv_as (y := v.1 0 0) (row_0 v (by decide)) ?_
      exact W.iret (v := (v.1 0 0)) hx hb hr (fun tt ht hW => ⟨(v.1 0 0), rfl, rfl, ht⟩) (fun q hq => absurd hq List.not_mem_nil) dX6_count_85
    · refine lv_tableIn (off := 85) (tgt := 86) hx hb dX6_count_1 (by decide) (by decide) (by decide) (by decide) ?_
      refine lv_aload_n hx hb dX6_count_86 rfl (lv_at hl 0 rfl) ?_
      refine vp_callSi (va_runV (As := []) (rest := []) ⟨hx, hb, hml, hown, hts⟩ (k_X6_frameLength l D ct (a 0) (a 1) (mTl a (nI k) (nI t)) v ok.n8 ok.cnt) (cwV 0 hts gX6_count_X6_frameLength rfl rfl rfl (by decide +kernel) ⟨Nat.le_of_ble_eq_true rfl, Nat.le_of_ble_eq_true rfl⟩) ⟨roP.blind, va_recv hK (mG_R hP) (ci := 6) (q0 := 0) rfl rfl, roP.at (mG_R hP) hK hN⟩ rfl rfl hl.1 rfl (lv_room (Nat.le_of_ble_eq_true rfl)) dX6_count_87 ⟨Nat.le_of_ble_eq_true rfl, Nat.le_of_ble_eq_true rfl⟩).run (fun r_87 h_87 => ?_)
      obtain rfl : r_87 = pLen v := h_87
      exact W.iret (v := (pLen v)) hx hb hr (fun tt ht hW => ⟨(pLen v), rfl, rfl, ht⟩) (fun q hq => absurd hq List.not_mem_nil) dX6_count_90
    · refine lv_tableIn (off := 90) (tgt := 91) hx hb dX6_count_1 (by decide) (by decide) (by decide) (by decide) ?_
      refine lv_aload_n hx hb dX6_count_91 rfl (lv_at hl 0 rfl) ?_
      refine va_get (D := D) (ci := 6) (v := .ref (a 1)) (C := RX6) (T := TX6) (N := 13) hx hb hts hiX6 hown hK hP 0 rfl rfl 0 (by decide) w_1 (fun _ h9 => h9) rfl dX6_count_92 ?_
      refine lv_iconst (v := 2) hx hb dX6_count_95 (by decide) ?_
      refine r_iald hx hb hK hP 1 0 rfl rfl (k := 2) (rfl) (by decide) (by decide) dX6_count_96 ?_
      refine lv_as (y := v.1 0 2) (row_0 v (by decide)) ?_
      exact W.iret (v := (v.1 0 2)) hx hb hr (fun tt ht hW => ⟨(v.1 0 2), rfl, rfl, ht⟩) (fun q hq => absurd hq List.not_mem_nil) dX6_count_97
    · refine lv_tableIn (off := 97) (tgt := 98) hx hb dX6_count_1 (by decide) (by decide) (by decide) (by decide) ?_
      refine lv_aload_n hx hb dX6_count_98 rfl (lv_at hl 0 rfl) ?_
      refine va_get (D := D) (ci := 6) (v := .ref (a 1)) (C := RX6) (T := TX6) (N := 13) hx hb hts hiX6 hown hK hP 0 rfl rfl 0 (by decide) w_1 (fun _ h9 => h9) rfl dX6_count_99 ?_
      refine lv_iconst (v := 3) hx hb dX6_count_102 (by decide) ?_
      refine r_iald hx hb hK hP 1 0 rfl rfl (k := 3) (rfl) (by decide) (by decide) dX6_count_103 ?_
      refine lv_as (y := v.1 0 3) (row_0 v (by decide)) ?_
      exact W.iret (v := (v.1 0 3)) hx hb hr (fun tt ht hW => ⟨(v.1 0 3), rfl, rfl, ht⟩) (fun q hq => absurd hq List.not_mem_nil) dX6_count_104
    · refine lv_tableIn (off := 104) (tgt := 105) hx hb dX6_count_1 (by decide) (by decide) (by decide) (by decide) ?_
      refine lv_aload_n hx hb dX6_count_105 rfl (lv_at hl 0 rfl) ?_
      refine vp_callSi (va_runV (As := []) (rest := []) ⟨hx, hb, hml, hown, hts⟩ (k_X6_slotNow l D ct (a 0) (a 1) (mTl a (nI k) (nI t)) v ok) (cwV 0 hts gX6_count_X6_slotNow rfl rfl rfl (by decide +kernel) ⟨Nat.le_of_ble_eq_true rfl, Nat.le_of_ble_eq_true rfl⟩) ⟨roP.blind, va_recv hK (mG_R hP) (ci := 6) (q0 := 0) rfl rfl, roP.at (mG_R hP) hK hN⟩ rfl rfl hl.1 rfl (lv_room (Nat.le_of_ble_eq_true rfl)) dX6_count_106 ⟨Nat.le_of_ble_eq_true rfl, Nat.le_of_ble_eq_true rfl⟩).run (fun r_106 h_106 => ?_)
      obtain rfl : r_106 = nI (pSlot v) := h_106
      exact W.iret (v := (nI (pSlot v))) hx hb hr (fun tt ht hW => ⟨(nI (pSlot v)), rfl, rfl, ht⟩) (fun q hq => absurd hq List.not_mem_nil) dX6_count_109
    · refine lv_tableIn (off := 109) (tgt := 110) hx hb dX6_count_1 (by decide) (by decide) (by decide) (by decide) ?_
      refine lv_aload_n hx hb dX6_count_110 rfl (lv_at hl 0 rfl) ?_
      refine va_get (D := D) (ci := 6) (v := .ref (a 1)) (C := RX6) (T := TX6) (N := 13) hx hb hts hiX6 hown hK hP 0 rfl rfl 0 (by decide) w_1 (fun _ h9 => h9) rfl dX6_count_111 ?_
      refine lv_iconst (v := 4) hx hb dX6_count_114 (by decide) ?_
      refine r_iald hx hb hK hP 1 0 rfl rfl (k := 4) (rfl) (by decide) (by decide) dX6_count_115 ?_
      refine lv_as (y := v.1 0 4) (row_0 v (by decide)) ?_
      exact W.iret (v := (v.1 0 4)) hx hb hr (fun tt ht hW => ⟨(v.1 0 4), rfl, rfl, ht⟩) (fun q hq => absurd hq List.not_mem_nil) dX6_count_116
    · refine lv_tableIn (off := 116) (tgt := 117) hx hb dX6_count_1 (by decide) (by decide) (by decide) (by decide) ?_
      refine lv_aload_n hx hb dX6_count_117 rfl (lv_at hl 0 rfl) ?_
      refine va_get (D := D) (ci := 6) (v := .ref (a 1)) (C := RX6) (T := TX6) (N := 13) hx hb hts hiX6 hown hK hP 0 rfl rfl 0 (by decide) w_1 (fun _ h9 => h9) rfl dX6_count_118 ?_
      refine lv_iconst (v := 5) hx hb dX6_count_121 (by decide) ?_
      refine r_iald hx hb hK hP 1 0 rfl rfl (k := 5) (rfl) (by decide) (by decide) dX6_count_122 ?_
      refine lv_as (y := v.1 0 5) (row_0 v (by decide)) ?_
      exact W.iret (v := (v.1 0 5)) hx hb hr (fun tt ht hW => ⟨(v.1 0 5), rfl, rfl, ht⟩) (fun q hq => absurd hq List.not_mem_nil) dX6_count_123
    · refine lv_tableIn (off := 123) (tgt := 124) hx hb dX6_count_1 (by decide) (by decide) (by decide) (by decide) ?_
      refine lv_aload_n hx hb dX6_count_124 rfl (lv_at hl 0 rfl) ?_
      refine vp_callSi (va_runV (As := []) (rest := []) ⟨hx, hb, hml, hown, hts⟩ (k_X6_broken l D ct (a 0) (a 1) (mTl a (nI k) (nI t)) v ok) (cwV 0 hts gX6_count_X6_broken rfl rfl rfl (by decide +kernel) ⟨Nat.le_of_ble_eq_true rfl, Nat.le_of_ble_eq_true rfl⟩) ⟨roP.blind, va_recv hK (mG_R hP) (ci := 6) (q0 := 0) rfl rfl, roP.at (mG_R hP) hK hN⟩ rfl rfl hl.1 rfl (lv_room (Nat.le_of_ble_eq_true rfl)) dX6_count_125 ⟨Nat.le_of_ble_eq_true rfl, Nat.le_of_ble_eq_true rfl⟩).run (fun r_125 h_125 => ?_)
      obtain rfl : r_125 = pBroS v (nOf v) := h_125
      exact W.iret (v := (pBroS v (nOf v))) hx hb hr (fun tt ht hW => ⟨(pBroS v (nOf v)), rfl, rfl, ht⟩) (fun q hq => absurd hq List.not_mem_nil) dX6_count_128
    · refine lv_tableIn (off := 128) (tgt := 129) hx hb dX6_count_1 (by decide) (by decide) (by decide) (by decide) ?_
      refine lv_aload_n hx hb dX6_count_129 rfl (lv_at hl 0 rfl) ?_
      refine va_get (D := D) (ci := 6) (v := .ref (a 1)) (C := RX6) (T := TX6) (N := 13) hx hb hts hiX6 hown hK hP 0 rfl rfl 0 (by decide) w_1 (fun _ h9 => h9) rfl dX6_count_130 ?_
      refine lv_bipush (v := 6) hx hb dX6_count_133 (by decide) ?_
      refine lv_iload_n hx hb dX6_count_135 rfl (lv_at hl 1 rfl) ?_
      refine lv_iadd hx hb dX6_count_136 ?_
      refine lv_bipush (v := 9) hx hb dX6_count_137 (by decide) ?_
      refine lv_isub hx hb dX6_count_139 ?_
      refine lv_as (y := nI 6) (rfl) ?_
      refine r_iald hx hb hK hP 1 0 rfl rfl (k := 6) (rfl) (by omega) (by decide) dX6_count_140 ?_
      refine lv_as (y := v.1 3 0) (row_3 v (j := 0) (by decide)) ?_
      exact W.iret (v := (v.1 3 0)) hx hb hr (fun tt ht hW => ⟨(v.1 3 0), rfl, rfl, ht⟩) (fun q hq => absurd hq List.not_mem_nil) dX6_count_141
    · refine lv_tableIn (off := 128) (tgt := 129) hx hb dX6_count_1 (by decide) (by decide) (by decide) (by decide) ?_
      refine lv_aload_n hx hb dX6_count_129 rfl (lv_at hl 0 rfl) ?_
      refine va_get (D := D) (ci := 6) (v := .ref (a 1)) (C := RX6) (T := TX6) (N := 13) hx hb hts hiX6 hown hK hP 0 rfl rfl 0 (by decide) w_1 (fun _ h9 => h9) rfl dX6_count_130 ?_
      refine lv_bipush (v := 6) hx hb dX6_count_133 (by decide) ?_
      refine lv_iload_n hx hb dX6_count_135 rfl (lv_at hl 1 rfl) ?_
      refine lv_iadd hx hb dX6_count_136 ?_
      refine lv_bipush (v := 9) hx hb dX6_count_137 (by decide) ?_
      refine lv_isub hx hb dX6_count_139 ?_
      refine lv_as (y := nI 7) (rfl) ?_
      refine r_iald hx hb hK hP 1 0 rfl rfl (k := 7) (rfl) (by omega) (by decide) dX6_count_140 ?_
      refine lv_as (y := v.1 3 1) (row_3 v (j := 1) (by decide)) ?_
      exact W.iret (v := (v.1 3 1)) hx hb hr (fun tt ht hW => ⟨(v.1 3 1), rfl, rfl, ht⟩) (fun q hq => absurd hq List.not_mem_nil) dX6_count_141
    · refine lv_tableIn (off := 128) (tgt := 129) hx hb dX6_count_1 (by decide) (by decide) (by decide) (by decide) ?_
      refine lv_aload_n hx hb dX6_count_129 rfl (lv_at hl 0 rfl) ?_
      refine va_get (D := D) (ci := 6) (v := .ref (a 1)) (C := RX6) (T := TX6) (N := 13) hx hb hts hiX6 hown hK hP 0 rfl rfl 0 (by decide) w_1 (fun _ h9 => h9) rfl dX6_count_130 ?_
      refine lv_bipush (v := 6) hx hb dX6_count_133 (by decide) ?_
      refine lv_iload_n hx hb dX6_count_135 rfl (lv_at hl 1 rfl) ?_
      refine lv_iadd hx hb dX6_count_136 ?_
      refine lv_bipush (v := 9) hx hb dX6_count_137 (by decide) ?_
      refine lv_isub hx hb dX6_count_139 ?_
      refine lv_as (y := nI 8) (rfl) ?_
      refine r_iald hx hb hK hP 1 0 rfl rfl (k := 8) (rfl) (by omega) (by decide) dX6_count_140 ?_
      refine lv_as (y := v.1 3 2) (row_3 v (j := 2) (by decide)) ?_
      exact W.iret (v := (v.1 3 2)) hx hb hr (fun tt ht hW => ⟨(v.1 3 2), rfl, rfl, ht⟩) (fun q hq => absurd hq List.not_mem_nil) dX6_count_141
    · refine lv_tableIn (off := 141) (tgt := 142) hx hb dX6_count_1 (by decide) (by decide) (by decide) (by decide) ?_
      refine lv_aload_n hx hb dX6_count_142 rfl (lv_at hl 0 rfl) ?_
      refine va_get (D := D) (ci := 6) (v := .int (nI k)) (C := RX6) (T := TX6) (N := 13) hx hb hts hiX6 hown hK hP 0 rfl rfl 6 (by decide) w_2 (fun _ h9 => h9) rfl dX6_count_143 ?_
      exact W.iret (v := (nI k)) hx hb hr (fun tt ht hW => ⟨(nI k), rfl, rfl, ht⟩) (fun q hq => absurd hq List.not_mem_nil) dX6_count_146
    · refine lv_tableIn (off := 146) (tgt := 147) hx hb dX6_count_1 (by decide) (by decide) (by decide) (by decide) ?_
      refine lv_aload_n hx hb dX6_count_147 rfl (lv_at hl 0 rfl) ?_
      refine va_get (D := D) (ci := 6) (v := .int (nI t)) (C := RX6) (T := TX6) (N := 13) hx hb hts hiX6 hown hK hP 0 rfl rfl 10 (by decide) w_3 (fun _ h9 => h9) rfl dX6_count_148 ?_
      exact W.iret (v := (nI t)) hx hb hr (fun tt ht hW => ⟨(nI t), rfl, rfl, ht⟩) (fun q hq => absurd hq List.not_mem_nil) dX6_count_151

set_option maxHeartbeats 4000000 in
set_option maxRecDepth 100000 in
theorem k_X6_group_e1 (l : Launch) (D : va_G) (ct : Nat → ClassId) (a : Nat → Nat) (v u : SV) (w sl : Nat → SV) (k t : Nat) (hk : k ≤ 5) (ik tx rd : Nat → Int32) (x y : Int32) (hin : pIn x 0 3 = 0) : Met l yX6_group wsX6_group ({ frames := 2, cells := 0, slots := 0, locals := 45 }) (roP D ct (mG ct a (nI k) (nI t) (rowOf v) v.2 (rowOf u) u.2 (hisI w) (hisF w) (hisI sl) (hisF sl) ik tx rd) [.ref (a 0), .int x, .int y]) (vp_Si (fun r => r = -1)) 0 0 noA := by
  refine Met.ofW (cc := cX6_group) (maxL := 3) (ret := (some .int)) (by decide) rfl ?_
  intro p e s m args below meth c s₁ B hml hv
  obtain ⟨rfl, hP, hK, hN⟩ := hv
  have hx := B.exec
  have hb := B.bytes
  have hr := B.returns
  have hts := atoms_spec (ws := wsX6_group) B.pre
  have hown : s.vm.findClass RX6 = some m.cls := findClass_of_methodNamed B.named
  have hlocks := B.notSynchronized
  have hl := lv_entry ([.ref (a 0), .int x, .int y]) (n := 3) (Nat.le_of_ble_eq_true rfl)
  rw [lg_entry_eq]
  generalize (lg_sl ([.ref (a 0), .int x, .int y]) ++ List.replicate (3 - (lg_sl ([.ref (a 0), .int x, .int y])).length) Slot.unset).toArray = ls at hl ⊢
  have hl : lv_has ls 3 [(0, .ref (a 0)), (1, .int x), (2, .int y)] := hl
  refine lv_iload_n hx hb dX6_group_0 rfl (lv_at hl 1 rfl) ?_
  refine lv_iconst (v := 0) hx hb dX6_group_1 (by decide) ?_
  refine lv_iconst (v := 3) hx hb dX6_group_2 (by decide) ?_
  refine vp_callSi (va_runS (As := [.int x, .int 0, .int 3]) (rest := []) ⟨hx, hb, hml, hown, hts⟩ (k_X6_in l D ct x 0 3) (va_cwS 3 hts gX6_group_X6_in rfl rfl rfl (by decide +kernel) ⟨Nat.le_of_ble_eq_true rfl, Nat.le_of_ble_eq_true rfl⟩) ⟨roP.blind, roP.at pw_nil hK hN⟩ rfl rfl hl.1 rfl (lv_room (Nat.le_of_ble_eq_true rfl)) dX6_group_3 ⟨Nat.le_of_ble_eq_true rfl, Nat.le_of_ble_eq_true rfl⟩).run (fun r_3 h_3 => ?_)
  obtain rfl : r_3 = pIn x 0 3 := h_3
  refine lv_if_ne (tgt := 11) hx hb dX6_group_6 (by decide) (fun c_6 => ?_) (fun c_6 => ?_)
  · exact absurd hin c_6
  · refine lv_iconst (v := (-1)) hx hb dX6_group_9 (by decide) ?_
    exact W.iret (v := (-1)) hx hb hr (fun tt ht hW => ⟨(-1), rfl, rfl, ht⟩) (fun q hq => absurd hq List.not_mem_nil) dX6_group_10

set_option maxHeartbeats 4000000 in
set_option maxRecDepth 100000 in
theorem k_X6_group_ok (l : Launch) (D : va_G) (ct : Nat → ClassId) (a : Nat → Nat) (v u : SV) (w sl : Nat → SV) (k t : Nat) (hk : k ≤ 5) (ik tx rd : Nat → Int32) (ok : Inv v) (g : Nat) (hg : g < 4) (y : Int32) : Met l yX6_group wsX6_group ({ frames := 2, cells := 0, slots := 0, locals := 45 }) (roP D ct (mG ct a (nI k) (nI t) (rowOf v) v.2 (rowOf u) u.2 (hisI w) (hisF w) (hisI sl) (hisF sl) ik tx rd) [.ref (a 0), .int (nI g), .int y]) (vp_Si (fun r => r = pGrp v g y)) 0 0 noA := by
  refine Met.ofW (cc := cX6_group) (maxL := 3) (ret := (some .int)) (by decide) rfl ?_
  intro p e s m args below meth c s₁ B hml hv
  obtain ⟨rfl, hP, hK, hN⟩ := hv
  have hx := B.exec
  have hb := B.bytes
  have hr := B.returns
  have hts := atoms_spec (ws := wsX6_group) B.pre
  have hown : s.vm.findClass RX6 = some m.cls := findClass_of_methodNamed B.named
  have hlocks := B.notSynchronized
  have w_1 := hts (.fieldLink RX6 7 "ScannedDigitsModel" "row" "[I") (List.mem_of_getElem? (i := 1) rfl)
  have hiX6 : ∀ w ∈ wsX60, w ∈ wsX6_group := fun w h => (goodIn_r wsX60 [18, 19, 20, 21, 22, 23, 24, 25, 26, 27, 28, 29, 30] (by decide +kernel) (by decide +kernel) w h).1
  have hl := lv_entry ([.ref (a 0), .int (nI g), .int y]) (n := 3) (Nat.le_of_ble_eq_true rfl)
  rw [lg_entry_eq]
  generalize (lg_sl ([.ref (a 0), .int (nI g), .int y]) ++ List.replicate (3 - (lg_sl ([.ref (a 0), .int (nI g), .int y])).length) Slot.unset).toArray = ls at hl ⊢
  have hl : lv_has ls 3 [(0, .ref (a 0)), (1, .int (nI g)), (2, .int y)] := hl
  have hin : ¬ pIn (nI g) 0 3 = 0 := pIn_ok (a := 0) (b := 3) rfl rfl (Nat.zero_le _) (by omega) (by decide)
  refine lv_iload_n hx hb dX6_group_0 rfl (lv_at hl 1 rfl) ?_
  refine lv_iconst (v := 0) hx hb dX6_group_1 (by decide) ?_
  refine lv_iconst (v := 3) hx hb dX6_group_2 (by decide) ?_
  refine vp_callSi (va_runS (As := [.int (nI g), .int 0, .int 3]) (rest := []) ⟨hx, hb, hml, hown, hts⟩ (k_X6_in l D ct (nI g) 0 3) (va_cwS 3 hts gX6_group_X6_in rfl rfl rfl (by decide +kernel) ⟨Nat.le_of_ble_eq_true rfl, Nat.le_of_ble_eq_true rfl⟩) ⟨roP.blind, roP.at pw_nil hK hN⟩ rfl rfl hl.1 rfl (lv_room (Nat.le_of_ble_eq_true rfl)) dX6_group_3 ⟨Nat.le_of_ble_eq_true rfl, Nat.le_of_ble_eq_true rfl⟩).run (fun r_3 h_3 => ?_)
  obtain rfl : r_3 = pIn (nI g) 0 3 := h_3
  refine lv_if_ne (tgt := 11) hx hb dX6_group_6 (by decide) (fun c_6 => ?_) (fun c_6 => ?_)
  · refine lv_iload_n hx hb dX6_group_11 rfl (lv_at hl 2 rfl) ?_
    by_cases sw_12 : (y).toInt < 0 ∨ 3 < (y).toInt
    · refine lv_tableOut (tgt := 104) hx hb dX6_group_12 sw_12 (by decide) ?_
      refine lv_bipush (v := (-2)) hx hb dX6_group_104 (by decide) ?_
      exact W.iret (v := (-2)) hx hb hr (fun tt ht hW => ⟨(-2), rfl, pGrp_out sw_12, ht⟩) (fun q hq => absurd hq List.not_mem_nil) dX6_group_106
    · have sv_12 : y = 0 ∨ y = 1 ∨ y = 2 ∨ y = 3 := sw_cases_0_3 sw_12
      rcases sv_12 with rfl | rfl | rfl | rfl
      · refine lv_tableIn (off := 32) (tgt := 44) hx hb dX6_group_12 (by decide) (by decide) (by decide) (by decide) ?_
        refine lv_iload_n hx hb dX6_group_44 rfl (lv_at hl 1 rfl) ?_
        refine lv_if_ne (tgt := 52) hx hb dX6_group_45 (by decide) (fun c_45 => ?_) (fun c_45 => ?_)
        · have h0 : 0 < g := Nat.pos_of_ne_zero (fun z => c_45 (by rw [z]; rfl))
          refine lv_aload_n hx hb dX6_group_52 rfl (lv_at hl 0 rfl) ?_
          refine va_get (D := D) (ci := 6) (v := .ref (a 1)) (C := RX6) (T := TX6) (N := 13) hx hb hts hiX6 hown hK hP 0 rfl rfl 0 (by decide) w_1 (fun _ h9 => h9) rfl dX6_group_53 ?_
          refine lv_bipush (v := 9) hx hb dX6_group_56 (by decide) ?_
          refine lv_iload_n hx hb dX6_group_58 rfl (lv_at hl 1 rfl) ?_
          refine lv_iadd hx hb dX6_group_59 ?_
          refine lv_iconst (v := 1) hx hb dX6_group_60 (by decide) ?_
          refine lv_isub hx hb dX6_group_61 ?_
          refine r_iald hx hb hK hP 1 0 rfl rfl (k := 8 + g) (ix_m1 8 g 9 rfl) (by omega) (by decide) dX6_group_62 ?_
          refine lv_as (y := v.1 1 g) (row_1 v h0 hg) ?_
          exact W.iret (v := (v.1 1 g)) hx hb hr (fun tt ht hW => ⟨(v.1 1 g), rfl, rfl, ht⟩) (fun q hq => absurd hq List.not_mem_nil) dX6_group_63
        · have h0 : g = 0 := (nI_eq (by omega) (by decide)).mp (show nI g = nI 0 from c_45)
          refine lv_iconst (v := 0) hx hb dX6_group_48 (by decide) ?_
          refine lv_goto (tgt := 63) hx hb dX6_group_49 (by decide) ?_
          exact W.iret (v := 0) hx hb hr (fun tt ht hW => ⟨0, rfl, by rw [h0]; exact ok.2.2.2.1.1.symm, ht⟩) (fun q hq => absurd hq List.not_mem_nil) dX6_group_63
      · refine lv_tableIn (off := 52) (tgt := 64) hx hb dX6_group_12 (by decide) (by decide) (by decide) (by decide) ?_
        refine lv_iload_n hx hb dX6_group_64 rfl (lv_at hl 1 rfl) ?_
        refine lv_if_ne (tgt := 72) hx hb dX6_group_65 (by decide) (fun c_65 => ?_) (fun c_65 => ?_)
        · have h0 : 0 < g := Nat.pos_of_ne_zero (fun z => c_65 (by rw [z]; rfl))
          refine lv_aload_n hx hb dX6_group_72 rfl (lv_at hl 0 rfl) ?_
          refine va_get (D := D) (ci := 6) (v := .ref (a 1)) (C := RX6) (T := TX6) (N := 13) hx hb hts hiX6 hown hK hP 0 rfl rfl 0 (by decide) w_1 (fun _ h9 => h9) rfl dX6_group_73 ?_
          refine lv_bipush (v := 12) hx hb dX6_group_76 (by decide) ?_
          refine lv_iload_n hx hb dX6_group_78 rfl (lv_at hl 1 rfl) ?_
          refine lv_iadd hx hb dX6_group_79 ?_
          refine lv_iconst (v := 1) hx hb dX6_group_80 (by decide) ?_
          refine lv_isub hx hb dX6_group_81 ?_
          refine r_iald hx hb hK hP 1 0 rfl rfl (k := 11 + g) (ix_m1 11 g 12 rfl) (by omega) (by decide) dX6_group_82 ?_
          refine lv_as (y := v.1 2 g) (row_2 v h0 hg) ?_
          exact W.iret (v := (v.1 2 g)) hx hb hr (fun tt ht hW => ⟨(v.1 2 g), rfl, rfl, ht⟩) (fun q hq => absurd hq List.not_mem_nil) dX6_group_83
        · have h0 : g = 0 := (nI_eq (by omega) (by decide)).mp (show nI g = nI 0 from c_65)
          refine lv_iconst (v := 0) hx hb dX6_group_68 (by decide) ?_
          refine lv_goto (tgt := 83) hx hb dX6_group_69 (by decide) ?_
          exact W.iret (v := 0) hx hb hr (fun tt ht hW => ⟨0, rfl, by rw [h0]; exact ok.2.2.2.1.2.symm, ht⟩) (fun q hq => absurd hq List.not_mem_nil) dX6_group_83
      · refine lv_tableIn (off := 72) (tgt := 84) hx hb dX6_group_12 (by decide) (by decide) (by decide) (by decide) ?_
        refine lv_aload_n hx hb dX6_group_84 rfl (lv_at hl 0 rfl) ?_
        refine lv_iload_n hx hb dX6_group_85 rfl (lv_at hl 1 rfl) ?_
        refine vp_callSi (va_runV (As := [.int (nI g)]) (rest := []) ⟨hx, hb, hml, hown, hts⟩ (k_X6_isOn l D ct (a 0) (a 1) (mTl a (nI k) (nI t)) v g hg ok) (cwV 1 hts gX6_group_X6_isOn rfl rfl rfl (by decide +kernel) ⟨Nat.le_of_ble_eq_true rfl, Nat.le_of_ble_eq_true rfl⟩) ⟨roP.blind, va_recv hK (mG_R hP) (ci := 6) (q0 := 0) rfl rfl, roP.at (mG_R hP) hK hN⟩ rfl rfl hl.1 rfl (lv_room (Nat.le_of_ble_eq_true rfl)) dX6_group_86 ⟨Nat.le_of_ble_eq_true rfl, Nat.le_of_ble_eq_true rfl⟩).run (fun r_86 h_86 => ?_)
        obtain rfl : r_86 = if pOn v g then 1 else 0 := h_86
        refine lv_if_eq (tgt := 96) hx hb dX6_group_89 (by decide) (fun c_89 => ?_) (fun c_89 => ?_)
        · have hon : ¬ pOn v g := fun z => by rw [if_pos z] at c_89; exact absurd c_89 (by decide)
          refine lv_iconst (v := 0) hx hb dX6_group_96 (by decide) ?_
          exact W.iret (v := 0) hx hb hr (fun tt ht hW => ⟨0, rfl, (if_neg hon).symm, ht⟩) (fun q hq => absurd hq List.not_mem_nil) dX6_group_97
        · have hon : pOn v g := Classical.byContradiction (fun z => by rw [if_neg z] at c_89; exact c_89 rfl)
          refine lv_iconst (v := 1) hx hb dX6_group_92 (by decide) ?_
          refine lv_goto (tgt := 97) hx hb dX6_group_93 (by decide) ?_
          exact W.iret (v := 1) hx hb hr (fun tt ht hW => ⟨1, rfl, (if_pos hon).symm, ht⟩) (fun q hq => absurd hq List.not_mem_nil) dX6_group_97
      · refine lv_tableIn (off := 86) (tgt := 98) hx hb dX6_group_12 (by decide) (by decide) (by decide) (by decide) ?_
        refine lv_aload_n hx hb dX6_group_98 rfl (lv_at hl 0 rfl) ?_
        refine lv_iload_n hx hb dX6_group_99 rfl (lv_at hl 1 rfl) ?_
        refine vp_callSi (va_runV (As := [.int (nI g)]) (rest := []) ⟨hx, hb, hml, hown, hts⟩ (k_X6_digitsIn l D ct (a 0) (a 1) (mTl a (nI k) (nI t)) v (nI g) ok.n8 ok.cnt) (cwV 1 hts gX6_group_X6_digitsIn rfl rfl rfl (by decide +kernel) ⟨Nat.le_of_ble_eq_true rfl, Nat.le_of_ble_eq_true rfl⟩) ⟨roP.blind, va_recv hK (mG_R hP) (ci := 6) (q0 := 0) rfl rfl, roP.at (mG_R hP) hK hN⟩ rfl rfl hl.1 rfl (lv_room (Nat.le_of_ble_eq_true rfl)) dX6_group_100 ⟨Nat.le_of_ble_eq_true rfl, Nat.le_of_ble_eq_true rfl⟩).run (fun r_100 h_100 => ?_)
        obtain rfl : r_100 = pDin v (nI g) (nOf v) := h_100
        exact W.iret (v := (pDin v (nI g) (nOf v))) hx hb hr (fun tt ht hW => ⟨(pDin v (nI g) (nOf v)), rfl, rfl, ht⟩) (fun q hq => absurd hq List.not_mem_nil) dX6_group_103
  · exact absurd c_6 hin

