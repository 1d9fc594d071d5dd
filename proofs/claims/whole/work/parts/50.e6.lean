set_option maxHeartbeats 4000000 in
set_option maxRecDepth 100000 in
theorem k_X6_litIn_e1 (l : Launch) (D : va_G) (ct : Nat → ClassId) (a : Nat → Nat) (v u : SV) (w sl : Nat → SV) (k t : Nat) (hk : k ≤ 5) (ik tx rd : Nat → Int32) (x : Int32) (y1 : Int32) (hnd : ¬ vD v x) : Met l yX6_litIn wsX6_litIn ({ frames := 5, cells := 0, slots := 0, locals := 115 }) (roP D ct (mG ct a (nI k) (nI t) (rowOf v) v.2 (rowOf u) u.2 (hisI w) (hisF w) (hisI sl) (hisF sl) ik tx rd) [.ref (a 0), .int x, .int y1]) (vp_Si (fun r => r = -1)) 0 0 noA := by
  refine Met.ofW (cc := cX6_litIn) (maxL := 5) (ret := (some .int)) (by decide) rfl ?_
  intro p e s m args below meth c s₁ B hml hv
  obtain ⟨rfl, hP, hK, hN⟩ := hv
  have hx := B.exec
  have hb := B.bytes
  have hr := B.returns
  have hts := atoms_spec (ws := wsX6_litIn) B.pre
  have hown : s.vm.findClass RX6 = some m.cls := findClass_of_methodNamed B.named
  have hlocks := B.notSynchronized
  have hl := lv_entry ([.ref (a 0), .int x, .int y1]) (n := 5) (Nat.le_of_ble_eq_true rfl)
  rw [lg_entry_eq]
  generalize (lg_sl ([.ref (a 0), .int x, .int y1]) ++ List.replicate (5 - (lg_sl ([.ref (a 0), .int x, .int y1])).length) Slot.unset).toArray = ls at hl ⊢
  have hl : lv_has ls 5 [(0, .ref (a 0)), (1, .int x), (2, .int y1)] := hl
  refine lv_aload_n hx hb dX6_litIn_0 rfl (lv_at hl 0 rfl) ?_
  refine lv_iload_n hx hb dX6_litIn_1 rfl (lv_at hl 1 rfl) ?_
  refine vp_callSi (va_runV (As := [.int x]) (rest := []) ⟨hx, hb, hml, hown, hts⟩ (k_X6_noDigit l D ct (a 0) (a 1) (mTl a (nI k) (nI t)) v x) (cwV 1 hts gX6_litIn_X6_noDigit rfl rfl rfl (by decide +kernel) ⟨Nat.le_of_ble_eq_true rfl, Nat.le_of_ble_eq_true rfl⟩) ⟨roP.blind, va_recv hK (mG_R hP) (ci := 6) (q0 := 0) rfl rfl, roP.at (mG_R hP) hK hN⟩ rfl rfl hl.1 rfl (lv_room (Nat.le_of_ble_eq_true rfl)) dX6_litIn_2 ⟨Nat.le_of_ble_eq_true rfl, Nat.le_of_ble_eq_true rfl⟩).run (fun r_2 h_2 => ?_)
  obtain rfl : r_2 = if vD v x then 0 else 1 := h_2
  refine lv_if_eq (tgt := 10) hx hb dX6_litIn_5 (by decide) (fun c_5 => ?_) (fun c_5 => ?_)
  · exact absurd ((if_neg hnd).symm.trans c_5) (by decide)
  · refine lv_iconst (v := (-1)) hx hb dX6_litIn_8 (by decide) ?_
    exact W.iret (v := (-1)) hx hb hr (fun tt ht hW => ⟨(-1), rfl, rfl, ht⟩) (fun q hq => absurd hq List.not_mem_nil) dX6_litIn_9

set_option maxHeartbeats 4000000 in
set_option maxRecDepth 100000 in
theorem k_X6_litIn_e2 (l : Launch) (D : va_G) (ct : Nat → ClassId) (a : Nat → Nat) (v u : SV) (w sl : Nat → SV) (k t : Nat) (hk : k ≤ 5) (ik tx rd : Nat → Int32) (ok : Inv v) (d : Nat) (hd : d < nOf v) (y : Int32) (hin : pIn y 0 500 = 0) : Met l yX6_litIn wsX6_litIn ({ frames := 5, cells := 0, slots := 0, locals := 115 }) (roP D ct (mG ct a (nI k) (nI t) (rowOf v) v.2 (rowOf u) u.2 (hisI w) (hisF w) (hisI sl) (hisF sl) ik tx rd) [.ref (a 0), .int (nI d), .int y]) (vp_Si (fun r => r = -2)) 0 0 noA := by
  refine Met.ofW (cc := cX6_litIn) (maxL := 5) (ret := (some .int)) (by decide) rfl ?_
  intro p e s m args below meth c s₁ B hml hv
  obtain ⟨rfl, hP, hK, hN⟩ := hv
  have hx := B.exec
  have hb := B.bytes
  have hr := B.returns
  have hts := atoms_spec (ws := wsX6_litIn) B.pre
  have hown : s.vm.findClass RX6 = some m.cls := findClass_of_methodNamed B.named
  have hlocks := B.notSynchronized
  have hl := lv_entry ([.ref (a 0), .int (nI d), .int y]) (n := 5) (Nat.le_of_ble_eq_true rfl)
  rw [lg_entry_eq]
  generalize (lg_sl ([.ref (a 0), .int (nI d), .int y]) ++ List.replicate (5 - (lg_sl ([.ref (a 0), .int (nI d), .int y])).length) Slot.unset).toArray = ls at hl ⊢
  have hl : lv_has ls 5 [(0, .ref (a 0)), (1, .int (nI d)), (2, .int y)] := hl
  have hd8 : d < 8 := Nat.lt_of_lt_of_le hd ok.n8
  have hvd := vD_of ok hd
  refine lv_aload_n hx hb dX6_litIn_0 rfl (lv_at hl 0 rfl) ?_
  refine lv_iload_n hx hb dX6_litIn_1 rfl (lv_at hl 1 rfl) ?_
  refine vp_callSi (va_runV (As := [.int (nI d)]) (rest := []) ⟨hx, hb, hml, hown, hts⟩ (k_X6_noDigit l D ct (a 0) (a 1) (mTl a (nI k) (nI t)) v (nI d)) (cwV 1 hts gX6_litIn_X6_noDigit rfl rfl rfl (by decide +kernel) ⟨Nat.le_of_ble_eq_true rfl, Nat.le_of_ble_eq_true rfl⟩) ⟨roP.blind, va_recv hK (mG_R hP) (ci := 6) (q0 := 0) rfl rfl, roP.at (mG_R hP) hK hN⟩ rfl rfl hl.1 rfl (lv_room (Nat.le_of_ble_eq_true rfl)) dX6_litIn_2 ⟨Nat.le_of_ble_eq_true rfl, Nat.le_of_ble_eq_true rfl⟩).run (fun r_2 h_2 => ?_)
  obtain rfl : r_2 = if vD v (nI d) then 0 else 1 := h_2
  refine lv_if_eq (tgt := 10) hx hb dX6_litIn_5 (by decide) (fun c_5 => ?_) (fun c_5 => ?_)
  · refine lv_iload_n hx hb dX6_litIn_10 rfl (lv_at hl 2 rfl) ?_
    refine lv_iconst (v := 0) hx hb dX6_litIn_11 (by decide) ?_
    refine lv_sipush (v := 500) hx hb dX6_litIn_12 (by decide) ?_
    refine vp_callSi (va_runS (As := [.int y, .int 0, .int 500]) (rest := []) ⟨hx, hb, hml, hown, hts⟩ (k_X6_in l D ct y 0 500) (va_cwS 3 hts gX6_litIn_X6_in rfl rfl rfl (by decide +kernel) ⟨Nat.le_of_ble_eq_true rfl, Nat.le_of_ble_eq_true rfl⟩) ⟨roP.blind, roP.at pw_nil hK hN⟩ rfl rfl hl.1 rfl (lv_room (Nat.le_of_ble_eq_true rfl)) dX6_litIn_15 ⟨Nat.le_of_ble_eq_true rfl, Nat.le_of_ble_eq_true rfl⟩).run (fun r_15 h_15 => ?_)
    obtain rfl : r_15 = pIn y 0 500 := h_15
    refine lv_if_ne (tgt := 24) hx hb dX6_litIn_18 (by decide) (fun c_18 => ?_) (fun c_18 => ?_)
    · exact absurd hin c_18
    · refine lv_bipush (v := (-2)) hx hb dX6_litIn_21 (by decide) ?_
      exact W.iret (v := (-2)) hx hb hr (fun tt ht hW => ⟨(-2), rfl, rfl, ht⟩) (fun q hq => absurd hq List.not_mem_nil) dX6_litIn_23
  · exact absurd (if_pos hvd) c_5

set_option maxHeartbeats 4000000 in
set_option maxRecDepth 100000 in
theorem k_X6_steadyGlow_e1 (l : Launch) (D : va_G) (ct : Nat → ClassId) (a : Nat → Nat) (v u : SV) (w sl : Nat → SV) (k t : Nat) (hk : k ≤ 5) (ik tx rd : Nat → Int32) (x : Int32) (hnd : ¬ vD v x) : Met l yX6_steadyGlow wsX6_steadyGlow ({ frames := 3, cells := 0, slots := 0, locals := 65 }) (roP D ct (mG ct a (nI k) (nI t) (rowOf v) v.2 (rowOf u) u.2 (hisI w) (hisF w) (hisI sl) (hisF sl) ik tx rd) [.ref (a 0), .int x]) (vp_Si (fun r => r = -1)) 0 0 noA := by
  refine Met.ofW (cc := cX6_steadyGlow) (maxL := 8) (ret := (some .int)) (by decide) rfl ?_
  intro p e s m args below meth c s₁ B hml hv
  obtain ⟨rfl, hP, hK, hN⟩ := hv
  have hx := B.exec
  have hb := B.bytes
  have hr := B.returns
  have hts := atoms_spec (ws := wsX6_steadyGlow) B.pre
  have hown : s.vm.findClass RX6 = some m.cls := findClass_of_methodNamed B.named
  have hlocks := B.notSynchronized
  have hl := lv_entry ([.ref (a 0), .int x]) (n := 8) (Nat.le_of_ble_eq_true rfl)
  rw [lg_entry_eq]
  generalize (lg_sl ([.ref (a 0), .int x]) ++ List.replicate (8 - (lg_sl ([.ref (a 0), .int x])).length) Slot.unset).toArray = ls at hl ⊢
  have hl : lv_has ls 8 [(0, .ref (a 0)), (1, .int x)] := hl
  refine lv_aload_n hx hb dX6_steadyGlow_0 rfl (lv_at hl 0 rfl) ?_
  refine lv_iload_n hx hb dX6_steadyGlow_1 rfl (lv_at hl 1 rfl) ?_
  refine vp_callSi (va_runV (As := [.int x]) (rest := []) ⟨hx, hb, hml, hown, hts⟩ (k_X6_noDigit l D ct (a 0) (a 1) (mTl a (nI k) (nI t)) v x) (cwV 1 hts gX6_steadyGlow_X6_noDigit rfl rfl rfl (by decide +kernel) ⟨Nat.le_of_ble_eq_true rfl, Nat.le_of_ble_eq_true rfl⟩) ⟨roP.blind, va_recv hK (mG_R hP) (ci := 6) (q0 := 0) rfl rfl, roP.at (mG_R hP) hK hN⟩ rfl rfl hl.1 rfl (lv_room (Nat.le_of_ble_eq_true rfl)) dX6_steadyGlow_2 ⟨Nat.le_of_ble_eq_true rfl, Nat.le_of_ble_eq_true rfl⟩).run (fun r_2 h_2 => ?_)
  obtain rfl : r_2 = if vD v x then 0 else 1 := h_2
  refine lv_if_eq (tgt := 10) hx hb dX6_steadyGlow_5 (by decide) (fun c_5 => ?_) (fun c_5 => ?_)
  · exact absurd ((if_neg hnd).symm.trans c_5) (by decide)
  · refine lv_iconst (v := (-1)) hx hb dX6_steadyGlow_8 (by decide) ?_
    exact W.iret (v := (-1)) hx hb hr (fun tt ht hW => ⟨(-1), rfl, rfl, ht⟩) (fun q hq => absurd hq List.not_mem_nil) dX6_steadyGlow_9

