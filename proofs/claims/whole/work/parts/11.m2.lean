set_option maxHeartbeats 4000000 in
set_option maxRecDepth 100000 in
theorem k_X6_slotNow (l : Launch) (D : va_G) (ct : Nat → ClassId) (h r : Nat) (tl : List Value) (v : SV) (ok : Inv v) : Met l yX6_slotNow wsX6_slotNow ({ frames := 2, cells := 0, slots := 0, locals := 45 }) (roP D ct (mR ct h r tl v) [.ref h]) (vp_Si (fun r => r = nI (pSlot v))) 0 0 noA := by
  refine Met.ofW (cc := cX6_slotNow) (maxL := 2) (ret := (some .int)) (by decide) rfl ?_
  intro p e s m args below meth c s₁ B hml hv
  obtain ⟨rfl, hP, hK, hN⟩ := hv
  have hx := B.exec
  have hb := B.bytes
  have hr := B.returns
  have hts := atoms_spec (ws := wsX6_slotNow) B.pre
  have hown : s.vm.findClass RX6 = some m.cls := findClass_of_methodNamed B.named
  have hlocks := B.notSynchronized
  have w_1 := hts (.fieldLink RX6 7 "ScannedDigitsModel" "row" "[I") (List.mem_of_getElem? (i := 1) rfl)
  have hiX6 : ∀ w ∈ wsX60, w ∈ wsX6_slotNow := fun w h => (goodIn_r wsX60 [11, 12, 13, 14, 15, 16, 17, 18, 19, 20, 21, 22, 23] (by decide +kernel) (by decide +kernel) w h).1
  have hl := lv_entry ([.ref h]) (n := 2) (Nat.le_of_ble_eq_true rfl)
  rw [lg_entry_eq]
  generalize (lg_sl ([.ref h]) ++ List.replicate (2 - (lg_sl ([.ref h])).length) Slot.unset).toArray = ls at hl ⊢
  have hl : lv_has ls 2 [(0, .ref h)] := hl
  have n8 := ok.n8
  have n1 := ok.n1
  have htk := ok.tick
  refine lv_iconst (v := 0) hx hb dX6_slotNow_0 (by decide) ?_
  refine lv_istore_n (lv' := [(1, .int 0), (0, .ref h)]) hx hb dX6_slotNow_1 rfl hl (by decide) rfl (fun ls hl => ?_)
  have loop_2 : ∀ (n_2 : Nat) (i : Nat), (i < nOf v) → (nOf v ≤ i + n_2) → (pSlotF v (8 - i) i = pSlot v) → ∀ (ls : Array Slot), lv_has ls 2 [(1, .int (nI i)), (0, .ref h)] → W p l e (headSpec wsX6_slotNow ({ frames := 2, cells := 0, slots := 0, locals := 45 })).room s m #[.ref h] below meth c s.heap [] 0 0 (MQ below (vp_Si (fun r => r = nI (pSlot v))) #[.ref h] s 0 0 (noA)) (F0 m 2 ls []) := by
    intro n_2
    induction n_2 with
    | zero =>
      intro i hi hn hq
      exact absurd hn (by omega)
    | succ n_2 ih_2 =>
      intro i hi hn hq ls hl
      refine lv_aload_n hx hb dX6_slotNow_2 rfl (lv_at hl 1 rfl) ?_
      refine va_get (D := D) (ci := 6) (v := .ref r) (C := RX6) (T := TX6) (N := 13) hx hb hts hiX6 hown hK hP 0 rfl rfl 0 (by decide) w_1 (fun _ h9 => h9) rfl dX6_slotNow_3 ?_
      refine lv_iconst (v := 3) hx hb dX6_slotNow_6 (by decide) ?_
      refine r_iald hx hb hK hP 1 0 rfl rfl (k := 3) (rfl) (by decide) (by decide) dX6_slotNow_7 ?_
      refine lv_as (y := v.1 0 3) (row_0 v (by decide)) ?_
      refine lv_aload_n hx hb dX6_slotNow_8 rfl (lv_at hl 1 rfl) ?_
      refine lv_iload_n hx hb dX6_slotNow_9 rfl (lv_at hl 0 rfl) ?_
      refine lv_iconst (v := 1) hx hb dX6_slotNow_10 (by decide) ?_
      refine lv_iadd hx hb dX6_slotNow_11 ?_
      refine lv_as (y := nI (i + 1)) (nI_1 i) ?_
      refine vp_callSi (va_runV (As := [.int (nI (i + 1))]) (rest := [.int (v.1 0 3)]) ⟨hx, hb, hml, hown, hts⟩ (k_X6_beginOf l D ct h r tl v (i + 1) (by omega)) (cwV 1 hts gX6_slotNow_X6_beginOf rfl rfl rfl (by decide +kernel) ⟨Nat.le_of_ble_eq_true rfl, Nat.le_of_ble_eq_true rfl⟩) ⟨roP.blind, va_recv hK hP (ci := 6) (q0 := 0) rfl rfl, roP.at hP hK hN⟩ rfl rfl hl.1 rfl (lv_room (Nat.le_of_ble_eq_true rfl)) dX6_slotNow_12 ⟨Nat.le_of_ble_eq_true rfl, Nat.le_of_ble_eq_true rfl⟩).run (fun r_12 h_12 => ?_)
      obtain rfl : r_12 = pBeg v (i + 1) := h_12
      refine lv_icmp_lt (tgt := 24) hx hb dX6_slotNow_15 (by decide) (fun c_15 => ?_) (fun c_15 => ?_)
      · refine lv_iload_n hx hb dX6_slotNow_24 rfl (lv_at hl 0 rfl) ?_
        exact W.iret (v := (nI i)) hx hb hr (fun tt ht hW => ⟨(nI i), rfl, by rw [← hq, pSlot_exit (by omega) c_15], ht⟩) (fun q hq => absurd hq List.not_mem_nil) dX6_slotNow_25
      · refine lv_iinc (v := nI (i + 1)) (lv' := [(1, .int (nI (i + 1))), (0, .ref h)]) hx hb dX6_slotNow_18 hl (k := 0) rfl ((nI_succ i).symm) (by decide) rfl (fun ls hl => ?_)
        refine lv_goto (tgt := 2) hx hb dX6_slotNow_21 (by decide) ?_
        have hi2 : i + 1 < nOf v := Nat.lt_of_le_of_ne hi (fun z => c_15 (by rw [z]; exact htk))
        exact ih_2 (i + 1) hi2 (by omega) ((pSlot_next (by omega) c_15).symm.trans hq) ls (lv_sub hl [0, 1] rfl)
  exact loop_2 (nOf v) 0 (by omega) (by omega) rfl ls (lv_sub hl [0, 1] rfl)

set_option maxHeartbeats 4000000 in
set_option maxRecDepth 100000 in
theorem k_X6_isOn (l : Launch) (D : va_G) (ct : Nat → ClassId) (h r : Nat) (tl : List Value) (v : SV) (g : Nat) (hg : g < 4) (ok : Inv v) : Met l yX6_isOn wsX6_isOn ({ frames := 0, cells := 0, slots := 0, locals := 0 }) (roP D ct (mR ct h r tl v) [.ref h, .int (nI g)]) (vp_Si (fun r => r = if pOn v g then 1 else 0)) 0 0 noA := by
  refine Met.ofW (cc := cX6_isOn) (maxL := 3) (ret := (some .boolean)) (by decide) rfl ?_
  intro p e s m args below meth c s₁ B hml hv
  obtain ⟨rfl, hP, hK, hN⟩ := hv
  have hx := B.exec
  have hb := B.bytes
  have hr := B.returns
  have hts := atoms_spec (ws := wsX6_isOn) B.pre
  have hown : s.vm.findClass RX6 = some m.cls := findClass_of_methodNamed B.named
  have hlocks := B.notSynchronized
  have w_1 := hts (.fieldLink RX6 7 "ScannedDigitsModel" "row" "[I") (List.mem_of_getElem? (i := 1) rfl)
  have hiX6 : ∀ w ∈ wsX60, w ∈ wsX6_isOn := fun w h => (goodIn_r wsX60 [2, 3, 4, 5, 6, 7, 8, 9, 10, 11, 12, 13, 14] (by decide +kernel) (by decide +kernel) w h).1
  have hl := lv_entry ([.ref h, .int (nI g)]) (n := 3) (Nat.le_of_ble_eq_true rfl)
  rw [lg_entry_eq]
  generalize (lg_sl ([.ref h, .int (nI g)]) ++ List.replicate (3 - (lg_sl ([.ref h, .int (nI g)])).length) Slot.unset).toArray = ls at hl ⊢
  have hl : lv_has ls 3 [(0, .ref h), (1, .int (nI g))] := hl
  refine lv_iload_n hx hb dX6_isOn_0 rfl (lv_at hl 1 rfl) ?_
  refine lv_if_ne (tgt := 6) hx hb dX6_isOn_1 (by decide) (fun c_1 => ?_) (fun c_1 => ?_)
  · have h0 : 0 < g := Nat.pos_of_ne_zero (fun z => c_1 (by rw [z]; rfl))
    refine lv_aload_n hx hb dX6_isOn_6 rfl (lv_at hl 0 rfl) ?_
    refine va_get (D := D) (ci := 6) (v := .ref r) (C := RX6) (T := TX6) (N := 13) hx hb hts hiX6 hown hK hP 0 rfl rfl 0 (by decide) w_1 (fun _ h9 => h9) rfl dX6_isOn_7 ?_
    refine lv_bipush (v := 9) hx hb dX6_isOn_10 (by decide) ?_
    refine lv_iload_n hx hb dX6_isOn_12 rfl (lv_at hl 1 rfl) ?_
    refine lv_iadd hx hb dX6_isOn_13 ?_
    refine lv_iconst (v := 1) hx hb dX6_isOn_14 (by decide) ?_
    refine lv_isub hx hb dX6_isOn_15 ?_
    refine r_iald hx hb hK hP 1 0 rfl rfl (k := 8 + g) (ix_m1 8 g 9 rfl) (by omega) (by decide) dX6_isOn_16 ?_
    refine lv_as (y := v.1 1 g) (row_1 v h0 hg) ?_
    refine lv_istore_n (lv' := [(2, .int (v.1 1 g)), (0, .ref h), (1, .int (nI g))]) hx hb dX6_isOn_17 rfl hl (by decide) rfl (fun ls hl => ?_)
    refine lv_aload_n hx hb dX6_isOn_18 rfl (lv_at hl 1 rfl) ?_
    refine va_get (D := D) (ci := 6) (v := .ref r) (C := RX6) (T := TX6) (N := 13) hx hb hts hiX6 hown hK hP 0 rfl rfl 0 (by decide) w_1 (fun _ h9 => h9) rfl dX6_isOn_19 ?_
    refine lv_iconst (v := 2) hx hb dX6_isOn_22 (by decide) ?_
    refine r_iald hx hb hK hP 1 0 rfl rfl (k := 2) (rfl) (by decide) (by decide) dX6_isOn_23 ?_
    refine lv_as (y := v.1 0 2) (row_0 v (by decide)) ?_
    refine lv_iload_n hx hb dX6_isOn_24 rfl (lv_at hl 0 rfl) ?_
    refine lv_aload_n hx hb dX6_isOn_25 rfl (lv_at hl 1 rfl) ?_
    refine va_get (D := D) (ci := 6) (v := .ref r) (C := RX6) (T := TX6) (N := 13) hx hb hts hiX6 hown hK hP 0 rfl rfl 0 (by decide) w_1 (fun _ h9 => h9) rfl dX6_isOn_26 ?_
    refine lv_bipush (v := 12) hx hb dX6_isOn_29 (by decide) ?_
    refine lv_iload_n hx hb dX6_isOn_31 rfl (lv_at hl 2 rfl) ?_
    refine lv_iadd hx hb dX6_isOn_32 ?_
    refine lv_iconst (v := 1) hx hb dX6_isOn_33 (by decide) ?_
    refine lv_isub hx hb dX6_isOn_34 ?_
    refine r_iald hx hb hK hP 1 0 rfl rfl (k := 11 + g) (ix_m1 11 g 12 rfl) (by omega) (by decide) dX6_isOn_35 ?_
    refine lv_as (y := v.1 2 g) (row_2 v h0 hg) ?_
    refine lv_iadd hx hb dX6_isOn_36 ?_
    refine lv_irem hx hb dX6_isOn_37 (ok.per h0 hg) ?_
    refine lv_iload_n hx hb dX6_isOn_38 rfl (lv_at hl 0 rfl) ?_
    refine lv_icmp_ge (tgt := 46) hx hb dX6_isOn_39 (by decide) (fun c_39 => ?_) (fun c_39 => ?_)
    · refine lv_iconst (v := 0) hx hb dX6_isOn_46 (by decide) ?_
      exact W.zret (v := 0) hx hb hr (by decide) (fun tt ht hW => ⟨0, rfl, (if_neg (fun z => z.elim (fun q => by omega) (fun q => Int32.not_lt.mpr c_39 q))).symm, ht⟩) (fun q hq => absurd hq List.not_mem_nil) dX6_isOn_47
    · refine lv_iconst (v := 1) hx hb dX6_isOn_42 (by decide) ?_
      refine lv_goto (tgt := 47) hx hb dX6_isOn_43 (by decide) ?_
      exact W.zret (v := 1) hx hb hr (by decide) (fun tt ht hW => ⟨1, rfl, (if_pos (Or.inr (i_not_le c_39))).symm, ht⟩) (fun q hq => absurd hq List.not_mem_nil) dX6_isOn_47
  · have h0 : g = 0 := (nI_eq (by omega) (by decide)).mp (show nI g = nI 0 from c_1)
    refine lv_iconst (v := 1) hx hb dX6_isOn_4 (by decide) ?_
    exact W.zret (v := 1) hx hb hr (by decide) (fun tt ht hW => ⟨1, rfl, (if_pos (Or.inl h0)).symm, ht⟩) (fun q hq => absurd hq List.not_mem_nil) dX6_isOn_5

set_option maxHeartbeats 4000000 in
set_option maxRecDepth 100000 in
theorem k_X6_isDriven (l : Launch) (D : va_G) (ct : Nat → ClassId) (h r : Nat) (tl : List Value) (v : SV) (d : Nat) (hd : d < nOf v) (ok : Inv v) : Met l yX6_isDriven wsX6_isDriven ({ frames := 2, cells := 0, slots := 0, locals := 45 }) (roP D ct (mR ct h r tl v) [.ref h, .int (nI d)]) (vp_Si (fun r => r = if pDrv v d then 1 else 0)) 0 0 noA := by
  refine Met.ofW (cc := cX6_isDriven) (maxL := 3) (ret := (some .boolean)) (by decide) rfl ?_
  intro p e s m args below meth c s₁ B hml hv
  obtain ⟨rfl, hP, hK, hN⟩ := hv
  have hx := B.exec
  have hb := B.bytes
  have hr := B.returns
  have hts := atoms_spec (ws := wsX6_isDriven) B.pre
  have hown : s.vm.findClass RX6 = some m.cls := findClass_of_methodNamed B.named
  have hlocks := B.notSynchronized
  have w_1 := hts (.fieldLink RX6 7 "ScannedDigitsModel" "row" "[I") (List.mem_of_getElem? (i := 1) rfl)
  have hiX6 : ∀ w ∈ wsX60, w ∈ wsX6_isDriven := fun w h => (goodIn_r wsX60 [19, 20, 21, 22, 23, 24, 25, 26, 27, 28, 29, 30, 31] (by decide +kernel) (by decide +kernel) w h).1
  have hl := lv_entry ([.ref h, .int (nI d)]) (n := 3) (Nat.le_of_ble_eq_true rfl)
  rw [lg_entry_eq]
  generalize (lg_sl ([.ref h, .int (nI d)]) ++ List.replicate (3 - (lg_sl ([.ref h, .int (nI d)])).length) Slot.unset).toArray = ls at hl ⊢
  have hl : lv_has ls 3 [(0, .ref h), (1, .int (nI d))] := hl
  have hd8 : d < 8 := Nat.lt_of_lt_of_le hd ok.n8
  obtain ⟨g, hg, eg⟩ := ok.gr hd
  have eg2 : gOf v d = g := by
    show (v.1 (4 + d) 4).toNatClampNeg = g
    rw [eg]; exact nI_clamp (by omega)
  refine lv_aload_n hx hb dX6_isDriven_0 rfl (lv_at hl 0 rfl) ?_
  refine va_get (D := D) (ci := 6) (v := .ref r) (C := RX6) (T := TX6) (N := 13) hx hb hts hiX6 hown hK hP 0 rfl rfl 0 (by decide) w_1 (fun _ h9 => h9) rfl dX6_isDriven_1 ?_
  refine lv_iconst (v := 3) hx hb dX6_isDriven_4 (by decide) ?_
  refine r_iald hx hb hK hP 1 0 rfl rfl (k := 3) (rfl) (by decide) (by decide) dX6_isDriven_5 ?_
  refine lv_as (y := v.1 0 3) (row_0 v (by decide)) ?_
  refine lv_aload_n hx hb dX6_isDriven_6 rfl (lv_at hl 0 rfl) ?_
  refine lv_iload_n hx hb dX6_isDriven_7 rfl (lv_at hl 1 rfl) ?_
  refine vp_callSi (va_runV (As := [.int (nI d)]) (rest := [.int (v.1 0 3)]) ⟨hx, hb, hml, hown, hts⟩ (k_X6_beginOf l D ct h r tl v d (by omega)) (cwV 1 hts gX6_isDriven_X6_beginOf rfl rfl rfl (by decide +kernel) ⟨Nat.le_of_ble_eq_true rfl, Nat.le_of_ble_eq_true rfl⟩) ⟨roP.blind, va_recv hK hP (ci := 6) (q0 := 0) rfl rfl, roP.at hP hK hN⟩ rfl rfl hl.1 rfl (lv_room (Nat.le_of_ble_eq_true rfl)) dX6_isDriven_8 ⟨Nat.le_of_ble_eq_true rfl, Nat.le_of_ble_eq_true rfl⟩).run (fun r_8 h_8 => ?_)
  obtain rfl : r_8 = pBeg v d := h_8
  refine lv_isub hx hb dX6_isDriven_11 ?_
  refine lv_istore_n (lv' := [(2, .int ((v.1 0 3) - (pBeg v d))), (0, .ref h), (1, .int (nI d))]) hx hb dX6_isDriven_12 rfl hl (by decide) rfl (fun ls hl => ?_)
  refine lv_aload_n hx hb dX6_isDriven_13 rfl (lv_at hl 1 rfl) ?_
  refine va_get (D := D) (ci := 6) (v := .ref r) (C := RX6) (T := TX6) (N := 13) hx hb hts hiX6 hown hK hP 0 rfl rfl 0 (by decide) w_1 (fun _ h9 => h9) rfl dX6_isDriven_14 ?_
  refine lv_iconst (v := 4) hx hb dX6_isDriven_17 (by decide) ?_
  refine r_iald hx hb hK hP 1 0 rfl rfl (k := 4) (rfl) (by decide) (by decide) dX6_isDriven_18 ?_
  refine lv_as (y := v.1 0 4) (row_0 v (by decide)) ?_
  refine lv_if_le (tgt := 45) hx hb dX6_isDriven_19 (by decide) (fun c_19 => ?_) (fun c_19 => ?_)
  · refine lv_iload_n hx hb dX6_isDriven_45 rfl (lv_at hl 0 rfl) ?_
    refine lv_aload_n hx hb dX6_isDriven_46 rfl (lv_at hl 1 rfl) ?_
    refine lv_iload_n hx hb dX6_isDriven_47 rfl (lv_at hl 2 rfl) ?_
    refine vp_callSi (va_runV (As := [.int (nI d)]) (rest := [.int ((v.1 0 3) - (pBeg v d))]) ⟨hx, hb, hml, hown, hts⟩ (k_X6_litPart l D ct h r tl v d hd8) (cwV 1 hts gX6_isDriven_X6_litPart rfl rfl rfl (by decide +kernel) ⟨Nat.le_of_ble_eq_true rfl, Nat.le_of_ble_eq_true rfl⟩) ⟨roP.blind, va_recv hK hP (ci := 6) (q0 := 0) rfl rfl, roP.at hP hK hN⟩ rfl rfl hl.1 rfl (lv_room (Nat.le_of_ble_eq_true rfl)) dX6_isDriven_48 ⟨Nat.le_of_ble_eq_true rfl, Nat.le_of_ble_eq_true rfl⟩).run (fun r_48 h_48 => ?_)
    obtain rfl : r_48 = pLP v d := h_48
    refine lv_icmp_ge (tgt := 71) hx hb dX6_isDriven_51 (by decide) (fun c_51 => ?_) (fun c_51 => ?_)
    · refine lv_iconst (v := 0) hx hb dX6_isDriven_71 (by decide) ?_
      exact W.zret (v := 0) hx hb hr (by decide) (fun tt ht hW => ⟨0, rfl, (if_neg (fun z => z.elim (fun q => Int32.not_lt.mpr c_19 q.1) (fun q => Int32.not_lt.mpr c_51 q.2.1))).symm, ht⟩) (fun q hq => absurd hq List.not_mem_nil) dX6_isDriven_72
    · refine lv_aload_n hx hb dX6_isDriven_54 rfl (lv_at hl 1 rfl) ?_
      refine lv_aload_n hx hb dX6_isDriven_55 rfl (lv_at hl 1 rfl) ?_
      refine lv_iload_n hx hb dX6_isDriven_56 rfl (lv_at hl 2 rfl) ?_
      refine lv_iconst (v := 4) hx hb dX6_isDriven_57 (by decide) ?_
      refine vp_callSi (va_runV (As := [.int (nI d), .int 4]) (rest := [.ref h]) ⟨hx, hb, hml, hown, hts⟩ (k_X6_of l D ct h r tl v d 4 hd8 (by decide)) (cwV 2 hts gX6_isDriven_X6_of rfl rfl rfl (by decide +kernel) ⟨Nat.le_of_ble_eq_true rfl, Nat.le_of_ble_eq_true rfl⟩) ⟨roP.blind, va_recv hK hP (ci := 6) (q0 := 0) rfl rfl, roP.at hP hK hN⟩ rfl rfl hl.1 rfl (lv_room (Nat.le_of_ble_eq_true rfl)) dX6_isDriven_58 ⟨Nat.le_of_ble_eq_true rfl, Nat.le_of_ble_eq_true rfl⟩).run (fun r_58 h_58 => ?_)
      obtain rfl : r_58 = v.1 (4 + d) 4 := h_58
      refine lv_as (y := nI g) (eg) ?_
      refine vp_callSi (va_runV (As := [.int (nI g)]) (rest := []) ⟨hx, hb, hml, hown, hts⟩ (k_X6_isOn l D ct h r tl v g hg ok) (cwV 1 hts gX6_isDriven_X6_isOn rfl rfl rfl (by decide +kernel) ⟨Nat.le_of_ble_eq_true rfl, Nat.le_of_ble_eq_true rfl⟩) ⟨roP.blind, va_recv hK hP (ci := 6) (q0 := 0) rfl rfl, roP.at hP hK hN⟩ rfl rfl hl.1 rfl (lv_room (Nat.le_of_ble_eq_true rfl)) dX6_isDriven_61 ⟨Nat.le_of_ble_eq_true rfl, Nat.le_of_ble_eq_true rfl⟩).run (fun r_61 h_61 => ?_)
      obtain rfl : r_61 = if pOn v g then 1 else 0 := h_61
      refine lv_if_eq (tgt := 71) hx hb dX6_isDriven_64 (by decide) (fun c_64 => ?_) (fun c_64 => ?_)
      · have hon : ¬ pOn v g := fun z => by rw [if_pos z] at c_64; exact absurd c_64 (by decide)
        refine lv_iconst (v := 0) hx hb dX6_isDriven_71 (by decide) ?_
        exact W.zret (v := 0) hx hb hr (by decide) (fun tt ht hW => ⟨0, rfl, (if_neg (fun z => z.elim (fun q => Int32.not_lt.mpr c_19 q.1) (fun q => hon (eg2 ▸ q.2.2)))).symm, ht⟩) (fun q hq => absurd hq List.not_mem_nil) dX6_isDriven_72
      · have hon : pOn v g := Classical.byContradiction (fun z => by rw [if_neg z] at c_64; exact c_64 rfl)
        refine lv_iconst (v := 1) hx hb dX6_isDriven_67 (by decide) ?_
        refine lv_goto (tgt := 72) hx hb dX6_isDriven_68 (by decide) ?_
        exact W.zret (v := 1) hx hb hr (by decide) (fun tt ht hW => ⟨1, rfl, (if_pos (Or.inr ⟨Int32.not_lt.mpr c_19, i_not_le c_51, eg2.symm ▸ hon⟩)).symm, ht⟩) (fun q hq => absurd hq List.not_mem_nil) dX6_isDriven_72
  · refine lv_iload_n hx hb dX6_isDriven_22 rfl (lv_at hl 0 rfl) ?_
    refine lv_aload_n hx hb dX6_isDriven_23 rfl (lv_at hl 1 rfl) ?_
    refine lv_iload_n hx hb dX6_isDriven_24 rfl (lv_at hl 2 rfl) ?_
    refine lv_iconst (v := 1) hx hb dX6_isDriven_25 (by decide) ?_
    refine vp_callSi (va_runV (As := [.int (nI d), .int 1]) (rest := [.int ((v.1 0 3) - (pBeg v d))]) ⟨hx, hb, hml, hown, hts⟩ (k_X6_of l D ct h r tl v d 1 hd8 (by decide)) (cwV 2 hts gX6_isDriven_X6_of rfl rfl rfl (by decide +kernel) ⟨Nat.le_of_ble_eq_true rfl, Nat.le_of_ble_eq_true rfl⟩) ⟨roP.blind, va_recv hK hP (ci := 6) (q0 := 0) rfl rfl, roP.at hP hK hN⟩ rfl rfl hl.1 rfl (lv_room (Nat.le_of_ble_eq_true rfl)) dX6_isDriven_26 ⟨Nat.le_of_ble_eq_true rfl, Nat.le_of_ble_eq_true rfl⟩).run (fun r_26 h_26 => ?_)
    obtain rfl : r_26 = v.1 (4 + d) 1 := h_26
    refine lv_aload_n hx hb dX6_isDriven_29 rfl (lv_at hl 1 rfl) ?_
    refine lv_iload_n hx hb dX6_isDriven_30 rfl (lv_at hl 2 rfl) ?_
    refine lv_iconst (v := 2) hx hb dX6_isDriven_31 (by decide) ?_
    refine vp_callSi (va_runV (As := [.int (nI d), .int 2]) (rest := [.int (v.1 (4 + d) 1), .int ((v.1 0 3) - (pBeg v d))]) ⟨hx, hb, hml, hown, hts⟩ (k_X6_of l D ct h r tl v d 2 hd8 (by decide)) (cwV 2 hts gX6_isDriven_X6_of rfl rfl rfl (by decide +kernel) ⟨Nat.le_of_ble_eq_true rfl, Nat.le_of_ble_eq_true rfl⟩) ⟨roP.blind, va_recv hK hP (ci := 6) (q0 := 0) rfl rfl, roP.at hP hK hN⟩ rfl rfl hl.1 rfl (lv_room (Nat.le_of_ble_eq_true rfl)) dX6_isDriven_32 ⟨Nat.le_of_ble_eq_true rfl, Nat.le_of_ble_eq_true rfl⟩).run (fun r_32 h_32 => ?_)
    obtain rfl : r_32 = v.1 (4 + d) 2 := h_32
    refine lv_isub hx hb dX6_isDriven_35 ?_
    refine lv_icmp_ge (tgt := 43) hx hb dX6_isDriven_36 (by decide) (fun c_36 => ?_) (fun c_36 => ?_)
    · refine lv_iconst (v := 0) hx hb dX6_isDriven_43 (by decide) ?_
      exact W.zret (v := 0) hx hb hr (by decide) (fun tt ht hW => ⟨0, rfl, (if_neg (fun z => z.elim (fun q => Int32.not_lt.mpr c_36 q.2) (fun q => q.1 (i_not_le c_19)))).symm, ht⟩) (fun q hq => absurd hq List.not_mem_nil) dX6_isDriven_44
    · refine lv_iconst (v := 1) hx hb dX6_isDriven_39 (by decide) ?_
      refine lv_goto (tgt := 44) hx hb dX6_isDriven_40 (by decide) ?_
      exact W.zret (v := 1) hx hb hr (by decide) (fun tt ht hW => ⟨1, rfl, (if_pos (Or.inl ⟨i_not_le c_19, i_not_le c_36⟩)).symm, ht⟩) (fun q hq => absurd hq List.not_mem_nil) dX6_isDriven_44

set_option maxHeartbeats 4000000 in
set_option maxRecDepth 100000 in
theorem k_X6_litNow (l : Launch) (D : va_G) (ct : Nat → ClassId) (h r : Nat) (tl : List Value) (v : SV) (d : Nat) (hd : d < nOf v) (ok : Inv v) : Met l yX6_litNow wsX6_litNow ({ frames := 3, cells := 0, slots := 0, locals := 67 }) (roP D ct (mR ct h r tl v) [.ref h, .int (nI d)]) (vp_Si (fun r => r = pLit v d)) 0 0 noA := by
  refine Met.ofW (cc := cX6_litNow) (maxL := 3) (ret := (some .int)) (by decide) rfl ?_
  intro p e s m args below meth c s₁ B hml hv
  obtain ⟨rfl, hP, hK, hN⟩ := hv
  have hx := B.exec
  have hb := B.bytes
  have hr := B.returns
  have hts := atoms_spec (ws := wsX6_litNow) B.pre
  have hown : s.vm.findClass RX6 = some m.cls := findClass_of_methodNamed B.named
  have hlocks := B.notSynchronized
  have w_1 := hts (.fieldLink RX6 7 "ScannedDigitsModel" "row" "[I") (List.mem_of_getElem? (i := 1) rfl)
  have hiX6 : ∀ w ∈ wsX60, w ∈ wsX6_litNow := fun w h => (goodIn_r wsX60 [27, 28, 29, 30, 31, 32, 33, 34, 35, 36, 37, 38, 39] (by decide +kernel) (by decide +kernel) w h).1
  have hl := lv_entry ([.ref h, .int (nI d)]) (n := 3) (Nat.le_of_ble_eq_true rfl)
  rw [lg_entry_eq]
  generalize (lg_sl ([.ref h, .int (nI d)]) ++ List.replicate (3 - (lg_sl ([.ref h, .int (nI d)])).length) Slot.unset).toArray = ls at hl ⊢
  have hl : lv_has ls 3 [(0, .ref h), (1, .int (nI d))] := hl
  have hd8 : d < 8 := Nat.lt_of_lt_of_le hd ok.n8
  have hs8 := ok.slot8
  refine lv_aload_n hx hb dX6_litNow_0 rfl (lv_at hl 0 rfl) ?_
  refine vp_callSi (va_runV (As := []) (rest := []) ⟨hx, hb, hml, hown, hts⟩ (k_X6_slotNow l D ct h r tl v ok) (cwV 0 hts gX6_litNow_X6_slotNow rfl rfl rfl (by decide +kernel) ⟨Nat.le_of_ble_eq_true rfl, Nat.le_of_ble_eq_true rfl⟩) ⟨roP.blind, va_recv hK hP (ci := 6) (q0 := 0) rfl rfl, roP.at hP hK hN⟩ rfl rfl hl.1 rfl (lv_room (Nat.le_of_ble_eq_true rfl)) dX6_litNow_1 ⟨Nat.le_of_ble_eq_true rfl, Nat.le_of_ble_eq_true rfl⟩).run (fun r_1 h_1 => ?_)
  obtain rfl : r_1 = nI (pSlot v) := h_1
  refine lv_iload_n hx hb dX6_litNow_4 rfl (lv_at hl 1 rfl) ?_
  refine lv_icmp_ne (tgt := 20) hx hb dX6_litNow_5 (by decide) (fun c_5 => ?_) (fun c_5 => ?_)
  · refine lv_iconst (v := 0) hx hb dX6_litNow_20 (by decide) ?_
    refine lv_istore_n (lv' := [(2, .int 0), (0, .ref h), (1, .int (nI d))]) hx hb dX6_litNow_21 rfl hl (by decide) rfl (fun ls hl => ?_)
    refine lv_iload_n hx hb dX6_litNow_22 rfl (lv_at hl 0 rfl) ?_
    refine lv_if_ne (tgt := 30) hx hb dX6_litNow_23 (by decide) (fun c_23 => ?_) (fun c_23 => ?_)
    · exact absurd rfl c_23
    · refine lv_iconst (v := 0) hx hb dX6_litNow_26 (by decide) ?_
      refine lv_goto (tgt := 64) hx hb dX6_litNow_27 (by decide) ?_
      exact W.iret (v := 0) hx hb hr (fun tt ht hW => ⟨0, rfl, (if_neg (fun z => c_5 (congrArg nI z.1))).symm, ht⟩) (fun q hq => absurd hq List.not_mem_nil) dX6_litNow_64
  · have hsl : pSlot v = d := (nI_eq (by omega) (by omega)).mp c_5
    refine lv_aload_n hx hb dX6_litNow_8 rfl (lv_at hl 0 rfl) ?_
    refine lv_iload_n hx hb dX6_litNow_9 rfl (lv_at hl 1 rfl) ?_
    refine vp_callSi (va_runV (As := [.int (nI d)]) (rest := []) ⟨hx, hb, hml, hown, hts⟩ (k_X6_isDriven l D ct h r tl v d hd ok) (cwV 1 hts gX6_litNow_X6_isDriven rfl rfl rfl (by decide +kernel) ⟨Nat.le_of_ble_eq_true rfl, Nat.le_of_ble_eq_true rfl⟩) ⟨roP.blind, va_recv hK hP (ci := 6) (q0 := 0) rfl rfl, roP.at hP hK hN⟩ rfl rfl hl.1 rfl (lv_room (Nat.le_of_ble_eq_true rfl)) dX6_litNow_10 ⟨Nat.le_of_ble_eq_true rfl, Nat.le_of_ble_eq_true rfl⟩).run (fun r_10 h_10 => ?_)
    obtain rfl : r_10 = if pDrv v d then 1 else 0 := h_10
    refine lv_if_eq (tgt := 20) hx hb dX6_litNow_13 (by decide) (fun c_13 => ?_) (fun c_13 => ?_)
    · have hdr : ¬ pDrv v d := fun z => by rw [if_pos z] at c_13; exact absurd c_13 (by decide)
      refine lv_iconst (v := 0) hx hb dX6_litNow_20 (by decide) ?_
      refine lv_istore_n (lv' := [(2, .int 0), (0, .ref h), (1, .int (nI d))]) hx hb dX6_litNow_21 rfl hl (by decide) rfl (fun ls hl => ?_)
      refine lv_iload_n hx hb dX6_litNow_22 rfl (lv_at hl 0 rfl) ?_
      refine lv_if_ne (tgt := 30) hx hb dX6_litNow_23 (by decide) (fun c_23 => ?_) (fun c_23 => ?_)
      · exact absurd rfl c_23
      · refine lv_iconst (v := 0) hx hb dX6_litNow_26 (by decide) ?_
        refine lv_goto (tgt := 64) hx hb dX6_litNow_27 (by decide) ?_
        exact W.iret (v := 0) hx hb hr (fun tt ht hW => ⟨0, rfl, (if_neg (fun z => hdr z.2)).symm, ht⟩) (fun q hq => absurd hq List.not_mem_nil) dX6_litNow_64
    · have hdr : pDrv v d := Classical.byContradiction (fun z => by rw [if_neg z] at c_13; exact c_13 rfl)
      refine lv_iconst (v := 1) hx hb dX6_litNow_16 (by decide) ?_
      refine lv_goto (tgt := 21) hx hb dX6_litNow_17 (by decide) ?_
      refine lv_istore_n (lv' := [(2, .int 1), (0, .ref h), (1, .int (nI d))]) hx hb dX6_litNow_21 rfl hl (by decide) rfl (fun ls hl => ?_)
      refine lv_iload_n hx hb dX6_litNow_22 rfl (lv_at hl 0 rfl) ?_
      refine lv_if_ne (tgt := 30) hx hb dX6_litNow_23 (by decide) (fun c_23 => ?_) (fun c_23 => ?_)
      · refine lv_aload_n hx hb dX6_litNow_30 rfl (lv_at hl 1 rfl) ?_
        refine va_get (D := D) (ci := 6) (v := .ref r) (C := RX6) (T := TX6) (N := 13) hx hb hts hiX6 hown hK hP 0 rfl rfl 0 (by decide) w_1 (fun _ h9 => h9) rfl dX6_litNow_31 ?_
        refine lv_iconst (v := 4) hx hb dX6_litNow_34 (by decide) ?_
        refine r_iald hx hb hK hP 1 0 rfl rfl (k := 4) (rfl) (by decide) (by decide) dX6_litNow_35 ?_
        refine lv_as (y := v.1 0 4) (row_0 v (by decide)) ?_
        refine lv_if_le (tgt := 45) hx hb dX6_litNow_36 (by decide) (fun c_36 => ?_) (fun c_36 => ?_)
        · refine lv_aload_n hx hb dX6_litNow_45 rfl (lv_at hl 1 rfl) ?_
          refine lv_iload_n hx hb dX6_litNow_46 rfl (lv_at hl 2 rfl) ?_
          refine lv_iconst (v := 0) hx hb dX6_litNow_47 (by decide) ?_
          refine vp_callSi (va_runV (As := [.int (nI d), .int 0]) (rest := []) ⟨hx, hb, hml, hown, hts⟩ (k_X6_of l D ct h r tl v d 0 hd8 (by decide)) (cwV 2 hts gX6_litNow_X6_of rfl rfl rfl (by decide +kernel) ⟨Nat.le_of_ble_eq_true rfl, Nat.le_of_ble_eq_true rfl⟩) ⟨roP.blind, va_recv hK hP (ci := 6) (q0 := 0) rfl rfl, roP.at hP hK hN⟩ rfl rfl hl.1 rfl (lv_room (Nat.le_of_ble_eq_true rfl)) dX6_litNow_48 ⟨Nat.le_of_ble_eq_true rfl, Nat.le_of_ble_eq_true rfl⟩).run (fun r_48 h_48 => ?_)
          obtain rfl : r_48 = v.1 (4 + d) 0 := h_48
          refine lv_aload_n hx hb dX6_litNow_51 rfl (lv_at hl 1 rfl) ?_
          refine va_get (D := D) (ci := 6) (v := .ref r) (C := RX6) (T := TX6) (N := 13) hx hb hts hiX6 hown hK hP 0 rfl rfl 0 (by decide) w_1 (fun _ h9 => h9) rfl dX6_litNow_52 ?_
          refine lv_sipush (v := 192) hx hb dX6_litNow_55 (by decide) ?_
          refine lv_iload_n hx hb dX6_litNow_58 rfl (lv_at hl 2 rfl) ?_
          refine lv_iadd hx hb dX6_litNow_59 ?_
          refine r_iald hx hb hK hP 1 0 rfl rfl (k := 192 + d) (ix_a 192 d 192 rfl) (by omega) (by decide) dX6_litNow_60 ?_
          refine lv_as (y := v.1 (4 + d) 6) (row_b v hd8) ?_
          refine lv_iconst (v := (-1)) hx hb dX6_litNow_61 (by decide) ?_
          refine lv_ixor hx hb dX6_litNow_62 ?_
          refine lv_iand hx hb dX6_litNow_63 ?_
          exact W.iret (v := ((v.1 (4 + d) 0) &&& ((v.1 (4 + d) 6) ^^^ (-1)))) hx hb hr (fun tt ht hW => ⟨((v.1 (4 + d) 0) &&& ((v.1 (4 + d) 6) ^^^ (-1))), rfl, ((if_pos (show pSlot v = d ∧ pDrv v d from ⟨hsl, hdr⟩)).trans (by rw [if_neg (Int32.not_lt.mpr c_36)])).symm, ht⟩) (fun q hq => absurd hq List.not_mem_nil) dX6_litNow_64
        · refine lv_sipush (v := 255) hx hb dX6_litNow_39 (by decide) ?_
          refine lv_goto (tgt := 51) hx hb dX6_litNow_42 (by decide) ?_
          refine lv_aload_n hx hb dX6_litNow_51 rfl (lv_at hl 1 rfl) ?_
          refine va_get (D := D) (ci := 6) (v := .ref r) (C := RX6) (T := TX6) (N := 13) hx hb hts hiX6 hown hK hP 0 rfl rfl 0 (by decide) w_1 (fun _ h9 => h9) rfl dX6_litNow_52 ?_
          refine lv_sipush (v := 192) hx hb dX6_litNow_55 (by decide) ?_
          refine lv_iload_n hx hb dX6_litNow_58 rfl (lv_at hl 2 rfl) ?_
          refine lv_iadd hx hb dX6_litNow_59 ?_
          refine r_iald hx hb hK hP 1 0 rfl rfl (k := 192 + d) (ix_a 192 d 192 rfl) (by omega) (by decide) dX6_litNow_60 ?_
          refine lv_as (y := v.1 (4 + d) 6) (row_b v hd8) ?_
          refine lv_iconst (v := (-1)) hx hb dX6_litNow_61 (by decide) ?_
          refine lv_ixor hx hb dX6_litNow_62 ?_
          refine lv_iand hx hb dX6_litNow_63 ?_
          exact W.iret (v := (255 &&& ((v.1 (4 + d) 6) ^^^ (-1)))) hx hb hr (fun tt ht hW => ⟨(255 &&& ((v.1 (4 + d) 6) ^^^ (-1))), rfl, ((if_pos (show pSlot v = d ∧ pDrv v d from ⟨hsl, hdr⟩)).trans (by rw [if_pos (i_not_le c_36)])).symm, ht⟩) (fun q hq => absurd hq List.not_mem_nil) dX6_litNow_64
      · exact absurd c_23 (by decide)

set_option maxHeartbeats 4000000 in
set_option maxRecDepth 100000 in
theorem k_X6_digitsIn (l : Launch) (D : va_G) (ct : Nat → ClassId) (h r : Nat) (tl : List Value) (v : SV) (g : Int32) (n8 : nOf v ≤ 8) (hcn : v.1 0 0 = nI (nOf v)) : Met l yX6_digitsIn wsX6_digitsIn ({ frames := 1, cells := 0, slots := 0, locals := 22 }) (roP D ct (mR ct h r tl v) [.ref h, .int g]) (vp_Si (fun r => r = pDin v g (nOf v))) 0 0 noA := by
  refine Met.ofW (cc := cX6_digitsIn) (maxL := 4) (ret := (some .int)) (by decide) rfl ?_
  intro p e s m args below meth c s₁ B hml hv
  obtain ⟨rfl, hP, hK, hN⟩ := hv
  have hx := B.exec
  have hb := B.bytes
  have hr := B.returns
  have hts := atoms_spec (ws := wsX6_digitsIn) B.pre
  have hown : s.vm.findClass RX6 = some m.cls := findClass_of_methodNamed B.named
  have hlocks := B.notSynchronized
  have w_1 := hts (.fieldLink RX6 7 "ScannedDigitsModel" "row" "[I") (List.mem_of_getElem? (i := 1) rfl)
  have hiX6 : ∀ w ∈ wsX60, w ∈ wsX6_digitsIn := fun w h => (goodIn_r wsX60 [7, 8, 9, 10, 11, 12, 13, 14, 15, 16, 17, 18, 19] (by decide +kernel) (by decide +kernel) w h).1
  have hl := lv_entry ([.ref h, .int g]) (n := 4) (Nat.le_of_ble_eq_true rfl)
  rw [lg_entry_eq]
  generalize (lg_sl ([.ref h, .int g]) ++ List.replicate (4 - (lg_sl ([.ref h, .int g])).length) Slot.unset).toArray = ls at hl ⊢
  have hl : lv_has ls 4 [(0, .ref h), (1, .int g)] := hl
  refine lv_iconst (v := 0) hx hb dX6_digitsIn_0 (by decide) ?_
  refine lv_istore_n (lv' := [(2, .int 0), (0, .ref h), (1, .int g)]) hx hb dX6_digitsIn_1 rfl hl (by decide) rfl (fun ls hl => ?_)
  refine lv_iconst (v := 0) hx hb dX6_digitsIn_2 (by decide) ?_
  refine lv_istore_n (lv' := [(3, .int 0), (2, .int 0), (0, .ref h), (1, .int g)]) hx hb dX6_digitsIn_3 rfl hl (by decide) rfl (fun ls hl => ?_)
  have loop_4 : ∀ (n_4 : Nat) (i : Nat) (x : Int32), (i ≤ nOf v) → (nOf v + 1 ≤ i + n_4) → (x = pDin v g i) → ∀ (ls : Array Slot), lv_has ls 4 [(2, .int x), (3, .int (nI i)), (0, .ref h), (1, .int g)] → W p l e (headSpec wsX6_digitsIn ({ frames := 1, cells := 0, slots := 0, locals := 22 })).room s m #[.ref h, .int g] below meth c s.heap [] 0 0 (MQ below (vp_Si (fun r => r = pDin v g (nOf v))) #[.ref h, .int g] s 0 0 (noA)) (F0 m 4 ls []) := by
    intro n_4
    induction n_4 with
    | zero =>
      intro i x hi hn hx2
      exact absurd hn (by omega)
    | succ n_4 ih_4 =>
      intro i x hi hn hx2 ls hl
      refine lv_iload_n hx hb dX6_digitsIn_4 rfl (lv_at hl 1 rfl) ?_
      refine lv_aload_n hx hb dX6_digitsIn_5 rfl (lv_at hl 2 rfl) ?_
      refine va_get (D := D) (ci := 6) (v := .ref r) (C := RX6) (T := TX6) (N := 13) hx hb hts hiX6 hown hK hP 0 rfl rfl 0 (by decide) w_1 (fun _ h9 => h9) rfl dX6_digitsIn_6 ?_
      refine lv_iconst (v := 0) hx hb dX6_digitsIn_9 (by decide) ?_
      refine r_iald hx hb hK hP 1 0 rfl rfl (k := 0) (rfl) (by decide) (by decide) dX6_digitsIn_10 ?_
      refine lv_as (y := nI (nOf v)) ((row_0 v (by decide)).trans hcn) ?_
      refine lv_icmp_ge (tgt := 38) hx hb dX6_digitsIn_11 (by decide) (fun c_11 => ?_) (fun c_11 => ?_)
      · have hge : nOf v ≤ i := nI_le' (by omega) (by omega) c_11
        refine lv_iload_n hx hb dX6_digitsIn_38 rfl (lv_at hl 0 rfl) ?_
        exact W.iret (v := x) hx hb hr (fun tt ht hW => ⟨x, rfl, by rw [hx2, show i = nOf v by omega], ht⟩) (fun q hq => absurd hq List.not_mem_nil) dX6_digitsIn_39
      · have hlt : i < nOf v := nI_nle' (by omega) (by omega) c_11
        refine lv_iload_n hx hb dX6_digitsIn_14 rfl (lv_at hl 0 rfl) ?_
        refine lv_aload_n hx hb dX6_digitsIn_15 rfl (lv_at hl 2 rfl) ?_
        refine lv_iload_n hx hb dX6_digitsIn_16 rfl (lv_at hl 1 rfl) ?_
        refine lv_iconst (v := 4) hx hb dX6_digitsIn_17 (by decide) ?_
        refine vp_callSi (va_runV (As := [.int (nI i), .int 4]) (rest := [.int x]) ⟨hx, hb, hml, hown, hts⟩ (k_X6_of l D ct h r tl v i 4 (by omega) (by decide)) (cwV 2 hts gX6_digitsIn_X6_of rfl rfl rfl (by decide +kernel) ⟨Nat.le_of_ble_eq_true rfl, Nat.le_of_ble_eq_true rfl⟩) ⟨roP.blind, va_recv hK hP (ci := 6) (q0 := 0) rfl rfl, roP.at hP hK hN⟩ rfl rfl hl.1 rfl (lv_room (Nat.le_of_ble_eq_true rfl)) dX6_digitsIn_18 ⟨Nat.le_of_ble_eq_true rfl, Nat.le_of_ble_eq_true rfl⟩).run (fun r_18 h_18 => ?_)
        obtain rfl : r_18 = v.1 (4 + i) 4 := h_18
        refine lv_iload_n hx hb dX6_digitsIn_21 rfl (lv_at hl 3 rfl) ?_
        refine lv_icmp_ne (tgt := 29) hx hb dX6_digitsIn_22 (by decide) (fun c_22 => ?_) (fun c_22 => ?_)
        · refine lv_iconst (v := 0) hx hb dX6_digitsIn_29 (by decide) ?_
          refine lv_iadd hx hb dX6_digitsIn_30 ?_
          refine lv_istore_n (lv' := [(2, .int (x + 0)), (3, .int (nI i)), (0, .ref h), (1, .int g)]) hx hb dX6_digitsIn_31 rfl hl (by decide) rfl (fun ls hl => ?_)
          refine lv_iinc (v := nI (i + 1)) (lv' := [(3, .int (nI (i + 1))), (2, .int (x + 0)), (0, .ref h), (1, .int g)]) hx hb dX6_digitsIn_32 hl (k := 1) rfl ((nI_succ i).symm) (by decide) rfl (fun ls hl => ?_)
          refine lv_goto (tgt := 4) hx hb dX6_digitsIn_35 (by decide) ?_
          exact ih_4 (i + 1) _ (by omega) (by omega) (by rw [hx2]; show _ = _ + (if _ then _ else _); rw [if_neg c_22]) ls (lv_sub hl [1, 0, 2, 3] rfl)
        · refine lv_iconst (v := 1) hx hb dX6_digitsIn_25 (by decide) ?_
          refine lv_goto (tgt := 30) hx hb dX6_digitsIn_26 (by decide) ?_
          refine lv_iadd hx hb dX6_digitsIn_30 ?_
          refine lv_istore_n (lv' := [(2, .int (x + 1)), (3, .int (nI i)), (0, .ref h), (1, .int g)]) hx hb dX6_digitsIn_31 rfl hl (by decide) rfl (fun ls hl => ?_)
          refine lv_iinc (v := nI (i + 1)) (lv' := [(3, .int (nI (i + 1))), (2, .int (x + 1)), (0, .ref h), (1, .int g)]) hx hb dX6_digitsIn_32 hl (k := 1) rfl ((nI_succ i).symm) (by decide) rfl (fun ls hl => ?_)
          refine lv_goto (tgt := 4) hx hb dX6_digitsIn_35 (by decide) ?_
          exact ih_4 (i + 1) _ (by omega) (by omega) (by rw [hx2]; show _ = _ + (if _ then _ else _); rw [if_pos c_22]) ls (lv_sub hl [1, 0, 2, 3] rfl)
  exact loop_4 (nOf v + 1) 0 0 (Nat.zero_le _) (by omega) rfl ls (lv_sub hl [1, 0, 2, 3] rfl)

set_option maxHeartbeats 4000000 in
set_option maxRecDepth 100000 in
theorem k_X6_brokenOf (l : Launch) (D : va_G) (ct : Nat → ClassId) (h r : Nat) (tl : List Value) (v : SV) (d : Nat) (hd : d < 8) : Met l yX6_brokenOf wsX6_brokenOf ({ frames := 0, cells := 0, slots := 0, locals := 0 }) (roP D ct (mR ct h r tl v) [.ref h, .int (nI d)]) (vp_Si (fun r => r = pBro (v.1 (4 + d) 6) 8)) 0 0 noA := by
  refine Met.ofW (cc := cX6_brokenOf) (maxL := 4) (ret := (some .int)) (by decide) rfl ?_
  intro p e s m args below meth c s₁ B hml hv
  obtain ⟨rfl, hP, hK, hN⟩ := hv
  have hx := B.exec
  have hb := B.bytes
  have hr := B.returns
  have hts := atoms_spec (ws := wsX6_brokenOf) B.pre
  have hown : s.vm.findClass RX6 = some m.cls := findClass_of_methodNamed B.named
  have hlocks := B.notSynchronized
  have w_1 := hts (.fieldLink RX6 7 "ScannedDigitsModel" "row" "[I") (List.mem_of_getElem? (i := 1) rfl)
  have hiX6 : ∀ w ∈ wsX60, w ∈ wsX6_brokenOf := fun w h => (goodIn_r wsX60 [2, 3, 4, 5, 6, 7, 8, 9, 10, 11, 12, 13, 14] (by decide +kernel) (by decide +kernel) w h).1
  have hl := lv_entry ([.ref h, .int (nI d)]) (n := 4) (Nat.le_of_ble_eq_true rfl)
  rw [lg_entry_eq]
  generalize (lg_sl ([.ref h, .int (nI d)]) ++ List.replicate (4 - (lg_sl ([.ref h, .int (nI d)])).length) Slot.unset).toArray = ls at hl ⊢
  have hl : lv_has ls 4 [(0, .ref h), (1, .int (nI d))] := hl
  refine lv_iconst (v := 0) hx hb dX6_brokenOf_0 (by decide) ?_
  refine lv_istore_n (lv' := [(2, .int 0), (0, .ref h), (1, .int (nI d))]) hx hb dX6_brokenOf_1 rfl hl (by decide) rfl (fun ls hl => ?_)
  refine lv_iconst (v := 0) hx hb dX6_brokenOf_2 (by decide) ?_
  refine lv_istore_n (lv' := [(3, .int 0), (2, .int 0), (0, .ref h), (1, .int (nI d))]) hx hb dX6_brokenOf_3 rfl hl (by decide) rfl (fun ls hl => ?_)
  have loop_4 : ∀ (n_4 : Nat) (i : Nat) (x : Int32), (i ≤ 8) → (9 ≤ i + n_4) → (x = pBro (v.1 (4 + d) 6) i) → ∀ (ls : Array Slot), lv_has ls 4 [(2, .int x), (3, .int (nI i)), (0, .ref h), (1, .int (nI d))] → W p l e (headSpec wsX6_brokenOf ({ frames := 0, cells := 0, slots := 0, locals := 0 })).room s m #[.ref h, .int (nI d)] below meth c s.heap [] 0 0 (MQ below (vp_Si (fun r => r = pBro (v.1 (4 + d) 6) 8)) #[.ref h, .int (nI d)] s 0 0 (noA)) (F0 m 4 ls []) := by
    intro n_4
    induction n_4 with
    | zero =>
      intro i x hi hn hx2
      exact absurd hn (by omega)
    | succ n_4 ih_4 =>
      intro i x hi hn hx2 ls hl
      refine lv_iload_n hx hb dX6_brokenOf_4 rfl (lv_at hl 1 rfl) ?_
      refine lv_bipush (v := 8) hx hb dX6_brokenOf_5 (by decide) ?_
      refine lv_icmp_ge (tgt := 33) hx hb dX6_brokenOf_7 (by decide) (fun c_7 => ?_) (fun c_7 => ?_)
      · have hge : 8 ≤ i := nI_le' (by decide) (by omega) c_7
        refine lv_iload_n hx hb dX6_brokenOf_33 rfl (lv_at hl 0 rfl) ?_
        exact W.iret (v := x) hx hb hr (fun tt ht hW => ⟨x, rfl, by rw [hx2, show i = 8 by omega], ht⟩) (fun q hq => absurd hq List.not_mem_nil) dX6_brokenOf_34
      · have hlt : i < 8 := nI_nle' (by decide) (by omega) c_7
        refine lv_iload_n hx hb dX6_brokenOf_10 rfl (lv_at hl 0 rfl) ?_
        refine lv_aload_n hx hb dX6_brokenOf_11 rfl (lv_at hl 2 rfl) ?_
        refine va_get (D := D) (ci := 6) (v := .ref r) (C := RX6) (T := TX6) (N := 13) hx hb hts hiX6 hown hK hP 0 rfl rfl 0 (by decide) w_1 (fun _ h9 => h9) rfl dX6_brokenOf_12 ?_
        refine lv_sipush (v := 192) hx hb dX6_brokenOf_15 (by decide) ?_
        refine lv_iload_n hx hb dX6_brokenOf_18 rfl (lv_at hl 3 rfl) ?_
        refine lv_iadd hx hb dX6_brokenOf_19 ?_
        refine r_iald hx hb hK hP 1 0 rfl rfl (k := 192 + d) (ix_a 192 d 192 rfl) (by omega) (by decide) dX6_brokenOf_20 ?_
        refine lv_as (y := v.1 (4 + d) 6) (row_b v hd) ?_
        refine lv_iload_n hx hb dX6_brokenOf_21 rfl (lv_at hl 1 rfl) ?_
        refine lv_ishr hx hb dX6_brokenOf_22 ?_
        refine lv_iconst (v := 1) hx hb dX6_brokenOf_23 (by decide) ?_
        refine lv_iand hx hb dX6_brokenOf_24 ?_
        refine lv_iadd hx hb dX6_brokenOf_25 ?_
        refine lv_istore_n (lv' := [(2, .int (x + (((v.1 (4 + d) 6) >>> ((nI i) &&& 31)) &&& 1))), (3, .int (nI i)), (0, .ref h), (1, .int (nI d))]) hx hb dX6_brokenOf_26 rfl hl (by decide) rfl (fun ls hl => ?_)
        refine lv_iinc (v := nI (i + 1)) (lv' := [(3, .int (nI (i + 1))), (2, .int (x + (((v.1 (4 + d) 6) >>> ((nI i) &&& 31)) &&& 1))), (0, .ref h), (1, .int (nI d))]) hx hb dX6_brokenOf_27 hl (k := 1) rfl ((nI_succ i).symm) (by decide) rfl (fun ls hl => ?_)
        refine lv_goto (tgt := 4) hx hb dX6_brokenOf_30 (by decide) ?_
        exact ih_4 (i + 1) _ (by omega) (by omega) (by rw [hx2]; rfl) ls (lv_sub hl [1, 0, 2, 3] rfl)
  exact loop_4 (9) 0 0 (Nat.zero_le _) (by omega) rfl ls (lv_sub hl [1, 0, 2, 3] rfl)

set_option maxHeartbeats 4000000 in
set_option maxRecDepth 100000 in
theorem k_X6_broken (l : Launch) (D : va_G) (ct : Nat → ClassId) (h r : Nat) (tl : List Value) (v : SV) (ok : Inv v) : Met l yX6_broken wsX6_broken ({ frames := 1, cells := 0, slots := 0, locals := 23 }) (roP D ct (mR ct h r tl v) [.ref h]) (vp_Si (fun r => r = pBroS v (nOf v))) 0 0 noA := by
  refine Met.ofW (cc := cX6_broken) (maxL := 3) (ret := (some .int)) (by decide) rfl ?_
  intro p e s m args below meth c s₁ B hml hv
  obtain ⟨rfl, hP, hK, hN⟩ := hv
  have hx := B.exec
  have hb := B.bytes
  have hr := B.returns
  have hts := atoms_spec (ws := wsX6_broken) B.pre
  have hown : s.vm.findClass RX6 = some m.cls := findClass_of_methodNamed B.named
  have hlocks := B.notSynchronized
  have w_1 := hts (.fieldLink RX6 7 "ScannedDigitsModel" "row" "[I") (List.mem_of_getElem? (i := 1) rfl)
  have hiX6 : ∀ w ∈ wsX60, w ∈ wsX6_broken := fun w h => (goodIn_r wsX60 [7, 8, 9, 10, 11, 12, 13, 14, 15, 16, 17, 18, 19] (by decide +kernel) (by decide +kernel) w h).1
  have hl := lv_entry ([.ref h]) (n := 3) (Nat.le_of_ble_eq_true rfl)
  rw [lg_entry_eq]
  generalize (lg_sl ([.ref h]) ++ List.replicate (3 - (lg_sl ([.ref h])).length) Slot.unset).toArray = ls at hl ⊢
  have hl : lv_has ls 3 [(0, .ref h)] := hl
  have n8 := ok.n8
  refine lv_iconst (v := 0) hx hb dX6_broken_0 (by decide) ?_
  refine lv_istore_n (lv' := [(1, .int 0), (0, .ref h)]) hx hb dX6_broken_1 rfl hl (by decide) rfl (fun ls hl => ?_)
  refine lv_iconst (v := 0) hx hb dX6_broken_2 (by decide) ?_
  refine lv_istore_n (lv' := [(2, .int 0), (1, .int 0), (0, .ref h)]) hx hb dX6_broken_3 rfl hl (by decide) rfl (fun ls hl => ?_)
  have loop_4 : ∀ (n_4 : Nat) (i : Nat) (x : Int32), (i ≤ nOf v) → (nOf v + 1 ≤ i + n_4) → (x = pBroS v i) → ∀ (ls : Array Slot), lv_has ls 3 [(1, .int x), (2, .int (nI i)), (0, .ref h)] → W p l e (headSpec wsX6_broken ({ frames := 1, cells := 0, slots := 0, locals := 23 })).room s m #[.ref h] below meth c s.heap [] 0 0 (MQ below (vp_Si (fun r => r = pBroS v (nOf v))) #[.ref h] s 0 0 (noA)) (F0 m 4 ls []) := by
    intro n_4
    induction n_4 with
    | zero =>
      intro i x hi hn hx2
      exact absurd hn (by omega)
    | succ n_4 ih_4 =>
      intro i x hi hn hx2 ls hl
      refine lv_iload_n hx hb dX6_broken_4 rfl (lv_at hl 1 rfl) ?_
      refine lv_aload_n hx hb dX6_broken_5 rfl (lv_at hl 2 rfl) ?_
      refine va_get (D := D) (ci := 6) (v := .ref r) (C := RX6) (T := TX6) (N := 13) hx hb hts hiX6 hown hK hP 0 rfl rfl 0 (by decide) w_1 (fun _ h9 => h9) rfl dX6_broken_6 ?_
      refine lv_iconst (v := 0) hx hb dX6_broken_9 (by decide) ?_
      refine r_iald hx hb hK hP 1 0 rfl rfl (k := 0) (rfl) (by decide) (by decide) dX6_broken_10 ?_
      refine lv_as (y := nI (nOf v)) ((row_0 v (by decide)).trans ok.cnt) ?_
      refine lv_icmp_ge (tgt := 28) hx hb dX6_broken_11 (by decide) (fun c_11 => ?_) (fun c_11 => ?_)
      · have hge : nOf v ≤ i := nI_le' (by omega) (by omega) c_11
        refine lv_iload_n hx hb dX6_broken_28 rfl (lv_at hl 0 rfl) ?_
        exact W.iret (v := x) hx hb hr (fun tt ht hW => ⟨x, rfl, by rw [hx2, show i = nOf v by omega], ht⟩) (fun q hq => absurd hq List.not_mem_nil) dX6_broken_29
      · have hlt : i < nOf v := nI_nle' (by omega) (by omega) c_11
        refine lv_iload_n hx hb dX6_broken_14 rfl (lv_at hl 0 rfl) ?_
        refine lv_aload_n hx hb dX6_broken_15 rfl (lv_at hl 2 rfl) ?_
        refine lv_iload_n hx hb dX6_broken_16 rfl (lv_at hl 1 rfl) ?_
        refine vp_callSi (va_runV (As := [.int (nI i)]) (rest := [.int x]) ⟨hx, hb, hml, hown, hts⟩ (k_X6_brokenOf l D ct h r tl v i (by omega)) (cwV 1 hts gX6_broken_X6_brokenOf rfl rfl rfl (by decide +kernel) ⟨Nat.le_of_ble_eq_true rfl, Nat.le_of_ble_eq_true rfl⟩) ⟨roP.blind, va_recv hK hP (ci := 6) (q0 := 0) rfl rfl, roP.at hP hK hN⟩ rfl rfl hl.1 rfl (lv_room (Nat.le_of_ble_eq_true rfl)) dX6_broken_17 ⟨Nat.le_of_ble_eq_true rfl, Nat.le_of_ble_eq_true rfl⟩).run (fun r_17 h_17 => ?_)
        obtain rfl : r_17 = pBro (v.1 (4 + i) 6) 8 := h_17
        refine lv_iadd hx hb dX6_broken_20 ?_
        refine lv_istore_n (lv' := [(1, .int (x + (pBro (v.1 (4 + i) 6) 8))), (2, .int (nI i)), (0, .ref h)]) hx hb dX6_broken_21 rfl hl (by decide) rfl (fun ls hl => ?_)
        refine lv_iinc (v := nI (i + 1)) (lv' := [(2, .int (nI (i + 1))), (1, .int (x + (pBro (v.1 (4 + i) 6) 8))), (0, .ref h)]) hx hb dX6_broken_22 hl (k := 1) rfl ((nI_succ i).symm) (by decide) rfl (fun ls hl => ?_)
        refine lv_goto (tgt := 4) hx hb dX6_broken_25 (by decide) ?_
        exact ih_4 (i + 1) _ (by omega) (by omega) (by rw [hx2]; rfl) ls (lv_sub hl [1, 0, 2] rfl)
  exact loop_4 (nOf v + 1) 0 0 (Nat.zero_le _) (by omega) rfl ls (lv_sub hl [1, 0, 2] rfl)

set_option maxHeartbeats 4000000 in
set_option maxRecDepth 100000 in
theorem k_X6_brighter (l : Launch) (D : va_G) (ct : Nat → ClassId) (g : Int32) : Met l yX6_brighter wsX6_brighter ({ frames := 0, cells := 0, slots := 0, locals := 0 }) (roP D ct ([]) [.int g]) (vp_Si (fun r => r = pBri g)) 0 0 noA := by
  refine Met.ofW (cc := cX6_brighter) (maxL := 3) (ret := (some .int)) (by decide) rfl ?_
  intro p e s m args below meth c s₁ B hml hv
  obtain ⟨rfl, hP, hK, hN⟩ := hv
  have hx := B.exec
  have hb := B.bytes
  have hr := B.returns
  have hts := atoms_spec (ws := wsX6_brighter) B.pre
  have hown : s.vm.findClass RX6 = some m.cls := findClass_of_methodNamed B.named
  have hlocks := B.notSynchronized
  have hl := lv_entry ([.int g]) (n := 3) (Nat.le_of_ble_eq_true rfl)
  rw [lg_entry_eq]
  generalize (lg_sl ([.int g]) ++ List.replicate (3 - (lg_sl ([.int g])).length) Slot.unset).toArray = ls at hl ⊢
  have hl : lv_has ls 3 [(0, .int g)] := hl
  refine lv_sipush (v := 1000) hx hb dX6_brighter_0 (by decide) ?_
  refine lv_iload_n hx hb dX6_brighter_3 rfl (lv_at hl 0 rfl) ?_
  refine lv_isub hx hb dX6_brighter_4 ?_
  refine lv_iconst (v := 4) hx hb dX6_brighter_5 (by decide) ?_
  refine lv_idiv hx hb dX6_brighter_6 (by decide) ?_
  refine lv_istore_n (lv' := [(1, .int ((1000 - g) / 4)), (0, .int g)]) hx hb dX6_brighter_7 rfl hl (by decide) rfl (fun ls hl => ?_)
  refine lv_iload_n hx hb dX6_brighter_8 rfl (lv_at hl 1 rfl) ?_
  refine lv_iload_n hx hb dX6_brighter_9 rfl (lv_at hl 0 rfl) ?_
  refine lv_iconst (v := 1) hx hb dX6_brighter_10 (by decide) ?_
  refine lv_icmp_ge (tgt := 18) hx hb dX6_brighter_11 (by decide) (fun c_11 => ?_) (fun c_11 => ?_)
  · have hgn : (1000 - g) / 4 = pGain g := (if_pos c_11).symm
    refine lv_iload_n hx hb dX6_brighter_18 rfl (lv_at hl 0 rfl) ?_
    refine lv_iadd hx hb dX6_brighter_19 ?_
    refine lv_istore_n (lv' := [(2, .int (g + ((1000 - g) / 4))), (1, .int ((1000 - g) / 4)), (0, .int g)]) hx hb dX6_brighter_20 rfl hl (by decide) rfl (fun ls hl => ?_)
    refine lv_iload_n hx hb dX6_brighter_21 rfl (lv_at hl 0 rfl) ?_
    refine lv_sipush (v := 1000) hx hb dX6_brighter_22 (by decide) ?_
    refine lv_icmp_le (tgt := 34) hx hb dX6_brighter_25 (by decide) (fun c_25 => ?_) (fun c_25 => ?_)
    · refine lv_iload_n hx hb dX6_brighter_34 rfl (lv_at hl 0 rfl) ?_
      exact W.iret (v := (g + ((1000 - g) / 4))) hx hb hr (fun tt ht hW => ⟨(g + ((1000 - g) / 4)), rfl, by unfold pBri; rw [← hgn]; exact (if_pos c_25).symm, ht⟩) (fun q hq => absurd hq List.not_mem_nil) dX6_brighter_35
    · refine lv_sipush (v := 1000) hx hb dX6_brighter_28 (by decide) ?_
      refine lv_goto (tgt := 35) hx hb dX6_brighter_31 (by decide) ?_
      exact W.iret (v := 1000) hx hb hr (fun tt ht hW => ⟨1000, rfl, by unfold pBri; rw [← hgn]; exact (if_neg c_25).symm, ht⟩) (fun q hq => absurd hq List.not_mem_nil) dX6_brighter_35
  · have hgn : 1 = pGain g := (if_neg c_11).symm
    refine lv_iconst (v := 1) hx hb dX6_brighter_14 (by decide) ?_
    refine lv_goto (tgt := 19) hx hb dX6_brighter_15 (by decide) ?_
    refine lv_iadd hx hb dX6_brighter_19 ?_
    refine lv_istore_n (lv' := [(2, .int (g + 1)), (1, .int ((1000 - g) / 4)), (0, .int g)]) hx hb dX6_brighter_20 rfl hl (by decide) rfl (fun ls hl => ?_)
    refine lv_iload_n hx hb dX6_brighter_21 rfl (lv_at hl 0 rfl) ?_
    refine lv_sipush (v := 1000) hx hb dX6_brighter_22 (by decide) ?_
    refine lv_icmp_le (tgt := 34) hx hb dX6_brighter_25 (by decide) (fun c_25 => ?_) (fun c_25 => ?_)
    · refine lv_iload_n hx hb dX6_brighter_34 rfl (lv_at hl 0 rfl) ?_
      exact W.iret (v := (g + 1)) hx hb hr (fun tt ht hW => ⟨(g + 1), rfl, by unfold pBri; rw [← hgn]; exact (if_pos c_25).symm, ht⟩) (fun q hq => absurd hq List.not_mem_nil) dX6_brighter_35
    · refine lv_sipush (v := 1000) hx hb dX6_brighter_28 (by decide) ?_
      refine lv_goto (tgt := 35) hx hb dX6_brighter_31 (by decide) ?_
      exact W.iret (v := 1000) hx hb hr (fun tt ht hW => ⟨1000, rfl, by unfold pBri; rw [← hgn]; exact (if_neg c_25).symm, ht⟩) (fun q hq => absurd hq List.not_mem_nil) dX6_brighter_35

set_option maxHeartbeats 4000000 in
set_option maxRecDepth 100000 in
theorem k_X6_darker (l : Launch) (D : va_G) (ct : Nat → ClassId) (h r : Nat) (tl : List Value) (v : SV) (g : Int32) (hz : ¬ v.1 3 0 = 0) : Met l yX6_darker wsX6_darker ({ frames := 0, cells := 0, slots := 0, locals := 0 }) (roP D ct (mR ct h r tl v) [.ref h, .int g]) (vp_Si (fun r => r = pDar g (v.1 3 0))) 0 0 noA := by
  refine Met.ofW (cc := cX6_darker) (maxL := 3) (ret := (some .int)) (by decide) rfl ?_
  intro p e s m args below meth c s₁ B hml hv
  obtain ⟨rfl, hP, hK, hN⟩ := hv
  have hx := B.exec
  have hb := B.bytes
  have hr := B.returns
  have hts := atoms_spec (ws := wsX6_darker) B.pre
  have hown : s.vm.findClass RX6 = some m.cls := findClass_of_methodNamed B.named
  have hlocks := B.notSynchronized
  have w_1 := hts (.fieldLink RX6 7 "ScannedDigitsModel" "row" "[I") (List.mem_of_getElem? (i := 1) rfl)
  have hiX6 : ∀ w ∈ wsX60, w ∈ wsX6_darker := fun w h => (goodIn_r wsX60 [2, 3, 4, 5, 6, 7, 8, 9, 10, 11, 12, 13, 14] (by decide +kernel) (by decide +kernel) w h).1
  have hl := lv_entry ([.ref h, .int g]) (n := 3) (Nat.le_of_ble_eq_true rfl)
  rw [lg_entry_eq]
  generalize (lg_sl ([.ref h, .int g]) ++ List.replicate (3 - (lg_sl ([.ref h, .int g])).length) Slot.unset).toArray = ls at hl ⊢
  have hl : lv_has ls 3 [(0, .ref h), (1, .int g)] := hl
  refine lv_iload_n hx hb dX6_darker_0 rfl (lv_at hl 1 rfl) ?_
  refine lv_iload_n hx hb dX6_darker_1 rfl (lv_at hl 1 rfl) ?_
  refine lv_aload_n hx hb dX6_darker_2 rfl (lv_at hl 0 rfl) ?_
  refine va_get (D := D) (ci := 6) (v := .ref r) (C := RX6) (T := TX6) (N := 13) hx hb hts hiX6 hown hK hP 0 rfl rfl 0 (by decide) w_1 (fun _ h9 => h9) rfl dX6_darker_3 ?_
  refine lv_bipush (v := 6) hx hb dX6_darker_6 (by decide) ?_
  refine r_iald hx hb hK hP 1 0 rfl rfl (k := 6) (rfl) (by decide) (by decide) dX6_darker_8 ?_
  refine lv_as (y := v.1 3 0) (row_3 v (j := 0) (by decide)) ?_
  refine lv_idiv hx hb dX6_darker_9 (hz) ?_
  refine lv_isub hx hb dX6_darker_10 ?_
  refine lv_iconst (v := 1) hx hb dX6_darker_11 (by decide) ?_
  refine lv_isub hx hb dX6_darker_12 ?_
  refine lv_istore_n (lv' := [(2, .int ((g - (g / (v.1 3 0))) - 1)), (0, .ref h), (1, .int g)]) hx hb dX6_darker_13 rfl hl (by decide) rfl (fun ls hl => ?_)
  refine lv_iload_n hx hb dX6_darker_14 rfl (lv_at hl 0 rfl) ?_
  refine lv_if_ge (tgt := 22) hx hb dX6_darker_15 (by decide) (fun c_15 => ?_) (fun c_15 => ?_)
  · refine lv_iload_n hx hb dX6_darker_22 rfl (lv_at hl 0 rfl) ?_
    exact W.iret (v := ((g - (g / (v.1 3 0))) - 1)) hx hb hr (fun tt ht hW => ⟨((g - (g / (v.1 3 0))) - 1), rfl, (if_pos c_15).symm, ht⟩) (fun q hq => absurd hq List.not_mem_nil) dX6_darker_23
  · refine lv_iconst (v := 0) hx hb dX6_darker_18 (by decide) ?_
    refine lv_goto (tgt := 23) hx hb dX6_darker_19 (by decide) ?_
    exact W.iret (v := 0) hx hb hr (fun tt ht hW => ⟨0, rfl, (if_neg c_15).symm, ht⟩) (fun q hq => absurd hq List.not_mem_nil) dX6_darker_23

set_option maxHeartbeats 4000000 in
set_option maxRecDepth 100000 in
theorem k_X6_seenOf (l : Launch) (D : va_G) (ct : Nat → ClassId) (h r : Nat) (tl : List Value) (v : SV) (d : Nat) (hd : d < 8) : Met l yX6_seenOf wsX6_seenOf ({ frames := 0, cells := 0, slots := 0, locals := 0 }) (roP D ct (mR ct h r tl v) [.ref h, .int (nI d)]) (vp_Si (fun r => r = pSeen (v.1 (12 + d)) (v.1 3 1) 8)) 0 0 noA := by
  refine Met.ofW (cc := cX6_seenOf) (maxL := 4) (ret := (some .int)) (by decide) rfl ?_
  intro p e s m args below meth c s₁ B hml hv
  obtain ⟨rfl, hP, hK, hN⟩ := hv
  have hx := B.exec
  have hb := B.bytes
  have hr := B.returns
  have hts := atoms_spec (ws := wsX6_seenOf) B.pre
  have hown : s.vm.findClass RX6 = some m.cls := findClass_of_methodNamed B.named
  have hlocks := B.notSynchronized
  have w_1 := hts (.fieldLink RX6 7 "ScannedDigitsModel" "row" "[I") (List.mem_of_getElem? (i := 1) rfl)
  have hiX6 : ∀ w ∈ wsX60, w ∈ wsX6_seenOf := fun w h => (goodIn_r wsX60 [2, 3, 4, 5, 6, 7, 8, 9, 10, 11, 12, 13, 14] (by decide +kernel) (by decide +kernel) w h).1
  have hl := lv_entry ([.ref h, .int (nI d)]) (n := 4) (Nat.le_of_ble_eq_true rfl)
  rw [lg_entry_eq]
  generalize (lg_sl ([.ref h, .int (nI d)]) ++ List.replicate (4 - (lg_sl ([.ref h, .int (nI d)])).length) Slot.unset).toArray = ls at hl ⊢
  have hl : lv_has ls 4 [(0, .ref h), (1, .int (nI d))] := hl
  refine lv_iconst (v := 0) hx hb dX6_seenOf_0 (by decide) ?_
  refine lv_istore_n (lv' := [(2, .int 0), (0, .ref h), (1, .int (nI d))]) hx hb dX6_seenOf_1 rfl hl (by decide) rfl (fun ls hl => ?_)
  refine lv_iconst (v := 0) hx hb dX6_seenOf_2 (by decide) ?_
  refine lv_istore_n (lv' := [(3, .int 0), (2, .int 0), (0, .ref h), (1, .int (nI d))]) hx hb dX6_seenOf_3 rfl hl (by decide) rfl (fun ls hl => ?_)
  have loop_4 : ∀ (n_4 : Nat) (i : Nat) (x : Int32), (i ≤ 8) → (9 ≤ i + n_4) → (x = pSeen (v.1 (12 + d)) (v.1 3 1) i) → ∀ (ls : Array Slot), lv_has ls 4 [(2, .int x), (3, .int (nI i)), (0, .ref h), (1, .int (nI d))] → W p l e (headSpec wsX6_seenOf ({ frames := 0, cells := 0, slots := 0, locals := 0 })).room s m #[.ref h, .int (nI d)] below meth c s.heap [] 0 0 (MQ below (vp_Si (fun r => r = pSeen (v.1 (12 + d)) (v.1 3 1) 8)) #[.ref h, .int (nI d)] s 0 0 (noA)) (F0 m 4 ls []) := by
    intro n_4
    induction n_4 with
    | zero =>
      intro i x hi hn hx2
      exact absurd hn (by omega)
    | succ n_4 ih_4 =>
      intro i x hi hn hx2 ls hl
      refine lv_iload_n hx hb dX6_seenOf_4 rfl (lv_at hl 1 rfl) ?_
      refine lv_bipush (v := 8) hx hb dX6_seenOf_5 (by decide) ?_
      refine lv_icmp_ge (tgt := 50) hx hb dX6_seenOf_7 (by decide) (fun c_7 => ?_) (fun c_7 => ?_)
      · have hge : 8 ≤ i := nI_le' (by decide) (by omega) c_7
        refine lv_iload_n hx hb dX6_seenOf_50 rfl (lv_at hl 0 rfl) ?_
        exact W.iret (v := x) hx hb hr (fun tt ht hW => ⟨x, rfl, by rw [hx2, show i = 8 by omega], ht⟩) (fun q hq => absurd hq List.not_mem_nil) dX6_seenOf_51
      · have hlt : i < 8 := nI_nle' (by decide) (by omega) c_7
        refine lv_iload_n hx hb dX6_seenOf_10 rfl (lv_at hl 0 rfl) ?_
        refine lv_aload_n hx hb dX6_seenOf_11 rfl (lv_at hl 2 rfl) ?_
        refine va_get (D := D) (ci := 6) (v := .ref r) (C := RX6) (T := TX6) (N := 13) hx hb hts hiX6 hown hK hP 0 rfl rfl 0 (by decide) w_1 (fun _ h9 => h9) rfl dX6_seenOf_12 ?_
        refine lv_bipush (v := 64) hx hb dX6_seenOf_15 (by decide) ?_
        refine lv_bipush (v := 8) hx hb dX6_seenOf_17 (by decide) ?_
        refine lv_iload_n hx hb dX6_seenOf_19 rfl (lv_at hl 3 rfl) ?_
        refine lv_imul hx hb dX6_seenOf_20 ?_
        refine lv_iadd hx hb dX6_seenOf_21 ?_
        refine lv_iload_n hx hb dX6_seenOf_22 rfl (lv_at hl 1 rfl) ?_
        refine lv_iadd hx hb dX6_seenOf_23 ?_
        refine r_iald hx hb hK hP 1 0 rfl rfl (k := 64 + 8 * d + i) (ix_8 64 d i 64 rfl) (by omega) (by decide) dX6_seenOf_24 ?_
        refine lv_as (y := v.1 (12 + d) i) (row_g v hd hlt) ?_
        refine lv_aload_n hx hb dX6_seenOf_25 rfl (lv_at hl 2 rfl) ?_
        refine va_get (D := D) (ci := 6) (v := .ref r) (C := RX6) (T := TX6) (N := 13) hx hb hts hiX6 hown hK hP 0 rfl rfl 0 (by decide) w_1 (fun _ h9 => h9) rfl dX6_seenOf_26 ?_
        refine lv_bipush (v := 7) hx hb dX6_seenOf_29 (by decide) ?_
        refine r_iald hx hb hK hP 1 0 rfl rfl (k := 7) (rfl) (by decide) (by decide) dX6_seenOf_31 ?_
        refine lv_as (y := v.1 3 1) (row_3 v (j := 1) (by decide)) ?_
        refine lv_icmp_lt (tgt := 41) hx hb dX6_seenOf_32 (by decide) (fun c_32 => ?_) (fun c_32 => ?_)
        · refine lv_iconst (v := 0) hx hb dX6_seenOf_41 (by decide) ?_
          refine lv_ior hx hb dX6_seenOf_42 ?_
          refine lv_istore_n (lv' := [(2, .int (x ||| 0)), (3, .int (nI i)), (0, .ref h), (1, .int (nI d))]) hx hb dX6_seenOf_43 rfl hl (by decide) rfl (fun ls hl => ?_)
          refine lv_iinc (v := nI (i + 1)) (lv' := [(3, .int (nI (i + 1))), (2, .int (x ||| 0)), (0, .ref h), (1, .int (nI d))]) hx hb dX6_seenOf_44 hl (k := 1) rfl ((nI_succ i).symm) (by decide) rfl (fun ls hl => ?_)
          refine lv_goto (tgt := 4) hx hb dX6_seenOf_47 (by decide) ?_
          exact ih_4 (i + 1) _ (by omega) (by omega) (by rw [hx2]; show _ = _ ||| (if _ then _ else _); rw [if_pos c_32]) ls (lv_sub hl [1, 0, 2, 3] rfl)
        · refine lv_iconst (v := 1) hx hb dX6_seenOf_35 (by decide) ?_
          refine lv_iload_n hx hb dX6_seenOf_36 rfl (lv_at hl 1 rfl) ?_
          refine lv_ishl hx hb dX6_seenOf_37 ?_
          refine lv_goto (tgt := 42) hx hb dX6_seenOf_38 (by decide) ?_
          refine lv_ior hx hb dX6_seenOf_42 ?_
          refine lv_istore_n (lv' := [(2, .int (x ||| (1 <<< ((nI i) &&& 31)))), (3, .int (nI i)), (0, .ref h), (1, .int (nI d))]) hx hb dX6_seenOf_43 rfl hl (by decide) rfl (fun ls hl => ?_)
          refine lv_iinc (v := nI (i + 1)) (lv' := [(3, .int (nI (i + 1))), (2, .int (x ||| (1 <<< ((nI i) &&& 31)))), (0, .ref h), (1, .int (nI d))]) hx hb dX6_seenOf_44 hl (k := 1) rfl ((nI_succ i).symm) (by decide) rfl (fun ls hl => ?_)
          refine lv_goto (tgt := 4) hx hb dX6_seenOf_47 (by decide) ?_
          exact ih_4 (i + 1) _ (by omega) (by omega) (by rw [hx2]; show _ = _ ||| (if _ then _ else _); rw [if_neg c_32]) ls (lv_sub hl [1, 0, 2, 3] rfl)
  exact loop_4 (9) 0 0 (Nat.zero_le _) (by omega) rfl ls (lv_sub hl [1, 0, 2, 3] rfl)

set_option maxHeartbeats 4000000 in
set_option maxRecDepth 100000 in
theorem k_X6_glowOf (l : Launch) (D : va_G) (ct : Nat → ClassId) (h r : Nat) (tl : List Value) (v : SV) (d : Nat) (hd : d < 8) : Met l yX6_glowOf wsX6_glowOf ({ frames := 0, cells := 0, slots := 0, locals := 0 }) (roP D ct (mR ct h r tl v) [.ref h, .int (nI d)]) (vp_Si (fun r => r = pSum (v.1 (12 + d)) 8)) 0 0 noA := by
  refine Met.ofW (cc := cX6_glowOf) (maxL := 4) (ret := (some .int)) (by decide) rfl ?_
  intro p e s m args below meth c s₁ B hml hv
  obtain ⟨rfl, hP, hK, hN⟩ := hv
  have hx := B.exec
  have hb := B.bytes
  have hr := B.returns
  have hts := atoms_spec (ws := wsX6_glowOf) B.pre
  have hown : s.vm.findClass RX6 = some m.cls := findClass_of_methodNamed B.named
  have hlocks := B.notSynchronized
  have w_1 := hts (.fieldLink RX6 7 "ScannedDigitsModel" "row" "[I") (List.mem_of_getElem? (i := 1) rfl)
  have hiX6 : ∀ w ∈ wsX60, w ∈ wsX6_glowOf := fun w h => (goodIn_r wsX60 [2, 3, 4, 5, 6, 7, 8, 9, 10, 11, 12, 13, 14] (by decide +kernel) (by decide +kernel) w h).1
  have hl := lv_entry ([.ref h, .int (nI d)]) (n := 4) (Nat.le_of_ble_eq_true rfl)
  rw [lg_entry_eq]
  generalize (lg_sl ([.ref h, .int (nI d)]) ++ List.replicate (4 - (lg_sl ([.ref h, .int (nI d)])).length) Slot.unset).toArray = ls at hl ⊢
  have hl : lv_has ls 4 [(0, .ref h), (1, .int (nI d))] := hl
  refine lv_iconst (v := 0) hx hb dX6_glowOf_0 (by decide) ?_
  refine lv_istore_n (lv' := [(2, .int 0), (0, .ref h), (1, .int (nI d))]) hx hb dX6_glowOf_1 rfl hl (by decide) rfl (fun ls hl => ?_)
  refine lv_iconst (v := 0) hx hb dX6_glowOf_2 (by decide) ?_
  refine lv_istore_n (lv' := [(3, .int 0), (2, .int 0), (0, .ref h), (1, .int (nI d))]) hx hb dX6_glowOf_3 rfl hl (by decide) rfl (fun ls hl => ?_)
  have loop_4 : ∀ (n_4 : Nat) (i : Nat) (x : Int32), (i ≤ 8) → (9 ≤ i + n_4) → (x = pSum (v.1 (12 + d)) i) → ∀ (ls : Array Slot), lv_has ls 4 [(2, .int x), (3, .int (nI i)), (0, .ref h), (1, .int (nI d))] → W p l e (headSpec wsX6_glowOf ({ frames := 0, cells := 0, slots := 0, locals := 0 })).room s m #[.ref h, .int (nI d)] below meth c s.heap [] 0 0 (MQ below (vp_Si (fun r => r = pSum (v.1 (12 + d)) 8)) #[.ref h, .int (nI d)] s 0 0 (noA)) (F0 m 4 ls []) := by
    intro n_4
    induction n_4 with
    | zero =>
      intro i x hi hn hx2
      exact absurd hn (by omega)
    | succ n_4 ih_4 =>
      intro i x hi hn hx2 ls hl
      refine lv_iload_n hx hb dX6_glowOf_4 rfl (lv_at hl 1 rfl) ?_
      refine lv_bipush (v := 8) hx hb dX6_glowOf_5 (by decide) ?_
      refine lv_icmp_ge (tgt := 33) hx hb dX6_glowOf_7 (by decide) (fun c_7 => ?_) (fun c_7 => ?_)
      · have hge : 8 ≤ i := nI_le' (by decide) (by omega) c_7
        refine lv_iload_n hx hb dX6_glowOf_33 rfl (lv_at hl 0 rfl) ?_
        exact W.iret (v := x) hx hb hr (fun tt ht hW => ⟨x, rfl, by rw [hx2, show i = 8 by omega], ht⟩) (fun q hq => absurd hq List.not_mem_nil) dX6_glowOf_34
      · have hlt : i < 8 := nI_nle' (by decide) (by omega) c_7
        refine lv_iload_n hx hb dX6_glowOf_10 rfl (lv_at hl 0 rfl) ?_
        refine lv_aload_n hx hb dX6_glowOf_11 rfl (lv_at hl 2 rfl) ?_
        refine va_get (D := D) (ci := 6) (v := .ref r) (C := RX6) (T := TX6) (N := 13) hx hb hts hiX6 hown hK hP 0 rfl rfl 0 (by decide) w_1 (fun _ h9 => h9) rfl dX6_glowOf_12 ?_
        refine lv_bipush (v := 64) hx hb dX6_glowOf_15 (by decide) ?_
        refine lv_bipush (v := 8) hx hb dX6_glowOf_17 (by decide) ?_
        refine lv_iload_n hx hb dX6_glowOf_19 rfl (lv_at hl 3 rfl) ?_
        refine lv_imul hx hb dX6_glowOf_20 ?_
        refine lv_iadd hx hb dX6_glowOf_21 ?_
        refine lv_iload_n hx hb dX6_glowOf_22 rfl (lv_at hl 1 rfl) ?_
        refine lv_iadd hx hb dX6_glowOf_23 ?_
        refine r_iald hx hb hK hP 1 0 rfl rfl (k := 64 + 8 * d + i) (ix_8 64 d i 64 rfl) (by omega) (by decide) dX6_glowOf_24 ?_
        refine lv_as (y := v.1 (12 + d) i) (row_g v hd hlt) ?_
        refine lv_iadd hx hb dX6_glowOf_25 ?_
        refine lv_istore_n (lv' := [(2, .int (x + (v.1 (12 + d) i))), (3, .int (nI i)), (0, .ref h), (1, .int (nI d))]) hx hb dX6_glowOf_26 rfl hl (by decide) rfl (fun ls hl => ?_)
        refine lv_iinc (v := nI (i + 1)) (lv' := [(3, .int (nI (i + 1))), (2, .int (x + (v.1 (12 + d) i))), (0, .ref h), (1, .int (nI d))]) hx hb dX6_glowOf_27 hl (k := 1) rfl ((nI_succ i).symm) (by decide) rfl (fun ls hl => ?_)
        refine lv_goto (tgt := 4) hx hb dX6_glowOf_30 (by decide) ?_
        exact ih_4 (i + 1) _ (by omega) (by omega) (by rw [hx2]; rfl) ls (lv_sub hl [1, 0, 2, 3] rfl)
  exact loop_4 (9) 0 0 (Nat.zero_le _) (by omega) rfl ls (lv_sub hl [1, 0, 2, 3] rfl)

