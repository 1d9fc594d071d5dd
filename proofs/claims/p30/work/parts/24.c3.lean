set_option maxHeartbeats 4000000 in
set_option maxRecDepth 100000 in
theorem k_X3_runTick (l : Launch) (D : va_G) (ct : Nat → ClassId) (sz : Nat) (a : Nat → Nat) (v : SV) (ok : Inv v) : Met l yX3_runTick wsX3_runTick ({ frames := 3, cells := 0, slots := 0, locals := 70 }) (muP D ct (stW ct a v) sz [.ref (a 0)]) (muI D ct (stW ct a v) (stW ct a (pTick v)) sz (fun r => r = pTickN v)) 0 0 (va_A (stW ct a v) sz) := by
  refine Met.ofW (cc := cX3_runTick) (maxL := 4) (ret := (some .int)) (by decide) rfl ?_
  intro p e s m args below meth c s₁ B hml hv
  obtain ⟨rfl, hsz, hP, hK, hN, hD0⟩ := hv
  have hx := B.exec
  have hb := B.bytes
  have hr := B.returns
  have hts := atoms_spec (ws := wsX3_runTick) B.pre
  have hown : s.vm.findClass RX3 = some m.cls := findClass_of_methodNamed B.named
  have hlocks := B.notSynchronized
  subst hsz
  have hD := hD0.self (sz := s.heap.size)
  generalize hAe : va_A (stW ct a v) s.heap.size = A at hD
  have hA : ∀ q : Nat, s.heap.size ≤ q → A q := fun q h => by rw [← hAe]; exact Or.inr h
  have hS : va_S A s.heap s.heap [] := va_S.rf
  have w_1 := hts (.fieldLink RX3 11 "ScannedDigits$State" "digits" "[LScannedDigits$Digit;") (List.mem_of_getElem? (i := 1) rfl)
  have w_2 := hts (.fieldLink RX3 129 "ScannedDigits$Digit" "drivenTicks" "I") (List.mem_of_getElem? (i := 2) rfl)
  have w_3 := hts (.fieldLink RX3 62 "ScannedDigits$State" "drivenTicks" "I") (List.mem_of_getElem? (i := 3) rfl)
  have w_4 := hts (.fieldLink RX3 17 "ScannedDigits$State" "digitCount" "I") (List.mem_of_getElem? (i := 4) rfl)
  have w_5 := hts (.fieldLink RX3 36 "ScannedDigits$State" "settings" "[I") (List.mem_of_getElem? (i := 5) rfl)
  have w_6 := hts (.fieldLink RX3 50 "ScannedDigits$State" "time" "I") (List.mem_of_getElem? (i := 6) rfl)
  have w_7 := hts (.fieldLink RX3 56 "ScannedDigits$State" "frameTicks" "I") (List.mem_of_getElem? (i := 7) rfl)
  have hiX3 : ∀ w ∈ wsX30, w ∈ wsX3_runTick := fun w h => (goodIn_r wsX30 [89, 90, 91, 92, 93, 94, 95, 96, 97, 98, 99, 100, 101] (by decide +kernel) (by decide +kernel) w h).1
  have hiX0 : ∀ w ∈ wsX00, w ∈ wsX3_runTick := fun w h => (goodIn_r wsX00 [102, 103, 104, 105, 106, 107, 108, 109, 110] (by decide +kernel) (by decide +kernel) w h).1
  have hl := lv_entry ([.ref (a 0)]) (n := 4) (Nat.le_of_ble_eq_true rfl)
  rw [lg_entry_eq]
  generalize (lg_sl ([.ref (a 0)]) ++ List.replicate (4 - (lg_sl ([.ref (a 0)])).length) Slot.unset).toArray = ls at hl ⊢
  have hl : lv_has ls 4 [(0, .ref (a 0))] := hl
  have hs8 := ok.slot8
  have hn8 := ok.n8
  have hsn := ok.slot
  have hfl := fl_ok ok.2.2.2.2.2.2.2 (tickN_n v)
  have cut_90 : ∀ (H : Heap) (locs : List Loc), va_P D vwCl (stW ct a (pTk2 v)) H → va_D A (stW ct a (pTk2 v)) → va_S A s.heap H locs → ∀ (ls : Array Slot), lv_has ls 4 [(0, .ref (a 0)), (2, .int (pLit v (pSlot v)))] → W p l e (headSpec wsX3_runTick ({ frames := 3, cells := 0, slots := 0, locals := 70 })).room s m #[.ref (a 0)] below meth c H locs 0 0 (MQ below (muI D ct (stW ct a v) (stW ct a (pTick v)) s.heap.size (fun r => r = pTickN v)) #[.ref (a 0)] s 0 0 (A)) (F0 m 90 ls []) := by
    intro   H locs hP hD hS ls hl
    refine lv_iload_n hx hb dX3_runTick_90 rfl (lv_at hl 1 rfl) ?_
    refine vp_callSi (va_runS (As := [.int (pLit v (pSlot v))]) (rest := []) ⟨hx, hb, hml, hown, hts⟩ (k_J6_bitCount_0f7a4 l D ct (pLit v (pSlot v))) (va_cwS 1 hts gX3_runTick_J6_bitCount_0f7a4 rfl rfl rfl (by decide +kernel) ⟨Nat.le_of_ble_eq_true rfl, Nat.le_of_ble_eq_true rfl⟩) ⟨roP.blind, roP.at pw_nil hK hN⟩ rfl rfl hl.1 rfl (lv_room (Nat.le_of_ble_eq_true rfl)) dX3_runTick_91 ⟨Nat.le_of_ble_eq_true rfl, Nat.le_of_ble_eq_true rfl⟩).run (fun r_91 h_91 => ?_)
    obtain rfl : r_91 = bcF (pLit v (pSlot v)) := h_91
    refine lv_as (y := pTickN v) (bcF_of (pLit_rg ok ok.slot)) ?_
    refine lv_istore_n (lv' := [(3, .int (pTickN v)), (0, .ref (a 0)), (2, .int (pLit v (pSlot v)))]) hx hb dX3_runTick_94 rfl hl (by decide) rfl (fun ls hl => ?_)
    refine lv_aload_n hx hb dX3_runTick_95 rfl (lv_at hl 1 rfl) ?_
    refine lv_iload_n hx hb dX3_runTick_96 rfl (lv_at hl 0 rfl) ?_
    have hFc_97 := w_free (wc := stW ct a (pTk2 v)) hD (List.Perm.of_eq (List.append_nil _).symm) hS hA
    refine va_callv (va_runV (As := [.int (pTickN v)]) (rest := []) ⟨hx, hb, hml, hown, hts⟩ (k_X3_runCurrent l D ct _ a (pTk2 v) (pTickN v) (by rw [pTk2_f]; exact hfl.1)) (cwV 1 hts gX3_runTick_X3_runCurrent rfl rfl rfl (by decide +kernel) ⟨Nat.le_of_ble_eq_true rfl, Nat.le_of_ble_eq_true rfl⟩) ⟨muP.blind, va_recv hK hP (ci := 3) (q0 := 0) rfl rfl, muP.at hP hD hK hN⟩ rfl rfl hl.1 rfl (lv_room (Nat.le_of_ble_eq_true rfl)) dX3_runTick_97 ⟨Nat.le_of_ble_eq_true rfl, Nat.le_of_ble_eq_true rfl⟩) hS (fun q _ h => hFc_97 q h) hFc_97 (fun uu tt H1 locs ht hvm hw hB hz1 hk1 hS => ?_)
    obtain ⟨hP, hD⟩ := muE.join (ws' := stW ct a (((pTk2 v).1, pFlo (pTk2 v).2 (pTickN v)) : SV)) hP hD (List.Perm.of_eq (List.append_nil _).symm) (List.Perm.of_eq (List.append_nil _).symm) hk1 hFc_97 ht hB
    generalize H1 = H at hP hS ⊢
    have hP : va_P D vwCl (stW ct a (((pTk2 v).1, pFlo v.2 (pTickN v)) : SV)) H := st_of (by rw [pTk2_f]) hP
    have hD : va_D A (stW ct a (((pTk2 v).1, pFlo v.2 (pTickN v)) : SV)) := st_dn hD
    refine lv_aload_n hx hb dX3_runTick_100 rfl (lv_at hl 1 rfl) ?_
    refine lv_dup hx hb dX3_runTick_101 rfl ?_
    refine va_get (D := D) (ci := 3) (v := .int ((pTk2 v).1 0 1)) (C := RX3) (T := TX3) (N := 13) hx hb hts hiX3 hown hK hP 0 st_c0 rfl 5 (by decide) w_6 (fun _ h9 => h9) rfl dX3_runTick_102 ?_
    refine lv_iconst (v := 1) hx hb dX3_runTick_105 (by decide) ?_
    refine lv_iadd hx hb dX3_runTick_106 ?_
    refine va_put (D := D) (ci := 3) (v := .int (((pTk2 v).1 0 1) + 1)) (ty := .int) (C := RX3) (T := TX3) (N := 13) hx hb hts hiX3 tyX3 tyX3_ok nmX3 hown hK hP hD hS 0 st_c0 rfl 5 (by decide) w_6 (fun _ h9 => h9) rfl (by decide +kernel) rfl rfl (Nat.le_of_ble_eq_true rfl) dX3_runTick_107 (fun H locs hP hD hS => ?_)
    have hP : va_P D vwCl (stW ct a ((va_up (pTk2 v).1 0 (upd ((pTk2 v).1 0) 1 ((pTk2 v).1 0 1 + 1)), pFlo v.2 (pTickN v)) : SV)) H := st_p0 (v := (((pTk2 v).1, pFlo v.2 (pTickN v)) : SV)) (upd ((pTk2 v).1 0) 1 ((pTk2 v).1 0 1 + 1)) hP
    have hD : va_D A (stW ct a ((va_up (pTk2 v).1 0 (upd ((pTk2 v).1 0) 1 ((pTk2 v).1 0 1 + 1)), pFlo v.2 (pTickN v)) : SV)) := st_dset (by decide) hD
    refine lv_aload_n hx hb dX3_runTick_110 rfl (lv_at hl 1 rfl) ?_
    refine lv_dup hx hb dX3_runTick_111 rfl ?_
    refine va_get (D := D) (ci := 3) (v := .int ((pTk2 v).1 0 3)) (C := RX3) (T := TX3) (N := 13) hx hb hts hiX3 hown hK hP 0 st_c0 rfl 7 (by decide) w_7 (fun _ h9 => h9) rfl dX3_runTick_112 ?_
    refine lv_iconst (v := 1) hx hb dX3_runTick_115 (by decide) ?_
    refine lv_iadd hx hb dX3_runTick_116 ?_
    refine va_put (D := D) (ci := 3) (v := .int (((pTk2 v).1 0 3) + 1)) (ty := .int) (C := RX3) (T := TX3) (N := 13) hx hb hts hiX3 tyX3 tyX3_ok nmX3 hown hK hP hD hS 0 st_c0 rfl 7 (by decide) w_7 (fun _ h9 => h9) rfl (by decide +kernel) rfl rfl (Nat.le_of_ble_eq_true rfl) dX3_runTick_117 (fun H locs hP hD hS => ?_)
    have hP : va_P D vwCl (stW ct a (pTk3 v)) H := st_pC (v := (((pTk2 v).1, pFlo v.2 (pTickN v)) : SV)) (f := upd ((pTk2 v).1 0) 1 ((pTk2 v).1 0 1 + 1)) (upd (upd ((pTk2 v).1 0) 1 ((pTk2 v).1 0 1 + 1)) 3 ((pTk2 v).1 0 3 + 1)) hP
    have hD : va_D A (stW ct a (pTk3 v)) := st_dset (by decide) hD
    refine lv_aload_n hx hb dX3_runTick_120 rfl (lv_at hl 1 rfl) ?_
    refine va_get (D := D) (ci := 3) (v := .int ((pTk3 v).1 0 3)) (C := RX3) (T := TX3) (N := 13) hx hb hts hiX3 hown hK hP 0 st_c0 rfl 7 (by decide) w_7 (fun _ h9 => h9) rfl dX3_runTick_121 ?_
    refine lv_aload_n hx hb dX3_runTick_124 rfl (lv_at hl 1 rfl) ?_
    refine vp_callSi (va_runV (As := []) (rest := [.int ((pTk3 v).1 0 3)]) ⟨hx, hb, hml, hown, hts⟩ (k_X3_frameLength l D ct a (pTk3 v) (by rw [pTk3_n]; exact hn8) (by rw [pTk3_n, pTk3_0]; exact ok.cnt)) (cwV 0 hts gX3_runTick_X3_frameLength rfl rfl rfl (by decide +kernel) ⟨Nat.le_of_ble_eq_true rfl, Nat.le_of_ble_eq_true rfl⟩) ⟨roP.blind, va_recv hK hP (ci := 3) (q0 := 0) rfl rfl, roP.at hP hK hN⟩ rfl rfl hl.1 rfl (lv_room (Nat.le_of_ble_eq_true rfl)) dX3_runTick_125 ⟨Nat.le_of_ble_eq_true rfl, Nat.le_of_ble_eq_true rfl⟩).run (fun r_125 h_125 => ?_)
    obtain rfl : r_125 = pLen (pTk3 v) := h_125
    refine lv_as (y := pLen v) (pTk3_len ok) ?_
    refine lv_icmp_lt (tgt := 135) hx hb dX3_runTick_128 (by decide) (fun c_128 => ?_) (fun c_128 => ?_)
    · refine lv_iload_n hx hb dX3_runTick_135 rfl (lv_at hl 0 rfl) ?_
      have hP9 : va_P D vwCl (stW ct a (pTick v)) _ := st_of (by unfold pTick; rw [if_neg (ne_of_lt32 c_128)]) hP
      have hD9 : va_D A (stW ct a (pTick v)) := st_dn hD
      subst hAe
      exact W.iret (v := (pTickN v)) hx hb hr (fun tt ht hW => ⟨⟨(pTickN v), (), rfl, rfl, muE.of (ct := ct) hP9 hD9 ht⟩, hS.F ht⟩) hS.2.2 dX3_runTick_136
    · refine lv_aload_n hx hb dX3_runTick_131 rfl (lv_at hl 1 rfl) ?_
      have hFc_132 := w_free (wc := stW ct a (pTk3 v)) hD (List.Perm.of_eq (List.append_nil _).symm) hS hA
      refine va_callv (va_runV (As := []) (rest := []) ⟨hx, hb, hml, hown, hts⟩ (k_X3_beginFrame l D ct _ a (pTk3 v)) (cwV 0 hts gX3_runTick_X3_beginFrame rfl rfl rfl (by decide +kernel) ⟨Nat.le_of_ble_eq_true rfl, Nat.le_of_ble_eq_true rfl⟩) ⟨muP.blind, va_recv hK hP (ci := 3) (q0 := 0) rfl rfl, muP.at hP hD hK hN⟩ rfl rfl hl.1 rfl (lv_room (Nat.le_of_ble_eq_true rfl)) dX3_runTick_132 ⟨Nat.le_of_ble_eq_true rfl, Nat.le_of_ble_eq_true rfl⟩) hS (fun q _ h => hFc_132 q h) hFc_132 (fun uu tt H1 locs ht hvm hw hB hz1 hk1 hS => ?_)
      obtain ⟨hP, hD⟩ := muE.join (ws' := stW ct a (pEnd (pTk3 v))) hP hD (List.Perm.of_eq (List.append_nil _).symm) (List.Perm.of_eq (List.append_nil _).symm) hk1 hFc_132 ht hB
      generalize H1 = H at hP hS ⊢
      refine lv_iload_n hx hb dX3_runTick_135 rfl (lv_at hl 0 rfl) ?_
      have hP9 : va_P D vwCl (stW ct a (pTick v)) _ := st_of (by unfold pTick; rw [if_pos (tk_eq ok c_128)]) hP
      have hD9 : va_D A (stW ct a (pTick v)) := st_dn hD
      subst hAe
      exact W.iret (v := (pTickN v)) hx hb hr (fun tt ht hW => ⟨⟨(pTickN v), (), rfl, rfl, muE.of (ct := ct) hP9 hD9 ht⟩, hS.F ht⟩) hS.2.2 dX3_runTick_136
  refine lv_aload_n hx hb dX3_runTick_0 rfl (lv_at hl 0 rfl) ?_
  refine vp_callSi (va_runV (As := []) (rest := []) ⟨hx, hb, hml, hown, hts⟩ (k_X3_slotNow l D ct a v ok) (cwV 0 hts gX3_runTick_X3_slotNow rfl rfl rfl (by decide +kernel) ⟨Nat.le_of_ble_eq_true rfl, Nat.le_of_ble_eq_true rfl⟩) ⟨roP.blind, va_recv hK hP (ci := 3) (q0 := 0) rfl rfl, roP.at hP hK hN⟩ rfl rfl hl.1 rfl (lv_room (Nat.le_of_ble_eq_true rfl)) dX3_runTick_1 ⟨Nat.le_of_ble_eq_true rfl, Nat.le_of_ble_eq_true rfl⟩).run (fun r_1 h_1 => ?_)
  obtain rfl : r_1 = nI (pSlot v) := h_1
  refine lv_istore_n (lv' := [(1, .int (nI (pSlot v))), (0, .ref (a 0))]) hx hb dX3_runTick_4 rfl hl (by decide) rfl (fun ls hl => ?_)
  refine lv_aload_n hx hb dX3_runTick_5 rfl (lv_at hl 1 rfl) ?_
  refine vp_callSi (va_runV (As := []) (rest := []) ⟨hx, hb, hml, hown, hts⟩ (k_X3_litNext l D ct a v ok) (cwV 0 hts gX3_runTick_X3_litNext rfl rfl rfl (by decide +kernel) ⟨Nat.le_of_ble_eq_true rfl, Nat.le_of_ble_eq_true rfl⟩) ⟨roP.blind, va_recv hK hP (ci := 3) (q0 := 0) rfl rfl, roP.at hP hK hN⟩ rfl rfl hl.1 rfl (lv_room (Nat.le_of_ble_eq_true rfl)) dX3_runTick_6 ⟨Nat.le_of_ble_eq_true rfl, Nat.le_of_ble_eq_true rfl⟩).run (fun r_6 h_6 => ?_)
  obtain rfl : r_6 = pLit v (pSlot v) := h_6
  refine lv_istore_n (lv' := [(2, .int (pLit v (pSlot v))), (1, .int (nI (pSlot v))), (0, .ref (a 0))]) hx hb dX3_runTick_9 rfl hl (by decide) rfl (fun ls hl => ?_)
  refine lv_aload_n hx hb dX3_runTick_10 rfl (lv_at hl 2 rfl) ?_
  refine lv_iload_n hx hb dX3_runTick_11 rfl (lv_at hl 1 rfl) ?_
  refine vp_callSi (va_runV (As := [.int (nI (pSlot v))]) (rest := []) ⟨hx, hb, hml, hown, hts⟩ (k_X3_isDriven l D ct a v (pSlot v) ok.slot ok) (cwV 1 hts gX3_runTick_X3_isDriven rfl rfl rfl (by decide +kernel) ⟨Nat.le_of_ble_eq_true rfl, Nat.le_of_ble_eq_true rfl⟩) ⟨roP.blind, va_recv hK hP (ci := 3) (q0 := 0) rfl rfl, roP.at hP hK hN⟩ rfl rfl hl.1 rfl (lv_room (Nat.le_of_ble_eq_true rfl)) dX3_runTick_12 ⟨Nat.le_of_ble_eq_true rfl, Nat.le_of_ble_eq_true rfl⟩).run (fun r_12 h_12 => ?_)
  obtain rfl : r_12 = if pDrv v (pSlot v) then 1 else 0 := h_12
  have cut_43 : ∀ (H : Heap) (locs : List Loc), va_P D vwCl (stW ct a (pTk1 v)) H → va_D A (stW ct a (pTk1 v)) → va_S A s.heap H locs → ∀ (ls : Array Slot), lv_has ls 4 [(0, .ref (a 0)), (1, .int (nI (pSlot v))), (2, .int (pLit v (pSlot v)))] → W p l e (headSpec wsX3_runTick ({ frames := 3, cells := 0, slots := 0, locals := 70 })).room s m #[.ref (a 0)] below meth c H locs 0 0 (MQ below (muI D ct (stW ct a v) (stW ct a (pTick v)) s.heap.size (fun r => r = pTickN v)) #[.ref (a 0)] s 0 0 (A)) (F0 m 43 ls []) := by
    intro   H locs hP hD hS ls hl
    refine lv_iconst (v := 0) hx hb dX3_runTick_43 (by decide) ?_
    refine lv_istore_n (lv' := [(3, .int 0), (0, .ref (a 0)), (1, .int (nI (pSlot v))), (2, .int (pLit v (pSlot v)))]) hx hb dX3_runTick_44 rfl hl (by decide) rfl (fun ls hl => ?_)
    have loop_45 : ∀ (n_45 : Nat) (i : Nat), (i ≤ nOf v) → (nOf v + 1 ≤ i + n_45) → ∀ (H : Heap) (locs : List Loc), va_P D vwCl (stW ct a (pAll (pTk1 v) (pSlot v) (pLit v (pSlot v)) i)) H → va_D A (stW ct a (pAll (pTk1 v) (pSlot v) (pLit v (pSlot v)) i)) → va_S A s.heap H locs → ∀ (ls : Array Slot), lv_has ls 4 [(0, .ref (a 0)), (1, .int (nI (pSlot v))), (2, .int (pLit v (pSlot v))), (3, .int (nI i))] → W p l e (headSpec wsX3_runTick ({ frames := 3, cells := 0, slots := 0, locals := 70 })).room s m #[.ref (a 0)] below meth c H locs 0 0 (MQ below (muI D ct (stW ct a v) (stW ct a (pTick v)) s.heap.size (fun r => r = pTickN v)) #[.ref (a 0)] s 0 0 (A)) (F0 m 45 ls []) := by
      intro n_45
      induction n_45 with
      | zero =>
        intro i hi hn
        exact absurd hn (by omega)
      | succ n_45 ih_45 =>
        intro i hi hn H locs hP hD hS ls hl
        refine lv_iload_n hx hb dX3_runTick_45 rfl (lv_at hl 3 rfl) ?_
        refine lv_aload_n hx hb dX3_runTick_46 rfl (lv_at hl 0 rfl) ?_
        refine va_get (D := D) (ci := 3) (v := .int ((pAll (pTk1 v) (pSlot v) (pLit v (pSlot v)) i).1 0 0)) (C := RX3) (T := TX3) (N := 13) hx hb hts hiX3 hown hK hP 0 st_c0 rfl 1 (by decide) w_4 (fun _ h9 => h9) rfl dX3_runTick_47 ?_
        refine lv_as (y := nI (nOf v)) (by rw [pAll_lo _ _ _ (by decide), pTk1_0 v (by decide)]; exact ok.cnt) ?_
        refine lv_icmp_ge (tgt := 90) hx hb dX3_runTick_50 (by decide) (fun c_50 => ?_) (fun c_50 => ?_)
        · have hge : nOf v ≤ i := nI_le' (by omega) (by omega) c_50
          obtain rfl : i = nOf v := by omega
          exact cut_90  _ _ hP hD hS ls (lv_sub hl [0, 2] rfl)
        · have hlt : i < nOf v := nI_nle' (by omega) (by omega) c_50
          refine lv_aload_n hx hb dX3_runTick_53 rfl (lv_at hl 0 rfl) ?_
          refine va_get (D := D) (ci := 3) (v := .ref (a 1)) (C := RX3) (T := TX3) (N := 13) hx hb hts hiX3 hown hK hP 0 st_c0 rfl 0 (by decide) w_1 (fun _ h9 => h9) rfl dX3_runTick_54 ?_
          refine lv_iload_n hx hb dX3_runTick_57 rfl (lv_at hl 3 rfl) ?_
          refine r_aldq (v := a (3 * i + 5)) hx hb hK hP 1 4 st_c1 rfl (k := i) (rfl) (by omega) (by decide) (rfl) dX3_runTick_58 ?_
          have hPd_58 : va_P D vwCl (dgA ct a (pAll (pTk1 v) (pSlot v) (pLit v (pSlot v)) i) i) _ := st_dgP (by omega) hP
          have cut_69 : ∀ (H : Heap) (locs : List Loc), va_P D vwCl (stW ct a (pAll (pTk1 v) (pSlot v) (pLit v (pSlot v)) i)) H → va_D A (stW ct a (pAll (pTk1 v) (pSlot v) (pLit v (pSlot v)) i)) → va_S A s.heap H locs → ∀ (ls : Array Slot), lv_has ls 4 [(0, .ref (a 0)), (1, .int (nI (pSlot v))), (2, .int (pLit v (pSlot v))), (3, .int (nI i))] → W p l e (headSpec wsX3_runTick ({ frames := 3, cells := 0, slots := 0, locals := 70 })).room s m #[.ref (a 0)] below meth c H locs 0 0 (MQ below (muI D ct (stW ct a v) (stW ct a (pTick v)) s.heap.size (fun r => r = pTickN v)) #[.ref (a 0)] s 0 0 (A)) (F0 m 69 ls [.int (if i = pSlot v then pLit v (pSlot v) else 0), .ref (a (3 * i + 5))]) := by
            intro   H locs hP hD hS ls hl
            refine lv_aload_n hx hb dX3_runTick_69 rfl (lv_at hl 0 rfl) ?_
            refine va_get (D := D) (ci := 3) (v := .ref (a 4)) (C := RX3) (T := TX3) (N := 13) hx hb hts hiX3 hown hK hP 0 st_c0 rfl 4 (by decide) w_5 (fun _ h9 => h9) rfl dX3_runTick_70 ?_
            refine lv_iconst (v := 0) hx hb dX3_runTick_73 (by decide) ?_
            refine r_iald hx hb hK hP 4 0 st_c4 rfl (k := 0) (rfl) (by decide) (by decide) dX3_runTick_74 ?_
            refine lv_as (y := v.1 3 0) (by rw [pAll_lo _ _ _ (by decide), pTk1_3]) ?_
            refine lv_aload_n hx hb dX3_runTick_75 rfl (lv_at hl 0 rfl) ?_
            refine va_get (D := D) (ci := 3) (v := .ref (a 4)) (C := RX3) (T := TX3) (N := 13) hx hb hts hiX3 hown hK hP 0 st_c0 rfl 4 (by decide) w_5 (fun _ h9 => h9) rfl dX3_runTick_76 ?_
            refine lv_iconst (v := 2) hx hb dX3_runTick_79 (by decide) ?_
            refine r_iald hx hb hK hP 4 0 st_c4 rfl (k := 2) (rfl) (by decide) (by decide) dX3_runTick_80 ?_
            refine lv_as (y := v.1 3 2) (by rw [pAll_lo _ _ _ (by decide), pTk1_3]) ?_
            have hFc_81 := w_free (wc := dgA ct a (pAll (pTk1 v) (pSlot v) (pLit v (pSlot v)) i) i) hD (st_perm (by omega)) hS hA
            refine va_callv (va_runV (As := [.int (if i = pSlot v then pLit v (pSlot v) else 0), .int (v.1 3 0), .int (v.1 3 2)]) (rest := []) ⟨hx, hb, hml, hown, hts⟩ (k_X0_runTick l D ct _ (a (3 * i + 5)) (a (3 * i + 6)) (a (3 * i + 7)) ((pAll (pTk1 v) (pSlot v) (pLit v (pSlot v)) i).1 (4 + i)) ((pAll (pTk1 v) (pSlot v) (pLit v (pSlot v)) i).1 (12 + i)) ((pAll (pTk1 v) (pSlot v) (pLit v (pSlot v)) i).1 (20 + i)) (if i = pSlot v then pLit v (pSlot v) else 0) (v.1 3 0) (v.1 3 2) ok.decp) (cwV 3 hts gX3_runTick_X0_runTick rfl rfl rfl (by decide +kernel) ⟨Nat.le_of_ble_eq_true rfl, Nat.le_of_ble_eq_true rfl⟩) ⟨muP.blind, va_recv hK (st_dgP (by omega) hP) (ci := 0) (q0 := 0) rfl rfl, muP.at (st_dgP (by omega) hP) (dw_cut (st_perm (by omega)) hD) hK hN⟩ rfl rfl hl.1 rfl (lv_room (Nat.le_of_ble_eq_true rfl)) dX3_runTick_81 ⟨Nat.le_of_ble_eq_true rfl, Nat.le_of_ble_eq_true rfl⟩) hS (fun q _ h => hFc_81 q h) hFc_81 (fun uu tt H1 locs ht hvm hw hB hz1 hk1 hS => ?_)
            obtain ⟨hP, hD⟩ := muE.join (ws' := stW ct a (sTri (pAll (pTk1 v) (pSlot v) (pLit v (pSlot v)) i) i (dRun (if i = pSlot v then pLit v (pSlot v) else 0) (v.1 3 0) (v.1 3 2) ((pAll (pTk1 v) (pSlot v) (pLit v (pSlot v)) i).1 (4 + i), (pAll (pTk1 v) (pSlot v) (pLit v (pSlot v)) i).1 (12 + i), (pAll (pTk1 v) (pSlot v) (pLit v (pSlot v)) i).1 (20 + i)) 8))) hP hD (st_perm (by omega)) (st_permT (by omega) _) hk1 hFc_81 ht hB
            generalize H1 = H at hP hS ⊢
            refine lv_iinc (v := nI (i + 1)) (lv' := [(3, .int (nI (i + 1))), (0, .ref (a 0)), (1, .int (nI (pSlot v))), (2, .int (pLit v (pSlot v)))]) hx hb dX3_runTick_84 hl (k := 3) rfl ((nI_succ i).symm) (by decide) rfl (fun ls hl => ?_)
            refine lv_goto (tgt := 45) hx hb dX3_runTick_87 (by decide) ?_
            exact ih_45 (i + 1) (by omega) (by omega) _ _ (st_of (tk_step rfl) hP) (st_dn hD) hS ls (lv_sub hl [1, 2, 3, 0] rfl)
          refine lv_iload_n hx hb dX3_runTick_59 rfl (lv_at hl 3 rfl) ?_
          refine lv_iload_n hx hb dX3_runTick_60 rfl (lv_at hl 1 rfl) ?_
          refine lv_icmp_ne (tgt := 68) hx hb dX3_runTick_61 (by decide) (fun c_61 => ?_) (fun c_61 => ?_)
          · refine lv_iconst (v := 0) hx hb dX3_runTick_68 (by decide) ?_
            refine lv_as (y := (if i = pSlot v then pLit v (pSlot v) else 0)) ((if_neg (fun q => c_61 (congrArg nI q))).symm) ?_
            exact cut_69  _ _ hP hD hS ls (lv_sub hl [0, 1, 2, 3] rfl)
          · have hcd : i = pSlot v := (nI_eq (by omega) (by omega)).mp c_61
            refine lv_iload_n hx hb dX3_runTick_64 rfl (lv_at hl 2 rfl) ?_
            refine lv_goto (tgt := 69) hx hb dX3_runTick_65 (by decide) ?_
            refine lv_as (y := (if i = pSlot v then pLit v (pSlot v) else 0)) ((if_pos hcd).symm) ?_
            exact cut_69  _ _ hP hD hS ls (lv_sub hl [0, 1, 2, 3] rfl)
    exact loop_45 (nOf v + 1) 0 (Nat.zero_le _) (by omega) _ _ (st_of (by rw [pAll_z]) hP) (st_dn hD) hS ls (lv_sub hl [1, 2, 3, 0] rfl)
  refine lv_if_eq (tgt := 43) hx hb dX3_runTick_15 (by decide) (fun c_15 => ?_) (fun c_15 => ?_)
  · have hdr : ¬ pDrv v (pSlot v) := fun z => by rw [if_pos z] at c_15; exact absurd c_15 (by decide)
    exact cut_43  _ _ (st_of (pTk1_neg hdr) hP) (st_dn hD) hS ls (lv_sub hl [2, 1, 0] rfl)
  · have hdr : pDrv v (pSlot v) := Classical.byContradiction (fun z => by rw [if_neg z] at c_15; exact c_15 rfl)
    refine lv_aload_n hx hb dX3_runTick_18 rfl (lv_at hl 2 rfl) ?_
    refine va_get (D := D) (ci := 3) (v := .ref (a 1)) (C := RX3) (T := TX3) (N := 13) hx hb hts hiX3 hown hK hP 0 st_c0 rfl 0 (by decide) w_1 (fun _ h9 => h9) rfl dX3_runTick_19 ?_
    refine lv_iload_n hx hb dX3_runTick_22 rfl (lv_at hl 1 rfl) ?_
    refine r_aldq (v := a (3 * (pSlot v) + 5)) hx hb hK hP 1 4 st_c1 rfl (k := (pSlot v)) (rfl) (by omega) (by decide) (rfl) dX3_runTick_23 ?_
    have hPd_23 : va_P D vwCl (dgA ct a v (pSlot v)) _ := st_dgP (by omega) hP
    refine lv_dup hx hb dX3_runTick_24 rfl ?_
    refine va_get (D := D) (ci := 0) (v := .int (v.1 (4 + (pSlot v)) 5)) (C := RX0) (T := TX0) (N := 9) hx hb hts hiX0 hown hK hPd_23 0 rfl rfl 5 (by decide) w_2 (fun _ h9 => h9) rfl dX3_runTick_25 ?_
    refine lv_iconst (v := 1) hx hb dX3_runTick_28 (by decide) ?_
    refine lv_iadd hx hb dX3_runTick_29 ?_
    refine va_put (D := D) (ci := 0) (v := .int ((v.1 (4 + (pSlot v)) 5) + 1)) (ty := .int) (C := RX0) (T := TX0) (N := 9) hx hb hts hiX0 tyX0 tyX0_ok nmX0 hown hK hP hD hS (3 * (pSlot v) + 5) (st_getD (by omega)) rfl 5 (by decide) w_2 (fun _ h9 => h9) rfl (by decide +kernel) rfl rfl (Nat.le_of_ble_eq_true rfl) dX3_runTick_30 (fun H locs hP hD hS => ?_)
    have hP : va_P D vwCl (stW ct a (sC v (4 + (pSlot v)) (upd (v.1 (4 + (pSlot v))) 5 ((v.1 (4 + (pSlot v)) 5) + 1)))) H := st_pD (by omega) (upd (v.1 (4 + (pSlot v))) 5 ((v.1 (4 + (pSlot v)) 5) + 1)) hP
    have hD : va_D A (stW ct a (sC v (4 + (pSlot v)) (upd (v.1 (4 + (pSlot v))) 5 ((v.1 (4 + (pSlot v)) 5) + 1)))) := st_dset (by omega) hD
    refine lv_aload_n hx hb dX3_runTick_33 rfl (lv_at hl 2 rfl) ?_
    refine lv_dup hx hb dX3_runTick_34 rfl ?_
    refine va_get (D := D) (ci := 3) (v := .int ((sC v (4 + (pSlot v)) (upd (v.1 (4 + (pSlot v))) 5 ((v.1 (4 + (pSlot v)) 5) + 1))).1 0 5)) (C := RX3) (T := TX3) (N := 13) hx hb hts hiX3 hown hK hP 0 st_c0 rfl 9 (by decide) w_3 (fun _ h9 => h9) rfl dX3_runTick_35 ?_
    refine lv_as (y := v.1 0 5) (congrFun (sC_ne v (by omega) _) 5) ?_
    refine lv_iconst (v := 1) hx hb dX3_runTick_38 (by decide) ?_
    refine lv_iadd hx hb dX3_runTick_39 ?_
    refine va_put (D := D) (ci := 3) (v := .int ((v.1 0 5) + 1)) (ty := .int) (C := RX3) (T := TX3) (N := 13) hx hb hts hiX3 tyX3 tyX3_ok nmX3 hown hK hP hD hS 0 st_c0 rfl 9 (by decide) w_3 (fun _ h9 => h9) rfl (by decide +kernel) rfl rfl (Nat.le_of_ble_eq_true rfl) dX3_runTick_40 (fun H locs hP hD hS => ?_)
    have hP : va_P D vwCl (stW ct a (sC (sC v (4 + (pSlot v)) (upd (v.1 (4 + (pSlot v))) 5 ((v.1 (4 + (pSlot v)) 5) + 1))) 0 (upd ((sC v (4 + (pSlot v)) (upd (v.1 (4 + (pSlot v))) 5 ((v.1 (4 + (pSlot v)) 5) + 1))).1 0) 5 ((v.1 0 5) + 1)))) H := st_p0 (upd ((sC v (4 + (pSlot v)) (upd (v.1 (4 + (pSlot v))) 5 ((v.1 (4 + (pSlot v)) 5) + 1))).1 0) 5 ((v.1 0 5) + 1)) hP
    have hD : va_D A (stW ct a (sC (sC v (4 + (pSlot v)) (upd (v.1 (4 + (pSlot v))) 5 ((v.1 (4 + (pSlot v)) 5) + 1))) 0 (upd ((sC v (4 + (pSlot v)) (upd (v.1 (4 + (pSlot v))) 5 ((v.1 (4 + (pSlot v)) 5) + 1))).1 0) 5 ((v.1 0 5) + 1)))) := st_dset (by decide) hD
    exact cut_43  _ _ (st_of (by rw [sC_ne v (show 0 ≠ 4 + pSlot v by omega)]; exact pTk1_pos2 hdr) hP) (st_dn hD) hS ls (lv_sub hl [2, 1, 0] rfl)
set_option maxHeartbeats 4000000 in
set_option maxRecDepth 100000 in
theorem k_X3_runTicks (l : Launch) (D : va_G) (ct : Nat → ClassId) (sz : Nat) (a : Nat → Nat) (v : SV) (ok : Inv v) (n : Nat) (h6 : n ≤ 7000) : Met l yX3_runTicks wsX3_runTicks ({ frames := 4, cells := 0, slots := 0, locals := 93 }) (muP D ct (stW ct a v) sz [.ref (a 0), .int (nI n)]) (muI D ct (stW ct a v) (stW ct a (pTks v n)) sz (fun r => r = pTkN v n)) 0 0 (va_A (stW ct a v) sz) := by
  refine Met.ofW (cc := cX3_runTicks) (maxL := 4) (ret := (some .int)) (by decide) rfl ?_
  intro p e s m args below meth c s₁ B hml hv
  obtain ⟨rfl, hsz, hP, hK, hN, hD0⟩ := hv
  have hx := B.exec
  have hb := B.bytes
  have hr := B.returns
  have hts := atoms_spec (ws := wsX3_runTicks) B.pre
  have hown : s.vm.findClass RX3 = some m.cls := findClass_of_methodNamed B.named
  have hlocks := B.notSynchronized
  subst hsz
  have hD := hD0.self (sz := s.heap.size)
  generalize hAe : va_A (stW ct a v) s.heap.size = A at hD
  have hA : ∀ q : Nat, s.heap.size ≤ q → A q := fun q h => by rw [← hAe]; exact Or.inr h
  have hS : va_S A s.heap s.heap [] := va_S.rf
  have hl := lv_entry ([.ref (a 0), .int (nI n)]) (n := 4) (Nat.le_of_ble_eq_true rfl)
  rw [lg_entry_eq]
  generalize (lg_sl ([.ref (a 0), .int (nI n)]) ++ List.replicate (4 - (lg_sl ([.ref (a 0), .int (nI n)])).length) Slot.unset).toArray = ls at hl ⊢
  have hl : lv_has ls 4 [(0, .ref (a 0)), (1, .int (nI n))] := hl
  refine lv_iconst (v := 0) hx hb dX3_runTicks_0 (by decide) ?_
  refine lv_istore_n (lv' := [(2, .int 0), (0, .ref (a 0)), (1, .int (nI n))]) hx hb dX3_runTicks_1 rfl hl (by decide) rfl (fun ls hl => ?_)
  refine lv_iconst (v := 0) hx hb dX3_runTicks_2 (by decide) ?_
  refine lv_istore_n (lv' := [(3, .int 0), (2, .int 0), (0, .ref (a 0)), (1, .int (nI n))]) hx hb dX3_runTicks_3 rfl hl (by decide) rfl (fun ls hl => ?_)
  have loop_4 : ∀ (n_4 : Nat) (i : Nat) (x : Int32), (i ≤ n) → (n + 1 ≤ i + n_4) → (x = pTkN v i) → ∀ (H : Heap) (locs : List Loc), va_P D vwCl (stW ct a (pTks v i)) H → va_D A (stW ct a (pTks v i)) → va_S A s.heap H locs → ∀ (ls : Array Slot), lv_has ls 4 [(0, .ref (a 0)), (1, .int (nI n)), (2, .int x), (3, .int (nI i))] → W p l e (headSpec wsX3_runTicks ({ frames := 4, cells := 0, slots := 0, locals := 93 })).room s m #[.ref (a 0), .int (nI n)] below meth c H locs 0 0 (MQ below (muI D ct (stW ct a v) (stW ct a (pTks v n)) s.heap.size (fun r => r = pTkN v n)) #[.ref (a 0), .int (nI n)] s 0 0 (A)) (F0 m 4 ls []) := by
    intro n_4
    induction n_4 with
    | zero =>
      intro i x hi hn hx2
      exact absurd hn (by omega)
    | succ n_4 ih_4 =>
      intro i x hi hn hx2 H locs hP hD hS ls hl
      refine lv_iload_n hx hb dX3_runTicks_4 rfl (lv_at hl 3 rfl) ?_
      refine lv_iload_n hx hb dX3_runTicks_5 rfl (lv_at hl 1 rfl) ?_
      refine lv_icmp_ge (tgt := 22) hx hb dX3_runTicks_6 (by decide) (fun c_6 => ?_) (fun c_6 => ?_)
      · have hge : n ≤ i := nI_le' (by omega) (by omega) c_6
        refine lv_iload_n hx hb dX3_runTicks_22 rfl (lv_at hl 2 rfl) ?_
        have hP9 : va_P D vwCl (stW ct a (pTks v n)) _ := st_of (by rw [show i = n by omega]) hP
        have hD9 : va_D A (stW ct a (pTks v n)) := st_dn hD
        subst hAe
        exact W.iret (v := x) hx hb hr (fun tt ht hW => ⟨⟨x, (), rfl, by rw [hx2, show i = n by omega], muE.of (ct := ct) hP9 hD9 ht⟩, hS.F ht⟩) hS.2.2 dX3_runTicks_23
      · have hlt : i < n := nI_nle' (by omega) (by omega) c_6
        refine lv_iload_n hx hb dX3_runTicks_9 rfl (lv_at hl 2 rfl) ?_
        refine lv_aload_n hx hb dX3_runTicks_10 rfl (lv_at hl 0 rfl) ?_
        have hFc_11 := w_free (wc := stW ct a (pTks v i)) hD (List.Perm.of_eq (List.append_nil _).symm) hS hA
        refine va_calli (va_runV (As := []) (rest := [.int x]) ⟨hx, hb, hml, hown, hts⟩ (k_X3_runTick l D ct _ a (pTks v i) (Inv_tks ok i)) (cwV 0 hts gX3_runTicks_X3_runTick rfl rfl rfl (by decide +kernel) ⟨Nat.le_of_ble_eq_true rfl, Nat.le_of_ble_eq_true rfl⟩) ⟨muP.blind, va_recv hK hP (ci := 3) (q0 := 0) rfl rfl, muP.at hP hD hK hN⟩ rfl rfl hl.1 rfl (lv_room (Nat.le_of_ble_eq_true rfl)) dX3_runTicks_11 ⟨Nat.le_of_ble_eq_true rfl, Nat.le_of_ble_eq_true rfl⟩) hS (fun q _ h => hFc_11 q h) hFc_11 (fun r_11 uu tt H1 locs ht hvm h_11 hB hz1 hk1 hS => ?_)
        obtain ⟨hP, hD⟩ := muE.join (ws' := stW ct a (pTick (pTks v i))) hP hD (List.Perm.of_eq (List.append_nil _).symm) (List.Perm.of_eq (List.append_nil _).symm) hk1 hFc_11 ht hB
        generalize H1 = H at hP hS ⊢
        obtain rfl : r_11 = pTickN (pTks v i) := h_11
        refine lv_iadd hx hb dX3_runTicks_14 ?_
        refine lv_istore_n (lv' := [(2, .int (x + (pTickN (pTks v i)))), (0, .ref (a 0)), (1, .int (nI n)), (3, .int (nI i))]) hx hb dX3_runTicks_15 rfl hl (by decide) rfl (fun ls hl => ?_)
        refine lv_iinc (v := nI (i + 1)) (lv' := [(3, .int (nI (i + 1))), (2, .int (x + (pTickN (pTks v i)))), (0, .ref (a 0)), (1, .int (nI n))]) hx hb dX3_runTicks_16 hl (k := 3) rfl ((nI_succ i).symm) (by decide) rfl (fun ls hl => ?_)
        refine lv_goto (tgt := 4) hx hb dX3_runTicks_19 (by decide) ?_
        exact ih_4 (i + 1) _ (by omega) (by omega) (by rw [hx2, pTkN_s]) _ _ (st_of (pTks_s v i) hP) (st_dn hD) hS ls (lv_sub hl [2, 3, 1, 0] rfl)
  exact loop_4 (n + 1) 0 0 (Nat.zero_le _) (by omega) rfl _ _ (st_of (pTks_z v) hP) (st_dn hD) hS ls (lv_sub hl [2, 3, 1, 0] rfl)
set_option maxHeartbeats 4000000 in
set_option maxRecDepth 100000 in
theorem k_X3_changeWidth (l : Launch) (D : va_G) (ct : Nat → ClassId) (sz : Nat) (a : Nat → Nat) (v : SV) (d : Nat) (hd8 : d < 8) (y : Int32) : Met l yX3_changeWidth wsX3_changeWidth ({ frames := 1, cells := 0, slots := 0, locals := 20 }) (muP D ct (stW ct a v) sz [.ref (a 0), .ref (a (3 * d + 5)), .int y]) (muV D ct (stW ct a v) (stW ct a (pSW v d y)) sz) 0 0 (va_A (stW ct a v) sz) := by
  refine Met.ofW (cc := cX3_changeWidth) (maxL := 3) (ret := none) (by decide) rfl ?_
  intro p e s m args below meth c s₁ B hml hv
  obtain ⟨rfl, hsz, hP, hK, hN, hD0⟩ := hv
  have hx := B.exec
  have hb := B.bytes
  have hr := B.returns
  have hts := atoms_spec (ws := wsX3_changeWidth) B.pre
  have hown : s.vm.findClass RX3 = some m.cls := findClass_of_methodNamed B.named
  have hlocks := B.notSynchronized
  subst hsz
  have hD := hD0.self (sz := s.heap.size)
  generalize hAe : va_A (stW ct a v) s.heap.size = A at hD
  have hA : ∀ q : Nat, s.heap.size ≤ q → A q := fun q h => by rw [← hAe]; exact Or.inr h
  have hS : va_S A s.heap s.heap [] := va_S.rf
  have w_1 := hts (.fieldLink RX3 85 "ScannedDigits$Digit" "width" "I") (List.mem_of_getElem? (i := 1) rfl)
  have hiX0 : ∀ w ∈ wsX00, w ∈ wsX3_changeWidth := fun w h => (goodIn_r wsX00 [10, 11, 12, 13, 14, 15, 16, 17, 18] (by decide +kernel) (by decide +kernel) w h).1
  have hl := lv_entry ([.ref (a 0), .ref (a (3 * d + 5)), .int y]) (n := 3) (Nat.le_of_ble_eq_true rfl)
  rw [lg_entry_eq]
  generalize (lg_sl ([.ref (a 0), .ref (a (3 * d + 5)), .int y]) ++ List.replicate (3 - (lg_sl ([.ref (a 0), .ref (a (3 * d + 5)), .int y])).length) Slot.unset).toArray = ls at hl ⊢
  have hl : lv_has ls 3 [(0, .ref (a 0)), (1, .ref (a (3 * d + 5))), (2, .int y)] := hl
  refine lv_iload_n hx hb dX3_changeWidth_0 rfl (lv_at hl 2 rfl) ?_
  refine lv_aload_n hx hb dX3_changeWidth_1 rfl (lv_at hl 1 rfl) ?_
  refine va_get (D := D) (ci := 0) (v := .int (v.1 (4 + d) 1)) (C := RX0) (T := TX0) (N := 9) hx hb hts hiX0 hown hK hP (3 * d + 5) (st_getD (by omega)) rfl 0 (by decide) w_1 (fun _ h9 => h9) rfl dX3_changeWidth_2 ?_
  refine lv_icmp_ne (tgt := 9) hx hb dX3_changeWidth_5 (by decide) (fun c_5 => ?_) (fun c_5 => ?_)
  · refine lv_aload_n hx hb dX3_changeWidth_9 rfl (lv_at hl 1 rfl) ?_
    refine lv_iload_n hx hb dX3_changeWidth_10 rfl (lv_at hl 2 rfl) ?_
    refine va_put (D := D) (ci := 0) (v := .int y) (ty := .int) (C := RX0) (T := TX0) (N := 9) hx hb hts hiX0 tyX0 tyX0_ok nmX0 hown hK hP hD hS (3 * d + 5) (st_getD (by omega)) rfl 0 (by decide) w_1 (fun _ h9 => h9) rfl (by decide +kernel) rfl rfl (Nat.le_of_ble_eq_true rfl) dX3_changeWidth_11 (fun H locs hP hD hS => ?_)
    have hP : va_P D vwCl (stW ct a (s2 v (4 + d) 1 y)) H := st_pD hd8 (upd (v.1 (4 + d)) 1 y) hP
    have hD : va_D A (stW ct a (s2 v (4 + d) 1 y)) := st_dset (by omega) hD
    refine lv_aload_n hx hb dX3_changeWidth_14 rfl (lv_at hl 0 rfl) ?_
    have hFc_15 := w_free (wc := stW ct a (s2 v (4 + d) 1 y)) hD (List.Perm.of_eq (List.append_nil _).symm) hS hA
    refine va_callv (va_runV (As := []) (rest := []) ⟨hx, hb, hml, hown, hts⟩ (k_X3_beginFrame l D ct _ a (s2 v (4 + d) 1 y)) (cwV 0 hts gX3_changeWidth_X3_beginFrame rfl rfl rfl (by decide +kernel) ⟨Nat.le_of_ble_eq_true rfl, Nat.le_of_ble_eq_true rfl⟩) ⟨muP.blind, va_recv hK hP (ci := 3) (q0 := 0) rfl rfl, muP.at hP hD hK hN⟩ rfl rfl hl.1 rfl (lv_room (Nat.le_of_ble_eq_true rfl)) dX3_changeWidth_15 ⟨Nat.le_of_ble_eq_true rfl, Nat.le_of_ble_eq_true rfl⟩) hS (fun q _ h => hFc_15 q h) hFc_15 (fun uu tt H1 locs ht hvm hw hB hz1 hk1 hS => ?_)
    obtain ⟨hP, hD⟩ := muE.join (ws' := stW ct a (pEnd (s2 v (4 + d) 1 y))) hP hD (List.Perm.of_eq (List.append_nil _).symm) (List.Perm.of_eq (List.append_nil _).symm) hk1 hFc_15 ht hB
    generalize H1 = H at hP hS ⊢
    have hP9 : va_P D vwCl (stW ct a (pSW v d y)) _ := st_of (by unfold pSW; rw [if_neg (fun q => c_5 q.symm)]) hP
    have hD9 : va_D A (stW ct a (pSW v d y)) := st_dn hD
    subst hAe
    exact W.vret hx hb hr (fun tt ht hW => ⟨⟨(), rfl, trivial, muE.of (ct := ct) hP9 hD9 ht⟩, hS.F ht⟩) hS.2.2 dX3_changeWidth_18
  · have hP9 : va_P D vwCl (stW ct a (pSW v d y)) _ := st_of (by unfold pSW; rw [if_pos c_5.symm, s2_id c_5.symm]) hP
    have hD9 : va_D A (stW ct a (pSW v d y)) := st_dn hD
    subst hAe
    exact W.vret hx hb hr (fun tt ht hW => ⟨⟨(), rfl, trivial, muE.of (ct := ct) hP9 hD9 ht⟩, hS.F ht⟩) hS.2.2 dX3_changeWidth_8
set_option maxHeartbeats 4000000 in
set_option maxRecDepth 100000 in
theorem k_X3_changeDigitCount (l : Launch) (D : va_G) (ct : Nat → ClassId) (sz : Nat) (a : Nat → Nat) (v : SV) (ok : Inv v) (n : Nat) (h1 : 1 ≤ n) (h8 : n ≤ 8) : Met l yX3_changeDigitCount wsX3_changeDigitCount ({ frames := 2, cells := 0, slots := 0, locals := 41 }) (muP D ct (stW ct a v) sz [.ref (a 0), .int (nI n)]) (muV D ct (stW ct a v) (stW ct a (pSD v n)) sz) 0 0 (va_A (stW ct a v) sz) := by
  refine Met.ofW (cc := cX3_changeDigitCount) (maxL := 3) (ret := none) (by decide) rfl ?_
  intro p e s m args below meth c s₁ B hml hv
  obtain ⟨rfl, hsz, hP, hK, hN, hD0⟩ := hv
  have hx := B.exec
  have hb := B.bytes
  have hr := B.returns
  have hts := atoms_spec (ws := wsX3_changeDigitCount) B.pre
  have hown : s.vm.findClass RX3 = some m.cls := findClass_of_methodNamed B.named
  have hlocks := B.notSynchronized
  subst hsz
  have hD := hD0.self (sz := s.heap.size)
  generalize hAe : va_A (stW ct a v) s.heap.size = A at hD
  have hA : ∀ q : Nat, s.heap.size ≤ q → A q := fun q h => by rw [← hAe]; exact Or.inr h
  have hS : va_S A s.heap s.heap [] := va_S.rf
  have w_1 := hts (.fieldLink RX3 17 "ScannedDigits$State" "digitCount" "I") (List.mem_of_getElem? (i := 1) rfl)
  have w_2 := hts (.fieldLink RX3 11 "ScannedDigits$State" "digits" "[LScannedDigits$Digit;") (List.mem_of_getElem? (i := 2) rfl)
  have hiX3 : ∀ w ∈ wsX30, w ∈ wsX3_changeDigitCount := fun w h => (goodIn_r wsX30 [29, 30, 31, 32, 33, 34, 35, 36, 37, 38, 39, 40, 41] (by decide +kernel) (by decide +kernel) w h).1
  have hl := lv_entry ([.ref (a 0), .int (nI n)]) (n := 3) (Nat.le_of_ble_eq_true rfl)
  rw [lg_entry_eq]
  generalize (lg_sl ([.ref (a 0), .int (nI n)]) ++ List.replicate (3 - (lg_sl ([.ref (a 0), .int (nI n)])).length) Slot.unset).toArray = ls at hl ⊢
  have hl : lv_has ls 3 [(0, .ref (a 0)), (1, .int (nI n))] := hl
  have n8 := ok.n8
  refine lv_iload_n hx hb dX3_changeDigitCount_0 rfl (lv_at hl 1 rfl) ?_
  refine lv_aload_n hx hb dX3_changeDigitCount_1 rfl (lv_at hl 0 rfl) ?_
  refine va_get (D := D) (ci := 3) (v := .int (v.1 0 0)) (C := RX3) (T := TX3) (N := 13) hx hb hts hiX3 hown hK hP 0 st_c0 rfl 1 (by decide) w_1 (fun _ h9 => h9) rfl dX3_changeDigitCount_2 ?_
  refine lv_as (y := nI (nOf v)) (ok.cnt) ?_
  refine lv_icmp_ne (tgt := 9) hx hb dX3_changeDigitCount_5 (by decide) (fun c_5 => ?_) (fun c_5 => ?_)
  · have hnn : ¬ nOf v = n := fun z => c_5 (congrArg nI z.symm)
    refine lv_aload_n hx hb dX3_changeDigitCount_9 rfl (lv_at hl 0 rfl) ?_
    refine va_get (D := D) (ci := 3) (v := .int (v.1 0 0)) (C := RX3) (T := TX3) (N := 13) hx hb hts hiX3 hown hK hP 0 st_c0 rfl 1 (by decide) w_1 (fun _ h9 => h9) rfl dX3_changeDigitCount_10 ?_
    refine lv_as (y := nI (nOf v)) (ok.cnt) ?_
    refine lv_istore_n (lv' := [(2, .int (nI (nOf v))), (0, .ref (a 0)), (1, .int (nI n))]) hx hb dX3_changeDigitCount_13 rfl hl (by decide) rfl (fun ls hl => ?_)
    have loop_14 : ∀ (n_14 : Nat) (i : Nat), (i ≤ n - nOf v) → (n - nOf v + 1 ≤ i + n_14) → ∀ (H : Heap) (locs : List Loc), va_P D vwCl (stW ct a (pNews v (nOf v) i)) H → va_D A (stW ct a (pNews v (nOf v) i)) → va_S A s.heap H locs → ∀ (ls : Array Slot), lv_has ls 3 [(0, .ref (a 0)), (1, .int (nI n)), (2, .int (nI (nOf v + i)))] → W p l e (headSpec wsX3_changeDigitCount ({ frames := 2, cells := 0, slots := 0, locals := 41 })).room s m #[.ref (a 0), .int (nI n)] below meth c H locs 0 0 (MQ below (muV D ct (stW ct a v) (stW ct a (pSD v n)) s.heap.size) #[.ref (a 0), .int (nI n)] s 0 0 (A)) (F0 m 14 ls []) := by
      intro n_14
      induction n_14 with
      | zero =>
        intro i hi hn
        exact absurd hn (by omega)
      | succ n_14 ih_14 =>
        intro i hi hn H locs hP hD hS ls hl
        refine lv_iload_n hx hb dX3_changeDigitCount_14 rfl (lv_at hl 2 rfl) ?_
        refine lv_iload_n hx hb dX3_changeDigitCount_15 rfl (lv_at hl 1 rfl) ?_
        refine lv_icmp_ge (tgt := 34) hx hb dX3_changeDigitCount_16 (by decide) (fun c_16 => ?_) (fun c_16 => ?_)
        · have hge : n ≤ nOf v + i := nI_le' (by omega) (by omega) c_16
          refine lv_aload_n hx hb dX3_changeDigitCount_34 rfl (lv_at hl 0 rfl) ?_
          refine lv_iload_n hx hb dX3_changeDigitCount_35 rfl (lv_at hl 1 rfl) ?_
          refine va_put (D := D) (ci := 3) (v := .int (nI n)) (ty := .int) (C := RX3) (T := TX3) (N := 13) hx hb hts hiX3 tyX3 tyX3_ok nmX3 hown hK hP hD hS 0 st_c0 rfl 1 (by decide) w_1 (fun _ h9 => h9) rfl (by decide +kernel) rfl rfl (Nat.le_of_ble_eq_true rfl) dX3_changeDigitCount_36 (fun H locs hP hD hS => ?_)
          have hP : va_P D vwCl (stW ct a (pCnt v n)) H := st_of (pCnt_of v n i (by omega)) (st_p0 (upd ((pNews v (nOf v) i).1 0) 0 (nI n)) hP)
          have hD : va_D A (stW ct a (pCnt v n)) := st_dset (by decide) hD
          refine lv_aload_n hx hb dX3_changeDigitCount_39 rfl (lv_at hl 0 rfl) ?_
          have hFc_40 := w_free (wc := stW ct a (pCnt v n)) hD (List.Perm.of_eq (List.append_nil _).symm) hS hA
          refine va_callv (va_runV (As := []) (rest := []) ⟨hx, hb, hml, hown, hts⟩ (k_X3_beginFrame l D ct _ a (pCnt v n)) (cwV 0 hts gX3_changeDigitCount_X3_beginFrame rfl rfl rfl (by decide +kernel) ⟨Nat.le_of_ble_eq_true rfl, Nat.le_of_ble_eq_true rfl⟩) ⟨muP.blind, va_recv hK hP (ci := 3) (q0 := 0) rfl rfl, muP.at hP hD hK hN⟩ rfl rfl hl.1 rfl (lv_room (Nat.le_of_ble_eq_true rfl)) dX3_changeDigitCount_40 ⟨Nat.le_of_ble_eq_true rfl, Nat.le_of_ble_eq_true rfl⟩) hS (fun q _ h => hFc_40 q h) hFc_40 (fun uu tt H1 locs ht hvm hw hB hz1 hk1 hS => ?_)
          obtain ⟨hP, hD⟩ := muE.join (ws' := stW ct a (pEnd (pCnt v n))) hP hD (List.Perm.of_eq (List.append_nil _).symm) (List.Perm.of_eq (List.append_nil _).symm) hk1 hFc_40 ht hB
          generalize H1 = H at hP hS ⊢
          have hP9 : va_P D vwCl (stW ct a (pSD v n)) _ := st_of (by unfold pSD; rw [if_neg hnn]) hP
          have hD9 : va_D A (stW ct a (pSD v n)) := st_dn hD
          subst hAe
          exact W.vret hx hb hr (fun tt ht hW => ⟨⟨(), rfl, trivial, muE.of (ct := ct) hP9 hD9 ht⟩, hS.F ht⟩) hS.2.2 dX3_changeDigitCount_43
        · have hlt : nOf v + i < n := nI_nle' (by omega) (by omega) c_16
          refine lv_aload_n hx hb dX3_changeDigitCount_19 rfl (lv_at hl 0 rfl) ?_
          refine va_get (D := D) (ci := 3) (v := .ref (a 1)) (C := RX3) (T := TX3) (N := 13) hx hb hts hiX3 hown hK hP 0 st_c0 rfl 0 (by decide) w_2 (fun _ h9 => h9) rfl dX3_changeDigitCount_20 ?_
          refine lv_iload_n hx hb dX3_changeDigitCount_23 rfl (lv_at hl 2 rfl) ?_
          refine r_aldq (v := a (3 * (nOf v + i) + 5)) hx hb hK hP 1 4 st_c1 rfl (k := (nOf v + i)) (rfl) (by omega) (by decide) (rfl) dX3_changeDigitCount_24 ?_
          have hPd_24 : va_P D vwCl (dgA ct a (pNews v (nOf v) i) (nOf v + i)) _ := st_dgP (by omega) hP
          have hFc_25 := w_free (wc := dgA ct a (pNews v (nOf v) i) (nOf v + i)) hD (st_perm (by omega)) hS hA
          refine va_callv (va_runV (As := []) (rest := []) ⟨hx, hb, hml, hown, hts⟩ (k_X0_makeNew l D ct _ (a (3 * (nOf v + i) + 5)) (a (3 * (nOf v + i) + 6)) (a (3 * (nOf v + i) + 7)) ((pNews v (nOf v) i).1 (4 + (nOf v + i))) ((pNews v (nOf v) i).1 (12 + (nOf v + i))) ((pNews v (nOf v) i).1 (20 + (nOf v + i)))) (cwV 0 hts gX3_changeDigitCount_X0_makeNew rfl rfl rfl (by decide +kernel) ⟨Nat.le_of_ble_eq_true rfl, Nat.le_of_ble_eq_true rfl⟩) ⟨muP.blind, va_recv hK (st_dgP (by omega) hP) (ci := 0) (q0 := 0) rfl rfl, muP.at (st_dgP (by omega) hP) (dw_cut (st_perm (by omega)) hD) hK hN⟩ rfl rfl hl.1 rfl (lv_room (Nat.le_of_ble_eq_true rfl)) dX3_changeDigitCount_25 ⟨Nat.le_of_ble_eq_true rfl, Nat.le_of_ble_eq_true rfl⟩) hS (fun q _ h => hFc_25 q h) hFc_25 (fun uu tt H1 locs ht hvm hw hB hz1 hk1 hS => ?_)
          obtain ⟨hP, hD⟩ := muE.join (ws' := stW ct a (sTri (pNews v (nOf v) i) (nOf v + i) (dFirst, (fun _ => 0), (fun _ => 0)))) hP hD (st_perm (by omega)) (st_permT (by omega) _) hk1 hFc_25 ht hB
          generalize H1 = H at hP hS ⊢
          refine lv_iinc (v := nI ((nOf v + i) + 1)) (lv' := [(2, .int (nI ((nOf v + i) + 1))), (0, .ref (a 0)), (1, .int (nI n))]) hx hb dX3_changeDigitCount_28 hl (k := 2) rfl ((nI_succ (nOf v + i)).symm) (by decide) rfl (fun ls hl => ?_)
          refine lv_goto (tgt := 14) hx hb dX3_changeDigitCount_31 (by decide) ?_
          exact ih_14 (i + 1) (by omega) (by omega) _ _ (st_of (pNews_s v _ i) hP) (st_dn hD) hS ls (lv_sub hl [1, 2, 0] rfl)
    exact loop_14 (n - nOf v + 1) 0 (Nat.zero_le _) (by omega) _ _ (st_of (pNews_z v _).symm hP) (st_dn hD) hS ls (lv_sub hl [1, 2, 0] rfl)
  · have hnn : nOf v = n := ((nI_eq (by omega) (by omega)).mp c_5).symm
    have hP9 : va_P D vwCl (stW ct a (pSD v n)) _ := st_of (by unfold pSD; rw [if_pos hnn]; exact (pCnt_id ok hnn).symm) hP
    have hD9 : va_D A (stW ct a (pSD v n)) := st_dn hD
    subst hAe
    exact W.vret hx hb hr (fun tt ht hW => ⟨⟨(), rfl, trivial, muE.of (ct := ct) hP9 hD9 ht⟩, hS.F ht⟩) hS.2.2 dX3_changeDigitCount_8
set_option maxHeartbeats 4000000 in
set_option maxRecDepth 100000 in
theorem k_X3_takePatterns (l : Launch) (D : va_G) (ct : Nat → ClassId) (sz : Nat) (a : Nat → Nat) (v : SV) (p0 : Nat) (P : Nat → Int32) (n8 : nOf v ≤ 8) (hcn : v.1 0 0 = nI (nOf v)) : Met l yX3_takePatterns wsX3_takePatterns ({ frames := 0, cells := 0, slots := 0, locals := 0 }) (muP D ct (stW ct a v ++ [(p0, .inl (ct 0, 8, .inl P))]) sz [.ref (a 0), .ref p0]) (muV D ct (stW ct a v ++ [(p0, .inl (ct 0, 8, .inl P))]) (stW ct a (pPats v P (nOf v)) ++ [(p0, .inl (ct 0, 8, .inl P))]) sz) 0 0 (va_A (stW ct a v ++ [(p0, .inl (ct 0, 8, .inl P))]) sz) := by
  refine Met.ofW (cc := cX3_takePatterns) (maxL := 3) (ret := none) (by decide) rfl ?_
  intro p e s m args below meth c s₁ B hml hv
  obtain ⟨rfl, hsz, hP, hK, hN, hD0⟩ := hv
  have hx := B.exec
  have hb := B.bytes
  have hr := B.returns
  have hts := atoms_spec (ws := wsX3_takePatterns) B.pre
  have hown : s.vm.findClass RX3 = some m.cls := findClass_of_methodNamed B.named
  have hlocks := B.notSynchronized
  subst hsz
  have hD := hD0.self (sz := s.heap.size)
  generalize hAe : va_A (stW ct a v ++ [(p0, .inl (ct 0, 8, .inl P))]) s.heap.size = A at hD
  have hA : ∀ q : Nat, s.heap.size ≤ q → A q := fun q h => by rw [← hAe]; exact Or.inr h
  have hS : va_S A s.heap s.heap [] := va_S.rf
  have w_1 := hts (.fieldLink RX3 17 "ScannedDigits$State" "digitCount" "I") (List.mem_of_getElem? (i := 1) rfl)
  have w_2 := hts (.fieldLink RX3 11 "ScannedDigits$State" "digits" "[LScannedDigits$Digit;") (List.mem_of_getElem? (i := 2) rfl)
  have w_3 := hts (.fieldLink RX3 88 "ScannedDigits$Digit" "pattern" "I") (List.mem_of_getElem? (i := 3) rfl)
  have hiX3 : ∀ w ∈ wsX30, w ∈ wsX3_takePatterns := fun w h => (goodIn_r wsX30 [4, 5, 6, 7, 8, 9, 10, 11, 12, 13, 14, 15, 16] (by decide +kernel) (by decide +kernel) w h).1
  have hiX0 : ∀ w ∈ wsX00, w ∈ wsX3_takePatterns := fun w h => (goodIn_r wsX00 [17, 18, 19, 20, 21, 22, 23, 24, 25] (by decide +kernel) (by decide +kernel) w h).1
  have hl := lv_entry ([.ref (a 0), .ref p0]) (n := 3) (Nat.le_of_ble_eq_true rfl)
  rw [lg_entry_eq]
  generalize (lg_sl ([.ref (a 0), .ref p0]) ++ List.replicate (3 - (lg_sl ([.ref (a 0), .ref p0])).length) Slot.unset).toArray = ls at hl ⊢
  have hl : lv_has ls 3 [(0, .ref (a 0)), (1, .ref p0)] := hl
  refine lv_iconst (v := 0) hx hb dX3_takePatterns_0 (by decide) ?_
  refine lv_istore_n (lv' := [(2, .int 0), (0, .ref (a 0)), (1, .ref p0)]) hx hb dX3_takePatterns_1 rfl hl (by decide) rfl (fun ls hl => ?_)
  have loop_2 : ∀ (n_2 : Nat) (i : Nat), (i ≤ nOf v) → (nOf v + 1 ≤ i + n_2) → ∀ (H : Heap) (locs : List Loc), va_P D vwCl (stW ct a (pPats v P i) ++ [(p0, .inl (ct 0, 8, .inl P))]) H → va_D A (stW ct a (pPats v P i) ++ [(p0, .inl (ct 0, 8, .inl P))]) → va_S A s.heap H locs → ∀ (ls : Array Slot), lv_has ls 3 [(0, .ref (a 0)), (1, .ref p0), (2, .int (nI i))] → W p l e (headSpec wsX3_takePatterns ({ frames := 0, cells := 0, slots := 0, locals := 0 })).room s m #[.ref (a 0), .ref p0] below meth c H locs 0 0 (MQ below (muV D ct (stW ct a v ++ [(p0, .inl (ct 0, 8, .inl P))]) (stW ct a (pPats v P (nOf v)) ++ [(p0, .inl (ct 0, 8, .inl P))]) s.heap.size) #[.ref (a 0), .ref p0] s 0 0 (A)) (F0 m 2 ls []) := by
    intro n_2
    induction n_2 with
    | zero =>
      intro i hi hn
      exact absurd hn (by omega)
    | succ n_2 ih_2 =>
      intro i hi hn H locs hP hD hS ls hl
      refine lv_iload_n hx hb dX3_takePatterns_2 rfl (lv_at hl 2 rfl) ?_
      refine lv_aload_n hx hb dX3_takePatterns_3 rfl (lv_at hl 0 rfl) ?_
      refine va_get (D := D) (ci := 3) (v := .int ((pPats v P i).1 0 0)) (C := RX3) (T := TX3) (N := 13) hx hb hts hiX3 hown hK hP 0 sa_c0 rfl 1 (by decide) w_1 (fun _ h9 => h9) rfl dX3_takePatterns_4 ?_
      refine lv_as (y := nI (nOf v)) (by rw [pPats_lo _ _ (by decide)]; exact hcn) ?_
      refine lv_icmp_ge (tgt := 34) hx hb dX3_takePatterns_7 (by decide) (fun c_7 => ?_) (fun c_7 => ?_)
      · have hge : nOf v ≤ i := nI_le' (by omega) (by omega) c_7
        have hP9 : va_P D vwCl (stW ct a (pPats v P (nOf v)) ++ [(p0, .inl (ct 0, 8, .inl P))]) _ := sa_of (by rw [show i = nOf v by omega]) hP
        have hD9 : va_D A (stW ct a (pPats v P (nOf v)) ++ [(p0, .inl (ct 0, 8, .inl P))]) := sa_dn hD
        subst hAe
        exact W.vret hx hb hr (fun tt ht hW => ⟨⟨(), rfl, trivial, muE.of (ct := ct) hP9 hD9 ht⟩, hS.F ht⟩) hS.2.2 dX3_takePatterns_34
      · have hlt : i < nOf v := nI_nle' (by omega) (by omega) c_7
        refine lv_iload_n hx hb dX3_takePatterns_10 rfl (lv_at hl 2 rfl) ?_
        refine lv_aload_n hx hb dX3_takePatterns_11 rfl (lv_at hl 1 rfl) ?_
        refine va_alen hx hb hK hP 29 0 sp_get (ty := .int) rfl (v := 8) rfl dX3_takePatterns_12 ?_
        refine lv_icmp_ge (tgt := 34) hx hb dX3_takePatterns_13 (by decide) (fun c_13 => ?_) (fun c_13 => ?_)
        · exact absurd (nI_le' (b := 8) (a := i) (by decide) (by omega) c_13) (by omega)
        · have hi8 : i < 8 := by omega
          refine lv_aload_n hx hb dX3_takePatterns_16 rfl (lv_at hl 0 rfl) ?_
          refine va_get (D := D) (ci := 3) (v := .ref (a 1)) (C := RX3) (T := TX3) (N := 13) hx hb hts hiX3 hown hK hP 0 sa_c0 rfl 0 (by decide) w_2 (fun _ h9 => h9) rfl dX3_takePatterns_17 ?_
          refine lv_iload_n hx hb dX3_takePatterns_20 rfl (lv_at hl 2 rfl) ?_
          refine r_aldq (v := a (3 * i + 5)) hx hb hK hP 1 4 sa_c1 rfl (k := i) (rfl) (by omega) (by decide) (rfl) dX3_takePatterns_21 ?_
          have hPd_21 : va_P D vwCl (dgA ct a (pPats v P i) i) _ := sa_dgP (by omega) hP
          refine lv_aload_n hx hb dX3_takePatterns_22 rfl (lv_at hl 1 rfl) ?_
          refine lv_iload_n hx hb dX3_takePatterns_23 rfl (lv_at hl 2 rfl) ?_
          refine r_iald hx hb hK hP 29 0 sp_get rfl (k := i) (rfl) (by omega) (by decide) dX3_takePatterns_24 ?_
          refine va_put (D := D) (ci := 0) (v := .int (P i)) (ty := .int) (C := RX0) (T := TX0) (N := 9) hx hb hts hiX0 tyX0 tyX0_ok nmX0 hown hK hP hD hS (3 * i + 5) (sa_getD (by omega)) rfl 3 (by decide) w_3 (fun _ h9 => h9) rfl (by decide +kernel) rfl rfl (Nat.le_of_ble_eq_true rfl) dX3_takePatterns_25 (fun H locs hP hD hS => ?_)
          have hP : va_P D vwCl (stW ct a (sC (pPats v P i) (4 + i) (upd ((pPats v P i).1 (4 + i)) 0 (P i))) ++ [(p0, .inl (ct 0, 8, .inl P))]) H := sa_pD (by omega) (upd ((pPats v P i).1 (4 + i)) 0 (P i)) hP
          have hD : va_D A (stW ct a (sC (pPats v P i) (4 + i) (upd ((pPats v P i).1 (4 + i)) 0 (P i))) ++ [(p0, .inl (ct 0, 8, .inl P))]) := sa_dset (by omega) hD
          refine lv_iinc (v := nI (i + 1)) (lv' := [(2, .int (nI (i + 1))), (0, .ref (a 0)), (1, .ref p0)]) hx hb dX3_takePatterns_28 hl (k := 2) rfl ((nI_succ i).symm) (by decide) rfl (fun ls hl => ?_)
          refine lv_goto (tgt := 2) hx hb dX3_takePatterns_31 (by decide) ?_
          exact ih_2 (i + 1) (by omega) (by omega) _ _ (sa_of (pPats_s v P i) hP) (sa_dn hD) hS ls (lv_sub hl [1, 2, 0] rfl)
  exact loop_2 (nOf v + 1) 0 (Nat.zero_le _) (by omega) _ _ (sa_of (pPats_z v P).symm hP) (sa_dn hD) hS ls (lv_sub hl [1, 2, 0] rfl)
