set_option maxHeartbeats 4000000 in
set_option maxRecDepth 100000 in
theorem k_X5_setWidth_e1 (l : Launch) (D : va_G) (ct : Nat → ClassId) (o : Nat → Nat) (ad : Nat → Nat → Nat) (v z : SV) (w : Nat → SV) (n k : Nat) (hn : n < 5) (hk : k ≤ 5) (s0 s1 : SV) (i0 i1 : Int32) (t : Nat) (nd : Int32) (f g : Nat → Int32) (x : Int32) (y1 : Int32) (hnd : ¬ vD v x) : Met l yX5_setWidth wsX5_setWidth ({ frames := 4, cells := 0, slots := 0, locals := 104 }) (roP D ct (stW ct (ad 8) v ++ xR ct o ad z w (nI n) (nI k) s0 s1 i0 i1 (nI t) nd f g) [.ref (o 0), .int x, .int y1]) (vp_Si (fun r => r = -1)) 0 0 noA := by
  refine Met.ofW (cc := cX5_setWidth) (maxL := 4) (ret := (some .int)) (by decide) rfl ?_
  intro p e s m args below meth c s₁ B hml hv
  obtain ⟨rfl, hP, hK, hN⟩ := hv
  have hx := B.exec
  have hb := B.bytes
  have hr := B.returns
  have hts := atoms_spec (ws := wsX5_setWidth) B.pre
  have hown : s.vm.findClass RX5 = some m.cls := findClass_of_methodNamed B.named
  have hlocks := B.notSynchronized
  have w_1 := hts (.fieldLink RX5 10 "ScannedDigits" "now" "LScannedDigits$State;") (List.mem_of_getElem? (i := 1) rfl)
  have hiX5 : ∀ w ∈ wsX50, w ∈ wsX5_setWidth := fun w h => (goodIn_r wsX50 [77, 78, 79, 80, 81] (by decide +kernel) (by decide +kernel) w h).1
  have hl := lv_entry ([.ref (o 0), .int x, .int y1]) (n := 4) (Nat.le_of_ble_eq_true rfl)
  rw [lg_entry_eq]
  generalize (lg_sl ([.ref (o 0), .int x, .int y1]) ++ List.replicate (4 - (lg_sl ([.ref (o 0), .int x, .int y1])).length) Slot.unset).toArray = ls at hl ⊢
  have hl : lv_has ls 4 [(0, .ref (o 0)), (1, .int x), (2, .int y1)] := hl
  refine lv_aload_n hx hb dX5_setWidth_0 rfl (lv_at hl 0 rfl) ?_
  refine va_get (D := D) (ci := 5) (v := .ref ((ad 8) 0)) (C := RX5) (T := TX5) (N := 5) hx hb hts hiX5 hown hK hP 29 (xw_get (i := 0) rfl) rfl 0 (by decide) w_1 (fun _ h9 => h9) rfl dX5_setWidth_1 ?_
  refine lv_iload_n hx hb dX5_setWidth_4 rfl (lv_at hl 1 rfl) ?_
  refine va_csq (va_runV (As := [.int x]) (rest := []) ⟨hx, hb, hml, hown, hts⟩ (k_X3_find_no l D ct (ad 8) v x hnd) (cwV 1 hts gX5_setWidth_X3_find rfl rfl rfl (by decide +kernel) ⟨Nat.le_of_ble_eq_true rfl, Nat.le_of_ble_eq_true rfl⟩) ⟨roP.blind, va_recv hK (pw_left hP) (ci := 3) (q0 := 0) rfl rfl, roP.at (pw_left hP) hK hN⟩ rfl rfl hl.1 rfl (lv_room (Nat.le_of_ble_eq_true rfl)) dX5_setWidth_5 ⟨Nat.le_of_ble_eq_true rfl, Nat.le_of_ble_eq_true rfl⟩).run (fun r_5 h_5 => ?_)
  obtain rfl : r_5 = none := h_5
  have hg_5 : va_rf (none) = .null := rfl
  rw [hg_5]
  refine lv_astore_nN (lv' := [(3, .null), (0, .ref (o 0)), (1, .int x), (2, .int y1)]) hx hb dX5_setWidth_8 rfl hl (by decide) rfl (fun ls hl => ?_)
  refine lv_aload_nN hx hb dX5_setWidth_9 rfl (lv_at hl 0 rfl) ?_
  refine lv_ifnonnullN hx hb dX5_setWidth_10 ?_
  refine lv_iconst (v := (-1)) hx hb dX5_setWidth_13 (by decide) ?_
  exact W.iret (v := (-1)) hx hb hr (fun tt ht hW => ⟨(-1), rfl, rfl, ht⟩) (fun q hq => absurd hq List.not_mem_nil) dX5_setWidth_14
set_option maxHeartbeats 4000000 in
set_option maxRecDepth 100000 in
theorem k_X5_setWidth_e2 (l : Launch) (D : va_G) (ct : Nat → ClassId) (o : Nat → Nat) (ad : Nat → Nat → Nat) (v z : SV) (w : Nat → SV) (n k : Nat) (hn : n < 5) (hk : k ≤ 5) (s0 s1 : SV) (i0 i1 : Int32) (t : Nat) (nd : Int32) (f g : Nat → Int32) (ok : Inv v) (d : Nat) (hd : d < nOf v) (y : Int32) (hin : pIn y 4 40 = 0) : Met l yX5_setWidth wsX5_setWidth ({ frames := 4, cells := 0, slots := 0, locals := 104 }) (roP D ct (stW ct (ad 8) v ++ xR ct o ad z w (nI n) (nI k) s0 s1 i0 i1 (nI t) nd f g) [.ref (o 0), .int (nI d), .int y]) (vp_Si (fun r => r = -2)) 0 0 noA := by
  refine Met.ofW (cc := cX5_setWidth) (maxL := 4) (ret := (some .int)) (by decide) rfl ?_
  intro p e s m args below meth c s₁ B hml hv
  obtain ⟨rfl, hP, hK, hN⟩ := hv
  have hx := B.exec
  have hb := B.bytes
  have hr := B.returns
  have hts := atoms_spec (ws := wsX5_setWidth) B.pre
  have hown : s.vm.findClass RX5 = some m.cls := findClass_of_methodNamed B.named
  have hlocks := B.notSynchronized
  have w_1 := hts (.fieldLink RX5 10 "ScannedDigits" "now" "LScannedDigits$State;") (List.mem_of_getElem? (i := 1) rfl)
  have hiX5 : ∀ w ∈ wsX50, w ∈ wsX5_setWidth := fun w h => (goodIn_r wsX50 [77, 78, 79, 80, 81] (by decide +kernel) (by decide +kernel) w h).1
  have hl := lv_entry ([.ref (o 0), .int (nI d), .int y]) (n := 4) (Nat.le_of_ble_eq_true rfl)
  rw [lg_entry_eq]
  generalize (lg_sl ([.ref (o 0), .int (nI d), .int y]) ++ List.replicate (4 - (lg_sl ([.ref (o 0), .int (nI d), .int y])).length) Slot.unset).toArray = ls at hl ⊢
  have hl : lv_has ls 4 [(0, .ref (o 0)), (1, .int (nI d)), (2, .int y)] := hl
  have hd8 : d < 8 := Nat.lt_of_lt_of_le hd ok.n8
  refine lv_aload_n hx hb dX5_setWidth_0 rfl (lv_at hl 0 rfl) ?_
  refine va_get (D := D) (ci := 5) (v := .ref ((ad 8) 0)) (C := RX5) (T := TX5) (N := 5) hx hb hts hiX5 hown hK hP 29 (xw_get (i := 0) rfl) rfl 0 (by decide) w_1 (fun _ h9 => h9) rfl dX5_setWidth_1 ?_
  refine lv_iload_n hx hb dX5_setWidth_4 rfl (lv_at hl 1 rfl) ?_
  refine va_csq (va_runV (As := [.int (nI d)]) (rest := []) ⟨hx, hb, hml, hown, hts⟩ (k_X3_find_ok l D ct (ad 8) v ok d hd) (cwV 1 hts gX5_setWidth_X3_find rfl rfl rfl (by decide +kernel) ⟨Nat.le_of_ble_eq_true rfl, Nat.le_of_ble_eq_true rfl⟩) ⟨roP.blind, va_recv hK (pw_left hP) (ci := 3) (q0 := 0) rfl rfl, roP.at (pw_left hP) hK hN⟩ rfl rfl hl.1 rfl (lv_room (Nat.le_of_ble_eq_true rfl)) dX5_setWidth_5 ⟨Nat.le_of_ble_eq_true rfl, Nat.le_of_ble_eq_true rfl⟩).run (fun r_5 h_5 => ?_)
  obtain rfl : r_5 = some ((ad 8) (3 * d + 5)) := h_5
  have hg_5 : va_rf (some ((ad 8) (3 * d + 5))) = .ref ((ad 8) (3 * d + 5)) := rfl
  rw [hg_5]
  refine lv_astore_n (lv' := [(3, .ref ((ad 8) (3 * d + 5))), (0, .ref (o 0)), (1, .int (nI d)), (2, .int y)]) hx hb dX5_setWidth_8 rfl hl (by decide) rfl (fun ls hl => ?_)
  refine lv_aload_n hx hb dX5_setWidth_9 rfl (lv_at hl 0 rfl) ?_
  refine lv_ifnonnull (tgt := 15) hx hb dX5_setWidth_10 (by decide) ?_
  refine lv_iload_n hx hb dX5_setWidth_15 rfl (lv_at hl 3 rfl) ?_
  refine lv_iconst (v := 4) hx hb dX5_setWidth_16 (by decide) ?_
  refine lv_bipush (v := 40) hx hb dX5_setWidth_17 (by decide) ?_
  refine vp_callSi (va_runS (As := [.int y, .int 4, .int 40]) (rest := []) ⟨hx, hb, hml, hown, hts⟩ (k_X5_isWithin l D ct y 4 40) (va_cwS 3 hts gX5_setWidth_X5_isWithin rfl rfl rfl (by decide +kernel) ⟨Nat.le_of_ble_eq_true rfl, Nat.le_of_ble_eq_true rfl⟩) ⟨roP.blind, roP.at pw_nil hK hN⟩ rfl rfl hl.1 rfl (lv_room (Nat.le_of_ble_eq_true rfl)) dX5_setWidth_19 ⟨Nat.le_of_ble_eq_true rfl, Nat.le_of_ble_eq_true rfl⟩).run (fun r_19 h_19 => ?_)
  obtain rfl : r_19 = pIn y 4 40 := h_19
  refine lv_if_ne (tgt := 28) hx hb dX5_setWidth_22 (by decide) (fun c_22 => ?_) (fun c_22 => ?_)
  · exact absurd hin c_22
  · refine lv_bipush (v := (-2)) hx hb dX5_setWidth_25 (by decide) ?_
    exact W.iret (v := (-2)) hx hb hr (fun tt ht hW => ⟨(-2), rfl, rfl, ht⟩) (fun q hq => absurd hq List.not_mem_nil) dX5_setWidth_27
set_option maxHeartbeats 4000000 in
set_option maxRecDepth 100000 in
theorem k_X5_setWidth_ok (l : Launch) (D : va_G) (ct : Nat → ClassId) (sz : Nat) (o : Nat → Nat) (ad : Nat → Nat → Nat) (v z : SV) (w : Nat → SV) (n k : Nat) (hn : n < 5) (hk : k ≤ 5) (s0 s1 : SV) (i0 i1 : Int32) (t : Nat) (nd : Int32) (f g : Nat → Int32) (ok : Inv v) (d : Nat) (hd : d < nOf v) (y : Int32) (hin : ¬ pIn y 4 40 = 0) : Met l yX5_setWidth wsX5_setWidth ({ frames := 4, cells := 0, slots := 0, locals := 104 }) (muP D ct (stW ct (ad 8) v ++ xR ct o ad z w (nI n) (nI k) s0 s1 i0 i1 (nI t) nd f g) sz [.ref (o 0), .int (nI d), .int y]) (muI D ct (stW ct (ad 8) v ++ xR ct o ad z w (nI n) (nI k) s0 s1 i0 i1 (nI t) nd f g) (stW ct (ad 8) (pSW v d y) ++ xR ct o ad z (va_up w n v) (nI (nxt n)) (nI (kPush k)) s0 s1 i0 i1 (nI t) nd f g) sz (fun r => r = pLen (pSW v d y))) 0 0 (va_A (stW ct (ad 8) v ++ xR ct o ad z w (nI n) (nI k) s0 s1 i0 i1 (nI t) nd f g) sz) := by
  refine Met.ofW (cc := cX5_setWidth) (maxL := 4) (ret := (some .int)) (by decide) rfl ?_
  intro p e s m args below meth c s₁ B hml hv
  obtain ⟨rfl, hsz, hP, hK, hN, hD0⟩ := hv
  have hx := B.exec
  have hb := B.bytes
  have hr := B.returns
  have hts := atoms_spec (ws := wsX5_setWidth) B.pre
  have hown : s.vm.findClass RX5 = some m.cls := findClass_of_methodNamed B.named
  have hlocks := B.notSynchronized
  subst hsz
  have hD := hD0.self (sz := s.heap.size)
  generalize hAe : va_A (stW ct (ad 8) v ++ xR ct o ad z w (nI n) (nI k) s0 s1 i0 i1 (nI t) nd f g) s.heap.size = A at hD
  have hA : ∀ q : Nat, s.heap.size ≤ q → A q := fun q h => by rw [← hAe]; exact Or.inr h
  have hS : va_S A s.heap s.heap [] := va_S.rf
  have w_1 := hts (.fieldLink RX5 10 "ScannedDigits" "now" "LScannedDigits$State;") (List.mem_of_getElem? (i := 1) rfl)
  have w_2 := hts (.fieldLink RX5 22 "ScannedDigits" "history" "LScannedDigits$History;") (List.mem_of_getElem? (i := 2) rfl)
  have hiX5 : ∀ w ∈ wsX50, w ∈ wsX5_setWidth := fun w h => (goodIn_r wsX50 [77, 78, 79, 80, 81] (by decide +kernel) (by decide +kernel) w h).1
  have hl := lv_entry ([.ref (o 0), .int (nI d), .int y]) (n := 4) (Nat.le_of_ble_eq_true rfl)
  rw [lg_entry_eq]
  generalize (lg_sl ([.ref (o 0), .int (nI d), .int y]) ++ List.replicate (4 - (lg_sl ([.ref (o 0), .int (nI d), .int y])).length) Slot.unset).toArray = ls at hl ⊢
  have hl : lv_has ls 4 [(0, .ref (o 0)), (1, .int (nI d)), (2, .int y)] := hl
  have hd8 : d < 8 := Nat.lt_of_lt_of_le hd ok.n8
  refine lv_aload_n hx hb dX5_setWidth_0 rfl (lv_at hl 0 rfl) ?_
  refine va_get (D := D) (ci := 5) (v := .ref ((ad 8) 0)) (C := RX5) (T := TX5) (N := 5) hx hb hts hiX5 hown hK hP 29 (xw_get (i := 0) rfl) rfl 0 (by decide) w_1 (fun _ h9 => h9) rfl dX5_setWidth_1 ?_
  refine lv_iload_n hx hb dX5_setWidth_4 rfl (lv_at hl 1 rfl) ?_
  refine va_csq (va_runV (As := [.int (nI d)]) (rest := []) ⟨hx, hb, hml, hown, hts⟩ (k_X3_find_ok l D ct (ad 8) v ok d hd) (cwV 1 hts gX5_setWidth_X3_find rfl rfl rfl (by decide +kernel) ⟨Nat.le_of_ble_eq_true rfl, Nat.le_of_ble_eq_true rfl⟩) ⟨roP.blind, va_recv hK (pw_left hP) (ci := 3) (q0 := 0) rfl rfl, roP.at (pw_left hP) hK hN⟩ rfl rfl hl.1 rfl (lv_room (Nat.le_of_ble_eq_true rfl)) dX5_setWidth_5 ⟨Nat.le_of_ble_eq_true rfl, Nat.le_of_ble_eq_true rfl⟩).run (fun r_5 h_5 => ?_)
  obtain rfl : r_5 = some ((ad 8) (3 * d + 5)) := h_5
  have hg_5 : va_rf (some ((ad 8) (3 * d + 5))) = .ref ((ad 8) (3 * d + 5)) := rfl
  rw [hg_5]
  refine lv_astore_n (lv' := [(3, .ref ((ad 8) (3 * d + 5))), (0, .ref (o 0)), (1, .int (nI d)), (2, .int y)]) hx hb dX5_setWidth_8 rfl hl (by decide) rfl (fun ls hl => ?_)
  refine lv_aload_n hx hb dX5_setWidth_9 rfl (lv_at hl 0 rfl) ?_
  refine lv_ifnonnull (tgt := 15) hx hb dX5_setWidth_10 (by decide) ?_
  refine lv_iload_n hx hb dX5_setWidth_15 rfl (lv_at hl 3 rfl) ?_
  refine lv_iconst (v := 4) hx hb dX5_setWidth_16 (by decide) ?_
  refine lv_bipush (v := 40) hx hb dX5_setWidth_17 (by decide) ?_
  refine vp_callSi (va_runS (As := [.int y, .int 4, .int 40]) (rest := []) ⟨hx, hb, hml, hown, hts⟩ (k_X5_isWithin l D ct y 4 40) (va_cwS 3 hts gX5_setWidth_X5_isWithin rfl rfl rfl (by decide +kernel) ⟨Nat.le_of_ble_eq_true rfl, Nat.le_of_ble_eq_true rfl⟩) ⟨roP.blind, roP.at pw_nil hK hN⟩ rfl rfl hl.1 rfl (lv_room (Nat.le_of_ble_eq_true rfl)) dX5_setWidth_19 ⟨Nat.le_of_ble_eq_true rfl, Nat.le_of_ble_eq_true rfl⟩).run (fun r_19 h_19 => ?_)
  obtain rfl : r_19 = pIn y 4 40 := h_19
  refine lv_if_ne (tgt := 28) hx hb dX5_setWidth_22 (by decide) (fun c_22 => ?_) (fun c_22 => ?_)
  · refine lv_aload_n hx hb dX5_setWidth_28 rfl (lv_at hl 1 rfl) ?_
    refine va_get (D := D) (ci := 5) (v := .ref (o 7)) (C := RX5) (T := TX5) (N := 5) hx hb hts hiX5 hown hK hP 29 (xw_get (i := 0) rfl) rfl 2 (by decide) w_2 (fun _ h9 => h9) rfl dX5_setWidth_29 ?_
    refine lv_aload_n hx hb dX5_setWidth_32 rfl (lv_at hl 1 rfl) ?_
    refine va_get (D := D) (ci := 5) (v := .ref ((ad 8) 0)) (C := RX5) (T := TX5) (N := 5) hx hb hts hiX5 hown hK hP 29 (xw_get (i := 0) rfl) rfl 0 (by decide) w_1 (fun _ h9 => h9) rfl dX5_setWidth_33 ?_
    have hFc_36 := w_free (wc := hsW ct (o 7) (o 8) ad (nI n) (nI k) w (ad 8) v) hD (xw_h) hS hA
    refine va_callv (va_runV (As := [.ref ((ad 8) 0)]) (rest := []) ⟨hx, hb, hml, hown, hts⟩ (k_X1_record l D ct _ (o 7) (o 8) ad n k hn w (ad 8) v hk) (cwV 1 hts gX5_setWidth_X1_record rfl rfl rfl (by decide +kernel) ⟨Nat.le_of_ble_eq_true rfl, Nat.le_of_ble_eq_true rfl⟩) ⟨muP.blind, va_recv hK (pw_cut xw_h hP) (ci := 1) (q0 := 0) rfl rfl, muP.at (pw_cut xw_h hP) (dw_cut xw_h hD) hK hN⟩ rfl rfl hl.1 rfl (lv_room (Nat.le_of_ble_eq_true rfl)) dX5_setWidth_36 ⟨Nat.le_of_ble_eq_true rfl, Nat.le_of_ble_eq_true rfl⟩) hS (fun q _ h => hFc_36 q h) hFc_36 (fun uu tt H1 locs ht hvm hw hB hz1 hk1 hS => ?_)
    obtain ⟨hP, hD⟩ := muE.join (ws' := stW ct (ad 8) v ++ xR ct o ad z (va_up w n v) (nI (nxt n)) (nI (kPush k)) s0 s1 i0 i1 (nI t) nd f g) hP hD (xw_h) (xw_h) hk1 hFc_36 ht hB
    generalize H1 = H at hP hS ⊢
    refine lv_aload_n hx hb dX5_setWidth_39 rfl (lv_at hl 1 rfl) ?_
    refine va_get (D := D) (ci := 5) (v := .ref ((ad 8) 0)) (C := RX5) (T := TX5) (N := 5) hx hb hts hiX5 hown hK hP 29 (xw_get (i := 0) rfl) rfl 0 (by decide) w_1 (fun _ h9 => h9) rfl dX5_setWidth_40 ?_
    refine lv_aload_n hx hb dX5_setWidth_43 rfl (lv_at hl 0 rfl) ?_
    refine lv_iload_n hx hb dX5_setWidth_44 rfl (lv_at hl 3 rfl) ?_
    have hFc_45 := w_free (wc := stW ct (ad 8) v) hD ((List.Perm.refl _)) hS hA
    refine va_callv (va_runV (As := [.ref ((ad 8) (3 * d + 5)), .int y]) (rest := []) ⟨hx, hb, hml, hown, hts⟩ (k_X3_changeWidth l D ct _ (ad 8) v d hd8 y) (cwV 2 hts gX5_setWidth_X3_changeWidth rfl rfl rfl (by decide +kernel) ⟨Nat.le_of_ble_eq_true rfl, Nat.le_of_ble_eq_true rfl⟩) ⟨muP.blind, va_recv hK (pw_left hP) (ci := 3) (q0 := 0) rfl rfl, muP.at (pw_left hP) (dw_left hD) hK hN⟩ rfl rfl hl.1 rfl (lv_room (Nat.le_of_ble_eq_true rfl)) dX5_setWidth_45 ⟨Nat.le_of_ble_eq_true rfl, Nat.le_of_ble_eq_true rfl⟩) hS (fun q _ h => hFc_45 q h) hFc_45 (fun uu tt H1 locs ht hvm hw hB hz1 hk1 hS => ?_)
    obtain ⟨hP, hD⟩ := muE.join (ws' := stW ct (ad 8) (pSW v d y) ++ xR ct o ad z (va_up w n v) (nI (nxt n)) (nI (kPush k)) s0 s1 i0 i1 (nI t) nd f g) hP hD ((List.Perm.refl _)) ((List.Perm.refl _)) hk1 hFc_45 ht hB
    generalize H1 = H at hP hS ⊢
    refine lv_aload_n hx hb dX5_setWidth_48 rfl (lv_at hl 1 rfl) ?_
    refine va_get (D := D) (ci := 5) (v := .ref ((ad 8) 0)) (C := RX5) (T := TX5) (N := 5) hx hb hts hiX5 hown hK hP 29 (xw_get (i := 0) rfl) rfl 0 (by decide) w_1 (fun _ h9 => h9) rfl dX5_setWidth_49 ?_
    refine vp_callSi (va_runV (As := []) (rest := []) ⟨hx, hb, hml, hown, hts⟩ (k_X3_frameLength l D ct (ad 8) (pSW v d y) (by rw [(pSW_n v d y).1]; exact ok.n8) (by rw [(pSW_n v d y).1, (pSW_n v d y).2]; exact ok.cnt)) (cwV 0 hts gX5_setWidth_X3_frameLength rfl rfl rfl (by decide +kernel) ⟨Nat.le_of_ble_eq_true rfl, Nat.le_of_ble_eq_true rfl⟩) ⟨roP.blind, va_recv hK (pw_left hP) (ci := 3) (q0 := 0) rfl rfl, roP.at (pw_left hP) hK hN⟩ rfl rfl hl.1 rfl (lv_room (Nat.le_of_ble_eq_true rfl)) dX5_setWidth_52 ⟨Nat.le_of_ble_eq_true rfl, Nat.le_of_ble_eq_true rfl⟩).run (fun r_52 h_52 => ?_)
    obtain rfl : r_52 = pLen (pSW v d y) := h_52
    have hP9 : va_P D vwCl (stW ct (ad 8) (pSW v d y) ++ xR ct o ad z (va_up w n v) (nI (nxt n)) (nI (kPush k)) s0 s1 i0 i1 (nI t) nd f g) _ := hP
    have hD9 : va_D A (stW ct (ad 8) (pSW v d y) ++ xR ct o ad z (va_up w n v) (nI (nxt n)) (nI (kPush k)) s0 s1 i0 i1 (nI t) nd f g) := hD
    subst hAe
    exact W.iret (v := (pLen (pSW v d y))) hx hb hr (fun tt ht hW => ⟨⟨(pLen (pSW v d y)), (), rfl, rfl, muE.of (ct := ct) hP9 hD9 ht⟩, hS.F ht⟩) hS.2.2 dX5_setWidth_55
  · exact absurd c_22 hin
