set_option maxHeartbeats 4000000 in
set_option maxRecDepth 100000 in
theorem k_X5_setDigits_e2 (l : Launch) (D : va_G) (ct : Nat → ClassId) (o : Nat → Nat) (ad : Nat → Nat → Nat) (v z : SV) (w : Nat → SV) (n k : Nat) (hn : n < 5) (hk : k ≤ 5) (s0 s1 : SV) (i0 i1 : Int32) (t : Nat) (nd : Int32) (f g : Nat → Int32) (y : Int32) (hin : pIn y 1 8 = 0) : Met l yX5_setDigits wsX5_setDigits ({ frames := 4, cells := 0, slots := 0, locals := 104 }) (roP D ct (stW ct (ad 8) v ++ xR ct o ad z w (nI n) (nI k) s0 s1 i0 i1 (nI t) nd f g) [.ref (o 0), .int y]) (vp_Si (fun r => r = -2)) 0 0 noA := by
  refine Met.ofW (cc := cX5_setDigits) (maxL := 3) (ret := (some .int)) (by decide) rfl ?_
  intro p e s m args below meth c s₁ B hml hv
  obtain ⟨rfl, hP, hK, hN⟩ := hv
  have hx := B.exec
  have hb := B.bytes
  have hr := B.returns
  have hts := atoms_spec (ws := wsX5_setDigits) B.pre
  have hown : s.vm.findClass RX5 = some m.cls := findClass_of_methodNamed B.named
  have hlocks := B.notSynchronized
  have hl := lv_entry ([.ref (o 0), .int y]) (n := 3) (Nat.le_of_ble_eq_true rfl)
  rw [lg_entry_eq]
  generalize (lg_sl ([.ref (o 0), .int y]) ++ List.replicate (3 - (lg_sl ([.ref (o 0), .int y])).length) Slot.unset).toArray = ls at hl ⊢
  have hl : lv_has ls 3 [(0, .ref (o 0)), (1, .int y)] := hl
  refine lv_iload_n hx hb dX5_setDigits_0 rfl (lv_at hl 1 rfl) ?_
  refine lv_iconst (v := 1) hx hb dX5_setDigits_1 (by decide) ?_
  refine lv_bipush (v := 8) hx hb dX5_setDigits_2 (by decide) ?_
  refine vp_callSi (va_runS (As := [.int y, .int 1, .int 8]) (rest := []) ⟨hx, hb, hml, hown, hts⟩ (k_X5_isWithin l D ct y 1 8) (va_cwS 3 hts gX5_setDigits_X5_isWithin rfl rfl rfl (by decide +kernel) ⟨Nat.le_of_ble_eq_true rfl, Nat.le_of_ble_eq_true rfl⟩) ⟨roP.blind, roP.at pw_nil hK hN⟩ rfl rfl hl.1 rfl (lv_room (Nat.le_of_ble_eq_true rfl)) dX5_setDigits_4 ⟨Nat.le_of_ble_eq_true rfl, Nat.le_of_ble_eq_true rfl⟩).run (fun r_4 h_4 => ?_)
  obtain rfl : r_4 = pIn y 1 8 := h_4
  refine lv_if_ne (tgt := 13) hx hb dX5_setDigits_7 (by decide) (fun c_7 => ?_) (fun c_7 => ?_)
  · exact absurd hin c_7
  · refine lv_bipush (v := (-2)) hx hb dX5_setDigits_10 (by decide) ?_
    exact W.iret (v := (-2)) hx hb hr (fun tt ht hW => ⟨(-2), rfl, rfl, ht⟩) (fun q hq => absurd hq List.not_mem_nil) dX5_setDigits_12
set_option maxHeartbeats 4000000 in
set_option maxRecDepth 100000 in
theorem k_X5_setDigits_ok (l : Launch) (D : va_G) (ct : Nat → ClassId) (sz : Nat) (o : Nat → Nat) (ad : Nat → Nat → Nat) (v z : SV) (w : Nat → SV) (n k : Nat) (hn : n < 5) (hk : k ≤ 5) (s0 s1 : SV) (i0 i1 : Int32) (t : Nat) (nd : Int32) (f g : Nat → Int32) (ok : Inv v) (N : Nat) (h1 : 1 ≤ N) (h8 : N ≤ 8) : Met l yX5_setDigits wsX5_setDigits ({ frames := 4, cells := 0, slots := 0, locals := 104 }) (muP D ct (stW ct (ad 8) v ++ xR ct o ad z w (nI n) (nI k) s0 s1 i0 i1 (nI t) nd f g) sz [.ref (o 0), .int (nI N)]) (muI D ct (stW ct (ad 8) v ++ xR ct o ad z w (nI n) (nI k) s0 s1 i0 i1 (nI t) nd f g) (stW ct (ad 8) (pSD v N) ++ xR ct o ad z (va_up w n v) (nI (nxt n)) (nI (kPush k)) s0 s1 i0 i1 (nI t) nd f g) sz (fun r => r = nI (nOf v))) 0 0 (va_A (stW ct (ad 8) v ++ xR ct o ad z w (nI n) (nI k) s0 s1 i0 i1 (nI t) nd f g) sz) := by
  refine Met.ofW (cc := cX5_setDigits) (maxL := 3) (ret := (some .int)) (by decide) rfl ?_
  intro p e s m args below meth c s₁ B hml hv
  obtain ⟨rfl, hsz, hP, hK, hN, hD0⟩ := hv
  have hx := B.exec
  have hb := B.bytes
  have hr := B.returns
  have hts := atoms_spec (ws := wsX5_setDigits) B.pre
  have hown : s.vm.findClass RX5 = some m.cls := findClass_of_methodNamed B.named
  have hlocks := B.notSynchronized
  subst hsz
  have hD := hD0.self (sz := s.heap.size)
  generalize hAe : va_A (stW ct (ad 8) v ++ xR ct o ad z w (nI n) (nI k) s0 s1 i0 i1 (nI t) nd f g) s.heap.size = A at hD
  have hA : ∀ q : Nat, s.heap.size ≤ q → A q := fun q h => by rw [← hAe]; exact Or.inr h
  have hS : va_S A s.heap s.heap [] := va_S.rf
  have w_1 := hts (.fieldLink RX5 22 "ScannedDigits" "history" "LScannedDigits$History;") (List.mem_of_getElem? (i := 1) rfl)
  have w_2 := hts (.fieldLink RX5 10 "ScannedDigits" "now" "LScannedDigits$State;") (List.mem_of_getElem? (i := 2) rfl)
  have w_3 := hts (.fieldLink RX5 48 "ScannedDigits$State" "digitCount" "I") (List.mem_of_getElem? (i := 3) rfl)
  have hiX5 : ∀ w ∈ wsX50, w ∈ wsX5_setDigits := fun w h => (goodIn_r wsX50 [73, 74, 75, 76, 77] (by decide +kernel) (by decide +kernel) w h).1
  have hiX3 : ∀ w ∈ wsX30, w ∈ wsX5_setDigits := fun w h => (goodIn_r wsX30 [78, 79, 80, 81, 82, 83, 84, 85, 86, 87, 88, 89, 90] (by decide +kernel) (by decide +kernel) w h).1
  have hl := lv_entry ([.ref (o 0), .int (nI N)]) (n := 3) (Nat.le_of_ble_eq_true rfl)
  rw [lg_entry_eq]
  generalize (lg_sl ([.ref (o 0), .int (nI N)]) ++ List.replicate (3 - (lg_sl ([.ref (o 0), .int (nI N)])).length) Slot.unset).toArray = ls at hl ⊢
  have hl : lv_has ls 3 [(0, .ref (o 0)), (1, .int (nI N))] := hl
  have hin : ¬ pIn (nI N) 1 8 = 0 := pIn_ok (a := 1) (b := 8) rfl rfl h1 h8 (by decide)
  refine lv_iload_n hx hb dX5_setDigits_0 rfl (lv_at hl 1 rfl) ?_
  refine lv_iconst (v := 1) hx hb dX5_setDigits_1 (by decide) ?_
  refine lv_bipush (v := 8) hx hb dX5_setDigits_2 (by decide) ?_
  refine vp_callSi (va_runS (As := [.int (nI N), .int 1, .int 8]) (rest := []) ⟨hx, hb, hml, hown, hts⟩ (k_X5_isWithin l D ct (nI N) 1 8) (va_cwS 3 hts gX5_setDigits_X5_isWithin rfl rfl rfl (by decide +kernel) ⟨Nat.le_of_ble_eq_true rfl, Nat.le_of_ble_eq_true rfl⟩) ⟨roP.blind, roP.at pw_nil hK hN⟩ rfl rfl hl.1 rfl (lv_room (Nat.le_of_ble_eq_true rfl)) dX5_setDigits_4 ⟨Nat.le_of_ble_eq_true rfl, Nat.le_of_ble_eq_true rfl⟩).run (fun r_4 h_4 => ?_)
  obtain rfl : r_4 = pIn (nI N) 1 8 := h_4
  refine lv_if_ne (tgt := 13) hx hb dX5_setDigits_7 (by decide) (fun c_7 => ?_) (fun c_7 => ?_)
  · refine lv_aload_n hx hb dX5_setDigits_13 rfl (lv_at hl 0 rfl) ?_
    refine va_get (D := D) (ci := 5) (v := .ref (o 7)) (C := RX5) (T := TX5) (N := 5) hx hb hts hiX5 hown hK hP 29 (xw_get (i := 0) rfl) rfl 2 (by decide) w_1 (fun _ h9 => h9) rfl dX5_setDigits_14 ?_
    refine lv_aload_n hx hb dX5_setDigits_17 rfl (lv_at hl 0 rfl) ?_
    refine va_get (D := D) (ci := 5) (v := .ref ((ad 8) 0)) (C := RX5) (T := TX5) (N := 5) hx hb hts hiX5 hown hK hP 29 (xw_get (i := 0) rfl) rfl 0 (by decide) w_2 (fun _ h9 => h9) rfl dX5_setDigits_18 ?_
    have hFc_21 := w_free (wc := hsW ct (o 7) (o 8) ad (nI n) (nI k) w (ad 8) v) hD (xw_h) hS hA
    refine va_callv (va_runV (As := [.ref ((ad 8) 0)]) (rest := []) ⟨hx, hb, hml, hown, hts⟩ (k_X1_record l D ct _ (o 7) (o 8) ad n k hn w (ad 8) v hk) (cwV 1 hts gX5_setDigits_X1_record rfl rfl rfl (by decide +kernel) ⟨Nat.le_of_ble_eq_true rfl, Nat.le_of_ble_eq_true rfl⟩) ⟨muP.blind, va_recv hK (pw_cut xw_h hP) (ci := 1) (q0 := 0) rfl rfl, muP.at (pw_cut xw_h hP) (dw_cut xw_h hD) hK hN⟩ rfl rfl hl.1 rfl (lv_room (Nat.le_of_ble_eq_true rfl)) dX5_setDigits_21 ⟨Nat.le_of_ble_eq_true rfl, Nat.le_of_ble_eq_true rfl⟩) hS (fun q _ h => hFc_21 q h) hFc_21 (fun uu tt H1 locs ht hvm hw hB hz1 hk1 hS => ?_)
    obtain ⟨hP, hD⟩ := muE.join (ws' := stW ct (ad 8) v ++ xR ct o ad z (va_up w n v) (nI (nxt n)) (nI (kPush k)) s0 s1 i0 i1 (nI t) nd f g) hP hD (xw_h) (xw_h) hk1 hFc_21 ht hB
    generalize H1 = H at hP hS ⊢
    refine lv_aload_n hx hb dX5_setDigits_24 rfl (lv_at hl 0 rfl) ?_
    refine va_get (D := D) (ci := 5) (v := .ref ((ad 8) 0)) (C := RX5) (T := TX5) (N := 5) hx hb hts hiX5 hown hK hP 29 (xw_get (i := 0) rfl) rfl 0 (by decide) w_2 (fun _ h9 => h9) rfl dX5_setDigits_25 ?_
    refine va_get (D := D) (ci := 3) (v := .int (v.1 0 0)) (C := RX3) (T := TX3) (N := 13) hx hb hts hiX3 hown hK hP 0 sa_c0 rfl 1 (by decide) w_3 (fun _ h9 => h9) rfl dX5_setDigits_28 ?_
    refine lv_as (y := nI (nOf v)) (ok.cnt) ?_
    refine lv_istore_n (lv' := [(2, .int (nI (nOf v))), (0, .ref (o 0)), (1, .int (nI N))]) hx hb dX5_setDigits_31 rfl hl (by decide) rfl (fun ls hl => ?_)
    refine lv_aload_n hx hb dX5_setDigits_32 rfl (lv_at hl 1 rfl) ?_
    refine va_get (D := D) (ci := 5) (v := .ref ((ad 8) 0)) (C := RX5) (T := TX5) (N := 5) hx hb hts hiX5 hown hK hP 29 (xw_get (i := 0) rfl) rfl 0 (by decide) w_2 (fun _ h9 => h9) rfl dX5_setDigits_33 ?_
    refine lv_iload_n hx hb dX5_setDigits_36 rfl (lv_at hl 2 rfl) ?_
    have hFc_37 := w_free (wc := stW ct (ad 8) v) hD ((List.Perm.refl _)) hS hA
    refine va_callv (va_runV (As := [.int (nI N)]) (rest := []) ⟨hx, hb, hml, hown, hts⟩ (k_X3_changeDigitCount l D ct _ (ad 8) v ok N h1 h8) (cwV 1 hts gX5_setDigits_X3_changeDigitCount rfl rfl rfl (by decide +kernel) ⟨Nat.le_of_ble_eq_true rfl, Nat.le_of_ble_eq_true rfl⟩) ⟨muP.blind, va_recv hK (pw_left hP) (ci := 3) (q0 := 0) rfl rfl, muP.at (pw_left hP) (dw_left hD) hK hN⟩ rfl rfl hl.1 rfl (lv_room (Nat.le_of_ble_eq_true rfl)) dX5_setDigits_37 ⟨Nat.le_of_ble_eq_true rfl, Nat.le_of_ble_eq_true rfl⟩) hS (fun q _ h => hFc_37 q h) hFc_37 (fun uu tt H1 locs ht hvm hw hB hz1 hk1 hS => ?_)
    obtain ⟨hP, hD⟩ := muE.join (ws' := stW ct (ad 8) (pSD v N) ++ xR ct o ad z (va_up w n v) (nI (nxt n)) (nI (kPush k)) s0 s1 i0 i1 (nI t) nd f g) hP hD ((List.Perm.refl _)) ((List.Perm.refl _)) hk1 hFc_37 ht hB
    generalize H1 = H at hP hS ⊢
    refine lv_iload_n hx hb dX5_setDigits_40 rfl (lv_at hl 0 rfl) ?_
    have hP9 : va_P D vwCl (stW ct (ad 8) (pSD v N) ++ xR ct o ad z (va_up w n v) (nI (nxt n)) (nI (kPush k)) s0 s1 i0 i1 (nI t) nd f g) _ := hP
    have hD9 : va_D A (stW ct (ad 8) (pSD v N) ++ xR ct o ad z (va_up w n v) (nI (nxt n)) (nI (kPush k)) s0 s1 i0 i1 (nI t) nd f g) := hD
    subst hAe
    exact W.iret (v := (nI (nOf v))) hx hb hr (fun tt ht hW => ⟨⟨(nI (nOf v)), (), rfl, rfl, muE.of (ct := ct) hP9 hD9 ht⟩, hS.F ht⟩) hS.2.2 dX5_setDigits_41
  · exact absurd c_7 hin
set_option maxHeartbeats 4000000 in
set_option maxRecDepth 100000 in
theorem k_X5_test_e2 (l : Launch) (D : va_G) (ct : Nat → ClassId) (o : Nat → Nat) (ad : Nat → Nat → Nat) (v z : SV) (w : Nat → SV) (n k : Nat) (hn : n < 5) (hk : k ≤ 5) (s0 s1 : SV) (i0 i1 : Int32) (t : Nat) (nd : Int32) (f g : Nat → Int32) (y : Int32) (hin : pIn y 0 50 = 0) : Met l yX5_test wsX5_test ({ frames := 4, cells := 0, slots := 0, locals := 104 }) (roP D ct (stW ct (ad 8) v ++ xR ct o ad z w (nI n) (nI k) s0 s1 i0 i1 (nI t) nd f g) [.ref (o 0), .int y]) (vp_Si (fun r => r = -2)) 0 0 noA := by
  refine Met.ofW (cc := cX5_test) (maxL := 3) (ret := (some .int)) (by decide) rfl ?_
  intro p e s m args below meth c s₁ B hml hv
  obtain ⟨rfl, hP, hK, hN⟩ := hv
  have hx := B.exec
  have hb := B.bytes
  have hr := B.returns
  have hts := atoms_spec (ws := wsX5_test) B.pre
  have hown : s.vm.findClass RX5 = some m.cls := findClass_of_methodNamed B.named
  have hlocks := B.notSynchronized
  have hl := lv_entry ([.ref (o 0), .int y]) (n := 3) (Nat.le_of_ble_eq_true rfl)
  rw [lg_entry_eq]
  generalize (lg_sl ([.ref (o 0), .int y]) ++ List.replicate (3 - (lg_sl ([.ref (o 0), .int y])).length) Slot.unset).toArray = ls at hl ⊢
  have hl : lv_has ls 3 [(0, .ref (o 0)), (1, .int y)] := hl
  refine lv_iload_n hx hb dX5_test_0 rfl (lv_at hl 1 rfl) ?_
  refine lv_iconst (v := 0) hx hb dX5_test_1 (by decide) ?_
  refine lv_bipush (v := 50) hx hb dX5_test_2 (by decide) ?_
  refine vp_callSi (va_runS (As := [.int y, .int 0, .int 50]) (rest := []) ⟨hx, hb, hml, hown, hts⟩ (k_X5_isWithin l D ct y 0 50) (va_cwS 3 hts gX5_test_X5_isWithin rfl rfl rfl (by decide +kernel) ⟨Nat.le_of_ble_eq_true rfl, Nat.le_of_ble_eq_true rfl⟩) ⟨roP.blind, roP.at pw_nil hK hN⟩ rfl rfl hl.1 rfl (lv_room (Nat.le_of_ble_eq_true rfl)) dX5_test_4 ⟨Nat.le_of_ble_eq_true rfl, Nat.le_of_ble_eq_true rfl⟩).run (fun r_4 h_4 => ?_)
  obtain rfl : r_4 = pIn y 0 50 := h_4
  refine lv_if_ne (tgt := 13) hx hb dX5_test_7 (by decide) (fun c_7 => ?_) (fun c_7 => ?_)
  · exact absurd hin c_7
  · refine lv_bipush (v := (-2)) hx hb dX5_test_10 (by decide) ?_
    exact W.iret (v := (-2)) hx hb hr (fun tt ht hW => ⟨(-2), rfl, rfl, ht⟩) (fun q hq => absurd hq List.not_mem_nil) dX5_test_12
set_option maxHeartbeats 4000000 in
set_option maxRecDepth 100000 in
theorem k_X5_test_ok (l : Launch) (D : va_G) (ct : Nat → ClassId) (sz : Nat) (o : Nat → Nat) (ad : Nat → Nat → Nat) (v z : SV) (w : Nat → SV) (n k : Nat) (hn : n < 5) (hk : k ≤ 5) (s0 s1 : SV) (i0 i1 : Int32) (t : Nat) (nd : Int32) (f g : Nat → Int32) (y : Int32) (hin : ¬ pIn y 0 50 = 0) : Met l yX5_test wsX5_test ({ frames := 4, cells := 0, slots := 0, locals := 104 }) (muP D ct (stW ct (ad 8) v ++ xR ct o ad z w (nI n) (nI k) s0 s1 i0 i1 (nI t) nd f g) sz [.ref (o 0), .int y]) (muI D ct (stW ct (ad 8) v ++ xR ct o ad z w (nI n) (nI k) s0 s1 i0 i1 (nI t) nd f g) (stW ct (ad 8) (sC v 0 (upd (v.1 0) 4 y)) ++ xR ct o ad z (va_up w n v) (nI (nxt n)) (nI (kPush k)) s0 s1 i0 i1 (nI t) nd f g) sz (fun r => r = v.1 0 4)) 0 0 (va_A (stW ct (ad 8) v ++ xR ct o ad z w (nI n) (nI k) s0 s1 i0 i1 (nI t) nd f g) sz) := by
  refine Met.ofW (cc := cX5_test) (maxL := 3) (ret := (some .int)) (by decide) rfl ?_
  intro p e s m args below meth c s₁ B hml hv
  obtain ⟨rfl, hsz, hP, hK, hN, hD0⟩ := hv
  have hx := B.exec
  have hb := B.bytes
  have hr := B.returns
  have hts := atoms_spec (ws := wsX5_test) B.pre
  have hown : s.vm.findClass RX5 = some m.cls := findClass_of_methodNamed B.named
  have hlocks := B.notSynchronized
  subst hsz
  have hD := hD0.self (sz := s.heap.size)
  generalize hAe : va_A (stW ct (ad 8) v ++ xR ct o ad z w (nI n) (nI k) s0 s1 i0 i1 (nI t) nd f g) s.heap.size = A at hD
  have hA : ∀ q : Nat, s.heap.size ≤ q → A q := fun q h => by rw [← hAe]; exact Or.inr h
  have hS : va_S A s.heap s.heap [] := va_S.rf
  have w_1 := hts (.fieldLink RX5 22 "ScannedDigits" "history" "LScannedDigits$History;") (List.mem_of_getElem? (i := 1) rfl)
  have w_2 := hts (.fieldLink RX5 10 "ScannedDigits" "now" "LScannedDigits$State;") (List.mem_of_getElem? (i := 2) rfl)
  have w_3 := hts (.fieldLink RX5 116 "ScannedDigits$State" "testFrames" "I") (List.mem_of_getElem? (i := 3) rfl)
  have hiX5 : ∀ w ∈ wsX50, w ∈ wsX5_test := fun w h => (goodIn_r wsX50 [57, 58, 59, 60, 61] (by decide +kernel) (by decide +kernel) w h).1
  have hiX3 : ∀ w ∈ wsX30, w ∈ wsX5_test := fun w h => (goodIn_r wsX30 [62, 63, 64, 65, 66, 67, 68, 69, 70, 71, 72, 73, 74] (by decide +kernel) (by decide +kernel) w h).1
  have hl := lv_entry ([.ref (o 0), .int y]) (n := 3) (Nat.le_of_ble_eq_true rfl)
  rw [lg_entry_eq]
  generalize (lg_sl ([.ref (o 0), .int y]) ++ List.replicate (3 - (lg_sl ([.ref (o 0), .int y])).length) Slot.unset).toArray = ls at hl ⊢
  have hl : lv_has ls 3 [(0, .ref (o 0)), (1, .int y)] := hl
  refine lv_iload_n hx hb dX5_test_0 rfl (lv_at hl 1 rfl) ?_
  refine lv_iconst (v := 0) hx hb dX5_test_1 (by decide) ?_
  refine lv_bipush (v := 50) hx hb dX5_test_2 (by decide) ?_
  refine vp_callSi (va_runS (As := [.int y, .int 0, .int 50]) (rest := []) ⟨hx, hb, hml, hown, hts⟩ (k_X5_isWithin l D ct y 0 50) (va_cwS 3 hts gX5_test_X5_isWithin rfl rfl rfl (by decide +kernel) ⟨Nat.le_of_ble_eq_true rfl, Nat.le_of_ble_eq_true rfl⟩) ⟨roP.blind, roP.at pw_nil hK hN⟩ rfl rfl hl.1 rfl (lv_room (Nat.le_of_ble_eq_true rfl)) dX5_test_4 ⟨Nat.le_of_ble_eq_true rfl, Nat.le_of_ble_eq_true rfl⟩).run (fun r_4 h_4 => ?_)
  obtain rfl : r_4 = pIn y 0 50 := h_4
  refine lv_if_ne (tgt := 13) hx hb dX5_test_7 (by decide) (fun c_7 => ?_) (fun c_7 => ?_)
  · refine lv_aload_n hx hb dX5_test_13 rfl (lv_at hl 0 rfl) ?_
    refine va_get (D := D) (ci := 5) (v := .ref (o 7)) (C := RX5) (T := TX5) (N := 5) hx hb hts hiX5 hown hK hP 29 (xw_get (i := 0) rfl) rfl 2 (by decide) w_1 (fun _ h9 => h9) rfl dX5_test_14 ?_
    refine lv_aload_n hx hb dX5_test_17 rfl (lv_at hl 0 rfl) ?_
    refine va_get (D := D) (ci := 5) (v := .ref ((ad 8) 0)) (C := RX5) (T := TX5) (N := 5) hx hb hts hiX5 hown hK hP 29 (xw_get (i := 0) rfl) rfl 0 (by decide) w_2 (fun _ h9 => h9) rfl dX5_test_18 ?_
    have hFc_21 := w_free (wc := hsW ct (o 7) (o 8) ad (nI n) (nI k) w (ad 8) v) hD (xw_h) hS hA
    refine va_callv (va_runV (As := [.ref ((ad 8) 0)]) (rest := []) ⟨hx, hb, hml, hown, hts⟩ (k_X1_record l D ct _ (o 7) (o 8) ad n k hn w (ad 8) v hk) (cwV 1 hts gX5_test_X1_record rfl rfl rfl (by decide +kernel) ⟨Nat.le_of_ble_eq_true rfl, Nat.le_of_ble_eq_true rfl⟩) ⟨muP.blind, va_recv hK (pw_cut xw_h hP) (ci := 1) (q0 := 0) rfl rfl, muP.at (pw_cut xw_h hP) (dw_cut xw_h hD) hK hN⟩ rfl rfl hl.1 rfl (lv_room (Nat.le_of_ble_eq_true rfl)) dX5_test_21 ⟨Nat.le_of_ble_eq_true rfl, Nat.le_of_ble_eq_true rfl⟩) hS (fun q _ h => hFc_21 q h) hFc_21 (fun uu tt H1 locs ht hvm hw hB hz1 hk1 hS => ?_)
    obtain ⟨hP, hD⟩ := muE.join (ws' := stW ct (ad 8) v ++ xR ct o ad z (va_up w n v) (nI (nxt n)) (nI (kPush k)) s0 s1 i0 i1 (nI t) nd f g) hP hD (xw_h) (xw_h) hk1 hFc_21 ht hB
    generalize H1 = H at hP hS ⊢
    refine lv_aload_n hx hb dX5_test_24 rfl (lv_at hl 0 rfl) ?_
    refine va_get (D := D) (ci := 5) (v := .ref ((ad 8) 0)) (C := RX5) (T := TX5) (N := 5) hx hb hts hiX5 hown hK hP 29 (xw_get (i := 0) rfl) rfl 0 (by decide) w_2 (fun _ h9 => h9) rfl dX5_test_25 ?_
    refine va_get (D := D) (ci := 3) (v := .int (v.1 0 4)) (C := RX3) (T := TX3) (N := 13) hx hb hts hiX3 hown hK hP 0 sa_c0 rfl 8 (by decide) w_3 (fun _ h9 => h9) rfl dX5_test_28 ?_
    refine lv_istore_n (lv' := [(2, .int (v.1 0 4)), (0, .ref (o 0)), (1, .int y)]) hx hb dX5_test_31 rfl hl (by decide) rfl (fun ls hl => ?_)
    refine lv_aload_n hx hb dX5_test_32 rfl (lv_at hl 1 rfl) ?_
    refine va_get (D := D) (ci := 5) (v := .ref ((ad 8) 0)) (C := RX5) (T := TX5) (N := 5) hx hb hts hiX5 hown hK hP 29 (xw_get (i := 0) rfl) rfl 0 (by decide) w_2 (fun _ h9 => h9) rfl dX5_test_33 ?_
    refine lv_iload_n hx hb dX5_test_36 rfl (lv_at hl 2 rfl) ?_
    refine va_put (D := D) (ci := 3) (v := .int y) (ty := .int) (C := RX3) (T := TX3) (N := 13) hx hb hts hiX3 tyX3 tyX3_ok nmX3 hown hK hP hD hS 0 sa_c0 rfl 8 (by decide) w_3 (fun _ h9 => h9) rfl (by decide +kernel) rfl rfl (Nat.le_of_ble_eq_true rfl) dX5_test_37 (fun H locs hP hD hS => ?_)
    have hP : va_P D vwCl (stW ct (ad 8) (sC v 0 (upd (v.1 0) 4 y)) ++ xR ct o ad z (va_up w n v) (nI (nxt n)) (nI (kPush k)) s0 s1 i0 i1 (nI t) nd f g) H := sa_p0 (upd (v.1 0) 4 y) hP
    have hD : va_D A (stW ct (ad 8) (sC v 0 (upd (v.1 0) 4 y)) ++ xR ct o ad z (va_up w n v) (nI (nxt n)) (nI (kPush k)) s0 s1 i0 i1 (nI t) nd f g) := sa_dset (by decide) hD
    refine lv_iload_n hx hb dX5_test_40 rfl (lv_at hl 0 rfl) ?_
    have hP9 : va_P D vwCl (stW ct (ad 8) (sC v 0 (upd (v.1 0) 4 y)) ++ xR ct o ad z (va_up w n v) (nI (nxt n)) (nI (kPush k)) s0 s1 i0 i1 (nI t) nd f g) _ := hP
    have hD9 : va_D A (stW ct (ad 8) (sC v 0 (upd (v.1 0) 4 y)) ++ xR ct o ad z (va_up w n v) (nI (nxt n)) (nI (kPush k)) s0 s1 i0 i1 (nI t) nd f g) := hD
    subst hAe
    exact W.iret (v := (v.1 0 4)) hx hb hr (fun tt ht hW => ⟨⟨(v.1 0 4), (), rfl, rfl, muE.of (ct := ct) hP9 hD9 ht⟩, hS.F ht⟩) hS.2.2 dX5_test_41
  · exact absurd c_7 hin
set_option maxHeartbeats 4000000 in
set_option maxRecDepth 100000 in
theorem k_X5_setBlink_e1 (l : Launch) (D : va_G) (ct : Nat → ClassId) (o : Nat → Nat) (ad : Nat → Nat → Nat) (v z : SV) (w : Nat → SV) (n k : Nat) (hn : n < 5) (hk : k ≤ 5) (s0 s1 : SV) (i0 i1 : Int32) (t : Nat) (nd : Int32) (f g : Nat → Int32) (x y y2 : Int32) (hin : pIn x 1 3 = 0) : Met l yX5_setBlink wsX5_setBlink ({ frames := 4, cells := 0, slots := 0, locals := 104 }) (roP D ct (stW ct (ad 8) v ++ xR ct o ad z w (nI n) (nI k) s0 s1 i0 i1 (nI t) nd f g) [.ref (o 0), .int x, .int y, .int y2]) (vp_Si (fun r => r = -1)) 0 0 noA := by
  refine Met.ofW (cc := cX5_setBlink) (maxL := 4) (ret := (some .int)) (by decide) rfl ?_
  intro p e s m args below meth c s₁ B hml hv
  obtain ⟨rfl, hP, hK, hN⟩ := hv
  have hx := B.exec
  have hb := B.bytes
  have hr := B.returns
  have hts := atoms_spec (ws := wsX5_setBlink) B.pre
  have hown : s.vm.findClass RX5 = some m.cls := findClass_of_methodNamed B.named
  have hlocks := B.notSynchronized
  have hl := lv_entry ([.ref (o 0), .int x, .int y, .int y2]) (n := 4) (Nat.le_of_ble_eq_true rfl)
  rw [lg_entry_eq]
  generalize (lg_sl ([.ref (o 0), .int x, .int y, .int y2]) ++ List.replicate (4 - (lg_sl ([.ref (o 0), .int x, .int y, .int y2])).length) Slot.unset).toArray = ls at hl ⊢
  have hl : lv_has ls 4 [(0, .ref (o 0)), (1, .int x), (2, .int y), (3, .int y2)] := hl
  refine lv_iload_n hx hb dX5_setBlink_0 rfl (lv_at hl 1 rfl) ?_
  refine lv_iconst (v := 1) hx hb dX5_setBlink_1 (by decide) ?_
  refine lv_iconst (v := 3) hx hb dX5_setBlink_2 (by decide) ?_
  refine vp_callSi (va_runS (As := [.int x, .int 1, .int 3]) (rest := []) ⟨hx, hb, hml, hown, hts⟩ (k_X5_isWithin l D ct x 1 3) (va_cwS 3 hts gX5_setBlink_X5_isWithin rfl rfl rfl (by decide +kernel) ⟨Nat.le_of_ble_eq_true rfl, Nat.le_of_ble_eq_true rfl⟩) ⟨roP.blind, roP.at pw_nil hK hN⟩ rfl rfl hl.1 rfl (lv_room (Nat.le_of_ble_eq_true rfl)) dX5_setBlink_3 ⟨Nat.le_of_ble_eq_true rfl, Nat.le_of_ble_eq_true rfl⟩).run (fun r_3 h_3 => ?_)
  obtain rfl : r_3 = pIn x 1 3 := h_3
  refine lv_if_ne (tgt := 11) hx hb dX5_setBlink_6 (by decide) (fun c_6 => ?_) (fun c_6 => ?_)
  · exact absurd hin c_6
  · refine lv_iconst (v := (-1)) hx hb dX5_setBlink_9 (by decide) ?_
    exact W.iret (v := (-1)) hx hb hr (fun tt ht hW => ⟨(-1), rfl, rfl, ht⟩) (fun q hq => absurd hq List.not_mem_nil) dX5_setBlink_10
set_option maxHeartbeats 4000000 in
set_option maxRecDepth 100000 in
theorem k_X5_setBlink_e2 (l : Launch) (D : va_G) (ct : Nat → ClassId) (o : Nat → Nat) (ad : Nat → Nat → Nat) (v z : SV) (w : Nat → SV) (n k : Nat) (hn : n < 5) (hk : k ≤ 5) (s0 s1 : SV) (i0 i1 : Int32) (t : Nat) (nd : Int32) (f g : Nat → Int32) (x y y2 : Int32) (hin : ¬ pIn x 1 3 = 0) (hyz : pIn y 1 50 = 0 ∨ pIn y2 0 50 = 0) : Met l yX5_setBlink wsX5_setBlink ({ frames := 4, cells := 0, slots := 0, locals := 104 }) (roP D ct (stW ct (ad 8) v ++ xR ct o ad z w (nI n) (nI k) s0 s1 i0 i1 (nI t) nd f g) [.ref (o 0), .int x, .int y, .int y2]) (vp_Si (fun r => r = -2)) 0 0 noA := by
  refine Met.ofW (cc := cX5_setBlink) (maxL := 4) (ret := (some .int)) (by decide) rfl ?_
  intro p e s m args below meth c s₁ B hml hv
  obtain ⟨rfl, hP, hK, hN⟩ := hv
  have hx := B.exec
  have hb := B.bytes
  have hr := B.returns
  have hts := atoms_spec (ws := wsX5_setBlink) B.pre
  have hown : s.vm.findClass RX5 = some m.cls := findClass_of_methodNamed B.named
  have hlocks := B.notSynchronized
  have hl := lv_entry ([.ref (o 0), .int x, .int y, .int y2]) (n := 4) (Nat.le_of_ble_eq_true rfl)
  rw [lg_entry_eq]
  generalize (lg_sl ([.ref (o 0), .int x, .int y, .int y2]) ++ List.replicate (4 - (lg_sl ([.ref (o 0), .int x, .int y, .int y2])).length) Slot.unset).toArray = ls at hl ⊢
  have hl : lv_has ls 4 [(0, .ref (o 0)), (1, .int x), (2, .int y), (3, .int y2)] := hl
  refine lv_iload_n hx hb dX5_setBlink_0 rfl (lv_at hl 1 rfl) ?_
  refine lv_iconst (v := 1) hx hb dX5_setBlink_1 (by decide) ?_
  refine lv_iconst (v := 3) hx hb dX5_setBlink_2 (by decide) ?_
  refine vp_callSi (va_runS (As := [.int x, .int 1, .int 3]) (rest := []) ⟨hx, hb, hml, hown, hts⟩ (k_X5_isWithin l D ct x 1 3) (va_cwS 3 hts gX5_setBlink_X5_isWithin rfl rfl rfl (by decide +kernel) ⟨Nat.le_of_ble_eq_true rfl, Nat.le_of_ble_eq_true rfl⟩) ⟨roP.blind, roP.at pw_nil hK hN⟩ rfl rfl hl.1 rfl (lv_room (Nat.le_of_ble_eq_true rfl)) dX5_setBlink_3 ⟨Nat.le_of_ble_eq_true rfl, Nat.le_of_ble_eq_true rfl⟩).run (fun r_3 h_3 => ?_)
  obtain rfl : r_3 = pIn x 1 3 := h_3
  refine lv_if_ne (tgt := 11) hx hb dX5_setBlink_6 (by decide) (fun c_6 => ?_) (fun c_6 => ?_)
  · refine lv_iload_n hx hb dX5_setBlink_11 rfl (lv_at hl 2 rfl) ?_
    refine lv_iconst (v := 1) hx hb dX5_setBlink_12 (by decide) ?_
    refine lv_bipush (v := 50) hx hb dX5_setBlink_13 (by decide) ?_
    refine vp_callSi (va_runS (As := [.int y, .int 1, .int 50]) (rest := []) ⟨hx, hb, hml, hown, hts⟩ (k_X5_isWithin l D ct y 1 50) (va_cwS 3 hts gX5_setBlink_X5_isWithin rfl rfl rfl (by decide +kernel) ⟨Nat.le_of_ble_eq_true rfl, Nat.le_of_ble_eq_true rfl⟩) ⟨roP.blind, roP.at pw_nil hK hN⟩ rfl rfl hl.1 rfl (lv_room (Nat.le_of_ble_eq_true rfl)) dX5_setBlink_15 ⟨Nat.le_of_ble_eq_true rfl, Nat.le_of_ble_eq_true rfl⟩).run (fun r_15 h_15 => ?_)
    obtain rfl : r_15 = pIn y 1 50 := h_15
    refine lv_if_eq (tgt := 31) hx hb dX5_setBlink_18 (by decide) (fun c_18 => ?_) (fun c_18 => ?_)
    · refine lv_bipush (v := (-2)) hx hb dX5_setBlink_31 (by decide) ?_
      exact W.iret (v := (-2)) hx hb hr (fun tt ht hW => ⟨(-2), rfl, rfl, ht⟩) (fun q hq => absurd hq List.not_mem_nil) dX5_setBlink_33
    · refine lv_iload_n hx hb dX5_setBlink_21 rfl (lv_at hl 3 rfl) ?_
      refine lv_iconst (v := 0) hx hb dX5_setBlink_22 (by decide) ?_
      refine lv_bipush (v := 50) hx hb dX5_setBlink_23 (by decide) ?_
      refine vp_callSi (va_runS (As := [.int y2, .int 0, .int 50]) (rest := []) ⟨hx, hb, hml, hown, hts⟩ (k_X5_isWithin l D ct y2 0 50) (va_cwS 3 hts gX5_setBlink_X5_isWithin rfl rfl rfl (by decide +kernel) ⟨Nat.le_of_ble_eq_true rfl, Nat.le_of_ble_eq_true rfl⟩) ⟨roP.blind, roP.at pw_nil hK hN⟩ rfl rfl hl.1 rfl (lv_room (Nat.le_of_ble_eq_true rfl)) dX5_setBlink_25 ⟨Nat.le_of_ble_eq_true rfl, Nat.le_of_ble_eq_true rfl⟩).run (fun r_25 h_25 => ?_)
      obtain rfl : r_25 = pIn y2 0 50 := h_25
      refine lv_if_ne (tgt := 34) hx hb dX5_setBlink_28 (by decide) (fun c_28 => ?_) (fun c_28 => ?_)
      · exact hyz.elim (fun q => absurd q c_18) (fun q => absurd q c_28)
      · refine lv_bipush (v := (-2)) hx hb dX5_setBlink_31 (by decide) ?_
        exact W.iret (v := (-2)) hx hb hr (fun tt ht hW => ⟨(-2), rfl, rfl, ht⟩) (fun q hq => absurd hq List.not_mem_nil) dX5_setBlink_33
  · exact absurd c_6 hin
set_option maxHeartbeats 4000000 in
set_option maxRecDepth 100000 in
theorem k_X5_setBlink_ok (l : Launch) (D : va_G) (ct : Nat → ClassId) (sz : Nat) (o : Nat → Nat) (ad : Nat → Nat → Nat) (v z : SV) (w : Nat → SV) (n k : Nat) (hn : n < 5) (hk : k ≤ 5) (s0 s1 : SV) (i0 i1 : Int32) (t : Nat) (nd : Int32) (f g : Nat → Int32) (ok : Inv v) (q : Nat) (hg0 : 0 < q) (hg4 : q < 4) (y y2 : Int32) (hy : ¬ pIn y 1 50 = 0) (hz : ¬ pIn y2 0 50 = 0) : Met l yX5_setBlink wsX5_setBlink ({ frames := 4, cells := 0, slots := 0, locals := 104 }) (muP D ct (stW ct (ad 8) v ++ xR ct o ad z w (nI n) (nI k) s0 s1 i0 i1 (nI t) nd f g) sz [.ref (o 0), .int (nI q), .int y, .int y2]) (muI D ct (stW ct (ad 8) v ++ xR ct o ad z w (nI n) (nI k) s0 s1 i0 i1 (nI t) nd f g) (stW ct (ad 8) (s2 (s2 v 1 q y) 2 q y2) ++ xR ct o ad z (va_up w n v) (nI (nxt n)) (nI (kPush k)) s0 s1 i0 i1 (nI t) nd f g) sz (fun r => r = pDin (s2 (s2 v 1 q y) 2 q y2) (nI q) (nOf v))) 0 0 (va_A (stW ct (ad 8) v ++ xR ct o ad z w (nI n) (nI k) s0 s1 i0 i1 (nI t) nd f g) sz) := by
  refine Met.ofW (cc := cX5_setBlink) (maxL := 4) (ret := (some .int)) (by decide) rfl ?_
  intro p e s m args below meth c s₁ B hml hv
  obtain ⟨rfl, hsz, hP, hK, hN, hD0⟩ := hv
  have hx := B.exec
  have hb := B.bytes
  have hr := B.returns
  have hts := atoms_spec (ws := wsX5_setBlink) B.pre
  have hown : s.vm.findClass RX5 = some m.cls := findClass_of_methodNamed B.named
  have hlocks := B.notSynchronized
  subst hsz
  have hD := hD0.self (sz := s.heap.size)
  generalize hAe : va_A (stW ct (ad 8) v ++ xR ct o ad z w (nI n) (nI k) s0 s1 i0 i1 (nI t) nd f g) s.heap.size = A at hD
  have hA : ∀ q : Nat, s.heap.size ≤ q → A q := fun q h => by rw [← hAe]; exact Or.inr h
  have hS : va_S A s.heap s.heap [] := va_S.rf
  have w_1 := hts (.fieldLink RX5 22 "ScannedDigits" "history" "LScannedDigits$History;") (List.mem_of_getElem? (i := 1) rfl)
  have w_2 := hts (.fieldLink RX5 10 "ScannedDigits" "now" "LScannedDigits$State;") (List.mem_of_getElem? (i := 2) rfl)
  have w_3 := hts (.fieldLink RX5 85 "ScannedDigits$State" "on" "[I") (List.mem_of_getElem? (i := 3) rfl)
  have w_4 := hts (.fieldLink RX5 89 "ScannedDigits$State" "off" "[I") (List.mem_of_getElem? (i := 4) rfl)
  have hiX5 : ∀ w ∈ wsX50, w ∈ wsX5_setBlink := fun w h => (goodIn_r wsX50 [63, 64, 65, 66, 67] (by decide +kernel) (by decide +kernel) w h).1
  have hiX3 : ∀ w ∈ wsX30, w ∈ wsX5_setBlink := fun w h => (goodIn_r wsX30 [68, 69, 70, 71, 72, 73, 74, 75, 76, 77, 78, 79, 80] (by decide +kernel) (by decide +kernel) w h).1
  have hl := lv_entry ([.ref (o 0), .int (nI q), .int y, .int y2]) (n := 4) (Nat.le_of_ble_eq_true rfl)
  rw [lg_entry_eq]
  generalize (lg_sl ([.ref (o 0), .int (nI q), .int y, .int y2]) ++ List.replicate (4 - (lg_sl ([.ref (o 0), .int (nI q), .int y, .int y2])).length) Slot.unset).toArray = ls at hl ⊢
  have hl : lv_has ls 4 [(0, .ref (o 0)), (1, .int (nI q)), (2, .int y), (3, .int y2)] := hl
  have hin : ¬ pIn (nI q) 1 3 = 0 := pIn_ok (a := 1) (b := 3) rfl rfl hg0 (by omega) (by decide)
  refine lv_iload_n hx hb dX5_setBlink_0 rfl (lv_at hl 1 rfl) ?_
  refine lv_iconst (v := 1) hx hb dX5_setBlink_1 (by decide) ?_
  refine lv_iconst (v := 3) hx hb dX5_setBlink_2 (by decide) ?_
  refine vp_callSi (va_runS (As := [.int (nI q), .int 1, .int 3]) (rest := []) ⟨hx, hb, hml, hown, hts⟩ (k_X5_isWithin l D ct (nI q) 1 3) (va_cwS 3 hts gX5_setBlink_X5_isWithin rfl rfl rfl (by decide +kernel) ⟨Nat.le_of_ble_eq_true rfl, Nat.le_of_ble_eq_true rfl⟩) ⟨roP.blind, roP.at pw_nil hK hN⟩ rfl rfl hl.1 rfl (lv_room (Nat.le_of_ble_eq_true rfl)) dX5_setBlink_3 ⟨Nat.le_of_ble_eq_true rfl, Nat.le_of_ble_eq_true rfl⟩).run (fun r_3 h_3 => ?_)
  obtain rfl : r_3 = pIn (nI q) 1 3 := h_3
  refine lv_if_ne (tgt := 11) hx hb dX5_setBlink_6 (by decide) (fun c_6 => ?_) (fun c_6 => ?_)
  · refine lv_iload_n hx hb dX5_setBlink_11 rfl (lv_at hl 2 rfl) ?_
    refine lv_iconst (v := 1) hx hb dX5_setBlink_12 (by decide) ?_
    refine lv_bipush (v := 50) hx hb dX5_setBlink_13 (by decide) ?_
    refine vp_callSi (va_runS (As := [.int y, .int 1, .int 50]) (rest := []) ⟨hx, hb, hml, hown, hts⟩ (k_X5_isWithin l D ct y 1 50) (va_cwS 3 hts gX5_setBlink_X5_isWithin rfl rfl rfl (by decide +kernel) ⟨Nat.le_of_ble_eq_true rfl, Nat.le_of_ble_eq_true rfl⟩) ⟨roP.blind, roP.at pw_nil hK hN⟩ rfl rfl hl.1 rfl (lv_room (Nat.le_of_ble_eq_true rfl)) dX5_setBlink_15 ⟨Nat.le_of_ble_eq_true rfl, Nat.le_of_ble_eq_true rfl⟩).run (fun r_15 h_15 => ?_)
    obtain rfl : r_15 = pIn y 1 50 := h_15
    refine lv_if_eq (tgt := 31) hx hb dX5_setBlink_18 (by decide) (fun c_18 => ?_) (fun c_18 => ?_)
    · exact absurd c_18 hy
    · refine lv_iload_n hx hb dX5_setBlink_21 rfl (lv_at hl 3 rfl) ?_
      refine lv_iconst (v := 0) hx hb dX5_setBlink_22 (by decide) ?_
      refine lv_bipush (v := 50) hx hb dX5_setBlink_23 (by decide) ?_
      refine vp_callSi (va_runS (As := [.int y2, .int 0, .int 50]) (rest := []) ⟨hx, hb, hml, hown, hts⟩ (k_X5_isWithin l D ct y2 0 50) (va_cwS 3 hts gX5_setBlink_X5_isWithin rfl rfl rfl (by decide +kernel) ⟨Nat.le_of_ble_eq_true rfl, Nat.le_of_ble_eq_true rfl⟩) ⟨roP.blind, roP.at pw_nil hK hN⟩ rfl rfl hl.1 rfl (lv_room (Nat.le_of_ble_eq_true rfl)) dX5_setBlink_25 ⟨Nat.le_of_ble_eq_true rfl, Nat.le_of_ble_eq_true rfl⟩).run (fun r_25 h_25 => ?_)
      obtain rfl : r_25 = pIn y2 0 50 := h_25
      refine lv_if_ne (tgt := 34) hx hb dX5_setBlink_28 (by decide) (fun c_28 => ?_) (fun c_28 => ?_)
      · refine lv_aload_n hx hb dX5_setBlink_34 rfl (lv_at hl 0 rfl) ?_
        refine va_get (D := D) (ci := 5) (v := .ref (o 7)) (C := RX5) (T := TX5) (N := 5) hx hb hts hiX5 hown hK hP 29 (xw_get (i := 0) rfl) rfl 2 (by decide) w_1 (fun _ h9 => h9) rfl dX5_setBlink_35 ?_
        refine lv_aload_n hx hb dX5_setBlink_38 rfl (lv_at hl 0 rfl) ?_
        refine va_get (D := D) (ci := 5) (v := .ref ((ad 8) 0)) (C := RX5) (T := TX5) (N := 5) hx hb hts hiX5 hown hK hP 29 (xw_get (i := 0) rfl) rfl 0 (by decide) w_2 (fun _ h9 => h9) rfl dX5_setBlink_39 ?_
        have hFc_42 := w_free (wc := hsW ct (o 7) (o 8) ad (nI n) (nI k) w (ad 8) v) hD (xw_h) hS hA
        refine va_callv (va_runV (As := [.ref ((ad 8) 0)]) (rest := []) ⟨hx, hb, hml, hown, hts⟩ (k_X1_record l D ct _ (o 7) (o 8) ad n k hn w (ad 8) v hk) (cwV 1 hts gX5_setBlink_X1_record rfl rfl rfl (by decide +kernel) ⟨Nat.le_of_ble_eq_true rfl, Nat.le_of_ble_eq_true rfl⟩) ⟨muP.blind, va_recv hK (pw_cut xw_h hP) (ci := 1) (q0 := 0) rfl rfl, muP.at (pw_cut xw_h hP) (dw_cut xw_h hD) hK hN⟩ rfl rfl hl.1 rfl (lv_room (Nat.le_of_ble_eq_true rfl)) dX5_setBlink_42 ⟨Nat.le_of_ble_eq_true rfl, Nat.le_of_ble_eq_true rfl⟩) hS (fun q _ h => hFc_42 q h) hFc_42 (fun uu tt H1 locs ht hvm hw hB hz1 hk1 hS => ?_)
        obtain ⟨hP, hD⟩ := muE.join (ws' := stW ct (ad 8) v ++ xR ct o ad z (va_up w n v) (nI (nxt n)) (nI (kPush k)) s0 s1 i0 i1 (nI t) nd f g) hP hD (xw_h) (xw_h) hk1 hFc_42 ht hB
        generalize H1 = H at hP hS ⊢
        refine lv_aload_n hx hb dX5_setBlink_45 rfl (lv_at hl 0 rfl) ?_
        refine va_get (D := D) (ci := 5) (v := .ref ((ad 8) 0)) (C := RX5) (T := TX5) (N := 5) hx hb hts hiX5 hown hK hP 29 (xw_get (i := 0) rfl) rfl 0 (by decide) w_2 (fun _ h9 => h9) rfl dX5_setBlink_46 ?_
        refine va_get (D := D) (ci := 3) (v := .ref ((ad 8) 2)) (C := RX3) (T := TX3) (N := 13) hx hb hts hiX3 hown hK hP 0 sa_c0 rfl 2 (by decide) w_3 (fun _ h9 => h9) rfl dX5_setBlink_49 ?_
        refine lv_iload_n hx hb dX5_setBlink_52 rfl (lv_at hl 1 rfl) ?_
        refine lv_iload_n hx hb dX5_setBlink_53 rfl (lv_at hl 2 rfl) ?_
        refine r_iast hx hb hK hP hD hS 2 0 sa_c2 rfl (k := q) (rfl) (by omega) (by decide) dX5_setBlink_54 (fun H locs hP hD hS => ?_)
        have hP : va_P D vwCl (stW ct (ad 8) (sC v 1 (upd (v.1 1) q y)) ++ xR ct o ad z (va_up w n v) (nI (nxt n)) (nI (kPush k)) s0 s1 i0 i1 (nI t) nd f g) H := sa_p1 (upd (v.1 1) q y) hP
        have hD : va_D A (stW ct (ad 8) (sC v 1 (upd (v.1 1) q y)) ++ xR ct o ad z (va_up w n v) (nI (nxt n)) (nI (kPush k)) s0 s1 i0 i1 (nI t) nd f g) := sa_dset (by decide) hD
        refine lv_aload_n hx hb dX5_setBlink_55 rfl (lv_at hl 0 rfl) ?_
        refine va_get (D := D) (ci := 5) (v := .ref ((ad 8) 0)) (C := RX5) (T := TX5) (N := 5) hx hb hts hiX5 hown hK hP 29 (xw_get (i := 0) rfl) rfl 0 (by decide) w_2 (fun _ h9 => h9) rfl dX5_setBlink_56 ?_
        refine va_get (D := D) (ci := 3) (v := .ref ((ad 8) 3)) (C := RX3) (T := TX3) (N := 13) hx hb hts hiX3 hown hK hP 0 sa_c0 rfl 3 (by decide) w_4 (fun _ h9 => h9) rfl dX5_setBlink_59 ?_
        refine lv_iload_n hx hb dX5_setBlink_62 rfl (lv_at hl 1 rfl) ?_
        refine lv_iload_n hx hb dX5_setBlink_63 rfl (lv_at hl 3 rfl) ?_
        refine r_iast hx hb hK hP hD hS 3 0 sa_c3 rfl (k := q) (rfl) (by omega) (by decide) dX5_setBlink_64 (fun H locs hP hD hS => ?_)
        have hP : va_P D vwCl (stW ct (ad 8) (sC (sC v 1 (upd (v.1 1) q y)) 2 (upd ((sC v 1 (upd (v.1 1) q y)).1 2) q y2)) ++ xR ct o ad z (va_up w n v) (nI (nxt n)) (nI (kPush k)) s0 s1 i0 i1 (nI t) nd f g) H := sa_p2 (upd ((sC v 1 (upd (v.1 1) q y)).1 2) q y2) hP
        have hD : va_D A (stW ct (ad 8) (sC (sC v 1 (upd (v.1 1) q y)) 2 (upd ((sC v 1 (upd (v.1 1) q y)).1 2) q y2)) ++ xR ct o ad z (va_up w n v) (nI (nxt n)) (nI (kPush k)) s0 s1 i0 i1 (nI t) nd f g) := sa_dset (by decide) hD
        refine lv_aload_n hx hb dX5_setBlink_65 rfl (lv_at hl 0 rfl) ?_
        refine va_get (D := D) (ci := 5) (v := .ref ((ad 8) 0)) (C := RX5) (T := TX5) (N := 5) hx hb hts hiX5 hown hK hP 29 (xw_get (i := 0) rfl) rfl 0 (by decide) w_2 (fun _ h9 => h9) rfl dX5_setBlink_66 ?_
        refine lv_iload_n hx hb dX5_setBlink_69 rfl (lv_at hl 1 rfl) ?_
        refine vp_callSi (va_runV (As := [.int (nI q)]) (rest := []) ⟨hx, hb, hml, hown, hts⟩ (k_X3_digitsInGroup l D ct (ad 8) (s2 (s2 v 1 q y) 2 q y2) (nI q) ok.n8 ok.cnt) (cwV 1 hts gX5_setBlink_X3_digitsInGroup rfl rfl rfl (by decide +kernel) ⟨Nat.le_of_ble_eq_true rfl, Nat.le_of_ble_eq_true rfl⟩) ⟨roP.blind, va_recv hK (pw_left hP) (ci := 3) (q0 := 0) rfl rfl, roP.at (pw_left hP) hK hN⟩ rfl rfl hl.1 rfl (lv_room (Nat.le_of_ble_eq_true rfl)) dX5_setBlink_70 ⟨Nat.le_of_ble_eq_true rfl, Nat.le_of_ble_eq_true rfl⟩).run (fun r_70 h_70 => ?_)
        obtain rfl : r_70 = pDin (s2 (s2 v 1 q y) 2 q y2) (nI q) (nOf v) := h_70
        have hP9 : va_P D vwCl (stW ct (ad 8) (s2 (s2 v 1 q y) 2 q y2) ++ xR ct o ad z (va_up w n v) (nI (nxt n)) (nI (kPush k)) s0 s1 i0 i1 (nI t) nd f g) _ := hP
        have hD9 : va_D A (stW ct (ad 8) (s2 (s2 v 1 q y) 2 q y2) ++ xR ct o ad z (va_up w n v) (nI (nxt n)) (nI (kPush k)) s0 s1 i0 i1 (nI t) nd f g) := hD
        subst hAe
        exact W.iret (v := (pDin (s2 (s2 v 1 q y) 2 q y2) (nI q) (nOf v))) hx hb hr (fun tt ht hW => ⟨⟨(pDin (s2 (s2 v 1 q y) 2 q y2) (nI q) (nOf v)), (), rfl, rfl, muE.of (ct := ct) hP9 hD9 ht⟩, hS.F ht⟩) hS.2.2 dX5_setBlink_73
      · exact absurd c_28 hz
  · exact absurd c_6 hin
set_option maxHeartbeats 4000000 in
set_option maxRecDepth 100000 in
theorem k_X5_set_e1 (l : Launch) (D : va_G) (ct : Nat → ClassId) (o : Nat → Nat) (ad : Nat → Nat → Nat) (v z : SV) (w : Nat → SV) (n k : Nat) (hn : n < 5) (hk : k ≤ 5) (s0 s1 : SV) (i0 i1 : Int32) (t : Nat) (nd : Int32) (f g : Nat → Int32) (x y : Int32) (hin : pIn x 0 2 = 0) : Met l yX5_set wsX5_set ({ frames := 4, cells := 0, slots := 0, locals := 104 }) (roPS D ct (stW ct (ad 8) v ++ xR ct o ad z w (nI n) (nI k) s0 s1 i0 i1 (nI t) nd f g) [.ref (o 0), .int x, .int y]) (vp_Si (fun r => r = -1)) 0 0 noA := by
  refine Met.ofW (cc := cX5_set) (maxL := 4) (ret := (some .int)) (by decide) rfl ?_
  intro p e s m args below meth c s₁ B hml hv
  obtain ⟨rfl, hZ, hP, hK, hN⟩ := hv
  have hx := B.exec
  have hb := B.bytes
  have hr := B.returns
  have hts := atoms_spec (ws := wsX5_set) B.pre
  have hown : s.vm.findClass RX5 = some m.cls := findClass_of_methodNamed B.named
  have hlocks := B.notSynchronized
  have hS : va_S noA s.heap s.heap [] := va_S.rf
  obtain ⟨tch, zch, Tch⟩ := hZ.ch
  obtain ⟨tpt, zpt, Tpt⟩ := hZ.pt
  obtain ⟨tle, zle, Tle⟩ := hZ.le
  obtain ⟨tmo, zmo, Tmo⟩ := hZ.mo
  have hl := lv_entry ([.ref (o 0), .int x, .int y]) (n := 4) (Nat.le_of_ble_eq_true rfl)
  rw [lg_entry_eq]
  generalize (lg_sl ([.ref (o 0), .int x, .int y]) ++ List.replicate (4 - (lg_sl ([.ref (o 0), .int x, .int y])).length) Slot.unset).toArray = ls at hl ⊢
  have hl : lv_has ls 4 [(0, .ref (o 0)), (1, .int x), (2, .int y)] := hl
  refine lv_iload_n hx hb dX5_set_0 rfl (lv_at hl 1 rfl) ?_
  refine lv_iconst (v := 0) hx hb dX5_set_1 (by decide) ?_
  refine lv_iconst (v := 2) hx hb dX5_set_2 (by decide) ?_
  refine vp_callSi (va_runS (As := [.int x, .int 0, .int 2]) (rest := []) ⟨hx, hb, hml, hown, hts⟩ (k_X5_isWithin l D ct x 0 2) (va_cwS 3 hts gX5_set_X5_isWithin rfl rfl rfl (by decide +kernel) ⟨Nat.le_of_ble_eq_true rfl, Nat.le_of_ble_eq_true rfl⟩) ⟨roP.blind, roP.at pw_nil hK hN⟩ rfl rfl hl.1 rfl (lv_room (Nat.le_of_ble_eq_true rfl)) dX5_set_3 ⟨Nat.le_of_ble_eq_true rfl, Nat.le_of_ble_eq_true rfl⟩).run (fun r_3 h_3 => ?_)
  obtain rfl : r_3 = pIn x 0 2 := h_3
  refine lv_if_ne (tgt := 11) hx hb dX5_set_6 (by decide) (fun c_6 => ?_) (fun c_6 => ?_)
  · exact absurd hin c_6
  · refine lv_iconst (v := (-1)) hx hb dX5_set_9 (by decide) ?_
    exact W.iret (v := (-1)) hx hb hr (fun tt ht hW => ⟨(-1), rfl, rfl, ht⟩) (fun q hq => absurd hq List.not_mem_nil) dX5_set_10
set_option maxHeartbeats 4000000 in
set_option maxRecDepth 100000 in
theorem k_X5_set_e2_0 (l : Launch) (D : va_G) (ct : Nat → ClassId) (o : Nat → Nat) (ad : Nat → Nat → Nat) (v z : SV) (w : Nat → SV) (n k : Nat) (hn : n < 5) (hk : k ≤ 5) (s0 s1 : SV) (i0 i1 : Int32) (t : Nat) (nd : Int32) (f g : Nat → Int32) (y : Int32) (hin : pIn y 2 50 = 0) : Met l yX5_set wsX5_set ({ frames := 4, cells := 0, slots := 0, locals := 104 }) (roPS D ct (stW ct (ad 8) v ++ xR ct o ad z w (nI n) (nI k) s0 s1 i0 i1 (nI t) nd f g) [.ref (o 0), .int 0, .int y]) (vp_Si (fun r => r = -2)) 0 0 noA := by
  refine Met.ofW (cc := cX5_set) (maxL := 4) (ret := (some .int)) (by decide) rfl ?_
  intro p e s m args below meth c s₁ B hml hv
  obtain ⟨rfl, hZ, hP, hK, hN⟩ := hv
  have hx := B.exec
  have hb := B.bytes
  have hr := B.returns
  have hts := atoms_spec (ws := wsX5_set) B.pre
  have hown : s.vm.findClass RX5 = some m.cls := findClass_of_methodNamed B.named
  have hlocks := B.notSynchronized
  have hS : va_S noA s.heap s.heap [] := va_S.rf
  obtain ⟨tch, zch, Tch⟩ := hZ.ch
  obtain ⟨tpt, zpt, Tpt⟩ := hZ.pt
  obtain ⟨tle, zle, Tle⟩ := hZ.le
  obtain ⟨tmo, zmo, Tmo⟩ := hZ.mo
  have w_1 := hts (.fieldLink RX5 96 "ScannedDigits" "LEAST_SETTINGS" "[I") (List.mem_of_getElem? (i := 1) rfl)
  have w_2 := hts (.fieldLink RX5 99 "ScannedDigits" "MOST_SETTINGS" "[I") (List.mem_of_getElem? (i := 2) rfl)
  have hl := lv_entry ([.ref (o 0), .int 0, .int y]) (n := 4) (Nat.le_of_ble_eq_true rfl)
  rw [lg_entry_eq]
  generalize (lg_sl ([.ref (o 0), .int 0, .int y]) ++ List.replicate (4 - (lg_sl ([.ref (o 0), .int 0, .int y])).length) Slot.unset).toArray = ls at hl ⊢
  have hl : lv_has ls 4 [(0, .ref (o 0)), (1, .int 0), (2, .int y)] := hl
  refine lv_iload_n hx hb dX5_set_0 rfl (lv_at hl 1 rfl) ?_
  refine lv_iconst (v := 0) hx hb dX5_set_1 (by decide) ?_
  refine lv_iconst (v := 2) hx hb dX5_set_2 (by decide) ?_
  refine vp_callSi (va_runS (As := [.int 0, .int 0, .int 2]) (rest := []) ⟨hx, hb, hml, hown, hts⟩ (k_X5_isWithin l D ct 0 0 2) (va_cwS 3 hts gX5_set_X5_isWithin rfl rfl rfl (by decide +kernel) ⟨Nat.le_of_ble_eq_true rfl, Nat.le_of_ble_eq_true rfl⟩) ⟨roP.blind, roP.at pw_nil hK hN⟩ rfl rfl hl.1 rfl (lv_room (Nat.le_of_ble_eq_true rfl)) dX5_set_3 ⟨Nat.le_of_ble_eq_true rfl, Nat.le_of_ble_eq_true rfl⟩).run (fun r_3 h_3 => ?_)
  obtain rfl : r_3 = pIn 0 0 2 := h_3
  refine lv_if_ne (tgt := 11) hx hb dX5_set_6 (by decide) (fun c_6 => ?_) (fun c_6 => ?_)
  · refine lv_iload_n hx hb dX5_set_11 rfl (lv_at hl 2 rfl) ?_
    refine va_gets hx hb zle hS hown w_1 (fun _ h9 => h9) dX5_set_12 ?_
    refine lv_iload_n hx hb dX5_set_15 rfl (lv_at hl 1 rfl) ?_
    refine rt_i hx hb Tle hS (k := 0) (rfl) (by decide) (by decide) dX5_set_16 ?_
    refine lv_as (y := 2) (rfl) ?_
    refine va_gets hx hb zmo hS hown w_2 (fun _ h9 => h9) dX5_set_17 ?_
    refine lv_iload_n hx hb dX5_set_20 rfl (lv_at hl 1 rfl) ?_
    refine rt_i hx hb Tmo hS (k := 0) (rfl) (by decide) (by decide) dX5_set_21 ?_
    refine lv_as (y := 50) (rfl) ?_
    refine vp_callSi (va_runS (As := [.int y, .int 2, .int 50]) (rest := []) ⟨hx, hb, hml, hown, hts⟩ (k_X5_isWithin l D ct y 2 50) (va_cwS 3 hts gX5_set_X5_isWithin rfl rfl rfl (by decide +kernel) ⟨Nat.le_of_ble_eq_true rfl, Nat.le_of_ble_eq_true rfl⟩) ⟨roP.blind, roP.at pw_nil hK hN⟩ rfl rfl hl.1 rfl (lv_room (Nat.le_of_ble_eq_true rfl)) dX5_set_22 ⟨Nat.le_of_ble_eq_true rfl, Nat.le_of_ble_eq_true rfl⟩).run (fun r_22 h_22 => ?_)
    obtain rfl : r_22 = pIn y 2 50 := h_22
    refine lv_if_ne (tgt := 31) hx hb dX5_set_25 (by decide) (fun c_25 => ?_) (fun c_25 => ?_)
    · exact absurd hin c_25
    · refine lv_bipush (v := (-2)) hx hb dX5_set_28 (by decide) ?_
      exact W.iret (v := (-2)) hx hb hr (fun tt ht hW => ⟨(-2), rfl, rfl, ht⟩) (fun q hq => absurd hq List.not_mem_nil) dX5_set_30
  · exact absurd c_6 (by decide)
set_option maxHeartbeats 4000000 in
set_option maxRecDepth 100000 in
theorem k_X5_set_ok_0 (l : Launch) (D : va_G) (ct : Nat → ClassId) (sz : Nat) (o : Nat → Nat) (ad : Nat → Nat → Nat) (v z : SV) (w : Nat → SV) (n k : Nat) (hn : n < 5) (hk : k ≤ 5) (s0 s1 : SV) (i0 i1 : Int32) (t : Nat) (nd : Int32) (f g : Nat → Int32) (y : Int32) (hin : ¬ pIn y 2 50 = 0) : Met l yX5_set wsX5_set ({ frames := 4, cells := 0, slots := 0, locals := 104 }) (muPS D ct (stW ct (ad 8) v ++ xR ct o ad z w (nI n) (nI k) s0 s1 i0 i1 (nI t) nd f g) sz [.ref (o 0), .int 0, .int y]) (muI D ct (stW ct (ad 8) v ++ xR ct o ad z w (nI n) (nI k) s0 s1 i0 i1 (nI t) nd f g) (stW ct (ad 8) (s2 v 3 0 y) ++ xR ct o ad z (va_up w n v) (nI (nxt n)) (nI (kPush k)) s0 s1 i0 i1 (nI t) nd f g) sz (fun r => r = v.1 3 0)) 0 0 (va_A (stW ct (ad 8) v ++ xR ct o ad z w (nI n) (nI k) s0 s1 i0 i1 (nI t) nd f g) sz) := by
  refine Met.ofW (cc := cX5_set) (maxL := 4) (ret := (some .int)) (by decide) rfl ?_
  intro p e s m args below meth c s₁ B hml hv
  obtain ⟨rfl, hZ, hsz, hP, hK, hN, hD0⟩ := hv
  have hx := B.exec
  have hb := B.bytes
  have hr := B.returns
  have hts := atoms_spec (ws := wsX5_set) B.pre
  have hown : s.vm.findClass RX5 = some m.cls := findClass_of_methodNamed B.named
  have hlocks := B.notSynchronized
  subst hsz
  have hD := hD0.self (sz := s.heap.size)
  generalize hAe : va_A (stW ct (ad 8) v ++ xR ct o ad z w (nI n) (nI k) s0 s1 i0 i1 (nI t) nd f g) s.heap.size = A at hD hZ
  have hA : ∀ q : Nat, s.heap.size ≤ q → A q := fun q h => by rw [← hAe]; exact Or.inr h
  have hS : va_S A s.heap s.heap [] := va_S.rf
  obtain ⟨tch, zch, Tch⟩ := hZ.ch
  obtain ⟨tpt, zpt, Tpt⟩ := hZ.pt
  obtain ⟨tle, zle, Tle⟩ := hZ.le
  obtain ⟨tmo, zmo, Tmo⟩ := hZ.mo
  have w_1 := hts (.fieldLink RX5 96 "ScannedDigits" "LEAST_SETTINGS" "[I") (List.mem_of_getElem? (i := 1) rfl)
  have w_2 := hts (.fieldLink RX5 99 "ScannedDigits" "MOST_SETTINGS" "[I") (List.mem_of_getElem? (i := 2) rfl)
  have w_3 := hts (.fieldLink RX5 22 "ScannedDigits" "history" "LScannedDigits$History;") (List.mem_of_getElem? (i := 3) rfl)
  have w_4 := hts (.fieldLink RX5 10 "ScannedDigits" "now" "LScannedDigits$State;") (List.mem_of_getElem? (i := 4) rfl)
  have w_5 := hts (.fieldLink RX5 102 "ScannedDigits$State" "settings" "[I") (List.mem_of_getElem? (i := 5) rfl)
  have hiX5 : ∀ w ∈ wsX50, w ∈ wsX5_set := fun w h => (goodIn_r wsX50 [59, 60, 61, 62, 63] (by decide +kernel) (by decide +kernel) w h).1
  have hiX3 : ∀ w ∈ wsX30, w ∈ wsX5_set := fun w h => (goodIn_r wsX30 [64, 65, 66, 67, 68, 69, 70, 71, 72, 73, 74, 75, 76] (by decide +kernel) (by decide +kernel) w h).1
  have hl := lv_entry ([.ref (o 0), .int 0, .int y]) (n := 4) (Nat.le_of_ble_eq_true rfl)
  rw [lg_entry_eq]
  generalize (lg_sl ([.ref (o 0), .int 0, .int y]) ++ List.replicate (4 - (lg_sl ([.ref (o 0), .int 0, .int y])).length) Slot.unset).toArray = ls at hl ⊢
  have hl : lv_has ls 4 [(0, .ref (o 0)), (1, .int 0), (2, .int y)] := hl
  refine lv_iload_n hx hb dX5_set_0 rfl (lv_at hl 1 rfl) ?_
  refine lv_iconst (v := 0) hx hb dX5_set_1 (by decide) ?_
  refine lv_iconst (v := 2) hx hb dX5_set_2 (by decide) ?_
  refine vp_callSi (va_runS (As := [.int 0, .int 0, .int 2]) (rest := []) ⟨hx, hb, hml, hown, hts⟩ (k_X5_isWithin l D ct 0 0 2) (va_cwS 3 hts gX5_set_X5_isWithin rfl rfl rfl (by decide +kernel) ⟨Nat.le_of_ble_eq_true rfl, Nat.le_of_ble_eq_true rfl⟩) ⟨roP.blind, roP.at pw_nil hK hN⟩ rfl rfl hl.1 rfl (lv_room (Nat.le_of_ble_eq_true rfl)) dX5_set_3 ⟨Nat.le_of_ble_eq_true rfl, Nat.le_of_ble_eq_true rfl⟩).run (fun r_3 h_3 => ?_)
  obtain rfl : r_3 = pIn 0 0 2 := h_3
  refine lv_if_ne (tgt := 11) hx hb dX5_set_6 (by decide) (fun c_6 => ?_) (fun c_6 => ?_)
  · refine lv_iload_n hx hb dX5_set_11 rfl (lv_at hl 2 rfl) ?_
    refine va_gets hx hb zle hS hown w_1 (fun _ h9 => h9) dX5_set_12 ?_
    refine lv_iload_n hx hb dX5_set_15 rfl (lv_at hl 1 rfl) ?_
    refine rt_i hx hb Tle hS (k := 0) (rfl) (by decide) (by decide) dX5_set_16 ?_
    refine lv_as (y := 2) (rfl) ?_
    refine va_gets hx hb zmo hS hown w_2 (fun _ h9 => h9) dX5_set_17 ?_
    refine lv_iload_n hx hb dX5_set_20 rfl (lv_at hl 1 rfl) ?_
    refine rt_i hx hb Tmo hS (k := 0) (rfl) (by decide) (by decide) dX5_set_21 ?_
    refine lv_as (y := 50) (rfl) ?_
    refine vp_callSi (va_runS (As := [.int y, .int 2, .int 50]) (rest := []) ⟨hx, hb, hml, hown, hts⟩ (k_X5_isWithin l D ct y 2 50) (va_cwS 3 hts gX5_set_X5_isWithin rfl rfl rfl (by decide +kernel) ⟨Nat.le_of_ble_eq_true rfl, Nat.le_of_ble_eq_true rfl⟩) ⟨roP.blind, roP.at pw_nil hK hN⟩ rfl rfl hl.1 rfl (lv_room (Nat.le_of_ble_eq_true rfl)) dX5_set_22 ⟨Nat.le_of_ble_eq_true rfl, Nat.le_of_ble_eq_true rfl⟩).run (fun r_22 h_22 => ?_)
    obtain rfl : r_22 = pIn y 2 50 := h_22
    refine lv_if_ne (tgt := 31) hx hb dX5_set_25 (by decide) (fun c_25 => ?_) (fun c_25 => ?_)
    · refine lv_aload_n hx hb dX5_set_31 rfl (lv_at hl 0 rfl) ?_
      refine va_get (D := D) (ci := 5) (v := .ref (o 7)) (C := RX5) (T := TX5) (N := 5) hx hb hts hiX5 hown hK hP 29 (xw_get (i := 0) rfl) rfl 2 (by decide) w_3 (fun _ h9 => h9) rfl dX5_set_32 ?_
      refine lv_aload_n hx hb dX5_set_35 rfl (lv_at hl 0 rfl) ?_
      refine va_get (D := D) (ci := 5) (v := .ref ((ad 8) 0)) (C := RX5) (T := TX5) (N := 5) hx hb hts hiX5 hown hK hP 29 (xw_get (i := 0) rfl) rfl 0 (by decide) w_4 (fun _ h9 => h9) rfl dX5_set_36 ?_
      have hFc_39 := w_free (wc := hsW ct (o 7) (o 8) ad (nI n) (nI k) w (ad 8) v) hD (xw_h) hS hA
      refine va_callv (va_runV (As := [.ref ((ad 8) 0)]) (rest := []) ⟨hx, hb, hml, hown, hts⟩ (k_X1_record l D ct _ (o 7) (o 8) ad n k hn w (ad 8) v hk) (cwV 1 hts gX5_set_X1_record rfl rfl rfl (by decide +kernel) ⟨Nat.le_of_ble_eq_true rfl, Nat.le_of_ble_eq_true rfl⟩) ⟨muP.blind, va_recv hK (pw_cut xw_h hP) (ci := 1) (q0 := 0) rfl rfl, muP.at (pw_cut xw_h hP) (dw_cut xw_h hD) hK hN⟩ rfl rfl hl.1 rfl (lv_room (Nat.le_of_ble_eq_true rfl)) dX5_set_39 ⟨Nat.le_of_ble_eq_true rfl, Nat.le_of_ble_eq_true rfl⟩) hS (fun q _ h => hFc_39 q h) hFc_39 (fun uu tt H1 locs ht hvm hw hB hz1 hk1 hS => ?_)
      obtain ⟨hP, hD⟩ := muE.join (ws' := stW ct (ad 8) v ++ xR ct o ad z (va_up w n v) (nI (nxt n)) (nI (kPush k)) s0 s1 i0 i1 (nI t) nd f g) hP hD (xw_h) (xw_h) hk1 hFc_39 ht hB
      generalize H1 = H at hP hS ⊢
      refine lv_aload_n hx hb dX5_set_42 rfl (lv_at hl 0 rfl) ?_
      refine va_get (D := D) (ci := 5) (v := .ref ((ad 8) 0)) (C := RX5) (T := TX5) (N := 5) hx hb hts hiX5 hown hK hP 29 (xw_get (i := 0) rfl) rfl 0 (by decide) w_4 (fun _ h9 => h9) rfl dX5_set_43 ?_
      refine va_get (D := D) (ci := 3) (v := .ref ((ad 8) 4)) (C := RX3) (T := TX3) (N := 13) hx hb hts hiX3 hown hK hP 0 sa_c0 rfl 4 (by decide) w_5 (fun _ h9 => h9) rfl dX5_set_46 ?_
      refine lv_iload_n hx hb dX5_set_49 rfl (lv_at hl 1 rfl) ?_
      refine r_iald hx hb hK hP 4 0 sa_c4 rfl (k := 0) (rfl) (by decide) (by decide) dX5_set_50 ?_
      refine lv_istore_n (lv' := [(3, .int ((v.1 3) 0)), (0, .ref (o 0)), (1, .int 0), (2, .int y)]) hx hb dX5_set_51 rfl hl (by decide) rfl (fun ls hl => ?_)
      refine lv_aload_n hx hb dX5_set_52 rfl (lv_at hl 1 rfl) ?_
      refine va_get (D := D) (ci := 5) (v := .ref ((ad 8) 0)) (C := RX5) (T := TX5) (N := 5) hx hb hts hiX5 hown hK hP 29 (xw_get (i := 0) rfl) rfl 0 (by decide) w_4 (fun _ h9 => h9) rfl dX5_set_53 ?_
      refine va_get (D := D) (ci := 3) (v := .ref ((ad 8) 4)) (C := RX3) (T := TX3) (N := 13) hx hb hts hiX3 hown hK hP 0 sa_c0 rfl 4 (by decide) w_5 (fun _ h9 => h9) rfl dX5_set_56 ?_
      refine lv_iload_n hx hb dX5_set_59 rfl (lv_at hl 2 rfl) ?_
      refine lv_iload_n hx hb dX5_set_60 rfl (lv_at hl 3 rfl) ?_
      refine r_iast hx hb hK hP hD hS 4 0 sa_c4 rfl (k := 0) (rfl) (by decide) (by decide) dX5_set_61 (fun H locs hP hD hS => ?_)
      have hP : va_P D vwCl (stW ct (ad 8) (sC v 3 (upd (v.1 3) 0 y)) ++ xR ct o ad z (va_up w n v) (nI (nxt n)) (nI (kPush k)) s0 s1 i0 i1 (nI t) nd f g) H := sa_p3 (upd (v.1 3) 0 y) hP
      have hD : va_D A (stW ct (ad 8) (sC v 3 (upd (v.1 3) 0 y)) ++ xR ct o ad z (va_up w n v) (nI (nxt n)) (nI (kPush k)) s0 s1 i0 i1 (nI t) nd f g) := sa_dset (by decide) hD
      refine lv_iload_n hx hb dX5_set_62 rfl (lv_at hl 0 rfl) ?_
      have hP9 : va_P D vwCl (stW ct (ad 8) (s2 v 3 0 y) ++ xR ct o ad z (va_up w n v) (nI (nxt n)) (nI (kPush k)) s0 s1 i0 i1 (nI t) nd f g) _ := hP
      have hD9 : va_D A (stW ct (ad 8) (s2 v 3 0 y) ++ xR ct o ad z (va_up w n v) (nI (nxt n)) (nI (kPush k)) s0 s1 i0 i1 (nI t) nd f g) := hD
      subst hAe
      exact W.iret (v := ((v.1 3) 0)) hx hb hr (fun tt ht hW => ⟨⟨((v.1 3) 0), (), rfl, rfl, muE.of (ct := ct) hP9 hD9 ht⟩, hS.F ht⟩) hS.2.2 dX5_set_63
    · exact absurd c_25 hin
  · exact absurd c_6 (by decide)
set_option maxHeartbeats 4000000 in
set_option maxRecDepth 100000 in
theorem k_X5_set_e2_1 (l : Launch) (D : va_G) (ct : Nat → ClassId) (o : Nat → Nat) (ad : Nat → Nat → Nat) (v z : SV) (w : Nat → SV) (n k : Nat) (hn : n < 5) (hk : k ≤ 5) (s0 s1 : SV) (i0 i1 : Int32) (t : Nat) (nd : Int32) (f g : Nat → Int32) (y : Int32) (hin : pIn y 1 1000 = 0) : Met l yX5_set wsX5_set ({ frames := 4, cells := 0, slots := 0, locals := 104 }) (roPS D ct (stW ct (ad 8) v ++ xR ct o ad z w (nI n) (nI k) s0 s1 i0 i1 (nI t) nd f g) [.ref (o 0), .int 1, .int y]) (vp_Si (fun r => r = -2)) 0 0 noA := by
  refine Met.ofW (cc := cX5_set) (maxL := 4) (ret := (some .int)) (by decide) rfl ?_
  intro p e s m args below meth c s₁ B hml hv
  obtain ⟨rfl, hZ, hP, hK, hN⟩ := hv
  have hx := B.exec
  have hb := B.bytes
  have hr := B.returns
  have hts := atoms_spec (ws := wsX5_set) B.pre
  have hown : s.vm.findClass RX5 = some m.cls := findClass_of_methodNamed B.named
  have hlocks := B.notSynchronized
  have hS : va_S noA s.heap s.heap [] := va_S.rf
  obtain ⟨tch, zch, Tch⟩ := hZ.ch
  obtain ⟨tpt, zpt, Tpt⟩ := hZ.pt
  obtain ⟨tle, zle, Tle⟩ := hZ.le
  obtain ⟨tmo, zmo, Tmo⟩ := hZ.mo
  have w_1 := hts (.fieldLink RX5 96 "ScannedDigits" "LEAST_SETTINGS" "[I") (List.mem_of_getElem? (i := 1) rfl)
  have w_2 := hts (.fieldLink RX5 99 "ScannedDigits" "MOST_SETTINGS" "[I") (List.mem_of_getElem? (i := 2) rfl)
  have hl := lv_entry ([.ref (o 0), .int 1, .int y]) (n := 4) (Nat.le_of_ble_eq_true rfl)
  rw [lg_entry_eq]
  generalize (lg_sl ([.ref (o 0), .int 1, .int y]) ++ List.replicate (4 - (lg_sl ([.ref (o 0), .int 1, .int y])).length) Slot.unset).toArray = ls at hl ⊢
  have hl : lv_has ls 4 [(0, .ref (o 0)), (1, .int 1), (2, .int y)] := hl
  refine lv_iload_n hx hb dX5_set_0 rfl (lv_at hl 1 rfl) ?_
  refine lv_iconst (v := 0) hx hb dX5_set_1 (by decide) ?_
  refine lv_iconst (v := 2) hx hb dX5_set_2 (by decide) ?_
  refine vp_callSi (va_runS (As := [.int 1, .int 0, .int 2]) (rest := []) ⟨hx, hb, hml, hown, hts⟩ (k_X5_isWithin l D ct 1 0 2) (va_cwS 3 hts gX5_set_X5_isWithin rfl rfl rfl (by decide +kernel) ⟨Nat.le_of_ble_eq_true rfl, Nat.le_of_ble_eq_true rfl⟩) ⟨roP.blind, roP.at pw_nil hK hN⟩ rfl rfl hl.1 rfl (lv_room (Nat.le_of_ble_eq_true rfl)) dX5_set_3 ⟨Nat.le_of_ble_eq_true rfl, Nat.le_of_ble_eq_true rfl⟩).run (fun r_3 h_3 => ?_)
  obtain rfl : r_3 = pIn 1 0 2 := h_3
  refine lv_if_ne (tgt := 11) hx hb dX5_set_6 (by decide) (fun c_6 => ?_) (fun c_6 => ?_)
  · refine lv_iload_n hx hb dX5_set_11 rfl (lv_at hl 2 rfl) ?_
    refine va_gets hx hb zle hS hown w_1 (fun _ h9 => h9) dX5_set_12 ?_
    refine lv_iload_n hx hb dX5_set_15 rfl (lv_at hl 1 rfl) ?_
    refine rt_i hx hb Tle hS (k := 1) (rfl) (by decide) (by decide) dX5_set_16 ?_
    refine lv_as (y := 1) (rfl) ?_
    refine va_gets hx hb zmo hS hown w_2 (fun _ h9 => h9) dX5_set_17 ?_
    refine lv_iload_n hx hb dX5_set_20 rfl (lv_at hl 1 rfl) ?_
    refine rt_i hx hb Tmo hS (k := 1) (rfl) (by decide) (by decide) dX5_set_21 ?_
    refine lv_as (y := 1000) (rfl) ?_
    refine vp_callSi (va_runS (As := [.int y, .int 1, .int 1000]) (rest := []) ⟨hx, hb, hml, hown, hts⟩ (k_X5_isWithin l D ct y 1 1000) (va_cwS 3 hts gX5_set_X5_isWithin rfl rfl rfl (by decide +kernel) ⟨Nat.le_of_ble_eq_true rfl, Nat.le_of_ble_eq_true rfl⟩) ⟨roP.blind, roP.at pw_nil hK hN⟩ rfl rfl hl.1 rfl (lv_room (Nat.le_of_ble_eq_true rfl)) dX5_set_22 ⟨Nat.le_of_ble_eq_true rfl, Nat.le_of_ble_eq_true rfl⟩).run (fun r_22 h_22 => ?_)
    obtain rfl : r_22 = pIn y 1 1000 := h_22
    refine lv_if_ne (tgt := 31) hx hb dX5_set_25 (by decide) (fun c_25 => ?_) (fun c_25 => ?_)
    · exact absurd hin c_25
    · refine lv_bipush (v := (-2)) hx hb dX5_set_28 (by decide) ?_
      exact W.iret (v := (-2)) hx hb hr (fun tt ht hW => ⟨(-2), rfl, rfl, ht⟩) (fun q hq => absurd hq List.not_mem_nil) dX5_set_30
  · exact absurd c_6 (by decide)
set_option maxHeartbeats 4000000 in
set_option maxRecDepth 100000 in
theorem k_X5_set_ok_1 (l : Launch) (D : va_G) (ct : Nat → ClassId) (sz : Nat) (o : Nat → Nat) (ad : Nat → Nat → Nat) (v z : SV) (w : Nat → SV) (n k : Nat) (hn : n < 5) (hk : k ≤ 5) (s0 s1 : SV) (i0 i1 : Int32) (t : Nat) (nd : Int32) (f g : Nat → Int32) (y : Int32) (hin : ¬ pIn y 1 1000 = 0) : Met l yX5_set wsX5_set ({ frames := 4, cells := 0, slots := 0, locals := 104 }) (muPS D ct (stW ct (ad 8) v ++ xR ct o ad z w (nI n) (nI k) s0 s1 i0 i1 (nI t) nd f g) sz [.ref (o 0), .int 1, .int y]) (muI D ct (stW ct (ad 8) v ++ xR ct o ad z w (nI n) (nI k) s0 s1 i0 i1 (nI t) nd f g) (stW ct (ad 8) (s2 v 3 1 y) ++ xR ct o ad z (va_up w n v) (nI (nxt n)) (nI (kPush k)) s0 s1 i0 i1 (nI t) nd f g) sz (fun r => r = v.1 3 1)) 0 0 (va_A (stW ct (ad 8) v ++ xR ct o ad z w (nI n) (nI k) s0 s1 i0 i1 (nI t) nd f g) sz) := by
  refine Met.ofW (cc := cX5_set) (maxL := 4) (ret := (some .int)) (by decide) rfl ?_
  intro p e s m args below meth c s₁ B hml hv
  obtain ⟨rfl, hZ, hsz, hP, hK, hN, hD0⟩ := hv
  have hx := B.exec
  have hb := B.bytes
  have hr := B.returns
  have hts := atoms_spec (ws := wsX5_set) B.pre
  have hown : s.vm.findClass RX5 = some m.cls := findClass_of_methodNamed B.named
  have hlocks := B.notSynchronized
  subst hsz
  have hD := hD0.self (sz := s.heap.size)
  generalize hAe : va_A (stW ct (ad 8) v ++ xR ct o ad z w (nI n) (nI k) s0 s1 i0 i1 (nI t) nd f g) s.heap.size = A at hD hZ
  have hA : ∀ q : Nat, s.heap.size ≤ q → A q := fun q h => by rw [← hAe]; exact Or.inr h
  have hS : va_S A s.heap s.heap [] := va_S.rf
  obtain ⟨tch, zch, Tch⟩ := hZ.ch
  obtain ⟨tpt, zpt, Tpt⟩ := hZ.pt
  obtain ⟨tle, zle, Tle⟩ := hZ.le
  obtain ⟨tmo, zmo, Tmo⟩ := hZ.mo
  have w_1 := hts (.fieldLink RX5 96 "ScannedDigits" "LEAST_SETTINGS" "[I") (List.mem_of_getElem? (i := 1) rfl)
  have w_2 := hts (.fieldLink RX5 99 "ScannedDigits" "MOST_SETTINGS" "[I") (List.mem_of_getElem? (i := 2) rfl)
  have w_3 := hts (.fieldLink RX5 22 "ScannedDigits" "history" "LScannedDigits$History;") (List.mem_of_getElem? (i := 3) rfl)
  have w_4 := hts (.fieldLink RX5 10 "ScannedDigits" "now" "LScannedDigits$State;") (List.mem_of_getElem? (i := 4) rfl)
  have w_5 := hts (.fieldLink RX5 102 "ScannedDigits$State" "settings" "[I") (List.mem_of_getElem? (i := 5) rfl)
  have hiX5 : ∀ w ∈ wsX50, w ∈ wsX5_set := fun w h => (goodIn_r wsX50 [59, 60, 61, 62, 63] (by decide +kernel) (by decide +kernel) w h).1
  have hiX3 : ∀ w ∈ wsX30, w ∈ wsX5_set := fun w h => (goodIn_r wsX30 [64, 65, 66, 67, 68, 69, 70, 71, 72, 73, 74, 75, 76] (by decide +kernel) (by decide +kernel) w h).1
  have hl := lv_entry ([.ref (o 0), .int 1, .int y]) (n := 4) (Nat.le_of_ble_eq_true rfl)
  rw [lg_entry_eq]
  generalize (lg_sl ([.ref (o 0), .int 1, .int y]) ++ List.replicate (4 - (lg_sl ([.ref (o 0), .int 1, .int y])).length) Slot.unset).toArray = ls at hl ⊢
  have hl : lv_has ls 4 [(0, .ref (o 0)), (1, .int 1), (2, .int y)] := hl
  refine lv_iload_n hx hb dX5_set_0 rfl (lv_at hl 1 rfl) ?_
  refine lv_iconst (v := 0) hx hb dX5_set_1 (by decide) ?_
  refine lv_iconst (v := 2) hx hb dX5_set_2 (by decide) ?_
  refine vp_callSi (va_runS (As := [.int 1, .int 0, .int 2]) (rest := []) ⟨hx, hb, hml, hown, hts⟩ (k_X5_isWithin l D ct 1 0 2) (va_cwS 3 hts gX5_set_X5_isWithin rfl rfl rfl (by decide +kernel) ⟨Nat.le_of_ble_eq_true rfl, Nat.le_of_ble_eq_true rfl⟩) ⟨roP.blind, roP.at pw_nil hK hN⟩ rfl rfl hl.1 rfl (lv_room (Nat.le_of_ble_eq_true rfl)) dX5_set_3 ⟨Nat.le_of_ble_eq_true rfl, Nat.le_of_ble_eq_true rfl⟩).run (fun r_3 h_3 => ?_)
  obtain rfl : r_3 = pIn 1 0 2 := h_3
  refine lv_if_ne (tgt := 11) hx hb dX5_set_6 (by decide) (fun c_6 => ?_) (fun c_6 => ?_)
  · refine lv_iload_n hx hb dX5_set_11 rfl (lv_at hl 2 rfl) ?_
    refine va_gets hx hb zle hS hown w_1 (fun _ h9 => h9) dX5_set_12 ?_
    refine lv_iload_n hx hb dX5_set_15 rfl (lv_at hl 1 rfl) ?_
    refine rt_i hx hb Tle hS (k := 1) (rfl) (by decide) (by decide) dX5_set_16 ?_
    refine lv_as (y := 1) (rfl) ?_
    refine va_gets hx hb zmo hS hown w_2 (fun _ h9 => h9) dX5_set_17 ?_
    refine lv_iload_n hx hb dX5_set_20 rfl (lv_at hl 1 rfl) ?_
    refine rt_i hx hb Tmo hS (k := 1) (rfl) (by decide) (by decide) dX5_set_21 ?_
    refine lv_as (y := 1000) (rfl) ?_
    refine vp_callSi (va_runS (As := [.int y, .int 1, .int 1000]) (rest := []) ⟨hx, hb, hml, hown, hts⟩ (k_X5_isWithin l D ct y 1 1000) (va_cwS 3 hts gX5_set_X5_isWithin rfl rfl rfl (by decide +kernel) ⟨Nat.le_of_ble_eq_true rfl, Nat.le_of_ble_eq_true rfl⟩) ⟨roP.blind, roP.at pw_nil hK hN⟩ rfl rfl hl.1 rfl (lv_room (Nat.le_of_ble_eq_true rfl)) dX5_set_22 ⟨Nat.le_of_ble_eq_true rfl, Nat.le_of_ble_eq_true rfl⟩).run (fun r_22 h_22 => ?_)
    obtain rfl : r_22 = pIn y 1 1000 := h_22
    refine lv_if_ne (tgt := 31) hx hb dX5_set_25 (by decide) (fun c_25 => ?_) (fun c_25 => ?_)
    · refine lv_aload_n hx hb dX5_set_31 rfl (lv_at hl 0 rfl) ?_
      refine va_get (D := D) (ci := 5) (v := .ref (o 7)) (C := RX5) (T := TX5) (N := 5) hx hb hts hiX5 hown hK hP 29 (xw_get (i := 0) rfl) rfl 2 (by decide) w_3 (fun _ h9 => h9) rfl dX5_set_32 ?_
      refine lv_aload_n hx hb dX5_set_35 rfl (lv_at hl 0 rfl) ?_
      refine va_get (D := D) (ci := 5) (v := .ref ((ad 8) 0)) (C := RX5) (T := TX5) (N := 5) hx hb hts hiX5 hown hK hP 29 (xw_get (i := 0) rfl) rfl 0 (by decide) w_4 (fun _ h9 => h9) rfl dX5_set_36 ?_
      have hFc_39 := w_free (wc := hsW ct (o 7) (o 8) ad (nI n) (nI k) w (ad 8) v) hD (xw_h) hS hA
      refine va_callv (va_runV (As := [.ref ((ad 8) 0)]) (rest := []) ⟨hx, hb, hml, hown, hts⟩ (k_X1_record l D ct _ (o 7) (o 8) ad n k hn w (ad 8) v hk) (cwV 1 hts gX5_set_X1_record rfl rfl rfl (by decide +kernel) ⟨Nat.le_of_ble_eq_true rfl, Nat.le_of_ble_eq_true rfl⟩) ⟨muP.blind, va_recv hK (pw_cut xw_h hP) (ci := 1) (q0 := 0) rfl rfl, muP.at (pw_cut xw_h hP) (dw_cut xw_h hD) hK hN⟩ rfl rfl hl.1 rfl (lv_room (Nat.le_of_ble_eq_true rfl)) dX5_set_39 ⟨Nat.le_of_ble_eq_true rfl, Nat.le_of_ble_eq_true rfl⟩) hS (fun q _ h => hFc_39 q h) hFc_39 (fun uu tt H1 locs ht hvm hw hB hz1 hk1 hS => ?_)
      obtain ⟨hP, hD⟩ := muE.join (ws' := stW ct (ad 8) v ++ xR ct o ad z (va_up w n v) (nI (nxt n)) (nI (kPush k)) s0 s1 i0 i1 (nI t) nd f g) hP hD (xw_h) (xw_h) hk1 hFc_39 ht hB
      generalize H1 = H at hP hS ⊢
      refine lv_aload_n hx hb dX5_set_42 rfl (lv_at hl 0 rfl) ?_
      refine va_get (D := D) (ci := 5) (v := .ref ((ad 8) 0)) (C := RX5) (T := TX5) (N := 5) hx hb hts hiX5 hown hK hP 29 (xw_get (i := 0) rfl) rfl 0 (by decide) w_4 (fun _ h9 => h9) rfl dX5_set_43 ?_
      refine va_get (D := D) (ci := 3) (v := .ref ((ad 8) 4)) (C := RX3) (T := TX3) (N := 13) hx hb hts hiX3 hown hK hP 0 sa_c0 rfl 4 (by decide) w_5 (fun _ h9 => h9) rfl dX5_set_46 ?_
      refine lv_iload_n hx hb dX5_set_49 rfl (lv_at hl 1 rfl) ?_
      refine r_iald hx hb hK hP 4 0 sa_c4 rfl (k := 1) (rfl) (by decide) (by decide) dX5_set_50 ?_
      refine lv_istore_n (lv' := [(3, .int ((v.1 3) 1)), (0, .ref (o 0)), (1, .int 1), (2, .int y)]) hx hb dX5_set_51 rfl hl (by decide) rfl (fun ls hl => ?_)
      refine lv_aload_n hx hb dX5_set_52 rfl (lv_at hl 1 rfl) ?_
      refine va_get (D := D) (ci := 5) (v := .ref ((ad 8) 0)) (C := RX5) (T := TX5) (N := 5) hx hb hts hiX5 hown hK hP 29 (xw_get (i := 0) rfl) rfl 0 (by decide) w_4 (fun _ h9 => h9) rfl dX5_set_53 ?_
      refine va_get (D := D) (ci := 3) (v := .ref ((ad 8) 4)) (C := RX3) (T := TX3) (N := 13) hx hb hts hiX3 hown hK hP 0 sa_c0 rfl 4 (by decide) w_5 (fun _ h9 => h9) rfl dX5_set_56 ?_
      refine lv_iload_n hx hb dX5_set_59 rfl (lv_at hl 2 rfl) ?_
      refine lv_iload_n hx hb dX5_set_60 rfl (lv_at hl 3 rfl) ?_
      refine r_iast hx hb hK hP hD hS 4 0 sa_c4 rfl (k := 1) (rfl) (by decide) (by decide) dX5_set_61 (fun H locs hP hD hS => ?_)
      have hP : va_P D vwCl (stW ct (ad 8) (sC v 3 (upd (v.1 3) 1 y)) ++ xR ct o ad z (va_up w n v) (nI (nxt n)) (nI (kPush k)) s0 s1 i0 i1 (nI t) nd f g) H := sa_p3 (upd (v.1 3) 1 y) hP
      have hD : va_D A (stW ct (ad 8) (sC v 3 (upd (v.1 3) 1 y)) ++ xR ct o ad z (va_up w n v) (nI (nxt n)) (nI (kPush k)) s0 s1 i0 i1 (nI t) nd f g) := sa_dset (by decide) hD
      refine lv_iload_n hx hb dX5_set_62 rfl (lv_at hl 0 rfl) ?_
      have hP9 : va_P D vwCl (stW ct (ad 8) (s2 v 3 1 y) ++ xR ct o ad z (va_up w n v) (nI (nxt n)) (nI (kPush k)) s0 s1 i0 i1 (nI t) nd f g) _ := hP
      have hD9 : va_D A (stW ct (ad 8) (s2 v 3 1 y) ++ xR ct o ad z (va_up w n v) (nI (nxt n)) (nI (kPush k)) s0 s1 i0 i1 (nI t) nd f g) := hD
      subst hAe
      exact W.iret (v := ((v.1 3) 1)) hx hb hr (fun tt ht hW => ⟨⟨((v.1 3) 1), (), rfl, rfl, muE.of (ct := ct) hP9 hD9 ht⟩, hS.F ht⟩) hS.2.2 dX5_set_63
    · exact absurd c_25 hin
  · exact absurd c_6 (by decide)
set_option maxHeartbeats 4000000 in
set_option maxRecDepth 100000 in
theorem k_X5_set_e2_2 (l : Launch) (D : va_G) (ct : Nat → ClassId) (o : Nat → Nat) (ad : Nat → Nat → Nat) (v z : SV) (w : Nat → SV) (n k : Nat) (hn : n < 5) (hk : k ≤ 5) (s0 s1 : SV) (i0 i1 : Int32) (t : Nat) (nd : Int32) (f g : Nat → Int32) (y : Int32) (hin : pIn y 1 1000000 = 0) : Met l yX5_set wsX5_set ({ frames := 4, cells := 0, slots := 0, locals := 104 }) (roPS D ct (stW ct (ad 8) v ++ xR ct o ad z w (nI n) (nI k) s0 s1 i0 i1 (nI t) nd f g) [.ref (o 0), .int 2, .int y]) (vp_Si (fun r => r = -2)) 0 0 noA := by
  refine Met.ofW (cc := cX5_set) (maxL := 4) (ret := (some .int)) (by decide) rfl ?_
  intro p e s m args below meth c s₁ B hml hv
  obtain ⟨rfl, hZ, hP, hK, hN⟩ := hv
  have hx := B.exec
  have hb := B.bytes
  have hr := B.returns
  have hts := atoms_spec (ws := wsX5_set) B.pre
  have hown : s.vm.findClass RX5 = some m.cls := findClass_of_methodNamed B.named
  have hlocks := B.notSynchronized
  have hS : va_S noA s.heap s.heap [] := va_S.rf
  obtain ⟨tch, zch, Tch⟩ := hZ.ch
  obtain ⟨tpt, zpt, Tpt⟩ := hZ.pt
  obtain ⟨tle, zle, Tle⟩ := hZ.le
  obtain ⟨tmo, zmo, Tmo⟩ := hZ.mo
  have w_1 := hts (.fieldLink RX5 96 "ScannedDigits" "LEAST_SETTINGS" "[I") (List.mem_of_getElem? (i := 1) rfl)
  have w_2 := hts (.fieldLink RX5 99 "ScannedDigits" "MOST_SETTINGS" "[I") (List.mem_of_getElem? (i := 2) rfl)
  have hl := lv_entry ([.ref (o 0), .int 2, .int y]) (n := 4) (Nat.le_of_ble_eq_true rfl)
  rw [lg_entry_eq]
  generalize (lg_sl ([.ref (o 0), .int 2, .int y]) ++ List.replicate (4 - (lg_sl ([.ref (o 0), .int 2, .int y])).length) Slot.unset).toArray = ls at hl ⊢
  have hl : lv_has ls 4 [(0, .ref (o 0)), (1, .int 2), (2, .int y)] := hl
  refine lv_iload_n hx hb dX5_set_0 rfl (lv_at hl 1 rfl) ?_
  refine lv_iconst (v := 0) hx hb dX5_set_1 (by decide) ?_
  refine lv_iconst (v := 2) hx hb dX5_set_2 (by decide) ?_
  refine vp_callSi (va_runS (As := [.int 2, .int 0, .int 2]) (rest := []) ⟨hx, hb, hml, hown, hts⟩ (k_X5_isWithin l D ct 2 0 2) (va_cwS 3 hts gX5_set_X5_isWithin rfl rfl rfl (by decide +kernel) ⟨Nat.le_of_ble_eq_true rfl, Nat.le_of_ble_eq_true rfl⟩) ⟨roP.blind, roP.at pw_nil hK hN⟩ rfl rfl hl.1 rfl (lv_room (Nat.le_of_ble_eq_true rfl)) dX5_set_3 ⟨Nat.le_of_ble_eq_true rfl, Nat.le_of_ble_eq_true rfl⟩).run (fun r_3 h_3 => ?_)
  obtain rfl : r_3 = pIn 2 0 2 := h_3
  refine lv_if_ne (tgt := 11) hx hb dX5_set_6 (by decide) (fun c_6 => ?_) (fun c_6 => ?_)
  · refine lv_iload_n hx hb dX5_set_11 rfl (lv_at hl 2 rfl) ?_
    refine va_gets hx hb zle hS hown w_1 (fun _ h9 => h9) dX5_set_12 ?_
    refine lv_iload_n hx hb dX5_set_15 rfl (lv_at hl 1 rfl) ?_
    refine rt_i hx hb Tle hS (k := 2) (rfl) (by decide) (by decide) dX5_set_16 ?_
    refine lv_as (y := 1) (rfl) ?_
    refine va_gets hx hb zmo hS hown w_2 (fun _ h9 => h9) dX5_set_17 ?_
    refine lv_iload_n hx hb dX5_set_20 rfl (lv_at hl 1 rfl) ?_
    refine rt_i hx hb Tmo hS (k := 2) (rfl) (by decide) (by decide) dX5_set_21 ?_
    refine lv_as (y := 1000000) (rfl) ?_
    refine vp_callSi (va_runS (As := [.int y, .int 1, .int 1000000]) (rest := []) ⟨hx, hb, hml, hown, hts⟩ (k_X5_isWithin l D ct y 1 1000000) (va_cwS 3 hts gX5_set_X5_isWithin rfl rfl rfl (by decide +kernel) ⟨Nat.le_of_ble_eq_true rfl, Nat.le_of_ble_eq_true rfl⟩) ⟨roP.blind, roP.at pw_nil hK hN⟩ rfl rfl hl.1 rfl (lv_room (Nat.le_of_ble_eq_true rfl)) dX5_set_22 ⟨Nat.le_of_ble_eq_true rfl, Nat.le_of_ble_eq_true rfl⟩).run (fun r_22 h_22 => ?_)
    obtain rfl : r_22 = pIn y 1 1000000 := h_22
    refine lv_if_ne (tgt := 31) hx hb dX5_set_25 (by decide) (fun c_25 => ?_) (fun c_25 => ?_)
    · exact absurd hin c_25
    · refine lv_bipush (v := (-2)) hx hb dX5_set_28 (by decide) ?_
      exact W.iret (v := (-2)) hx hb hr (fun tt ht hW => ⟨(-2), rfl, rfl, ht⟩) (fun q hq => absurd hq List.not_mem_nil) dX5_set_30
  · exact absurd c_6 (by decide)
set_option maxHeartbeats 4000000 in
set_option maxRecDepth 100000 in
theorem k_X5_set_ok_2 (l : Launch) (D : va_G) (ct : Nat → ClassId) (sz : Nat) (o : Nat → Nat) (ad : Nat → Nat → Nat) (v z : SV) (w : Nat → SV) (n k : Nat) (hn : n < 5) (hk : k ≤ 5) (s0 s1 : SV) (i0 i1 : Int32) (t : Nat) (nd : Int32) (f g : Nat → Int32) (y : Int32) (hin : ¬ pIn y 1 1000000 = 0) : Met l yX5_set wsX5_set ({ frames := 4, cells := 0, slots := 0, locals := 104 }) (muPS D ct (stW ct (ad 8) v ++ xR ct o ad z w (nI n) (nI k) s0 s1 i0 i1 (nI t) nd f g) sz [.ref (o 0), .int 2, .int y]) (muI D ct (stW ct (ad 8) v ++ xR ct o ad z w (nI n) (nI k) s0 s1 i0 i1 (nI t) nd f g) (stW ct (ad 8) (s2 v 3 2 y) ++ xR ct o ad z (va_up w n v) (nI (nxt n)) (nI (kPush k)) s0 s1 i0 i1 (nI t) nd f g) sz (fun r => r = v.1 3 2)) 0 0 (va_A (stW ct (ad 8) v ++ xR ct o ad z w (nI n) (nI k) s0 s1 i0 i1 (nI t) nd f g) sz) := by
  refine Met.ofW (cc := cX5_set) (maxL := 4) (ret := (some .int)) (by decide) rfl ?_
  intro p e s m args below meth c s₁ B hml hv
  obtain ⟨rfl, hZ, hsz, hP, hK, hN, hD0⟩ := hv
  have hx := B.exec
  have hb := B.bytes
  have hr := B.returns
  have hts := atoms_spec (ws := wsX5_set) B.pre
  have hown : s.vm.findClass RX5 = some m.cls := findClass_of_methodNamed B.named
  have hlocks := B.notSynchronized
  subst hsz
  have hD := hD0.self (sz := s.heap.size)
  generalize hAe : va_A (stW ct (ad 8) v ++ xR ct o ad z w (nI n) (nI k) s0 s1 i0 i1 (nI t) nd f g) s.heap.size = A at hD hZ
  have hA : ∀ q : Nat, s.heap.size ≤ q → A q := fun q h => by rw [← hAe]; exact Or.inr h
  have hS : va_S A s.heap s.heap [] := va_S.rf
  obtain ⟨tch, zch, Tch⟩ := hZ.ch
  obtain ⟨tpt, zpt, Tpt⟩ := hZ.pt
  obtain ⟨tle, zle, Tle⟩ := hZ.le
  obtain ⟨tmo, zmo, Tmo⟩ := hZ.mo
  have w_1 := hts (.fieldLink RX5 96 "ScannedDigits" "LEAST_SETTINGS" "[I") (List.mem_of_getElem? (i := 1) rfl)
  have w_2 := hts (.fieldLink RX5 99 "ScannedDigits" "MOST_SETTINGS" "[I") (List.mem_of_getElem? (i := 2) rfl)
  have w_3 := hts (.fieldLink RX5 22 "ScannedDigits" "history" "LScannedDigits$History;") (List.mem_of_getElem? (i := 3) rfl)
  have w_4 := hts (.fieldLink RX5 10 "ScannedDigits" "now" "LScannedDigits$State;") (List.mem_of_getElem? (i := 4) rfl)
  have w_5 := hts (.fieldLink RX5 102 "ScannedDigits$State" "settings" "[I") (List.mem_of_getElem? (i := 5) rfl)
  have hiX5 : ∀ w ∈ wsX50, w ∈ wsX5_set := fun w h => (goodIn_r wsX50 [59, 60, 61, 62, 63] (by decide +kernel) (by decide +kernel) w h).1
  have hiX3 : ∀ w ∈ wsX30, w ∈ wsX5_set := fun w h => (goodIn_r wsX30 [64, 65, 66, 67, 68, 69, 70, 71, 72, 73, 74, 75, 76] (by decide +kernel) (by decide +kernel) w h).1
  have hl := lv_entry ([.ref (o 0), .int 2, .int y]) (n := 4) (Nat.le_of_ble_eq_true rfl)
  rw [lg_entry_eq]
  generalize (lg_sl ([.ref (o 0), .int 2, .int y]) ++ List.replicate (4 - (lg_sl ([.ref (o 0), .int 2, .int y])).length) Slot.unset).toArray = ls at hl ⊢
  have hl : lv_has ls 4 [(0, .ref (o 0)), (1, .int 2), (2, .int y)] := hl
  refine lv_iload_n hx hb dX5_set_0 rfl (lv_at hl 1 rfl) ?_
  refine lv_iconst (v := 0) hx hb dX5_set_1 (by decide) ?_
  refine lv_iconst (v := 2) hx hb dX5_set_2 (by decide) ?_
  refine vp_callSi (va_runS (As := [.int 2, .int 0, .int 2]) (rest := []) ⟨hx, hb, hml, hown, hts⟩ (k_X5_isWithin l D ct 2 0 2) (va_cwS 3 hts gX5_set_X5_isWithin rfl rfl rfl (by decide +kernel) ⟨Nat.le_of_ble_eq_true rfl, Nat.le_of_ble_eq_true rfl⟩) ⟨roP.blind, roP.at pw_nil hK hN⟩ rfl rfl hl.1 rfl (lv_room (Nat.le_of_ble_eq_true rfl)) dX5_set_3 ⟨Nat.le_of_ble_eq_true rfl, Nat.le_of_ble_eq_true rfl⟩).run (fun r_3 h_3 => ?_)
  obtain rfl : r_3 = pIn 2 0 2 := h_3
  refine lv_if_ne (tgt := 11) hx hb dX5_set_6 (by decide) (fun c_6 => ?_) (fun c_6 => ?_)
  · refine lv_iload_n hx hb dX5_set_11 rfl (lv_at hl 2 rfl) ?_
    refine va_gets hx hb zle hS hown w_1 (fun _ h9 => h9) dX5_set_12 ?_
    refine lv_iload_n hx hb dX5_set_15 rfl (lv_at hl 1 rfl) ?_
    refine rt_i hx hb Tle hS (k := 2) (rfl) (by decide) (by decide) dX5_set_16 ?_
    refine lv_as (y := 1) (rfl) ?_
    refine va_gets hx hb zmo hS hown w_2 (fun _ h9 => h9) dX5_set_17 ?_
    refine lv_iload_n hx hb dX5_set_20 rfl (lv_at hl 1 rfl) ?_
    refine rt_i hx hb Tmo hS (k := 2) (rfl) (by decide) (by decide) dX5_set_21 ?_
    refine lv_as (y := 1000000) (rfl) ?_
    refine vp_callSi (va_runS (As := [.int y, .int 1, .int 1000000]) (rest := []) ⟨hx, hb, hml, hown, hts⟩ (k_X5_isWithin l D ct y 1 1000000) (va_cwS 3 hts gX5_set_X5_isWithin rfl rfl rfl (by decide +kernel) ⟨Nat.le_of_ble_eq_true rfl, Nat.le_of_ble_eq_true rfl⟩) ⟨roP.blind, roP.at pw_nil hK hN⟩ rfl rfl hl.1 rfl (lv_room (Nat.le_of_ble_eq_true rfl)) dX5_set_22 ⟨Nat.le_of_ble_eq_true rfl, Nat.le_of_ble_eq_true rfl⟩).run (fun r_22 h_22 => ?_)
    obtain rfl : r_22 = pIn y 1 1000000 := h_22
    refine lv_if_ne (tgt := 31) hx hb dX5_set_25 (by decide) (fun c_25 => ?_) (fun c_25 => ?_)
    · refine lv_aload_n hx hb dX5_set_31 rfl (lv_at hl 0 rfl) ?_
      refine va_get (D := D) (ci := 5) (v := .ref (o 7)) (C := RX5) (T := TX5) (N := 5) hx hb hts hiX5 hown hK hP 29 (xw_get (i := 0) rfl) rfl 2 (by decide) w_3 (fun _ h9 => h9) rfl dX5_set_32 ?_
      refine lv_aload_n hx hb dX5_set_35 rfl (lv_at hl 0 rfl) ?_
      refine va_get (D := D) (ci := 5) (v := .ref ((ad 8) 0)) (C := RX5) (T := TX5) (N := 5) hx hb hts hiX5 hown hK hP 29 (xw_get (i := 0) rfl) rfl 0 (by decide) w_4 (fun _ h9 => h9) rfl dX5_set_36 ?_
      have hFc_39 := w_free (wc := hsW ct (o 7) (o 8) ad (nI n) (nI k) w (ad 8) v) hD (xw_h) hS hA
      refine va_callv (va_runV (As := [.ref ((ad 8) 0)]) (rest := []) ⟨hx, hb, hml, hown, hts⟩ (k_X1_record l D ct _ (o 7) (o 8) ad n k hn w (ad 8) v hk) (cwV 1 hts gX5_set_X1_record rfl rfl rfl (by decide +kernel) ⟨Nat.le_of_ble_eq_true rfl, Nat.le_of_ble_eq_true rfl⟩) ⟨muP.blind, va_recv hK (pw_cut xw_h hP) (ci := 1) (q0 := 0) rfl rfl, muP.at (pw_cut xw_h hP) (dw_cut xw_h hD) hK hN⟩ rfl rfl hl.1 rfl (lv_room (Nat.le_of_ble_eq_true rfl)) dX5_set_39 ⟨Nat.le_of_ble_eq_true rfl, Nat.le_of_ble_eq_true rfl⟩) hS (fun q _ h => hFc_39 q h) hFc_39 (fun uu tt H1 locs ht hvm hw hB hz1 hk1 hS => ?_)
      obtain ⟨hP, hD⟩ := muE.join (ws' := stW ct (ad 8) v ++ xR ct o ad z (va_up w n v) (nI (nxt n)) (nI (kPush k)) s0 s1 i0 i1 (nI t) nd f g) hP hD (xw_h) (xw_h) hk1 hFc_39 ht hB
      generalize H1 = H at hP hS ⊢
      refine lv_aload_n hx hb dX5_set_42 rfl (lv_at hl 0 rfl) ?_
      refine va_get (D := D) (ci := 5) (v := .ref ((ad 8) 0)) (C := RX5) (T := TX5) (N := 5) hx hb hts hiX5 hown hK hP 29 (xw_get (i := 0) rfl) rfl 0 (by decide) w_4 (fun _ h9 => h9) rfl dX5_set_43 ?_
      refine va_get (D := D) (ci := 3) (v := .ref ((ad 8) 4)) (C := RX3) (T := TX3) (N := 13) hx hb hts hiX3 hown hK hP 0 sa_c0 rfl 4 (by decide) w_5 (fun _ h9 => h9) rfl dX5_set_46 ?_
      refine lv_iload_n hx hb dX5_set_49 rfl (lv_at hl 1 rfl) ?_
      refine r_iald hx hb hK hP 4 0 sa_c4 rfl (k := 2) (rfl) (by decide) (by decide) dX5_set_50 ?_
      refine lv_istore_n (lv' := [(3, .int ((v.1 3) 2)), (0, .ref (o 0)), (1, .int 2), (2, .int y)]) hx hb dX5_set_51 rfl hl (by decide) rfl (fun ls hl => ?_)
      refine lv_aload_n hx hb dX5_set_52 rfl (lv_at hl 1 rfl) ?_
      refine va_get (D := D) (ci := 5) (v := .ref ((ad 8) 0)) (C := RX5) (T := TX5) (N := 5) hx hb hts hiX5 hown hK hP 29 (xw_get (i := 0) rfl) rfl 0 (by decide) w_4 (fun _ h9 => h9) rfl dX5_set_53 ?_
      refine va_get (D := D) (ci := 3) (v := .ref ((ad 8) 4)) (C := RX3) (T := TX3) (N := 13) hx hb hts hiX3 hown hK hP 0 sa_c0 rfl 4 (by decide) w_5 (fun _ h9 => h9) rfl dX5_set_56 ?_
      refine lv_iload_n hx hb dX5_set_59 rfl (lv_at hl 2 rfl) ?_
      refine lv_iload_n hx hb dX5_set_60 rfl (lv_at hl 3 rfl) ?_
      refine r_iast hx hb hK hP hD hS 4 0 sa_c4 rfl (k := 2) (rfl) (by decide) (by decide) dX5_set_61 (fun H locs hP hD hS => ?_)
      have hP : va_P D vwCl (stW ct (ad 8) (sC v 3 (upd (v.1 3) 2 y)) ++ xR ct o ad z (va_up w n v) (nI (nxt n)) (nI (kPush k)) s0 s1 i0 i1 (nI t) nd f g) H := sa_p3 (upd (v.1 3) 2 y) hP
      have hD : va_D A (stW ct (ad 8) (sC v 3 (upd (v.1 3) 2 y)) ++ xR ct o ad z (va_up w n v) (nI (nxt n)) (nI (kPush k)) s0 s1 i0 i1 (nI t) nd f g) := sa_dset (by decide) hD
      refine lv_iload_n hx hb dX5_set_62 rfl (lv_at hl 0 rfl) ?_
      have hP9 : va_P D vwCl (stW ct (ad 8) (s2 v 3 2 y) ++ xR ct o ad z (va_up w n v) (nI (nxt n)) (nI (kPush k)) s0 s1 i0 i1 (nI t) nd f g) _ := hP
      have hD9 : va_D A (stW ct (ad 8) (s2 v 3 2 y) ++ xR ct o ad z (va_up w n v) (nI (nxt n)) (nI (kPush k)) s0 s1 i0 i1 (nI t) nd f g) := hD
      subst hAe
      exact W.iret (v := ((v.1 3) 2)) hx hb hr (fun tt ht hW => ⟨⟨((v.1 3) 2), (), rfl, rfl, muE.of (ct := ct) hP9 hD9 ht⟩, hS.F ht⟩) hS.2.2 dX5_set_63
    · exact absurd c_25 hin
  · exact absurd c_6 (by decide)
set_option maxHeartbeats 4000000 in
set_option maxRecDepth 100000 in
theorem k_X5_pass_e2 (l : Launch) (D : va_G) (ct : Nat → ClassId) (o : Nat → Nat) (ad : Nat → Nat → Nat) (v z : SV) (w : Nat → SV) (n k : Nat) (hn : n < 5) (hk : k ≤ 5) (s0 s1 : SV) (i0 i1 : Int32) (t : Nat) (nd : Int32) (f g : Nat → Int32) (y : Int32) (hin : pIn y 1 500 = 0) : Met l yX5_pass wsX5_pass ({ frames := 5, cells := 0, slots := 0, locals := 116 }) (roP D ct (stW ct (ad 8) v ++ xR ct o ad z w (nI n) (nI k) s0 s1 i0 i1 (nI t) nd f g) [.ref (o 0), .int y]) (vp_Si (fun r => r = -2)) 0 0 noA := by
  refine Met.ofW (cc := cX5_pass) (maxL := 2) (ret := (some .int)) (by decide) rfl ?_
  intro p e s m args below meth c s₁ B hml hv
  obtain ⟨rfl, hP, hK, hN⟩ := hv
  have hx := B.exec
  have hb := B.bytes
  have hr := B.returns
  have hts := atoms_spec (ws := wsX5_pass) B.pre
  have hown : s.vm.findClass RX5 = some m.cls := findClass_of_methodNamed B.named
  have hlocks := B.notSynchronized
  have hl := lv_entry ([.ref (o 0), .int y]) (n := 2) (Nat.le_of_ble_eq_true rfl)
  rw [lg_entry_eq]
  generalize (lg_sl ([.ref (o 0), .int y]) ++ List.replicate (2 - (lg_sl ([.ref (o 0), .int y])).length) Slot.unset).toArray = ls at hl ⊢
  have hl : lv_has ls 2 [(0, .ref (o 0)), (1, .int y)] := hl
  refine lv_iload_n hx hb dX5_pass_0 rfl (lv_at hl 1 rfl) ?_
  refine lv_iconst (v := 1) hx hb dX5_pass_1 (by decide) ?_
  refine lv_sipush (v := 500) hx hb dX5_pass_2 (by decide) ?_
  refine vp_callSi (va_runS (As := [.int y, .int 1, .int 500]) (rest := []) ⟨hx, hb, hml, hown, hts⟩ (k_X5_isWithin l D ct y 1 500) (va_cwS 3 hts gX5_pass_X5_isWithin rfl rfl rfl (by decide +kernel) ⟨Nat.le_of_ble_eq_true rfl, Nat.le_of_ble_eq_true rfl⟩) ⟨roP.blind, roP.at pw_nil hK hN⟩ rfl rfl hl.1 rfl (lv_room (Nat.le_of_ble_eq_true rfl)) dX5_pass_5 ⟨Nat.le_of_ble_eq_true rfl, Nat.le_of_ble_eq_true rfl⟩).run (fun r_5 h_5 => ?_)
  obtain rfl : r_5 = pIn y 1 500 := h_5
  refine lv_if_ne (tgt := 14) hx hb dX5_pass_8 (by decide) (fun c_8 => ?_) (fun c_8 => ?_)
  · exact absurd hin c_8
  · refine lv_bipush (v := (-2)) hx hb dX5_pass_11 (by decide) ?_
    exact W.iret (v := (-2)) hx hb hr (fun tt ht hW => ⟨(-2), rfl, rfl, ht⟩) (fun q hq => absurd hq List.not_mem_nil) dX5_pass_13
set_option maxHeartbeats 4000000 in
set_option maxRecDepth 100000 in
theorem k_X5_pass_ok (l : Launch) (D : va_G) (ct : Nat → ClassId) (sz : Nat) (o : Nat → Nat) (ad : Nat → Nat → Nat) (v z : SV) (w : Nat → SV) (n k : Nat) (hn : n < 5) (hk : k ≤ 5) (s0 s1 : SV) (i0 i1 : Int32) (t : Nat) (nd : Int32) (f g : Nat → Int32) (ok : Inv v) (N : Nat) (h1 : 1 ≤ N) (h5 : N ≤ 500) : Met l yX5_pass wsX5_pass ({ frames := 5, cells := 0, slots := 0, locals := 116 }) (muP D ct (stW ct (ad 8) v ++ xR ct o ad z w (nI n) (nI k) s0 s1 i0 i1 (nI t) nd f g) sz [.ref (o 0), .int (nI N)]) (muI D ct (stW ct (ad 8) v ++ xR ct o ad z w (nI n) (nI k) s0 s1 i0 i1 (nI t) nd f g) (stW ct (ad 8) (pTks v N) ++ xR ct o ad z (va_up w n v) (nI (nxt n)) (nI (kPush k)) s0 s1 i0 i1 (nI t) nd f g) sz (fun r => r = pTkN v N)) 0 0 (va_A (stW ct (ad 8) v ++ xR ct o ad z w (nI n) (nI k) s0 s1 i0 i1 (nI t) nd f g) sz) := by
  refine Met.ofW (cc := cX5_pass) (maxL := 2) (ret := (some .int)) (by decide) rfl ?_
  intro p e s m args below meth c s₁ B hml hv
  obtain ⟨rfl, hsz, hP, hK, hN, hD0⟩ := hv
  have hx := B.exec
  have hb := B.bytes
  have hr := B.returns
  have hts := atoms_spec (ws := wsX5_pass) B.pre
  have hown : s.vm.findClass RX5 = some m.cls := findClass_of_methodNamed B.named
  have hlocks := B.notSynchronized
  subst hsz
  have hD := hD0.self (sz := s.heap.size)
  generalize hAe : va_A (stW ct (ad 8) v ++ xR ct o ad z w (nI n) (nI k) s0 s1 i0 i1 (nI t) nd f g) s.heap.size = A at hD
  have hA : ∀ q : Nat, s.heap.size ≤ q → A q := fun q h => by rw [← hAe]; exact Or.inr h
  have hS : va_S A s.heap s.heap [] := va_S.rf
  have w_1 := hts (.fieldLink RX5 22 "ScannedDigits" "history" "LScannedDigits$History;") (List.mem_of_getElem? (i := 1) rfl)
  have w_2 := hts (.fieldLink RX5 10 "ScannedDigits" "now" "LScannedDigits$State;") (List.mem_of_getElem? (i := 2) rfl)
  have hiX5 : ∀ w ∈ wsX50, w ∈ wsX5_pass := fun w h => (goodIn_r wsX50 [128, 129, 130, 131, 132] (by decide +kernel) (by decide +kernel) w h).1
  have hl := lv_entry ([.ref (o 0), .int (nI N)]) (n := 2) (Nat.le_of_ble_eq_true rfl)
  rw [lg_entry_eq]
  generalize (lg_sl ([.ref (o 0), .int (nI N)]) ++ List.replicate (2 - (lg_sl ([.ref (o 0), .int (nI N)])).length) Slot.unset).toArray = ls at hl ⊢
  have hl : lv_has ls 2 [(0, .ref (o 0)), (1, .int (nI N))] := hl
  have hin : ¬ pIn (nI N) 1 500 = 0 := pIn_ok (a := 1) (b := 500) rfl rfl h1 h5 (by decide)
  refine lv_iload_n hx hb dX5_pass_0 rfl (lv_at hl 1 rfl) ?_
  refine lv_iconst (v := 1) hx hb dX5_pass_1 (by decide) ?_
  refine lv_sipush (v := 500) hx hb dX5_pass_2 (by decide) ?_
  refine vp_callSi (va_runS (As := [.int (nI N), .int 1, .int 500]) (rest := []) ⟨hx, hb, hml, hown, hts⟩ (k_X5_isWithin l D ct (nI N) 1 500) (va_cwS 3 hts gX5_pass_X5_isWithin rfl rfl rfl (by decide +kernel) ⟨Nat.le_of_ble_eq_true rfl, Nat.le_of_ble_eq_true rfl⟩) ⟨roP.blind, roP.at pw_nil hK hN⟩ rfl rfl hl.1 rfl (lv_room (Nat.le_of_ble_eq_true rfl)) dX5_pass_5 ⟨Nat.le_of_ble_eq_true rfl, Nat.le_of_ble_eq_true rfl⟩).run (fun r_5 h_5 => ?_)
  obtain rfl : r_5 = pIn (nI N) 1 500 := h_5
  refine lv_if_ne (tgt := 14) hx hb dX5_pass_8 (by decide) (fun c_8 => ?_) (fun c_8 => ?_)
  · refine lv_aload_n hx hb dX5_pass_14 rfl (lv_at hl 0 rfl) ?_
    refine va_get (D := D) (ci := 5) (v := .ref (o 7)) (C := RX5) (T := TX5) (N := 5) hx hb hts hiX5 hown hK hP 29 (xw_get (i := 0) rfl) rfl 2 (by decide) w_1 (fun _ h9 => h9) rfl dX5_pass_15 ?_
    refine lv_aload_n hx hb dX5_pass_18 rfl (lv_at hl 0 rfl) ?_
    refine va_get (D := D) (ci := 5) (v := .ref ((ad 8) 0)) (C := RX5) (T := TX5) (N := 5) hx hb hts hiX5 hown hK hP 29 (xw_get (i := 0) rfl) rfl 0 (by decide) w_2 (fun _ h9 => h9) rfl dX5_pass_19 ?_
    have hFc_22 := w_free (wc := hsW ct (o 7) (o 8) ad (nI n) (nI k) w (ad 8) v) hD (xw_h) hS hA
    refine va_callv (va_runV (As := [.ref ((ad 8) 0)]) (rest := []) ⟨hx, hb, hml, hown, hts⟩ (k_X1_record l D ct _ (o 7) (o 8) ad n k hn w (ad 8) v hk) (cwV 1 hts gX5_pass_X1_record rfl rfl rfl (by decide +kernel) ⟨Nat.le_of_ble_eq_true rfl, Nat.le_of_ble_eq_true rfl⟩) ⟨muP.blind, va_recv hK (pw_cut xw_h hP) (ci := 1) (q0 := 0) rfl rfl, muP.at (pw_cut xw_h hP) (dw_cut xw_h hD) hK hN⟩ rfl rfl hl.1 rfl (lv_room (Nat.le_of_ble_eq_true rfl)) dX5_pass_22 ⟨Nat.le_of_ble_eq_true rfl, Nat.le_of_ble_eq_true rfl⟩) hS (fun q _ h => hFc_22 q h) hFc_22 (fun uu tt H1 locs ht hvm hw hB hz1 hk1 hS => ?_)
    obtain ⟨hP, hD⟩ := muE.join (ws' := stW ct (ad 8) v ++ xR ct o ad z (va_up w n v) (nI (nxt n)) (nI (kPush k)) s0 s1 i0 i1 (nI t) nd f g) hP hD (xw_h) (xw_h) hk1 hFc_22 ht hB
    generalize H1 = H at hP hS ⊢
    refine lv_aload_n hx hb dX5_pass_25 rfl (lv_at hl 0 rfl) ?_
    refine va_get (D := D) (ci := 5) (v := .ref ((ad 8) 0)) (C := RX5) (T := TX5) (N := 5) hx hb hts hiX5 hown hK hP 29 (xw_get (i := 0) rfl) rfl 0 (by decide) w_2 (fun _ h9 => h9) rfl dX5_pass_26 ?_
    refine lv_iload_n hx hb dX5_pass_29 rfl (lv_at hl 1 rfl) ?_
    have hFc_30 := w_free (wc := stW ct (ad 8) v) hD ((List.Perm.refl _)) hS hA
    refine va_calli (va_runV (As := [.int (nI N)]) (rest := []) ⟨hx, hb, hml, hown, hts⟩ (k_X3_runTicks l D ct _ (ad 8) v ok N (by omega)) (cwV 1 hts gX5_pass_X3_runTicks rfl rfl rfl (by decide +kernel) ⟨Nat.le_of_ble_eq_true rfl, Nat.le_of_ble_eq_true rfl⟩) ⟨muP.blind, va_recv hK (pw_left hP) (ci := 3) (q0 := 0) rfl rfl, muP.at (pw_left hP) (dw_left hD) hK hN⟩ rfl rfl hl.1 rfl (lv_room (Nat.le_of_ble_eq_true rfl)) dX5_pass_30 ⟨Nat.le_of_ble_eq_true rfl, Nat.le_of_ble_eq_true rfl⟩) hS (fun q _ h => hFc_30 q h) hFc_30 (fun r_30 uu tt H1 locs ht hvm h_30 hB hz1 hk1 hS => ?_)
    obtain ⟨hP, hD⟩ := muE.join (ws' := stW ct (ad 8) (pTks v N) ++ xR ct o ad z (va_up w n v) (nI (nxt n)) (nI (kPush k)) s0 s1 i0 i1 (nI t) nd f g) hP hD ((List.Perm.refl _)) ((List.Perm.refl _)) hk1 hFc_30 ht hB
    generalize H1 = H at hP hS ⊢
    obtain rfl : r_30 = pTkN v N := h_30
    have hP9 : va_P D vwCl (stW ct (ad 8) (pTks v N) ++ xR ct o ad z (va_up w n v) (nI (nxt n)) (nI (kPush k)) s0 s1 i0 i1 (nI t) nd f g) _ := hP
    have hD9 : va_D A (stW ct (ad 8) (pTks v N) ++ xR ct o ad z (va_up w n v) (nI (nxt n)) (nI (kPush k)) s0 s1 i0 i1 (nI t) nd f g) := hD
    subst hAe
    exact W.iret (v := (pTkN v N)) hx hb hr (fun tt ht hW => ⟨⟨(pTkN v N), (), rfl, rfl, muE.of (ct := ct) hP9 hD9 ht⟩, hS.F ht⟩) hS.2.2 dX5_pass_33
  · exact absurd c_8 hin
set_option maxHeartbeats 4000000 in
set_option maxRecDepth 100000 in
theorem k_X5_passFrames_e2 (l : Launch) (D : va_G) (ct : Nat → ClassId) (o : Nat → Nat) (ad : Nat → Nat → Nat) (v z : SV) (w : Nat → SV) (n k : Nat) (hn : n < 5) (hk : k ≤ 5) (s0 s1 : SV) (i0 i1 : Int32) (t : Nat) (nd : Int32) (f g : Nat → Int32) (y : Int32) (hin : pIn y 1 20 = 0) : Met l yX5_passFrames wsX5_passFrames ({ frames := 5, cells := 0, slots := 0, locals := 116 }) (roP D ct (stW ct (ad 8) v ++ xR ct o ad z w (nI n) (nI k) s0 s1 i0 i1 (nI t) nd f g) [.ref (o 0), .int y]) (vp_Si (fun r => r = -2)) 0 0 noA := by
  refine Met.ofW (cc := cX5_passFrames) (maxL := 3) (ret := (some .int)) (by decide) rfl ?_
  intro p e s m args below meth c s₁ B hml hv
  obtain ⟨rfl, hP, hK, hN⟩ := hv
  have hx := B.exec
  have hb := B.bytes
  have hr := B.returns
  have hts := atoms_spec (ws := wsX5_passFrames) B.pre
  have hown : s.vm.findClass RX5 = some m.cls := findClass_of_methodNamed B.named
  have hlocks := B.notSynchronized
  have hl := lv_entry ([.ref (o 0), .int y]) (n := 3) (Nat.le_of_ble_eq_true rfl)
  rw [lg_entry_eq]
  generalize (lg_sl ([.ref (o 0), .int y]) ++ List.replicate (3 - (lg_sl ([.ref (o 0), .int y])).length) Slot.unset).toArray = ls at hl ⊢
  have hl : lv_has ls 3 [(0, .ref (o 0)), (1, .int y)] := hl
  refine lv_iload_n hx hb dX5_passFrames_0 rfl (lv_at hl 1 rfl) ?_
  refine lv_iconst (v := 1) hx hb dX5_passFrames_1 (by decide) ?_
  refine lv_bipush (v := 20) hx hb dX5_passFrames_2 (by decide) ?_
  refine vp_callSi (va_runS (As := [.int y, .int 1, .int 20]) (rest := []) ⟨hx, hb, hml, hown, hts⟩ (k_X5_isWithin l D ct y 1 20) (va_cwS 3 hts gX5_passFrames_X5_isWithin rfl rfl rfl (by decide +kernel) ⟨Nat.le_of_ble_eq_true rfl, Nat.le_of_ble_eq_true rfl⟩) ⟨roP.blind, roP.at pw_nil hK hN⟩ rfl rfl hl.1 rfl (lv_room (Nat.le_of_ble_eq_true rfl)) dX5_passFrames_4 ⟨Nat.le_of_ble_eq_true rfl, Nat.le_of_ble_eq_true rfl⟩).run (fun r_4 h_4 => ?_)
  obtain rfl : r_4 = pIn y 1 20 := h_4
  refine lv_if_ne (tgt := 13) hx hb dX5_passFrames_7 (by decide) (fun c_7 => ?_) (fun c_7 => ?_)
  · exact absurd hin c_7
  · refine lv_bipush (v := (-2)) hx hb dX5_passFrames_10 (by decide) ?_
    exact W.iret (v := (-2)) hx hb hr (fun tt ht hW => ⟨(-2), rfl, rfl, ht⟩) (fun q hq => absurd hq List.not_mem_nil) dX5_passFrames_12
set_option maxHeartbeats 4000000 in
set_option maxRecDepth 100000 in
theorem k_X5_passFrames_ok (l : Launch) (D : va_G) (ct : Nat → ClassId) (sz : Nat) (o : Nat → Nat) (ad : Nat → Nat → Nat) (v z : SV) (w : Nat → SV) (n k : Nat) (hn : n < 5) (hk : k ≤ 5) (s0 s1 : SV) (i0 i1 : Int32) (t : Nat) (nd : Int32) (f g : Nat → Int32) (ok : Inv v) (N : Nat) (h1 : 1 ≤ N) (h2 : N ≤ 20) : Met l yX5_passFrames wsX5_passFrames ({ frames := 5, cells := 0, slots := 0, locals := 116 }) (muP D ct (stW ct (ad 8) v ++ xR ct o ad z w (nI n) (nI k) s0 s1 i0 i1 (nI t) nd f g) sz [.ref (o 0), .int (nI N)]) (muI D ct (stW ct (ad 8) v ++ xR ct o ad z w (nI n) (nI k) s0 s1 i0 i1 (nI t) nd f g) (stW ct (ad 8) (pTks v (pfN v N)) ++ xR ct o ad z (va_up w n v) (nI (nxt n)) (nI (kPush k)) s0 s1 i0 i1 (nI t) nd f g) sz (fun r => r = (pTks v (pfN v N)).1 0 1)) 0 0 (va_A (stW ct (ad 8) v ++ xR ct o ad z w (nI n) (nI k) s0 s1 i0 i1 (nI t) nd f g) sz) := by
  refine Met.ofW (cc := cX5_passFrames) (maxL := 3) (ret := (some .int)) (by decide) rfl ?_
  intro p e s m args below meth c s₁ B hml hv
  obtain ⟨rfl, hsz, hP, hK, hN, hD0⟩ := hv
  have hx := B.exec
  have hb := B.bytes
  have hr := B.returns
  have hts := atoms_spec (ws := wsX5_passFrames) B.pre
  have hown : s.vm.findClass RX5 = some m.cls := findClass_of_methodNamed B.named
  have hlocks := B.notSynchronized
  subst hsz
  have hD := hD0.self (sz := s.heap.size)
  generalize hAe : va_A (stW ct (ad 8) v ++ xR ct o ad z w (nI n) (nI k) s0 s1 i0 i1 (nI t) nd f g) s.heap.size = A at hD
  have hA : ∀ q : Nat, s.heap.size ≤ q → A q := fun q h => by rw [← hAe]; exact Or.inr h
  have hS : va_S A s.heap s.heap [] := va_S.rf
  have w_1 := hts (.fieldLink RX5 22 "ScannedDigits" "history" "LScannedDigits$History;") (List.mem_of_getElem? (i := 1) rfl)
  have w_2 := hts (.fieldLink RX5 10 "ScannedDigits" "now" "LScannedDigits$State;") (List.mem_of_getElem? (i := 2) rfl)
  have w_3 := hts (.fieldLink RX5 122 "ScannedDigits$State" "frameTicks" "I") (List.mem_of_getElem? (i := 3) rfl)
  have w_4 := hts (.fieldLink RX5 125 "ScannedDigits$State" "time" "I") (List.mem_of_getElem? (i := 4) rfl)
  have hiX5 : ∀ w ∈ wsX50, w ∈ wsX5_passFrames := fun w h => (goodIn_r wsX50 [131, 132, 133, 134, 135] (by decide +kernel) (by decide +kernel) w h).1
  have hiX3 : ∀ w ∈ wsX30, w ∈ wsX5_passFrames := fun w h => (goodIn_r wsX30 [136, 137, 138, 139, 140, 141, 142, 143, 144, 145, 146, 147, 148] (by decide +kernel) (by decide +kernel) w h).1
  have hl := lv_entry ([.ref (o 0), .int (nI N)]) (n := 3) (Nat.le_of_ble_eq_true rfl)
  rw [lg_entry_eq]
  generalize (lg_sl ([.ref (o 0), .int (nI N)]) ++ List.replicate (3 - (lg_sl ([.ref (o 0), .int (nI N)])).length) Slot.unset).toArray = ls at hl ⊢
  have hl : lv_has ls 3 [(0, .ref (o 0)), (1, .int (nI N))] := hl
  have hin : ¬ pIn (nI N) 1 20 = 0 := pIn_ok (a := 1) (b := 20) rfl rfl h1 h2 (by decide)
  have hpf := pf_eq ok h1 h2
  refine lv_iload_n hx hb dX5_passFrames_0 rfl (lv_at hl 1 rfl) ?_
  refine lv_iconst (v := 1) hx hb dX5_passFrames_1 (by decide) ?_
  refine lv_bipush (v := 20) hx hb dX5_passFrames_2 (by decide) ?_
  refine vp_callSi (va_runS (As := [.int (nI N), .int 1, .int 20]) (rest := []) ⟨hx, hb, hml, hown, hts⟩ (k_X5_isWithin l D ct (nI N) 1 20) (va_cwS 3 hts gX5_passFrames_X5_isWithin rfl rfl rfl (by decide +kernel) ⟨Nat.le_of_ble_eq_true rfl, Nat.le_of_ble_eq_true rfl⟩) ⟨roP.blind, roP.at pw_nil hK hN⟩ rfl rfl hl.1 rfl (lv_room (Nat.le_of_ble_eq_true rfl)) dX5_passFrames_4 ⟨Nat.le_of_ble_eq_true rfl, Nat.le_of_ble_eq_true rfl⟩).run (fun r_4 h_4 => ?_)
  obtain rfl : r_4 = pIn (nI N) 1 20 := h_4
  refine lv_if_ne (tgt := 13) hx hb dX5_passFrames_7 (by decide) (fun c_7 => ?_) (fun c_7 => ?_)
  · refine lv_aload_n hx hb dX5_passFrames_13 rfl (lv_at hl 0 rfl) ?_
    refine va_get (D := D) (ci := 5) (v := .ref (o 7)) (C := RX5) (T := TX5) (N := 5) hx hb hts hiX5 hown hK hP 29 (xw_get (i := 0) rfl) rfl 2 (by decide) w_1 (fun _ h9 => h9) rfl dX5_passFrames_14 ?_
    refine lv_aload_n hx hb dX5_passFrames_17 rfl (lv_at hl 0 rfl) ?_
    refine va_get (D := D) (ci := 5) (v := .ref ((ad 8) 0)) (C := RX5) (T := TX5) (N := 5) hx hb hts hiX5 hown hK hP 29 (xw_get (i := 0) rfl) rfl 0 (by decide) w_2 (fun _ h9 => h9) rfl dX5_passFrames_18 ?_
    have hFc_21 := w_free (wc := hsW ct (o 7) (o 8) ad (nI n) (nI k) w (ad 8) v) hD (xw_h) hS hA
    refine va_callv (va_runV (As := [.ref ((ad 8) 0)]) (rest := []) ⟨hx, hb, hml, hown, hts⟩ (k_X1_record l D ct _ (o 7) (o 8) ad n k hn w (ad 8) v hk) (cwV 1 hts gX5_passFrames_X1_record rfl rfl rfl (by decide +kernel) ⟨Nat.le_of_ble_eq_true rfl, Nat.le_of_ble_eq_true rfl⟩) ⟨muP.blind, va_recv hK (pw_cut xw_h hP) (ci := 1) (q0 := 0) rfl rfl, muP.at (pw_cut xw_h hP) (dw_cut xw_h hD) hK hN⟩ rfl rfl hl.1 rfl (lv_room (Nat.le_of_ble_eq_true rfl)) dX5_passFrames_21 ⟨Nat.le_of_ble_eq_true rfl, Nat.le_of_ble_eq_true rfl⟩) hS (fun q _ h => hFc_21 q h) hFc_21 (fun uu tt H1 locs ht hvm hw hB hz1 hk1 hS => ?_)
    obtain ⟨hP, hD⟩ := muE.join (ws' := stW ct (ad 8) v ++ xR ct o ad z (va_up w n v) (nI (nxt n)) (nI (kPush k)) s0 s1 i0 i1 (nI t) nd f g) hP hD (xw_h) (xw_h) hk1 hFc_21 ht hB
    generalize H1 = H at hP hS ⊢
    refine lv_aload_n hx hb dX5_passFrames_24 rfl (lv_at hl 0 rfl) ?_
    refine va_get (D := D) (ci := 5) (v := .ref ((ad 8) 0)) (C := RX5) (T := TX5) (N := 5) hx hb hts hiX5 hown hK hP 29 (xw_get (i := 0) rfl) rfl 0 (by decide) w_2 (fun _ h9 => h9) rfl dX5_passFrames_25 ?_
    refine vp_callSi (va_runV (As := []) (rest := []) ⟨hx, hb, hml, hown, hts⟩ (k_X3_frameLength l D ct (ad 8) v ok.n8 ok.cnt) (cwV 0 hts gX5_passFrames_X3_frameLength rfl rfl rfl (by decide +kernel) ⟨Nat.le_of_ble_eq_true rfl, Nat.le_of_ble_eq_true rfl⟩) ⟨roP.blind, va_recv hK (pw_left hP) (ci := 3) (q0 := 0) rfl rfl, roP.at (pw_left hP) hK hN⟩ rfl rfl hl.1 rfl (lv_room (Nat.le_of_ble_eq_true rfl)) dX5_passFrames_28 ⟨Nat.le_of_ble_eq_true rfl, Nat.le_of_ble_eq_true rfl⟩).run (fun r_28 h_28 => ?_)
    obtain rfl : r_28 = pLen v := h_28
    refine lv_istore_n (lv' := [(2, .int (pLen v)), (0, .ref (o 0)), (1, .int (nI N))]) hx hb dX5_passFrames_31 rfl hl (by decide) rfl (fun ls hl => ?_)
    refine lv_aload_n hx hb dX5_passFrames_32 rfl (lv_at hl 1 rfl) ?_
    refine va_get (D := D) (ci := 5) (v := .ref ((ad 8) 0)) (C := RX5) (T := TX5) (N := 5) hx hb hts hiX5 hown hK hP 29 (xw_get (i := 0) rfl) rfl 0 (by decide) w_2 (fun _ h9 => h9) rfl dX5_passFrames_33 ?_
    refine lv_iload_n hx hb dX5_passFrames_36 rfl (lv_at hl 2 rfl) ?_
    refine lv_iload_n hx hb dX5_passFrames_37 rfl (lv_at hl 0 rfl) ?_
    refine lv_imul hx hb dX5_passFrames_38 ?_
    refine lv_aload_n hx hb dX5_passFrames_39 rfl (lv_at hl 1 rfl) ?_
    refine va_get (D := D) (ci := 5) (v := .ref ((ad 8) 0)) (C := RX5) (T := TX5) (N := 5) hx hb hts hiX5 hown hK hP 29 (xw_get (i := 0) rfl) rfl 0 (by decide) w_2 (fun _ h9 => h9) rfl dX5_passFrames_40 ?_
    refine va_get (D := D) (ci := 3) (v := .int (v.1 0 3)) (C := RX3) (T := TX3) (N := 13) hx hb hts hiX3 hown hK hP 0 sa_c0 rfl 7 (by decide) w_3 (fun _ h9 => h9) rfl dX5_passFrames_43 ?_
    refine lv_isub hx hb dX5_passFrames_46 ?_
    refine lv_as (y := nI (pfN v N)) (hpf.1) ?_
    have hFc_47 := w_free (wc := stW ct (ad 8) v) hD ((List.Perm.refl _)) hS hA
    refine va_calli (va_runV (As := [.int (nI (pfN v N))]) (rest := []) ⟨hx, hb, hml, hown, hts⟩ (k_X3_runTicks l D ct _ (ad 8) v ok (pfN v N) hpf.2) (cwV 1 hts gX5_passFrames_X3_runTicks rfl rfl rfl (by decide +kernel) ⟨Nat.le_of_ble_eq_true rfl, Nat.le_of_ble_eq_true rfl⟩) ⟨muP.blind, va_recv hK (pw_left hP) (ci := 3) (q0 := 0) rfl rfl, muP.at (pw_left hP) (dw_left hD) hK hN⟩ rfl rfl hl.1 rfl (lv_room (Nat.le_of_ble_eq_true rfl)) dX5_passFrames_47 ⟨Nat.le_of_ble_eq_true rfl, Nat.le_of_ble_eq_true rfl⟩) hS (fun q _ h => hFc_47 q h) hFc_47 (fun r_47 uu tt H1 locs ht hvm h_47 hB hz1 hk1 hS => ?_)
    obtain ⟨hP, hD⟩ := muE.join (ws' := stW ct (ad 8) (pTks v (pfN v N)) ++ xR ct o ad z (va_up w n v) (nI (nxt n)) (nI (kPush k)) s0 s1 i0 i1 (nI t) nd f g) hP hD ((List.Perm.refl _)) ((List.Perm.refl _)) hk1 hFc_47 ht hB
    generalize H1 = H at hP hS ⊢
    refine lv_pop hx hb dX5_passFrames_50 rfl ?_
    refine lv_aload_n hx hb dX5_passFrames_51 rfl (lv_at hl 1 rfl) ?_
    refine va_get (D := D) (ci := 5) (v := .ref ((ad 8) 0)) (C := RX5) (T := TX5) (N := 5) hx hb hts hiX5 hown hK hP 29 (xw_get (i := 0) rfl) rfl 0 (by decide) w_2 (fun _ h9 => h9) rfl dX5_passFrames_52 ?_
    refine va_get (D := D) (ci := 3) (v := .int ((pTks v (pfN v N)).1 0 1)) (C := RX3) (T := TX3) (N := 13) hx hb hts hiX3 hown hK hP 0 sa_c0 rfl 5 (by decide) w_4 (fun _ h9 => h9) rfl dX5_passFrames_55 ?_
    have hP9 : va_P D vwCl (stW ct (ad 8) (pTks v (pfN v N)) ++ xR ct o ad z (va_up w n v) (nI (nxt n)) (nI (kPush k)) s0 s1 i0 i1 (nI t) nd f g) _ := hP
    have hD9 : va_D A (stW ct (ad 8) (pTks v (pfN v N)) ++ xR ct o ad z (va_up w n v) (nI (nxt n)) (nI (kPush k)) s0 s1 i0 i1 (nI t) nd f g) := hD
    subst hAe
    exact W.iret (v := ((pTks v (pfN v N)).1 0 1)) hx hb hr (fun tt ht hW => ⟨⟨((pTks v (pfN v N)).1 0 1), (), rfl, rfl, muE.of (ct := ct) hP9 hD9 ht⟩, hS.F ht⟩) hS.2.2 dX5_passFrames_58
  · exact absurd c_7 hin
set_option maxHeartbeats 4000000 in
set_option maxRecDepth 100000 in
theorem k_X5_type_e (l : Launch) (D : va_G) (ct : Nat → ClassId) (o : Nat → Nat) (ad : Nat → Nat → Nat) (v z : SV) (w : Nat → SV) (n k : Nat) (hn : n < 5) (hk : k ≤ 5) (s0 s1 : SV) (i0 i1 : Int32) (nd : Int32) (f g : Nat → Int32) (x : Int32) : Met l yX5_type wsX5_type ({ frames := 1, cells := 0, slots := 0, locals := 21 }) (roP D ct (stW ct (ad 8) v ++ xR ct o ad z w (nI n) (nI k) s0 s1 i0 i1 (nI 30) nd f g) [.ref (o 0), .int x]) (vp_Si (fun r => r = -3)) 0 0 noA := by
  refine Met.ofW (cc := cX5_type) (maxL := 2) (ret := (some .int)) (by decide) rfl ?_
  intro p e s m args below meth c s₁ B hml hv
  obtain ⟨rfl, hP, hK, hN⟩ := hv
  have hx := B.exec
  have hb := B.bytes
  have hr := B.returns
  have hts := atoms_spec (ws := wsX5_type) B.pre
  have hown : s.vm.findClass RX5 = some m.cls := findClass_of_methodNamed B.named
  have hlocks := B.notSynchronized
  have w_1 := hts (.fieldLink RX5 35 "ScannedDigits" "text" "LScannedDigits$Text;") (List.mem_of_getElem? (i := 1) rfl)
  have hiX5 : ∀ w ∈ wsX50, w ∈ wsX5_type := fun w h => (goodIn_r wsX50 [14, 15, 16, 17, 18] (by decide +kernel) (by decide +kernel) w h).1
  have hl := lv_entry ([.ref (o 0), .int x]) (n := 2) (Nat.le_of_ble_eq_true rfl)
  rw [lg_entry_eq]
  generalize (lg_sl ([.ref (o 0), .int x]) ++ List.replicate (2 - (lg_sl ([.ref (o 0), .int x])).length) Slot.unset).toArray = ls at hl ⊢
  have hl : lv_has ls 2 [(0, .ref (o 0)), (1, .int x)] := hl
  refine lv_aload_n hx hb dX5_type_0 rfl (lv_at hl 0 rfl) ?_
  refine va_get (D := D) (ci := 5) (v := .ref (o 1)) (C := RX5) (T := TX5) (N := 5) hx hb hts hiX5 hown hK hP 29 (xw_get (i := 0) rfl) rfl 4 (by decide) w_1 (fun _ h9 => h9) rfl dX5_type_1 ?_
  refine vp_callSi (va_runV (As := []) (rest := []) ⟨hx, hb, hml, hown, hts⟩ (k_X4_isFull l D ct (o 1) (o 2) (o 3) 30 nd f g (by decide)) (cwV 0 hts gX5_type_X4_isFull rfl rfl rfl (by decide +kernel) ⟨Nat.le_of_ble_eq_true rfl, Nat.le_of_ble_eq_true rfl⟩) ⟨roP.blind, va_recv hK (pw_cut xw_t hP) (ci := 4) (q0 := 0) rfl rfl, roP.at (pw_cut xw_t hP) hK hN⟩ rfl rfl hl.1 rfl (lv_room (Nat.le_of_ble_eq_true rfl)) dX5_type_4 ⟨Nat.le_of_ble_eq_true rfl, Nat.le_of_ble_eq_true rfl⟩).run (fun r_4 h_4 => ?_)
  obtain rfl : r_4 = if 30 ≤ 30 then 1 else 0 := h_4
  refine lv_if_eq (tgt := 13) hx hb dX5_type_7 (by decide) (fun c_7 => ?_) (fun c_7 => ?_)
  · exact absurd c_7 (by decide)
  · refine lv_bipush (v := (-3)) hx hb dX5_type_10 (by decide) ?_
    exact W.iret (v := (-3)) hx hb hr (fun tt ht hW => ⟨(-3), rfl, rfl, ht⟩) (fun q hq => absurd hq List.not_mem_nil) dX5_type_12
set_option maxHeartbeats 4000000 in
set_option maxRecDepth 100000 in
theorem k_X5_type_ok (l : Launch) (D : va_G) (ct : Nat → ClassId) (sz : Nat) (o : Nat → Nat) (ad : Nat → Nat → Nat) (v z : SV) (w : Nat → SV) (n k : Nat) (hn : n < 5) (hk : k ≤ 5) (s0 s1 : SV) (i0 i1 : Int32) (t : Nat) (nd : Int32) (f g : Nat → Int32) (ht30 : t < 30) (x : Int32) (hx16 : vp_nar .char x = x) : Met l yX5_type wsX5_type ({ frames := 1, cells := 0, slots := 0, locals := 21 }) (muP D ct (stW ct (ad 8) v ++ xR ct o ad z w (nI n) (nI k) s0 s1 i0 i1 (nI t) nd f g) sz [.ref (o 0), .int x]) (muI D ct (stW ct (ad 8) v ++ xR ct o ad z w (nI n) (nI k) s0 s1 i0 i1 (nI t) nd f g) (stW ct (ad 8) v ++ xR ct o ad z w (nI n) (nI k) s0 s1 i0 i1 (nI (t + 1)) nd (upd f t x) g) sz (fun r => r = nI (t + 1))) 0 0 (va_A (stW ct (ad 8) v ++ xR ct o ad z w (nI n) (nI k) s0 s1 i0 i1 (nI t) nd f g) sz) := by
  refine Met.ofW (cc := cX5_type) (maxL := 2) (ret := (some .int)) (by decide) rfl ?_
  intro p e s m args below meth c s₁ B hml hv
  obtain ⟨rfl, hsz, hP, hK, hN, hD0⟩ := hv
  have hx := B.exec
  have hb := B.bytes
  have hr := B.returns
  have hts := atoms_spec (ws := wsX5_type) B.pre
  have hown : s.vm.findClass RX5 = some m.cls := findClass_of_methodNamed B.named
  have hlocks := B.notSynchronized
  subst hsz
  have hD := hD0.self (sz := s.heap.size)
  generalize hAe : va_A (stW ct (ad 8) v ++ xR ct o ad z w (nI n) (nI k) s0 s1 i0 i1 (nI t) nd f g) s.heap.size = A at hD
  have hA : ∀ q : Nat, s.heap.size ≤ q → A q := fun q h => by rw [← hAe]; exact Or.inr h
  have hS : va_S A s.heap s.heap [] := va_S.rf
  have w_1 := hts (.fieldLink RX5 35 "ScannedDigits" "text" "LScannedDigits$Text;") (List.mem_of_getElem? (i := 1) rfl)
  have w_2 := hts (.fieldLink RX5 136 "ScannedDigits$Text" "length" "I") (List.mem_of_getElem? (i := 2) rfl)
  have hiX5 : ∀ w ∈ wsX50, w ∈ wsX5_type := fun w h => (goodIn_r wsX50 [14, 15, 16, 17, 18] (by decide +kernel) (by decide +kernel) w h).1
  have hiX4 : ∀ w ∈ wsX40, w ∈ wsX5_type := fun w h => (goodIn_r wsX40 [19, 20, 21, 22] (by decide +kernel) (by decide +kernel) w h).1
  have hl := lv_entry ([.ref (o 0), .int x]) (n := 2) (Nat.le_of_ble_eq_true rfl)
  rw [lg_entry_eq]
  generalize (lg_sl ([.ref (o 0), .int x]) ++ List.replicate (2 - (lg_sl ([.ref (o 0), .int x])).length) Slot.unset).toArray = ls at hl ⊢
  have hl : lv_has ls 2 [(0, .ref (o 0)), (1, .int x)] := hl
  refine lv_aload_n hx hb dX5_type_0 rfl (lv_at hl 0 rfl) ?_
  refine va_get (D := D) (ci := 5) (v := .ref (o 1)) (C := RX5) (T := TX5) (N := 5) hx hb hts hiX5 hown hK hP 29 (xw_get (i := 0) rfl) rfl 4 (by decide) w_1 (fun _ h9 => h9) rfl dX5_type_1 ?_
  refine vp_callSi (va_runV (As := []) (rest := []) ⟨hx, hb, hml, hown, hts⟩ (k_X4_isFull l D ct (o 1) (o 2) (o 3) t nd f g (by omega)) (cwV 0 hts gX5_type_X4_isFull rfl rfl rfl (by decide +kernel) ⟨Nat.le_of_ble_eq_true rfl, Nat.le_of_ble_eq_true rfl⟩) ⟨roP.blind, va_recv hK (pw_cut xw_t hP) (ci := 4) (q0 := 0) rfl rfl, roP.at (pw_cut xw_t hP) hK hN⟩ rfl rfl hl.1 rfl (lv_room (Nat.le_of_ble_eq_true rfl)) dX5_type_4 ⟨Nat.le_of_ble_eq_true rfl, Nat.le_of_ble_eq_true rfl⟩).run (fun r_4 h_4 => ?_)
  obtain rfl : r_4 = if 30 ≤ t then 1 else 0 := h_4
  refine lv_if_eq (tgt := 13) hx hb dX5_type_7 (by decide) (fun c_7 => ?_) (fun c_7 => ?_)
  · refine lv_aload_n hx hb dX5_type_13 rfl (lv_at hl 0 rfl) ?_
    refine va_get (D := D) (ci := 5) (v := .ref (o 1)) (C := RX5) (T := TX5) (N := 5) hx hb hts hiX5 hown hK hP 29 (xw_get (i := 0) rfl) rfl 4 (by decide) w_1 (fun _ h9 => h9) rfl dX5_type_14 ?_
    refine lv_iload_n hx hb dX5_type_17 rfl (lv_at hl 1 rfl) ?_
    have hFc_18 := w_free (wc := txW ct (o 1) (o 2) (o 3) (nI t) nd f g) hD (xw_t) hS hA
    refine va_callv (va_runV (As := [.int x]) (rest := []) ⟨hx, hb, hml, hown, hts⟩ (k_X4_append l D ct _ (o 1) (o 2) (o 3) t nd f g ht30 x hx16) (cwV 1 hts gX5_type_X4_append rfl rfl rfl (by decide +kernel) ⟨Nat.le_of_ble_eq_true rfl, Nat.le_of_ble_eq_true rfl⟩) ⟨muP.blind, va_recv hK (pw_cut xw_t hP) (ci := 4) (q0 := 0) rfl rfl, muP.at (pw_cut xw_t hP) (dw_cut xw_t hD) hK hN⟩ rfl rfl hl.1 rfl (lv_room (Nat.le_of_ble_eq_true rfl)) dX5_type_18 ⟨Nat.le_of_ble_eq_true rfl, Nat.le_of_ble_eq_true rfl⟩) hS (fun q _ h => hFc_18 q h) hFc_18 (fun uu tt H1 locs ht hvm hw hB hz1 hk1 hS => ?_)
    obtain ⟨hP, hD⟩ := muE.join (ws' := stW ct (ad 8) v ++ xR ct o ad z w (nI n) (nI k) s0 s1 i0 i1 (nI (t + 1)) nd (upd f t x) g) hP hD (xw_t) (xw_t) hk1 hFc_18 ht hB
    generalize H1 = H at hP hS ⊢
    refine lv_aload_n hx hb dX5_type_21 rfl (lv_at hl 0 rfl) ?_
    refine va_get (D := D) (ci := 5) (v := .ref (o 1)) (C := RX5) (T := TX5) (N := 5) hx hb hts hiX5 hown hK hP 29 (xw_get (i := 0) rfl) rfl 4 (by decide) w_1 (fun _ h9 => h9) rfl dX5_type_22 ?_
    refine va_get (D := D) (ci := 4) (v := .int (nI (t + 1))) (C := RX4) (T := TX4) (N := 4) hx hb hts hiX4 hown hK hP 30 (xw_get (i := 1) rfl) rfl 1 (by decide) w_2 (fun _ h9 => h9) rfl dX5_type_25 ?_
    have hP9 : va_P D vwCl (stW ct (ad 8) v ++ xR ct o ad z w (nI n) (nI k) s0 s1 i0 i1 (nI (t + 1)) nd (upd f t x) g) _ := hP
    have hD9 : va_D A (stW ct (ad 8) v ++ xR ct o ad z w (nI n) (nI k) s0 s1 i0 i1 (nI (t + 1)) nd (upd f t x) g) := hD
    subst hAe
    exact W.iret (v := (nI (t + 1))) hx hb hr (fun tt ht hW => ⟨⟨(nI (t + 1)), (), rfl, rfl, muE.of (ct := ct) hP9 hD9 ht⟩, hS.F ht⟩) hS.2.2 dX5_type_28
  · exact absurd (if_neg (by omega)) c_7
set_option maxHeartbeats 4000000 in
set_option maxRecDepth 100000 in
theorem k_X5_clearText (l : Launch) (D : va_G) (ct : Nat → ClassId) (sz : Nat) (o : Nat → Nat) (ad : Nat → Nat → Nat) (v z : SV) (w : Nat → SV) (n k : Nat) (hn : n < 5) (hk : k ≤ 5) (s0 s1 : SV) (i0 i1 : Int32) (t : Nat) (nd : Int32) (f g : Nat → Int32) : Met l yX5_clearText wsX5_clearText ({ frames := 0, cells := 0, slots := 0, locals := 0 }) (muP D ct (stW ct (ad 8) v ++ xR ct o ad z w (nI n) (nI k) s0 s1 i0 i1 (nI t) nd f g) sz [.ref (o 0)]) (muI D ct (stW ct (ad 8) v ++ xR ct o ad z w (nI n) (nI k) s0 s1 i0 i1 (nI t) nd f g) (stW ct (ad 8) v ++ xR ct o ad z w (nI n) (nI k) s0 s1 i0 i1 0 nd f g) sz (fun r => r = nI t)) 0 0 (va_A (stW ct (ad 8) v ++ xR ct o ad z w (nI n) (nI k) s0 s1 i0 i1 (nI t) nd f g) sz) := by
  refine Met.ofW (cc := cX5_clearText) (maxL := 2) (ret := (some .int)) (by decide) rfl ?_
  intro p e s m args below meth c s₁ B hml hv
  obtain ⟨rfl, hsz, hP, hK, hN, hD0⟩ := hv
  have hx := B.exec
  have hb := B.bytes
  have hr := B.returns
  have hts := atoms_spec (ws := wsX5_clearText) B.pre
  have hown : s.vm.findClass RX5 = some m.cls := findClass_of_methodNamed B.named
  have hlocks := B.notSynchronized
  subst hsz
  have hD := hD0.self (sz := s.heap.size)
  generalize hAe : va_A (stW ct (ad 8) v ++ xR ct o ad z w (nI n) (nI k) s0 s1 i0 i1 (nI t) nd f g) s.heap.size = A at hD
  have hA : ∀ q : Nat, s.heap.size ≤ q → A q := fun q h => by rw [← hAe]; exact Or.inr h
  have hS : va_S A s.heap s.heap [] := va_S.rf
  have w_1 := hts (.fieldLink RX5 35 "ScannedDigits" "text" "LScannedDigits$Text;") (List.mem_of_getElem? (i := 1) rfl)
  have w_2 := hts (.fieldLink RX5 136 "ScannedDigits$Text" "length" "I") (List.mem_of_getElem? (i := 2) rfl)
  have hiX5 : ∀ w ∈ wsX50, w ∈ wsX5_clearText := fun w h => (goodIn_r wsX50 [3, 4, 5, 6, 7] (by decide +kernel) (by decide +kernel) w h).1
  have hiX4 : ∀ w ∈ wsX40, w ∈ wsX5_clearText := fun w h => (goodIn_r wsX40 [8, 9, 10, 11] (by decide +kernel) (by decide +kernel) w h).1
  have hl := lv_entry ([.ref (o 0)]) (n := 2) (Nat.le_of_ble_eq_true rfl)
  rw [lg_entry_eq]
  generalize (lg_sl ([.ref (o 0)]) ++ List.replicate (2 - (lg_sl ([.ref (o 0)])).length) Slot.unset).toArray = ls at hl ⊢
  have hl : lv_has ls 2 [(0, .ref (o 0))] := hl
  refine lv_aload_n hx hb dX5_clearText_0 rfl (lv_at hl 0 rfl) ?_
  refine va_get (D := D) (ci := 5) (v := .ref (o 1)) (C := RX5) (T := TX5) (N := 5) hx hb hts hiX5 hown hK hP 29 (xw_get (i := 0) rfl) rfl 4 (by decide) w_1 (fun _ h9 => h9) rfl dX5_clearText_1 ?_
  refine va_get (D := D) (ci := 4) (v := .int (nI t)) (C := RX4) (T := TX4) (N := 4) hx hb hts hiX4 hown hK hP 30 (xw_get (i := 1) rfl) rfl 1 (by decide) w_2 (fun _ h9 => h9) rfl dX5_clearText_4 ?_
  refine lv_istore_n (lv' := [(1, .int (nI t)), (0, .ref (o 0))]) hx hb dX5_clearText_7 rfl hl (by decide) rfl (fun ls hl => ?_)
  refine lv_aload_n hx hb dX5_clearText_8 rfl (lv_at hl 1 rfl) ?_
  refine va_get (D := D) (ci := 5) (v := .ref (o 1)) (C := RX5) (T := TX5) (N := 5) hx hb hts hiX5 hown hK hP 29 (xw_get (i := 0) rfl) rfl 4 (by decide) w_1 (fun _ h9 => h9) rfl dX5_clearText_9 ?_
  refine lv_iconst (v := 0) hx hb dX5_clearText_12 (by decide) ?_
  refine va_put (D := D) (ci := 4) (v := .int 0) (ty := .int) (C := RX4) (T := TX4) (N := 4) hx hb hts hiX4 tyX4 tyX4_ok nmX4 hown hK hP hD hS 30 (xw_get (i := 1) rfl) rfl 1 (by decide) w_2 (fun _ h9 => h9) rfl (by decide +kernel) rfl rfl (Nat.le_of_ble_eq_true rfl) dX5_clearText_13 (fun H locs hP hD hS => ?_)
  have hP : va_P D vwCl (stW ct (ad 8) v ++ xR ct o ad z w (nI n) (nI k) s0 s1 i0 i1 0 nd f g) H := xw_at (i := 1) rfl hP
  have hD : va_D A (stW ct (ad 8) v ++ xR ct o ad z w (nI n) (nI k) s0 s1 i0 i1 0 nd f g) := xw_atD (i := 1) rfl hD
  refine lv_iload_n hx hb dX5_clearText_16 rfl (lv_at hl 0 rfl) ?_
  have hP9 : va_P D vwCl (stW ct (ad 8) v ++ xR ct o ad z w (nI n) (nI k) s0 s1 i0 i1 0 nd f g) _ := hP
  have hD9 : va_D A (stW ct (ad 8) v ++ xR ct o ad z w (nI n) (nI k) s0 s1 i0 i1 0 nd f g) := hD
  subst hAe
  exact W.iret (v := (nI t)) hx hb hr (fun tt ht hW => ⟨⟨(nI t), (), rfl, rfl, muE.of (ct := ct) hP9 hD9 ht⟩, hS.F ht⟩) hS.2.2 dX5_clearText_17
set_option maxHeartbeats 4000000 in
set_option maxRecDepth 100000 in
theorem k_X5_show_e (l : Launch) (D : va_G) (ct : Nat → ClassId) (sz : Nat) (o : Nat → Nat) (ad : Nat → Nat → Nat) (v z : SV) (w : Nat → SV) (n k : Nat) (hn : n < 5) (hk : k ≤ 5) (s0 s1 : SV) (i0 i1 : Int32) (t : Nat) (nd : Int32) (f g : Nat → Int32) (ok : Inv v) (ht30 : t ≤ 30) (h4 : ¬ (shO f (nOf v) t 0 0 0 (fun _ => 0)).1 = -4) : Met l yX5_show wsX5_show ({ frames := 4, cells := 0, slots := 0, locals := 104 }) (muPS D ct (stW ct (ad 8) v ++ xR ct o ad z w (nI n) (nI k) s0 s1 i0 i1 (nI t) nd f g) sz [.ref (o 0)]) (muI D ct (stW ct (ad 8) v ++ xR ct o ad z w (nI n) (nI k) s0 s1 i0 i1 (nI t) nd f g) (stW ct (ad 8) v ++ xR ct o ad z w (nI n) (nI k) s0 s1 i0 i1 (nI t) (nI (shO f (nOf v) t 0 0 0 (fun _ => 0)).2.1) f ((shO f (nOf v) t 0 0 0 (fun _ => 0)).2.2)) sz (fun r => r = -100 - (shO f (nOf v) t 0 0 0 (fun _ => 0)).1)) 0 0 (va_A (stW ct (ad 8) v ++ xR ct o ad z w (nI n) (nI k) s0 s1 i0 i1 (nI t) nd f g) sz) := by
  refine Met.ofW (cc := cX5_show) (maxL := 2) (ret := (some .int)) (by decide) rfl ?_
  intro p e s m args below meth c s₁ B hml hv
  obtain ⟨rfl, hZ, hsz, hP, hK, hN, hD0⟩ := hv
  have hx := B.exec
  have hb := B.bytes
  have hr := B.returns
  have hts := atoms_spec (ws := wsX5_show) B.pre
  have hown : s.vm.findClass RX5 = some m.cls := findClass_of_methodNamed B.named
  have hlocks := B.notSynchronized
  subst hsz
  have hD := hD0.self (sz := s.heap.size)
  generalize hAe : va_A (stW ct (ad 8) v ++ xR ct o ad z w (nI n) (nI k) s0 s1 i0 i1 (nI t) nd f g) s.heap.size = A at hD hZ
  have hA : ∀ q : Nat, s.heap.size ≤ q → A q := fun q h => by rw [← hAe]; exact Or.inr h
  have hS : va_S A s.heap s.heap [] := va_S.rf
  obtain ⟨tch, zch, Tch⟩ := hZ.ch
  obtain ⟨tpt, zpt, Tpt⟩ := hZ.pt
  obtain ⟨tle, zle, Tle⟩ := hZ.le
  obtain ⟨tmo, zmo, Tmo⟩ := hZ.mo
  have w_1 := hts (.fieldLink RX5 35 "ScannedDigits" "text" "LScannedDigits$Text;") (List.mem_of_getElem? (i := 1) rfl)
  have w_2 := hts (.fieldLink RX5 10 "ScannedDigits" "now" "LScannedDigits$State;") (List.mem_of_getElem? (i := 2) rfl)
  have w_3 := hts (.fieldLink RX5 48 "ScannedDigits$State" "digitCount" "I") (List.mem_of_getElem? (i := 3) rfl)
  have hiX5 : ∀ w ∈ wsX50, w ∈ wsX5_show := fun w h => (goodIn_r wsX50 [75, 76, 77, 78, 79] (by decide +kernel) (by decide +kernel) w h).1
  have hiX3 : ∀ w ∈ wsX30, w ∈ wsX5_show := fun w h => (goodIn_r wsX30 [80, 81, 82, 83, 84, 85, 86, 87, 88, 89, 90, 91, 92] (by decide +kernel) (by decide +kernel) w h).1
  have hl := lv_entry ([.ref (o 0)]) (n := 2) (Nat.le_of_ble_eq_true rfl)
  rw [lg_entry_eq]
  generalize (lg_sl ([.ref (o 0)]) ++ List.replicate (2 - (lg_sl ([.ref (o 0)])).length) Slot.unset).toArray = ls at hl ⊢
  have hl : lv_has ls 2 [(0, .ref (o 0))] := hl
  refine lv_aload_n hx hb dX5_show_0 rfl (lv_at hl 0 rfl) ?_
  refine va_get (D := D) (ci := 5) (v := .ref (o 1)) (C := RX5) (T := TX5) (N := 5) hx hb hts hiX5 hown hK hP 29 (xw_get (i := 0) rfl) rfl 4 (by decide) w_1 (fun _ h9 => h9) rfl dX5_show_1 ?_
  refine lv_aload_n hx hb dX5_show_4 rfl (lv_at hl 0 rfl) ?_
  refine va_get (D := D) (ci := 5) (v := .ref ((ad 8) 0)) (C := RX5) (T := TX5) (N := 5) hx hb hts hiX5 hown hK hP 29 (xw_get (i := 0) rfl) rfl 0 (by decide) w_2 (fun _ h9 => h9) rfl dX5_show_5 ?_
  refine va_get (D := D) (ci := 3) (v := .int (v.1 0 0)) (C := RX3) (T := TX3) (N := 13) hx hb hts hiX3 hown hK hP 0 sa_c0 rfl 1 (by decide) w_3 (fun _ h9 => h9) rfl dX5_show_8 ?_
  refine lv_as (y := nI (nOf v)) (ok.cnt) ?_
  have hFc_11 := w_free (wc := txW ct (o 1) (o 2) (o 3) (nI t) nd f g) hD (xw_t) hS hA
  refine va_calli (va_runV (As := [.int (nI (nOf v))]) (rest := []) ⟨hx, hb, hml, hown, hts⟩ (k_X4_layOut l D ct _ (o 1) (o 2) (o 3) t nd f g (nOf v) ok.n8 ht30) (cwV 1 hts gX5_show_X4_layOut rfl rfl rfl (by decide +kernel) ⟨Nat.le_of_ble_eq_true rfl, Nat.le_of_ble_eq_true rfl⟩) ⟨muPS.blind, va_recv hK (pw_cut xw_t hP) (ci := 4) (q0 := 0) rfl rfl, muPS.at hZ hS hFc_11 (pw_cut xw_t hP) (dw_cut xw_t hD) hK hN⟩ rfl rfl hl.1 rfl (lv_room (Nat.le_of_ble_eq_true rfl)) dX5_show_11 ⟨Nat.le_of_ble_eq_true rfl, Nat.le_of_ble_eq_true rfl⟩) hS (fun q _ h => hFc_11 q h) hFc_11 (fun r_11 uu tt H1 locs ht hvm h_11 hB hz1 hk1 hS => ?_)
  obtain ⟨hP, hD⟩ := muE.join (ws' := stW ct (ad 8) v ++ xR ct o ad z w (nI n) (nI k) s0 s1 i0 i1 (nI t) (nI (shO f (nOf v) t 0 0 0 (fun _ => 0)).2.1) f ((shO f (nOf v) t 0 0 0 (fun _ => 0)).2.2)) hP hD (xw_t) (xw_t) hk1 hFc_11 ht hB
  generalize H1 = H at hP hS ⊢
  obtain rfl : r_11 = (shO f (nOf v) t 0 0 0 (fun _ => 0)).1 := h_11
  refine lv_istore_n (lv' := [(1, .int ((shO f (nOf v) t 0 0 0 (fun _ => 0)).1)), (0, .ref (o 0))]) hx hb dX5_show_14 rfl hl (by decide) rfl (fun ls hl => ?_)
  refine lv_iload_n hx hb dX5_show_15 rfl (lv_at hl 0 rfl) ?_
  refine lv_if_lt (tgt := 24) hx hb dX5_show_16 (by decide) (fun c_16 => ?_) (fun c_16 => ?_)
  · exact absurd c_16 (sho_n4 ht30 h4)
  · refine lv_bipush (v := (-100)) hx hb dX5_show_19 (by decide) ?_
    refine lv_iload_n hx hb dX5_show_21 rfl (lv_at hl 0 rfl) ?_
    refine lv_isub hx hb dX5_show_22 ?_
    have hP9 : va_P D vwCl (stW ct (ad 8) v ++ xR ct o ad z w (nI n) (nI k) s0 s1 i0 i1 (nI t) (nI (shO f (nOf v) t 0 0 0 (fun _ => 0)).2.1) f ((shO f (nOf v) t 0 0 0 (fun _ => 0)).2.2)) _ := hP
    have hD9 : va_D A (stW ct (ad 8) v ++ xR ct o ad z w (nI n) (nI k) s0 s1 i0 i1 (nI t) (nI (shO f (nOf v) t 0 0 0 (fun _ => 0)).2.1) f ((shO f (nOf v) t 0 0 0 (fun _ => 0)).2.2)) := hD
    subst hAe
    exact W.iret (v := ((-100) - ((shO f (nOf v) t 0 0 0 (fun _ => 0)).1))) hx hb hr (fun tt ht hW => ⟨⟨((-100) - ((shO f (nOf v) t 0 0 0 (fun _ => 0)).1)), (), rfl, rfl, muE.of (ct := ct) hP9 hD9 ht⟩, hS.F ht⟩) hS.2.2 dX5_show_23
set_option maxHeartbeats 4000000 in
set_option maxRecDepth 100000 in
theorem k_X5_show_ok (l : Launch) (D : va_G) (ct : Nat → ClassId) (sz : Nat) (o : Nat → Nat) (ad : Nat → Nat → Nat) (v z : SV) (w : Nat → SV) (n k : Nat) (hn : n < 5) (hk : k ≤ 5) (s0 s1 : SV) (i0 i1 : Int32) (t : Nat) (nd : Int32) (f g : Nat → Int32) (ok : Inv v) (ht30 : t ≤ 30) (h4 : (shO f (nOf v) t 0 0 0 (fun _ => 0)).1 = -4) : Met l yX5_show wsX5_show ({ frames := 4, cells := 0, slots := 0, locals := 104 }) (muPS D ct (stW ct (ad 8) v ++ xR ct o ad z w (nI n) (nI k) s0 s1 i0 i1 (nI t) nd f g) sz [.ref (o 0)]) (muI D ct (stW ct (ad 8) v ++ xR ct o ad z w (nI n) (nI k) s0 s1 i0 i1 (nI t) nd f g) (stW ct (ad 8) (pPats v (shO f (nOf v) t 0 0 0 (fun _ => 0)).2.2 (nOf v)) ++ xR ct o ad z (va_up w n v) (nI (nxt n)) (nI (kPush k)) s0 s1 i0 i1 (nI t) (nI (shO f (nOf v) t 0 0 0 (fun _ => 0)).2.1) f ((shO f (nOf v) t 0 0 0 (fun _ => 0)).2.2)) sz (fun r => r = nI (shO f (nOf v) t 0 0 0 (fun _ => 0)).2.1)) 0 0 (va_A (stW ct (ad 8) v ++ xR ct o ad z w (nI n) (nI k) s0 s1 i0 i1 (nI t) nd f g) sz) := by
  refine Met.ofW (cc := cX5_show) (maxL := 2) (ret := (some .int)) (by decide) rfl ?_
  intro p e s m args below meth c s₁ B hml hv
  obtain ⟨rfl, hZ, hsz, hP, hK, hN, hD0⟩ := hv
  have hx := B.exec
  have hb := B.bytes
  have hr := B.returns
  have hts := atoms_spec (ws := wsX5_show) B.pre
  have hown : s.vm.findClass RX5 = some m.cls := findClass_of_methodNamed B.named
  have hlocks := B.notSynchronized
  subst hsz
  have hD := hD0.self (sz := s.heap.size)
  generalize hAe : va_A (stW ct (ad 8) v ++ xR ct o ad z w (nI n) (nI k) s0 s1 i0 i1 (nI t) nd f g) s.heap.size = A at hD hZ
  have hA : ∀ q : Nat, s.heap.size ≤ q → A q := fun q h => by rw [← hAe]; exact Or.inr h
  have hS : va_S A s.heap s.heap [] := va_S.rf
  obtain ⟨tch, zch, Tch⟩ := hZ.ch
  obtain ⟨tpt, zpt, Tpt⟩ := hZ.pt
  obtain ⟨tle, zle, Tle⟩ := hZ.le
  obtain ⟨tmo, zmo, Tmo⟩ := hZ.mo
  have w_1 := hts (.fieldLink RX5 35 "ScannedDigits" "text" "LScannedDigits$Text;") (List.mem_of_getElem? (i := 1) rfl)
  have w_2 := hts (.fieldLink RX5 10 "ScannedDigits" "now" "LScannedDigits$State;") (List.mem_of_getElem? (i := 2) rfl)
  have w_3 := hts (.fieldLink RX5 48 "ScannedDigits$State" "digitCount" "I") (List.mem_of_getElem? (i := 3) rfl)
  have w_4 := hts (.fieldLink RX5 22 "ScannedDigits" "history" "LScannedDigits$History;") (List.mem_of_getElem? (i := 4) rfl)
  have w_5 := hts (.fieldLink RX5 142 "ScannedDigits$Text" "patterns" "[I") (List.mem_of_getElem? (i := 5) rfl)
  have w_6 := hts (.fieldLink RX5 149 "ScannedDigits$Text" "needed" "I") (List.mem_of_getElem? (i := 6) rfl)
  have hiX5 : ∀ w ∈ wsX50, w ∈ wsX5_show := fun w h => (goodIn_r wsX50 [75, 76, 77, 78, 79] (by decide +kernel) (by decide +kernel) w h).1
  have hiX3 : ∀ w ∈ wsX30, w ∈ wsX5_show := fun w h => (goodIn_r wsX30 [80, 81, 82, 83, 84, 85, 86, 87, 88, 89, 90, 91, 92] (by decide +kernel) (by decide +kernel) w h).1
  have hiX4 : ∀ w ∈ wsX40, w ∈ wsX5_show := fun w h => (goodIn_r wsX40 [93, 94, 95, 96] (by decide +kernel) (by decide +kernel) w h).1
  have hl := lv_entry ([.ref (o 0)]) (n := 2) (Nat.le_of_ble_eq_true rfl)
  rw [lg_entry_eq]
  generalize (lg_sl ([.ref (o 0)]) ++ List.replicate (2 - (lg_sl ([.ref (o 0)])).length) Slot.unset).toArray = ls at hl ⊢
  have hl : lv_has ls 2 [(0, .ref (o 0))] := hl
  refine lv_aload_n hx hb dX5_show_0 rfl (lv_at hl 0 rfl) ?_
  refine va_get (D := D) (ci := 5) (v := .ref (o 1)) (C := RX5) (T := TX5) (N := 5) hx hb hts hiX5 hown hK hP 29 (xw_get (i := 0) rfl) rfl 4 (by decide) w_1 (fun _ h9 => h9) rfl dX5_show_1 ?_
  refine lv_aload_n hx hb dX5_show_4 rfl (lv_at hl 0 rfl) ?_
  refine va_get (D := D) (ci := 5) (v := .ref ((ad 8) 0)) (C := RX5) (T := TX5) (N := 5) hx hb hts hiX5 hown hK hP 29 (xw_get (i := 0) rfl) rfl 0 (by decide) w_2 (fun _ h9 => h9) rfl dX5_show_5 ?_
  refine va_get (D := D) (ci := 3) (v := .int (v.1 0 0)) (C := RX3) (T := TX3) (N := 13) hx hb hts hiX3 hown hK hP 0 sa_c0 rfl 1 (by decide) w_3 (fun _ h9 => h9) rfl dX5_show_8 ?_
  refine lv_as (y := nI (nOf v)) (ok.cnt) ?_
  have hFc_11 := w_free (wc := txW ct (o 1) (o 2) (o 3) (nI t) nd f g) hD (xw_t) hS hA
  refine va_calli (va_runV (As := [.int (nI (nOf v))]) (rest := []) ⟨hx, hb, hml, hown, hts⟩ (k_X4_layOut l D ct _ (o 1) (o 2) (o 3) t nd f g (nOf v) ok.n8 ht30) (cwV 1 hts gX5_show_X4_layOut rfl rfl rfl (by decide +kernel) ⟨Nat.le_of_ble_eq_true rfl, Nat.le_of_ble_eq_true rfl⟩) ⟨muPS.blind, va_recv hK (pw_cut xw_t hP) (ci := 4) (q0 := 0) rfl rfl, muPS.at hZ hS hFc_11 (pw_cut xw_t hP) (dw_cut xw_t hD) hK hN⟩ rfl rfl hl.1 rfl (lv_room (Nat.le_of_ble_eq_true rfl)) dX5_show_11 ⟨Nat.le_of_ble_eq_true rfl, Nat.le_of_ble_eq_true rfl⟩) hS (fun q _ h => hFc_11 q h) hFc_11 (fun r_11 uu tt H1 locs ht hvm h_11 hB hz1 hk1 hS => ?_)
  obtain ⟨hP, hD⟩ := muE.join (ws' := stW ct (ad 8) v ++ xR ct o ad z w (nI n) (nI k) s0 s1 i0 i1 (nI t) (nI (shO f (nOf v) t 0 0 0 (fun _ => 0)).2.1) f ((shO f (nOf v) t 0 0 0 (fun _ => 0)).2.2)) hP hD (xw_t) (xw_t) hk1 hFc_11 ht hB
  generalize H1 = H at hP hS ⊢
  obtain rfl : r_11 = (shO f (nOf v) t 0 0 0 (fun _ => 0)).1 := h_11
  refine lv_istore_n (lv' := [(1, .int ((shO f (nOf v) t 0 0 0 (fun _ => 0)).1)), (0, .ref (o 0))]) hx hb dX5_show_14 rfl hl (by decide) rfl (fun ls hl => ?_)
  refine lv_iload_n hx hb dX5_show_15 rfl (lv_at hl 0 rfl) ?_
  refine lv_if_lt (tgt := 24) hx hb dX5_show_16 (by decide) (fun c_16 => ?_) (fun c_16 => ?_)
  · refine lv_aload_n hx hb dX5_show_24 rfl (lv_at hl 1 rfl) ?_
    refine va_get (D := D) (ci := 5) (v := .ref (o 7)) (C := RX5) (T := TX5) (N := 5) hx hb hts hiX5 hown hK hP 29 (xw_get (i := 0) rfl) rfl 2 (by decide) w_4 (fun _ h9 => h9) rfl dX5_show_25 ?_
    refine lv_aload_n hx hb dX5_show_28 rfl (lv_at hl 1 rfl) ?_
    refine va_get (D := D) (ci := 5) (v := .ref ((ad 8) 0)) (C := RX5) (T := TX5) (N := 5) hx hb hts hiX5 hown hK hP 29 (xw_get (i := 0) rfl) rfl 0 (by decide) w_2 (fun _ h9 => h9) rfl dX5_show_29 ?_
    have hFc_32 := w_free (wc := hsW ct (o 7) (o 8) ad (nI n) (nI k) w (ad 8) v) hD (xw_h) hS hA
    refine va_callv (va_runV (As := [.ref ((ad 8) 0)]) (rest := []) ⟨hx, hb, hml, hown, hts⟩ (k_X1_record l D ct _ (o 7) (o 8) ad n k hn w (ad 8) v hk) (cwV 1 hts gX5_show_X1_record rfl rfl rfl (by decide +kernel) ⟨Nat.le_of_ble_eq_true rfl, Nat.le_of_ble_eq_true rfl⟩) ⟨muP.blind, va_recv hK (pw_cut xw_h hP) (ci := 1) (q0 := 0) rfl rfl, muP.at (pw_cut xw_h hP) (dw_cut xw_h hD) hK hN⟩ rfl rfl hl.1 rfl (lv_room (Nat.le_of_ble_eq_true rfl)) dX5_show_32 ⟨Nat.le_of_ble_eq_true rfl, Nat.le_of_ble_eq_true rfl⟩) hS (fun q _ h => hFc_32 q h) hFc_32 (fun uu tt H1 locs ht hvm hw hB hz1 hk1 hS => ?_)
    obtain ⟨hP, hD⟩ := muE.join (ws' := stW ct (ad 8) v ++ xR ct o ad z (va_up w n v) (nI (nxt n)) (nI (kPush k)) s0 s1 i0 i1 (nI t) (nI (shO f (nOf v) t 0 0 0 (fun _ => 0)).2.1) f ((shO f (nOf v) t 0 0 0 (fun _ => 0)).2.2)) hP hD (xw_h) (xw_h) hk1 hFc_32 ht hB
    generalize H1 = H at hP hS ⊢
    refine lv_aload_n hx hb dX5_show_35 rfl (lv_at hl 1 rfl) ?_
    refine va_get (D := D) (ci := 5) (v := .ref ((ad 8) 0)) (C := RX5) (T := TX5) (N := 5) hx hb hts hiX5 hown hK hP 29 (xw_get (i := 0) rfl) rfl 0 (by decide) w_2 (fun _ h9 => h9) rfl dX5_show_36 ?_
    refine lv_aload_n hx hb dX5_show_39 rfl (lv_at hl 1 rfl) ?_
    refine va_get (D := D) (ci := 5) (v := .ref (o 1)) (C := RX5) (T := TX5) (N := 5) hx hb hts hiX5 hown hK hP 29 (xw_get (i := 0) rfl) rfl 4 (by decide) w_1 (fun _ h9 => h9) rfl dX5_show_40 ?_
    refine va_get (D := D) (ci := 4) (v := .ref (o 3)) (C := RX4) (T := TX4) (N := 4) hx hb hts hiX4 hown hK hP 30 (xw_get (i := 1) rfl) rfl 2 (by decide) w_5 (fun _ h9 => h9) rfl dX5_show_43 ?_
    have hFc_46 := w_free (wc := stW ct (ad 8) v ++ [(o 3, .inl (ct 0, 8, .inl (shO f (nOf v) t 0 0 0 (fun _ => 0)).2.2))]) hD (xw_s) hS hA
    refine va_callv (va_runV (As := [.ref (o 3)]) (rest := []) ⟨hx, hb, hml, hown, hts⟩ (k_X3_takePatterns l D ct _ (ad 8) v (o 3) (shO f (nOf v) t 0 0 0 (fun _ => 0)).2.2 ok.n8 ok.cnt) (cwV 1 hts gX5_show_X3_takePatterns rfl rfl rfl (by decide +kernel) ⟨Nat.le_of_ble_eq_true rfl, Nat.le_of_ble_eq_true rfl⟩) ⟨muP.blind, va_recv hK (pw_cut xw_s hP) (ci := 3) (q0 := 0) rfl rfl, muP.at (pw_cut xw_s hP) (dw_cut xw_s hD) hK hN⟩ rfl rfl hl.1 rfl (lv_room (Nat.le_of_ble_eq_true rfl)) dX5_show_46 ⟨Nat.le_of_ble_eq_true rfl, Nat.le_of_ble_eq_true rfl⟩) hS (fun q _ h => hFc_46 q h) hFc_46 (fun uu tt H1 locs ht hvm hw hB hz1 hk1 hS => ?_)
    obtain ⟨hP, hD⟩ := muE.join (ws' := stW ct (ad 8) (pPats v (shO f (nOf v) t 0 0 0 (fun _ => 0)).2.2 (nOf v)) ++ xR ct o ad z (va_up w n v) (nI (nxt n)) (nI (kPush k)) s0 s1 i0 i1 (nI t) (nI (shO f (nOf v) t 0 0 0 (fun _ => 0)).2.1) f ((shO f (nOf v) t 0 0 0 (fun _ => 0)).2.2)) hP hD (xw_s) (xw_s) hk1 hFc_46 ht hB
    generalize H1 = H at hP hS ⊢
    refine lv_aload_n hx hb dX5_show_49 rfl (lv_at hl 1 rfl) ?_
    refine va_get (D := D) (ci := 5) (v := .ref (o 1)) (C := RX5) (T := TX5) (N := 5) hx hb hts hiX5 hown hK hP 29 (xw_get (i := 0) rfl) rfl 4 (by decide) w_1 (fun _ h9 => h9) rfl dX5_show_50 ?_
    refine va_get (D := D) (ci := 4) (v := .int (nI (shO f (nOf v) t 0 0 0 (fun _ => 0)).2.1)) (C := RX4) (T := TX4) (N := 4) hx hb hts hiX4 hown hK hP 30 (xw_get (i := 1) rfl) rfl 3 (by decide) w_6 (fun _ h9 => h9) rfl dX5_show_53 ?_
    have hP9 : va_P D vwCl (stW ct (ad 8) (pPats v (shO f (nOf v) t 0 0 0 (fun _ => 0)).2.2 (nOf v)) ++ xR ct o ad z (va_up w n v) (nI (nxt n)) (nI (kPush k)) s0 s1 i0 i1 (nI t) (nI (shO f (nOf v) t 0 0 0 (fun _ => 0)).2.1) f ((shO f (nOf v) t 0 0 0 (fun _ => 0)).2.2)) _ := hP
    have hD9 : va_D A (stW ct (ad 8) (pPats v (shO f (nOf v) t 0 0 0 (fun _ => 0)).2.2 (nOf v)) ++ xR ct o ad z (va_up w n v) (nI (nxt n)) (nI (kPush k)) s0 s1 i0 i1 (nI t) (nI (shO f (nOf v) t 0 0 0 (fun _ => 0)).2.1) f ((shO f (nOf v) t 0 0 0 (fun _ => 0)).2.2)) := hD
    subst hAe
    exact W.iret (v := (nI (shO f (nOf v) t 0 0 0 (fun _ => 0)).2.1)) hx hb hr (fun tt ht hW => ⟨⟨(nI (shO f (nOf v) t 0 0 0 (fun _ => 0)).2.1), (), rfl, rfl, muE.of (ct := ct) hP9 hD9 ht⟩, hS.F ht⟩) hS.2.2 dX5_show_56
  · exact absurd (by rw [h4]; decide) c_16
set_option maxHeartbeats 4000000 in
set_option maxRecDepth 100000 in
theorem k_X5_undo_e (l : Launch) (D : va_G) (ct : Nat → ClassId) (o : Nat → Nat) (ad : Nat → Nat → Nat) (v z : SV) (w : Nat → SV) (n : Nat) (hn : n < 5) (s0 s1 : SV) (i0 i1 : Int32) (t : Nat) (nd : Int32) (f g : Nat → Int32) : Met l yX5_undo wsX5_undo ({ frames := 4, cells := 0, slots := 0, locals := 104 }) (roP D ct (stW ct (ad 8) v ++ xR ct o ad z w (nI n) (nI 0) s0 s1 i0 i1 (nI t) nd f g) [.ref (o 0)]) (vp_Si (fun r => r = -4)) 0 0 noA := by
  refine Met.ofW (cc := cX5_undo) (maxL := 1) (ret := (some .int)) (by decide) rfl ?_
  intro p e s m args below meth c s₁ B hml hv
  obtain ⟨rfl, hP, hK, hN⟩ := hv
  have hx := B.exec
  have hb := B.bytes
  have hr := B.returns
  have hts := atoms_spec (ws := wsX5_undo) B.pre
  have hown : s.vm.findClass RX5 = some m.cls := findClass_of_methodNamed B.named
  have hlocks := B.notSynchronized
  have w_1 := hts (.fieldLink RX5 22 "ScannedDigits" "history" "LScannedDigits$History;") (List.mem_of_getElem? (i := 1) rfl)
  have w_2 := hts (.fieldLink RX5 152 "ScannedDigits$History" "size" "I") (List.mem_of_getElem? (i := 2) rfl)
  have hiX5 : ∀ w ∈ wsX50, w ∈ wsX5_undo := fun w h => (goodIn_r wsX50 [49, 50, 51, 52, 53] (by decide +kernel) (by decide +kernel) w h).1
  have hiX1 : ∀ w ∈ wsX10, w ∈ wsX5_undo := fun w h => (goodIn_r wsX10 [54, 55, 56] (by decide +kernel) (by decide +kernel) w h).1
  have hl := lv_entry ([.ref (o 0)]) (n := 1) (Nat.le_of_ble_eq_true rfl)
  rw [lg_entry_eq]
  generalize (lg_sl ([.ref (o 0)]) ++ List.replicate (1 - (lg_sl ([.ref (o 0)])).length) Slot.unset).toArray = ls at hl ⊢
  have hl : lv_has ls 1 [(0, .ref (o 0))] := hl
  refine lv_aload_n hx hb dX5_undo_0 rfl (lv_at hl 0 rfl) ?_
  refine va_get (D := D) (ci := 5) (v := .ref (o 7)) (C := RX5) (T := TX5) (N := 5) hx hb hts hiX5 hown hK hP 29 (xw_get (i := 0) rfl) rfl 2 (by decide) w_1 (fun _ h9 => h9) rfl dX5_undo_1 ?_
  refine va_get (D := D) (ci := 1) (v := .int (nI 0)) (C := RX1) (T := TX1) (N := 3) hx hb hts hiX1 hown hK hP 36 (xw_get (i := 7) rfl) rfl 2 (by decide) w_2 (fun _ h9 => h9) rfl dX5_undo_4 ?_
  refine lv_if_ne (tgt := 13) hx hb dX5_undo_7 (by decide) (fun c_7 => ?_) (fun c_7 => ?_)
  · exact absurd rfl c_7
  · refine lv_bipush (v := (-4)) hx hb dX5_undo_10 (by decide) ?_
    exact W.iret (v := (-4)) hx hb hr (fun tt ht hW => ⟨(-4), rfl, rfl, ht⟩) (fun q hq => absurd hq List.not_mem_nil) dX5_undo_12
set_option maxHeartbeats 4000000 in
set_option maxRecDepth 100000 in
theorem k_X5_undo_ok (l : Launch) (D : va_G) (ct : Nat → ClassId) (sz : Nat) (o : Nat → Nat) (ad : Nat → Nat → Nat) (v z : SV) (w : Nat → SV) (n k : Nat) (hn : n < 5) (hk : k ≤ 4) (s0 s1 : SV) (i0 i1 : Int32) (t : Nat) (nd : Int32) (f g : Nat → Int32) : Met l yX5_undo wsX5_undo ({ frames := 4, cells := 0, slots := 0, locals := 104 }) (muP D ct (stW ct (ad 8) v ++ xR ct o ad z w (nI n) (nI (k + 1)) s0 s1 i0 i1 (nI t) nd f g) sz [.ref (o 0)]) (muI D ct (stW ct (ad 8) v ++ xR ct o ad z w (nI n) (nI (k + 1)) s0 s1 i0 i1 (nI t) nd f g) (stW ct (ad 8) (w (prv n)) ++ xR ct o ad z w (nI (prv n)) (nI k) s0 s1 i0 i1 (nI t) nd f g) sz (fun r => r = nI k)) 0 0 (va_A (stW ct (ad 8) v ++ xR ct o ad z w (nI n) (nI (k + 1)) s0 s1 i0 i1 (nI t) nd f g) sz) := by
  refine Met.ofW (cc := cX5_undo) (maxL := 1) (ret := (some .int)) (by decide) rfl ?_
  intro p e s m args below meth c s₁ B hml hv
  obtain ⟨rfl, hsz, hP, hK, hN, hD0⟩ := hv
  have hx := B.exec
  have hb := B.bytes
  have hr := B.returns
  have hts := atoms_spec (ws := wsX5_undo) B.pre
  have hown : s.vm.findClass RX5 = some m.cls := findClass_of_methodNamed B.named
  have hlocks := B.notSynchronized
  subst hsz
  have hD := hD0.self (sz := s.heap.size)
  generalize hAe : va_A (stW ct (ad 8) v ++ xR ct o ad z w (nI n) (nI (k + 1)) s0 s1 i0 i1 (nI t) nd f g) s.heap.size = A at hD
  have hA : ∀ q : Nat, s.heap.size ≤ q → A q := fun q h => by rw [← hAe]; exact Or.inr h
  have hS : va_S A s.heap s.heap [] := va_S.rf
  have w_1 := hts (.fieldLink RX5 22 "ScannedDigits" "history" "LScannedDigits$History;") (List.mem_of_getElem? (i := 1) rfl)
  have w_2 := hts (.fieldLink RX5 152 "ScannedDigits$History" "size" "I") (List.mem_of_getElem? (i := 2) rfl)
  have w_3 := hts (.fieldLink RX5 10 "ScannedDigits" "now" "LScannedDigits$State;") (List.mem_of_getElem? (i := 3) rfl)
  have hiX5 : ∀ w ∈ wsX50, w ∈ wsX5_undo := fun w h => (goodIn_r wsX50 [49, 50, 51, 52, 53] (by decide +kernel) (by decide +kernel) w h).1
  have hiX1 : ∀ w ∈ wsX10, w ∈ wsX5_undo := fun w h => (goodIn_r wsX10 [54, 55, 56] (by decide +kernel) (by decide +kernel) w h).1
  have hl := lv_entry ([.ref (o 0)]) (n := 1) (Nat.le_of_ble_eq_true rfl)
  rw [lg_entry_eq]
  generalize (lg_sl ([.ref (o 0)]) ++ List.replicate (1 - (lg_sl ([.ref (o 0)])).length) Slot.unset).toArray = ls at hl ⊢
  have hl : lv_has ls 1 [(0, .ref (o 0))] := hl
  refine lv_aload_n hx hb dX5_undo_0 rfl (lv_at hl 0 rfl) ?_
  refine va_get (D := D) (ci := 5) (v := .ref (o 7)) (C := RX5) (T := TX5) (N := 5) hx hb hts hiX5 hown hK hP 29 (xw_get (i := 0) rfl) rfl 2 (by decide) w_1 (fun _ h9 => h9) rfl dX5_undo_1 ?_
  refine va_get (D := D) (ci := 1) (v := .int (nI (k + 1))) (C := RX1) (T := TX1) (N := 3) hx hb hts hiX1 hown hK hP 36 (xw_get (i := 7) rfl) rfl 2 (by decide) w_2 (fun _ h9 => h9) rfl dX5_undo_4 ?_
  refine lv_if_ne (tgt := 13) hx hb dX5_undo_7 (by decide) (fun c_7 => ?_) (fun c_7 => ?_)
  · refine lv_aload_n hx hb dX5_undo_13 rfl (lv_at hl 0 rfl) ?_
    refine va_get (D := D) (ci := 5) (v := .ref (o 7)) (C := RX5) (T := TX5) (N := 5) hx hb hts hiX5 hown hK hP 29 (xw_get (i := 0) rfl) rfl 2 (by decide) w_1 (fun _ h9 => h9) rfl dX5_undo_14 ?_
    refine lv_aload_n hx hb dX5_undo_17 rfl (lv_at hl 0 rfl) ?_
    refine va_get (D := D) (ci := 5) (v := .ref ((ad 8) 0)) (C := RX5) (T := TX5) (N := 5) hx hb hts hiX5 hown hK hP 29 (xw_get (i := 0) rfl) rfl 0 (by decide) w_3 (fun _ h9 => h9) rfl dX5_undo_18 ?_
    have hFc_21 := w_free (wc := hsW ct (o 7) (o 8) ad (nI n) (nI (k + 1)) w (ad 8) v) hD (xw_h) hS hA
    refine va_callv (va_runV (As := [.ref ((ad 8) 0)]) (rest := []) ⟨hx, hb, hml, hown, hts⟩ (k_X1_takeBack l D ct _ (o 7) (o 8) ad n k hn w (ad 8) v hk) (cwV 1 hts gX5_undo_X1_takeBack rfl rfl rfl (by decide +kernel) ⟨Nat.le_of_ble_eq_true rfl, Nat.le_of_ble_eq_true rfl⟩) ⟨muP.blind, va_recv hK (pw_cut xw_h hP) (ci := 1) (q0 := 0) rfl rfl, muP.at (pw_cut xw_h hP) (dw_cut xw_h hD) hK hN⟩ rfl rfl hl.1 rfl (lv_room (Nat.le_of_ble_eq_true rfl)) dX5_undo_21 ⟨Nat.le_of_ble_eq_true rfl, Nat.le_of_ble_eq_true rfl⟩) hS (fun q _ h => hFc_21 q h) hFc_21 (fun uu tt H1 locs ht hvm hw hB hz1 hk1 hS => ?_)
    obtain ⟨hP, hD⟩ := muE.join (ws' := stW ct (ad 8) (w (prv n)) ++ xR ct o ad z w (nI (prv n)) (nI k) s0 s1 i0 i1 (nI t) nd f g) hP hD (xw_h) (xw_h) hk1 hFc_21 ht hB
    generalize H1 = H at hP hS ⊢
    refine lv_aload_n hx hb dX5_undo_24 rfl (lv_at hl 0 rfl) ?_
    refine va_get (D := D) (ci := 5) (v := .ref (o 7)) (C := RX5) (T := TX5) (N := 5) hx hb hts hiX5 hown hK hP 29 (xw_get (i := 0) rfl) rfl 2 (by decide) w_1 (fun _ h9 => h9) rfl dX5_undo_25 ?_
    refine va_get (D := D) (ci := 1) (v := .int (nI k)) (C := RX1) (T := TX1) (N := 3) hx hb hts hiX1 hown hK hP 36 (xw_get (i := 7) rfl) rfl 2 (by decide) w_2 (fun _ h9 => h9) rfl dX5_undo_28 ?_
    have hP9 : va_P D vwCl (stW ct (ad 8) (w (prv n)) ++ xR ct o ad z w (nI (prv n)) (nI k) s0 s1 i0 i1 (nI t) nd f g) _ := hP
    have hD9 : va_D A (stW ct (ad 8) (w (prv n)) ++ xR ct o ad z w (nI (prv n)) (nI k) s0 s1 i0 i1 (nI t) nd f g) := hD
    subst hAe
    exact W.iret (v := (nI k)) hx hb hr (fun tt ht hW => ⟨⟨(nI k), (), rfl, rfl, muE.of (ct := ct) hP9 hD9 ht⟩, hS.F ht⟩) hS.2.2 dX5_undo_31
  · exact absurd c_7 (nI_ne0 (by omega) (by omega))
set_option maxHeartbeats 4000000 in
set_option maxRecDepth 100000 in
theorem k_X5_keep_e1 (l : Launch) (D : va_G) (ct : Nat → ClassId) (o : Nat → Nat) (ad : Nat → Nat → Nat) (v z : SV) (w : Nat → SV) (n k : Nat) (hn : n < 5) (hk : k ≤ 5) (s0 s1 : SV) (i0 i1 : Int32) (t : Nat) (nd : Int32) (f g : Nat → Int32) (x : Int32) (hin : pIn x 0 1 = 0) : Met l yX5_keep wsX5_keep ({ frames := 3, cells := 0, slots := 0, locals := 83 }) (roP D ct (stW ct (ad 8) v ++ xR ct o ad z w (nI n) (nI k) s0 s1 i0 i1 (nI t) nd f g) [.ref (o 0), .int x]) (vp_Si (fun r => r = -1)) 0 0 noA := by
  refine Met.ofW (cc := cX5_keep) (maxL := 2) (ret := (some .int)) (by decide) rfl ?_
  intro p e s m args below meth c s₁ B hml hv
  obtain ⟨rfl, hP, hK, hN⟩ := hv
  have hx := B.exec
  have hb := B.bytes
  have hr := B.returns
  have hts := atoms_spec (ws := wsX5_keep) B.pre
  have hown : s.vm.findClass RX5 = some m.cls := findClass_of_methodNamed B.named
  have hlocks := B.notSynchronized
  have w_1 := hts (.fieldLink RX5 28 "ScannedDigits" "snapshots" "[LScannedDigits$Snapshot;") (List.mem_of_getElem? (i := 1) rfl)
  have hiX5 : ∀ w ∈ wsX50, w ∈ wsX5_keep := fun w h => (goodIn_r wsX50 [47, 48, 49, 50, 51] (by decide +kernel) (by decide +kernel) w h).1
  have hl := lv_entry ([.ref (o 0), .int x]) (n := 2) (Nat.le_of_ble_eq_true rfl)
  rw [lg_entry_eq]
  generalize (lg_sl ([.ref (o 0), .int x]) ++ List.replicate (2 - (lg_sl ([.ref (o 0), .int x])).length) Slot.unset).toArray = ls at hl ⊢
  have hl : lv_has ls 2 [(0, .ref (o 0)), (1, .int x)] := hl
  refine lv_iload_n hx hb dX5_keep_0 rfl (lv_at hl 1 rfl) ?_
  refine lv_iconst (v := 0) hx hb dX5_keep_1 (by decide) ?_
  refine lv_aload_n hx hb dX5_keep_2 rfl (lv_at hl 0 rfl) ?_
  refine va_get (D := D) (ci := 5) (v := .ref (o 4)) (C := RX5) (T := TX5) (N := 5) hx hb hts hiX5 hown hK hP 29 (xw_get (i := 0) rfl) rfl 3 (by decide) w_1 (fun _ h9 => h9) rfl dX5_keep_3 ?_
  refine va_alen hx hb hK hP 33 6 (xw_get (i := 4) rfl) (ty := .object RX2) rfl (v := 2) rfl dX5_keep_6 ?_
  refine lv_iconst (v := 1) hx hb dX5_keep_7 (by decide) ?_
  refine lv_isub hx hb dX5_keep_8 ?_
  refine lv_as (y := 1) (rfl) ?_
  refine vp_callSi (va_runS (As := [.int x, .int 0, .int 1]) (rest := []) ⟨hx, hb, hml, hown, hts⟩ (k_X5_isWithin l D ct x 0 1) (va_cwS 3 hts gX5_keep_X5_isWithin rfl rfl rfl (by decide +kernel) ⟨Nat.le_of_ble_eq_true rfl, Nat.le_of_ble_eq_true rfl⟩) ⟨roP.blind, roP.at pw_nil hK hN⟩ rfl rfl hl.1 rfl (lv_room (Nat.le_of_ble_eq_true rfl)) dX5_keep_9 ⟨Nat.le_of_ble_eq_true rfl, Nat.le_of_ble_eq_true rfl⟩).run (fun r_9 h_9 => ?_)
  obtain rfl : r_9 = pIn x 0 1 := h_9
  refine lv_if_ne (tgt := 17) hx hb dX5_keep_12 (by decide) (fun c_12 => ?_) (fun c_12 => ?_)
  · exact absurd hin c_12
  · refine lv_iconst (v := (-1)) hx hb dX5_keep_15 (by decide) ?_
    exact W.iret (v := (-1)) hx hb hr (fun tt ht hW => ⟨(-1), rfl, rfl, ht⟩) (fun q hq => absurd hq List.not_mem_nil) dX5_keep_16
set_option maxHeartbeats 4000000 in
set_option maxRecDepth 100000 in
theorem k_X5_restore_e1 (l : Launch) (D : va_G) (ct : Nat → ClassId) (o : Nat → Nat) (ad : Nat → Nat → Nat) (v z : SV) (w : Nat → SV) (n k : Nat) (hn : n < 5) (hk : k ≤ 5) (s0 s1 : SV) (i0 i1 : Int32) (t : Nat) (nd : Int32) (f g : Nat → Int32) (x : Int32) (hin : pIn x 0 1 = 0) : Met l yX5_restore wsX5_restore ({ frames := 4, cells := 0, slots := 0, locals := 104 }) (roP D ct (stW ct (ad 8) v ++ xR ct o ad z w (nI n) (nI k) s0 s1 i0 i1 (nI t) nd f g) [.ref (o 0), .int x]) (vp_Si (fun r => r = -1)) 0 0 noA := by
  refine Met.ofW (cc := cX5_restore) (maxL := 2) (ret := (some .int)) (by decide) rfl ?_
  intro p e s m args below meth c s₁ B hml hv
  obtain ⟨rfl, hP, hK, hN⟩ := hv
  have hx := B.exec
  have hb := B.bytes
  have hr := B.returns
  have hts := atoms_spec (ws := wsX5_restore) B.pre
  have hown : s.vm.findClass RX5 = some m.cls := findClass_of_methodNamed B.named
  have hlocks := B.notSynchronized
  have w_1 := hts (.fieldLink RX5 28 "ScannedDigits" "snapshots" "[LScannedDigits$Snapshot;") (List.mem_of_getElem? (i := 1) rfl)
  have hiX5 : ∀ w ∈ wsX50, w ∈ wsX5_restore := fun w h => (goodIn_r wsX50 [61, 62, 63, 64, 65] (by decide +kernel) (by decide +kernel) w h).1
  have hl := lv_entry ([.ref (o 0), .int x]) (n := 2) (Nat.le_of_ble_eq_true rfl)
  rw [lg_entry_eq]
  generalize (lg_sl ([.ref (o 0), .int x]) ++ List.replicate (2 - (lg_sl ([.ref (o 0), .int x])).length) Slot.unset).toArray = ls at hl ⊢
  have hl : lv_has ls 2 [(0, .ref (o 0)), (1, .int x)] := hl
  refine lv_iload_n hx hb dX5_restore_0 rfl (lv_at hl 1 rfl) ?_
  refine lv_iconst (v := 0) hx hb dX5_restore_1 (by decide) ?_
  refine lv_aload_n hx hb dX5_restore_2 rfl (lv_at hl 0 rfl) ?_
  refine va_get (D := D) (ci := 5) (v := .ref (o 4)) (C := RX5) (T := TX5) (N := 5) hx hb hts hiX5 hown hK hP 29 (xw_get (i := 0) rfl) rfl 3 (by decide) w_1 (fun _ h9 => h9) rfl dX5_restore_3 ?_
  refine va_alen hx hb hK hP 33 6 (xw_get (i := 4) rfl) (ty := .object RX2) rfl (v := 2) rfl dX5_restore_6 ?_
  refine lv_iconst (v := 1) hx hb dX5_restore_7 (by decide) ?_
  refine lv_isub hx hb dX5_restore_8 ?_
  refine lv_as (y := 1) (rfl) ?_
  refine vp_callSi (va_runS (As := [.int x, .int 0, .int 1]) (rest := []) ⟨hx, hb, hml, hown, hts⟩ (k_X5_isWithin l D ct x 0 1) (va_cwS 3 hts gX5_restore_X5_isWithin rfl rfl rfl (by decide +kernel) ⟨Nat.le_of_ble_eq_true rfl, Nat.le_of_ble_eq_true rfl⟩) ⟨roP.blind, roP.at pw_nil hK hN⟩ rfl rfl hl.1 rfl (lv_room (Nat.le_of_ble_eq_true rfl)) dX5_restore_9 ⟨Nat.le_of_ble_eq_true rfl, Nat.le_of_ble_eq_true rfl⟩).run (fun r_9 h_9 => ?_)
  obtain rfl : r_9 = pIn x 0 1 := h_9
  refine lv_if_ne (tgt := 17) hx hb dX5_restore_12 (by decide) (fun c_12 => ?_) (fun c_12 => ?_)
  · exact absurd hin c_12
  · refine lv_iconst (v := (-1)) hx hb dX5_restore_15 (by decide) ?_
    exact W.iret (v := (-1)) hx hb hr (fun tt ht hW => ⟨(-1), rfl, rfl, ht⟩) (fun q hq => absurd hq List.not_mem_nil) dX5_restore_16
set_option maxHeartbeats 4000000 in
set_option maxRecDepth 100000 in
theorem k_X5_keep_ok_0 (l : Launch) (D : va_G) (ct : Nat → ClassId) (sz : Nat) (o : Nat → Nat) (ad : Nat → Nat → Nat) (v z : SV) (w : Nat → SV) (n k : Nat) (hn : n < 5) (hk : k ≤ 5) (s0 s1 : SV) (i0 i1 : Int32) (t : Nat) (nd : Int32) (f g : Nat → Int32) : Met l yX5_keep wsX5_keep ({ frames := 3, cells := 0, slots := 0, locals := 83 }) (muP D ct (stW ct (ad 8) v ++ xR ct o ad z w (nI n) (nI k) s0 s1 i0 i1 (nI t) nd f g) sz [.ref (o 0), .int 0]) (muI D ct (stW ct (ad 8) v ++ xR ct o ad z w (nI n) (nI k) s0 s1 i0 i1 (nI t) nd f g) (stW ct (ad 8) v ++ xR ct o ad z w (nI n) (nI k) v s1 1 i1 (nI t) nd f g) sz (fun r => r = v.1 0 1)) 0 0 (va_A (stW ct (ad 8) v ++ xR ct o ad z w (nI n) (nI k) s0 s1 i0 i1 (nI t) nd f g) sz) := by
  refine Met.ofW (cc := cX5_keep) (maxL := 2) (ret := (some .int)) (by decide) rfl ?_
  intro p e s m args below meth c s₁ B hml hv
  obtain ⟨rfl, hsz, hP, hK, hN, hD0⟩ := hv
  have hx := B.exec
  have hb := B.bytes
  have hr := B.returns
  have hts := atoms_spec (ws := wsX5_keep) B.pre
  have hown : s.vm.findClass RX5 = some m.cls := findClass_of_methodNamed B.named
  have hlocks := B.notSynchronized
  subst hsz
  have hD := hD0.self (sz := s.heap.size)
  generalize hAe : va_A (stW ct (ad 8) v ++ xR ct o ad z w (nI n) (nI k) s0 s1 i0 i1 (nI t) nd f g) s.heap.size = A at hD
  have hA : ∀ q : Nat, s.heap.size ≤ q → A q := fun q h => by rw [← hAe]; exact Or.inr h
  have hS : va_S A s.heap s.heap [] := va_S.rf
  have w_1 := hts (.fieldLink RX5 28 "ScannedDigits" "snapshots" "[LScannedDigits$Snapshot;") (List.mem_of_getElem? (i := 1) rfl)
  have w_2 := hts (.fieldLink RX5 158 "ScannedDigits$Snapshot" "state" "LScannedDigits$State;") (List.mem_of_getElem? (i := 2) rfl)
  have w_3 := hts (.fieldLink RX5 10 "ScannedDigits" "now" "LScannedDigits$State;") (List.mem_of_getElem? (i := 3) rfl)
  have w_4 := hts (.fieldLink RX5 164 "ScannedDigits$Snapshot" "isTaken" "Z") (List.mem_of_getElem? (i := 4) rfl)
  have w_5 := hts (.fieldLink RX5 125 "ScannedDigits$State" "time" "I") (List.mem_of_getElem? (i := 5) rfl)
  have hiX5 : ∀ w ∈ wsX50, w ∈ wsX5_keep := fun w h => (goodIn_r wsX50 [47, 48, 49, 50, 51] (by decide +kernel) (by decide +kernel) w h).1
  have hiX2 : ∀ w ∈ wsX20, w ∈ wsX5_keep := fun w h => (goodIn_r wsX20 [52, 53] (by decide +kernel) (by decide +kernel) w h).1
  have hiX3 : ∀ w ∈ wsX30, w ∈ wsX5_keep := fun w h => (goodIn_r wsX30 [54, 55, 56, 57, 58, 59, 60, 61, 62, 63, 64, 65, 66] (by decide +kernel) (by decide +kernel) w h).1
  have hl := lv_entry ([.ref (o 0), .int 0]) (n := 2) (Nat.le_of_ble_eq_true rfl)
  rw [lg_entry_eq]
  generalize (lg_sl ([.ref (o 0), .int 0]) ++ List.replicate (2 - (lg_sl ([.ref (o 0), .int 0])).length) Slot.unset).toArray = ls at hl ⊢
  have hl : lv_has ls 2 [(0, .ref (o 0)), (1, .int 0)] := hl
  refine lv_iload_n hx hb dX5_keep_0 rfl (lv_at hl 1 rfl) ?_
  refine lv_iconst (v := 0) hx hb dX5_keep_1 (by decide) ?_
  refine lv_aload_n hx hb dX5_keep_2 rfl (lv_at hl 0 rfl) ?_
  refine va_get (D := D) (ci := 5) (v := .ref (o 4)) (C := RX5) (T := TX5) (N := 5) hx hb hts hiX5 hown hK hP 29 (xw_get (i := 0) rfl) rfl 3 (by decide) w_1 (fun _ h9 => h9) rfl dX5_keep_3 ?_
  refine va_alen hx hb hK hP 33 6 (xw_get (i := 4) rfl) (ty := .object RX2) rfl (v := 2) rfl dX5_keep_6 ?_
  refine lv_iconst (v := 1) hx hb dX5_keep_7 (by decide) ?_
  refine lv_isub hx hb dX5_keep_8 ?_
  refine lv_as (y := 1) (rfl) ?_
  refine vp_callSi (va_runS (As := [.int 0, .int 0, .int 1]) (rest := []) ⟨hx, hb, hml, hown, hts⟩ (k_X5_isWithin l D ct 0 0 1) (va_cwS 3 hts gX5_keep_X5_isWithin rfl rfl rfl (by decide +kernel) ⟨Nat.le_of_ble_eq_true rfl, Nat.le_of_ble_eq_true rfl⟩) ⟨roP.blind, roP.at pw_nil hK hN⟩ rfl rfl hl.1 rfl (lv_room (Nat.le_of_ble_eq_true rfl)) dX5_keep_9 ⟨Nat.le_of_ble_eq_true rfl, Nat.le_of_ble_eq_true rfl⟩).run (fun r_9 h_9 => ?_)
  obtain rfl : r_9 = pIn 0 0 1 := h_9
  refine lv_if_ne (tgt := 17) hx hb dX5_keep_12 (by decide) (fun c_12 => ?_) (fun c_12 => ?_)
  · refine lv_aload_n hx hb dX5_keep_17 rfl (lv_at hl 0 rfl) ?_
    refine va_get (D := D) (ci := 5) (v := .ref (o 4)) (C := RX5) (T := TX5) (N := 5) hx hb hts hiX5 hown hK hP 29 (xw_get (i := 0) rfl) rfl 3 (by decide) w_1 (fun _ h9 => h9) rfl dX5_keep_18 ?_
    refine lv_iload_n hx hb dX5_keep_21 rfl (lv_at hl 1 rfl) ?_
    refine r_aldq (v := o 5) hx hb hK hP 33 6 (xw_get (i := 4) rfl) rfl (k := 0) (rfl) (by decide) (by decide) (rfl) dX5_keep_22 ?_
    refine va_get (D := D) (ci := 2) (v := .ref (ad 6 0)) (C := RX2) (T := TX2) (N := 2) hx hb hts hiX2 hown hK hP 34 (xw_get (i := 5) rfl) rfl 0 (by decide) w_2 (fun _ h9 => h9) rfl dX5_keep_23 ?_
    refine lv_aload_n hx hb dX5_keep_26 rfl (lv_at hl 0 rfl) ?_
    refine va_get (D := D) (ci := 5) (v := .ref ((ad 8) 0)) (C := RX5) (T := TX5) (N := 5) hx hb hts hiX5 hown hK hP 29 (xw_get (i := 0) rfl) rfl 0 (by decide) w_3 (fun _ h9 => h9) rfl dX5_keep_27 ?_
    have hFc_30 := w_free (wc := stW ct (ad 6) s0 ++ stW ct (ad 8) v) hD (xw_q) hS hA
    refine va_callv (va_runV (As := [.ref ((ad 8) 0)]) (rest := []) ⟨hx, hb, hml, hown, hts⟩ (k_X3_copyFrom l D ct _ (ad 6) (ad 8) s0 v) (cwV 1 hts gX5_keep_X3_copyFrom rfl rfl rfl (by decide +kernel) ⟨Nat.le_of_ble_eq_true rfl, Nat.le_of_ble_eq_true rfl⟩) ⟨muP.blind, va_recv hK (pw_cut xw_q hP) (ci := 3) (q0 := 0) rfl rfl, muP.at (pw_cut xw_q hP) (dw_cut xw_q hD) hK hN⟩ rfl rfl hl.1 rfl (lv_room (Nat.le_of_ble_eq_true rfl)) dX5_keep_30 ⟨Nat.le_of_ble_eq_true rfl, Nat.le_of_ble_eq_true rfl⟩) hS (fun q _ h => hFc_30 q h) hFc_30 (fun uu tt H1 locs ht hvm hw hB hz1 hk1 hS => ?_)
    obtain ⟨hP, hD⟩ := muE.join (ws' := stW ct (ad 8) v ++ xR ct o ad z w (nI n) (nI k) v s1 i0 i1 (nI t) nd f g) hP hD (xw_q) (xw_q) hk1 hFc_30 ht hB
    generalize H1 = H at hP hS ⊢
    refine lv_aload_n hx hb dX5_keep_33 rfl (lv_at hl 0 rfl) ?_
    refine va_get (D := D) (ci := 5) (v := .ref (o 4)) (C := RX5) (T := TX5) (N := 5) hx hb hts hiX5 hown hK hP 29 (xw_get (i := 0) rfl) rfl 3 (by decide) w_1 (fun _ h9 => h9) rfl dX5_keep_34 ?_
    refine lv_iload_n hx hb dX5_keep_37 rfl (lv_at hl 1 rfl) ?_
    refine r_aldq (v := o 5) hx hb hK hP 33 6 (xw_get (i := 4) rfl) rfl (k := 0) (rfl) (by decide) (by decide) (rfl) dX5_keep_38 ?_
    refine lv_iconst (v := 1) hx hb dX5_keep_39 (by decide) ?_
    refine va_put (D := D) (ci := 2) (v := .int 1) (ty := .boolean) (C := RX2) (T := TX2) (N := 2) hx hb hts hiX2 tyX2 tyX2_ok nmX2 hown hK hP hD hS 34 (xw_get (i := 5) rfl) rfl 1 (by decide) w_4 (fun _ h9 => h9) rfl (by decide +kernel) rfl rfl (Nat.le_of_ble_eq_true rfl) dX5_keep_40 (fun H locs hP hD hS => ?_)
    have hP : va_P D vwCl (stW ct (ad 8) v ++ xR ct o ad z w (nI n) (nI k) v s1 1 i1 (nI t) nd f g) H := xw_at (i := 5) rfl hP
    have hD : va_D A (stW ct (ad 8) v ++ xR ct o ad z w (nI n) (nI k) v s1 1 i1 (nI t) nd f g) := xw_atD (i := 5) rfl hD
    refine lv_aload_n hx hb dX5_keep_43 rfl (lv_at hl 0 rfl) ?_
    refine va_get (D := D) (ci := 5) (v := .ref ((ad 8) 0)) (C := RX5) (T := TX5) (N := 5) hx hb hts hiX5 hown hK hP 29 (xw_get (i := 0) rfl) rfl 0 (by decide) w_3 (fun _ h9 => h9) rfl dX5_keep_44 ?_
    refine va_get (D := D) (ci := 3) (v := .int (v.1 0 1)) (C := RX3) (T := TX3) (N := 13) hx hb hts hiX3 hown hK hP 0 sa_c0 rfl 5 (by decide) w_5 (fun _ h9 => h9) rfl dX5_keep_47 ?_
    have hP9 : va_P D vwCl (stW ct (ad 8) v ++ xR ct o ad z w (nI n) (nI k) v s1 1 i1 (nI t) nd f g) _ := hP
    have hD9 : va_D A (stW ct (ad 8) v ++ xR ct o ad z w (nI n) (nI k) v s1 1 i1 (nI t) nd f g) := hD
    subst hAe
    exact W.iret (v := (v.1 0 1)) hx hb hr (fun tt ht hW => ⟨⟨(v.1 0 1), (), rfl, rfl, muE.of (ct := ct) hP9 hD9 ht⟩, hS.F ht⟩) hS.2.2 dX5_keep_50
  · exact absurd c_12 (by decide)
set_option maxHeartbeats 4000000 in
set_option maxRecDepth 100000 in
theorem k_X5_restore_e2_0 (l : Launch) (D : va_G) (ct : Nat → ClassId) (o : Nat → Nat) (ad : Nat → Nat → Nat) (v z : SV) (w : Nat → SV) (n k : Nat) (hn : n < 5) (hk : k ≤ 5) (s0 s1 : SV) (i0 i1 : Int32) (t : Nat) (nd : Int32) (f g : Nat → Int32) (hz : i0 = 0) : Met l yX5_restore wsX5_restore ({ frames := 4, cells := 0, slots := 0, locals := 104 }) (roP D ct (stW ct (ad 8) v ++ xR ct o ad z w (nI n) (nI k) s0 s1 i0 i1 (nI t) nd f g) [.ref (o 0), .int 0]) (vp_Si (fun r => r = -4)) 0 0 noA := by
  refine Met.ofW (cc := cX5_restore) (maxL := 2) (ret := (some .int)) (by decide) rfl ?_
  intro p e s m args below meth c s₁ B hml hv
  obtain ⟨rfl, hP, hK, hN⟩ := hv
  have hx := B.exec
  have hb := B.bytes
  have hr := B.returns
  have hts := atoms_spec (ws := wsX5_restore) B.pre
  have hown : s.vm.findClass RX5 = some m.cls := findClass_of_methodNamed B.named
  have hlocks := B.notSynchronized
  have w_1 := hts (.fieldLink RX5 28 "ScannedDigits" "snapshots" "[LScannedDigits$Snapshot;") (List.mem_of_getElem? (i := 1) rfl)
  have w_2 := hts (.fieldLink RX5 164 "ScannedDigits$Snapshot" "isTaken" "Z") (List.mem_of_getElem? (i := 2) rfl)
  have hiX5 : ∀ w ∈ wsX50, w ∈ wsX5_restore := fun w h => (goodIn_r wsX50 [61, 62, 63, 64, 65] (by decide +kernel) (by decide +kernel) w h).1
  have hiX2 : ∀ w ∈ wsX20, w ∈ wsX5_restore := fun w h => (goodIn_r wsX20 [66, 67] (by decide +kernel) (by decide +kernel) w h).1
  have hl := lv_entry ([.ref (o 0), .int 0]) (n := 2) (Nat.le_of_ble_eq_true rfl)
  rw [lg_entry_eq]
  generalize (lg_sl ([.ref (o 0), .int 0]) ++ List.replicate (2 - (lg_sl ([.ref (o 0), .int 0])).length) Slot.unset).toArray = ls at hl ⊢
  have hl : lv_has ls 2 [(0, .ref (o 0)), (1, .int 0)] := hl
  refine lv_iload_n hx hb dX5_restore_0 rfl (lv_at hl 1 rfl) ?_
  refine lv_iconst (v := 0) hx hb dX5_restore_1 (by decide) ?_
  refine lv_aload_n hx hb dX5_restore_2 rfl (lv_at hl 0 rfl) ?_
  refine va_get (D := D) (ci := 5) (v := .ref (o 4)) (C := RX5) (T := TX5) (N := 5) hx hb hts hiX5 hown hK hP 29 (xw_get (i := 0) rfl) rfl 3 (by decide) w_1 (fun _ h9 => h9) rfl dX5_restore_3 ?_
  refine va_alen hx hb hK hP 33 6 (xw_get (i := 4) rfl) (ty := .object RX2) rfl (v := 2) rfl dX5_restore_6 ?_
  refine lv_iconst (v := 1) hx hb dX5_restore_7 (by decide) ?_
  refine lv_isub hx hb dX5_restore_8 ?_
  refine lv_as (y := 1) (rfl) ?_
  refine vp_callSi (va_runS (As := [.int 0, .int 0, .int 1]) (rest := []) ⟨hx, hb, hml, hown, hts⟩ (k_X5_isWithin l D ct 0 0 1) (va_cwS 3 hts gX5_restore_X5_isWithin rfl rfl rfl (by decide +kernel) ⟨Nat.le_of_ble_eq_true rfl, Nat.le_of_ble_eq_true rfl⟩) ⟨roP.blind, roP.at pw_nil hK hN⟩ rfl rfl hl.1 rfl (lv_room (Nat.le_of_ble_eq_true rfl)) dX5_restore_9 ⟨Nat.le_of_ble_eq_true rfl, Nat.le_of_ble_eq_true rfl⟩).run (fun r_9 h_9 => ?_)
  obtain rfl : r_9 = pIn 0 0 1 := h_9
  refine lv_if_ne (tgt := 17) hx hb dX5_restore_12 (by decide) (fun c_12 => ?_) (fun c_12 => ?_)
  · refine lv_aload_n hx hb dX5_restore_17 rfl (lv_at hl 0 rfl) ?_
    refine va_get (D := D) (ci := 5) (v := .ref (o 4)) (C := RX5) (T := TX5) (N := 5) hx hb hts hiX5 hown hK hP 29 (xw_get (i := 0) rfl) rfl 3 (by decide) w_1 (fun _ h9 => h9) rfl dX5_restore_18 ?_
    refine lv_iload_n hx hb dX5_restore_21 rfl (lv_at hl 1 rfl) ?_
    refine r_aldq (v := o 5) hx hb hK hP 33 6 (xw_get (i := 4) rfl) rfl (k := 0) (rfl) (by decide) (by decide) (rfl) dX5_restore_22 ?_
    refine va_get (D := D) (ci := 2) (v := .int i0) (C := RX2) (T := TX2) (N := 2) hx hb hts hiX2 hown hK hP 34 (xw_get (i := 5) rfl) rfl 1 (by decide) w_2 (fun _ h9 => h9) rfl dX5_restore_23 ?_
    refine lv_if_ne (tgt := 32) hx hb dX5_restore_26 (by decide) (fun c_26 => ?_) (fun c_26 => ?_)
    · exact absurd hz c_26
    · refine lv_bipush (v := (-4)) hx hb dX5_restore_29 (by decide) ?_
      exact W.iret (v := (-4)) hx hb hr (fun tt ht hW => ⟨(-4), rfl, rfl, ht⟩) (fun q hq => absurd hq List.not_mem_nil) dX5_restore_31
  · exact absurd c_12 (by decide)
set_option maxHeartbeats 4000000 in
set_option maxRecDepth 100000 in
theorem k_X5_restore_ok_0 (l : Launch) (D : va_G) (ct : Nat → ClassId) (sz : Nat) (o : Nat → Nat) (ad : Nat → Nat → Nat) (v z : SV) (w : Nat → SV) (n k : Nat) (hn : n < 5) (hk : k ≤ 5) (s0 s1 : SV) (i0 i1 : Int32) (t : Nat) (nd : Int32) (f g : Nat → Int32) (hz : ¬ i0 = 0) : Met l yX5_restore wsX5_restore ({ frames := 4, cells := 0, slots := 0, locals := 104 }) (muP D ct (stW ct (ad 8) v ++ xR ct o ad z w (nI n) (nI k) s0 s1 i0 i1 (nI t) nd f g) sz [.ref (o 0), .int 0]) (muI D ct (stW ct (ad 8) v ++ xR ct o ad z w (nI n) (nI k) s0 s1 i0 i1 (nI t) nd f g) (stW ct (ad 8) s0 ++ xR ct o ad z (va_up w n v) (nI (nxt n)) (nI (kPush k)) s0 s1 i0 i1 (nI t) nd f g) sz (fun r => r = (s0).1 0 1)) 0 0 (va_A (stW ct (ad 8) v ++ xR ct o ad z w (nI n) (nI k) s0 s1 i0 i1 (nI t) nd f g) sz) := by
  refine Met.ofW (cc := cX5_restore) (maxL := 2) (ret := (some .int)) (by decide) rfl ?_
  intro p e s m args below meth c s₁ B hml hv
  obtain ⟨rfl, hsz, hP, hK, hN, hD0⟩ := hv
  have hx := B.exec
  have hb := B.bytes
  have hr := B.returns
  have hts := atoms_spec (ws := wsX5_restore) B.pre
  have hown : s.vm.findClass RX5 = some m.cls := findClass_of_methodNamed B.named
  have hlocks := B.notSynchronized
  subst hsz
  have hD := hD0.self (sz := s.heap.size)
  generalize hAe : va_A (stW ct (ad 8) v ++ xR ct o ad z w (nI n) (nI k) s0 s1 i0 i1 (nI t) nd f g) s.heap.size = A at hD
  have hA : ∀ q : Nat, s.heap.size ≤ q → A q := fun q h => by rw [← hAe]; exact Or.inr h
  have hS : va_S A s.heap s.heap [] := va_S.rf
  have w_1 := hts (.fieldLink RX5 28 "ScannedDigits" "snapshots" "[LScannedDigits$Snapshot;") (List.mem_of_getElem? (i := 1) rfl)
  have w_2 := hts (.fieldLink RX5 164 "ScannedDigits$Snapshot" "isTaken" "Z") (List.mem_of_getElem? (i := 2) rfl)
  have w_3 := hts (.fieldLink RX5 22 "ScannedDigits" "history" "LScannedDigits$History;") (List.mem_of_getElem? (i := 3) rfl)
  have w_4 := hts (.fieldLink RX5 10 "ScannedDigits" "now" "LScannedDigits$State;") (List.mem_of_getElem? (i := 4) rfl)
  have w_5 := hts (.fieldLink RX5 158 "ScannedDigits$Snapshot" "state" "LScannedDigits$State;") (List.mem_of_getElem? (i := 5) rfl)
  have w_6 := hts (.fieldLink RX5 125 "ScannedDigits$State" "time" "I") (List.mem_of_getElem? (i := 6) rfl)
  have hiX5 : ∀ w ∈ wsX50, w ∈ wsX5_restore := fun w h => (goodIn_r wsX50 [61, 62, 63, 64, 65] (by decide +kernel) (by decide +kernel) w h).1
  have hiX2 : ∀ w ∈ wsX20, w ∈ wsX5_restore := fun w h => (goodIn_r wsX20 [66, 67] (by decide +kernel) (by decide +kernel) w h).1
  have hiX3 : ∀ w ∈ wsX30, w ∈ wsX5_restore := fun w h => (goodIn_r wsX30 [68, 69, 70, 71, 72, 73, 74, 75, 76, 77, 78, 79, 80] (by decide +kernel) (by decide +kernel) w h).1
  have hl := lv_entry ([.ref (o 0), .int 0]) (n := 2) (Nat.le_of_ble_eq_true rfl)
  rw [lg_entry_eq]
  generalize (lg_sl ([.ref (o 0), .int 0]) ++ List.replicate (2 - (lg_sl ([.ref (o 0), .int 0])).length) Slot.unset).toArray = ls at hl ⊢
  have hl : lv_has ls 2 [(0, .ref (o 0)), (1, .int 0)] := hl
  refine lv_iload_n hx hb dX5_restore_0 rfl (lv_at hl 1 rfl) ?_
  refine lv_iconst (v := 0) hx hb dX5_restore_1 (by decide) ?_
  refine lv_aload_n hx hb dX5_restore_2 rfl (lv_at hl 0 rfl) ?_
  refine va_get (D := D) (ci := 5) (v := .ref (o 4)) (C := RX5) (T := TX5) (N := 5) hx hb hts hiX5 hown hK hP 29 (xw_get (i := 0) rfl) rfl 3 (by decide) w_1 (fun _ h9 => h9) rfl dX5_restore_3 ?_
  refine va_alen hx hb hK hP 33 6 (xw_get (i := 4) rfl) (ty := .object RX2) rfl (v := 2) rfl dX5_restore_6 ?_
  refine lv_iconst (v := 1) hx hb dX5_restore_7 (by decide) ?_
  refine lv_isub hx hb dX5_restore_8 ?_
  refine lv_as (y := 1) (rfl) ?_
  refine vp_callSi (va_runS (As := [.int 0, .int 0, .int 1]) (rest := []) ⟨hx, hb, hml, hown, hts⟩ (k_X5_isWithin l D ct 0 0 1) (va_cwS 3 hts gX5_restore_X5_isWithin rfl rfl rfl (by decide +kernel) ⟨Nat.le_of_ble_eq_true rfl, Nat.le_of_ble_eq_true rfl⟩) ⟨roP.blind, roP.at pw_nil hK hN⟩ rfl rfl hl.1 rfl (lv_room (Nat.le_of_ble_eq_true rfl)) dX5_restore_9 ⟨Nat.le_of_ble_eq_true rfl, Nat.le_of_ble_eq_true rfl⟩).run (fun r_9 h_9 => ?_)
  obtain rfl : r_9 = pIn 0 0 1 := h_9
  refine lv_if_ne (tgt := 17) hx hb dX5_restore_12 (by decide) (fun c_12 => ?_) (fun c_12 => ?_)
  · refine lv_aload_n hx hb dX5_restore_17 rfl (lv_at hl 0 rfl) ?_
    refine va_get (D := D) (ci := 5) (v := .ref (o 4)) (C := RX5) (T := TX5) (N := 5) hx hb hts hiX5 hown hK hP 29 (xw_get (i := 0) rfl) rfl 3 (by decide) w_1 (fun _ h9 => h9) rfl dX5_restore_18 ?_
    refine lv_iload_n hx hb dX5_restore_21 rfl (lv_at hl 1 rfl) ?_
    refine r_aldq (v := o 5) hx hb hK hP 33 6 (xw_get (i := 4) rfl) rfl (k := 0) (rfl) (by decide) (by decide) (rfl) dX5_restore_22 ?_
    refine va_get (D := D) (ci := 2) (v := .int i0) (C := RX2) (T := TX2) (N := 2) hx hb hts hiX2 hown hK hP 34 (xw_get (i := 5) rfl) rfl 1 (by decide) w_2 (fun _ h9 => h9) rfl dX5_restore_23 ?_
    refine lv_if_ne (tgt := 32) hx hb dX5_restore_26 (by decide) (fun c_26 => ?_) (fun c_26 => ?_)
    · refine lv_aload_n hx hb dX5_restore_32 rfl (lv_at hl 0 rfl) ?_
      refine va_get (D := D) (ci := 5) (v := .ref (o 7)) (C := RX5) (T := TX5) (N := 5) hx hb hts hiX5 hown hK hP 29 (xw_get (i := 0) rfl) rfl 2 (by decide) w_3 (fun _ h9 => h9) rfl dX5_restore_33 ?_
      refine lv_aload_n hx hb dX5_restore_36 rfl (lv_at hl 0 rfl) ?_
      refine va_get (D := D) (ci := 5) (v := .ref ((ad 8) 0)) (C := RX5) (T := TX5) (N := 5) hx hb hts hiX5 hown hK hP 29 (xw_get (i := 0) rfl) rfl 0 (by decide) w_4 (fun _ h9 => h9) rfl dX5_restore_37 ?_
      have hFc_40 := w_free (wc := hsW ct (o 7) (o 8) ad (nI n) (nI k) w (ad 8) v) hD (xw_h) hS hA
      refine va_callv (va_runV (As := [.ref ((ad 8) 0)]) (rest := []) ⟨hx, hb, hml, hown, hts⟩ (k_X1_record l D ct _ (o 7) (o 8) ad n k hn w (ad 8) v hk) (cwV 1 hts gX5_restore_X1_record rfl rfl rfl (by decide +kernel) ⟨Nat.le_of_ble_eq_true rfl, Nat.le_of_ble_eq_true rfl⟩) ⟨muP.blind, va_recv hK (pw_cut xw_h hP) (ci := 1) (q0 := 0) rfl rfl, muP.at (pw_cut xw_h hP) (dw_cut xw_h hD) hK hN⟩ rfl rfl hl.1 rfl (lv_room (Nat.le_of_ble_eq_true rfl)) dX5_restore_40 ⟨Nat.le_of_ble_eq_true rfl, Nat.le_of_ble_eq_true rfl⟩) hS (fun q _ h => hFc_40 q h) hFc_40 (fun uu tt H1 locs ht hvm hw hB hz1 hk1 hS => ?_)
      obtain ⟨hP, hD⟩ := muE.join (ws' := stW ct (ad 8) v ++ xR ct o ad z (va_up w n v) (nI (nxt n)) (nI (kPush k)) s0 s1 i0 i1 (nI t) nd f g) hP hD (xw_h) (xw_h) hk1 hFc_40 ht hB
      generalize H1 = H at hP hS ⊢
      refine lv_aload_n hx hb dX5_restore_43 rfl (lv_at hl 0 rfl) ?_
      refine va_get (D := D) (ci := 5) (v := .ref ((ad 8) 0)) (C := RX5) (T := TX5) (N := 5) hx hb hts hiX5 hown hK hP 29 (xw_get (i := 0) rfl) rfl 0 (by decide) w_4 (fun _ h9 => h9) rfl dX5_restore_44 ?_
      refine lv_aload_n hx hb dX5_restore_47 rfl (lv_at hl 0 rfl) ?_
      refine va_get (D := D) (ci := 5) (v := .ref (o 4)) (C := RX5) (T := TX5) (N := 5) hx hb hts hiX5 hown hK hP 29 (xw_get (i := 0) rfl) rfl 3 (by decide) w_1 (fun _ h9 => h9) rfl dX5_restore_48 ?_
      refine lv_iload_n hx hb dX5_restore_51 rfl (lv_at hl 1 rfl) ?_
      refine r_aldq (v := o 5) hx hb hK hP 33 6 (xw_get (i := 4) rfl) rfl (k := 0) (rfl) (by decide) (by decide) (rfl) dX5_restore_52 ?_
      refine va_get (D := D) (ci := 2) (v := .ref (ad 6 0)) (C := RX2) (T := TX2) (N := 2) hx hb hts hiX2 hown hK hP 34 (xw_get (i := 5) rfl) rfl 0 (by decide) w_5 (fun _ h9 => h9) rfl dX5_restore_53 ?_
      have hFc_56 := w_free (wc := stW ct (ad 8) v ++ stW ct (ad 6) s0) hD (xw_q2) hS hA
      refine va_callv (va_runV (As := [.ref (ad 6 0)]) (rest := []) ⟨hx, hb, hml, hown, hts⟩ (k_X3_copyFrom l D ct _ (ad 8) (ad 6) v s0) (cwV 1 hts gX5_restore_X3_copyFrom rfl rfl rfl (by decide +kernel) ⟨Nat.le_of_ble_eq_true rfl, Nat.le_of_ble_eq_true rfl⟩) ⟨muP.blind, va_recv hK (pw_cut xw_q2 hP) (ci := 3) (q0 := 0) rfl rfl, muP.at (pw_cut xw_q2 hP) (dw_cut xw_q2 hD) hK hN⟩ rfl rfl hl.1 rfl (lv_room (Nat.le_of_ble_eq_true rfl)) dX5_restore_56 ⟨Nat.le_of_ble_eq_true rfl, Nat.le_of_ble_eq_true rfl⟩) hS (fun q _ h => hFc_56 q h) hFc_56 (fun uu tt H1 locs ht hvm hw hB hz1 hk1 hS => ?_)
      obtain ⟨hP, hD⟩ := muE.join (ws' := stW ct (ad 8) s0 ++ xR ct o ad z (va_up w n v) (nI (nxt n)) (nI (kPush k)) s0 s1 i0 i1 (nI t) nd f g) hP hD (xw_q2) (xw_q2) hk1 hFc_56 ht hB
      generalize H1 = H at hP hS ⊢
      refine lv_aload_n hx hb dX5_restore_59 rfl (lv_at hl 0 rfl) ?_
      refine va_get (D := D) (ci := 5) (v := .ref ((ad 8) 0)) (C := RX5) (T := TX5) (N := 5) hx hb hts hiX5 hown hK hP 29 (xw_get (i := 0) rfl) rfl 0 (by decide) w_4 (fun _ h9 => h9) rfl dX5_restore_60 ?_
      refine va_get (D := D) (ci := 3) (v := .int (s0.1 0 1)) (C := RX3) (T := TX3) (N := 13) hx hb hts hiX3 hown hK hP 0 sa_c0 rfl 5 (by decide) w_6 (fun _ h9 => h9) rfl dX5_restore_63 ?_
      have hP9 : va_P D vwCl (stW ct (ad 8) s0 ++ xR ct o ad z (va_up w n v) (nI (nxt n)) (nI (kPush k)) s0 s1 i0 i1 (nI t) nd f g) _ := hP
      have hD9 : va_D A (stW ct (ad 8) s0 ++ xR ct o ad z (va_up w n v) (nI (nxt n)) (nI (kPush k)) s0 s1 i0 i1 (nI t) nd f g) := hD
      subst hAe
      exact W.iret (v := (s0.1 0 1)) hx hb hr (fun tt ht hW => ⟨⟨(s0.1 0 1), (), rfl, rfl, muE.of (ct := ct) hP9 hD9 ht⟩, hS.F ht⟩) hS.2.2 dX5_restore_66
    · exact absurd c_26 hz
  · exact absurd c_12 (by decide)
set_option maxHeartbeats 4000000 in
set_option maxRecDepth 100000 in
theorem k_X5_keep_ok_1 (l : Launch) (D : va_G) (ct : Nat → ClassId) (sz : Nat) (o : Nat → Nat) (ad : Nat → Nat → Nat) (v z : SV) (w : Nat → SV) (n k : Nat) (hn : n < 5) (hk : k ≤ 5) (s0 s1 : SV) (i0 i1 : Int32) (t : Nat) (nd : Int32) (f g : Nat → Int32) : Met l yX5_keep wsX5_keep ({ frames := 3, cells := 0, slots := 0, locals := 83 }) (muP D ct (stW ct (ad 8) v ++ xR ct o ad z w (nI n) (nI k) s0 s1 i0 i1 (nI t) nd f g) sz [.ref (o 0), .int 1]) (muI D ct (stW ct (ad 8) v ++ xR ct o ad z w (nI n) (nI k) s0 s1 i0 i1 (nI t) nd f g) (stW ct (ad 8) v ++ xR ct o ad z w (nI n) (nI k) s0 v i0 1 (nI t) nd f g) sz (fun r => r = v.1 0 1)) 0 0 (va_A (stW ct (ad 8) v ++ xR ct o ad z w (nI n) (nI k) s0 s1 i0 i1 (nI t) nd f g) sz) := by
  refine Met.ofW (cc := cX5_keep) (maxL := 2) (ret := (some .int)) (by decide) rfl ?_
  intro p e s m args below meth c s₁ B hml hv
  obtain ⟨rfl, hsz, hP, hK, hN, hD0⟩ := hv
  have hx := B.exec
  have hb := B.bytes
  have hr := B.returns
  have hts := atoms_spec (ws := wsX5_keep) B.pre
  have hown : s.vm.findClass RX5 = some m.cls := findClass_of_methodNamed B.named
  have hlocks := B.notSynchronized
  subst hsz
  have hD := hD0.self (sz := s.heap.size)
  generalize hAe : va_A (stW ct (ad 8) v ++ xR ct o ad z w (nI n) (nI k) s0 s1 i0 i1 (nI t) nd f g) s.heap.size = A at hD
  have hA : ∀ q : Nat, s.heap.size ≤ q → A q := fun q h => by rw [← hAe]; exact Or.inr h
  have hS : va_S A s.heap s.heap [] := va_S.rf
  have w_1 := hts (.fieldLink RX5 28 "ScannedDigits" "snapshots" "[LScannedDigits$Snapshot;") (List.mem_of_getElem? (i := 1) rfl)
  have w_2 := hts (.fieldLink RX5 158 "ScannedDigits$Snapshot" "state" "LScannedDigits$State;") (List.mem_of_getElem? (i := 2) rfl)
  have w_3 := hts (.fieldLink RX5 10 "ScannedDigits" "now" "LScannedDigits$State;") (List.mem_of_getElem? (i := 3) rfl)
  have w_4 := hts (.fieldLink RX5 164 "ScannedDigits$Snapshot" "isTaken" "Z") (List.mem_of_getElem? (i := 4) rfl)
  have w_5 := hts (.fieldLink RX5 125 "ScannedDigits$State" "time" "I") (List.mem_of_getElem? (i := 5) rfl)
  have hiX5 : ∀ w ∈ wsX50, w ∈ wsX5_keep := fun w h => (goodIn_r wsX50 [47, 48, 49, 50, 51] (by decide +kernel) (by decide +kernel) w h).1
  have hiX2 : ∀ w ∈ wsX20, w ∈ wsX5_keep := fun w h => (goodIn_r wsX20 [52, 53] (by decide +kernel) (by decide +kernel) w h).1
  have hiX3 : ∀ w ∈ wsX30, w ∈ wsX5_keep := fun w h => (goodIn_r wsX30 [54, 55, 56, 57, 58, 59, 60, 61, 62, 63, 64, 65, 66] (by decide +kernel) (by decide +kernel) w h).1
  have hl := lv_entry ([.ref (o 0), .int 1]) (n := 2) (Nat.le_of_ble_eq_true rfl)
  rw [lg_entry_eq]
  generalize (lg_sl ([.ref (o 0), .int 1]) ++ List.replicate (2 - (lg_sl ([.ref (o 0), .int 1])).length) Slot.unset).toArray = ls at hl ⊢
  have hl : lv_has ls 2 [(0, .ref (o 0)), (1, .int 1)] := hl
  refine lv_iload_n hx hb dX5_keep_0 rfl (lv_at hl 1 rfl) ?_
  refine lv_iconst (v := 0) hx hb dX5_keep_1 (by decide) ?_
  refine lv_aload_n hx hb dX5_keep_2 rfl (lv_at hl 0 rfl) ?_
  refine va_get (D := D) (ci := 5) (v := .ref (o 4)) (C := RX5) (T := TX5) (N := 5) hx hb hts hiX5 hown hK hP 29 (xw_get (i := 0) rfl) rfl 3 (by decide) w_1 (fun _ h9 => h9) rfl dX5_keep_3 ?_
  refine va_alen hx hb hK hP 33 6 (xw_get (i := 4) rfl) (ty := .object RX2) rfl (v := 2) rfl dX5_keep_6 ?_
  refine lv_iconst (v := 1) hx hb dX5_keep_7 (by decide) ?_
  refine lv_isub hx hb dX5_keep_8 ?_
  refine lv_as (y := 1) (rfl) ?_
  refine vp_callSi (va_runS (As := [.int 1, .int 0, .int 1]) (rest := []) ⟨hx, hb, hml, hown, hts⟩ (k_X5_isWithin l D ct 1 0 1) (va_cwS 3 hts gX5_keep_X5_isWithin rfl rfl rfl (by decide +kernel) ⟨Nat.le_of_ble_eq_true rfl, Nat.le_of_ble_eq_true rfl⟩) ⟨roP.blind, roP.at pw_nil hK hN⟩ rfl rfl hl.1 rfl (lv_room (Nat.le_of_ble_eq_true rfl)) dX5_keep_9 ⟨Nat.le_of_ble_eq_true rfl, Nat.le_of_ble_eq_true rfl⟩).run (fun r_9 h_9 => ?_)
  obtain rfl : r_9 = pIn 1 0 1 := h_9
  refine lv_if_ne (tgt := 17) hx hb dX5_keep_12 (by decide) (fun c_12 => ?_) (fun c_12 => ?_)
  · refine lv_aload_n hx hb dX5_keep_17 rfl (lv_at hl 0 rfl) ?_
    refine va_get (D := D) (ci := 5) (v := .ref (o 4)) (C := RX5) (T := TX5) (N := 5) hx hb hts hiX5 hown hK hP 29 (xw_get (i := 0) rfl) rfl 3 (by decide) w_1 (fun _ h9 => h9) rfl dX5_keep_18 ?_
    refine lv_iload_n hx hb dX5_keep_21 rfl (lv_at hl 1 rfl) ?_
    refine r_aldq (v := o 6) hx hb hK hP 33 6 (xw_get (i := 4) rfl) rfl (k := 1) (rfl) (by decide) (by decide) (rfl) dX5_keep_22 ?_
    refine va_get (D := D) (ci := 2) (v := .ref (ad 7 0)) (C := RX2) (T := TX2) (N := 2) hx hb hts hiX2 hown hK hP 35 (xw_get (i := 6) rfl) rfl 0 (by decide) w_2 (fun _ h9 => h9) rfl dX5_keep_23 ?_
    refine lv_aload_n hx hb dX5_keep_26 rfl (lv_at hl 0 rfl) ?_
    refine va_get (D := D) (ci := 5) (v := .ref ((ad 8) 0)) (C := RX5) (T := TX5) (N := 5) hx hb hts hiX5 hown hK hP 29 (xw_get (i := 0) rfl) rfl 0 (by decide) w_3 (fun _ h9 => h9) rfl dX5_keep_27 ?_
    have hFc_30 := w_free (wc := stW ct (ad 7) s1 ++ stW ct (ad 8) v) hD (xw_p) hS hA
    refine va_callv (va_runV (As := [.ref ((ad 8) 0)]) (rest := []) ⟨hx, hb, hml, hown, hts⟩ (k_X3_copyFrom l D ct _ (ad 7) (ad 8) s1 v) (cwV 1 hts gX5_keep_X3_copyFrom rfl rfl rfl (by decide +kernel) ⟨Nat.le_of_ble_eq_true rfl, Nat.le_of_ble_eq_true rfl⟩) ⟨muP.blind, va_recv hK (pw_cut xw_p hP) (ci := 3) (q0 := 0) rfl rfl, muP.at (pw_cut xw_p hP) (dw_cut xw_p hD) hK hN⟩ rfl rfl hl.1 rfl (lv_room (Nat.le_of_ble_eq_true rfl)) dX5_keep_30 ⟨Nat.le_of_ble_eq_true rfl, Nat.le_of_ble_eq_true rfl⟩) hS (fun q _ h => hFc_30 q h) hFc_30 (fun uu tt H1 locs ht hvm hw hB hz1 hk1 hS => ?_)
    obtain ⟨hP, hD⟩ := muE.join (ws' := stW ct (ad 8) v ++ xR ct o ad z w (nI n) (nI k) s0 v i0 i1 (nI t) nd f g) hP hD (xw_p) (xw_p) hk1 hFc_30 ht hB
    generalize H1 = H at hP hS ⊢
    refine lv_aload_n hx hb dX5_keep_33 rfl (lv_at hl 0 rfl) ?_
    refine va_get (D := D) (ci := 5) (v := .ref (o 4)) (C := RX5) (T := TX5) (N := 5) hx hb hts hiX5 hown hK hP 29 (xw_get (i := 0) rfl) rfl 3 (by decide) w_1 (fun _ h9 => h9) rfl dX5_keep_34 ?_
    refine lv_iload_n hx hb dX5_keep_37 rfl (lv_at hl 1 rfl) ?_
    refine r_aldq (v := o 6) hx hb hK hP 33 6 (xw_get (i := 4) rfl) rfl (k := 1) (rfl) (by decide) (by decide) (rfl) dX5_keep_38 ?_
    refine lv_iconst (v := 1) hx hb dX5_keep_39 (by decide) ?_
    refine va_put (D := D) (ci := 2) (v := .int 1) (ty := .boolean) (C := RX2) (T := TX2) (N := 2) hx hb hts hiX2 tyX2 tyX2_ok nmX2 hown hK hP hD hS 35 (xw_get (i := 6) rfl) rfl 1 (by decide) w_4 (fun _ h9 => h9) rfl (by decide +kernel) rfl rfl (Nat.le_of_ble_eq_true rfl) dX5_keep_40 (fun H locs hP hD hS => ?_)
    have hP : va_P D vwCl (stW ct (ad 8) v ++ xR ct o ad z w (nI n) (nI k) s0 v i0 1 (nI t) nd f g) H := xw_at (i := 6) rfl hP
    have hD : va_D A (stW ct (ad 8) v ++ xR ct o ad z w (nI n) (nI k) s0 v i0 1 (nI t) nd f g) := xw_atD (i := 6) rfl hD
    refine lv_aload_n hx hb dX5_keep_43 rfl (lv_at hl 0 rfl) ?_
    refine va_get (D := D) (ci := 5) (v := .ref ((ad 8) 0)) (C := RX5) (T := TX5) (N := 5) hx hb hts hiX5 hown hK hP 29 (xw_get (i := 0) rfl) rfl 0 (by decide) w_3 (fun _ h9 => h9) rfl dX5_keep_44 ?_
    refine va_get (D := D) (ci := 3) (v := .int (v.1 0 1)) (C := RX3) (T := TX3) (N := 13) hx hb hts hiX3 hown hK hP 0 sa_c0 rfl 5 (by decide) w_5 (fun _ h9 => h9) rfl dX5_keep_47 ?_
    have hP9 : va_P D vwCl (stW ct (ad 8) v ++ xR ct o ad z w (nI n) (nI k) s0 v i0 1 (nI t) nd f g) _ := hP
    have hD9 : va_D A (stW ct (ad 8) v ++ xR ct o ad z w (nI n) (nI k) s0 v i0 1 (nI t) nd f g) := hD
    subst hAe
    exact W.iret (v := (v.1 0 1)) hx hb hr (fun tt ht hW => ⟨⟨(v.1 0 1), (), rfl, rfl, muE.of (ct := ct) hP9 hD9 ht⟩, hS.F ht⟩) hS.2.2 dX5_keep_50
  · exact absurd c_12 (by decide)
set_option maxHeartbeats 4000000 in
set_option maxRecDepth 100000 in
theorem k_X5_restore_e2_1 (l : Launch) (D : va_G) (ct : Nat → ClassId) (o : Nat → Nat) (ad : Nat → Nat → Nat) (v z : SV) (w : Nat → SV) (n k : Nat) (hn : n < 5) (hk : k ≤ 5) (s0 s1 : SV) (i0 i1 : Int32) (t : Nat) (nd : Int32) (f g : Nat → Int32) (hz : i1 = 0) : Met l yX5_restore wsX5_restore ({ frames := 4, cells := 0, slots := 0, locals := 104 }) (roP D ct (stW ct (ad 8) v ++ xR ct o ad z w (nI n) (nI k) s0 s1 i0 i1 (nI t) nd f g) [.ref (o 0), .int 1]) (vp_Si (fun r => r = -4)) 0 0 noA := by
  refine Met.ofW (cc := cX5_restore) (maxL := 2) (ret := (some .int)) (by decide) rfl ?_
  intro p e s m args below meth c s₁ B hml hv
  obtain ⟨rfl, hP, hK, hN⟩ := hv
  have hx := B.exec
  have hb := B.bytes
  have hr := B.returns
  have hts := atoms_spec (ws := wsX5_restore) B.pre
  have hown : s.vm.findClass RX5 = some m.cls := findClass_of_methodNamed B.named
  have hlocks := B.notSynchronized
  have w_1 := hts (.fieldLink RX5 28 "ScannedDigits" "snapshots" "[LScannedDigits$Snapshot;") (List.mem_of_getElem? (i := 1) rfl)
  have w_2 := hts (.fieldLink RX5 164 "ScannedDigits$Snapshot" "isTaken" "Z") (List.mem_of_getElem? (i := 2) rfl)
  have hiX5 : ∀ w ∈ wsX50, w ∈ wsX5_restore := fun w h => (goodIn_r wsX50 [61, 62, 63, 64, 65] (by decide +kernel) (by decide +kernel) w h).1
  have hiX2 : ∀ w ∈ wsX20, w ∈ wsX5_restore := fun w h => (goodIn_r wsX20 [66, 67] (by decide +kernel) (by decide +kernel) w h).1
  have hl := lv_entry ([.ref (o 0), .int 1]) (n := 2) (Nat.le_of_ble_eq_true rfl)
  rw [lg_entry_eq]
  generalize (lg_sl ([.ref (o 0), .int 1]) ++ List.replicate (2 - (lg_sl ([.ref (o 0), .int 1])).length) Slot.unset).toArray = ls at hl ⊢
  have hl : lv_has ls 2 [(0, .ref (o 0)), (1, .int 1)] := hl
  refine lv_iload_n hx hb dX5_restore_0 rfl (lv_at hl 1 rfl) ?_
  refine lv_iconst (v := 0) hx hb dX5_restore_1 (by decide) ?_
  refine lv_aload_n hx hb dX5_restore_2 rfl (lv_at hl 0 rfl) ?_
  refine va_get (D := D) (ci := 5) (v := .ref (o 4)) (C := RX5) (T := TX5) (N := 5) hx hb hts hiX5 hown hK hP 29 (xw_get (i := 0) rfl) rfl 3 (by decide) w_1 (fun _ h9 => h9) rfl dX5_restore_3 ?_
  refine va_alen hx hb hK hP 33 6 (xw_get (i := 4) rfl) (ty := .object RX2) rfl (v := 2) rfl dX5_restore_6 ?_
  refine lv_iconst (v := 1) hx hb dX5_restore_7 (by decide) ?_
  refine lv_isub hx hb dX5_restore_8 ?_
  refine lv_as (y := 1) (rfl) ?_
  refine vp_callSi (va_runS (As := [.int 1, .int 0, .int 1]) (rest := []) ⟨hx, hb, hml, hown, hts⟩ (k_X5_isWithin l D ct 1 0 1) (va_cwS 3 hts gX5_restore_X5_isWithin rfl rfl rfl (by decide +kernel) ⟨Nat.le_of_ble_eq_true rfl, Nat.le_of_ble_eq_true rfl⟩) ⟨roP.blind, roP.at pw_nil hK hN⟩ rfl rfl hl.1 rfl (lv_room (Nat.le_of_ble_eq_true rfl)) dX5_restore_9 ⟨Nat.le_of_ble_eq_true rfl, Nat.le_of_ble_eq_true rfl⟩).run (fun r_9 h_9 => ?_)
  obtain rfl : r_9 = pIn 1 0 1 := h_9
  refine lv_if_ne (tgt := 17) hx hb dX5_restore_12 (by decide) (fun c_12 => ?_) (fun c_12 => ?_)
  · refine lv_aload_n hx hb dX5_restore_17 rfl (lv_at hl 0 rfl) ?_
    refine va_get (D := D) (ci := 5) (v := .ref (o 4)) (C := RX5) (T := TX5) (N := 5) hx hb hts hiX5 hown hK hP 29 (xw_get (i := 0) rfl) rfl 3 (by decide) w_1 (fun _ h9 => h9) rfl dX5_restore_18 ?_
    refine lv_iload_n hx hb dX5_restore_21 rfl (lv_at hl 1 rfl) ?_
    refine r_aldq (v := o 6) hx hb hK hP 33 6 (xw_get (i := 4) rfl) rfl (k := 1) (rfl) (by decide) (by decide) (rfl) dX5_restore_22 ?_
    refine va_get (D := D) (ci := 2) (v := .int i1) (C := RX2) (T := TX2) (N := 2) hx hb hts hiX2 hown hK hP 35 (xw_get (i := 6) rfl) rfl 1 (by decide) w_2 (fun _ h9 => h9) rfl dX5_restore_23 ?_
    refine lv_if_ne (tgt := 32) hx hb dX5_restore_26 (by decide) (fun c_26 => ?_) (fun c_26 => ?_)
    · exact absurd hz c_26
    · refine lv_bipush (v := (-4)) hx hb dX5_restore_29 (by decide) ?_
      exact W.iret (v := (-4)) hx hb hr (fun tt ht hW => ⟨(-4), rfl, rfl, ht⟩) (fun q hq => absurd hq List.not_mem_nil) dX5_restore_31
  · exact absurd c_12 (by decide)
set_option maxHeartbeats 4000000 in
set_option maxRecDepth 100000 in
theorem k_X5_restore_ok_1 (l : Launch) (D : va_G) (ct : Nat → ClassId) (sz : Nat) (o : Nat → Nat) (ad : Nat → Nat → Nat) (v z : SV) (w : Nat → SV) (n k : Nat) (hn : n < 5) (hk : k ≤ 5) (s0 s1 : SV) (i0 i1 : Int32) (t : Nat) (nd : Int32) (f g : Nat → Int32) (hz : ¬ i1 = 0) : Met l yX5_restore wsX5_restore ({ frames := 4, cells := 0, slots := 0, locals := 104 }) (muP D ct (stW ct (ad 8) v ++ xR ct o ad z w (nI n) (nI k) s0 s1 i0 i1 (nI t) nd f g) sz [.ref (o 0), .int 1]) (muI D ct (stW ct (ad 8) v ++ xR ct o ad z w (nI n) (nI k) s0 s1 i0 i1 (nI t) nd f g) (stW ct (ad 8) s1 ++ xR ct o ad z (va_up w n v) (nI (nxt n)) (nI (kPush k)) s0 s1 i0 i1 (nI t) nd f g) sz (fun r => r = (s1).1 0 1)) 0 0 (va_A (stW ct (ad 8) v ++ xR ct o ad z w (nI n) (nI k) s0 s1 i0 i1 (nI t) nd f g) sz) := by
  refine Met.ofW (cc := cX5_restore) (maxL := 2) (ret := (some .int)) (by decide) rfl ?_
  intro p e s m args below meth c s₁ B hml hv
  obtain ⟨rfl, hsz, hP, hK, hN, hD0⟩ := hv
  have hx := B.exec
  have hb := B.bytes
  have hr := B.returns
  have hts := atoms_spec (ws := wsX5_restore) B.pre
  have hown : s.vm.findClass RX5 = some m.cls := findClass_of_methodNamed B.named
  have hlocks := B.notSynchronized
  subst hsz
  have hD := hD0.self (sz := s.heap.size)
  generalize hAe : va_A (stW ct (ad 8) v ++ xR ct o ad z w (nI n) (nI k) s0 s1 i0 i1 (nI t) nd f g) s.heap.size = A at hD
  have hA : ∀ q : Nat, s.heap.size ≤ q → A q := fun q h => by rw [← hAe]; exact Or.inr h
  have hS : va_S A s.heap s.heap [] := va_S.rf
  have w_1 := hts (.fieldLink RX5 28 "ScannedDigits" "snapshots" "[LScannedDigits$Snapshot;") (List.mem_of_getElem? (i := 1) rfl)
  have w_2 := hts (.fieldLink RX5 164 "ScannedDigits$Snapshot" "isTaken" "Z") (List.mem_of_getElem? (i := 2) rfl)
  have w_3 := hts (.fieldLink RX5 22 "ScannedDigits" "history" "LScannedDigits$History;") (List.mem_of_getElem? (i := 3) rfl)
  have w_4 := hts (.fieldLink RX5 10 "ScannedDigits" "now" "LScannedDigits$State;") (List.mem_of_getElem? (i := 4) rfl)
  have w_5 := hts (.fieldLink RX5 158 "ScannedDigits$Snapshot" "state" "LScannedDigits$State;") (List.mem_of_getElem? (i := 5) rfl)
  have w_6 := hts (.fieldLink RX5 125 "ScannedDigits$State" "time" "I") (List.mem_of_getElem? (i := 6) rfl)
  have hiX5 : ∀ w ∈ wsX50, w ∈ wsX5_restore := fun w h => (goodIn_r wsX50 [61, 62, 63, 64, 65] (by decide +kernel) (by decide +kernel) w h).1
  have hiX2 : ∀ w ∈ wsX20, w ∈ wsX5_restore := fun w h => (goodIn_r wsX20 [66, 67] (by decide +kernel) (by decide +kernel) w h).1
  have hiX3 : ∀ w ∈ wsX30, w ∈ wsX5_restore := fun w h => (goodIn_r wsX30 [68, 69, 70, 71, 72, 73, 74, 75, 76, 77, 78, 79, 80] (by decide +kernel) (by decide +kernel) w h).1
  have hl := lv_entry ([.ref (o 0), .int 1]) (n := 2) (Nat.le_of_ble_eq_true rfl)
  rw [lg_entry_eq]
  generalize (lg_sl ([.ref (o 0), .int 1]) ++ List.replicate (2 - (lg_sl ([.ref (o 0), .int 1])).length) Slot.unset).toArray = ls at hl ⊢
  have hl : lv_has ls 2 [(0, .ref (o 0)), (1, .int 1)] := hl
  refine lv_iload_n hx hb dX5_restore_0 rfl (lv_at hl 1 rfl) ?_
  refine lv_iconst (v := 0) hx hb dX5_restore_1 (by decide) ?_
  refine lv_aload_n hx hb dX5_restore_2 rfl (lv_at hl 0 rfl) ?_
  refine va_get (D := D) (ci := 5) (v := .ref (o 4)) (C := RX5) (T := TX5) (N := 5) hx hb hts hiX5 hown hK hP 29 (xw_get (i := 0) rfl) rfl 3 (by decide) w_1 (fun _ h9 => h9) rfl dX5_restore_3 ?_
  refine va_alen hx hb hK hP 33 6 (xw_get (i := 4) rfl) (ty := .object RX2) rfl (v := 2) rfl dX5_restore_6 ?_
  refine lv_iconst (v := 1) hx hb dX5_restore_7 (by decide) ?_
  refine lv_isub hx hb dX5_restore_8 ?_
  refine lv_as (y := 1) (rfl) ?_
  refine vp_callSi (va_runS (As := [.int 1, .int 0, .int 1]) (rest := []) ⟨hx, hb, hml, hown, hts⟩ (k_X5_isWithin l D ct 1 0 1) (va_cwS 3 hts gX5_restore_X5_isWithin rfl rfl rfl (by decide +kernel) ⟨Nat.le_of_ble_eq_true rfl, Nat.le_of_ble_eq_true rfl⟩) ⟨roP.blind, roP.at pw_nil hK hN⟩ rfl rfl hl.1 rfl (lv_room (Nat.le_of_ble_eq_true rfl)) dX5_restore_9 ⟨Nat.le_of_ble_eq_true rfl, Nat.le_of_ble_eq_true rfl⟩).run (fun r_9 h_9 => ?_)
  obtain rfl : r_9 = pIn 1 0 1 := h_9
  refine lv_if_ne (tgt := 17) hx hb dX5_restore_12 (by decide) (fun c_12 => ?_) (fun c_12 => ?_)
  · refine lv_aload_n hx hb dX5_restore_17 rfl (lv_at hl 0 rfl) ?_
    refine va_get (D := D) (ci := 5) (v := .ref (o 4)) (C := RX5) (T := TX5) (N := 5) hx hb hts hiX5 hown hK hP 29 (xw_get (i := 0) rfl) rfl 3 (by decide) w_1 (fun _ h9 => h9) rfl dX5_restore_18 ?_
    refine lv_iload_n hx hb dX5_restore_21 rfl (lv_at hl 1 rfl) ?_
    refine r_aldq (v := o 6) hx hb hK hP 33 6 (xw_get (i := 4) rfl) rfl (k := 1) (rfl) (by decide) (by decide) (rfl) dX5_restore_22 ?_
    refine va_get (D := D) (ci := 2) (v := .int i1) (C := RX2) (T := TX2) (N := 2) hx hb hts hiX2 hown hK hP 35 (xw_get (i := 6) rfl) rfl 1 (by decide) w_2 (fun _ h9 => h9) rfl dX5_restore_23 ?_
    refine lv_if_ne (tgt := 32) hx hb dX5_restore_26 (by decide) (fun c_26 => ?_) (fun c_26 => ?_)
    · refine lv_aload_n hx hb dX5_restore_32 rfl (lv_at hl 0 rfl) ?_
      refine va_get (D := D) (ci := 5) (v := .ref (o 7)) (C := RX5) (T := TX5) (N := 5) hx hb hts hiX5 hown hK hP 29 (xw_get (i := 0) rfl) rfl 2 (by decide) w_3 (fun _ h9 => h9) rfl dX5_restore_33 ?_
      refine lv_aload_n hx hb dX5_restore_36 rfl (lv_at hl 0 rfl) ?_
      refine va_get (D := D) (ci := 5) (v := .ref ((ad 8) 0)) (C := RX5) (T := TX5) (N := 5) hx hb hts hiX5 hown hK hP 29 (xw_get (i := 0) rfl) rfl 0 (by decide) w_4 (fun _ h9 => h9) rfl dX5_restore_37 ?_
      have hFc_40 := w_free (wc := hsW ct (o 7) (o 8) ad (nI n) (nI k) w (ad 8) v) hD (xw_h) hS hA
      refine va_callv (va_runV (As := [.ref ((ad 8) 0)]) (rest := []) ⟨hx, hb, hml, hown, hts⟩ (k_X1_record l D ct _ (o 7) (o 8) ad n k hn w (ad 8) v hk) (cwV 1 hts gX5_restore_X1_record rfl rfl rfl (by decide +kernel) ⟨Nat.le_of_ble_eq_true rfl, Nat.le_of_ble_eq_true rfl⟩) ⟨muP.blind, va_recv hK (pw_cut xw_h hP) (ci := 1) (q0 := 0) rfl rfl, muP.at (pw_cut xw_h hP) (dw_cut xw_h hD) hK hN⟩ rfl rfl hl.1 rfl (lv_room (Nat.le_of_ble_eq_true rfl)) dX5_restore_40 ⟨Nat.le_of_ble_eq_true rfl, Nat.le_of_ble_eq_true rfl⟩) hS (fun q _ h => hFc_40 q h) hFc_40 (fun uu tt H1 locs ht hvm hw hB hz1 hk1 hS => ?_)
      obtain ⟨hP, hD⟩ := muE.join (ws' := stW ct (ad 8) v ++ xR ct o ad z (va_up w n v) (nI (nxt n)) (nI (kPush k)) s0 s1 i0 i1 (nI t) nd f g) hP hD (xw_h) (xw_h) hk1 hFc_40 ht hB
      generalize H1 = H at hP hS ⊢
      refine lv_aload_n hx hb dX5_restore_43 rfl (lv_at hl 0 rfl) ?_
      refine va_get (D := D) (ci := 5) (v := .ref ((ad 8) 0)) (C := RX5) (T := TX5) (N := 5) hx hb hts hiX5 hown hK hP 29 (xw_get (i := 0) rfl) rfl 0 (by decide) w_4 (fun _ h9 => h9) rfl dX5_restore_44 ?_
      refine lv_aload_n hx hb dX5_restore_47 rfl (lv_at hl 0 rfl) ?_
      refine va_get (D := D) (ci := 5) (v := .ref (o 4)) (C := RX5) (T := TX5) (N := 5) hx hb hts hiX5 hown hK hP 29 (xw_get (i := 0) rfl) rfl 3 (by decide) w_1 (fun _ h9 => h9) rfl dX5_restore_48 ?_
      refine lv_iload_n hx hb dX5_restore_51 rfl (lv_at hl 1 rfl) ?_
      refine r_aldq (v := o 6) hx hb hK hP 33 6 (xw_get (i := 4) rfl) rfl (k := 1) (rfl) (by decide) (by decide) (rfl) dX5_restore_52 ?_
      refine va_get (D := D) (ci := 2) (v := .ref (ad 7 0)) (C := RX2) (T := TX2) (N := 2) hx hb hts hiX2 hown hK hP 35 (xw_get (i := 6) rfl) rfl 0 (by decide) w_5 (fun _ h9 => h9) rfl dX5_restore_53 ?_
      have hFc_56 := w_free (wc := stW ct (ad 8) v ++ stW ct (ad 7) s1) hD (xw_p2) hS hA
      refine va_callv (va_runV (As := [.ref (ad 7 0)]) (rest := []) ⟨hx, hb, hml, hown, hts⟩ (k_X3_copyFrom l D ct _ (ad 8) (ad 7) v s1) (cwV 1 hts gX5_restore_X3_copyFrom rfl rfl rfl (by decide +kernel) ⟨Nat.le_of_ble_eq_true rfl, Nat.le_of_ble_eq_true rfl⟩) ⟨muP.blind, va_recv hK (pw_cut xw_p2 hP) (ci := 3) (q0 := 0) rfl rfl, muP.at (pw_cut xw_p2 hP) (dw_cut xw_p2 hD) hK hN⟩ rfl rfl hl.1 rfl (lv_room (Nat.le_of_ble_eq_true rfl)) dX5_restore_56 ⟨Nat.le_of_ble_eq_true rfl, Nat.le_of_ble_eq_true rfl⟩) hS (fun q _ h => hFc_56 q h) hFc_56 (fun uu tt H1 locs ht hvm hw hB hz1 hk1 hS => ?_)
      obtain ⟨hP, hD⟩ := muE.join (ws' := stW ct (ad 8) s1 ++ xR ct o ad z (va_up w n v) (nI (nxt n)) (nI (kPush k)) s0 s1 i0 i1 (nI t) nd f g) hP hD (xw_p2) (xw_p2) hk1 hFc_56 ht hB
      generalize H1 = H at hP hS ⊢
      refine lv_aload_n hx hb dX5_restore_59 rfl (lv_at hl 0 rfl) ?_
      refine va_get (D := D) (ci := 5) (v := .ref ((ad 8) 0)) (C := RX5) (T := TX5) (N := 5) hx hb hts hiX5 hown hK hP 29 (xw_get (i := 0) rfl) rfl 0 (by decide) w_4 (fun _ h9 => h9) rfl dX5_restore_60 ?_
      refine va_get (D := D) (ci := 3) (v := .int (s1.1 0 1)) (C := RX3) (T := TX3) (N := 13) hx hb hts hiX3 hown hK hP 0 sa_c0 rfl 5 (by decide) w_6 (fun _ h9 => h9) rfl dX5_restore_63 ?_
      have hP9 : va_P D vwCl (stW ct (ad 8) s1 ++ xR ct o ad z (va_up w n v) (nI (nxt n)) (nI (kPush k)) s0 s1 i0 i1 (nI t) nd f g) _ := hP
      have hD9 : va_D A (stW ct (ad 8) s1 ++ xR ct o ad z (va_up w n v) (nI (nxt n)) (nI (kPush k)) s0 s1 i0 i1 (nI t) nd f g) := hD
      subst hAe
      exact W.iret (v := (s1.1 0 1)) hx hb hr (fun tt ht hW => ⟨⟨(s1.1 0 1), (), rfl, rfl, muE.of (ct := ct) hP9 hD9 ht⟩, hS.F ht⟩) hS.2.2 dX5_restore_66
    · exact absurd c_26 hz
  · exact absurd c_12 (by decide)
