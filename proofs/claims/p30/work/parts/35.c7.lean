set_option maxHeartbeats 4000000 in
set_option maxRecDepth 100000 in
theorem k_X5_setGuard_e1 (l : Launch) (D : va_G) (ct : Nat → ClassId) (o : Nat → Nat) (ad : Nat → Nat → Nat) (v z : SV) (w : Nat → SV) (n k : Nat) (hn : n < 5) (hk : k ≤ 5) (s0 s1 : SV) (i0 i1 : Int32) (t : Nat) (nd : Int32) (f g : Nat → Int32) (x : Int32) (y1 : Int32) (hnd : ¬ vD v x) : Met l yX5_setGuard wsX5_setGuard ({ frames := 4, cells := 0, slots := 0, locals := 104 }) (roP D ct (stW ct (ad 8) v ++ xR ct o ad z w (nI n) (nI k) s0 s1 i0 i1 (nI t) nd f g) [.ref (o 0), .int x, .int y1]) (vp_Si (fun r => r = -1)) 0 0 noA := by
  refine Met.ofW (cc := cX5_setGuard) (maxL := 4) (ret := (some .int)) (by decide) rfl ?_
  intro p e s m args below meth c s₁ B hml hv
  obtain ⟨rfl, hP, hK, hN⟩ := hv
  have hx := B.exec
  have hb := B.bytes
  have hr := B.returns
  have hts := atoms_spec (ws := wsX5_setGuard) B.pre
  have hown : s.vm.findClass RX5 = some m.cls := findClass_of_methodNamed B.named
  have hlocks := B.notSynchronized
  have w_1 := hts (.fieldLink RX5 10 "ScannedDigits" "now" "LScannedDigits$State;") (List.mem_of_getElem? (i := 1) rfl)
  have hiX5 : ∀ w ∈ wsX50, w ∈ wsX5_setGuard := fun w h => (goodIn_r wsX50 [69, 70, 71, 72, 73] (by decide +kernel) (by decide +kernel) w h).1
  have hl := lv_entry ([.ref (o 0), .int x, .int y1]) (n := 4) (Nat.le_of_ble_eq_true rfl)
  rw [lg_entry_eq]
  generalize (lg_sl ([.ref (o 0), .int x, .int y1]) ++ List.replicate (4 - (lg_sl ([.ref (o 0), .int x, .int y1])).length) Slot.unset).toArray = ls at hl ⊢
  have hl : lv_has ls 4 [(0, .ref (o 0)), (1, .int x), (2, .int y1)] := hl
  refine lv_aload_n hx hb dX5_setGuard_0 rfl (lv_at hl 0 rfl) ?_
  refine va_get (D := D) (ci := 5) (v := .ref ((ad 8) 0)) (C := RX5) (T := TX5) (N := 5) hx hb hts hiX5 hown hK hP 29 (xw_get (i := 0) rfl) rfl 0 (by decide) w_1 (fun _ h9 => h9) rfl dX5_setGuard_1 ?_
  refine lv_iload_n hx hb dX5_setGuard_4 rfl (lv_at hl 1 rfl) ?_
  refine va_csq (va_runV (As := [.int x]) (rest := []) ⟨hx, hb, hml, hown, hts⟩ (k_X3_find_no l D ct (ad 8) v x hnd) (cwV 1 hts gX5_setGuard_X3_find rfl rfl rfl (by decide +kernel) ⟨Nat.le_of_ble_eq_true rfl, Nat.le_of_ble_eq_true rfl⟩) ⟨roP.blind, va_recv hK (pw_left hP) (ci := 3) (q0 := 0) rfl rfl, roP.at (pw_left hP) hK hN⟩ rfl rfl hl.1 rfl (lv_room (Nat.le_of_ble_eq_true rfl)) dX5_setGuard_5 ⟨Nat.le_of_ble_eq_true rfl, Nat.le_of_ble_eq_true rfl⟩).run (fun r_5 h_5 => ?_)
  obtain rfl : r_5 = none := h_5
  have hg_5 : va_rf (none) = .null := rfl
  rw [hg_5]
  refine lv_astore_nN (lv' := [(3, .null), (0, .ref (o 0)), (1, .int x), (2, .int y1)]) hx hb dX5_setGuard_8 rfl hl (by decide) rfl (fun ls hl => ?_)
  refine lv_aload_nN hx hb dX5_setGuard_9 rfl (lv_at hl 0 rfl) ?_
  refine lv_ifnonnullN hx hb dX5_setGuard_10 ?_
  refine lv_iconst (v := (-1)) hx hb dX5_setGuard_13 (by decide) ?_
  exact W.iret (v := (-1)) hx hb hr (fun tt ht hW => ⟨(-1), rfl, rfl, ht⟩) (fun q hq => absurd hq List.not_mem_nil) dX5_setGuard_14
set_option maxHeartbeats 4000000 in
set_option maxRecDepth 100000 in
theorem k_X5_setGuard_e2 (l : Launch) (D : va_G) (ct : Nat → ClassId) (o : Nat → Nat) (ad : Nat → Nat → Nat) (v z : SV) (w : Nat → SV) (n k : Nat) (hn : n < 5) (hk : k ≤ 5) (s0 s1 : SV) (i0 i1 : Int32) (t : Nat) (nd : Int32) (f g : Nat → Int32) (ok : Inv v) (d : Nat) (hd : d < nOf v) (y : Int32) (hin : pIn y 0 3 = 0) : Met l yX5_setGuard wsX5_setGuard ({ frames := 4, cells := 0, slots := 0, locals := 104 }) (roP D ct (stW ct (ad 8) v ++ xR ct o ad z w (nI n) (nI k) s0 s1 i0 i1 (nI t) nd f g) [.ref (o 0), .int (nI d), .int y]) (vp_Si (fun r => r = -2)) 0 0 noA := by
  refine Met.ofW (cc := cX5_setGuard) (maxL := 4) (ret := (some .int)) (by decide) rfl ?_
  intro p e s m args below meth c s₁ B hml hv
  obtain ⟨rfl, hP, hK, hN⟩ := hv
  have hx := B.exec
  have hb := B.bytes
  have hr := B.returns
  have hts := atoms_spec (ws := wsX5_setGuard) B.pre
  have hown : s.vm.findClass RX5 = some m.cls := findClass_of_methodNamed B.named
  have hlocks := B.notSynchronized
  have w_1 := hts (.fieldLink RX5 10 "ScannedDigits" "now" "LScannedDigits$State;") (List.mem_of_getElem? (i := 1) rfl)
  have hiX5 : ∀ w ∈ wsX50, w ∈ wsX5_setGuard := fun w h => (goodIn_r wsX50 [69, 70, 71, 72, 73] (by decide +kernel) (by decide +kernel) w h).1
  have hl := lv_entry ([.ref (o 0), .int (nI d), .int y]) (n := 4) (Nat.le_of_ble_eq_true rfl)
  rw [lg_entry_eq]
  generalize (lg_sl ([.ref (o 0), .int (nI d), .int y]) ++ List.replicate (4 - (lg_sl ([.ref (o 0), .int (nI d), .int y])).length) Slot.unset).toArray = ls at hl ⊢
  have hl : lv_has ls 4 [(0, .ref (o 0)), (1, .int (nI d)), (2, .int y)] := hl
  have hd8 : d < 8 := Nat.lt_of_lt_of_le hd ok.n8
  refine lv_aload_n hx hb dX5_setGuard_0 rfl (lv_at hl 0 rfl) ?_
  refine va_get (D := D) (ci := 5) (v := .ref ((ad 8) 0)) (C := RX5) (T := TX5) (N := 5) hx hb hts hiX5 hown hK hP 29 (xw_get (i := 0) rfl) rfl 0 (by decide) w_1 (fun _ h9 => h9) rfl dX5_setGuard_1 ?_
  refine lv_iload_n hx hb dX5_setGuard_4 rfl (lv_at hl 1 rfl) ?_
  refine va_csq (va_runV (As := [.int (nI d)]) (rest := []) ⟨hx, hb, hml, hown, hts⟩ (k_X3_find_ok l D ct (ad 8) v ok d hd) (cwV 1 hts gX5_setGuard_X3_find rfl rfl rfl (by decide +kernel) ⟨Nat.le_of_ble_eq_true rfl, Nat.le_of_ble_eq_true rfl⟩) ⟨roP.blind, va_recv hK (pw_left hP) (ci := 3) (q0 := 0) rfl rfl, roP.at (pw_left hP) hK hN⟩ rfl rfl hl.1 rfl (lv_room (Nat.le_of_ble_eq_true rfl)) dX5_setGuard_5 ⟨Nat.le_of_ble_eq_true rfl, Nat.le_of_ble_eq_true rfl⟩).run (fun r_5 h_5 => ?_)
  obtain rfl : r_5 = some ((ad 8) (3 * d + 5)) := h_5
  have hg_5 : va_rf (some ((ad 8) (3 * d + 5))) = .ref ((ad 8) (3 * d + 5)) := rfl
  rw [hg_5]
  refine lv_astore_n (lv' := [(3, .ref ((ad 8) (3 * d + 5))), (0, .ref (o 0)), (1, .int (nI d)), (2, .int y)]) hx hb dX5_setGuard_8 rfl hl (by decide) rfl (fun ls hl => ?_)
  refine lv_aload_n hx hb dX5_setGuard_9 rfl (lv_at hl 0 rfl) ?_
  refine lv_ifnonnull (tgt := 15) hx hb dX5_setGuard_10 (by decide) ?_
  refine lv_iload_n hx hb dX5_setGuard_15 rfl (lv_at hl 3 rfl) ?_
  refine lv_iconst (v := 0) hx hb dX5_setGuard_16 (by decide) ?_
  refine lv_iconst (v := 3) hx hb dX5_setGuard_17 (by decide) ?_
  refine vp_callSi (va_runS (As := [.int y, .int 0, .int 3]) (rest := []) ⟨hx, hb, hml, hown, hts⟩ (k_X5_isWithin l D ct y 0 3) (va_cwS 3 hts gX5_setGuard_X5_isWithin rfl rfl rfl (by decide +kernel) ⟨Nat.le_of_ble_eq_true rfl, Nat.le_of_ble_eq_true rfl⟩) ⟨roP.blind, roP.at pw_nil hK hN⟩ rfl rfl hl.1 rfl (lv_room (Nat.le_of_ble_eq_true rfl)) dX5_setGuard_18 ⟨Nat.le_of_ble_eq_true rfl, Nat.le_of_ble_eq_true rfl⟩).run (fun r_18 h_18 => ?_)
  obtain rfl : r_18 = pIn y 0 3 := h_18
  refine lv_if_ne (tgt := 27) hx hb dX5_setGuard_21 (by decide) (fun c_21 => ?_) (fun c_21 => ?_)
  · exact absurd hin c_21
  · refine lv_bipush (v := (-2)) hx hb dX5_setGuard_24 (by decide) ?_
    exact W.iret (v := (-2)) hx hb hr (fun tt ht hW => ⟨(-2), rfl, rfl, ht⟩) (fun q hq => absurd hq List.not_mem_nil) dX5_setGuard_26
set_option maxHeartbeats 4000000 in
set_option maxRecDepth 100000 in
theorem k_X5_setGuard_ok (l : Launch) (D : va_G) (ct : Nat → ClassId) (sz : Nat) (o : Nat → Nat) (ad : Nat → Nat → Nat) (v z : SV) (w : Nat → SV) (n k : Nat) (hn : n < 5) (hk : k ≤ 5) (s0 s1 : SV) (i0 i1 : Int32) (t : Nat) (nd : Int32) (f g : Nat → Int32) (ok : Inv v) (d : Nat) (hd : d < nOf v) (y : Int32) (hin : ¬ pIn y 0 3 = 0) : Met l yX5_setGuard wsX5_setGuard ({ frames := 4, cells := 0, slots := 0, locals := 104 }) (muP D ct (stW ct (ad 8) v ++ xR ct o ad z w (nI n) (nI k) s0 s1 i0 i1 (nI t) nd f g) sz [.ref (o 0), .int (nI d), .int y]) (muI D ct (stW ct (ad 8) v ++ xR ct o ad z w (nI n) (nI k) s0 s1 i0 i1 (nI t) nd f g) (stW ct (ad 8) (s2 v (4 + d) 2 y) ++ xR ct o ad z (va_up w n v) (nI (nxt n)) (nI (kPush k)) s0 s1 i0 i1 (nI t) nd f g) sz (fun r => r = pLP (s2 v (4 + d) 2 y) d)) 0 0 (va_A (stW ct (ad 8) v ++ xR ct o ad z w (nI n) (nI k) s0 s1 i0 i1 (nI t) nd f g) sz) := by
  refine Met.ofW (cc := cX5_setGuard) (maxL := 4) (ret := (some .int)) (by decide) rfl ?_
  intro p e s m args below meth c s₁ B hml hv
  obtain ⟨rfl, hsz, hP, hK, hN, hD0⟩ := hv
  have hx := B.exec
  have hb := B.bytes
  have hr := B.returns
  have hts := atoms_spec (ws := wsX5_setGuard) B.pre
  have hown : s.vm.findClass RX5 = some m.cls := findClass_of_methodNamed B.named
  have hlocks := B.notSynchronized
  subst hsz
  have hD := hD0.self (sz := s.heap.size)
  generalize hAe : va_A (stW ct (ad 8) v ++ xR ct o ad z w (nI n) (nI k) s0 s1 i0 i1 (nI t) nd f g) s.heap.size = A at hD
  have hA : ∀ q : Nat, s.heap.size ≤ q → A q := fun q h => by rw [← hAe]; exact Or.inr h
  have hS : va_S A s.heap s.heap [] := va_S.rf
  have w_1 := hts (.fieldLink RX5 10 "ScannedDigits" "now" "LScannedDigits$State;") (List.mem_of_getElem? (i := 1) rfl)
  have w_2 := hts (.fieldLink RX5 22 "ScannedDigits" "history" "LScannedDigits$History;") (List.mem_of_getElem? (i := 2) rfl)
  have w_3 := hts (.fieldLink RX5 68 "ScannedDigits$Digit" "guard" "I") (List.mem_of_getElem? (i := 3) rfl)
  have hiX5 : ∀ w ∈ wsX50, w ∈ wsX5_setGuard := fun w h => (goodIn_r wsX50 [69, 70, 71, 72, 73] (by decide +kernel) (by decide +kernel) w h).1
  have hiX0 : ∀ w ∈ wsX00, w ∈ wsX5_setGuard := fun w h => (goodIn_r wsX00 [74, 75, 76, 77, 78, 79, 80, 81, 82] (by decide +kernel) (by decide +kernel) w h).1
  have hl := lv_entry ([.ref (o 0), .int (nI d), .int y]) (n := 4) (Nat.le_of_ble_eq_true rfl)
  rw [lg_entry_eq]
  generalize (lg_sl ([.ref (o 0), .int (nI d), .int y]) ++ List.replicate (4 - (lg_sl ([.ref (o 0), .int (nI d), .int y])).length) Slot.unset).toArray = ls at hl ⊢
  have hl : lv_has ls 4 [(0, .ref (o 0)), (1, .int (nI d)), (2, .int y)] := hl
  have hd8 : d < 8 := Nat.lt_of_lt_of_le hd ok.n8
  refine lv_aload_n hx hb dX5_setGuard_0 rfl (lv_at hl 0 rfl) ?_
  refine va_get (D := D) (ci := 5) (v := .ref ((ad 8) 0)) (C := RX5) (T := TX5) (N := 5) hx hb hts hiX5 hown hK hP 29 (xw_get (i := 0) rfl) rfl 0 (by decide) w_1 (fun _ h9 => h9) rfl dX5_setGuard_1 ?_
  refine lv_iload_n hx hb dX5_setGuard_4 rfl (lv_at hl 1 rfl) ?_
  refine va_csq (va_runV (As := [.int (nI d)]) (rest := []) ⟨hx, hb, hml, hown, hts⟩ (k_X3_find_ok l D ct (ad 8) v ok d hd) (cwV 1 hts gX5_setGuard_X3_find rfl rfl rfl (by decide +kernel) ⟨Nat.le_of_ble_eq_true rfl, Nat.le_of_ble_eq_true rfl⟩) ⟨roP.blind, va_recv hK (pw_left hP) (ci := 3) (q0 := 0) rfl rfl, roP.at (pw_left hP) hK hN⟩ rfl rfl hl.1 rfl (lv_room (Nat.le_of_ble_eq_true rfl)) dX5_setGuard_5 ⟨Nat.le_of_ble_eq_true rfl, Nat.le_of_ble_eq_true rfl⟩).run (fun r_5 h_5 => ?_)
  obtain rfl : r_5 = some ((ad 8) (3 * d + 5)) := h_5
  have hg_5 : va_rf (some ((ad 8) (3 * d + 5))) = .ref ((ad 8) (3 * d + 5)) := rfl
  rw [hg_5]
  refine lv_astore_n (lv' := [(3, .ref ((ad 8) (3 * d + 5))), (0, .ref (o 0)), (1, .int (nI d)), (2, .int y)]) hx hb dX5_setGuard_8 rfl hl (by decide) rfl (fun ls hl => ?_)
  refine lv_aload_n hx hb dX5_setGuard_9 rfl (lv_at hl 0 rfl) ?_
  refine lv_ifnonnull (tgt := 15) hx hb dX5_setGuard_10 (by decide) ?_
  refine lv_iload_n hx hb dX5_setGuard_15 rfl (lv_at hl 3 rfl) ?_
  refine lv_iconst (v := 0) hx hb dX5_setGuard_16 (by decide) ?_
  refine lv_iconst (v := 3) hx hb dX5_setGuard_17 (by decide) ?_
  refine vp_callSi (va_runS (As := [.int y, .int 0, .int 3]) (rest := []) ⟨hx, hb, hml, hown, hts⟩ (k_X5_isWithin l D ct y 0 3) (va_cwS 3 hts gX5_setGuard_X5_isWithin rfl rfl rfl (by decide +kernel) ⟨Nat.le_of_ble_eq_true rfl, Nat.le_of_ble_eq_true rfl⟩) ⟨roP.blind, roP.at pw_nil hK hN⟩ rfl rfl hl.1 rfl (lv_room (Nat.le_of_ble_eq_true rfl)) dX5_setGuard_18 ⟨Nat.le_of_ble_eq_true rfl, Nat.le_of_ble_eq_true rfl⟩).run (fun r_18 h_18 => ?_)
  obtain rfl : r_18 = pIn y 0 3 := h_18
  refine lv_if_ne (tgt := 27) hx hb dX5_setGuard_21 (by decide) (fun c_21 => ?_) (fun c_21 => ?_)
  · refine lv_aload_n hx hb dX5_setGuard_27 rfl (lv_at hl 1 rfl) ?_
    refine va_get (D := D) (ci := 5) (v := .ref (o 7)) (C := RX5) (T := TX5) (N := 5) hx hb hts hiX5 hown hK hP 29 (xw_get (i := 0) rfl) rfl 2 (by decide) w_2 (fun _ h9 => h9) rfl dX5_setGuard_28 ?_
    refine lv_aload_n hx hb dX5_setGuard_31 rfl (lv_at hl 1 rfl) ?_
    refine va_get (D := D) (ci := 5) (v := .ref ((ad 8) 0)) (C := RX5) (T := TX5) (N := 5) hx hb hts hiX5 hown hK hP 29 (xw_get (i := 0) rfl) rfl 0 (by decide) w_1 (fun _ h9 => h9) rfl dX5_setGuard_32 ?_
    have hFc_35 := w_free (wc := hsW ct (o 7) (o 8) ad (nI n) (nI k) w (ad 8) v) hD (xw_h) hS hA
    refine va_callv (va_runV (As := [.ref ((ad 8) 0)]) (rest := []) ⟨hx, hb, hml, hown, hts⟩ (k_X1_record l D ct _ (o 7) (o 8) ad n k hn w (ad 8) v hk) (cwV 1 hts gX5_setGuard_X1_record rfl rfl rfl (by decide +kernel) ⟨Nat.le_of_ble_eq_true rfl, Nat.le_of_ble_eq_true rfl⟩) ⟨muP.blind, va_recv hK (pw_cut xw_h hP) (ci := 1) (q0 := 0) rfl rfl, muP.at (pw_cut xw_h hP) (dw_cut xw_h hD) hK hN⟩ rfl rfl hl.1 rfl (lv_room (Nat.le_of_ble_eq_true rfl)) dX5_setGuard_35 ⟨Nat.le_of_ble_eq_true rfl, Nat.le_of_ble_eq_true rfl⟩) hS (fun q _ h => hFc_35 q h) hFc_35 (fun uu tt H1 locs ht hvm hw hB hz1 hk1 hS => ?_)
    obtain ⟨hP, hD⟩ := muE.join (ws' := stW ct (ad 8) v ++ xR ct o ad z (va_up w n v) (nI (nxt n)) (nI (kPush k)) s0 s1 i0 i1 (nI t) nd f g) hP hD (xw_h) (xw_h) hk1 hFc_35 ht hB
    generalize H1 = H at hP hS ⊢
    refine lv_aload_n hx hb dX5_setGuard_38 rfl (lv_at hl 0 rfl) ?_
    refine lv_iload_n hx hb dX5_setGuard_39 rfl (lv_at hl 3 rfl) ?_
    refine va_put (D := D) (ci := 0) (v := .int y) (ty := .int) (C := RX0) (T := TX0) (N := 9) hx hb hts hiX0 tyX0 tyX0_ok nmX0 hown hK hP hD hS (3 * d + 5) (sa_getD (by omega)) rfl 1 (by decide) w_3 (fun _ h9 => h9) rfl (by decide +kernel) rfl rfl (Nat.le_of_ble_eq_true rfl) dX5_setGuard_40 (fun H locs hP hD hS => ?_)
    have hP : va_P D vwCl (stW ct (ad 8) (sC v (4 + d) (upd (v.1 (4 + d)) 2 y)) ++ xR ct o ad z (va_up w n v) (nI (nxt n)) (nI (kPush k)) s0 s1 i0 i1 (nI t) nd f g) H := sa_pD (by omega) (upd (v.1 (4 + d)) 2 y) hP
    have hD : va_D A (stW ct (ad 8) (sC v (4 + d) (upd (v.1 (4 + d)) 2 y)) ++ xR ct o ad z (va_up w n v) (nI (nxt n)) (nI (kPush k)) s0 s1 i0 i1 (nI t) nd f g) := sa_dset (by omega) hD
    refine lv_aload_n hx hb dX5_setGuard_43 rfl (lv_at hl 0 rfl) ?_
    refine vp_callSi (va_runV (As := []) (rest := []) ⟨hx, hb, hml, hown, hts⟩ (k_X0_litPart l D ct ((ad 8) (3 * d + 5)) ((ad 8) (3 * d + 6)) ((ad 8) (3 * d + 7)) ((s2 v (4 + d) 2 y).1 (4 + d)) ((s2 v (4 + d) 2 y).1 (12 + d)) ((s2 v (4 + d) 2 y).1 (20 + d))) (cwV 0 hts gX5_setGuard_X0_litPart rfl rfl rfl (by decide +kernel) ⟨Nat.le_of_ble_eq_true rfl, Nat.le_of_ble_eq_true rfl⟩) ⟨roP.blind, va_recv hK (sa_dgP hd8 hP) (ci := 0) (q0 := 0) rfl rfl, roP.at (sa_dgP hd8 hP) hK hN⟩ rfl rfl hl.1 rfl (lv_room (Nat.le_of_ble_eq_true rfl)) dX5_setGuard_44 ⟨Nat.le_of_ble_eq_true rfl, Nat.le_of_ble_eq_true rfl⟩).run (fun r_44 h_44 => ?_)
    obtain rfl : r_44 = pLP (s2 v (4 + d) 2 y) d := h_44
    have hP9 : va_P D vwCl (stW ct (ad 8) (s2 v (4 + d) 2 y) ++ xR ct o ad z (va_up w n v) (nI (nxt n)) (nI (kPush k)) s0 s1 i0 i1 (nI t) nd f g) _ := hP
    have hD9 : va_D A (stW ct (ad 8) (s2 v (4 + d) 2 y) ++ xR ct o ad z (va_up w n v) (nI (nxt n)) (nI (kPush k)) s0 s1 i0 i1 (nI t) nd f g) := hD
    subst hAe
    exact W.iret (v := (pLP (s2 v (4 + d) 2 y) d)) hx hb hr (fun tt ht hW => ⟨⟨(pLP (s2 v (4 + d) 2 y) d), (), rfl, rfl, muE.of (ct := ct) hP9 hD9 ht⟩, hS.F ht⟩) hS.2.2 dX5_setGuard_47
  · exact absurd c_21 hin
set_option maxHeartbeats 4000000 in
set_option maxRecDepth 100000 in
theorem k_X5_setBrightness_e1 (l : Launch) (D : va_G) (ct : Nat → ClassId) (o : Nat → Nat) (ad : Nat → Nat → Nat) (v z : SV) (w : Nat → SV) (n k : Nat) (hn : n < 5) (hk : k ≤ 5) (s0 s1 : SV) (i0 i1 : Int32) (t : Nat) (nd : Int32) (f g : Nat → Int32) (x : Int32) (y1 : Int32) (hnd : ¬ vD v x) : Met l yX5_setBrightness wsX5_setBrightness ({ frames := 4, cells := 0, slots := 0, locals := 104 }) (roP D ct (stW ct (ad 8) v ++ xR ct o ad z w (nI n) (nI k) s0 s1 i0 i1 (nI t) nd f g) [.ref (o 0), .int x, .int y1]) (vp_Si (fun r => r = -1)) 0 0 noA := by
  refine Met.ofW (cc := cX5_setBrightness) (maxL := 4) (ret := (some .int)) (by decide) rfl ?_
  intro p e s m args below meth c s₁ B hml hv
  obtain ⟨rfl, hP, hK, hN⟩ := hv
  have hx := B.exec
  have hb := B.bytes
  have hr := B.returns
  have hts := atoms_spec (ws := wsX5_setBrightness) B.pre
  have hown : s.vm.findClass RX5 = some m.cls := findClass_of_methodNamed B.named
  have hlocks := B.notSynchronized
  have w_1 := hts (.fieldLink RX5 10 "ScannedDigits" "now" "LScannedDigits$State;") (List.mem_of_getElem? (i := 1) rfl)
  have hiX5 : ∀ w ∈ wsX50, w ∈ wsX5_setBrightness := fun w h => (goodIn_r wsX50 [69, 70, 71, 72, 73] (by decide +kernel) (by decide +kernel) w h).1
  have hl := lv_entry ([.ref (o 0), .int x, .int y1]) (n := 4) (Nat.le_of_ble_eq_true rfl)
  rw [lg_entry_eq]
  generalize (lg_sl ([.ref (o 0), .int x, .int y1]) ++ List.replicate (4 - (lg_sl ([.ref (o 0), .int x, .int y1])).length) Slot.unset).toArray = ls at hl ⊢
  have hl : lv_has ls 4 [(0, .ref (o 0)), (1, .int x), (2, .int y1)] := hl
  refine lv_aload_n hx hb dX5_setBrightness_0 rfl (lv_at hl 0 rfl) ?_
  refine va_get (D := D) (ci := 5) (v := .ref ((ad 8) 0)) (C := RX5) (T := TX5) (N := 5) hx hb hts hiX5 hown hK hP 29 (xw_get (i := 0) rfl) rfl 0 (by decide) w_1 (fun _ h9 => h9) rfl dX5_setBrightness_1 ?_
  refine lv_iload_n hx hb dX5_setBrightness_4 rfl (lv_at hl 1 rfl) ?_
  refine va_csq (va_runV (As := [.int x]) (rest := []) ⟨hx, hb, hml, hown, hts⟩ (k_X3_find_no l D ct (ad 8) v x hnd) (cwV 1 hts gX5_setBrightness_X3_find rfl rfl rfl (by decide +kernel) ⟨Nat.le_of_ble_eq_true rfl, Nat.le_of_ble_eq_true rfl⟩) ⟨roP.blind, va_recv hK (pw_left hP) (ci := 3) (q0 := 0) rfl rfl, roP.at (pw_left hP) hK hN⟩ rfl rfl hl.1 rfl (lv_room (Nat.le_of_ble_eq_true rfl)) dX5_setBrightness_5 ⟨Nat.le_of_ble_eq_true rfl, Nat.le_of_ble_eq_true rfl⟩).run (fun r_5 h_5 => ?_)
  obtain rfl : r_5 = none := h_5
  have hg_5 : va_rf (none) = .null := rfl
  rw [hg_5]
  refine lv_astore_nN (lv' := [(3, .null), (0, .ref (o 0)), (1, .int x), (2, .int y1)]) hx hb dX5_setBrightness_8 rfl hl (by decide) rfl (fun ls hl => ?_)
  refine lv_aload_nN hx hb dX5_setBrightness_9 rfl (lv_at hl 0 rfl) ?_
  refine lv_ifnonnullN hx hb dX5_setBrightness_10 ?_
  refine lv_iconst (v := (-1)) hx hb dX5_setBrightness_13 (by decide) ?_
  exact W.iret (v := (-1)) hx hb hr (fun tt ht hW => ⟨(-1), rfl, rfl, ht⟩) (fun q hq => absurd hq List.not_mem_nil) dX5_setBrightness_14
set_option maxHeartbeats 4000000 in
set_option maxRecDepth 100000 in
theorem k_X5_setBrightness_e2 (l : Launch) (D : va_G) (ct : Nat → ClassId) (o : Nat → Nat) (ad : Nat → Nat → Nat) (v z : SV) (w : Nat → SV) (n k : Nat) (hn : n < 5) (hk : k ≤ 5) (s0 s1 : SV) (i0 i1 : Int32) (t : Nat) (nd : Int32) (f g : Nat → Int32) (ok : Inv v) (d : Nat) (hd : d < nOf v) (y : Int32) (hin : pIn y 0 15 = 0) : Met l yX5_setBrightness wsX5_setBrightness ({ frames := 4, cells := 0, slots := 0, locals := 104 }) (roP D ct (stW ct (ad 8) v ++ xR ct o ad z w (nI n) (nI k) s0 s1 i0 i1 (nI t) nd f g) [.ref (o 0), .int (nI d), .int y]) (vp_Si (fun r => r = -2)) 0 0 noA := by
  refine Met.ofW (cc := cX5_setBrightness) (maxL := 4) (ret := (some .int)) (by decide) rfl ?_
  intro p e s m args below meth c s₁ B hml hv
  obtain ⟨rfl, hP, hK, hN⟩ := hv
  have hx := B.exec
  have hb := B.bytes
  have hr := B.returns
  have hts := atoms_spec (ws := wsX5_setBrightness) B.pre
  have hown : s.vm.findClass RX5 = some m.cls := findClass_of_methodNamed B.named
  have hlocks := B.notSynchronized
  have w_1 := hts (.fieldLink RX5 10 "ScannedDigits" "now" "LScannedDigits$State;") (List.mem_of_getElem? (i := 1) rfl)
  have hiX5 : ∀ w ∈ wsX50, w ∈ wsX5_setBrightness := fun w h => (goodIn_r wsX50 [69, 70, 71, 72, 73] (by decide +kernel) (by decide +kernel) w h).1
  have hl := lv_entry ([.ref (o 0), .int (nI d), .int y]) (n := 4) (Nat.le_of_ble_eq_true rfl)
  rw [lg_entry_eq]
  generalize (lg_sl ([.ref (o 0), .int (nI d), .int y]) ++ List.replicate (4 - (lg_sl ([.ref (o 0), .int (nI d), .int y])).length) Slot.unset).toArray = ls at hl ⊢
  have hl : lv_has ls 4 [(0, .ref (o 0)), (1, .int (nI d)), (2, .int y)] := hl
  have hd8 : d < 8 := Nat.lt_of_lt_of_le hd ok.n8
  refine lv_aload_n hx hb dX5_setBrightness_0 rfl (lv_at hl 0 rfl) ?_
  refine va_get (D := D) (ci := 5) (v := .ref ((ad 8) 0)) (C := RX5) (T := TX5) (N := 5) hx hb hts hiX5 hown hK hP 29 (xw_get (i := 0) rfl) rfl 0 (by decide) w_1 (fun _ h9 => h9) rfl dX5_setBrightness_1 ?_
  refine lv_iload_n hx hb dX5_setBrightness_4 rfl (lv_at hl 1 rfl) ?_
  refine va_csq (va_runV (As := [.int (nI d)]) (rest := []) ⟨hx, hb, hml, hown, hts⟩ (k_X3_find_ok l D ct (ad 8) v ok d hd) (cwV 1 hts gX5_setBrightness_X3_find rfl rfl rfl (by decide +kernel) ⟨Nat.le_of_ble_eq_true rfl, Nat.le_of_ble_eq_true rfl⟩) ⟨roP.blind, va_recv hK (pw_left hP) (ci := 3) (q0 := 0) rfl rfl, roP.at (pw_left hP) hK hN⟩ rfl rfl hl.1 rfl (lv_room (Nat.le_of_ble_eq_true rfl)) dX5_setBrightness_5 ⟨Nat.le_of_ble_eq_true rfl, Nat.le_of_ble_eq_true rfl⟩).run (fun r_5 h_5 => ?_)
  obtain rfl : r_5 = some ((ad 8) (3 * d + 5)) := h_5
  have hg_5 : va_rf (some ((ad 8) (3 * d + 5))) = .ref ((ad 8) (3 * d + 5)) := rfl
  rw [hg_5]
  refine lv_astore_n (lv' := [(3, .ref ((ad 8) (3 * d + 5))), (0, .ref (o 0)), (1, .int (nI d)), (2, .int y)]) hx hb dX5_setBrightness_8 rfl hl (by decide) rfl (fun ls hl => ?_)
  refine lv_aload_n hx hb dX5_setBrightness_9 rfl (lv_at hl 0 rfl) ?_
  refine lv_ifnonnull (tgt := 15) hx hb dX5_setBrightness_10 (by decide) ?_
  refine lv_iload_n hx hb dX5_setBrightness_15 rfl (lv_at hl 3 rfl) ?_
  refine lv_iconst (v := 0) hx hb dX5_setBrightness_16 (by decide) ?_
  refine lv_bipush (v := 15) hx hb dX5_setBrightness_17 (by decide) ?_
  refine vp_callSi (va_runS (As := [.int y, .int 0, .int 15]) (rest := []) ⟨hx, hb, hml, hown, hts⟩ (k_X5_isWithin l D ct y 0 15) (va_cwS 3 hts gX5_setBrightness_X5_isWithin rfl rfl rfl (by decide +kernel) ⟨Nat.le_of_ble_eq_true rfl, Nat.le_of_ble_eq_true rfl⟩) ⟨roP.blind, roP.at pw_nil hK hN⟩ rfl rfl hl.1 rfl (lv_room (Nat.le_of_ble_eq_true rfl)) dX5_setBrightness_19 ⟨Nat.le_of_ble_eq_true rfl, Nat.le_of_ble_eq_true rfl⟩).run (fun r_19 h_19 => ?_)
  obtain rfl : r_19 = pIn y 0 15 := h_19
  refine lv_if_ne (tgt := 28) hx hb dX5_setBrightness_22 (by decide) (fun c_22 => ?_) (fun c_22 => ?_)
  · exact absurd hin c_22
  · refine lv_bipush (v := (-2)) hx hb dX5_setBrightness_25 (by decide) ?_
    exact W.iret (v := (-2)) hx hb hr (fun tt ht hW => ⟨(-2), rfl, rfl, ht⟩) (fun q hq => absurd hq List.not_mem_nil) dX5_setBrightness_27
set_option maxHeartbeats 4000000 in
set_option maxRecDepth 100000 in
theorem k_X5_setBrightness_ok (l : Launch) (D : va_G) (ct : Nat → ClassId) (sz : Nat) (o : Nat → Nat) (ad : Nat → Nat → Nat) (v z : SV) (w : Nat → SV) (n k : Nat) (hn : n < 5) (hk : k ≤ 5) (s0 s1 : SV) (i0 i1 : Int32) (t : Nat) (nd : Int32) (f g : Nat → Int32) (ok : Inv v) (d : Nat) (hd : d < nOf v) (y : Int32) (hin : ¬ pIn y 0 15 = 0) : Met l yX5_setBrightness wsX5_setBrightness ({ frames := 4, cells := 0, slots := 0, locals := 104 }) (muP D ct (stW ct (ad 8) v ++ xR ct o ad z w (nI n) (nI k) s0 s1 i0 i1 (nI t) nd f g) sz [.ref (o 0), .int (nI d), .int y]) (muI D ct (stW ct (ad 8) v ++ xR ct o ad z w (nI n) (nI k) s0 s1 i0 i1 (nI t) nd f g) (stW ct (ad 8) (s2 v (4 + d) 3 y) ++ xR ct o ad z (va_up w n v) (nI (nxt n)) (nI (kPush k)) s0 s1 i0 i1 (nI t) nd f g) sz (fun r => r = pLP (s2 v (4 + d) 3 y) d)) 0 0 (va_A (stW ct (ad 8) v ++ xR ct o ad z w (nI n) (nI k) s0 s1 i0 i1 (nI t) nd f g) sz) := by
  refine Met.ofW (cc := cX5_setBrightness) (maxL := 4) (ret := (some .int)) (by decide) rfl ?_
  intro p e s m args below meth c s₁ B hml hv
  obtain ⟨rfl, hsz, hP, hK, hN, hD0⟩ := hv
  have hx := B.exec
  have hb := B.bytes
  have hr := B.returns
  have hts := atoms_spec (ws := wsX5_setBrightness) B.pre
  have hown : s.vm.findClass RX5 = some m.cls := findClass_of_methodNamed B.named
  have hlocks := B.notSynchronized
  subst hsz
  have hD := hD0.self (sz := s.heap.size)
  generalize hAe : va_A (stW ct (ad 8) v ++ xR ct o ad z w (nI n) (nI k) s0 s1 i0 i1 (nI t) nd f g) s.heap.size = A at hD
  have hA : ∀ q : Nat, s.heap.size ≤ q → A q := fun q h => by rw [← hAe]; exact Or.inr h
  have hS : va_S A s.heap s.heap [] := va_S.rf
  have w_1 := hts (.fieldLink RX5 10 "ScannedDigits" "now" "LScannedDigits$State;") (List.mem_of_getElem? (i := 1) rfl)
  have w_2 := hts (.fieldLink RX5 22 "ScannedDigits" "history" "LScannedDigits$History;") (List.mem_of_getElem? (i := 2) rfl)
  have w_3 := hts (.fieldLink RX5 76 "ScannedDigits$Digit" "brightness" "I") (List.mem_of_getElem? (i := 3) rfl)
  have hiX5 : ∀ w ∈ wsX50, w ∈ wsX5_setBrightness := fun w h => (goodIn_r wsX50 [69, 70, 71, 72, 73] (by decide +kernel) (by decide +kernel) w h).1
  have hiX0 : ∀ w ∈ wsX00, w ∈ wsX5_setBrightness := fun w h => (goodIn_r wsX00 [74, 75, 76, 77, 78, 79, 80, 81, 82] (by decide +kernel) (by decide +kernel) w h).1
  have hl := lv_entry ([.ref (o 0), .int (nI d), .int y]) (n := 4) (Nat.le_of_ble_eq_true rfl)
  rw [lg_entry_eq]
  generalize (lg_sl ([.ref (o 0), .int (nI d), .int y]) ++ List.replicate (4 - (lg_sl ([.ref (o 0), .int (nI d), .int y])).length) Slot.unset).toArray = ls at hl ⊢
  have hl : lv_has ls 4 [(0, .ref (o 0)), (1, .int (nI d)), (2, .int y)] := hl
  have hd8 : d < 8 := Nat.lt_of_lt_of_le hd ok.n8
  refine lv_aload_n hx hb dX5_setBrightness_0 rfl (lv_at hl 0 rfl) ?_
  refine va_get (D := D) (ci := 5) (v := .ref ((ad 8) 0)) (C := RX5) (T := TX5) (N := 5) hx hb hts hiX5 hown hK hP 29 (xw_get (i := 0) rfl) rfl 0 (by decide) w_1 (fun _ h9 => h9) rfl dX5_setBrightness_1 ?_
  refine lv_iload_n hx hb dX5_setBrightness_4 rfl (lv_at hl 1 rfl) ?_
  refine va_csq (va_runV (As := [.int (nI d)]) (rest := []) ⟨hx, hb, hml, hown, hts⟩ (k_X3_find_ok l D ct (ad 8) v ok d hd) (cwV 1 hts gX5_setBrightness_X3_find rfl rfl rfl (by decide +kernel) ⟨Nat.le_of_ble_eq_true rfl, Nat.le_of_ble_eq_true rfl⟩) ⟨roP.blind, va_recv hK (pw_left hP) (ci := 3) (q0 := 0) rfl rfl, roP.at (pw_left hP) hK hN⟩ rfl rfl hl.1 rfl (lv_room (Nat.le_of_ble_eq_true rfl)) dX5_setBrightness_5 ⟨Nat.le_of_ble_eq_true rfl, Nat.le_of_ble_eq_true rfl⟩).run (fun r_5 h_5 => ?_)
  obtain rfl : r_5 = some ((ad 8) (3 * d + 5)) := h_5
  have hg_5 : va_rf (some ((ad 8) (3 * d + 5))) = .ref ((ad 8) (3 * d + 5)) := rfl
  rw [hg_5]
  refine lv_astore_n (lv' := [(3, .ref ((ad 8) (3 * d + 5))), (0, .ref (o 0)), (1, .int (nI d)), (2, .int y)]) hx hb dX5_setBrightness_8 rfl hl (by decide) rfl (fun ls hl => ?_)
  refine lv_aload_n hx hb dX5_setBrightness_9 rfl (lv_at hl 0 rfl) ?_
  refine lv_ifnonnull (tgt := 15) hx hb dX5_setBrightness_10 (by decide) ?_
  refine lv_iload_n hx hb dX5_setBrightness_15 rfl (lv_at hl 3 rfl) ?_
  refine lv_iconst (v := 0) hx hb dX5_setBrightness_16 (by decide) ?_
  refine lv_bipush (v := 15) hx hb dX5_setBrightness_17 (by decide) ?_
  refine vp_callSi (va_runS (As := [.int y, .int 0, .int 15]) (rest := []) ⟨hx, hb, hml, hown, hts⟩ (k_X5_isWithin l D ct y 0 15) (va_cwS 3 hts gX5_setBrightness_X5_isWithin rfl rfl rfl (by decide +kernel) ⟨Nat.le_of_ble_eq_true rfl, Nat.le_of_ble_eq_true rfl⟩) ⟨roP.blind, roP.at pw_nil hK hN⟩ rfl rfl hl.1 rfl (lv_room (Nat.le_of_ble_eq_true rfl)) dX5_setBrightness_19 ⟨Nat.le_of_ble_eq_true rfl, Nat.le_of_ble_eq_true rfl⟩).run (fun r_19 h_19 => ?_)
  obtain rfl : r_19 = pIn y 0 15 := h_19
  refine lv_if_ne (tgt := 28) hx hb dX5_setBrightness_22 (by decide) (fun c_22 => ?_) (fun c_22 => ?_)
  · refine lv_aload_n hx hb dX5_setBrightness_28 rfl (lv_at hl 1 rfl) ?_
    refine va_get (D := D) (ci := 5) (v := .ref (o 7)) (C := RX5) (T := TX5) (N := 5) hx hb hts hiX5 hown hK hP 29 (xw_get (i := 0) rfl) rfl 2 (by decide) w_2 (fun _ h9 => h9) rfl dX5_setBrightness_29 ?_
    refine lv_aload_n hx hb dX5_setBrightness_32 rfl (lv_at hl 1 rfl) ?_
    refine va_get (D := D) (ci := 5) (v := .ref ((ad 8) 0)) (C := RX5) (T := TX5) (N := 5) hx hb hts hiX5 hown hK hP 29 (xw_get (i := 0) rfl) rfl 0 (by decide) w_1 (fun _ h9 => h9) rfl dX5_setBrightness_33 ?_
    have hFc_36 := w_free (wc := hsW ct (o 7) (o 8) ad (nI n) (nI k) w (ad 8) v) hD (xw_h) hS hA
    refine va_callv (va_runV (As := [.ref ((ad 8) 0)]) (rest := []) ⟨hx, hb, hml, hown, hts⟩ (k_X1_record l D ct _ (o 7) (o 8) ad n k hn w (ad 8) v hk) (cwV 1 hts gX5_setBrightness_X1_record rfl rfl rfl (by decide +kernel) ⟨Nat.le_of_ble_eq_true rfl, Nat.le_of_ble_eq_true rfl⟩) ⟨muP.blind, va_recv hK (pw_cut xw_h hP) (ci := 1) (q0 := 0) rfl rfl, muP.at (pw_cut xw_h hP) (dw_cut xw_h hD) hK hN⟩ rfl rfl hl.1 rfl (lv_room (Nat.le_of_ble_eq_true rfl)) dX5_setBrightness_36 ⟨Nat.le_of_ble_eq_true rfl, Nat.le_of_ble_eq_true rfl⟩) hS (fun q _ h => hFc_36 q h) hFc_36 (fun uu tt H1 locs ht hvm hw hB hz1 hk1 hS => ?_)
    obtain ⟨hP, hD⟩ := muE.join (ws' := stW ct (ad 8) v ++ xR ct o ad z (va_up w n v) (nI (nxt n)) (nI (kPush k)) s0 s1 i0 i1 (nI t) nd f g) hP hD (xw_h) (xw_h) hk1 hFc_36 ht hB
    generalize H1 = H at hP hS ⊢
    refine lv_aload_n hx hb dX5_setBrightness_39 rfl (lv_at hl 0 rfl) ?_
    refine lv_iload_n hx hb dX5_setBrightness_40 rfl (lv_at hl 3 rfl) ?_
    refine va_put (D := D) (ci := 0) (v := .int y) (ty := .int) (C := RX0) (T := TX0) (N := 9) hx hb hts hiX0 tyX0 tyX0_ok nmX0 hown hK hP hD hS (3 * d + 5) (sa_getD (by omega)) rfl 2 (by decide) w_3 (fun _ h9 => h9) rfl (by decide +kernel) rfl rfl (Nat.le_of_ble_eq_true rfl) dX5_setBrightness_41 (fun H locs hP hD hS => ?_)
    have hP : va_P D vwCl (stW ct (ad 8) (sC v (4 + d) (upd (v.1 (4 + d)) 3 y)) ++ xR ct o ad z (va_up w n v) (nI (nxt n)) (nI (kPush k)) s0 s1 i0 i1 (nI t) nd f g) H := sa_pD (by omega) (upd (v.1 (4 + d)) 3 y) hP
    have hD : va_D A (stW ct (ad 8) (sC v (4 + d) (upd (v.1 (4 + d)) 3 y)) ++ xR ct o ad z (va_up w n v) (nI (nxt n)) (nI (kPush k)) s0 s1 i0 i1 (nI t) nd f g) := sa_dset (by omega) hD
    refine lv_aload_n hx hb dX5_setBrightness_44 rfl (lv_at hl 0 rfl) ?_
    refine vp_callSi (va_runV (As := []) (rest := []) ⟨hx, hb, hml, hown, hts⟩ (k_X0_litPart l D ct ((ad 8) (3 * d + 5)) ((ad 8) (3 * d + 6)) ((ad 8) (3 * d + 7)) ((s2 v (4 + d) 3 y).1 (4 + d)) ((s2 v (4 + d) 3 y).1 (12 + d)) ((s2 v (4 + d) 3 y).1 (20 + d))) (cwV 0 hts gX5_setBrightness_X0_litPart rfl rfl rfl (by decide +kernel) ⟨Nat.le_of_ble_eq_true rfl, Nat.le_of_ble_eq_true rfl⟩) ⟨roP.blind, va_recv hK (sa_dgP hd8 hP) (ci := 0) (q0 := 0) rfl rfl, roP.at (sa_dgP hd8 hP) hK hN⟩ rfl rfl hl.1 rfl (lv_room (Nat.le_of_ble_eq_true rfl)) dX5_setBrightness_45 ⟨Nat.le_of_ble_eq_true rfl, Nat.le_of_ble_eq_true rfl⟩).run (fun r_45 h_45 => ?_)
    obtain rfl : r_45 = pLP (s2 v (4 + d) 3 y) d := h_45
    have hP9 : va_P D vwCl (stW ct (ad 8) (s2 v (4 + d) 3 y) ++ xR ct o ad z (va_up w n v) (nI (nxt n)) (nI (kPush k)) s0 s1 i0 i1 (nI t) nd f g) _ := hP
    have hD9 : va_D A (stW ct (ad 8) (s2 v (4 + d) 3 y) ++ xR ct o ad z (va_up w n v) (nI (nxt n)) (nI (kPush k)) s0 s1 i0 i1 (nI t) nd f g) := hD
    subst hAe
    exact W.iret (v := (pLP (s2 v (4 + d) 3 y) d)) hx hb hr (fun tt ht hW => ⟨⟨(pLP (s2 v (4 + d) 3 y) d), (), rfl, rfl, muE.of (ct := ct) hP9 hD9 ht⟩, hS.F ht⟩) hS.2.2 dX5_setBrightness_48
  · exact absurd c_22 hin
set_option maxHeartbeats 4000000 in
set_option maxRecDepth 100000 in
theorem k_X5_setPattern_e1 (l : Launch) (D : va_G) (ct : Nat → ClassId) (o : Nat → Nat) (ad : Nat → Nat → Nat) (v z : SV) (w : Nat → SV) (n k : Nat) (hn : n < 5) (hk : k ≤ 5) (s0 s1 : SV) (i0 i1 : Int32) (t : Nat) (nd : Int32) (f g : Nat → Int32) (x : Int32) (y1 : Int32) (hnd : ¬ vD v x) : Met l yX5_setPattern wsX5_setPattern ({ frames := 4, cells := 0, slots := 0, locals := 104 }) (roP D ct (stW ct (ad 8) v ++ xR ct o ad z w (nI n) (nI k) s0 s1 i0 i1 (nI t) nd f g) [.ref (o 0), .int x, .int y1]) (vp_Si (fun r => r = -1)) 0 0 noA := by
  refine Met.ofW (cc := cX5_setPattern) (maxL := 5) (ret := (some .int)) (by decide) rfl ?_
  intro p e s m args below meth c s₁ B hml hv
  obtain ⟨rfl, hP, hK, hN⟩ := hv
  have hx := B.exec
  have hb := B.bytes
  have hr := B.returns
  have hts := atoms_spec (ws := wsX5_setPattern) B.pre
  have hown : s.vm.findClass RX5 = some m.cls := findClass_of_methodNamed B.named
  have hlocks := B.notSynchronized
  have w_1 := hts (.fieldLink RX5 10 "ScannedDigits" "now" "LScannedDigits$State;") (List.mem_of_getElem? (i := 1) rfl)
  have hiX5 : ∀ w ∈ wsX50, w ∈ wsX5_setPattern := fun w h => (goodIn_r wsX50 [61, 62, 63, 64, 65] (by decide +kernel) (by decide +kernel) w h).1
  have hl := lv_entry ([.ref (o 0), .int x, .int y1]) (n := 5) (Nat.le_of_ble_eq_true rfl)
  rw [lg_entry_eq]
  generalize (lg_sl ([.ref (o 0), .int x, .int y1]) ++ List.replicate (5 - (lg_sl ([.ref (o 0), .int x, .int y1])).length) Slot.unset).toArray = ls at hl ⊢
  have hl : lv_has ls 5 [(0, .ref (o 0)), (1, .int x), (2, .int y1)] := hl
  refine lv_aload_n hx hb dX5_setPattern_0 rfl (lv_at hl 0 rfl) ?_
  refine va_get (D := D) (ci := 5) (v := .ref ((ad 8) 0)) (C := RX5) (T := TX5) (N := 5) hx hb hts hiX5 hown hK hP 29 (xw_get (i := 0) rfl) rfl 0 (by decide) w_1 (fun _ h9 => h9) rfl dX5_setPattern_1 ?_
  refine lv_iload_n hx hb dX5_setPattern_4 rfl (lv_at hl 1 rfl) ?_
  refine va_csq (va_runV (As := [.int x]) (rest := []) ⟨hx, hb, hml, hown, hts⟩ (k_X3_find_no l D ct (ad 8) v x hnd) (cwV 1 hts gX5_setPattern_X3_find rfl rfl rfl (by decide +kernel) ⟨Nat.le_of_ble_eq_true rfl, Nat.le_of_ble_eq_true rfl⟩) ⟨roP.blind, va_recv hK (pw_left hP) (ci := 3) (q0 := 0) rfl rfl, roP.at (pw_left hP) hK hN⟩ rfl rfl hl.1 rfl (lv_room (Nat.le_of_ble_eq_true rfl)) dX5_setPattern_5 ⟨Nat.le_of_ble_eq_true rfl, Nat.le_of_ble_eq_true rfl⟩).run (fun r_5 h_5 => ?_)
  obtain rfl : r_5 = none := h_5
  have hg_5 : va_rf (none) = .null := rfl
  rw [hg_5]
  refine lv_astore_nN (lv' := [(3, .null), (0, .ref (o 0)), (1, .int x), (2, .int y1)]) hx hb dX5_setPattern_8 rfl hl (by decide) rfl (fun ls hl => ?_)
  refine lv_aload_nN hx hb dX5_setPattern_9 rfl (lv_at hl 0 rfl) ?_
  refine lv_ifnonnullN hx hb dX5_setPattern_10 ?_
  refine lv_iconst (v := (-1)) hx hb dX5_setPattern_13 (by decide) ?_
  exact W.iret (v := (-1)) hx hb hr (fun tt ht hW => ⟨(-1), rfl, rfl, ht⟩) (fun q hq => absurd hq List.not_mem_nil) dX5_setPattern_14
set_option maxHeartbeats 4000000 in
set_option maxRecDepth 100000 in
theorem k_X5_setPattern_e2 (l : Launch) (D : va_G) (ct : Nat → ClassId) (o : Nat → Nat) (ad : Nat → Nat → Nat) (v z : SV) (w : Nat → SV) (n k : Nat) (hn : n < 5) (hk : k ≤ 5) (s0 s1 : SV) (i0 i1 : Int32) (t : Nat) (nd : Int32) (f g : Nat → Int32) (ok : Inv v) (d : Nat) (hd : d < nOf v) (y : Int32) (hin : pIn y 0 255 = 0) : Met l yX5_setPattern wsX5_setPattern ({ frames := 4, cells := 0, slots := 0, locals := 104 }) (roP D ct (stW ct (ad 8) v ++ xR ct o ad z w (nI n) (nI k) s0 s1 i0 i1 (nI t) nd f g) [.ref (o 0), .int (nI d), .int y]) (vp_Si (fun r => r = -2)) 0 0 noA := by
  refine Met.ofW (cc := cX5_setPattern) (maxL := 5) (ret := (some .int)) (by decide) rfl ?_
  intro p e s m args below meth c s₁ B hml hv
  obtain ⟨rfl, hP, hK, hN⟩ := hv
  have hx := B.exec
  have hb := B.bytes
  have hr := B.returns
  have hts := atoms_spec (ws := wsX5_setPattern) B.pre
  have hown : s.vm.findClass RX5 = some m.cls := findClass_of_methodNamed B.named
  have hlocks := B.notSynchronized
  have w_1 := hts (.fieldLink RX5 10 "ScannedDigits" "now" "LScannedDigits$State;") (List.mem_of_getElem? (i := 1) rfl)
  have hiX5 : ∀ w ∈ wsX50, w ∈ wsX5_setPattern := fun w h => (goodIn_r wsX50 [61, 62, 63, 64, 65] (by decide +kernel) (by decide +kernel) w h).1
  have hl := lv_entry ([.ref (o 0), .int (nI d), .int y]) (n := 5) (Nat.le_of_ble_eq_true rfl)
  rw [lg_entry_eq]
  generalize (lg_sl ([.ref (o 0), .int (nI d), .int y]) ++ List.replicate (5 - (lg_sl ([.ref (o 0), .int (nI d), .int y])).length) Slot.unset).toArray = ls at hl ⊢
  have hl : lv_has ls 5 [(0, .ref (o 0)), (1, .int (nI d)), (2, .int y)] := hl
  have hd8 : d < 8 := Nat.lt_of_lt_of_le hd ok.n8
  refine lv_aload_n hx hb dX5_setPattern_0 rfl (lv_at hl 0 rfl) ?_
  refine va_get (D := D) (ci := 5) (v := .ref ((ad 8) 0)) (C := RX5) (T := TX5) (N := 5) hx hb hts hiX5 hown hK hP 29 (xw_get (i := 0) rfl) rfl 0 (by decide) w_1 (fun _ h9 => h9) rfl dX5_setPattern_1 ?_
  refine lv_iload_n hx hb dX5_setPattern_4 rfl (lv_at hl 1 rfl) ?_
  refine va_csq (va_runV (As := [.int (nI d)]) (rest := []) ⟨hx, hb, hml, hown, hts⟩ (k_X3_find_ok l D ct (ad 8) v ok d hd) (cwV 1 hts gX5_setPattern_X3_find rfl rfl rfl (by decide +kernel) ⟨Nat.le_of_ble_eq_true rfl, Nat.le_of_ble_eq_true rfl⟩) ⟨roP.blind, va_recv hK (pw_left hP) (ci := 3) (q0 := 0) rfl rfl, roP.at (pw_left hP) hK hN⟩ rfl rfl hl.1 rfl (lv_room (Nat.le_of_ble_eq_true rfl)) dX5_setPattern_5 ⟨Nat.le_of_ble_eq_true rfl, Nat.le_of_ble_eq_true rfl⟩).run (fun r_5 h_5 => ?_)
  obtain rfl : r_5 = some ((ad 8) (3 * d + 5)) := h_5
  have hg_5 : va_rf (some ((ad 8) (3 * d + 5))) = .ref ((ad 8) (3 * d + 5)) := rfl
  rw [hg_5]
  refine lv_astore_n (lv' := [(3, .ref ((ad 8) (3 * d + 5))), (0, .ref (o 0)), (1, .int (nI d)), (2, .int y)]) hx hb dX5_setPattern_8 rfl hl (by decide) rfl (fun ls hl => ?_)
  refine lv_aload_n hx hb dX5_setPattern_9 rfl (lv_at hl 0 rfl) ?_
  refine lv_ifnonnull (tgt := 15) hx hb dX5_setPattern_10 (by decide) ?_
  refine lv_iload_n hx hb dX5_setPattern_15 rfl (lv_at hl 3 rfl) ?_
  refine lv_iconst (v := 0) hx hb dX5_setPattern_16 (by decide) ?_
  refine lv_sipush (v := 255) hx hb dX5_setPattern_17 (by decide) ?_
  refine vp_callSi (va_runS (As := [.int y, .int 0, .int 255]) (rest := []) ⟨hx, hb, hml, hown, hts⟩ (k_X5_isWithin l D ct y 0 255) (va_cwS 3 hts gX5_setPattern_X5_isWithin rfl rfl rfl (by decide +kernel) ⟨Nat.le_of_ble_eq_true rfl, Nat.le_of_ble_eq_true rfl⟩) ⟨roP.blind, roP.at pw_nil hK hN⟩ rfl rfl hl.1 rfl (lv_room (Nat.le_of_ble_eq_true rfl)) dX5_setPattern_20 ⟨Nat.le_of_ble_eq_true rfl, Nat.le_of_ble_eq_true rfl⟩).run (fun r_20 h_20 => ?_)
  obtain rfl : r_20 = pIn y 0 255 := h_20
  refine lv_if_ne (tgt := 29) hx hb dX5_setPattern_23 (by decide) (fun c_23 => ?_) (fun c_23 => ?_)
  · exact absurd hin c_23
  · refine lv_bipush (v := (-2)) hx hb dX5_setPattern_26 (by decide) ?_
    exact W.iret (v := (-2)) hx hb hr (fun tt ht hW => ⟨(-2), rfl, rfl, ht⟩) (fun q hq => absurd hq List.not_mem_nil) dX5_setPattern_28
set_option maxHeartbeats 4000000 in
set_option maxRecDepth 100000 in
theorem k_X5_setPattern_ok (l : Launch) (D : va_G) (ct : Nat → ClassId) (sz : Nat) (o : Nat → Nat) (ad : Nat → Nat → Nat) (v z : SV) (w : Nat → SV) (n k : Nat) (hn : n < 5) (hk : k ≤ 5) (s0 s1 : SV) (i0 i1 : Int32) (t : Nat) (nd : Int32) (f g : Nat → Int32) (ok : Inv v) (d : Nat) (hd : d < nOf v) (y : Int32) (hin : ¬ pIn y 0 255 = 0) : Met l yX5_setPattern wsX5_setPattern ({ frames := 4, cells := 0, slots := 0, locals := 104 }) (muP D ct (stW ct (ad 8) v ++ xR ct o ad z w (nI n) (nI k) s0 s1 i0 i1 (nI t) nd f g) sz [.ref (o 0), .int (nI d), .int y]) (muI D ct (stW ct (ad 8) v ++ xR ct o ad z w (nI n) (nI k) s0 s1 i0 i1 (nI t) nd f g) (stW ct (ad 8) (s2 v (4 + d) 0 y) ++ xR ct o ad z (va_up w n v) (nI (nxt n)) (nI (kPush k)) s0 s1 i0 i1 (nI t) nd f g) sz (fun r => r = v.1 (4 + d) 0)) 0 0 (va_A (stW ct (ad 8) v ++ xR ct o ad z w (nI n) (nI k) s0 s1 i0 i1 (nI t) nd f g) sz) := by
  refine Met.ofW (cc := cX5_setPattern) (maxL := 5) (ret := (some .int)) (by decide) rfl ?_
  intro p e s m args below meth c s₁ B hml hv
  obtain ⟨rfl, hsz, hP, hK, hN, hD0⟩ := hv
  have hx := B.exec
  have hb := B.bytes
  have hr := B.returns
  have hts := atoms_spec (ws := wsX5_setPattern) B.pre
  have hown : s.vm.findClass RX5 = some m.cls := findClass_of_methodNamed B.named
  have hlocks := B.notSynchronized
  subst hsz
  have hD := hD0.self (sz := s.heap.size)
  generalize hAe : va_A (stW ct (ad 8) v ++ xR ct o ad z w (nI n) (nI k) s0 s1 i0 i1 (nI t) nd f g) s.heap.size = A at hD
  have hA : ∀ q : Nat, s.heap.size ≤ q → A q := fun q h => by rw [← hAe]; exact Or.inr h
  have hS : va_S A s.heap s.heap [] := va_S.rf
  have w_1 := hts (.fieldLink RX5 10 "ScannedDigits" "now" "LScannedDigits$State;") (List.mem_of_getElem? (i := 1) rfl)
  have w_2 := hts (.fieldLink RX5 22 "ScannedDigits" "history" "LScannedDigits$History;") (List.mem_of_getElem? (i := 2) rfl)
  have w_3 := hts (.fieldLink RX5 79 "ScannedDigits$Digit" "pattern" "I") (List.mem_of_getElem? (i := 3) rfl)
  have hiX5 : ∀ w ∈ wsX50, w ∈ wsX5_setPattern := fun w h => (goodIn_r wsX50 [61, 62, 63, 64, 65] (by decide +kernel) (by decide +kernel) w h).1
  have hiX0 : ∀ w ∈ wsX00, w ∈ wsX5_setPattern := fun w h => (goodIn_r wsX00 [66, 67, 68, 69, 70, 71, 72, 73, 74] (by decide +kernel) (by decide +kernel) w h).1
  have hl := lv_entry ([.ref (o 0), .int (nI d), .int y]) (n := 5) (Nat.le_of_ble_eq_true rfl)
  rw [lg_entry_eq]
  generalize (lg_sl ([.ref (o 0), .int (nI d), .int y]) ++ List.replicate (5 - (lg_sl ([.ref (o 0), .int (nI d), .int y])).length) Slot.unset).toArray = ls at hl ⊢
  have hl : lv_has ls 5 [(0, .ref (o 0)), (1, .int (nI d)), (2, .int y)] := hl
  have hd8 : d < 8 := Nat.lt_of_lt_of_le hd ok.n8
  refine lv_aload_n hx hb dX5_setPattern_0 rfl (lv_at hl 0 rfl) ?_
  refine va_get (D := D) (ci := 5) (v := .ref ((ad 8) 0)) (C := RX5) (T := TX5) (N := 5) hx hb hts hiX5 hown hK hP 29 (xw_get (i := 0) rfl) rfl 0 (by decide) w_1 (fun _ h9 => h9) rfl dX5_setPattern_1 ?_
  refine lv_iload_n hx hb dX5_setPattern_4 rfl (lv_at hl 1 rfl) ?_
  refine va_csq (va_runV (As := [.int (nI d)]) (rest := []) ⟨hx, hb, hml, hown, hts⟩ (k_X3_find_ok l D ct (ad 8) v ok d hd) (cwV 1 hts gX5_setPattern_X3_find rfl rfl rfl (by decide +kernel) ⟨Nat.le_of_ble_eq_true rfl, Nat.le_of_ble_eq_true rfl⟩) ⟨roP.blind, va_recv hK (pw_left hP) (ci := 3) (q0 := 0) rfl rfl, roP.at (pw_left hP) hK hN⟩ rfl rfl hl.1 rfl (lv_room (Nat.le_of_ble_eq_true rfl)) dX5_setPattern_5 ⟨Nat.le_of_ble_eq_true rfl, Nat.le_of_ble_eq_true rfl⟩).run (fun r_5 h_5 => ?_)
  obtain rfl : r_5 = some ((ad 8) (3 * d + 5)) := h_5
  have hg_5 : va_rf (some ((ad 8) (3 * d + 5))) = .ref ((ad 8) (3 * d + 5)) := rfl
  rw [hg_5]
  refine lv_astore_n (lv' := [(3, .ref ((ad 8) (3 * d + 5))), (0, .ref (o 0)), (1, .int (nI d)), (2, .int y)]) hx hb dX5_setPattern_8 rfl hl (by decide) rfl (fun ls hl => ?_)
  refine lv_aload_n hx hb dX5_setPattern_9 rfl (lv_at hl 0 rfl) ?_
  refine lv_ifnonnull (tgt := 15) hx hb dX5_setPattern_10 (by decide) ?_
  refine lv_iload_n hx hb dX5_setPattern_15 rfl (lv_at hl 3 rfl) ?_
  refine lv_iconst (v := 0) hx hb dX5_setPattern_16 (by decide) ?_
  refine lv_sipush (v := 255) hx hb dX5_setPattern_17 (by decide) ?_
  refine vp_callSi (va_runS (As := [.int y, .int 0, .int 255]) (rest := []) ⟨hx, hb, hml, hown, hts⟩ (k_X5_isWithin l D ct y 0 255) (va_cwS 3 hts gX5_setPattern_X5_isWithin rfl rfl rfl (by decide +kernel) ⟨Nat.le_of_ble_eq_true rfl, Nat.le_of_ble_eq_true rfl⟩) ⟨roP.blind, roP.at pw_nil hK hN⟩ rfl rfl hl.1 rfl (lv_room (Nat.le_of_ble_eq_true rfl)) dX5_setPattern_20 ⟨Nat.le_of_ble_eq_true rfl, Nat.le_of_ble_eq_true rfl⟩).run (fun r_20 h_20 => ?_)
  obtain rfl : r_20 = pIn y 0 255 := h_20
  refine lv_if_ne (tgt := 29) hx hb dX5_setPattern_23 (by decide) (fun c_23 => ?_) (fun c_23 => ?_)
  · refine lv_aload_n hx hb dX5_setPattern_29 rfl (lv_at hl 1 rfl) ?_
    refine va_get (D := D) (ci := 5) (v := .ref (o 7)) (C := RX5) (T := TX5) (N := 5) hx hb hts hiX5 hown hK hP 29 (xw_get (i := 0) rfl) rfl 2 (by decide) w_2 (fun _ h9 => h9) rfl dX5_setPattern_30 ?_
    refine lv_aload_n hx hb dX5_setPattern_33 rfl (lv_at hl 1 rfl) ?_
    refine va_get (D := D) (ci := 5) (v := .ref ((ad 8) 0)) (C := RX5) (T := TX5) (N := 5) hx hb hts hiX5 hown hK hP 29 (xw_get (i := 0) rfl) rfl 0 (by decide) w_1 (fun _ h9 => h9) rfl dX5_setPattern_34 ?_
    have hFc_37 := w_free (wc := hsW ct (o 7) (o 8) ad (nI n) (nI k) w (ad 8) v) hD (xw_h) hS hA
    refine va_callv (va_runV (As := [.ref ((ad 8) 0)]) (rest := []) ⟨hx, hb, hml, hown, hts⟩ (k_X1_record l D ct _ (o 7) (o 8) ad n k hn w (ad 8) v hk) (cwV 1 hts gX5_setPattern_X1_record rfl rfl rfl (by decide +kernel) ⟨Nat.le_of_ble_eq_true rfl, Nat.le_of_ble_eq_true rfl⟩) ⟨muP.blind, va_recv hK (pw_cut xw_h hP) (ci := 1) (q0 := 0) rfl rfl, muP.at (pw_cut xw_h hP) (dw_cut xw_h hD) hK hN⟩ rfl rfl hl.1 rfl (lv_room (Nat.le_of_ble_eq_true rfl)) dX5_setPattern_37 ⟨Nat.le_of_ble_eq_true rfl, Nat.le_of_ble_eq_true rfl⟩) hS (fun q _ h => hFc_37 q h) hFc_37 (fun uu tt H1 locs ht hvm hw hB hz1 hk1 hS => ?_)
    obtain ⟨hP, hD⟩ := muE.join (ws' := stW ct (ad 8) v ++ xR ct o ad z (va_up w n v) (nI (nxt n)) (nI (kPush k)) s0 s1 i0 i1 (nI t) nd f g) hP hD (xw_h) (xw_h) hk1 hFc_37 ht hB
    generalize H1 = H at hP hS ⊢
    refine lv_aload_n hx hb dX5_setPattern_40 rfl (lv_at hl 0 rfl) ?_
    refine va_get (D := D) (ci := 0) (v := .int (v.1 (4 + d) 0)) (C := RX0) (T := TX0) (N := 9) hx hb hts hiX0 hown hK hP (3 * d + 5) (sa_getD (by omega)) rfl 3 (by decide) w_3 (fun _ h9 => h9) rfl dX5_setPattern_41 ?_
    refine lv_istore (lv' := [(4, .int (v.1 (4 + d) 0)), (3, .ref ((ad 8) (3 * d + 5))), (0, .ref (o 0)), (1, .int (nI d)), (2, .int y)]) hx hb dX5_setPattern_44 hl (by decide) rfl (fun ls hl => ?_)
    refine lv_aload_n hx hb dX5_setPattern_46 rfl (lv_at hl 1 rfl) ?_
    refine lv_iload_n hx hb dX5_setPattern_47 rfl (lv_at hl 4 rfl) ?_
    refine va_put (D := D) (ci := 0) (v := .int y) (ty := .int) (C := RX0) (T := TX0) (N := 9) hx hb hts hiX0 tyX0 tyX0_ok nmX0 hown hK hP hD hS (3 * d + 5) (sa_getD (by omega)) rfl 3 (by decide) w_3 (fun _ h9 => h9) rfl (by decide +kernel) rfl rfl (Nat.le_of_ble_eq_true rfl) dX5_setPattern_48 (fun H locs hP hD hS => ?_)
    have hP : va_P D vwCl (stW ct (ad 8) (sC v (4 + d) (upd (v.1 (4 + d)) 0 y)) ++ xR ct o ad z (va_up w n v) (nI (nxt n)) (nI (kPush k)) s0 s1 i0 i1 (nI t) nd f g) H := sa_pD (by omega) (upd (v.1 (4 + d)) 0 y) hP
    have hD : va_D A (stW ct (ad 8) (sC v (4 + d) (upd (v.1 (4 + d)) 0 y)) ++ xR ct o ad z (va_up w n v) (nI (nxt n)) (nI (kPush k)) s0 s1 i0 i1 (nI t) nd f g) := sa_dset (by omega) hD
    refine lv_iload hx hb dX5_setPattern_51 (lv_at hl 0 rfl) ?_
    have hP9 : va_P D vwCl (stW ct (ad 8) (s2 v (4 + d) 0 y) ++ xR ct o ad z (va_up w n v) (nI (nxt n)) (nI (kPush k)) s0 s1 i0 i1 (nI t) nd f g) _ := hP
    have hD9 : va_D A (stW ct (ad 8) (s2 v (4 + d) 0 y) ++ xR ct o ad z (va_up w n v) (nI (nxt n)) (nI (kPush k)) s0 s1 i0 i1 (nI t) nd f g) := hD
    subst hAe
    exact W.iret (v := (v.1 (4 + d) 0)) hx hb hr (fun tt ht hW => ⟨⟨(v.1 (4 + d) 0), (), rfl, rfl, muE.of (ct := ct) hP9 hD9 ht⟩, hS.F ht⟩) hS.2.2 dX5_setPattern_53
  · exact absurd c_23 hin
set_option maxHeartbeats 4000000 in
set_option maxRecDepth 100000 in
theorem k_X5_setGroup_e1 (l : Launch) (D : va_G) (ct : Nat → ClassId) (o : Nat → Nat) (ad : Nat → Nat → Nat) (v z : SV) (w : Nat → SV) (n k : Nat) (hn : n < 5) (hk : k ≤ 5) (s0 s1 : SV) (i0 i1 : Int32) (t : Nat) (nd : Int32) (f g : Nat → Int32) (x y : Int32) (hnd : ¬ vD v x) : Met l yX5_setGroup wsX5_setGroup ({ frames := 4, cells := 0, slots := 0, locals := 104 }) (roP D ct (stW ct (ad 8) v ++ xR ct o ad z w (nI n) (nI k) s0 s1 i0 i1 (nI t) nd f g) [.ref (o 0), .int x, .int y]) (vp_Si (fun r => r = -1)) 0 0 noA := by
  refine Met.ofW (cc := cX5_setGroup) (maxL := 5) (ret := (some .int)) (by decide) rfl ?_
  intro p e s m args below meth c s₁ B hml hv
  obtain ⟨rfl, hP, hK, hN⟩ := hv
  have hx := B.exec
  have hb := B.bytes
  have hr := B.returns
  have hts := atoms_spec (ws := wsX5_setGroup) B.pre
  have hown : s.vm.findClass RX5 = some m.cls := findClass_of_methodNamed B.named
  have hlocks := B.notSynchronized
  have w_1 := hts (.fieldLink RX5 10 "ScannedDigits" "now" "LScannedDigits$State;") (List.mem_of_getElem? (i := 1) rfl)
  have hiX5 : ∀ w ∈ wsX50, w ∈ wsX5_setGroup := fun w h => (goodIn_r wsX50 [61, 62, 63, 64, 65] (by decide +kernel) (by decide +kernel) w h).1
  have hl := lv_entry ([.ref (o 0), .int x, .int y]) (n := 5) (Nat.le_of_ble_eq_true rfl)
  rw [lg_entry_eq]
  generalize (lg_sl ([.ref (o 0), .int x, .int y]) ++ List.replicate (5 - (lg_sl ([.ref (o 0), .int x, .int y])).length) Slot.unset).toArray = ls at hl ⊢
  have hl : lv_has ls 5 [(0, .ref (o 0)), (1, .int x), (2, .int y)] := hl
  refine lv_aload_n hx hb dX5_setGroup_0 rfl (lv_at hl 0 rfl) ?_
  refine va_get (D := D) (ci := 5) (v := .ref ((ad 8) 0)) (C := RX5) (T := TX5) (N := 5) hx hb hts hiX5 hown hK hP 29 (xw_get (i := 0) rfl) rfl 0 (by decide) w_1 (fun _ h9 => h9) rfl dX5_setGroup_1 ?_
  refine lv_iload_n hx hb dX5_setGroup_4 rfl (lv_at hl 1 rfl) ?_
  refine va_csq (va_runV (As := [.int x]) (rest := []) ⟨hx, hb, hml, hown, hts⟩ (k_X3_find_no l D ct (ad 8) v x hnd) (cwV 1 hts gX5_setGroup_X3_find rfl rfl rfl (by decide +kernel) ⟨Nat.le_of_ble_eq_true rfl, Nat.le_of_ble_eq_true rfl⟩) ⟨roP.blind, va_recv hK (pw_left hP) (ci := 3) (q0 := 0) rfl rfl, roP.at (pw_left hP) hK hN⟩ rfl rfl hl.1 rfl (lv_room (Nat.le_of_ble_eq_true rfl)) dX5_setGroup_5 ⟨Nat.le_of_ble_eq_true rfl, Nat.le_of_ble_eq_true rfl⟩).run (fun r_5 h_5 => ?_)
  obtain rfl : r_5 = none := h_5
  have hg_5 : va_rf (none) = .null := rfl
  rw [hg_5]
  refine lv_astore_nN (lv' := [(3, .null), (0, .ref (o 0)), (1, .int x), (2, .int y)]) hx hb dX5_setGroup_8 rfl hl (by decide) rfl (fun ls hl => ?_)
  refine lv_aload_nN hx hb dX5_setGroup_9 rfl (lv_at hl 0 rfl) ?_
  refine lv_ifnullN (tgt := 22) hx hb dX5_setGroup_10 (by decide) ?_
  refine lv_iconst (v := (-1)) hx hb dX5_setGroup_22 (by decide) ?_
  exact W.iret (v := (-1)) hx hb hr (fun tt ht hW => ⟨(-1), rfl, rfl, ht⟩) (fun q hq => absurd hq List.not_mem_nil) dX5_setGroup_23
set_option maxHeartbeats 4000000 in
set_option maxRecDepth 100000 in
theorem k_X5_setGroup_e2 (l : Launch) (D : va_G) (ct : Nat → ClassId) (o : Nat → Nat) (ad : Nat → Nat → Nat) (v z : SV) (w : Nat → SV) (n k : Nat) (hn : n < 5) (hk : k ≤ 5) (s0 s1 : SV) (i0 i1 : Int32) (t : Nat) (nd : Int32) (f g : Nat → Int32) (ok : Inv v) (d : Nat) (hd : d < nOf v) (y : Int32) (hin : pIn y 0 3 = 0) : Met l yX5_setGroup wsX5_setGroup ({ frames := 4, cells := 0, slots := 0, locals := 104 }) (roP D ct (stW ct (ad 8) v ++ xR ct o ad z w (nI n) (nI k) s0 s1 i0 i1 (nI t) nd f g) [.ref (o 0), .int (nI d), .int y]) (vp_Si (fun r => r = -1)) 0 0 noA := by
  refine Met.ofW (cc := cX5_setGroup) (maxL := 5) (ret := (some .int)) (by decide) rfl ?_
  intro p e s m args below meth c s₁ B hml hv
  obtain ⟨rfl, hP, hK, hN⟩ := hv
  have hx := B.exec
  have hb := B.bytes
  have hr := B.returns
  have hts := atoms_spec (ws := wsX5_setGroup) B.pre
  have hown : s.vm.findClass RX5 = some m.cls := findClass_of_methodNamed B.named
  have hlocks := B.notSynchronized
  have w_1 := hts (.fieldLink RX5 10 "ScannedDigits" "now" "LScannedDigits$State;") (List.mem_of_getElem? (i := 1) rfl)
  have hiX5 : ∀ w ∈ wsX50, w ∈ wsX5_setGroup := fun w h => (goodIn_r wsX50 [61, 62, 63, 64, 65] (by decide +kernel) (by decide +kernel) w h).1
  have hl := lv_entry ([.ref (o 0), .int (nI d), .int y]) (n := 5) (Nat.le_of_ble_eq_true rfl)
  rw [lg_entry_eq]
  generalize (lg_sl ([.ref (o 0), .int (nI d), .int y]) ++ List.replicate (5 - (lg_sl ([.ref (o 0), .int (nI d), .int y])).length) Slot.unset).toArray = ls at hl ⊢
  have hl : lv_has ls 5 [(0, .ref (o 0)), (1, .int (nI d)), (2, .int y)] := hl
  have hd8 : d < 8 := Nat.lt_of_lt_of_le hd ok.n8
  refine lv_aload_n hx hb dX5_setGroup_0 rfl (lv_at hl 0 rfl) ?_
  refine va_get (D := D) (ci := 5) (v := .ref ((ad 8) 0)) (C := RX5) (T := TX5) (N := 5) hx hb hts hiX5 hown hK hP 29 (xw_get (i := 0) rfl) rfl 0 (by decide) w_1 (fun _ h9 => h9) rfl dX5_setGroup_1 ?_
  refine lv_iload_n hx hb dX5_setGroup_4 rfl (lv_at hl 1 rfl) ?_
  refine va_csq (va_runV (As := [.int (nI d)]) (rest := []) ⟨hx, hb, hml, hown, hts⟩ (k_X3_find_ok l D ct (ad 8) v ok d hd) (cwV 1 hts gX5_setGroup_X3_find rfl rfl rfl (by decide +kernel) ⟨Nat.le_of_ble_eq_true rfl, Nat.le_of_ble_eq_true rfl⟩) ⟨roP.blind, va_recv hK (pw_left hP) (ci := 3) (q0 := 0) rfl rfl, roP.at (pw_left hP) hK hN⟩ rfl rfl hl.1 rfl (lv_room (Nat.le_of_ble_eq_true rfl)) dX5_setGroup_5 ⟨Nat.le_of_ble_eq_true rfl, Nat.le_of_ble_eq_true rfl⟩).run (fun r_5 h_5 => ?_)
  obtain rfl : r_5 = some ((ad 8) (3 * d + 5)) := h_5
  have hg_5 : va_rf (some ((ad 8) (3 * d + 5))) = .ref ((ad 8) (3 * d + 5)) := rfl
  rw [hg_5]
  refine lv_astore_n (lv' := [(3, .ref ((ad 8) (3 * d + 5))), (0, .ref (o 0)), (1, .int (nI d)), (2, .int y)]) hx hb dX5_setGroup_8 rfl hl (by decide) rfl (fun ls hl => ?_)
  refine lv_aload_n hx hb dX5_setGroup_9 rfl (lv_at hl 0 rfl) ?_
  refine lv_ifnull hx hb dX5_setGroup_10 ?_
  refine lv_iload_n hx hb dX5_setGroup_13 rfl (lv_at hl 3 rfl) ?_
  refine lv_iconst (v := 0) hx hb dX5_setGroup_14 (by decide) ?_
  refine lv_iconst (v := 3) hx hb dX5_setGroup_15 (by decide) ?_
  refine vp_callSi (va_runS (As := [.int y, .int 0, .int 3]) (rest := []) ⟨hx, hb, hml, hown, hts⟩ (k_X5_isWithin l D ct y 0 3) (va_cwS 3 hts gX5_setGroup_X5_isWithin rfl rfl rfl (by decide +kernel) ⟨Nat.le_of_ble_eq_true rfl, Nat.le_of_ble_eq_true rfl⟩) ⟨roP.blind, roP.at pw_nil hK hN⟩ rfl rfl hl.1 rfl (lv_room (Nat.le_of_ble_eq_true rfl)) dX5_setGroup_16 ⟨Nat.le_of_ble_eq_true rfl, Nat.le_of_ble_eq_true rfl⟩).run (fun r_16 h_16 => ?_)
  obtain rfl : r_16 = pIn y 0 3 := h_16
  refine lv_if_ne (tgt := 24) hx hb dX5_setGroup_19 (by decide) (fun c_19 => ?_) (fun c_19 => ?_)
  · exact absurd hin c_19
  · refine lv_iconst (v := (-1)) hx hb dX5_setGroup_22 (by decide) ?_
    exact W.iret (v := (-1)) hx hb hr (fun tt ht hW => ⟨(-1), rfl, rfl, ht⟩) (fun q hq => absurd hq List.not_mem_nil) dX5_setGroup_23
set_option maxHeartbeats 4000000 in
set_option maxRecDepth 100000 in
theorem k_X5_setGroup_ok (l : Launch) (D : va_G) (ct : Nat → ClassId) (sz : Nat) (o : Nat → Nat) (ad : Nat → Nat → Nat) (v z : SV) (w : Nat → SV) (n k : Nat) (hn : n < 5) (hk : k ≤ 5) (s0 s1 : SV) (i0 i1 : Int32) (t : Nat) (nd : Int32) (f g : Nat → Int32) (ok : Inv v) (d : Nat) (hd : d < nOf v) (y : Int32) (hin : ¬ pIn y 0 3 = 0) : Met l yX5_setGroup wsX5_setGroup ({ frames := 4, cells := 0, slots := 0, locals := 104 }) (muP D ct (stW ct (ad 8) v ++ xR ct o ad z w (nI n) (nI k) s0 s1 i0 i1 (nI t) nd f g) sz [.ref (o 0), .int (nI d), .int y]) (muI D ct (stW ct (ad 8) v ++ xR ct o ad z w (nI n) (nI k) s0 s1 i0 i1 (nI t) nd f g) (stW ct (ad 8) (s2 v (4 + d) 4 y) ++ xR ct o ad z (va_up w n v) (nI (nxt n)) (nI (kPush k)) s0 s1 i0 i1 (nI t) nd f g) sz (fun r => r = v.1 (4 + d) 4)) 0 0 (va_A (stW ct (ad 8) v ++ xR ct o ad z w (nI n) (nI k) s0 s1 i0 i1 (nI t) nd f g) sz) := by
  refine Met.ofW (cc := cX5_setGroup) (maxL := 5) (ret := (some .int)) (by decide) rfl ?_
  intro p e s m args below meth c s₁ B hml hv
  obtain ⟨rfl, hsz, hP, hK, hN, hD0⟩ := hv
  have hx := B.exec
  have hb := B.bytes
  have hr := B.returns
  have hts := atoms_spec (ws := wsX5_setGroup) B.pre
  have hown : s.vm.findClass RX5 = some m.cls := findClass_of_methodNamed B.named
  have hlocks := B.notSynchronized
  subst hsz
  have hD := hD0.self (sz := s.heap.size)
  generalize hAe : va_A (stW ct (ad 8) v ++ xR ct o ad z w (nI n) (nI k) s0 s1 i0 i1 (nI t) nd f g) s.heap.size = A at hD
  have hA : ∀ q : Nat, s.heap.size ≤ q → A q := fun q h => by rw [← hAe]; exact Or.inr h
  have hS : va_S A s.heap s.heap [] := va_S.rf
  have w_1 := hts (.fieldLink RX5 10 "ScannedDigits" "now" "LScannedDigits$State;") (List.mem_of_getElem? (i := 1) rfl)
  have w_2 := hts (.fieldLink RX5 22 "ScannedDigits" "history" "LScannedDigits$History;") (List.mem_of_getElem? (i := 2) rfl)
  have w_3 := hts (.fieldLink RX5 82 "ScannedDigits$Digit" "group" "I") (List.mem_of_getElem? (i := 3) rfl)
  have hiX5 : ∀ w ∈ wsX50, w ∈ wsX5_setGroup := fun w h => (goodIn_r wsX50 [61, 62, 63, 64, 65] (by decide +kernel) (by decide +kernel) w h).1
  have hiX0 : ∀ w ∈ wsX00, w ∈ wsX5_setGroup := fun w h => (goodIn_r wsX00 [66, 67, 68, 69, 70, 71, 72, 73, 74] (by decide +kernel) (by decide +kernel) w h).1
  have hl := lv_entry ([.ref (o 0), .int (nI d), .int y]) (n := 5) (Nat.le_of_ble_eq_true rfl)
  rw [lg_entry_eq]
  generalize (lg_sl ([.ref (o 0), .int (nI d), .int y]) ++ List.replicate (5 - (lg_sl ([.ref (o 0), .int (nI d), .int y])).length) Slot.unset).toArray = ls at hl ⊢
  have hl : lv_has ls 5 [(0, .ref (o 0)), (1, .int (nI d)), (2, .int y)] := hl
  have hd8 : d < 8 := Nat.lt_of_lt_of_le hd ok.n8
  refine lv_aload_n hx hb dX5_setGroup_0 rfl (lv_at hl 0 rfl) ?_
  refine va_get (D := D) (ci := 5) (v := .ref ((ad 8) 0)) (C := RX5) (T := TX5) (N := 5) hx hb hts hiX5 hown hK hP 29 (xw_get (i := 0) rfl) rfl 0 (by decide) w_1 (fun _ h9 => h9) rfl dX5_setGroup_1 ?_
  refine lv_iload_n hx hb dX5_setGroup_4 rfl (lv_at hl 1 rfl) ?_
  refine va_csq (va_runV (As := [.int (nI d)]) (rest := []) ⟨hx, hb, hml, hown, hts⟩ (k_X3_find_ok l D ct (ad 8) v ok d hd) (cwV 1 hts gX5_setGroup_X3_find rfl rfl rfl (by decide +kernel) ⟨Nat.le_of_ble_eq_true rfl, Nat.le_of_ble_eq_true rfl⟩) ⟨roP.blind, va_recv hK (pw_left hP) (ci := 3) (q0 := 0) rfl rfl, roP.at (pw_left hP) hK hN⟩ rfl rfl hl.1 rfl (lv_room (Nat.le_of_ble_eq_true rfl)) dX5_setGroup_5 ⟨Nat.le_of_ble_eq_true rfl, Nat.le_of_ble_eq_true rfl⟩).run (fun r_5 h_5 => ?_)
  obtain rfl : r_5 = some ((ad 8) (3 * d + 5)) := h_5
  have hg_5 : va_rf (some ((ad 8) (3 * d + 5))) = .ref ((ad 8) (3 * d + 5)) := rfl
  rw [hg_5]
  refine lv_astore_n (lv' := [(3, .ref ((ad 8) (3 * d + 5))), (0, .ref (o 0)), (1, .int (nI d)), (2, .int y)]) hx hb dX5_setGroup_8 rfl hl (by decide) rfl (fun ls hl => ?_)
  refine lv_aload_n hx hb dX5_setGroup_9 rfl (lv_at hl 0 rfl) ?_
  refine lv_ifnull hx hb dX5_setGroup_10 ?_
  refine lv_iload_n hx hb dX5_setGroup_13 rfl (lv_at hl 3 rfl) ?_
  refine lv_iconst (v := 0) hx hb dX5_setGroup_14 (by decide) ?_
  refine lv_iconst (v := 3) hx hb dX5_setGroup_15 (by decide) ?_
  refine vp_callSi (va_runS (As := [.int y, .int 0, .int 3]) (rest := []) ⟨hx, hb, hml, hown, hts⟩ (k_X5_isWithin l D ct y 0 3) (va_cwS 3 hts gX5_setGroup_X5_isWithin rfl rfl rfl (by decide +kernel) ⟨Nat.le_of_ble_eq_true rfl, Nat.le_of_ble_eq_true rfl⟩) ⟨roP.blind, roP.at pw_nil hK hN⟩ rfl rfl hl.1 rfl (lv_room (Nat.le_of_ble_eq_true rfl)) dX5_setGroup_16 ⟨Nat.le_of_ble_eq_true rfl, Nat.le_of_ble_eq_true rfl⟩).run (fun r_16 h_16 => ?_)
  obtain rfl : r_16 = pIn y 0 3 := h_16
  refine lv_if_ne (tgt := 24) hx hb dX5_setGroup_19 (by decide) (fun c_19 => ?_) (fun c_19 => ?_)
  · refine lv_aload_n hx hb dX5_setGroup_24 rfl (lv_at hl 1 rfl) ?_
    refine va_get (D := D) (ci := 5) (v := .ref (o 7)) (C := RX5) (T := TX5) (N := 5) hx hb hts hiX5 hown hK hP 29 (xw_get (i := 0) rfl) rfl 2 (by decide) w_2 (fun _ h9 => h9) rfl dX5_setGroup_25 ?_
    refine lv_aload_n hx hb dX5_setGroup_28 rfl (lv_at hl 1 rfl) ?_
    refine va_get (D := D) (ci := 5) (v := .ref ((ad 8) 0)) (C := RX5) (T := TX5) (N := 5) hx hb hts hiX5 hown hK hP 29 (xw_get (i := 0) rfl) rfl 0 (by decide) w_1 (fun _ h9 => h9) rfl dX5_setGroup_29 ?_
    have hFc_32 := w_free (wc := hsW ct (o 7) (o 8) ad (nI n) (nI k) w (ad 8) v) hD (xw_h) hS hA
    refine va_callv (va_runV (As := [.ref ((ad 8) 0)]) (rest := []) ⟨hx, hb, hml, hown, hts⟩ (k_X1_record l D ct _ (o 7) (o 8) ad n k hn w (ad 8) v hk) (cwV 1 hts gX5_setGroup_X1_record rfl rfl rfl (by decide +kernel) ⟨Nat.le_of_ble_eq_true rfl, Nat.le_of_ble_eq_true rfl⟩) ⟨muP.blind, va_recv hK (pw_cut xw_h hP) (ci := 1) (q0 := 0) rfl rfl, muP.at (pw_cut xw_h hP) (dw_cut xw_h hD) hK hN⟩ rfl rfl hl.1 rfl (lv_room (Nat.le_of_ble_eq_true rfl)) dX5_setGroup_32 ⟨Nat.le_of_ble_eq_true rfl, Nat.le_of_ble_eq_true rfl⟩) hS (fun q _ h => hFc_32 q h) hFc_32 (fun uu tt H1 locs ht hvm hw hB hz1 hk1 hS => ?_)
    obtain ⟨hP, hD⟩ := muE.join (ws' := stW ct (ad 8) v ++ xR ct o ad z (va_up w n v) (nI (nxt n)) (nI (kPush k)) s0 s1 i0 i1 (nI t) nd f g) hP hD (xw_h) (xw_h) hk1 hFc_32 ht hB
    generalize H1 = H at hP hS ⊢
    refine lv_aload_n hx hb dX5_setGroup_35 rfl (lv_at hl 0 rfl) ?_
    refine va_get (D := D) (ci := 0) (v := .int (v.1 (4 + d) 4)) (C := RX0) (T := TX0) (N := 9) hx hb hts hiX0 hown hK hP (3 * d + 5) (sa_getD (by omega)) rfl 4 (by decide) w_3 (fun _ h9 => h9) rfl dX5_setGroup_36 ?_
    refine lv_istore (lv' := [(4, .int (v.1 (4 + d) 4)), (3, .ref ((ad 8) (3 * d + 5))), (0, .ref (o 0)), (1, .int (nI d)), (2, .int y)]) hx hb dX5_setGroup_39 hl (by decide) rfl (fun ls hl => ?_)
    refine lv_aload_n hx hb dX5_setGroup_41 rfl (lv_at hl 1 rfl) ?_
    refine lv_iload_n hx hb dX5_setGroup_42 rfl (lv_at hl 4 rfl) ?_
    refine va_put (D := D) (ci := 0) (v := .int y) (ty := .int) (C := RX0) (T := TX0) (N := 9) hx hb hts hiX0 tyX0 tyX0_ok nmX0 hown hK hP hD hS (3 * d + 5) (sa_getD (by omega)) rfl 4 (by decide) w_3 (fun _ h9 => h9) rfl (by decide +kernel) rfl rfl (Nat.le_of_ble_eq_true rfl) dX5_setGroup_43 (fun H locs hP hD hS => ?_)
    have hP : va_P D vwCl (stW ct (ad 8) (sC v (4 + d) (upd (v.1 (4 + d)) 4 y)) ++ xR ct o ad z (va_up w n v) (nI (nxt n)) (nI (kPush k)) s0 s1 i0 i1 (nI t) nd f g) H := sa_pD (by omega) (upd (v.1 (4 + d)) 4 y) hP
    have hD : va_D A (stW ct (ad 8) (sC v (4 + d) (upd (v.1 (4 + d)) 4 y)) ++ xR ct o ad z (va_up w n v) (nI (nxt n)) (nI (kPush k)) s0 s1 i0 i1 (nI t) nd f g) := sa_dset (by omega) hD
    refine lv_iload hx hb dX5_setGroup_46 (lv_at hl 0 rfl) ?_
    have hP9 : va_P D vwCl (stW ct (ad 8) (s2 v (4 + d) 4 y) ++ xR ct o ad z (va_up w n v) (nI (nxt n)) (nI (kPush k)) s0 s1 i0 i1 (nI t) nd f g) _ := hP
    have hD9 : va_D A (stW ct (ad 8) (s2 v (4 + d) 4 y) ++ xR ct o ad z (va_up w n v) (nI (nxt n)) (nI (kPush k)) s0 s1 i0 i1 (nI t) nd f g) := hD
    subst hAe
    exact W.iret (v := (v.1 (4 + d) 4)) hx hb hr (fun tt ht hW => ⟨⟨(v.1 (4 + d) 4), (), rfl, rfl, muE.of (ct := ct) hP9 hD9 ht⟩, hS.F ht⟩) hS.2.2 dX5_setGroup_48
  · exact absurd c_19 hin
set_option maxHeartbeats 4000000 in
set_option maxRecDepth 100000 in
theorem k_X5_replace_e1 (l : Launch) (D : va_G) (ct : Nat → ClassId) (o : Nat → Nat) (ad : Nat → Nat → Nat) (v z : SV) (w : Nat → SV) (n k : Nat) (hn : n < 5) (hk : k ≤ 5) (s0 s1 : SV) (i0 i1 : Int32) (t : Nat) (nd : Int32) (f g : Nat → Int32) (x : Int32) (hnd : ¬ vD v x) : Met l yX5_replace wsX5_replace ({ frames := 4, cells := 0, slots := 0, locals := 104 }) (roP D ct (stW ct (ad 8) v ++ xR ct o ad z w (nI n) (nI k) s0 s1 i0 i1 (nI t) nd f g) [.ref (o 0), .int x]) (vp_Si (fun r => r = -1)) 0 0 noA := by
  refine Met.ofW (cc := cX5_replace) (maxL := 4) (ret := (some .int)) (by decide) rfl ?_
  intro p e s m args below meth c s₁ B hml hv
  obtain ⟨rfl, hP, hK, hN⟩ := hv
  have hx := B.exec
  have hb := B.bytes
  have hr := B.returns
  have hts := atoms_spec (ws := wsX5_replace) B.pre
  have hown : s.vm.findClass RX5 = some m.cls := findClass_of_methodNamed B.named
  have hlocks := B.notSynchronized
  have w_1 := hts (.fieldLink RX5 10 "ScannedDigits" "now" "LScannedDigits$State;") (List.mem_of_getElem? (i := 1) rfl)
  have hiX5 : ∀ w ∈ wsX50, w ∈ wsX5_replace := fun w h => (goodIn_r wsX50 [71, 72, 73, 74, 75] (by decide +kernel) (by decide +kernel) w h).1
  have hl := lv_entry ([.ref (o 0), .int x]) (n := 4) (Nat.le_of_ble_eq_true rfl)
  rw [lg_entry_eq]
  generalize (lg_sl ([.ref (o 0), .int x]) ++ List.replicate (4 - (lg_sl ([.ref (o 0), .int x])).length) Slot.unset).toArray = ls at hl ⊢
  have hl : lv_has ls 4 [(0, .ref (o 0)), (1, .int x)] := hl
  refine lv_aload_n hx hb dX5_replace_0 rfl (lv_at hl 0 rfl) ?_
  refine va_get (D := D) (ci := 5) (v := .ref ((ad 8) 0)) (C := RX5) (T := TX5) (N := 5) hx hb hts hiX5 hown hK hP 29 (xw_get (i := 0) rfl) rfl 0 (by decide) w_1 (fun _ h9 => h9) rfl dX5_replace_1 ?_
  refine lv_iload_n hx hb dX5_replace_4 rfl (lv_at hl 1 rfl) ?_
  refine va_csq (va_runV (As := [.int x]) (rest := []) ⟨hx, hb, hml, hown, hts⟩ (k_X3_find_no l D ct (ad 8) v x hnd) (cwV 1 hts gX5_replace_X3_find rfl rfl rfl (by decide +kernel) ⟨Nat.le_of_ble_eq_true rfl, Nat.le_of_ble_eq_true rfl⟩) ⟨roP.blind, va_recv hK (pw_left hP) (ci := 3) (q0 := 0) rfl rfl, roP.at (pw_left hP) hK hN⟩ rfl rfl hl.1 rfl (lv_room (Nat.le_of_ble_eq_true rfl)) dX5_replace_5 ⟨Nat.le_of_ble_eq_true rfl, Nat.le_of_ble_eq_true rfl⟩).run (fun r_5 h_5 => ?_)
  obtain rfl : r_5 = none := h_5
  have hg_5 : va_rf (none) = .null := rfl
  rw [hg_5]
  refine lv_astore_nN (lv' := [(2, .null), (0, .ref (o 0)), (1, .int x)]) hx hb dX5_replace_8 rfl hl (by decide) rfl (fun ls hl => ?_)
  refine lv_aload_nN hx hb dX5_replace_9 rfl (lv_at hl 0 rfl) ?_
  refine lv_ifnonnullN hx hb dX5_replace_10 ?_
  refine lv_iconst (v := (-1)) hx hb dX5_replace_13 (by decide) ?_
  exact W.iret (v := (-1)) hx hb hr (fun tt ht hW => ⟨(-1), rfl, rfl, ht⟩) (fun q hq => absurd hq List.not_mem_nil) dX5_replace_14
set_option maxHeartbeats 4000000 in
set_option maxRecDepth 100000 in
theorem k_X5_replace_ok (l : Launch) (D : va_G) (ct : Nat → ClassId) (sz : Nat) (o : Nat → Nat) (ad : Nat → Nat → Nat) (v z : SV) (w : Nat → SV) (n k : Nat) (hn : n < 5) (hk : k ≤ 5) (s0 s1 : SV) (i0 i1 : Int32) (t : Nat) (nd : Int32) (f g : Nat → Int32) (ok : Inv v) (d : Nat) (hd : d < nOf v) : Met l yX5_replace wsX5_replace ({ frames := 4, cells := 0, slots := 0, locals := 104 }) (muP D ct (stW ct (ad 8) v ++ xR ct o ad z w (nI n) (nI k) s0 s1 i0 i1 (nI t) nd f g) sz [.ref (o 0), .int (nI d)]) (muI D ct (stW ct (ad 8) v ++ xR ct o ad z w (nI n) (nI k) s0 s1 i0 i1 (nI t) nd f g) (stW ct (ad 8) (pRen v d) ++ xR ct o ad z (va_up w n v) (nI (nxt n)) (nI (kPush k)) s0 s1 i0 i1 (nI t) nd f g) sz (fun r => r = pBro (v.1 (4 + d) 6) 8)) 0 0 (va_A (stW ct (ad 8) v ++ xR ct o ad z w (nI n) (nI k) s0 s1 i0 i1 (nI t) nd f g) sz) := by
  refine Met.ofW (cc := cX5_replace) (maxL := 4) (ret := (some .int)) (by decide) rfl ?_
  intro p e s m args below meth c s₁ B hml hv
  obtain ⟨rfl, hsz, hP, hK, hN, hD0⟩ := hv
  have hx := B.exec
  have hb := B.bytes
  have hr := B.returns
  have hts := atoms_spec (ws := wsX5_replace) B.pre
  have hown : s.vm.findClass RX5 = some m.cls := findClass_of_methodNamed B.named
  have hlocks := B.notSynchronized
  subst hsz
  have hD := hD0.self (sz := s.heap.size)
  generalize hAe : va_A (stW ct (ad 8) v ++ xR ct o ad z w (nI n) (nI k) s0 s1 i0 i1 (nI t) nd f g) s.heap.size = A at hD
  have hA : ∀ q : Nat, s.heap.size ≤ q → A q := fun q h => by rw [← hAe]; exact Or.inr h
  have hS : va_S A s.heap s.heap [] := va_S.rf
  have w_1 := hts (.fieldLink RX5 10 "ScannedDigits" "now" "LScannedDigits$State;") (List.mem_of_getElem? (i := 1) rfl)
  have w_2 := hts (.fieldLink RX5 22 "ScannedDigits" "history" "LScannedDigits$History;") (List.mem_of_getElem? (i := 2) rfl)
  have w_3 := hts (.fieldLink RX5 105 "ScannedDigits$Digit" "broken" "I") (List.mem_of_getElem? (i := 3) rfl)
  have hiX5 : ∀ w ∈ wsX50, w ∈ wsX5_replace := fun w h => (goodIn_r wsX50 [71, 72, 73, 74, 75] (by decide +kernel) (by decide +kernel) w h).1
  have hiX0 : ∀ w ∈ wsX00, w ∈ wsX5_replace := fun w h => (goodIn_r wsX00 [76, 77, 78, 79, 80, 81, 82, 83, 84] (by decide +kernel) (by decide +kernel) w h).1
  have hl := lv_entry ([.ref (o 0), .int (nI d)]) (n := 4) (Nat.le_of_ble_eq_true rfl)
  rw [lg_entry_eq]
  generalize (lg_sl ([.ref (o 0), .int (nI d)]) ++ List.replicate (4 - (lg_sl ([.ref (o 0), .int (nI d)])).length) Slot.unset).toArray = ls at hl ⊢
  have hl : lv_has ls 4 [(0, .ref (o 0)), (1, .int (nI d))] := hl
  have hd8 : d < 8 := Nat.lt_of_lt_of_le hd ok.n8
  refine lv_aload_n hx hb dX5_replace_0 rfl (lv_at hl 0 rfl) ?_
  refine va_get (D := D) (ci := 5) (v := .ref ((ad 8) 0)) (C := RX5) (T := TX5) (N := 5) hx hb hts hiX5 hown hK hP 29 (xw_get (i := 0) rfl) rfl 0 (by decide) w_1 (fun _ h9 => h9) rfl dX5_replace_1 ?_
  refine lv_iload_n hx hb dX5_replace_4 rfl (lv_at hl 1 rfl) ?_
  refine va_csq (va_runV (As := [.int (nI d)]) (rest := []) ⟨hx, hb, hml, hown, hts⟩ (k_X3_find_ok l D ct (ad 8) v ok d hd) (cwV 1 hts gX5_replace_X3_find rfl rfl rfl (by decide +kernel) ⟨Nat.le_of_ble_eq_true rfl, Nat.le_of_ble_eq_true rfl⟩) ⟨roP.blind, va_recv hK (pw_left hP) (ci := 3) (q0 := 0) rfl rfl, roP.at (pw_left hP) hK hN⟩ rfl rfl hl.1 rfl (lv_room (Nat.le_of_ble_eq_true rfl)) dX5_replace_5 ⟨Nat.le_of_ble_eq_true rfl, Nat.le_of_ble_eq_true rfl⟩).run (fun r_5 h_5 => ?_)
  obtain rfl : r_5 = some ((ad 8) (3 * d + 5)) := h_5
  have hg_5 : va_rf (some ((ad 8) (3 * d + 5))) = .ref ((ad 8) (3 * d + 5)) := rfl
  rw [hg_5]
  refine lv_astore_n (lv' := [(2, .ref ((ad 8) (3 * d + 5))), (0, .ref (o 0)), (1, .int (nI d))]) hx hb dX5_replace_8 rfl hl (by decide) rfl (fun ls hl => ?_)
  refine lv_aload_n hx hb dX5_replace_9 rfl (lv_at hl 0 rfl) ?_
  refine lv_ifnonnull (tgt := 15) hx hb dX5_replace_10 (by decide) ?_
  refine lv_aload_n hx hb dX5_replace_15 rfl (lv_at hl 1 rfl) ?_
  refine va_get (D := D) (ci := 5) (v := .ref (o 7)) (C := RX5) (T := TX5) (N := 5) hx hb hts hiX5 hown hK hP 29 (xw_get (i := 0) rfl) rfl 2 (by decide) w_2 (fun _ h9 => h9) rfl dX5_replace_16 ?_
  refine lv_aload_n hx hb dX5_replace_19 rfl (lv_at hl 1 rfl) ?_
  refine va_get (D := D) (ci := 5) (v := .ref ((ad 8) 0)) (C := RX5) (T := TX5) (N := 5) hx hb hts hiX5 hown hK hP 29 (xw_get (i := 0) rfl) rfl 0 (by decide) w_1 (fun _ h9 => h9) rfl dX5_replace_20 ?_
  have hFc_23 := w_free (wc := hsW ct (o 7) (o 8) ad (nI n) (nI k) w (ad 8) v) hD (xw_h) hS hA
  refine va_callv (va_runV (As := [.ref ((ad 8) 0)]) (rest := []) ⟨hx, hb, hml, hown, hts⟩ (k_X1_record l D ct _ (o 7) (o 8) ad n k hn w (ad 8) v hk) (cwV 1 hts gX5_replace_X1_record rfl rfl rfl (by decide +kernel) ⟨Nat.le_of_ble_eq_true rfl, Nat.le_of_ble_eq_true rfl⟩) ⟨muP.blind, va_recv hK (pw_cut xw_h hP) (ci := 1) (q0 := 0) rfl rfl, muP.at (pw_cut xw_h hP) (dw_cut xw_h hD) hK hN⟩ rfl rfl hl.1 rfl (lv_room (Nat.le_of_ble_eq_true rfl)) dX5_replace_23 ⟨Nat.le_of_ble_eq_true rfl, Nat.le_of_ble_eq_true rfl⟩) hS (fun q _ h => hFc_23 q h) hFc_23 (fun uu tt H1 locs ht hvm hw hB hz1 hk1 hS => ?_)
  obtain ⟨hP, hD⟩ := muE.join (ws' := stW ct (ad 8) v ++ xR ct o ad z (va_up w n v) (nI (nxt n)) (nI (kPush k)) s0 s1 i0 i1 (nI t) nd f g) hP hD (xw_h) (xw_h) hk1 hFc_23 ht hB
  generalize H1 = H at hP hS ⊢
  refine lv_aload_n hx hb dX5_replace_26 rfl (lv_at hl 0 rfl) ?_
  refine va_get (D := D) (ci := 0) (v := .int (v.1 (4 + d) 6)) (C := RX0) (T := TX0) (N := 9) hx hb hts hiX0 hown hK hP (3 * d + 5) (sa_getD (by omega)) rfl 6 (by decide) w_3 (fun _ h9 => h9) rfl dX5_replace_27 ?_
  refine vp_callSi (va_runS (As := [.int (v.1 (4 + d) 6)]) (rest := []) ⟨hx, hb, hml, hown, hts⟩ (k_J6_bitCount_0f7a4 l D ct (v.1 (4 + d) 6)) (va_cwS 1 hts gX5_replace_J6_bitCount_0f7a4 rfl rfl rfl (by decide +kernel) ⟨Nat.le_of_ble_eq_true rfl, Nat.le_of_ble_eq_true rfl⟩) ⟨roP.blind, roP.at pw_nil hK hN⟩ rfl rfl hl.1 rfl (lv_room (Nat.le_of_ble_eq_true rfl)) dX5_replace_30 ⟨Nat.le_of_ble_eq_true rfl, Nat.le_of_ble_eq_true rfl⟩).run (fun r_30 h_30 => ?_)
  obtain rfl : r_30 = bcF (v.1 (4 + d) 6) := h_30
  refine lv_as (y := pBro (v.1 (4 + d) 6) 8) (bcF_of (ok.dg hd).2.2.2.2.2) ?_
  refine lv_istore_n (lv' := [(3, .int (pBro (v.1 (4 + d) 6) 8)), (2, .ref ((ad 8) (3 * d + 5))), (0, .ref (o 0)), (1, .int (nI d))]) hx hb dX5_replace_33 rfl hl (by decide) rfl (fun ls hl => ?_)
  refine lv_aload_n hx hb dX5_replace_34 rfl (lv_at hl 1 rfl) ?_
  have hFc_35 := w_free (wc := dgA ct (ad 8) v d) hD (xa_perm hd8) hS hA
  refine va_callv (va_runV (As := []) (rest := []) ⟨hx, hb, hml, hown, hts⟩ (k_X0_renewSegments l D ct _ ((ad 8) (3 * d + 5)) ((ad 8) (3 * d + 6)) ((ad 8) (3 * d + 7)) (v.1 (4 + d)) (v.1 (12 + d)) (v.1 (20 + d))) (cwV 0 hts gX5_replace_X0_renewSegments rfl rfl rfl (by decide +kernel) ⟨Nat.le_of_ble_eq_true rfl, Nat.le_of_ble_eq_true rfl⟩) ⟨muP.blind, va_recv hK (sa_dgP hd8 hP) (ci := 0) (q0 := 0) rfl rfl, muP.at (sa_dgP hd8 hP) (dw_cut (xa_perm hd8) hD) hK hN⟩ rfl rfl hl.1 rfl (lv_room (Nat.le_of_ble_eq_true rfl)) dX5_replace_35 ⟨Nat.le_of_ble_eq_true rfl, Nat.le_of_ble_eq_true rfl⟩) hS (fun q _ h => hFc_35 q h) hFc_35 (fun uu tt H1 locs ht hvm hw hB hz1 hk1 hS => ?_)
  obtain ⟨hP, hD⟩ := muE.join (ws' := stW ct (ad 8) (sTri v d (upd (v.1 (4 + d)) 6 0, (fun _ => 0), (fun _ => 0))) ++ xR ct o ad z (va_up w n v) (nI (nxt n)) (nI (kPush k)) s0 s1 i0 i1 (nI t) nd f g) hP hD (xa_perm hd8) (xa_permT hd8 _) hk1 hFc_35 ht hB
  generalize H1 = H at hP hS ⊢
  refine lv_iload_n hx hb dX5_replace_38 rfl (lv_at hl 0 rfl) ?_
  have hP9 : va_P D vwCl (stW ct (ad 8) (pRen v d) ++ xR ct o ad z (va_up w n v) (nI (nxt n)) (nI (kPush k)) s0 s1 i0 i1 (nI t) nd f g) _ := hP
  have hD9 : va_D A (stW ct (ad 8) (pRen v d) ++ xR ct o ad z (va_up w n v) (nI (nxt n)) (nI (kPush k)) s0 s1 i0 i1 (nI t) nd f g) := hD
  subst hAe
  exact W.iret (v := (pBro (v.1 (4 + d) 6) 8)) hx hb hr (fun tt ht hW => ⟨⟨(pBro (v.1 (4 + d) 6) 8), (), rfl, rfl, muE.of (ct := ct) hP9 hD9 ht⟩, hS.F ht⟩) hS.2.2 dX5_replace_39
