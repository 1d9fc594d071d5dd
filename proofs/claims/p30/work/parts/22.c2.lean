set_option maxHeartbeats 4000000 in
set_option maxRecDepth 100000 in
theorem k_X0_renewSegments (l : Launch) (D : va_G) (ct : Nat → ClassId) (sz : Nat) (x y z : Nat) (f g u : Nat → Int32) : Met l yX0_renewSegments wsX0_renewSegments ({ frames := 0, cells := 0, slots := 0, locals := 0 }) (muP D ct (dgW ct x y z f g u) sz [.ref x]) (muV D ct (dgW ct x y z f g u) (dgW ct x y z (upd f 6 0) (fun _ => 0) (fun _ => 0)) sz) 0 0 (va_A (dgW ct x y z f g u) sz) := by
  refine Met.ofW (cc := cX0_renewSegments) (maxL := 2) (ret := none) (by decide) rfl ?_
  intro p e s m args below meth c s₁ B hml hv
  obtain ⟨rfl, hsz, hP, hK, hN, hD0⟩ := hv
  have hx := B.exec
  have hb := B.bytes
  have hr := B.returns
  have hts := atoms_spec (ws := wsX0_renewSegments) B.pre
  have hown : s.vm.findClass RX0 = some m.cls := findClass_of_methodNamed B.named
  have hlocks := B.notSynchronized
  subst hsz
  have hD := hD0.self (sz := s.heap.size)
  generalize hAe : va_A (dgW ct x y z f g u) s.heap.size = A at hD
  have hA : ∀ q : Nat, s.heap.size ≤ q → A q := fun q h => by rw [← hAe]; exact Or.inr h
  have hS : va_S A s.heap s.heap [] := va_S.rf
  have w_1 := hts (.fieldLink RX0 43 "ScannedDigits$Digit" "broken" "I") (List.mem_of_getElem? (i := 1) rfl)
  have w_2 := hts (.fieldLink RX0 9 "ScannedDigits$Digit" "glow" "[I") (List.mem_of_getElem? (i := 2) rfl)
  have w_3 := hts (.fieldLink RX0 15 "ScannedDigits$Digit" "use" "[I") (List.mem_of_getElem? (i := 3) rfl)
  have hiX0 : ∀ w ∈ wsX00, w ∈ wsX0_renewSegments := fun w h => (goodIn_r wsX00 [4, 5, 6, 7, 8, 9, 10, 11, 12] (by decide +kernel) (by decide +kernel) w h).1
  have hl := lv_entry ([.ref x]) (n := 2) (Nat.le_of_ble_eq_true rfl)
  rw [lg_entry_eq]
  generalize (lg_sl ([.ref x]) ++ List.replicate (2 - (lg_sl ([.ref x])).length) Slot.unset).toArray = ls at hl ⊢
  have hl : lv_has ls 2 [(0, .ref x)] := hl
  refine lv_aload_n hx hb dX0_renewSegments_0 rfl (lv_at hl 0 rfl) ?_
  refine lv_iconst (v := 0) hx hb dX0_renewSegments_1 (by decide) ?_
  refine va_put (D := D) (ci := 0) (v := .int 0) (ty := .int) (C := RX0) (T := TX0) (N := 9) hx hb hts hiX0 tyX0 tyX0_ok nmX0 hown hK hP hD hS 0 rfl rfl 6 (by decide) w_1 (fun _ h9 => h9) rfl (by decide +kernel) rfl rfl (Nat.le_of_ble_eq_true rfl) dX0_renewSegments_2 (fun H locs hP hD hS => ?_)
  have hP : va_P D vwCl (dgW ct x y z (upd f 6 0) g u) H := hP
  have hD : va_D A (dgW ct x y z (upd f 6 0) g u) := hD
  refine lv_iconst (v := 0) hx hb dX0_renewSegments_5 (by decide) ?_
  refine lv_istore_n (lv' := [(1, .int 0), (0, .ref x)]) hx hb dX0_renewSegments_6 rfl hl (by decide) rfl (fun ls hl => ?_)
  have loop_7 : ∀ (n_7 : Nat) (i : Nat), (i ≤ 8) → (9 ≤ i + n_7) → ∀ (H : Heap) (locs : List Loc), va_P D vwCl (dgW ct x y z (upd f 6 0) (zF g i) (zF u i)) H → va_D A (dgW ct x y z (upd f 6 0) (zF g i) (zF u i)) → va_S A s.heap H locs → ∀ (ls : Array Slot), lv_has ls 2 [(1, .int (nI i)), (0, .ref x)] → W p l e (headSpec wsX0_renewSegments ({ frames := 0, cells := 0, slots := 0, locals := 0 })).room s m #[.ref x] below meth c H locs 0 0 (MQ below (muV D ct (dgW ct x y z f g u) (dgW ct x y z (upd f 6 0) (fun _ => 0) (fun _ => 0)) s.heap.size) #[.ref x] s 0 0 (A)) (F0 m 7 ls []) := by
    intro n_7
    induction n_7 with
    | zero =>
      intro i hi hn
      exact absurd hn (by omega)
    | succ n_7 ih_7 =>
      intro i hi hn H locs hP hD hS ls hl
      refine lv_iload_n hx hb dX0_renewSegments_7 rfl (lv_at hl 0 rfl) ?_
      refine lv_bipush (v := 8) hx hb dX0_renewSegments_8 (by decide) ?_
      refine lv_icmp_ge (tgt := 33) hx hb dX0_renewSegments_10 (by decide) (fun c_10 => ?_) (fun c_10 => ?_)
      · have hge : 8 ≤ i := nI_le' (by decide) (by omega) c_10
        have hP9 : va_P D vwCl (dgW ct x y z (upd f 6 0) (fun _ => 0) (fun _ => 0)) H := dg_ext hP (fun _ _ => rfl) (fun j hj => by rw [show i = 8 by omega]; exact zF_8 g j hj) (fun j hj => by rw [show i = 8 by omega]; exact zF_8 u j hj)
        have hD9 : va_D A (dgW ct x y z (upd f 6 0) (fun _ => 0) (fun _ => 0)) := dg_dn hD
        subst hAe
        exact W.vret hx hb hr (fun tt ht hW => ⟨⟨(), rfl, trivial, muE.of (ct := ct) hP9 hD9 ht⟩, hS.F ht⟩) hS.2.2 dX0_renewSegments_33
      · have hlt : i < 8 := nI_nle' (by decide) (by omega) c_10
        refine lv_aload_n hx hb dX0_renewSegments_13 rfl (lv_at hl 1 rfl) ?_
        refine va_get (D := D) (ci := 0) (v := .ref y) (C := RX0) (T := TX0) (N := 9) hx hb hts hiX0 hown hK hP 0 rfl rfl 7 (by decide) w_2 (fun _ h9 => h9) rfl dX0_renewSegments_14 ?_
        refine lv_iload_n hx hb dX0_renewSegments_17 rfl (lv_at hl 0 rfl) ?_
        refine lv_iconst (v := 0) hx hb dX0_renewSegments_18 (by decide) ?_
        refine r_iast hx hb hK hP hD hS 1 0 rfl rfl (k := i) (rfl) (by omega) (by decide) dX0_renewSegments_19 (fun H locs hP hD hS => ?_)
        have hP : va_P D vwCl (dgW ct x y z (upd f 6 0) (zF g (i + 1)) (zF u i)) H := (by rw [← zF_s g i]; exact hP)
        have hD : va_D A (dgW ct x y z (upd f 6 0) (zF g (i + 1)) (zF u i)) := dg_dn hD
        refine lv_aload_n hx hb dX0_renewSegments_20 rfl (lv_at hl 1 rfl) ?_
        refine va_get (D := D) (ci := 0) (v := .ref z) (C := RX0) (T := TX0) (N := 9) hx hb hts hiX0 hown hK hP 0 rfl rfl 8 (by decide) w_3 (fun _ h9 => h9) rfl dX0_renewSegments_21 ?_
        refine lv_iload_n hx hb dX0_renewSegments_24 rfl (lv_at hl 0 rfl) ?_
        refine lv_iconst (v := 0) hx hb dX0_renewSegments_25 (by decide) ?_
        refine r_iast hx hb hK hP hD hS 2 0 rfl rfl (k := i) (rfl) (by omega) (by decide) dX0_renewSegments_26 (fun H locs hP hD hS => ?_)
        have hP : va_P D vwCl (dgW ct x y z (upd f 6 0) (zF g (i + 1)) (zF u (i + 1))) H := (by rw [← zF_s u i]; exact hP)
        have hD : va_D A (dgW ct x y z (upd f 6 0) (zF g (i + 1)) (zF u (i + 1))) := dg_dn hD
        refine lv_iinc (v := nI (i + 1)) (lv' := [(1, .int (nI (i + 1))), (0, .ref x)]) hx hb dX0_renewSegments_27 hl (k := 0) rfl ((nI_succ i).symm) (by decide) rfl (fun ls hl => ?_)
        refine lv_goto (tgt := 7) hx hb dX0_renewSegments_30 (by decide) ?_
        exact ih_7 (i + 1) (by omega) (by omega) _ _ hP hD hS ls (lv_sub hl [0, 1] rfl)
  exact loop_7 (9) 0 (Nat.zero_le _) (by omega) _ _ (by rw [zF_0, zF_0]; exact hP) (dg_dn hD) hS ls (lv_sub hl [0, 1] rfl)
set_option maxHeartbeats 4000000 in
set_option maxRecDepth 100000 in
theorem k_X0_makeNew (l : Launch) (D : va_G) (ct : Nat → ClassId) (sz : Nat) (x y z : Nat) (f g u : Nat → Int32) : Met l yX0_makeNew wsX0_makeNew ({ frames := 1, cells := 0, slots := 0, locals := 21 }) (muP D ct (dgW ct x y z f g u) sz [.ref x]) (muV D ct (dgW ct x y z f g u) (dgW ct x y z dFirst (fun _ => 0) (fun _ => 0)) sz) 0 0 (va_A (dgW ct x y z f g u) sz) := by
  refine Met.ofW (cc := cX0_makeNew) (maxL := 1) (ret := none) (by decide) rfl ?_
  intro p e s m args below meth c s₁ B hml hv
  obtain ⟨rfl, hsz, hP, hK, hN, hD0⟩ := hv
  have hx := B.exec
  have hb := B.bytes
  have hr := B.returns
  have hts := atoms_spec (ws := wsX0_makeNew) B.pre
  have hown : s.vm.findClass RX0 = some m.cls := findClass_of_methodNamed B.named
  have hlocks := B.notSynchronized
  subst hsz
  have hD := hD0.self (sz := s.heap.size)
  generalize hAe : va_A (dgW ct x y z f g u) s.heap.size = A at hD
  have hA : ∀ q : Nat, s.heap.size ≤ q → A q := fun q h => by rw [← hAe]; exact Or.inr h
  have hS : va_S A s.heap s.heap [] := va_S.rf
  have w_1 := hts (.fieldLink RX0 21 "ScannedDigits$Digit" "width" "I") (List.mem_of_getElem? (i := 1) rfl)
  have w_2 := hts (.fieldLink RX0 25 "ScannedDigits$Digit" "guard" "I") (List.mem_of_getElem? (i := 2) rfl)
  have w_3 := hts (.fieldLink RX0 28 "ScannedDigits$Digit" "brightness" "I") (List.mem_of_getElem? (i := 3) rfl)
  have w_4 := hts (.fieldLink RX0 31 "ScannedDigits$Digit" "pattern" "I") (List.mem_of_getElem? (i := 4) rfl)
  have w_5 := hts (.fieldLink RX0 34 "ScannedDigits$Digit" "group" "I") (List.mem_of_getElem? (i := 5) rfl)
  have w_6 := hts (.fieldLink RX0 37 "ScannedDigits$Digit" "drivenTicks" "I") (List.mem_of_getElem? (i := 6) rfl)
  have hiX0 : ∀ w ∈ wsX00, w ∈ wsX0_makeNew := fun w h => (goodIn_r wsX00 [15, 16, 17, 18, 19, 20, 21, 22, 23] (by decide +kernel) (by decide +kernel) w h).1
  have hl := lv_entry ([.ref x]) (n := 1) (Nat.le_of_ble_eq_true rfl)
  rw [lg_entry_eq]
  generalize (lg_sl ([.ref x]) ++ List.replicate (1 - (lg_sl ([.ref x])).length) Slot.unset).toArray = ls at hl ⊢
  have hl : lv_has ls 1 [(0, .ref x)] := hl
  refine lv_aload_n hx hb dX0_makeNew_0 rfl (lv_at hl 0 rfl) ?_
  refine lv_bipush (v := 10) hx hb dX0_makeNew_1 (by decide) ?_
  refine va_put (D := D) (ci := 0) (v := .int 10) (ty := .int) (C := RX0) (T := TX0) (N := 9) hx hb hts hiX0 tyX0 tyX0_ok nmX0 hown hK hP hD hS 0 rfl rfl 0 (by decide) w_1 (fun _ h9 => h9) rfl (by decide +kernel) rfl rfl (Nat.le_of_ble_eq_true rfl) dX0_makeNew_3 (fun H locs hP hD hS => ?_)
  have hP : va_P D vwCl (dgW ct x y z (upd (f) 1 10) g u) H := hP
  have hD : va_D A (dgW ct x y z (upd (f) 1 10) g u) := hD
  refine lv_aload_n hx hb dX0_makeNew_6 rfl (lv_at hl 0 rfl) ?_
  refine lv_iconst (v := 1) hx hb dX0_makeNew_7 (by decide) ?_
  refine va_put (D := D) (ci := 0) (v := .int 1) (ty := .int) (C := RX0) (T := TX0) (N := 9) hx hb hts hiX0 tyX0 tyX0_ok nmX0 hown hK hP hD hS 0 rfl rfl 1 (by decide) w_2 (fun _ h9 => h9) rfl (by decide +kernel) rfl rfl (Nat.le_of_ble_eq_true rfl) dX0_makeNew_8 (fun H locs hP hD hS => ?_)
  have hP : va_P D vwCl (dgW ct x y z (upd (upd (f) 1 10) 2 1) g u) H := hP
  have hD : va_D A (dgW ct x y z (upd (upd (f) 1 10) 2 1) g u) := hD
  refine lv_aload_n hx hb dX0_makeNew_11 rfl (lv_at hl 0 rfl) ?_
  refine lv_bipush (v := 15) hx hb dX0_makeNew_12 (by decide) ?_
  refine va_put (D := D) (ci := 0) (v := .int 15) (ty := .int) (C := RX0) (T := TX0) (N := 9) hx hb hts hiX0 tyX0 tyX0_ok nmX0 hown hK hP hD hS 0 rfl rfl 2 (by decide) w_3 (fun _ h9 => h9) rfl (by decide +kernel) rfl rfl (Nat.le_of_ble_eq_true rfl) dX0_makeNew_14 (fun H locs hP hD hS => ?_)
  have hP : va_P D vwCl (dgW ct x y z (upd (upd (upd (f) 1 10) 2 1) 3 15) g u) H := hP
  have hD : va_D A (dgW ct x y z (upd (upd (upd (f) 1 10) 2 1) 3 15) g u) := hD
  refine lv_aload_n hx hb dX0_makeNew_17 rfl (lv_at hl 0 rfl) ?_
  refine lv_iconst (v := 0) hx hb dX0_makeNew_18 (by decide) ?_
  refine va_put (D := D) (ci := 0) (v := .int 0) (ty := .int) (C := RX0) (T := TX0) (N := 9) hx hb hts hiX0 tyX0 tyX0_ok nmX0 hown hK hP hD hS 0 rfl rfl 3 (by decide) w_4 (fun _ h9 => h9) rfl (by decide +kernel) rfl rfl (Nat.le_of_ble_eq_true rfl) dX0_makeNew_19 (fun H locs hP hD hS => ?_)
  have hP : va_P D vwCl (dgW ct x y z (upd (upd (upd (upd (f) 1 10) 2 1) 3 15) 0 0) g u) H := hP
  have hD : va_D A (dgW ct x y z (upd (upd (upd (upd (f) 1 10) 2 1) 3 15) 0 0) g u) := hD
  refine lv_aload_n hx hb dX0_makeNew_22 rfl (lv_at hl 0 rfl) ?_
  refine lv_iconst (v := 0) hx hb dX0_makeNew_23 (by decide) ?_
  refine va_put (D := D) (ci := 0) (v := .int 0) (ty := .int) (C := RX0) (T := TX0) (N := 9) hx hb hts hiX0 tyX0 tyX0_ok nmX0 hown hK hP hD hS 0 rfl rfl 4 (by decide) w_5 (fun _ h9 => h9) rfl (by decide +kernel) rfl rfl (Nat.le_of_ble_eq_true rfl) dX0_makeNew_24 (fun H locs hP hD hS => ?_)
  have hP : va_P D vwCl (dgW ct x y z (upd (upd (upd (upd (upd (f) 1 10) 2 1) 3 15) 0 0) 4 0) g u) H := hP
  have hD : va_D A (dgW ct x y z (upd (upd (upd (upd (upd (f) 1 10) 2 1) 3 15) 0 0) 4 0) g u) := hD
  refine lv_aload_n hx hb dX0_makeNew_27 rfl (lv_at hl 0 rfl) ?_
  refine lv_iconst (v := 0) hx hb dX0_makeNew_28 (by decide) ?_
  refine va_put (D := D) (ci := 0) (v := .int 0) (ty := .int) (C := RX0) (T := TX0) (N := 9) hx hb hts hiX0 tyX0 tyX0_ok nmX0 hown hK hP hD hS 0 rfl rfl 5 (by decide) w_6 (fun _ h9 => h9) rfl (by decide +kernel) rfl rfl (Nat.le_of_ble_eq_true rfl) dX0_makeNew_29 (fun H locs hP hD hS => ?_)
  have hP : va_P D vwCl (dgW ct x y z (upd (upd (upd (upd (upd (upd (f) 1 10) 2 1) 3 15) 0 0) 4 0) 5 0) g u) H := hP
  have hD : va_D A (dgW ct x y z (upd (upd (upd (upd (upd (upd (f) 1 10) 2 1) 3 15) 0 0) 4 0) 5 0) g u) := hD
  refine lv_aload_n hx hb dX0_makeNew_32 rfl (lv_at hl 0 rfl) ?_
  have hFc_33 := w_free (wc := dgW ct x y z (upd (upd (upd (upd (upd (upd (f) 1 10) 2 1) 3 15) 0 0) 4 0) 5 0) g u) hD (List.Perm.of_eq (List.append_nil _).symm) hS hA
  refine va_callv (va_runV (As := []) (rest := []) ⟨hx, hb, hml, hown, hts⟩ (k_X0_renewSegments l D ct _ x y z (upd (upd (upd (upd (upd (upd (f) 1 10) 2 1) 3 15) 0 0) 4 0) 5 0) g u) (cwV 0 hts gX0_makeNew_X0_renewSegments rfl rfl rfl (by decide +kernel) ⟨Nat.le_of_ble_eq_true rfl, Nat.le_of_ble_eq_true rfl⟩) ⟨muP.blind, va_recv hK hP (ci := 0) (q0 := 0) rfl rfl, muP.at hP hD hK hN⟩ rfl rfl hl.1 rfl (lv_room (Nat.le_of_ble_eq_true rfl)) dX0_makeNew_33 ⟨Nat.le_of_ble_eq_true rfl, Nat.le_of_ble_eq_true rfl⟩) hS (fun q _ h => hFc_33 q h) hFc_33 (fun uu tt H1 locs ht hvm hw hB hz1 hk1 hS => ?_)
  obtain ⟨hP, hD⟩ := muE.join (ws' := dgW ct x y z (upd (upd (upd (upd (upd (upd (upd (f) 1 10) 2 1) 3 15) 0 0) 4 0) 5 0) 6 0) (fun _ => 0) (fun _ => 0)) hP hD (List.Perm.of_eq (List.append_nil _).symm) (List.Perm.of_eq (List.append_nil _).symm) hk1 hFc_33 ht hB
  generalize H1 = H at hP hS ⊢
  have hP9 : va_P D vwCl (dgW ct x y z dFirst (fun _ => 0) (fun _ => 0)) H := dg_ext hP (fun j hj => match j, hj with | 0, _ => rfl | 1, _ => rfl | 2, _ => rfl | 3, _ => rfl | 4, _ => rfl | 5, _ => rfl | 6, _ => rfl) (fun _ _ => rfl) (fun _ _ => rfl)
  have hD9 : va_D A (dgW ct x y z dFirst (fun _ => 0) (fun _ => 0)) := dg_dn hD
  subst hAe
  exact W.vret hx hb hr (fun tt ht hW => ⟨⟨(), rfl, trivial, muE.of (ct := ct) hP9 hD9 ht⟩, hS.F ht⟩) hS.2.2 dX0_makeNew_36
set_option maxHeartbeats 4000000 in
set_option maxRecDepth 100000 in
theorem k_X0_runTick (l : Launch) (D : va_G) (ct : Nat → ClassId) (sz : Nat) (x y z : Nat) (f g u : Nat → Int32) (lit q life : Int32) (hq : 0 < q) : Met l yX0_runTick wsX0_runTick ({ frames := 2, cells := 0, slots := 0, locals := 46 }) (muP D ct (dgW ct x y z f g u) sz [.ref x, .int lit, .int q, .int life]) (muV D ct (dgW ct x y z f g u) (dgW ct x y z ((dRun lit q life (f, g, u) 8).1) ((dRun lit q life (f, g, u) 8).2.1) ((dRun lit q life (f, g, u) 8).2.2)) sz) 0 0 (va_A (dgW ct x y z f g u) sz) := by
  refine Met.ofW (cc := cX0_runTick) (maxL := 5) (ret := none) (by decide) rfl ?_
  intro p e s m args below meth c s₁ B hml hv
  obtain ⟨rfl, hsz, hP, hK, hN, hD0⟩ := hv
  have hx := B.exec
  have hb := B.bytes
  have hr := B.returns
  have hts := atoms_spec (ws := wsX0_runTick) B.pre
  have hown : s.vm.findClass RX0 = some m.cls := findClass_of_methodNamed B.named
  have hlocks := B.notSynchronized
  subst hsz
  have hD := hD0.self (sz := s.heap.size)
  generalize hAe : va_A (dgW ct x y z f g u) s.heap.size = A at hD
  have hA : ∀ q : Nat, s.heap.size ≤ q → A q := fun q h => by rw [← hAe]; exact Or.inr h
  have hS : va_S A s.heap s.heap [] := va_S.rf
  have w_1 := hts (.fieldLink RX0 9 "ScannedDigits$Digit" "glow" "[I") (List.mem_of_getElem? (i := 1) rfl)
  have w_2 := hts (.fieldLink RX0 15 "ScannedDigits$Digit" "use" "[I") (List.mem_of_getElem? (i := 2) rfl)
  have w_3 := hts (.fieldLink RX0 43 "ScannedDigits$Digit" "broken" "I") (List.mem_of_getElem? (i := 3) rfl)
  have w_4 := hts (.static yX5_glowUnlit) (List.mem_of_getElem? (i := 4) rfl)
  have w_5 := hts (.initialized RX5) (List.mem_of_getElem? (i := 5) rfl)
  have w_11 := hts (.static yX5_glowLit) (List.mem_of_getElem? (i := 11) rfl)
  have hiX0 : ∀ w ∈ wsX00, w ∈ wsX0_runTick := fun w h => (goodIn_r wsX00 [16, 17, 18, 19, 20, 21, 22, 23, 24] (by decide +kernel) (by decide +kernel) w h).1
  have hl := lv_entry ([.ref x, .int lit, .int q, .int life]) (n := 5) (Nat.le_of_ble_eq_true rfl)
  rw [lg_entry_eq]
  generalize (lg_sl ([.ref x, .int lit, .int q, .int life]) ++ List.replicate (5 - (lg_sl ([.ref x, .int lit, .int q, .int life])).length) Slot.unset).toArray = ls at hl ⊢
  have hl : lv_has ls 5 [(0, .ref x), (1, .int lit), (2, .int q), (3, .int life)] := hl
  refine lv_iconst (v := 0) hx hb dX0_runTick_0 (by decide) ?_
  refine lv_istore (lv' := [(4, .int 0), (0, .ref x), (1, .int lit), (2, .int q), (3, .int life)]) hx hb dX0_runTick_1 hl (by decide) rfl (fun ls hl => ?_)
  have loop_3 : ∀ (n_3 : Nat) (i : Nat), (i ≤ 8) → (9 ≤ i + n_3) → ∀ (H : Heap) (locs : List Loc), va_P D vwCl (dgW ct x y z ((dRun lit q life (f, g, u) i).1) ((dRun lit q life (f, g, u) i).2.1) ((dRun lit q life (f, g, u) i).2.2)) H → va_D A (dgW ct x y z ((dRun lit q life (f, g, u) i).1) ((dRun lit q life (f, g, u) i).2.1) ((dRun lit q life (f, g, u) i).2.2)) → va_S A s.heap H locs → ∀ (ls : Array Slot), lv_has ls 5 [(4, .int (nI i)), (0, .ref x), (1, .int lit), (2, .int q), (3, .int life)] → W p l e (headSpec wsX0_runTick ({ frames := 2, cells := 0, slots := 0, locals := 46 })).room s m #[.ref x, .int lit, .int q, .int life] below meth c H locs 0 0 (MQ below (muV D ct (dgW ct x y z f g u) (dgW ct x y z ((dRun lit q life (f, g, u) 8).1) ((dRun lit q life (f, g, u) 8).2.1) ((dRun lit q life (f, g, u) 8).2.2)) s.heap.size) #[.ref x, .int lit, .int q, .int life] s 0 0 (A)) (F0 m 3 ls []) := by
    intro n_3
    induction n_3 with
    | zero =>
      intro i hi hn
      exact absurd hn (by omega)
    | succ n_3 ih_3 =>
      intro i hi hn H locs hP hD hS ls hl
      refine lv_iload hx hb dX0_runTick_3 (lv_at hl 0 rfl) ?_
      refine lv_bipush (v := 8) hx hb dX0_runTick_5 (by decide) ?_
      refine lv_icmp_ge (tgt := 98) hx hb dX0_runTick_7 (by decide) (fun c_7 => ?_) (fun c_7 => ?_)
      · have hge : 8 ≤ i := nI_le' (by decide) (by omega) c_7
        have hP9 : va_P D vwCl (dgW ct x y z ((dRun lit q life (f, g, u) 8).1) ((dRun lit q life (f, g, u) 8).2.1) ((dRun lit q life (f, g, u) 8).2.2)) H := by rw [← show i = 8 by omega]; exact hP
        have hD9 : va_D A (dgW ct x y z ((dRun lit q life (f, g, u) 8).1) ((dRun lit q life (f, g, u) 8).2.1) ((dRun lit q life (f, g, u) 8).2.2)) := dg_dn hD
        subst hAe
        exact W.vret hx hb hr (fun tt ht hW => ⟨⟨(), rfl, trivial, muE.of (ct := ct) hP9 hD9 ht⟩, hS.F ht⟩) hS.2.2 dX0_runTick_98
      · have hlt : i < 8 := nI_nle' (by decide) (by omega) c_7
        refine lv_iload_n hx hb dX0_runTick_10 rfl (lv_at hl 2 rfl) ?_
        refine lv_iload hx hb dX0_runTick_11 (lv_at hl 0 rfl) ?_
        refine lv_ishr hx hb dX0_runTick_13 ?_
        refine lv_iconst (v := 1) hx hb dX0_runTick_14 (by decide) ?_
        refine lv_iand hx hb dX0_runTick_15 ?_
        refine lv_if_ne (tgt := 40) hx hb dX0_runTick_16 (by decide) (fun c_16 => ?_) (fun c_16 => ?_)
        · have hb1 : ¬ bit lit i = 0 := c_16
          refine lv_aload_n hx hb dX0_runTick_40 rfl (lv_at hl 1 rfl) ?_
          refine va_get (D := D) (ci := 0) (v := .ref y) (C := RX0) (T := TX0) (N := 9) hx hb hts hiX0 hown hK hP 0 rfl rfl 7 (by decide) w_1 (fun _ h9 => h9) rfl dX0_runTick_41 ?_
          refine lv_iload hx hb dX0_runTick_44 (lv_at hl 0 rfl) ?_
          refine lv_aload_n hx hb dX0_runTick_46 rfl (lv_at hl 1 rfl) ?_
          refine va_get (D := D) (ci := 0) (v := .ref y) (C := RX0) (T := TX0) (N := 9) hx hb hts hiX0 hown hK hP 0 rfl rfl 7 (by decide) w_1 (fun _ h9 => h9) rfl dX0_runTick_47 ?_
          refine lv_iload hx hb dX0_runTick_50 (lv_at hl 0 rfl) ?_
          refine r_iald hx hb hK hP 1 0 rfl rfl (k := i) (rfl) (by omega) (by decide) dX0_runTick_52 ?_
          refine vp_callSi (va_runSN (As := [.int (((dRun lit q life (f, g, u) i).2.1) i)]) (rest := [.int (nI i), .ref y]) ⟨hx, hb, hml, hown, hts⟩ (k_X5_glowLit l D ct ((dRun lit q life (f, g, u) i).2.1 i)) ⟨va_cnB 1 hts gX0_runTick_X5_glowLit_n60 rfl rfl rfl hN.2.1 w_5 (by decide +kernel) ⟨Nat.le_of_ble_eq_true rfl, Nat.le_of_ble_eq_true rfl⟩, w_11, trivial⟩ ⟨roP.blind, roP.at pw_nil hK hN⟩ rfl rfl hl.1 rfl (lv_room (Nat.le_of_ble_eq_true rfl)) dX0_runTick_53 ⟨Nat.le_of_ble_eq_true rfl, Nat.le_of_ble_eq_true rfl⟩).run (fun r_53 h_53 => ?_)
          obtain rfl : r_53 = pBri ((dRun lit q life (f, g, u) i).2.1 i) := h_53
          refine r_iast hx hb hK hP hD hS 1 0 rfl rfl (k := i) (rfl) (by omega) (by decide) dX0_runTick_56 (fun H locs hP hD hS => ?_)
          have hP : va_P D vwCl (dgW ct x y z ((dRun lit q life (f, g, u) i).1) (upd (dRun lit q life (f, g, u) i).2.1 i (pBri ((dRun lit q life (f, g, u) i).2.1 i))) ((dRun lit q life (f, g, u) i).2.2)) H := hP
          have hD : va_D A (dgW ct x y z ((dRun lit q life (f, g, u) i).1) (upd (dRun lit q life (f, g, u) i).2.1 i (pBri ((dRun lit q life (f, g, u) i).2.1 i))) ((dRun lit q life (f, g, u) i).2.2)) := hD
          refine lv_aload_n hx hb dX0_runTick_57 rfl (lv_at hl 1 rfl) ?_
          refine va_get (D := D) (ci := 0) (v := .ref z) (C := RX0) (T := TX0) (N := 9) hx hb hts hiX0 hown hK hP 0 rfl rfl 8 (by decide) w_2 (fun _ h9 => h9) rfl dX0_runTick_58 ?_
          refine lv_iload hx hb dX0_runTick_61 (lv_at hl 0 rfl) ?_
          refine lv_dup2_11 hx hb dX0_runTick_63 rfl rfl ?_
          refine r_iald hx hb hK hP 2 0 rfl rfl (k := i) (rfl) (by omega) (by decide) dX0_runTick_64 ?_
          refine lv_iconst (v := 1) hx hb dX0_runTick_65 (by decide) ?_
          refine lv_iadd hx hb dX0_runTick_66 ?_
          refine r_iast hx hb hK hP hD hS 2 0 rfl rfl (k := i) (rfl) (by omega) (by decide) dX0_runTick_67 (fun H locs hP hD hS => ?_)
          have hP : va_P D vwCl (dgW ct x y z ((dRun lit q life (f, g, u) i).1) (upd (dRun lit q life (f, g, u) i).2.1 i (pBri ((dRun lit q life (f, g, u) i).2.1 i))) (upd (dRun lit q life (f, g, u) i).2.2 i ((dRun lit q life (f, g, u) i).2.2 i + 1))) H := hP
          have hD : va_D A (dgW ct x y z ((dRun lit q life (f, g, u) i).1) (upd (dRun lit q life (f, g, u) i).2.1 i (pBri ((dRun lit q life (f, g, u) i).2.1 i))) (upd (dRun lit q life (f, g, u) i).2.2 i ((dRun lit q life (f, g, u) i).2.2 i + 1))) := hD
          refine lv_aload_n hx hb dX0_runTick_68 rfl (lv_at hl 1 rfl) ?_
          refine va_get (D := D) (ci := 0) (v := .ref z) (C := RX0) (T := TX0) (N := 9) hx hb hts hiX0 hown hK hP 0 rfl rfl 8 (by decide) w_2 (fun _ h9 => h9) rfl dX0_runTick_69 ?_
          refine lv_iload hx hb dX0_runTick_72 (lv_at hl 0 rfl) ?_
          refine r_iald hx hb hK hP 2 0 rfl rfl (k := i) (rfl) (by omega) (by decide) dX0_runTick_74 ?_
          refine lv_as (y := (dRun lit q life (f, g, u) i).2.2 i + 1) (if_pos rfl) ?_
          refine lv_iload_n hx hb dX0_runTick_75 rfl (lv_at hl 4 rfl) ?_
          refine lv_icmp_lt (tgt := 92) hx hb dX0_runTick_76 (by decide) (fun c_76 => ?_) (fun c_76 => ?_)
          · refine lv_iinc (v := nI (i + 1)) (lv' := [(4, .int (nI (i + 1))), (0, .ref x), (1, .int lit), (2, .int q), (3, .int life)]) hx hb dX0_runTick_92 hl (k := 0) rfl ((nI_succ i).symm) (by decide) rfl (fun ls hl => ?_)
            refine lv_goto (tgt := 3) hx hb dX0_runTick_95 (by decide) ?_
            exact ih_3 (i + 1) (by omega) (by omega) _ _ (dg_of (dRun_s1 hb1 (fun z => Int32.not_lt.mpr z c_76)).symm hP) (dg_dn hD) hS ls (lv_sub hl [0, 1, 2, 3, 4] rfl)
          · refine lv_aload_n hx hb dX0_runTick_79 rfl (lv_at hl 1 rfl) ?_
            refine lv_dup hx hb dX0_runTick_80 rfl ?_
            refine va_get (D := D) (ci := 0) (v := .int (((dRun lit q life (f, g, u) i).1) 6)) (C := RX0) (T := TX0) (N := 9) hx hb hts hiX0 hown hK hP 0 rfl rfl 6 (by decide) w_3 (fun _ h9 => h9) rfl dX0_runTick_81 ?_
            refine lv_iconst (v := 1) hx hb dX0_runTick_84 (by decide) ?_
            refine lv_iload hx hb dX0_runTick_85 (lv_at hl 0 rfl) ?_
            refine lv_ishl hx hb dX0_runTick_87 ?_
            refine lv_ior hx hb dX0_runTick_88 ?_
            refine va_put (D := D) (ci := 0) (v := .int ((((dRun lit q life (f, g, u) i).1) 6) ||| (1 <<< ((nI i) &&& 31)))) (ty := .int) (C := RX0) (T := TX0) (N := 9) hx hb hts hiX0 tyX0 tyX0_ok nmX0 hown hK hP hD hS 0 rfl rfl 6 (by decide) w_3 (fun _ h9 => h9) rfl (by decide +kernel) rfl rfl (Nat.le_of_ble_eq_true rfl) dX0_runTick_89 (fun H locs hP hD hS => ?_)
            have hP : va_P D vwCl (dgW ct x y z (upd (dRun lit q life (f, g, u) i).1 6 ((dRun lit q life (f, g, u) i).1 6 ||| (1 : Int32) <<< (nI i &&& 31))) (upd (dRun lit q life (f, g, u) i).2.1 i (pBri ((dRun lit q life (f, g, u) i).2.1 i))) (upd (dRun lit q life (f, g, u) i).2.2 i ((dRun lit q life (f, g, u) i).2.2 i + 1))) H := hP
            have hD : va_D A (dgW ct x y z (upd (dRun lit q life (f, g, u) i).1 6 ((dRun lit q life (f, g, u) i).1 6 ||| (1 : Int32) <<< (nI i &&& 31))) (upd (dRun lit q life (f, g, u) i).2.1 i (pBri ((dRun lit q life (f, g, u) i).2.1 i))) (upd (dRun lit q life (f, g, u) i).2.2 i ((dRun lit q life (f, g, u) i).2.2 i + 1))) := hD
            refine lv_iinc (v := nI (i + 1)) (lv' := [(4, .int (nI (i + 1))), (0, .ref x), (1, .int lit), (2, .int q), (3, .int life)]) hx hb dX0_runTick_92 hl (k := 0) rfl ((nI_succ i).symm) (by decide) rfl (fun ls hl => ?_)
            refine lv_goto (tgt := 3) hx hb dX0_runTick_95 (by decide) ?_
            exact ih_3 (i + 1) (by omega) (by omega) _ _ (dg_of (dRun_s2 hb1 (i_not_lt c_76)).symm hP) (dg_dn hD) hS ls (lv_sub hl [0, 1, 2, 3, 4] rfl)
        · have hb0 : bit lit i = 0 := c_16
          refine lv_aload_n hx hb dX0_runTick_19 rfl (lv_at hl 1 rfl) ?_
          refine va_get (D := D) (ci := 0) (v := .ref y) (C := RX0) (T := TX0) (N := 9) hx hb hts hiX0 hown hK hP 0 rfl rfl 7 (by decide) w_1 (fun _ h9 => h9) rfl dX0_runTick_20 ?_
          refine lv_iload hx hb dX0_runTick_23 (lv_at hl 0 rfl) ?_
          refine lv_aload_n hx hb dX0_runTick_25 rfl (lv_at hl 1 rfl) ?_
          refine va_get (D := D) (ci := 0) (v := .ref y) (C := RX0) (T := TX0) (N := 9) hx hb hts hiX0 hown hK hP 0 rfl rfl 7 (by decide) w_1 (fun _ h9 => h9) rfl dX0_runTick_26 ?_
          refine lv_iload hx hb dX0_runTick_29 (lv_at hl 0 rfl) ?_
          refine r_iald hx hb hK hP 1 0 rfl rfl (k := i) (rfl) (by omega) (by decide) dX0_runTick_31 ?_
          refine lv_iload_n hx hb dX0_runTick_32 rfl (lv_at hl 3 rfl) ?_
          refine vp_callSi (va_runSN (As := [.int (((dRun lit q life (f, g, u) i).2.1) i), .int q]) (rest := [.int (nI i), .ref y]) ⟨hx, hb, hml, hown, hts⟩ (k_X5_glowUnlit l D ct ((dRun lit q life (f, g, u) i).2.1 i) q hq) ⟨va_cnB 2 hts gX0_runTick_X5_glowUnlit_n56 rfl rfl rfl hN.1 w_5 (by decide +kernel) ⟨Nat.le_of_ble_eq_true rfl, Nat.le_of_ble_eq_true rfl⟩, w_4, trivial⟩ ⟨roP.blind, roP.at pw_nil hK hN⟩ rfl rfl hl.1 rfl (lv_room (Nat.le_of_ble_eq_true rfl)) dX0_runTick_33 ⟨Nat.le_of_ble_eq_true rfl, Nat.le_of_ble_eq_true rfl⟩).run (fun r_33 h_33 => ?_)
          obtain rfl : r_33 = pDar ((dRun lit q life (f, g, u) i).2.1 i) q := h_33
          refine r_iast hx hb hK hP hD hS 1 0 rfl rfl (k := i) (rfl) (by omega) (by decide) dX0_runTick_36 (fun H locs hP hD hS => ?_)
          have hP : va_P D vwCl (dgW ct x y z ((dRun lit q life (f, g, u) i).1) (upd (dRun lit q life (f, g, u) i).2.1 i (pDar ((dRun lit q life (f, g, u) i).2.1 i) q)) ((dRun lit q life (f, g, u) i).2.2)) H := hP
          have hD : va_D A (dgW ct x y z ((dRun lit q life (f, g, u) i).1) (upd (dRun lit q life (f, g, u) i).2.1 i (pDar ((dRun lit q life (f, g, u) i).2.1 i) q)) ((dRun lit q life (f, g, u) i).2.2)) := hD
          refine lv_goto (tgt := 92) hx hb dX0_runTick_37 (by decide) ?_
          refine lv_iinc (v := nI (i + 1)) (lv' := [(4, .int (nI (i + 1))), (0, .ref x), (1, .int lit), (2, .int q), (3, .int life)]) hx hb dX0_runTick_92 hl (k := 0) rfl ((nI_succ i).symm) (by decide) rfl (fun ls hl => ?_)
          refine lv_goto (tgt := 3) hx hb dX0_runTick_95 (by decide) ?_
          exact ih_3 (i + 1) (by omega) (by omega) _ _ (dg_of (dRun_s0 hb0).symm hP) (dg_dn hD) hS ls (lv_sub hl [0, 1, 2, 3, 4] rfl)
  exact loop_3 (9) 0 (Nat.zero_le _) (by omega) _ _ (dg_of (dRun_z lit q life (f, g, u)).symm hP) (dg_dn hD) hS ls (lv_sub hl [0, 1, 2, 3, 4] rfl)
set_option maxHeartbeats 4000000 in
set_option maxRecDepth 100000 in
theorem k_X3_beginFrame (l : Launch) (D : va_G) (ct : Nat → ClassId) (sz : Nat) (a : Nat → Nat) (v : SV) : Met l yX3_beginFrame wsX3_beginFrame ({ frames := 0, cells := 0, slots := 0, locals := 0 }) (muP D ct (stW ct a v) sz [.ref (a 0)]) (muV D ct (stW ct a v) (stW ct a (pEnd v)) sz) 0 0 (va_A (stW ct a v) sz) := by
  refine Met.ofW (cc := cX3_beginFrame) (maxL := 1) (ret := none) (by decide) rfl ?_
  intro p e s m args below meth c s₁ B hml hv
  obtain ⟨rfl, hsz, hP, hK, hN, hD0⟩ := hv
  have hx := B.exec
  have hb := B.bytes
  have hr := B.returns
  have hts := atoms_spec (ws := wsX3_beginFrame) B.pre
  have hown : s.vm.findClass RX3 = some m.cls := findClass_of_methodNamed B.named
  have hlocks := B.notSynchronized
  subst hsz
  have hD := hD0.self (sz := s.heap.size)
  generalize hAe : va_A (stW ct a v) s.heap.size = A at hD
  have hA : ∀ q : Nat, s.heap.size ≤ q → A q := fun q h => by rw [← hAe]; exact Or.inr h
  have hS : va_S A s.heap s.heap [] := va_S.rf
  have w_1 := hts (.fieldLink RX3 53 "ScannedDigits$State" "frame" "I") (List.mem_of_getElem? (i := 1) rfl)
  have w_2 := hts (.fieldLink RX3 56 "ScannedDigits$State" "frameTicks" "I") (List.mem_of_getElem? (i := 2) rfl)
  have w_3 := hts (.fieldLink RX3 59 "ScannedDigits$State" "testFrames" "I") (List.mem_of_getElem? (i := 3) rfl)
  have hiX3 : ∀ w ∈ wsX30, w ∈ wsX3_beginFrame := fun w h => (goodIn_r wsX30 [4, 5, 6, 7, 8, 9, 10, 11, 12, 13, 14, 15, 16] (by decide +kernel) (by decide +kernel) w h).1
  have hl := lv_entry ([.ref (a 0)]) (n := 1) (Nat.le_of_ble_eq_true rfl)
  rw [lg_entry_eq]
  generalize (lg_sl ([.ref (a 0)]) ++ List.replicate (1 - (lg_sl ([.ref (a 0)])).length) Slot.unset).toArray = ls at hl ⊢
  have hl : lv_has ls 1 [(0, .ref (a 0))] := hl
  refine lv_aload_n hx hb dX3_beginFrame_0 rfl (lv_at hl 0 rfl) ?_
  refine lv_dup hx hb dX3_beginFrame_1 rfl ?_
  refine va_get (D := D) (ci := 3) (v := .int (v.1 0 2)) (C := RX3) (T := TX3) (N := 13) hx hb hts hiX3 hown hK hP 0 st_c0 rfl 6 (by decide) w_1 (fun _ h9 => h9) rfl dX3_beginFrame_2 ?_
  refine lv_iconst (v := 1) hx hb dX3_beginFrame_5 (by decide) ?_
  refine lv_iadd hx hb dX3_beginFrame_6 ?_
  refine va_put (D := D) (ci := 3) (v := .int ((v.1 0 2) + 1)) (ty := .int) (C := RX3) (T := TX3) (N := 13) hx hb hts hiX3 tyX3 tyX3_ok nmX3 hown hK hP hD hS 0 st_c0 rfl 6 (by decide) w_1 (fun _ h9 => h9) rfl (by decide +kernel) rfl rfl (Nat.le_of_ble_eq_true rfl) dX3_beginFrame_7 (fun H locs hP hD hS => ?_)
  have hP : va_P D vwCl (stW ct a (sC v 0 (upd (v.1 0) 2 ((v.1 0 2) + 1)))) H := st_p0 (upd (v.1 0) 2 ((v.1 0 2) + 1)) hP
  have hD : va_D A (stW ct a (sC v 0 (upd (v.1 0) 2 ((v.1 0 2) + 1)))) := st_dset (by decide) hD
  refine lv_aload_n hx hb dX3_beginFrame_10 rfl (lv_at hl 0 rfl) ?_
  refine lv_iconst (v := 0) hx hb dX3_beginFrame_11 (by decide) ?_
  refine va_put (D := D) (ci := 3) (v := .int 0) (ty := .int) (C := RX3) (T := TX3) (N := 13) hx hb hts hiX3 tyX3 tyX3_ok nmX3 hown hK hP hD hS 0 st_c0 rfl 7 (by decide) w_2 (fun _ h9 => h9) rfl (by decide +kernel) rfl rfl (Nat.le_of_ble_eq_true rfl) dX3_beginFrame_12 (fun H locs hP hD hS => ?_)
  have hP : va_P D vwCl (stW ct a (sC v 0 (upd (upd (v.1 0) 2 (v.1 0 2 + 1)) 3 0))) H := st_pC (upd (upd (v.1 0) 2 (v.1 0 2 + 1)) 3 0) hP
  have hD : va_D A (stW ct a (sC v 0 (upd (upd (v.1 0) 2 (v.1 0 2 + 1)) 3 0))) := st_dset (by decide) hD
  refine lv_aload_n hx hb dX3_beginFrame_15 rfl (lv_at hl 0 rfl) ?_
  refine va_get (D := D) (ci := 3) (v := .int (v.1 0 4)) (C := RX3) (T := TX3) (N := 13) hx hb hts hiX3 hown hK hP 0 st_c0 rfl 8 (by decide) w_3 (fun _ h9 => h9) rfl dX3_beginFrame_16 ?_
  refine lv_if_le (tgt := 32) hx hb dX3_beginFrame_19 (by decide) (fun c_19 => ?_) (fun c_19 => ?_)
  · have hP9 : va_P D vwCl (stW ct a (pEnd v)) H := st_of (by unfold pEnd pEndF; rw [if_neg (Int32.not_lt.mpr c_19), Int32.sub_zero]; exact pEnd_same v) hP
    have hD9 : va_D A (stW ct a (pEnd v)) := st_dn hD
    subst hAe
    exact W.vret hx hb hr (fun tt ht hW => ⟨⟨(), rfl, trivial, muE.of (ct := ct) hP9 hD9 ht⟩, hS.F ht⟩) hS.2.2 dX3_beginFrame_32
  · refine lv_aload_n hx hb dX3_beginFrame_22 rfl (lv_at hl 0 rfl) ?_
    refine lv_dup hx hb dX3_beginFrame_23 rfl ?_
    refine va_get (D := D) (ci := 3) (v := .int (v.1 0 4)) (C := RX3) (T := TX3) (N := 13) hx hb hts hiX3 hown hK hP 0 st_c0 rfl 8 (by decide) w_3 (fun _ h9 => h9) rfl dX3_beginFrame_24 ?_
    refine lv_iconst (v := 1) hx hb dX3_beginFrame_27 (by decide) ?_
    refine lv_isub hx hb dX3_beginFrame_28 ?_
    refine va_put (D := D) (ci := 3) (v := .int ((v.1 0 4) - 1)) (ty := .int) (C := RX3) (T := TX3) (N := 13) hx hb hts hiX3 tyX3 tyX3_ok nmX3 hown hK hP hD hS 0 st_c0 rfl 8 (by decide) w_3 (fun _ h9 => h9) rfl (by decide +kernel) rfl rfl (Nat.le_of_ble_eq_true rfl) dX3_beginFrame_29 (fun H locs hP hD hS => ?_)
    have hP : va_P D vwCl (stW ct a (sC v 0 (upd (upd (upd (v.1 0) 2 (v.1 0 2 + 1)) 3 0) 4 (v.1 0 4 - 1)))) H := st_pC (upd (upd (upd (v.1 0) 2 (v.1 0 2 + 1)) 3 0) 4 (v.1 0 4 - 1)) hP
    have hD : va_D A (stW ct a (sC v 0 (upd (upd (upd (v.1 0) 2 (v.1 0 2 + 1)) 3 0) 4 (v.1 0 4 - 1)))) := st_dset (by decide) hD
    have hP9 : va_P D vwCl (stW ct a (pEnd v)) H := st_of (by unfold pEnd pEndF; rw [if_pos (i_not_le c_19)]) hP
    have hD9 : va_D A (stW ct a (pEnd v)) := st_dn hD
    subst hAe
    exact W.vret hx hb hr (fun tt ht hW => ⟨⟨(), rfl, trivial, muE.of (ct := ct) hP9 hD9 ht⟩, hS.F ht⟩) hS.2.2 dX3_beginFrame_32
set_option maxHeartbeats 4000000 in
set_option maxRecDepth 100000 in
theorem k_X3_runCurrent (l : Launch) (D : va_G) (ct : Nat → ClassId) (sz : Nat) (a : Nat → Nat) (v : SV) (n : Int32) (hfl : (vf_n32 (FP.fmul (FP.i2f n) 1075838976) ∧ vf_n32 (FP.fsub (FP.fmul (FP.i2f n) 1075838976) (v.2 0)) ∧ vf_n32 (FP.fmul (FP.fsub (FP.fmul (FP.i2f n) 1075838976) (v.2 0)) 1040187392) ∧ vf_n32 (pCur (v.2 0) n) ∧ vf_n32 (FP.fmul (pCur (v.2 0) n) 981668463) ∧ vf_n32 (pChg (v.2 2) (pCur (v.2 0) n)))) : Met l yX3_runCurrent wsX3_runCurrent ({ frames := 0, cells := 0, slots := 0, locals := 0 }) (muP D ct (stW ct a v) sz [.ref (a 0), .int n]) (muV D ct (stW ct a v) (stW ct a ((v.1, pFlo v.2 n) : SV)) sz) 0 0 (va_A (stW ct a v) sz) := by
  refine Met.ofW (cc := cX3_runCurrent) (maxL := 2) (ret := none) (by decide) rfl ?_
  intro p e s m args below meth c s₁ B hml hv
  obtain ⟨rfl, hsz, hP, hK, hN, hD0⟩ := hv
  have hx := B.exec
  have hb := B.bytes
  have hr := B.returns
  have hts := atoms_spec (ws := wsX3_runCurrent) B.pre
  have hown : s.vm.findClass RX3 = some m.cls := findClass_of_methodNamed B.named
  have hlocks := B.notSynchronized
  subst hsz
  have hD := hD0.self (sz := s.heap.size)
  generalize hAe : va_A (stW ct a v) s.heap.size = A at hD
  have hA : ∀ q : Nat, s.heap.size ≤ q → A q := fun q h => by rw [← hAe]; exact Or.inr h
  have hS : va_S A s.heap s.heap [] := va_S.rf
  have w_1 := hts (.fieldLink RX3 65 "ScannedDigits$State" "current" "F") (List.mem_of_getElem? (i := 1) rfl)
  have w_2 := hts (.constantFloat RX3 140 (1075838976)) (List.mem_of_getElem? (i := 2) rfl)
  have w_3 := hts (.constantFloat RX3 141 (1040187392)) (List.mem_of_getElem? (i := 3) rfl)
  have w_4 := hts (.fieldLink RX3 69 "ScannedDigits$State" "peak" "F") (List.mem_of_getElem? (i := 4) rfl)
  have w_5 := hts (.fieldLink RX3 72 "ScannedDigits$State" "charge" "F") (List.mem_of_getElem? (i := 5) rfl)
  have w_6 := hts (.constantFloat RX3 142 (981668463)) (List.mem_of_getElem? (i := 6) rfl)
  have hiX3 : ∀ w ∈ wsX30, w ∈ wsX3_runCurrent := fun w h => (goodIn_r wsX30 [7, 8, 9, 10, 11, 12, 13, 14, 15, 16, 17, 18, 19] (by decide +kernel) (by decide +kernel) w h).1
  have hl := lv_entry ([.ref (a 0), .int n]) (n := 2) (Nat.le_of_ble_eq_true rfl)
  rw [lg_entry_eq]
  generalize (lg_sl ([.ref (a 0), .int n]) ++ List.replicate (2 - (lg_sl ([.ref (a 0), .int n])).length) Slot.unset).toArray = ls at hl ⊢
  have hl : lv_has ls 2 [(0, .ref (a 0)), (1, .int n)] := hl
  refine lv_aload_n hx hb dX3_runCurrent_0 rfl (lv_at hl 0 rfl) ?_
  refine lv_aload_n hx hb dX3_runCurrent_1 rfl (lv_at hl 0 rfl) ?_
  refine va_get (D := D) (ci := 3) (v := .float (v.2 0)) (C := RX3) (T := TX3) (N := 13) hx hb hts hiX3 hown hK hP 0 st_c0 rfl 10 (by decide) w_1 (fun _ h9 => h9) rfl dX3_runCurrent_2 ?_
  refine lv_iload_n hx hb dX3_runCurrent_5 rfl (lv_at hl 1 rfl) ?_
  refine lv_i2f hx hb dX3_runCurrent_6 ?_
  refine lv_ldcf (v := 1075838976) hx hb hown w_2 dX3_runCurrent_7 ?_
  refine lv_fmul hx hb dX3_runCurrent_9 (hfl.1) ?_
  refine lv_aload_n hx hb dX3_runCurrent_10 rfl (lv_at hl 0 rfl) ?_
  refine va_get (D := D) (ci := 3) (v := .float (v.2 0)) (C := RX3) (T := TX3) (N := 13) hx hb hts hiX3 hown hK hP 0 st_c0 rfl 10 (by decide) w_1 (fun _ h9 => h9) rfl dX3_runCurrent_11 ?_
  refine lv_fsub hx hb dX3_runCurrent_14 (hfl.2.1) ?_
  refine lv_ldcf (v := 1040187392) hx hb hown w_3 dX3_runCurrent_15 ?_
  refine lv_fmul hx hb dX3_runCurrent_17 (hfl.2.2.1) ?_
  refine lv_fadd hx hb dX3_runCurrent_18 (hfl.2.2.2.1) ?_
  refine va_put (D := D) (ci := 3) (v := .float (FP.fadd (v.2 0) (FP.fmul (FP.fsub (FP.fmul (FP.i2f n) 1075838976) (v.2 0)) 1040187392))) (ty := .float) (C := RX3) (T := TX3) (N := 13) hx hb hts hiX3 tyX3 tyX3_ok nmX3 hown hK hP hD hS 0 st_c0 rfl 10 (by decide) w_1 (fun _ h9 => h9) rfl (by decide +kernel) rfl rfl (Nat.le_of_ble_eq_true rfl) dX3_runCurrent_19 (fun H locs hP hD hS => ?_)
  have hP : va_P D vwCl (stW ct a ((v.1, vf_upd v.2 0 (pCur (v.2 0) n)) : SV)) H := st_pf (vf_upd v.2 0 (pCur (v.2 0) n)) hP
  have hD : va_D A (stW ct a ((v.1, vf_upd v.2 0 (pCur (v.2 0) n)) : SV)) := st_dset (by decide) hD
  have cut_46 : ∀ (H : Heap) (locs : List Loc), va_P D vwCl (stW ct a ((v.1, vf_upd v.2 0 (pCur (v.2 0) n)) : SV)) H → va_D A (stW ct a ((v.1, vf_upd v.2 0 (pCur (v.2 0) n)) : SV)) → va_S A s.heap H locs → ∀ (ls : Array Slot), lv_has ls 2 [(0, .ref (a 0))] → W p l e (headSpec wsX3_runCurrent ({ frames := 0, cells := 0, slots := 0, locals := 0 })).room s m #[.ref (a 0), .int n] below meth c H locs 0 0 (MQ below (muV D ct (stW ct a v) (stW ct a ((v.1, pFlo v.2 n) : SV)) s.heap.size) #[.ref (a 0), .int n] s 0 0 (A)) (F0 m 46 ls [.float (pPk (pCur (v.2 0) n) (v.2 1)), .ref (a 0)]) := by
    intro   H locs hP hD hS ls hl
    refine va_put (D := D) (ci := 3) (v := .float (pPk (pCur (v.2 0) n) (v.2 1))) (ty := .float) (C := RX3) (T := TX3) (N := 13) hx hb hts hiX3 tyX3 tyX3_ok nmX3 hown hK hP hD hS 0 st_c0 rfl 11 (by decide) w_4 (fun _ h9 => h9) rfl (by decide +kernel) rfl rfl (Nat.le_of_ble_eq_true rfl) dX3_runCurrent_46 (fun H locs hP hD hS => ?_)
    have hP : va_P D vwCl (stW ct a ((v.1, vf_upd (vf_upd v.2 0 (pCur (v.2 0) n)) 1 (pPk (pCur (v.2 0) n) (v.2 1))) : SV)) H := st_pf (v := ((v.1, vf_upd v.2 0 (pCur (v.2 0) n)) : SV)) (vf_upd (vf_upd v.2 0 (pCur (v.2 0) n)) 1 (pPk (pCur (v.2 0) n) (v.2 1))) hP
    have hD : va_D A (stW ct a ((v.1, vf_upd (vf_upd v.2 0 (pCur (v.2 0) n)) 1 (pPk (pCur (v.2 0) n) (v.2 1))) : SV)) := st_dset (by decide) hD
    refine lv_aload_n hx hb dX3_runCurrent_49 rfl (lv_at hl 0 rfl) ?_
    refine lv_aload_n hx hb dX3_runCurrent_50 rfl (lv_at hl 0 rfl) ?_
    refine va_get (D := D) (ci := 3) (v := .float (v.2 2)) (C := RX3) (T := TX3) (N := 13) hx hb hts hiX3 hown hK hP 0 st_c0 rfl 12 (by decide) w_5 (fun _ h9 => h9) rfl dX3_runCurrent_51 ?_
    refine lv_aload_n hx hb dX3_runCurrent_54 rfl (lv_at hl 0 rfl) ?_
    refine va_get (D := D) (ci := 3) (v := .float (pCur (v.2 0) n)) (C := RX3) (T := TX3) (N := 13) hx hb hts hiX3 hown hK hP 0 st_c0 rfl 10 (by decide) w_1 (fun _ h9 => h9) rfl dX3_runCurrent_55 ?_
    refine lv_ldcf (v := 981668463) hx hb hown w_6 dX3_runCurrent_58 ?_
    refine lv_fmul hx hb dX3_runCurrent_60 (hfl.2.2.2.2.1) ?_
    refine lv_fadd hx hb dX3_runCurrent_61 (hfl.2.2.2.2.2) ?_
    refine va_put (D := D) (ci := 3) (v := .float (FP.fadd (v.2 2) (FP.fmul (pCur (v.2 0) n) 981668463))) (ty := .float) (C := RX3) (T := TX3) (N := 13) hx hb hts hiX3 tyX3 tyX3_ok nmX3 hown hK hP hD hS 0 st_c0 rfl 12 (by decide) w_5 (fun _ h9 => h9) rfl (by decide +kernel) rfl rfl (Nat.le_of_ble_eq_true rfl) dX3_runCurrent_62 (fun H locs hP hD hS => ?_)
    have hP : va_P D vwCl (stW ct a ((v.1, pFlo v.2 n) : SV)) H := st_pf (v := ((v.1, vf_upd (vf_upd v.2 0 (pCur (v.2 0) n)) 1 (pPk (pCur (v.2 0) n) (v.2 1))) : SV)) (pFlo v.2 n) hP
    have hD : va_D A (stW ct a ((v.1, pFlo v.2 n) : SV)) := st_dset (by decide) hD
    have hP9 : va_P D vwCl (stW ct a ((v.1, pFlo v.2 n) : SV)) H := hP
    have hD9 : va_D A (stW ct a ((v.1, pFlo v.2 n) : SV)) := hD
    subst hAe
    exact W.vret hx hb hr (fun tt ht hW => ⟨⟨(), rfl, trivial, muE.of (ct := ct) hP9 hD9 ht⟩, hS.F ht⟩) hS.2.2 dX3_runCurrent_65
  refine lv_aload_n hx hb dX3_runCurrent_22 rfl (lv_at hl 0 rfl) ?_
  refine lv_aload_n hx hb dX3_runCurrent_23 rfl (lv_at hl 0 rfl) ?_
  refine va_get (D := D) (ci := 3) (v := .float (pCur (v.2 0) n)) (C := RX3) (T := TX3) (N := 13) hx hb hts hiX3 hown hK hP 0 st_c0 rfl 10 (by decide) w_1 (fun _ h9 => h9) rfl dX3_runCurrent_24 ?_
  refine lv_aload_n hx hb dX3_runCurrent_27 rfl (lv_at hl 0 rfl) ?_
  refine va_get (D := D) (ci := 3) (v := .float (v.2 1)) (C := RX3) (T := TX3) (N := 13) hx hb hts hiX3 hown hK hP 0 st_c0 rfl 11 (by decide) w_4 (fun _ h9 => h9) rfl dX3_runCurrent_28 ?_
  refine lv_fcmp hx hb dX3_runCurrent_31 ?_
  refine lv_if_le (tgt := 42) hx hb dX3_runCurrent_32 (by decide) (fun c_32 => ?_) (fun c_32 => ?_)
  · refine lv_aload_n hx hb dX3_runCurrent_42 rfl (lv_at hl 0 rfl) ?_
    refine va_get (D := D) (ci := 3) (v := .float (v.2 1)) (C := RX3) (T := TX3) (N := 13) hx hb hts hiX3 hown hK hP 0 st_c0 rfl 11 (by decide) w_4 (fun _ h9 => h9) rfl dX3_runCurrent_43 ?_
    refine lv_asf (y := pPk (pCur (v.2 0) n) (v.2 1)) ((if_pos c_32).symm) ?_
    exact cut_46  _ _ hP hD hS ls (lv_sub hl [0] rfl)
  · refine lv_aload_n hx hb dX3_runCurrent_35 rfl (lv_at hl 0 rfl) ?_
    refine va_get (D := D) (ci := 3) (v := .float (pCur (v.2 0) n)) (C := RX3) (T := TX3) (N := 13) hx hb hts hiX3 hown hK hP 0 st_c0 rfl 10 (by decide) w_1 (fun _ h9 => h9) rfl dX3_runCurrent_36 ?_
    refine lv_goto (tgt := 46) hx hb dX3_runCurrent_39 (by decide) ?_
    refine lv_asf (y := pPk (pCur (v.2 0) n) (v.2 1)) ((if_neg c_32).symm) ?_
    exact cut_46  _ _ hP hD hS ls (lv_sub hl [0] rfl)
