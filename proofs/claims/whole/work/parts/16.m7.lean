set_option maxHeartbeats 4000000 in
set_option maxRecDepth 100000 in
theorem k_X6_set_e2_0 (l : Launch) (D : va_G) (ct : Nat → ClassId) (a : Nat → Nat) (v u : SV) (w sl : Nat → SV) (k t : Nat) (hk : k ≤ 5) (ik tx rd : Nat → Int32) (y : Int32) (hin : pIn y 2 50 = 0) : Met l yX6_set wsX6_set ({ frames := 1, cells := 0, slots := 0, locals := 22 }) (roP D ct (mG ct a (nI k) (nI t) (rowOf v) v.2 (rowOf u) u.2 (hisI w) (hisF w) (hisI sl) (hisF sl) ik tx rd) [.ref (a 0), .int 0, .int y]) (vp_Si (fun r => r = -2)) 0 0 noA := by
  refine Met.ofW (cc := cX6_set) (maxL := 4) (ret := (some .int)) (by decide) rfl ?_
  intro p e s m args below meth c s₁ B hml hv
  obtain ⟨rfl, hP, hK, hN⟩ := hv
  have hx := B.exec
  have hb := B.bytes
  have hr := B.returns
  have hts := atoms_spec (ws := wsX6_set) B.pre
  have hown : s.vm.findClass RX6 = some m.cls := findClass_of_methodNamed B.named
  have hlocks := B.notSynchronized
  have hl := lv_entry ([.ref (a 0), .int 0, .int y]) (n := 4) (Nat.le_of_ble_eq_true rfl)
  rw [lg_entry_eq]
  generalize (lg_sl ([.ref (a 0), .int 0, .int y]) ++ List.replicate (4 - (lg_sl ([.ref (a 0), .int 0, .int y])).length) Slot.unset).toArray = ls at hl ⊢
  have hl : lv_has ls 4 [(0, .ref (a 0)), (1, .int 0), (2, .int y)] := hl
  refine lv_iload_n hx hb dX6_set_0 rfl (lv_at hl 1 rfl) ?_
  refine lv_iconst (v := 0) hx hb dX6_set_1 (by decide) ?_
  refine lv_iconst (v := 2) hx hb dX6_set_2 (by decide) ?_
  refine vp_callSi (va_runS (As := [.int 0, .int 0, .int 2]) (rest := []) ⟨hx, hb, hml, hown, hts⟩ (k_X6_in l D ct 0 0 2) (va_cwS 3 hts gX6_set_X6_in rfl rfl rfl (by decide +kernel) ⟨Nat.le_of_ble_eq_true rfl, Nat.le_of_ble_eq_true rfl⟩) ⟨roP.blind, roP.at pw_nil hK hN⟩ rfl rfl hl.1 rfl (lv_room (Nat.le_of_ble_eq_true rfl)) dX6_set_3 ⟨Nat.le_of_ble_eq_true rfl, Nat.le_of_ble_eq_true rfl⟩).run (fun r_3 h_3 => ?_)
  obtain rfl : r_3 = pIn 0 0 2 := h_3
  refine lv_if_ne (tgt := 11) hx hb dX6_set_6 (by decide) (fun c_6 => ?_) (fun c_6 => ?_)
  · refine lv_iload_n hx hb dX6_set_11 rfl (lv_at hl 2 rfl) ?_
    refine lv_iload_n hx hb dX6_set_12 rfl (lv_at hl 1 rfl) ?_
    refine lv_if_ne (tgt := 20) hx hb dX6_set_13 (by decide) (fun c_13 => ?_) (fun c_13 => ?_)
    · exact absurd rfl c_13
    · refine lv_iconst (v := 2) hx hb dX6_set_16 (by decide) ?_
      refine lv_goto (tgt := 21) hx hb dX6_set_17 (by decide) ?_
      refine lv_iload_n hx hb dX6_set_21 rfl (lv_at hl 1 rfl) ?_
      refine lv_if_ne (tgt := 30) hx hb dX6_set_22 (by decide) (fun c_22 => ?_) (fun c_22 => ?_)
      · exact absurd rfl c_22
      · refine lv_bipush (v := 50) hx hb dX6_set_25 (by decide) ?_
        refine lv_goto (tgt := 43) hx hb dX6_set_27 (by decide) ?_
        refine vp_callSi (va_runS (As := [.int y, .int 2, .int 50]) (rest := []) ⟨hx, hb, hml, hown, hts⟩ (k_X6_in l D ct y 2 50) (va_cwS 3 hts gX6_set_X6_in rfl rfl rfl (by decide +kernel) ⟨Nat.le_of_ble_eq_true rfl, Nat.le_of_ble_eq_true rfl⟩) ⟨roP.blind, roP.at pw_nil hK hN⟩ rfl rfl hl.1 rfl (lv_room (Nat.le_of_ble_eq_true rfl)) dX6_set_43 ⟨Nat.le_of_ble_eq_true rfl, Nat.le_of_ble_eq_true rfl⟩).run (fun r_43 h_43 => ?_)
        obtain rfl : r_43 = pIn y 2 50 := h_43
        refine lv_if_ne (tgt := 52) hx hb dX6_set_46 (by decide) (fun c_46 => ?_) (fun c_46 => ?_)
        · exact absurd hin c_46
        · refine lv_bipush (v := (-2)) hx hb dX6_set_49 (by decide) ?_
          exact W.iret (v := (-2)) hx hb hr (fun tt ht hW => ⟨(-2), rfl, rfl, ht⟩) (fun q hq => absurd hq List.not_mem_nil) dX6_set_51
  · exact absurd c_6 (by decide)

set_option maxHeartbeats 4000000 in
set_option maxRecDepth 100000 in
theorem k_X6_set_ok_0 (l : Launch) (D : va_G) (ct : Nat → ClassId) (sz : Nat) (a : Nat → Nat) (v u : SV) (w sl : Nat → SV) (k t : Nat) (hk : k ≤ 5) (ik tx rd : Nat → Int32) (y : Int32) (hin : ¬ pIn y 2 50 = 0) : Met l yX6_set wsX6_set ({ frames := 1, cells := 0, slots := 0, locals := 22 }) (muP D ct (mG ct a (nI k) (nI t) (rowOf v) v.2 (rowOf u) u.2 (hisI w) (hisF w) (hisI sl) (hisF sl) ik tx rd) sz [.ref (a 0), .int 0, .int y]) (muI D ct (mG ct a (nI k) (nI t) (rowOf v) v.2 (rowOf u) u.2 (hisI w) (hisF w) (hisI sl) (hisF sl) ik tx rd) (mS ct a (s2 v 3 0 y) v (hPush w k v) sl (kPush k) t ik tx rd) sz (fun r => r = v.1 3 0)) 0 0 (va_A (mG ct a (nI k) (nI t) (rowOf v) v.2 (rowOf u) u.2 (hisI w) (hisF w) (hisI sl) (hisF sl) ik tx rd) sz) := by
  refine Met.ofW (cc := cX6_set) (maxL := 4) (ret := (some .int)) (by decide) rfl ?_
  intro p e s m args below meth c s₁ B hml hv
  obtain ⟨rfl, hsz, hP, hK, hN, hD0⟩ := hv
  have hx := B.exec
  have hb := B.bytes
  have hr := B.returns
  have hts := atoms_spec (ws := wsX6_set) B.pre
  have hown : s.vm.findClass RX6 = some m.cls := findClass_of_methodNamed B.named
  have hlocks := B.notSynchronized
  subst hsz
  have hD := hD0.self (sz := s.heap.size)
  generalize hAe : va_A (mG ct a (nI k) (nI t) (rowOf v) v.2 (rowOf u) u.2 (hisI w) (hisF w) (hisI sl) (hisF sl) ik tx rd) s.heap.size = A at hD
  have hA : ∀ q : Nat, s.heap.size ≤ q → A q := fun q h => by rw [← hAe]; exact Or.inr h
  have hS : va_S A s.heap s.heap [] := va_S.rf
  have w_2 := hts (.fieldLink RX6 7 "ScannedDigitsModel" "row" "[I") (List.mem_of_getElem? (i := 2) rfl)
  have hiX6 : ∀ w ∈ wsX60, w ∈ wsX6_set := fun w h => (goodIn_r wsX60 [21, 22, 23, 24, 25, 26, 27, 28, 29, 30, 31, 32, 33] (by decide +kernel) (by decide +kernel) w h).1
  have hl := lv_entry ([.ref (a 0), .int 0, .int y]) (n := 4) (Nat.le_of_ble_eq_true rfl)
  rw [lg_entry_eq]
  generalize (lg_sl ([.ref (a 0), .int 0, .int y]) ++ List.replicate (4 - (lg_sl ([.ref (a 0), .int 0, .int y])).length) Slot.unset).toArray = ls at hl ⊢
  have hl : lv_has ls 4 [(0, .ref (a 0)), (1, .int 0), (2, .int y)] := hl
  refine lv_iload_n hx hb dX6_set_0 rfl (lv_at hl 1 rfl) ?_
  refine lv_iconst (v := 0) hx hb dX6_set_1 (by decide) ?_
  refine lv_iconst (v := 2) hx hb dX6_set_2 (by decide) ?_
  refine vp_callSi (va_runS (As := [.int 0, .int 0, .int 2]) (rest := []) ⟨hx, hb, hml, hown, hts⟩ (k_X6_in l D ct 0 0 2) (va_cwS 3 hts gX6_set_X6_in rfl rfl rfl (by decide +kernel) ⟨Nat.le_of_ble_eq_true rfl, Nat.le_of_ble_eq_true rfl⟩) ⟨roP.blind, roP.at pw_nil hK hN⟩ rfl rfl hl.1 rfl (lv_room (Nat.le_of_ble_eq_true rfl)) dX6_set_3 ⟨Nat.le_of_ble_eq_true rfl, Nat.le_of_ble_eq_true rfl⟩).run (fun r_3 h_3 => ?_)
  obtain rfl : r_3 = pIn 0 0 2 := h_3
  refine lv_if_ne (tgt := 11) hx hb dX6_set_6 (by decide) (fun c_6 => ?_) (fun c_6 => ?_)
  · refine lv_iload_n hx hb dX6_set_11 rfl (lv_at hl 2 rfl) ?_
    refine lv_iload_n hx hb dX6_set_12 rfl (lv_at hl 1 rfl) ?_
    refine lv_if_ne (tgt := 20) hx hb dX6_set_13 (by decide) (fun c_13 => ?_) (fun c_13 => ?_)
    · exact absurd rfl c_13
    · refine lv_iconst (v := 2) hx hb dX6_set_16 (by decide) ?_
      refine lv_goto (tgt := 21) hx hb dX6_set_17 (by decide) ?_
      refine lv_iload_n hx hb dX6_set_21 rfl (lv_at hl 1 rfl) ?_
      refine lv_if_ne (tgt := 30) hx hb dX6_set_22 (by decide) (fun c_22 => ?_) (fun c_22 => ?_)
      · exact absurd rfl c_22
      · refine lv_bipush (v := 50) hx hb dX6_set_25 (by decide) ?_
        refine lv_goto (tgt := 43) hx hb dX6_set_27 (by decide) ?_
        refine vp_callSi (va_runS (As := [.int y, .int 2, .int 50]) (rest := []) ⟨hx, hb, hml, hown, hts⟩ (k_X6_in l D ct y 2 50) (va_cwS 3 hts gX6_set_X6_in rfl rfl rfl (by decide +kernel) ⟨Nat.le_of_ble_eq_true rfl, Nat.le_of_ble_eq_true rfl⟩) ⟨roP.blind, roP.at pw_nil hK hN⟩ rfl rfl hl.1 rfl (lv_room (Nat.le_of_ble_eq_true rfl)) dX6_set_43 ⟨Nat.le_of_ble_eq_true rfl, Nat.le_of_ble_eq_true rfl⟩).run (fun r_43 h_43 => ?_)
        obtain rfl : r_43 = pIn y 2 50 := h_43
        refine lv_if_ne (tgt := 52) hx hb dX6_set_46 (by decide) (fun c_46 => ?_) (fun c_46 => ?_)
        · refine lv_aload_n hx hb dX6_set_52 rfl (lv_at hl 0 rfl) ?_
          have hFc_53 := w_free (wc := mG ct a (nI k) (nI t) (rowOf v) v.2 (rowOf u) u.2 (hisI w) (hisF w) (hisI sl) (hisF sl) ik tx rd) hD (List.Perm.of_eq (List.append_nil _).symm) hS hA
          refine va_callv (va_runV (As := []) (rest := []) ⟨hx, hb, hml, hown, hts⟩ (k_X6_begin l D ct _ a (nI k) (nI t) (rowOf v) v.2 (rowOf u) u.2 (hisI w) (hisF w) (hisI sl) (hisF sl) ik tx rd) (cwV 0 hts gX6_set_X6_begin rfl rfl rfl (by decide +kernel) ⟨Nat.le_of_ble_eq_true rfl, Nat.le_of_ble_eq_true rfl⟩) ⟨muP.blind, va_recv hK hP (ci := 6) (q0 := 0) rfl rfl, muP.at hP hD hK hN⟩ rfl rfl hl.1 rfl (lv_room (Nat.le_of_ble_eq_true rfl)) dX6_set_53 ⟨Nat.le_of_ble_eq_true rfl, Nat.le_of_ble_eq_true rfl⟩) hS (fun q _ h => hFc_53 q h) hFc_53 (fun uu tt H1 locs ht hvm hw hB hz1 hk1 hS => ?_)
          obtain ⟨hP, hD⟩ := muE.join (ws' := mG ct a (nI k) (nI t) (rowOf v) v.2 (rowOf v) v.2 (hisI w) (hisF w) (hisI sl) (hisF sl) ik tx rd) hP hD (List.Perm.of_eq (List.append_nil _).symm) (List.Perm.of_eq (List.append_nil _).symm) hk1 hFc_53 ht hB
          generalize H1 = H at hP hS ⊢
          refine lv_aload_n hx hb dX6_set_56 rfl (lv_at hl 0 rfl) ?_
          refine va_get (D := D) (ci := 6) (v := .ref (a 1)) (C := RX6) (T := TX6) (N := 13) hx hb hts hiX6 hown hK hP 0 rfl rfl 0 (by decide) w_2 (fun _ h9 => h9) rfl dX6_set_57 ?_
          refine lv_bipush (v := 6) hx hb dX6_set_60 (by decide) ?_
          refine lv_iload_n hx hb dX6_set_62 rfl (lv_at hl 1 rfl) ?_
          refine lv_iadd hx hb dX6_set_63 ?_
          refine lv_as (y := nI 6) (rfl) ?_
          refine r_iald hx hb hK hP 1 0 rfl rfl (k := 6) (rfl) (by omega) (by decide) dX6_set_64 ?_
          refine lv_as (y := v.1 3 0) (row_3 v (j := 0) (by decide)) ?_
          refine lv_istore_n (lv' := [(3, .int (v.1 3 0)), (0, .ref (a 0)), (1, .int 0), (2, .int y)]) hx hb dX6_set_65 rfl hl (by decide) rfl (fun ls hl => ?_)
          refine lv_aload_n hx hb dX6_set_66 rfl (lv_at hl 1 rfl) ?_
          refine va_get (D := D) (ci := 6) (v := .ref (a 1)) (C := RX6) (T := TX6) (N := 13) hx hb hts hiX6 hown hK hP 0 rfl rfl 0 (by decide) w_2 (fun _ h9 => h9) rfl dX6_set_67 ?_
          refine lv_bipush (v := 6) hx hb dX6_set_70 (by decide) ?_
          refine lv_iload_n hx hb dX6_set_72 rfl (lv_at hl 2 rfl) ?_
          refine lv_iadd hx hb dX6_set_73 ?_
          refine lv_as (y := nI 6) (rfl) ?_
          refine lv_iload_n hx hb dX6_set_74 rfl (lv_at hl 3 rfl) ?_
          refine r_iast hx hb hK hP hD hS 1 0 rfl rfl (k := 6) (rfl) (by omega) (by decide) dX6_set_75 (fun H locs hP hD hS => ?_)
          have hP : va_P D vwCl (mG ct a (nI k) (nI t) (rowOf (s2 v 3 0 y)) v.2 (rowOf v) v.2 (hisI w) (hisF w) (hisI sl) (hisF sl) ik tx rd) H := by rw [← row_up3 v (k := 0) (by decide)]; exact hP
          have hD : va_D A (mG ct a (nI k) (nI t) (rowOf (s2 v 3 0 y)) v.2 (rowOf v) v.2 (hisI w) (hisF w) (hisI sl) (hisF sl) ik tx rd) := mG_dn hD
          refine lv_aload_n hx hb dX6_set_76 rfl (lv_at hl 1 rfl) ?_
          refine lv_iload_n hx hb dX6_set_77 rfl (lv_at hl 0 rfl) ?_
          have hFc_78 := w_free (wc := mG ct a (nI k) (nI t) (rowOf (s2 v 3 0 y)) v.2 (rowOf v) v.2 (hisI w) (hisF w) (hisI sl) (hisF sl) ik tx rd) hD (List.Perm.of_eq (List.append_nil _).symm) hS hA
          refine va_calli (va_runV (As := [.int (v.1 3 0)]) (rest := []) ⟨hx, hb, hml, hown, hts⟩ (k_X6_done l D ct _ a (nI t) (rowOf (s2 v 3 0 y)) v.2 v w k hk (hisI sl) (hisF sl) ik tx rd (v.1 3 0)) (cwV 1 hts gX6_set_X6_done rfl rfl rfl (by decide +kernel) ⟨Nat.le_of_ble_eq_true rfl, Nat.le_of_ble_eq_true rfl⟩) ⟨muP.blind, va_recv hK hP (ci := 6) (q0 := 0) rfl rfl, muP.at hP hD hK hN⟩ rfl rfl hl.1 rfl (lv_room (Nat.le_of_ble_eq_true rfl)) dX6_set_78 ⟨Nat.le_of_ble_eq_true rfl, Nat.le_of_ble_eq_true rfl⟩) hS (fun q _ h => hFc_78 q h) hFc_78 (fun r_78 uu tt H1 locs ht hvm h_78 hB hz1 hk1 hS => ?_)
          obtain ⟨hP, hD⟩ := muE.join (ws' := mG ct a (nI (kPush k)) (nI t) (rowOf (s2 v 3 0 y)) v.2 (rowOf v) v.2 (hisI (hPush w k v)) (hisF (hPush w k v)) (hisI sl) (hisF sl) ik tx rd) hP hD (List.Perm.of_eq (List.append_nil _).symm) (List.Perm.of_eq (List.append_nil _).symm) hk1 hFc_78 ht hB
          generalize H1 = H at hP hS ⊢
          obtain rfl : r_78 = v.1 3 0 := h_78
          have hP9 : va_P D vwCl (mS ct a (s2 v 3 0 y) v (hPush w k v) sl (kPush k) t ik tx rd) H := hP
          have hD9 : va_D A (mS ct a (s2 v 3 0 y) v (hPush w k v) sl (kPush k) t ik tx rd) := mG_dn hD
          subst hAe
          exact W.iret (v := (v.1 3 0)) hx hb hr (fun tt ht hW => ⟨⟨(v.1 3 0), (), rfl, rfl, muE.of (ct := ct) hP9 hD9 ht⟩, hS.F ht⟩) hS.2.2 dX6_set_81
        · exact absurd c_46 hin
  · exact absurd c_6 (by decide)

set_option maxHeartbeats 4000000 in
set_option maxRecDepth 100000 in
theorem k_X6_set_e2_1 (l : Launch) (D : va_G) (ct : Nat → ClassId) (a : Nat → Nat) (v u : SV) (w sl : Nat → SV) (k t : Nat) (hk : k ≤ 5) (ik tx rd : Nat → Int32) (y : Int32) (hin : pIn y 1 1000 = 0) : Met l yX6_set wsX6_set ({ frames := 1, cells := 0, slots := 0, locals := 22 }) (roP D ct (mG ct a (nI k) (nI t) (rowOf v) v.2 (rowOf u) u.2 (hisI w) (hisF w) (hisI sl) (hisF sl) ik tx rd) [.ref (a 0), .int 1, .int y]) (vp_Si (fun r => r = -2)) 0 0 noA := by
  refine Met.ofW (cc := cX6_set) (maxL := 4) (ret := (some .int)) (by decide) rfl ?_
  intro p e s m args below meth c s₁ B hml hv
  obtain ⟨rfl, hP, hK, hN⟩ := hv
  have hx := B.exec
  have hb := B.bytes
  have hr := B.returns
  have hts := atoms_spec (ws := wsX6_set) B.pre
  have hown : s.vm.findClass RX6 = some m.cls := findClass_of_methodNamed B.named
  have hlocks := B.notSynchronized
  have hl := lv_entry ([.ref (a 0), .int 1, .int y]) (n := 4) (Nat.le_of_ble_eq_true rfl)
  rw [lg_entry_eq]
  generalize (lg_sl ([.ref (a 0), .int 1, .int y]) ++ List.replicate (4 - (lg_sl ([.ref (a 0), .int 1, .int y])).length) Slot.unset).toArray = ls at hl ⊢
  have hl : lv_has ls 4 [(0, .ref (a 0)), (1, .int 1), (2, .int y)] := hl
  refine lv_iload_n hx hb dX6_set_0 rfl (lv_at hl 1 rfl) ?_
  refine lv_iconst (v := 0) hx hb dX6_set_1 (by decide) ?_
  refine lv_iconst (v := 2) hx hb dX6_set_2 (by decide) ?_
  refine vp_callSi (va_runS (As := [.int 1, .int 0, .int 2]) (rest := []) ⟨hx, hb, hml, hown, hts⟩ (k_X6_in l D ct 1 0 2) (va_cwS 3 hts gX6_set_X6_in rfl rfl rfl (by decide +kernel) ⟨Nat.le_of_ble_eq_true rfl, Nat.le_of_ble_eq_true rfl⟩) ⟨roP.blind, roP.at pw_nil hK hN⟩ rfl rfl hl.1 rfl (lv_room (Nat.le_of_ble_eq_true rfl)) dX6_set_3 ⟨Nat.le_of_ble_eq_true rfl, Nat.le_of_ble_eq_true rfl⟩).run (fun r_3 h_3 => ?_)
  obtain rfl : r_3 = pIn 1 0 2 := h_3
  refine lv_if_ne (tgt := 11) hx hb dX6_set_6 (by decide) (fun c_6 => ?_) (fun c_6 => ?_)
  · refine lv_iload_n hx hb dX6_set_11 rfl (lv_at hl 2 rfl) ?_
    refine lv_iload_n hx hb dX6_set_12 rfl (lv_at hl 1 rfl) ?_
    refine lv_if_ne (tgt := 20) hx hb dX6_set_13 (by decide) (fun c_13 => ?_) (fun c_13 => ?_)
    · refine lv_iconst (v := 1) hx hb dX6_set_20 (by decide) ?_
      refine lv_iload_n hx hb dX6_set_21 rfl (lv_at hl 1 rfl) ?_
      refine lv_if_ne (tgt := 30) hx hb dX6_set_22 (by decide) (fun c_22 => ?_) (fun c_22 => ?_)
      · refine lv_iload_n hx hb dX6_set_30 rfl (lv_at hl 1 rfl) ?_
        refine lv_iconst (v := 1) hx hb dX6_set_31 (by decide) ?_
        refine lv_icmp_ne (tgt := 41) hx hb dX6_set_32 (by decide) (fun c_32 => ?_) (fun c_32 => ?_)
        · exact absurd rfl c_32
        · refine lv_sipush (v := 1000) hx hb dX6_set_35 (by decide) ?_
          refine lv_goto (tgt := 43) hx hb dX6_set_38 (by decide) ?_
          refine vp_callSi (va_runS (As := [.int y, .int 1, .int 1000]) (rest := []) ⟨hx, hb, hml, hown, hts⟩ (k_X6_in l D ct y 1 1000) (va_cwS 3 hts gX6_set_X6_in rfl rfl rfl (by decide +kernel) ⟨Nat.le_of_ble_eq_true rfl, Nat.le_of_ble_eq_true rfl⟩) ⟨roP.blind, roP.at pw_nil hK hN⟩ rfl rfl hl.1 rfl (lv_room (Nat.le_of_ble_eq_true rfl)) dX6_set_43 ⟨Nat.le_of_ble_eq_true rfl, Nat.le_of_ble_eq_true rfl⟩).run (fun r_43 h_43 => ?_)
          obtain rfl : r_43 = pIn y 1 1000 := h_43
          refine lv_if_ne (tgt := 52) hx hb dX6_set_46 (by decide) (fun c_46 => ?_) (fun c_46 => ?_)
          · exact absurd hin c_46
          · refine lv_bipush (v := (-2)) hx hb dX6_set_49 (by decide) ?_
            exact W.iret (v := (-2)) hx hb hr (fun tt ht hW => ⟨(-2), rfl, rfl, ht⟩) (fun q hq => absurd hq List.not_mem_nil) dX6_set_51
      · exact absurd c_22 (by decide)
    · exact absurd c_13 (by decide)
  · exact absurd c_6 (by decide)

set_option maxHeartbeats 4000000 in
set_option maxRecDepth 100000 in
theorem k_X6_set_ok_1 (l : Launch) (D : va_G) (ct : Nat → ClassId) (sz : Nat) (a : Nat → Nat) (v u : SV) (w sl : Nat → SV) (k t : Nat) (hk : k ≤ 5) (ik tx rd : Nat → Int32) (y : Int32) (hin : ¬ pIn y 1 1000 = 0) : Met l yX6_set wsX6_set ({ frames := 1, cells := 0, slots := 0, locals := 22 }) (muP D ct (mG ct a (nI k) (nI t) (rowOf v) v.2 (rowOf u) u.2 (hisI w) (hisF w) (hisI sl) (hisF sl) ik tx rd) sz [.ref (a 0), .int 1, .int y]) (muI D ct (mG ct a (nI k) (nI t) (rowOf v) v.2 (rowOf u) u.2 (hisI w) (hisF w) (hisI sl) (hisF sl) ik tx rd) (mS ct a (s2 v 3 1 y) v (hPush w k v) sl (kPush k) t ik tx rd) sz (fun r => r = v.1 3 1)) 0 0 (va_A (mG ct a (nI k) (nI t) (rowOf v) v.2 (rowOf u) u.2 (hisI w) (hisF w) (hisI sl) (hisF sl) ik tx rd) sz) := by
  refine Met.ofW (cc := cX6_set) (maxL := 4) (ret := (some .int)) (by decide) rfl ?_
  intro p e s m args below meth c s₁ B hml hv
  obtain ⟨rfl, hsz, hP, hK, hN, hD0⟩ := hv
  have hx := B.exec
  have hb := B.bytes
  have hr := B.returns
  have hts := atoms_spec (ws := wsX6_set) B.pre
  have hown : s.vm.findClass RX6 = some m.cls := findClass_of_methodNamed B.named
  have hlocks := B.notSynchronized
  subst hsz
  have hD := hD0.self (sz := s.heap.size)
  generalize hAe : va_A (mG ct a (nI k) (nI t) (rowOf v) v.2 (rowOf u) u.2 (hisI w) (hisF w) (hisI sl) (hisF sl) ik tx rd) s.heap.size = A at hD
  have hA : ∀ q : Nat, s.heap.size ≤ q → A q := fun q h => by rw [← hAe]; exact Or.inr h
  have hS : va_S A s.heap s.heap [] := va_S.rf
  have w_2 := hts (.fieldLink RX6 7 "ScannedDigitsModel" "row" "[I") (List.mem_of_getElem? (i := 2) rfl)
  have hiX6 : ∀ w ∈ wsX60, w ∈ wsX6_set := fun w h => (goodIn_r wsX60 [21, 22, 23, 24, 25, 26, 27, 28, 29, 30, 31, 32, 33] (by decide +kernel) (by decide +kernel) w h).1
  have hl := lv_entry ([.ref (a 0), .int 1, .int y]) (n := 4) (Nat.le_of_ble_eq_true rfl)
  rw [lg_entry_eq]
  generalize (lg_sl ([.ref (a 0), .int 1, .int y]) ++ List.replicate (4 - (lg_sl ([.ref (a 0), .int 1, .int y])).length) Slot.unset).toArray = ls at hl ⊢
  have hl : lv_has ls 4 [(0, .ref (a 0)), (1, .int 1), (2, .int y)] := hl
  refine lv_iload_n hx hb dX6_set_0 rfl (lv_at hl 1 rfl) ?_
  refine lv_iconst (v := 0) hx hb dX6_set_1 (by decide) ?_
  refine lv_iconst (v := 2) hx hb dX6_set_2 (by decide) ?_
  refine vp_callSi (va_runS (As := [.int 1, .int 0, .int 2]) (rest := []) ⟨hx, hb, hml, hown, hts⟩ (k_X6_in l D ct 1 0 2) (va_cwS 3 hts gX6_set_X6_in rfl rfl rfl (by decide +kernel) ⟨Nat.le_of_ble_eq_true rfl, Nat.le_of_ble_eq_true rfl⟩) ⟨roP.blind, roP.at pw_nil hK hN⟩ rfl rfl hl.1 rfl (lv_room (Nat.le_of_ble_eq_true rfl)) dX6_set_3 ⟨Nat.le_of_ble_eq_true rfl, Nat.le_of_ble_eq_true rfl⟩).run (fun r_3 h_3 => ?_)
  obtain rfl : r_3 = pIn 1 0 2 := h_3
  refine lv_if_ne (tgt := 11) hx hb dX6_set_6 (by decide) (fun c_6 => ?_) (fun c_6 => ?_)
  · refine lv_iload_n hx hb dX6_set_11 rfl (lv_at hl 2 rfl) ?_
    refine lv_iload_n hx hb dX6_set_12 rfl (lv_at hl 1 rfl) ?_
    refine lv_if_ne (tgt := 20) hx hb dX6_set_13 (by decide) (fun c_13 => ?_) (fun c_13 => ?_)
    · refine lv_iconst (v := 1) hx hb dX6_set_20 (by decide) ?_
      refine lv_iload_n hx hb dX6_set_21 rfl (lv_at hl 1 rfl) ?_
      refine lv_if_ne (tgt := 30) hx hb dX6_set_22 (by decide) (fun c_22 => ?_) (fun c_22 => ?_)
      · refine lv_iload_n hx hb dX6_set_30 rfl (lv_at hl 1 rfl) ?_
        refine lv_iconst (v := 1) hx hb dX6_set_31 (by decide) ?_
        refine lv_icmp_ne (tgt := 41) hx hb dX6_set_32 (by decide) (fun c_32 => ?_) (fun c_32 => ?_)
        · exact absurd rfl c_32
        · refine lv_sipush (v := 1000) hx hb dX6_set_35 (by decide) ?_
          refine lv_goto (tgt := 43) hx hb dX6_set_38 (by decide) ?_
          refine vp_callSi (va_runS (As := [.int y, .int 1, .int 1000]) (rest := []) ⟨hx, hb, hml, hown, hts⟩ (k_X6_in l D ct y 1 1000) (va_cwS 3 hts gX6_set_X6_in rfl rfl rfl (by decide +kernel) ⟨Nat.le_of_ble_eq_true rfl, Nat.le_of_ble_eq_true rfl⟩) ⟨roP.blind, roP.at pw_nil hK hN⟩ rfl rfl hl.1 rfl (lv_room (Nat.le_of_ble_eq_true rfl)) dX6_set_43 ⟨Nat.le_of_ble_eq_true rfl, Nat.le_of_ble_eq_true rfl⟩).run (fun r_43 h_43 => ?_)
          obtain rfl : r_43 = pIn y 1 1000 := h_43
          refine lv_if_ne (tgt := 52) hx hb dX6_set_46 (by decide) (fun c_46 => ?_) (fun c_46 => ?_)
          · refine lv_aload_n hx hb dX6_set_52 rfl (lv_at hl 0 rfl) ?_
            have hFc_53 := w_free (wc := mG ct a (nI k) (nI t) (rowOf v) v.2 (rowOf u) u.2 (hisI w) (hisF w) (hisI sl) (hisF sl) ik tx rd) hD (List.Perm.of_eq (List.append_nil _).symm) hS hA
            refine va_callv (va_runV (As := []) (rest := []) ⟨hx, hb, hml, hown, hts⟩ (k_X6_begin l D ct _ a (nI k) (nI t) (rowOf v) v.2 (rowOf u) u.2 (hisI w) (hisF w) (hisI sl) (hisF sl) ik tx rd) (cwV 0 hts gX6_set_X6_begin rfl rfl rfl (by decide +kernel) ⟨Nat.le_of_ble_eq_true rfl, Nat.le_of_ble_eq_true rfl⟩) ⟨muP.blind, va_recv hK hP (ci := 6) (q0 := 0) rfl rfl, muP.at hP hD hK hN⟩ rfl rfl hl.1 rfl (lv_room (Nat.le_of_ble_eq_true rfl)) dX6_set_53 ⟨Nat.le_of_ble_eq_true rfl, Nat.le_of_ble_eq_true rfl⟩) hS (fun q _ h => hFc_53 q h) hFc_53 (fun uu tt H1 locs ht hvm hw hB hz1 hk1 hS => ?_)
            obtain ⟨hP, hD⟩ := muE.join (ws' := mG ct a (nI k) (nI t) (rowOf v) v.2 (rowOf v) v.2 (hisI w) (hisF w) (hisI sl) (hisF sl) ik tx rd) hP hD (List.Perm.of_eq (List.append_nil _).symm) (List.Perm.of_eq (List.append_nil _).symm) hk1 hFc_53 ht hB
            generalize H1 = H at hP hS ⊢
            refine lv_aload_n hx hb dX6_set_56 rfl (lv_at hl 0 rfl) ?_
            refine va_get (D := D) (ci := 6) (v := .ref (a 1)) (C := RX6) (T := TX6) (N := 13) hx hb hts hiX6 hown hK hP 0 rfl rfl 0 (by decide) w_2 (fun _ h9 => h9) rfl dX6_set_57 ?_
            refine lv_bipush (v := 6) hx hb dX6_set_60 (by decide) ?_
            refine lv_iload_n hx hb dX6_set_62 rfl (lv_at hl 1 rfl) ?_
            refine lv_iadd hx hb dX6_set_63 ?_
            refine lv_as (y := nI 7) (rfl) ?_
            refine r_iald hx hb hK hP 1 0 rfl rfl (k := 7) (rfl) (by omega) (by decide) dX6_set_64 ?_
            refine lv_as (y := v.1 3 1) (row_3 v (j := 1) (by decide)) ?_
            refine lv_istore_n (lv' := [(3, .int (v.1 3 1)), (0, .ref (a 0)), (1, .int 1), (2, .int y)]) hx hb dX6_set_65 rfl hl (by decide) rfl (fun ls hl => ?_)
            refine lv_aload_n hx hb dX6_set_66 rfl (lv_at hl 1 rfl) ?_
            refine va_get (D := D) (ci := 6) (v := .ref (a 1)) (C := RX6) (T := TX6) (N := 13) hx hb hts hiX6 hown hK hP 0 rfl rfl 0 (by decide) w_2 (fun _ h9 => h9) rfl dX6_set_67 ?_
            refine lv_bipush (v := 6) hx hb dX6_set_70 (by decide) ?_
            refine lv_iload_n hx hb dX6_set_72 rfl (lv_at hl 2 rfl) ?_
            refine lv_iadd hx hb dX6_set_73 ?_
            refine lv_as (y := nI 7) (rfl) ?_
            refine lv_iload_n hx hb dX6_set_74 rfl (lv_at hl 3 rfl) ?_
            refine r_iast hx hb hK hP hD hS 1 0 rfl rfl (k := 7) (rfl) (by omega) (by decide) dX6_set_75 (fun H locs hP hD hS => ?_)
            have hP : va_P D vwCl (mG ct a (nI k) (nI t) (rowOf (s2 v 3 1 y)) v.2 (rowOf v) v.2 (hisI w) (hisF w) (hisI sl) (hisF sl) ik tx rd) H := by rw [← row_up3 v (k := 1) (by decide)]; exact hP
            have hD : va_D A (mG ct a (nI k) (nI t) (rowOf (s2 v 3 1 y)) v.2 (rowOf v) v.2 (hisI w) (hisF w) (hisI sl) (hisF sl) ik tx rd) := mG_dn hD
            refine lv_aload_n hx hb dX6_set_76 rfl (lv_at hl 1 rfl) ?_
            refine lv_iload_n hx hb dX6_set_77 rfl (lv_at hl 0 rfl) ?_
            have hFc_78 := w_free (wc := mG ct a (nI k) (nI t) (rowOf (s2 v 3 1 y)) v.2 (rowOf v) v.2 (hisI w) (hisF w) (hisI sl) (hisF sl) ik tx rd) hD (List.Perm.of_eq (List.append_nil _).symm) hS hA
            refine va_calli (va_runV (As := [.int (v.1 3 1)]) (rest := []) ⟨hx, hb, hml, hown, hts⟩ (k_X6_done l D ct _ a (nI t) (rowOf (s2 v 3 1 y)) v.2 v w k hk (hisI sl) (hisF sl) ik tx rd (v.1 3 1)) (cwV 1 hts gX6_set_X6_done rfl rfl rfl (by decide +kernel) ⟨Nat.le_of_ble_eq_true rfl, Nat.le_of_ble_eq_true rfl⟩) ⟨muP.blind, va_recv hK hP (ci := 6) (q0 := 0) rfl rfl, muP.at hP hD hK hN⟩ rfl rfl hl.1 rfl (lv_room (Nat.le_of_ble_eq_true rfl)) dX6_set_78 ⟨Nat.le_of_ble_eq_true rfl, Nat.le_of_ble_eq_true rfl⟩) hS (fun q _ h => hFc_78 q h) hFc_78 (fun r_78 uu tt H1 locs ht hvm h_78 hB hz1 hk1 hS => ?_)
            obtain ⟨hP, hD⟩ := muE.join (ws' := mG ct a (nI (kPush k)) (nI t) (rowOf (s2 v 3 1 y)) v.2 (rowOf v) v.2 (hisI (hPush w k v)) (hisF (hPush w k v)) (hisI sl) (hisF sl) ik tx rd) hP hD (List.Perm.of_eq (List.append_nil _).symm) (List.Perm.of_eq (List.append_nil _).symm) hk1 hFc_78 ht hB
            generalize H1 = H at hP hS ⊢
            obtain rfl : r_78 = v.1 3 1 := h_78
            have hP9 : va_P D vwCl (mS ct a (s2 v 3 1 y) v (hPush w k v) sl (kPush k) t ik tx rd) H := hP
            have hD9 : va_D A (mS ct a (s2 v 3 1 y) v (hPush w k v) sl (kPush k) t ik tx rd) := mG_dn hD
            subst hAe
            exact W.iret (v := (v.1 3 1)) hx hb hr (fun tt ht hW => ⟨⟨(v.1 3 1), (), rfl, rfl, muE.of (ct := ct) hP9 hD9 ht⟩, hS.F ht⟩) hS.2.2 dX6_set_81
          · exact absurd c_46 hin
      · exact absurd c_22 (by decide)
    · exact absurd c_13 (by decide)
  · exact absurd c_6 (by decide)

set_option maxHeartbeats 4000000 in
set_option maxRecDepth 100000 in
theorem k_X6_set_e2_2 (l : Launch) (D : va_G) (ct : Nat → ClassId) (a : Nat → Nat) (v u : SV) (w sl : Nat → SV) (k t : Nat) (hk : k ≤ 5) (ik tx rd : Nat → Int32) (y : Int32) (hin : pIn y 1 1000000 = 0) : Met l yX6_set wsX6_set ({ frames := 1, cells := 0, slots := 0, locals := 22 }) (roP D ct (mG ct a (nI k) (nI t) (rowOf v) v.2 (rowOf u) u.2 (hisI w) (hisF w) (hisI sl) (hisF sl) ik tx rd) [.ref (a 0), .int 2, .int y]) (vp_Si (fun r => r = -2)) 0 0 noA := by
  refine Met.ofW (cc := cX6_set) (maxL := 4) (ret := (some .int)) (by decide) rfl ?_
  intro p e s m args below meth c s₁ B hml hv
  obtain ⟨rfl, hP, hK, hN⟩ := hv
  have hx := B.exec
  have hb := B.bytes
  have hr := B.returns
  have hts := atoms_spec (ws := wsX6_set) B.pre
  have hown : s.vm.findClass RX6 = some m.cls := findClass_of_methodNamed B.named
  have hlocks := B.notSynchronized
  have w_1 := hts (.constant RX6 97 (1000000)) (List.mem_of_getElem? (i := 1) rfl)
  have hl := lv_entry ([.ref (a 0), .int 2, .int y]) (n := 4) (Nat.le_of_ble_eq_true rfl)
  rw [lg_entry_eq]
  generalize (lg_sl ([.ref (a 0), .int 2, .int y]) ++ List.replicate (4 - (lg_sl ([.ref (a 0), .int 2, .int y])).length) Slot.unset).toArray = ls at hl ⊢
  have hl : lv_has ls 4 [(0, .ref (a 0)), (1, .int 2), (2, .int y)] := hl
  refine lv_iload_n hx hb dX6_set_0 rfl (lv_at hl 1 rfl) ?_
  refine lv_iconst (v := 0) hx hb dX6_set_1 (by decide) ?_
  refine lv_iconst (v := 2) hx hb dX6_set_2 (by decide) ?_
  refine vp_callSi (va_runS (As := [.int 2, .int 0, .int 2]) (rest := []) ⟨hx, hb, hml, hown, hts⟩ (k_X6_in l D ct 2 0 2) (va_cwS 3 hts gX6_set_X6_in rfl rfl rfl (by decide +kernel) ⟨Nat.le_of_ble_eq_true rfl, Nat.le_of_ble_eq_true rfl⟩) ⟨roP.blind, roP.at pw_nil hK hN⟩ rfl rfl hl.1 rfl (lv_room (Nat.le_of_ble_eq_true rfl)) dX6_set_3 ⟨Nat.le_of_ble_eq_true rfl, Nat.le_of_ble_eq_true rfl⟩).run (fun r_3 h_3 => ?_)
  obtain rfl : r_3 = pIn 2 0 2 := h_3
  refine lv_if_ne (tgt := 11) hx hb dX6_set_6 (by decide) (fun c_6 => ?_) (fun c_6 => ?_)
  · refine lv_iload_n hx hb dX6_set_11 rfl (lv_at hl 2 rfl) ?_
    refine lv_iload_n hx hb dX6_set_12 rfl (lv_at hl 1 rfl) ?_
    refine lv_if_ne (tgt := 20) hx hb dX6_set_13 (by decide) (fun c_13 => ?_) (fun c_13 => ?_)
    · refine lv_iconst (v := 1) hx hb dX6_set_20 (by decide) ?_
      refine lv_iload_n hx hb dX6_set_21 rfl (lv_at hl 1 rfl) ?_
      refine lv_if_ne (tgt := 30) hx hb dX6_set_22 (by decide) (fun c_22 => ?_) (fun c_22 => ?_)
      · refine lv_iload_n hx hb dX6_set_30 rfl (lv_at hl 1 rfl) ?_
        refine lv_iconst (v := 1) hx hb dX6_set_31 (by decide) ?_
        refine lv_icmp_ne (tgt := 41) hx hb dX6_set_32 (by decide) (fun c_32 => ?_) (fun c_32 => ?_)
        · refine lv_ldc (v := 1000000) hx hb hown w_1 dX6_set_41 ?_
          refine vp_callSi (va_runS (As := [.int y, .int 1, .int 1000000]) (rest := []) ⟨hx, hb, hml, hown, hts⟩ (k_X6_in l D ct y 1 1000000) (va_cwS 3 hts gX6_set_X6_in rfl rfl rfl (by decide +kernel) ⟨Nat.le_of_ble_eq_true rfl, Nat.le_of_ble_eq_true rfl⟩) ⟨roP.blind, roP.at pw_nil hK hN⟩ rfl rfl hl.1 rfl (lv_room (Nat.le_of_ble_eq_true rfl)) dX6_set_43 ⟨Nat.le_of_ble_eq_true rfl, Nat.le_of_ble_eq_true rfl⟩).run (fun r_43 h_43 => ?_)
          obtain rfl : r_43 = pIn y 1 1000000 := h_43
          refine lv_if_ne (tgt := 52) hx hb dX6_set_46 (by decide) (fun c_46 => ?_) (fun c_46 => ?_)
          · exact absurd hin c_46
          · refine lv_bipush (v := (-2)) hx hb dX6_set_49 (by decide) ?_
            exact W.iret (v := (-2)) hx hb hr (fun tt ht hW => ⟨(-2), rfl, rfl, ht⟩) (fun q hq => absurd hq List.not_mem_nil) dX6_set_51
        · exact absurd c_32 (by decide)
      · exact absurd c_22 (by decide)
    · exact absurd c_13 (by decide)
  · exact absurd c_6 (by decide)

set_option maxHeartbeats 4000000 in
set_option maxRecDepth 100000 in
theorem k_X6_set_ok_2 (l : Launch) (D : va_G) (ct : Nat → ClassId) (sz : Nat) (a : Nat → Nat) (v u : SV) (w sl : Nat → SV) (k t : Nat) (hk : k ≤ 5) (ik tx rd : Nat → Int32) (y : Int32) (hin : ¬ pIn y 1 1000000 = 0) : Met l yX6_set wsX6_set ({ frames := 1, cells := 0, slots := 0, locals := 22 }) (muP D ct (mG ct a (nI k) (nI t) (rowOf v) v.2 (rowOf u) u.2 (hisI w) (hisF w) (hisI sl) (hisF sl) ik tx rd) sz [.ref (a 0), .int 2, .int y]) (muI D ct (mG ct a (nI k) (nI t) (rowOf v) v.2 (rowOf u) u.2 (hisI w) (hisF w) (hisI sl) (hisF sl) ik tx rd) (mS ct a (s2 v 3 2 y) v (hPush w k v) sl (kPush k) t ik tx rd) sz (fun r => r = v.1 3 2)) 0 0 (va_A (mG ct a (nI k) (nI t) (rowOf v) v.2 (rowOf u) u.2 (hisI w) (hisF w) (hisI sl) (hisF sl) ik tx rd) sz) := by
  refine Met.ofW (cc := cX6_set) (maxL := 4) (ret := (some .int)) (by decide) rfl ?_
  intro p e s m args below meth c s₁ B hml hv
  obtain ⟨rfl, hsz, hP, hK, hN, hD0⟩ := hv
  have hx := B.exec
  have hb := B.bytes
  have hr := B.returns
  have hts := atoms_spec (ws := wsX6_set) B.pre
  have hown : s.vm.findClass RX6 = some m.cls := findClass_of_methodNamed B.named
  have hlocks := B.notSynchronized
  subst hsz
  have hD := hD0.self (sz := s.heap.size)
  generalize hAe : va_A (mG ct a (nI k) (nI t) (rowOf v) v.2 (rowOf u) u.2 (hisI w) (hisF w) (hisI sl) (hisF sl) ik tx rd) s.heap.size = A at hD
  have hA : ∀ q : Nat, s.heap.size ≤ q → A q := fun q h => by rw [← hAe]; exact Or.inr h
  have hS : va_S A s.heap s.heap [] := va_S.rf
  have w_1 := hts (.constant RX6 97 (1000000)) (List.mem_of_getElem? (i := 1) rfl)
  have w_2 := hts (.fieldLink RX6 7 "ScannedDigitsModel" "row" "[I") (List.mem_of_getElem? (i := 2) rfl)
  have hiX6 : ∀ w ∈ wsX60, w ∈ wsX6_set := fun w h => (goodIn_r wsX60 [21, 22, 23, 24, 25, 26, 27, 28, 29, 30, 31, 32, 33] (by decide +kernel) (by decide +kernel) w h).1
  have hl := lv_entry ([.ref (a 0), .int 2, .int y]) (n := 4) (Nat.le_of_ble_eq_true rfl)
  rw [lg_entry_eq]
  generalize (lg_sl ([.ref (a 0), .int 2, .int y]) ++ List.replicate (4 - (lg_sl ([.ref (a 0), .int 2, .int y])).length) Slot.unset).toArray = ls at hl ⊢
  have hl : lv_has ls 4 [(0, .ref (a 0)), (1, .int 2), (2, .int y)] := hl
  refine lv_iload_n hx hb dX6_set_0 rfl (lv_at hl 1 rfl) ?_
  refine lv_iconst (v := 0) hx hb dX6_set_1 (by decide) ?_
  refine lv_iconst (v := 2) hx hb dX6_set_2 (by decide) ?_
  refine vp_callSi (va_runS (As := [.int 2, .int 0, .int 2]) (rest := []) ⟨hx, hb, hml, hown, hts⟩ (k_X6_in l D ct 2 0 2) (va_cwS 3 hts gX6_set_X6_in rfl rfl rfl (by decide +kernel) ⟨Nat.le_of_ble_eq_true rfl, Nat.le_of_ble_eq_true rfl⟩) ⟨roP.blind, roP.at pw_nil hK hN⟩ rfl rfl hl.1 rfl (lv_room (Nat.le_of_ble_eq_true rfl)) dX6_set_3 ⟨Nat.le_of_ble_eq_true rfl, Nat.le_of_ble_eq_true rfl⟩).run (fun r_3 h_3 => ?_)
  obtain rfl : r_3 = pIn 2 0 2 := h_3
  refine lv_if_ne (tgt := 11) hx hb dX6_set_6 (by decide) (fun c_6 => ?_) (fun c_6 => ?_)
  · refine lv_iload_n hx hb dX6_set_11 rfl (lv_at hl 2 rfl) ?_
    refine lv_iload_n hx hb dX6_set_12 rfl (lv_at hl 1 rfl) ?_
    refine lv_if_ne (tgt := 20) hx hb dX6_set_13 (by decide) (fun c_13 => ?_) (fun c_13 => ?_)
    · refine lv_iconst (v := 1) hx hb dX6_set_20 (by decide) ?_
      refine lv_iload_n hx hb dX6_set_21 rfl (lv_at hl 1 rfl) ?_
      refine lv_if_ne (tgt := 30) hx hb dX6_set_22 (by decide) (fun c_22 => ?_) (fun c_22 => ?_)
      · refine lv_iload_n hx hb dX6_set_30 rfl (lv_at hl 1 rfl) ?_
        refine lv_iconst (v := 1) hx hb dX6_set_31 (by decide) ?_
        refine lv_icmp_ne (tgt := 41) hx hb dX6_set_32 (by decide) (fun c_32 => ?_) (fun c_32 => ?_)
        · refine lv_ldc (v := 1000000) hx hb hown w_1 dX6_set_41 ?_
          refine vp_callSi (va_runS (As := [.int y, .int 1, .int 1000000]) (rest := []) ⟨hx, hb, hml, hown, hts⟩ (k_X6_in l D ct y 1 1000000) (va_cwS 3 hts gX6_set_X6_in rfl rfl rfl (by decide +kernel) ⟨Nat.le_of_ble_eq_true rfl, Nat.le_of_ble_eq_true rfl⟩) ⟨roP.blind, roP.at pw_nil hK hN⟩ rfl rfl hl.1 rfl (lv_room (Nat.le_of_ble_eq_true rfl)) dX6_set_43 ⟨Nat.le_of_ble_eq_true rfl, Nat.le_of_ble_eq_true rfl⟩).run (fun r_43 h_43 => ?_)
          obtain rfl : r_43 = pIn y 1 1000000 := h_43
          refine lv_if_ne (tgt := 52) hx hb dX6_set_46 (by decide) (fun c_46 => ?_) (fun c_46 => ?_)
          · refine lv_aload_n hx hb dX6_set_52 rfl (lv_at hl 0 rfl) ?_
            have hFc_53 := w_free (wc := mG ct a (nI k) (nI t) (rowOf v) v.2 (rowOf u) u.2 (hisI w) (hisF w) (hisI sl) (hisF sl) ik tx rd) hD (List.Perm.of_eq (List.append_nil _).symm) hS hA
            refine va_callv (va_runV (As := []) (rest := []) ⟨hx, hb, hml, hown, hts⟩ (k_X6_begin l D ct _ a (nI k) (nI t) (rowOf v) v.2 (rowOf u) u.2 (hisI w) (hisF w) (hisI sl) (hisF sl) ik tx rd) (cwV 0 hts gX6_set_X6_begin rfl rfl rfl (by decide +kernel) ⟨Nat.le_of_ble_eq_true rfl, Nat.le_of_ble_eq_true rfl⟩) ⟨muP.blind, va_recv hK hP (ci := 6) (q0 := 0) rfl rfl, muP.at hP hD hK hN⟩ rfl rfl hl.1 rfl (lv_room (Nat.le_of_ble_eq_true rfl)) dX6_set_53 ⟨Nat.le_of_ble_eq_true rfl, Nat.le_of_ble_eq_true rfl⟩) hS (fun q _ h => hFc_53 q h) hFc_53 (fun uu tt H1 locs ht hvm hw hB hz1 hk1 hS => ?_)
            obtain ⟨hP, hD⟩ := muE.join (ws' := mG ct a (nI k) (nI t) (rowOf v) v.2 (rowOf v) v.2 (hisI w) (hisF w) (hisI sl) (hisF sl) ik tx rd) hP hD (List.Perm.of_eq (List.append_nil _).symm) (List.Perm.of_eq (List.append_nil _).symm) hk1 hFc_53 ht hB
            generalize H1 = H at hP hS ⊢
            refine lv_aload_n hx hb dX6_set_56 rfl (lv_at hl 0 rfl) ?_
            refine va_get (D := D) (ci := 6) (v := .ref (a 1)) (C := RX6) (T := TX6) (N := 13) hx hb hts hiX6 hown hK hP 0 rfl rfl 0 (by decide) w_2 (fun _ h9 => h9) rfl dX6_set_57 ?_
            refine lv_bipush (v := 6) hx hb dX6_set_60 (by decide) ?_
            refine lv_iload_n hx hb dX6_set_62 rfl (lv_at hl 1 rfl) ?_
            refine lv_iadd hx hb dX6_set_63 ?_
            refine lv_as (y := nI 8) (rfl) ?_
            refine r_iald hx hb hK hP 1 0 rfl rfl (k := 8) (rfl) (by omega) (by decide) dX6_set_64 ?_
            refine lv_as (y := v.1 3 2) (row_3 v (j := 2) (by decide)) ?_
            refine lv_istore_n (lv' := [(3, .int (v.1 3 2)), (0, .ref (a 0)), (1, .int 2), (2, .int y)]) hx hb dX6_set_65 rfl hl (by decide) rfl (fun ls hl => ?_)
            refine lv_aload_n hx hb dX6_set_66 rfl (lv_at hl 1 rfl) ?_
            refine va_get (D := D) (ci := 6) (v := .ref (a 1)) (C := RX6) (T := TX6) (N := 13) hx hb hts hiX6 hown hK hP 0 rfl rfl 0 (by decide) w_2 (fun _ h9 => h9) rfl dX6_set_67 ?_
            refine lv_bipush (v := 6) hx hb dX6_set_70 (by decide) ?_
            refine lv_iload_n hx hb dX6_set_72 rfl (lv_at hl 2 rfl) ?_
            refine lv_iadd hx hb dX6_set_73 ?_
            refine lv_as (y := nI 8) (rfl) ?_
            refine lv_iload_n hx hb dX6_set_74 rfl (lv_at hl 3 rfl) ?_
            refine r_iast hx hb hK hP hD hS 1 0 rfl rfl (k := 8) (rfl) (by omega) (by decide) dX6_set_75 (fun H locs hP hD hS => ?_)
            have hP : va_P D vwCl (mG ct a (nI k) (nI t) (rowOf (s2 v 3 2 y)) v.2 (rowOf v) v.2 (hisI w) (hisF w) (hisI sl) (hisF sl) ik tx rd) H := by rw [← row_up3 v (k := 2) (by decide)]; exact hP
            have hD : va_D A (mG ct a (nI k) (nI t) (rowOf (s2 v 3 2 y)) v.2 (rowOf v) v.2 (hisI w) (hisF w) (hisI sl) (hisF sl) ik tx rd) := mG_dn hD
            refine lv_aload_n hx hb dX6_set_76 rfl (lv_at hl 1 rfl) ?_
            refine lv_iload_n hx hb dX6_set_77 rfl (lv_at hl 0 rfl) ?_
            have hFc_78 := w_free (wc := mG ct a (nI k) (nI t) (rowOf (s2 v 3 2 y)) v.2 (rowOf v) v.2 (hisI w) (hisF w) (hisI sl) (hisF sl) ik tx rd) hD (List.Perm.of_eq (List.append_nil _).symm) hS hA
            refine va_calli (va_runV (As := [.int (v.1 3 2)]) (rest := []) ⟨hx, hb, hml, hown, hts⟩ (k_X6_done l D ct _ a (nI t) (rowOf (s2 v 3 2 y)) v.2 v w k hk (hisI sl) (hisF sl) ik tx rd (v.1 3 2)) (cwV 1 hts gX6_set_X6_done rfl rfl rfl (by decide +kernel) ⟨Nat.le_of_ble_eq_true rfl, Nat.le_of_ble_eq_true rfl⟩) ⟨muP.blind, va_recv hK hP (ci := 6) (q0 := 0) rfl rfl, muP.at hP hD hK hN⟩ rfl rfl hl.1 rfl (lv_room (Nat.le_of_ble_eq_true rfl)) dX6_set_78 ⟨Nat.le_of_ble_eq_true rfl, Nat.le_of_ble_eq_true rfl⟩) hS (fun q _ h => hFc_78 q h) hFc_78 (fun r_78 uu tt H1 locs ht hvm h_78 hB hz1 hk1 hS => ?_)
            obtain ⟨hP, hD⟩ := muE.join (ws' := mG ct a (nI (kPush k)) (nI t) (rowOf (s2 v 3 2 y)) v.2 (rowOf v) v.2 (hisI (hPush w k v)) (hisF (hPush w k v)) (hisI sl) (hisF sl) ik tx rd) hP hD (List.Perm.of_eq (List.append_nil _).symm) (List.Perm.of_eq (List.append_nil _).symm) hk1 hFc_78 ht hB
            generalize H1 = H at hP hS ⊢
            obtain rfl : r_78 = v.1 3 2 := h_78
            have hP9 : va_P D vwCl (mS ct a (s2 v 3 2 y) v (hPush w k v) sl (kPush k) t ik tx rd) H := hP
            have hD9 : va_D A (mS ct a (s2 v 3 2 y) v (hPush w k v) sl (kPush k) t ik tx rd) := mG_dn hD
            subst hAe
            exact W.iret (v := (v.1 3 2)) hx hb hr (fun tt ht hW => ⟨⟨(v.1 3 2), (), rfl, rfl, muE.of (ct := ct) hP9 hD9 ht⟩, hS.F ht⟩) hS.2.2 dX6_set_81
          · exact absurd c_46 hin
        · exact absurd c_32 (by decide)
      · exact absurd c_22 (by decide)
    · exact absurd c_13 (by decide)
  · exact absurd c_6 (by decide)

set_option maxHeartbeats 4000000 in
set_option maxRecDepth 100000 in
theorem k_X6_undo_e (l : Launch) (D : va_G) (ct : Nat → ClassId) (a : Nat → Nat) (v u : SV) (w sl : Nat → SV) (t : Nat) (ik tx rd : Nat → Int32) : Met l yX6_undo wsX6_undo ({ frames := 0, cells := 0, slots := 0, locals := 0 }) (roP D ct (mG ct a (nI 0) (nI t) (rowOf v) v.2 (rowOf u) u.2 (hisI w) (hisF w) (hisI sl) (hisF sl) ik tx rd) [.ref (a 0)]) (vp_Si (fun r => r = -4)) 0 0 noA := by
  refine Met.ofW (cc := cX6_undo) (maxL := 2) (ret := (some .int)) (by decide) rfl ?_
  intro p e s m args below meth c s₁ B hml hv
  obtain ⟨rfl, hP, hK, hN⟩ := hv
  have hx := B.exec
  have hb := B.bytes
  have hr := B.returns
  have hts := atoms_spec (ws := wsX6_undo) B.pre
  have hown : s.vm.findClass RX6 = some m.cls := findClass_of_methodNamed B.named
  have hlocks := B.notSynchronized
  have w_1 := hts (.fieldLink RX6 51 "ScannedDigitsModel" "kept" "I") (List.mem_of_getElem? (i := 1) rfl)
  have hiX6 : ∀ w ∈ wsX60, w ∈ wsX6_undo := fun w h => (goodIn_r wsX60 [6, 7, 8, 9, 10, 11, 12, 13, 14, 15, 16, 17, 18] (by decide +kernel) (by decide +kernel) w h).1
  have hl := lv_entry ([.ref (a 0)]) (n := 2) (Nat.le_of_ble_eq_true rfl)
  rw [lg_entry_eq]
  generalize (lg_sl ([.ref (a 0)]) ++ List.replicate (2 - (lg_sl ([.ref (a 0)])).length) Slot.unset).toArray = ls at hl ⊢
  have hl : lv_has ls 2 [(0, .ref (a 0))] := hl
  refine lv_aload_n hx hb dX6_undo_0 rfl (lv_at hl 0 rfl) ?_
  refine va_get (D := D) (ci := 6) (v := .int (nI 0)) (C := RX6) (T := TX6) (N := 13) hx hb hts hiX6 hown hK hP 0 rfl rfl 6 (by decide) w_1 (fun _ h9 => h9) rfl dX6_undo_1 ?_
  refine lv_if_ne (tgt := 10) hx hb dX6_undo_4 (by decide) (fun c_4 => ?_) (fun c_4 => ?_)
  · exact absurd rfl c_4
  · refine lv_bipush (v := (-4)) hx hb dX6_undo_7 (by decide) ?_
    exact W.iret (v := (-4)) hx hb hr (fun tt ht hW => ⟨(-4), rfl, rfl, ht⟩) (fun q hq => absurd hq List.not_mem_nil) dX6_undo_9

set_option maxHeartbeats 4000000 in
set_option maxRecDepth 100000 in
theorem k_X6_undo_ok (l : Launch) (D : va_G) (ct : Nat → ClassId) (sz : Nat) (a : Nat → Nat) (v u : SV) (w sl : Nat → SV) (q t : Nat) (hq : q ≤ 4) (ik tx rd : Nat → Int32) : Met l yX6_undo wsX6_undo ({ frames := 0, cells := 0, slots := 0, locals := 0 }) (muP D ct (mG ct a (nI (q + 1)) (nI t) (rowOf v) v.2 (rowOf u) u.2 (hisI w) (hisF w) (hisI sl) (hisF sl) ik tx rd) sz [.ref (a 0)]) (muI D ct (mG ct a (nI (q + 1)) (nI t) (rowOf v) v.2 (rowOf u) u.2 (hisI w) (hisF w) (hisI sl) (hisF sl) ik tx rd) (mS ct a (w q) u w sl q t ik tx rd) sz (fun r => r = nI q)) 0 0 (va_A (mG ct a (nI (q + 1)) (nI t) (rowOf v) v.2 (rowOf u) u.2 (hisI w) (hisF w) (hisI sl) (hisF sl) ik tx rd) sz) := by
  refine Met.ofW (cc := cX6_undo) (maxL := 2) (ret := (some .int)) (by decide) rfl ?_
  intro p e s m args below meth c s₁ B hml hv
  obtain ⟨rfl, hsz, hP, hK, hN, hD0⟩ := hv
  have hx := B.exec
  have hb := B.bytes
  have hr := B.returns
  have hts := atoms_spec (ws := wsX6_undo) B.pre
  have hown : s.vm.findClass RX6 = some m.cls := findClass_of_methodNamed B.named
  have hlocks := B.notSynchronized
  subst hsz
  have hD := hD0.self (sz := s.heap.size)
  generalize hAe : va_A (mG ct a (nI (q + 1)) (nI t) (rowOf v) v.2 (rowOf u) u.2 (hisI w) (hisF w) (hisI sl) (hisF sl) ik tx rd) s.heap.size = A at hD
  have hA : ∀ q : Nat, s.heap.size ≤ q → A q := fun q h => by rw [← hAe]; exact Or.inr h
  have hS : va_S A s.heap s.heap [] := va_S.rf
  have w_1 := hts (.fieldLink RX6 51 "ScannedDigitsModel" "kept" "I") (List.mem_of_getElem? (i := 1) rfl)
  have w_2 := hts (.fieldLink RX6 7 "ScannedDigitsModel" "row" "[I") (List.mem_of_getElem? (i := 2) rfl)
  have w_3 := hts (.fieldLink RX6 23 "ScannedDigitsModel" "history" "[I") (List.mem_of_getElem? (i := 3) rfl)
  have w_4 := hts (.fieldLink RX6 13 "ScannedDigitsModel" "flow" "[F") (List.mem_of_getElem? (i := 4) rfl)
  have w_5 := hts (.fieldLink RX6 26 "ScannedDigitsModel" "historyFlow" "[F") (List.mem_of_getElem? (i := 5) rfl)
  have hiX6 : ∀ w ∈ wsX60, w ∈ wsX6_undo := fun w h => (goodIn_r wsX60 [6, 7, 8, 9, 10, 11, 12, 13, 14, 15, 16, 17, 18] (by decide +kernel) (by decide +kernel) w h).1
  have hl := lv_entry ([.ref (a 0)]) (n := 2) (Nat.le_of_ble_eq_true rfl)
  rw [lg_entry_eq]
  generalize (lg_sl ([.ref (a 0)]) ++ List.replicate (2 - (lg_sl ([.ref (a 0)])).length) Slot.unset).toArray = ls at hl ⊢
  have hl : lv_has ls 2 [(0, .ref (a 0))] := hl
  refine lv_aload_n hx hb dX6_undo_0 rfl (lv_at hl 0 rfl) ?_
  refine va_get (D := D) (ci := 6) (v := .int (nI (q + 1))) (C := RX6) (T := TX6) (N := 13) hx hb hts hiX6 hown hK hP 0 rfl rfl 6 (by decide) w_1 (fun _ h9 => h9) rfl dX6_undo_1 ?_
  refine lv_if_ne (tgt := 10) hx hb dX6_undo_4 (by decide) (fun c_4 => ?_) (fun c_4 => ?_)
  · refine lv_aload_n hx hb dX6_undo_10 rfl (lv_at hl 0 rfl) ?_
    refine lv_dup hx hb dX6_undo_11 rfl ?_
    refine va_get (D := D) (ci := 6) (v := .int (nI (q + 1))) (C := RX6) (T := TX6) (N := 13) hx hb hts hiX6 hown hK hP 0 rfl rfl 6 (by decide) w_1 (fun _ h9 => h9) rfl dX6_undo_12 ?_
    refine lv_iconst (v := 1) hx hb dX6_undo_15 (by decide) ?_
    refine lv_isub hx hb dX6_undo_16 ?_
    refine lv_as (y := nI q) (nI_pred q) ?_
    refine va_put (D := D) (ci := 6) (v := .int (nI q)) (ty := .int) (C := RX6) (T := TX6) (N := 13) hx hb hts hiX6 tyX6 tyX6_ok nmX6 hown hK hP hD hS 0 rfl rfl 6 (by decide) w_1 (fun _ h9 => h9) rfl (by decide +kernel) rfl rfl (Nat.le_of_ble_eq_true rfl) dX6_undo_17 (fun H locs hP hD hS => ?_)
    have hP : va_P D vwCl (mG ct a (nI q) (nI t) (rowOf v) v.2 (rowOf u) u.2 (hisI w) (hisF w) (hisI sl) (hisF sl) ik tx rd) H := hP
    have hD : va_D A (mG ct a (nI q) (nI t) (rowOf v) v.2 (rowOf u) u.2 (hisI w) (hisF w) (hisI sl) (hisF sl) ik tx rd) := hD
    refine lv_iconst (v := 0) hx hb dX6_undo_20 (by decide) ?_
    refine lv_istore_n (lv' := [(1, .int 0), (0, .ref (a 0))]) hx hb dX6_undo_21 rfl hl (by decide) rfl (fun ls hl => ?_)
    have loop_22 : ∀ (n_22 : Nat) (i : Nat), (i ≤ 200) → (200 + 1 ≤ i + n_22) → ∀ (H : Heap) (locs : List Loc), va_P D vwCl (mG ct a (nI q) (nI t) (mo 0 (fun z => hisI w (200 * q + z)) (rowOf v) i) v.2 (rowOf u) u.2 (hisI w) (hisF w) (hisI sl) (hisF sl) ik tx rd) H → va_D A (mG ct a (nI q) (nI t) (mo 0 (fun z => hisI w (200 * q + z)) (rowOf v) i) v.2 (rowOf u) u.2 (hisI w) (hisF w) (hisI sl) (hisF sl) ik tx rd) → va_S A s.heap H locs → ∀ (ls : Array Slot), lv_has ls 2 [(1, .int (nI i)), (0, .ref (a 0))] → W p l e (headSpec wsX6_undo ({ frames := 0, cells := 0, slots := 0, locals := 0 })).room s m #[.ref (a 0)] below meth c H locs 0 0 (MQ below (muI D ct (mG ct a (nI (q + 1)) (nI t) (rowOf v) v.2 (rowOf u) u.2 (hisI w) (hisF w) (hisI sl) (hisF sl) ik tx rd) (mS ct a (w q) u w sl q t ik tx rd) s.heap.size (fun r => r = nI q)) #[.ref (a 0)] s 0 0 (A)) (F0 m 22 ls []) := by
      intro n_22
      induction n_22 with
      | zero =>
        intro i hi hn
        exact absurd hn (by omega)
      | succ n_22 ih_22 =>
        intro i hi hn H locs hP hD hS ls hl
        refine lv_iload_n hx hb dX6_undo_22 rfl (lv_at hl 0 rfl) ?_
        refine lv_sipush (v := 200) hx hb dX6_undo_23 (by decide) ?_
        refine lv_icmp_ge (tgt := 56) hx hb dX6_undo_26 (by decide) (fun c_26 => ?_) (fun c_26 => ?_)
        · have hge : 200 ≤ i := nI_le' (by omega) (by omega) c_26
          have hP : va_P D vwCl (mG ct a (nI q) (nI t) (rowOf (w q)) v.2 (rowOf u) u.2 (hisI w) (hisF w) (hisI sl) (hisF sl) ik tx rd) H := (mG_ext hP (fun j hj => (mo_in _ _ i (by omega) j hj).trans (hisI_at w hj)) (fun _ _ => rfl) (fun _ _ => rfl) (fun _ _ => rfl) (fun _ _ => rfl) (fun _ _ => rfl) (fun _ _ => rfl) (fun _ _ => rfl) (fun _ _ => rfl) (fun _ _ => rfl) (fun _ _ => rfl))
          have hD : va_D A (mG ct a (nI q) (nI t) (rowOf (w q)) v.2 (rowOf u) u.2 (hisI w) (hisF w) (hisI sl) (hisF sl) ik tx rd) := mG_dn hD
          refine lv_iconst (v := 0) hx hb dX6_undo_56 (by decide) ?_
          refine lv_istore_n (lv' := [(1, .int 0), (0, .ref (a 0))]) hx hb dX6_undo_57 rfl hl (by decide) rfl (fun ls hl => ?_)
          have loop_58 : ∀ (n_58 : Nat) (i : Nat), (i ≤ 3) → (3 + 1 ≤ i + n_58) → ∀ (H : Heap) (locs : List Loc), va_P D vwCl (mG ct a (nI q) (nI t) (rowOf (w q)) (mo 0 (fun z => hisF w (3 * q + z)) v.2 i) (rowOf u) u.2 (hisI w) (hisF w) (hisI sl) (hisF sl) ik tx rd) H → va_D A (mG ct a (nI q) (nI t) (rowOf (w q)) (mo 0 (fun z => hisF w (3 * q + z)) v.2 i) (rowOf u) u.2 (hisI w) (hisF w) (hisI sl) (hisF sl) ik tx rd) → va_S A s.heap H locs → ∀ (ls : Array Slot), lv_has ls 2 [(1, .int (nI i)), (0, .ref (a 0))] → W p l e (headSpec wsX6_undo ({ frames := 0, cells := 0, slots := 0, locals := 0 })).room s m #[.ref (a 0)] below meth c H locs 0 0 (MQ below (muI D ct (mG ct a (nI (q + 1)) (nI t) (rowOf v) v.2 (rowOf u) u.2 (hisI w) (hisF w) (hisI sl) (hisF sl) ik tx rd) (mS ct a (w q) u w sl q t ik tx rd) s.heap.size (fun r => r = nI q)) #[.ref (a 0)] s 0 0 (A)) (F0 m 58 ls []) := by
            intro n_58
            induction n_58 with
            | zero =>
              intro i hi hn
              exact absurd hn (by omega)
            | succ n_58 ih_58 =>
              intro i hi hn H locs hP hD hS ls hl
              refine lv_iload_n hx hb dX6_undo_58 rfl (lv_at hl 0 rfl) ?_
              refine lv_iconst (v := 3) hx hb dX6_undo_59 (by decide) ?_
              refine lv_icmp_ge (tgt := 88) hx hb dX6_undo_60 (by decide) (fun c_60 => ?_) (fun c_60 => ?_)
              · have hge : 3 ≤ i := nI_le' (by omega) (by omega) c_60
                refine lv_aload_n hx hb dX6_undo_88 rfl (lv_at hl 1 rfl) ?_
                refine va_get (D := D) (ci := 6) (v := .int (nI q)) (C := RX6) (T := TX6) (N := 13) hx hb hts hiX6 hown hK hP 0 rfl rfl 6 (by decide) w_1 (fun _ h9 => h9) rfl dX6_undo_89 ?_
                have hP9 : va_P D vwCl (mS ct a (w q) u w sl q t ik tx rd) H := (mG_ext hP (fun _ _ => rfl) (fun j hj => (mo_in _ _ i (by omega) j hj).trans (hisF_at w hj)) (fun _ _ => rfl) (fun _ _ => rfl) (fun _ _ => rfl) (fun _ _ => rfl) (fun _ _ => rfl) (fun _ _ => rfl) (fun _ _ => rfl) (fun _ _ => rfl) (fun _ _ => rfl))
                have hD9 : va_D A (mS ct a (w q) u w sl q t ik tx rd) := mG_dn hD
                subst hAe
                exact W.iret (v := (nI q)) hx hb hr (fun tt ht hW => ⟨⟨(nI q), (), rfl, rfl, muE.of (ct := ct) hP9 hD9 ht⟩, hS.F ht⟩) hS.2.2 dX6_undo_92
              · have hlt : i < 3 := nI_nle' (by omega) (by omega) c_60
                refine lv_aload_n hx hb dX6_undo_63 rfl (lv_at hl 1 rfl) ?_
                refine va_get (D := D) (ci := 6) (v := .ref (a 2)) (C := RX6) (T := TX6) (N := 13) hx hb hts hiX6 hown hK hP 0 rfl rfl 1 (by decide) w_4 (fun _ h9 => h9) rfl dX6_undo_64 ?_
                refine lv_iload_n hx hb dX6_undo_67 rfl (lv_at hl 0 rfl) ?_
                refine lv_aload_n hx hb dX6_undo_68 rfl (lv_at hl 1 rfl) ?_
                refine va_get (D := D) (ci := 6) (v := .ref (a 6)) (C := RX6) (T := TX6) (N := 13) hx hb hts hiX6 hown hK hP 0 rfl rfl 5 (by decide) w_5 (fun _ h9 => h9) rfl dX6_undo_69 ?_
                refine lv_iconst (v := 3) hx hb dX6_undo_72 (by decide) ?_
                refine lv_aload_n hx hb dX6_undo_73 rfl (lv_at hl 1 rfl) ?_
                refine va_get (D := D) (ci := 6) (v := .int (nI q)) (C := RX6) (T := TX6) (N := 13) hx hb hts hiX6 hown hK hP 0 rfl rfl 6 (by decide) w_1 (fun _ h9 => h9) rfl dX6_undo_74 ?_
                refine lv_imul hx hb dX6_undo_77 ?_
                refine lv_as (y := nI (3 * q)) (ix_mk 3 q 3 rfl) ?_
                refine lv_iload_n hx hb dX6_undo_78 rfl (lv_at hl 0 rfl) ?_
                refine lv_iadd hx hb dX6_undo_79 ?_
                refine lv_as (y := nI (3 * q + i)) (nI_add _ _) ?_
                refine r_fald hx hb hK hP 6 1 rfl rfl (k := (3 * q + i)) (rfl) (by omega) (by decide) dX6_undo_80 ?_
                refine r_fast hx hb hK hP hD hS 2 1 rfl rfl (k := i) (rfl) (by omega) (by decide) dX6_undo_81 (fun H locs hP hD hS => ?_)
                have hP : va_P D vwCl (mG ct a (nI q) (nI t) (rowOf (w q)) (vf_upd (mo 0 (fun z => hisF w (3 * q + z)) v.2 i) i ((hisF w) (3 * q + i))) (rowOf u) u.2 (hisI w) (hisF w) (hisI sl) (hisF sl) ik tx rd) H := hP
                have hD : va_D A (mG ct a (nI q) (nI t) (rowOf (w q)) (vf_upd (mo 0 (fun z => hisF w (3 * q + z)) v.2 i) i ((hisF w) (3 * q + i))) (rowOf u) u.2 (hisI w) (hisF w) (hisI sl) (hisF sl) ik tx rd) := hD
                refine lv_iinc (v := nI (i + 1)) (lv' := [(1, .int (nI (i + 1))), (0, .ref (a 0))]) hx hb dX6_undo_82 hl (k := 0) rfl ((nI_succ i).symm) (by decide) rfl (fun ls hl => ?_)
                refine lv_goto (tgt := 58) hx hb dX6_undo_85 (by decide) ?_
                exact ih_58 (i + 1) (by omega) (by omega) _ _ (by rw [← mo_sf0 (fun z => hisF w (3 * q + z)) v.2 i]; exact hP) (mG_dn hD) hS ls (lv_sub hl [0, 1] rfl)
          exact loop_58 (3 + 1) 0 (Nat.zero_le _) (by omega) _ _ (by rw [mo_0]; exact hP) (mG_dn hD) hS ls (lv_sub hl [0, 1] rfl)
        · have hlt : i < 200 := nI_nle' (by omega) (by omega) c_26
          refine lv_aload_n hx hb dX6_undo_29 rfl (lv_at hl 1 rfl) ?_
          refine va_get (D := D) (ci := 6) (v := .ref (a 1)) (C := RX6) (T := TX6) (N := 13) hx hb hts hiX6 hown hK hP 0 rfl rfl 0 (by decide) w_2 (fun _ h9 => h9) rfl dX6_undo_30 ?_
          refine lv_iload_n hx hb dX6_undo_33 rfl (lv_at hl 0 rfl) ?_
          refine lv_aload_n hx hb dX6_undo_34 rfl (lv_at hl 1 rfl) ?_
          refine va_get (D := D) (ci := 6) (v := .ref (a 5)) (C := RX6) (T := TX6) (N := 13) hx hb hts hiX6 hown hK hP 0 rfl rfl 4 (by decide) w_3 (fun _ h9 => h9) rfl dX6_undo_35 ?_
          refine lv_sipush (v := 200) hx hb dX6_undo_38 (by decide) ?_
          refine lv_aload_n hx hb dX6_undo_41 rfl (lv_at hl 1 rfl) ?_
          refine va_get (D := D) (ci := 6) (v := .int (nI q)) (C := RX6) (T := TX6) (N := 13) hx hb hts hiX6 hown hK hP 0 rfl rfl 6 (by decide) w_1 (fun _ h9 => h9) rfl dX6_undo_42 ?_
          refine lv_imul hx hb dX6_undo_45 ?_
          refine lv_as (y := nI (200 * q)) (ix_mk 200 q 200 rfl) ?_
          refine lv_iload_n hx hb dX6_undo_46 rfl (lv_at hl 0 rfl) ?_
          refine lv_iadd hx hb dX6_undo_47 ?_
          refine lv_as (y := nI (200 * q + i)) (nI_add _ _) ?_
          refine r_iald hx hb hK hP 5 0 rfl rfl (k := (200 * q + i)) (rfl) (by omega) (by decide) dX6_undo_48 ?_
          refine r_iast hx hb hK hP hD hS 1 0 rfl rfl (k := i) (rfl) (by omega) (by decide) dX6_undo_49 (fun H locs hP hD hS => ?_)
          have hP : va_P D vwCl (mG ct a (nI q) (nI t) (upd (mo 0 (fun z => hisI w (200 * q + z)) (rowOf v) i) i ((hisI w) (200 * q + i))) v.2 (rowOf u) u.2 (hisI w) (hisF w) (hisI sl) (hisF sl) ik tx rd) H := hP
          have hD : va_D A (mG ct a (nI q) (nI t) (upd (mo 0 (fun z => hisI w (200 * q + z)) (rowOf v) i) i ((hisI w) (200 * q + i))) v.2 (rowOf u) u.2 (hisI w) (hisF w) (hisI sl) (hisF sl) ik tx rd) := hD
          refine lv_iinc (v := nI (i + 1)) (lv' := [(1, .int (nI (i + 1))), (0, .ref (a 0))]) hx hb dX6_undo_50 hl (k := 0) rfl ((nI_succ i).symm) (by decide) rfl (fun ls hl => ?_)
          refine lv_goto (tgt := 22) hx hb dX6_undo_53 (by decide) ?_
          exact ih_22 (i + 1) (by omega) (by omega) _ _ (by rw [← mo_s0 (fun z => hisI w (200 * q + z)) (rowOf v) i]; exact hP) (mG_dn hD) hS ls (lv_sub hl [0, 1] rfl)
    exact loop_22 (200 + 1) 0 (Nat.zero_le _) (by omega) _ _ (by rw [mo_0]; exact hP) (mG_dn hD) hS ls (lv_sub hl [0, 1] rfl)
  · exact absurd c_4 (nI_ne0 (by omega) (by omega))

set_option maxHeartbeats 4000000 in
set_option maxRecDepth 100000 in
theorem k_X6_keep_e1 (l : Launch) (D : va_G) (ct : Nat → ClassId) (a : Nat → Nat) (v u : SV) (w sl : Nat → SV) (k t : Nat) (hk : k ≤ 5) (ik tx rd : Nat → Int32) (x : Int32) (hin : pIn x 0 1 = 0) : Met l yX6_keep wsX6_keep ({ frames := 1, cells := 0, slots := 0, locals := 22 }) (roP D ct (mG ct a (nI k) (nI t) (rowOf v) v.2 (rowOf u) u.2 (hisI w) (hisF w) (hisI sl) (hisF sl) ik tx rd) [.ref (a 0), .int x]) (vp_Si (fun r => r = -1)) 0 0 noA := by
  refine Met.ofW (cc := cX6_keep) (maxL := 3) (ret := (some .int)) (by decide) rfl ?_
  intro p e s m args below meth c s₁ B hml hv
  obtain ⟨rfl, hP, hK, hN⟩ := hv
  have hx := B.exec
  have hb := B.bytes
  have hr := B.returns
  have hts := atoms_spec (ws := wsX6_keep) B.pre
  have hown : s.vm.findClass RX6 = some m.cls := findClass_of_methodNamed B.named
  have hlocks := B.notSynchronized
  have hl := lv_entry ([.ref (a 0), .int x]) (n := 3) (Nat.le_of_ble_eq_true rfl)
  rw [lg_entry_eq]
  generalize (lg_sl ([.ref (a 0), .int x]) ++ List.replicate (3 - (lg_sl ([.ref (a 0), .int x])).length) Slot.unset).toArray = ls at hl ⊢
  have hl : lv_has ls 3 [(0, .ref (a 0)), (1, .int x)] := hl
  refine lv_iload_n hx hb dX6_keep_0 rfl (lv_at hl 1 rfl) ?_
  refine lv_iconst (v := 0) hx hb dX6_keep_1 (by decide) ?_
  refine lv_iconst (v := 1) hx hb dX6_keep_2 (by decide) ?_
  refine vp_callSi (va_runS (As := [.int x, .int 0, .int 1]) (rest := []) ⟨hx, hb, hml, hown, hts⟩ (k_X6_in l D ct x 0 1) (va_cwS 3 hts gX6_keep_X6_in rfl rfl rfl (by decide +kernel) ⟨Nat.le_of_ble_eq_true rfl, Nat.le_of_ble_eq_true rfl⟩) ⟨roP.blind, roP.at pw_nil hK hN⟩ rfl rfl hl.1 rfl (lv_room (Nat.le_of_ble_eq_true rfl)) dX6_keep_3 ⟨Nat.le_of_ble_eq_true rfl, Nat.le_of_ble_eq_true rfl⟩).run (fun r_3 h_3 => ?_)
  obtain rfl : r_3 = pIn x 0 1 := h_3
  refine lv_if_ne (tgt := 11) hx hb dX6_keep_6 (by decide) (fun c_6 => ?_) (fun c_6 => ?_)
  · exact absurd hin c_6
  · refine lv_iconst (v := (-1)) hx hb dX6_keep_9 (by decide) ?_
    exact W.iret (v := (-1)) hx hb hr (fun tt ht hW => ⟨(-1), rfl, rfl, ht⟩) (fun q hq => absurd hq List.not_mem_nil) dX6_keep_10

set_option maxHeartbeats 4000000 in
set_option maxRecDepth 100000 in
theorem k_X6_restore_e1 (l : Launch) (D : va_G) (ct : Nat → ClassId) (a : Nat → Nat) (v u : SV) (w sl : Nat → SV) (k t : Nat) (hk : k ≤ 5) (ik tx rd : Nat → Int32) (x : Int32) (hin : pIn x 0 1 = 0) : Met l yX6_restore wsX6_restore ({ frames := 1, cells := 0, slots := 0, locals := 22 }) (roP D ct (mG ct a (nI k) (nI t) (rowOf v) v.2 (rowOf u) u.2 (hisI w) (hisF w) (hisI sl) (hisF sl) ik tx rd) [.ref (a 0), .int x]) (vp_Si (fun r => r = -1)) 0 0 noA := by
  refine Met.ofW (cc := cX6_restore) (maxL := 3) (ret := (some .int)) (by decide) rfl ?_
  intro p e s m args below meth c s₁ B hml hv
  obtain ⟨rfl, hP, hK, hN⟩ := hv
  have hx := B.exec
  have hb := B.bytes
  have hr := B.returns
  have hts := atoms_spec (ws := wsX6_restore) B.pre
  have hown : s.vm.findClass RX6 = some m.cls := findClass_of_methodNamed B.named
  have hlocks := B.notSynchronized
  have hl := lv_entry ([.ref (a 0), .int x]) (n := 3) (Nat.le_of_ble_eq_true rfl)
  rw [lg_entry_eq]
  generalize (lg_sl ([.ref (a 0), .int x]) ++ List.replicate (3 - (lg_sl ([.ref (a 0), .int x])).length) Slot.unset).toArray = ls at hl ⊢
  have hl : lv_has ls 3 [(0, .ref (a 0)), (1, .int x)] := hl
  refine lv_iload_n hx hb dX6_restore_0 rfl (lv_at hl 1 rfl) ?_
  refine lv_iconst (v := 0) hx hb dX6_restore_1 (by decide) ?_
  refine lv_iconst (v := 1) hx hb dX6_restore_2 (by decide) ?_
  refine vp_callSi (va_runS (As := [.int x, .int 0, .int 1]) (rest := []) ⟨hx, hb, hml, hown, hts⟩ (k_X6_in l D ct x 0 1) (va_cwS 3 hts gX6_restore_X6_in rfl rfl rfl (by decide +kernel) ⟨Nat.le_of_ble_eq_true rfl, Nat.le_of_ble_eq_true rfl⟩) ⟨roP.blind, roP.at pw_nil hK hN⟩ rfl rfl hl.1 rfl (lv_room (Nat.le_of_ble_eq_true rfl)) dX6_restore_3 ⟨Nat.le_of_ble_eq_true rfl, Nat.le_of_ble_eq_true rfl⟩).run (fun r_3 h_3 => ?_)
  obtain rfl : r_3 = pIn x 0 1 := h_3
  refine lv_if_ne (tgt := 11) hx hb dX6_restore_6 (by decide) (fun c_6 => ?_) (fun c_6 => ?_)
  · exact absurd hin c_6
  · refine lv_iconst (v := (-1)) hx hb dX6_restore_9 (by decide) ?_
    exact W.iret (v := (-1)) hx hb hr (fun tt ht hW => ⟨(-1), rfl, rfl, ht⟩) (fun q hq => absurd hq List.not_mem_nil) dX6_restore_10

set_option maxHeartbeats 4000000 in
set_option maxRecDepth 100000 in
theorem k_X6_keep_ok (l : Launch) (D : va_G) (ct : Nat → ClassId) (sz : Nat) (a : Nat → Nat) (v u : SV) (w sl : Nat → SV) (k t : Nat) (hk : k ≤ 5) (ik tx rd : Nat → Int32) (j : Nat) (hj : j < 2) : Met l yX6_keep wsX6_keep ({ frames := 1, cells := 0, slots := 0, locals := 22 }) (muP D ct (mG ct a (nI k) (nI t) (rowOf v) v.2 (rowOf u) u.2 (hisI w) (hisF w) (hisI sl) (hisF sl) ik tx rd) sz [.ref (a 0), .int (nI j)]) (muI D ct (mG ct a (nI k) (nI t) (rowOf v) v.2 (rowOf u) u.2 (hisI w) (hisF w) (hisI sl) (hisF sl) ik tx rd) (mS ct a v u w (va_up sl j v) k t (upd ik j 1) tx rd) sz (fun r => r = v.1 0 1)) 0 0 (va_A (mG ct a (nI k) (nI t) (rowOf v) v.2 (rowOf u) u.2 (hisI w) (hisF w) (hisI sl) (hisF sl) ik tx rd) sz) := by
  refine Met.ofW (cc := cX6_keep) (maxL := 3) (ret := (some .int)) (by decide) rfl ?_
  intro p e s m args below meth c s₁ B hml hv
  obtain ⟨rfl, hsz, hP, hK, hN, hD0⟩ := hv
  have hx := B.exec
  have hb := B.bytes
  have hr := B.returns
  have hts := atoms_spec (ws := wsX6_keep) B.pre
  have hown : s.vm.findClass RX6 = some m.cls := findClass_of_methodNamed B.named
  have hlocks := B.notSynchronized
  subst hsz
  have hD := hD0.self (sz := s.heap.size)
  generalize hAe : va_A (mG ct a (nI k) (nI t) (rowOf v) v.2 (rowOf u) u.2 (hisI w) (hisF w) (hisI sl) (hisF sl) ik tx rd) s.heap.size = A at hD
  have hA : ∀ q : Nat, s.heap.size ≤ q → A q := fun q h => by rw [← hAe]; exact Or.inr h
  have hS : va_S A s.heap s.heap [] := va_S.rf
  have w_1 := hts (.fieldLink RX6 35 "ScannedDigitsModel" "isKept" "[Z") (List.mem_of_getElem? (i := 1) rfl)
  have w_2 := hts (.fieldLink RX6 29 "ScannedDigitsModel" "slots" "[I") (List.mem_of_getElem? (i := 2) rfl)
  have w_3 := hts (.fieldLink RX6 7 "ScannedDigitsModel" "row" "[I") (List.mem_of_getElem? (i := 3) rfl)
  have w_4 := hts (.fieldLink RX6 32 "ScannedDigitsModel" "slotFlow" "[F") (List.mem_of_getElem? (i := 4) rfl)
  have w_5 := hts (.fieldLink RX6 13 "ScannedDigitsModel" "flow" "[F") (List.mem_of_getElem? (i := 5) rfl)
  have hiX6 : ∀ w ∈ wsX60, w ∈ wsX6_keep := fun w h => (goodIn_r wsX60 [10, 11, 12, 13, 14, 15, 16, 17, 18, 19, 20, 21, 22] (by decide +kernel) (by decide +kernel) w h).1
  have hl := lv_entry ([.ref (a 0), .int (nI j)]) (n := 3) (Nat.le_of_ble_eq_true rfl)
  rw [lg_entry_eq]
  generalize (lg_sl ([.ref (a 0), .int (nI j)]) ++ List.replicate (3 - (lg_sl ([.ref (a 0), .int (nI j)])).length) Slot.unset).toArray = ls at hl ⊢
  have hl : lv_has ls 3 [(0, .ref (a 0)), (1, .int (nI j))] := hl
  have hin : ¬ pIn (nI j) 0 1 = 0 := pIn_ok (a := 0) (b := 1) rfl rfl (Nat.zero_le _) (by omega) (by decide)
  refine lv_iload_n hx hb dX6_keep_0 rfl (lv_at hl 1 rfl) ?_
  refine lv_iconst (v := 0) hx hb dX6_keep_1 (by decide) ?_
  refine lv_iconst (v := 1) hx hb dX6_keep_2 (by decide) ?_
  refine vp_callSi (va_runS (As := [.int (nI j), .int 0, .int 1]) (rest := []) ⟨hx, hb, hml, hown, hts⟩ (k_X6_in l D ct (nI j) 0 1) (va_cwS 3 hts gX6_keep_X6_in rfl rfl rfl (by decide +kernel) ⟨Nat.le_of_ble_eq_true rfl, Nat.le_of_ble_eq_true rfl⟩) ⟨roP.blind, roP.at pw_nil hK hN⟩ rfl rfl hl.1 rfl (lv_room (Nat.le_of_ble_eq_true rfl)) dX6_keep_3 ⟨Nat.le_of_ble_eq_true rfl, Nat.le_of_ble_eq_true rfl⟩).run (fun r_3 h_3 => ?_)
  obtain rfl : r_3 = pIn (nI j) 0 1 := h_3
  refine lv_if_ne (tgt := 11) hx hb dX6_keep_6 (by decide) (fun c_6 => ?_) (fun c_6 => ?_)
  · refine lv_aload_n hx hb dX6_keep_11 rfl (lv_at hl 0 rfl) ?_
    refine va_get (D := D) (ci := 6) (v := .ref (a 9)) (C := RX6) (T := TX6) (N := 13) hx hb hts hiX6 hown hK hP 0 rfl rfl 9 (by decide) w_1 (fun _ h9 => h9) rfl dX6_keep_12 ?_
    refine lv_iload_n hx hb dX6_keep_15 rfl (lv_at hl 1 rfl) ?_
    refine lv_iconst (v := 1) hx hb dX6_keep_16 (by decide) ?_
    refine r_zast hx hb hK hP hD hS 9 3 rfl rfl (k := j) (rfl) (by omega) (by decide) (rfl) dX6_keep_17 (fun H locs hP hD hS => ?_)
    have hP : va_P D vwCl (mG ct a (nI k) (nI t) (rowOf v) v.2 (rowOf u) u.2 (hisI w) (hisF w) (hisI sl) (hisF sl) (upd ik j 1) tx rd) H := hP
    have hD : va_D A (mG ct a (nI k) (nI t) (rowOf v) v.2 (rowOf u) u.2 (hisI w) (hisF w) (hisI sl) (hisF sl) (upd ik j 1) tx rd) := hD
    refine lv_iconst (v := 0) hx hb dX6_keep_18 (by decide) ?_
    refine lv_istore_n (lv' := [(2, .int 0), (0, .ref (a 0)), (1, .int (nI j))]) hx hb dX6_keep_19 rfl hl (by decide) rfl (fun ls hl => ?_)
    have loop_20 : ∀ (n_20 : Nat) (i : Nat), (i ≤ 200) → (200 + 1 ≤ i + n_20) → ∀ (H : Heap) (locs : List Loc), va_P D vwCl (mG ct a (nI k) (nI t) (rowOf v) v.2 (rowOf u) u.2 (hisI w) (hisF w) (mo (200 * j) (rowOf v) (hisI sl) i) (hisF sl) (upd ik j 1) tx rd) H → va_D A (mG ct a (nI k) (nI t) (rowOf v) v.2 (rowOf u) u.2 (hisI w) (hisF w) (mo (200 * j) (rowOf v) (hisI sl) i) (hisF sl) (upd ik j 1) tx rd) → va_S A s.heap H locs → ∀ (ls : Array Slot), lv_has ls 3 [(2, .int (nI i)), (0, .ref (a 0)), (1, .int (nI j))] → W p l e (headSpec wsX6_keep ({ frames := 1, cells := 0, slots := 0, locals := 22 })).room s m #[.ref (a 0), .int (nI j)] below meth c H locs 0 0 (MQ below (muI D ct (mG ct a (nI k) (nI t) (rowOf v) v.2 (rowOf u) u.2 (hisI w) (hisF w) (hisI sl) (hisF sl) ik tx rd) (mS ct a v u w (va_up sl j v) k t (upd ik j 1) tx rd) s.heap.size (fun r => r = v.1 0 1)) #[.ref (a 0), .int (nI j)] s 0 0 (A)) (F0 m 20 ls []) := by
      intro n_20
      induction n_20 with
      | zero =>
        intro i hi hn
        exact absurd hn (by omega)
      | succ n_20 ih_20 =>
        intro i hi hn H locs hP hD hS ls hl
        refine lv_iload_n hx hb dX6_keep_20 rfl (lv_at hl 0 rfl) ?_
        refine lv_sipush (v := 200) hx hb dX6_keep_21 (by decide) ?_
        refine lv_icmp_ge (tgt := 51) hx hb dX6_keep_24 (by decide) (fun c_24 => ?_) (fun c_24 => ?_)
        · have hge : 200 ≤ i := nI_le' (by omega) (by omega) c_24
          have hP : va_P D vwCl (mG ct a (nI k) (nI t) (rowOf v) v.2 (rowOf u) u.2 (hisI w) (hisF w) (hisI (va_up sl j v)) (hisF sl) (upd ik j 1) tx rd) H := (mG_ext hP (fun _ _ => rfl) (fun _ _ => rfl) (fun _ _ => rfl) (fun _ _ => rfl) (fun _ _ => rfl) (fun _ _ => rfl) (fun z _ => by rw [show i = 200 by omega]; exact hisI_put sl j v z) (fun _ _ => rfl) (fun _ _ => rfl) (fun _ _ => rfl) (fun _ _ => rfl))
          have hD : va_D A (mG ct a (nI k) (nI t) (rowOf v) v.2 (rowOf u) u.2 (hisI w) (hisF w) (hisI (va_up sl j v)) (hisF sl) (upd ik j 1) tx rd) := mG_dn hD
          refine lv_iconst (v := 0) hx hb dX6_keep_51 (by decide) ?_
          refine lv_istore_n (lv' := [(2, .int 0), (0, .ref (a 0)), (1, .int (nI j))]) hx hb dX6_keep_52 rfl hl (by decide) rfl (fun ls hl => ?_)
          have loop_53 : ∀ (n_53 : Nat) (i : Nat), (i ≤ 3) → (3 + 1 ≤ i + n_53) → ∀ (H : Heap) (locs : List Loc), va_P D vwCl (mG ct a (nI k) (nI t) (rowOf v) v.2 (rowOf u) u.2 (hisI w) (hisF w) (hisI (va_up sl j v)) (mo (3 * j) v.2 (hisF sl) i) (upd ik j 1) tx rd) H → va_D A (mG ct a (nI k) (nI t) (rowOf v) v.2 (rowOf u) u.2 (hisI w) (hisF w) (hisI (va_up sl j v)) (mo (3 * j) v.2 (hisF sl) i) (upd ik j 1) tx rd) → va_S A s.heap H locs → ∀ (ls : Array Slot), lv_has ls 3 [(2, .int (nI i)), (0, .ref (a 0)), (1, .int (nI j))] → W p l e (headSpec wsX6_keep ({ frames := 1, cells := 0, slots := 0, locals := 22 })).room s m #[.ref (a 0), .int (nI j)] below meth c H locs 0 0 (MQ below (muI D ct (mG ct a (nI k) (nI t) (rowOf v) v.2 (rowOf u) u.2 (hisI w) (hisF w) (hisI sl) (hisF sl) ik tx rd) (mS ct a v u w (va_up sl j v) k t (upd ik j 1) tx rd) s.heap.size (fun r => r = v.1 0 1)) #[.ref (a 0), .int (nI j)] s 0 0 (A)) (F0 m 53 ls []) := by
            intro n_53
            induction n_53 with
            | zero =>
              intro i hi hn
              exact absurd hn (by omega)
            | succ n_53 ih_53 =>
              intro i hi hn H locs hP hD hS ls hl
              refine lv_iload_n hx hb dX6_keep_53 rfl (lv_at hl 0 rfl) ?_
              refine lv_iconst (v := 3) hx hb dX6_keep_54 (by decide) ?_
              refine lv_icmp_ge (tgt := 80) hx hb dX6_keep_55 (by decide) (fun c_55 => ?_) (fun c_55 => ?_)
              · have hge : 3 ≤ i := nI_le' (by omega) (by omega) c_55
                refine lv_aload_n hx hb dX6_keep_80 rfl (lv_at hl 1 rfl) ?_
                refine va_get (D := D) (ci := 6) (v := .ref (a 1)) (C := RX6) (T := TX6) (N := 13) hx hb hts hiX6 hown hK hP 0 rfl rfl 0 (by decide) w_3 (fun _ h9 => h9) rfl dX6_keep_81 ?_
                refine lv_iconst (v := 1) hx hb dX6_keep_84 (by decide) ?_
                refine r_iald hx hb hK hP 1 0 rfl rfl (k := 1) (rfl) (by decide) (by decide) dX6_keep_85 ?_
                refine lv_as (y := v.1 0 1) (row_0 v (by decide)) ?_
                have hP9 : va_P D vwCl (mS ct a v u w (va_up sl j v) k t (upd ik j 1) tx rd) H := (mG_ext hP (fun _ _ => rfl) (fun _ _ => rfl) (fun _ _ => rfl) (fun _ _ => rfl) (fun _ _ => rfl) (fun _ _ => rfl) (fun _ _ => rfl) (fun z _ => by rw [show i = 3 by omega]; exact hisF_put sl j v z) (fun _ _ => rfl) (fun _ _ => rfl) (fun _ _ => rfl))
                have hD9 : va_D A (mS ct a v u w (va_up sl j v) k t (upd ik j 1) tx rd) := mG_dn hD
                subst hAe
                exact W.iret (v := (v.1 0 1)) hx hb hr (fun tt ht hW => ⟨⟨(v.1 0 1), (), rfl, rfl, muE.of (ct := ct) hP9 hD9 ht⟩, hS.F ht⟩) hS.2.2 dX6_keep_86
              · have hlt : i < 3 := nI_nle' (by omega) (by omega) c_55
                refine lv_aload_n hx hb dX6_keep_58 rfl (lv_at hl 1 rfl) ?_
                refine va_get (D := D) (ci := 6) (v := .ref (a 8)) (C := RX6) (T := TX6) (N := 13) hx hb hts hiX6 hown hK hP 0 rfl rfl 8 (by decide) w_4 (fun _ h9 => h9) rfl dX6_keep_59 ?_
                refine lv_iconst (v := 3) hx hb dX6_keep_62 (by decide) ?_
                refine lv_iload_n hx hb dX6_keep_63 rfl (lv_at hl 2 rfl) ?_
                refine lv_imul hx hb dX6_keep_64 ?_
                refine lv_as (y := nI (3 * j)) (ix_mk 3 j 3 rfl) ?_
                refine lv_iload_n hx hb dX6_keep_65 rfl (lv_at hl 0 rfl) ?_
                refine lv_iadd hx hb dX6_keep_66 ?_
                refine lv_as (y := nI (3 * j + i)) (nI_add _ _) ?_
                refine lv_aload_n hx hb dX6_keep_67 rfl (lv_at hl 1 rfl) ?_
                refine va_get (D := D) (ci := 6) (v := .ref (a 2)) (C := RX6) (T := TX6) (N := 13) hx hb hts hiX6 hown hK hP 0 rfl rfl 1 (by decide) w_5 (fun _ h9 => h9) rfl dX6_keep_68 ?_
                refine lv_iload_n hx hb dX6_keep_71 rfl (lv_at hl 0 rfl) ?_
                refine r_fald hx hb hK hP 2 1 rfl rfl (k := i) (rfl) (by omega) (by decide) dX6_keep_72 ?_
                refine r_fast hx hb hK hP hD hS 8 1 rfl rfl (k := (3 * j + i)) (rfl) (by omega) (by decide) dX6_keep_73 (fun H locs hP hD hS => ?_)
                have hP : va_P D vwCl (mG ct a (nI k) (nI t) (rowOf v) v.2 (rowOf u) u.2 (hisI w) (hisF w) (hisI (va_up sl j v)) (vf_upd (mo (3 * j) v.2 (hisF sl) i) (3 * j + i) (v.2 i)) (upd ik j 1) tx rd) H := hP
                have hD : va_D A (mG ct a (nI k) (nI t) (rowOf v) v.2 (rowOf u) u.2 (hisI w) (hisF w) (hisI (va_up sl j v)) (vf_upd (mo (3 * j) v.2 (hisF sl) i) (3 * j + i) (v.2 i)) (upd ik j 1) tx rd) := hD
                refine lv_iinc (v := nI (i + 1)) (lv' := [(2, .int (nI (i + 1))), (0, .ref (a 0)), (1, .int (nI j))]) hx hb dX6_keep_74 hl (k := 0) rfl ((nI_succ i).symm) (by decide) rfl (fun ls hl => ?_)
                refine lv_goto (tgt := 53) hx hb dX6_keep_77 (by decide) ?_
                exact ih_53 (i + 1) (by omega) (by omega) _ _ (by rw [← mo_sf (3 * j) v.2 (hisF sl) i]; exact hP) (mG_dn hD) hS ls (lv_sub hl [0, 1, 2] rfl)
          exact loop_53 (3 + 1) 0 (Nat.zero_le _) (by omega) _ _ (by rw [mo_0]; exact hP) (mG_dn hD) hS ls (lv_sub hl [0, 1, 2] rfl)
        · have hlt : i < 200 := nI_nle' (by omega) (by omega) c_24
          refine lv_aload_n hx hb dX6_keep_27 rfl (lv_at hl 1 rfl) ?_
          refine va_get (D := D) (ci := 6) (v := .ref (a 7)) (C := RX6) (T := TX6) (N := 13) hx hb hts hiX6 hown hK hP 0 rfl rfl 7 (by decide) w_2 (fun _ h9 => h9) rfl dX6_keep_28 ?_
          refine lv_sipush (v := 200) hx hb dX6_keep_31 (by decide) ?_
          refine lv_iload_n hx hb dX6_keep_34 rfl (lv_at hl 2 rfl) ?_
          refine lv_imul hx hb dX6_keep_35 ?_
          refine lv_as (y := nI (200 * j)) (ix_mk 200 j 200 rfl) ?_
          refine lv_iload_n hx hb dX6_keep_36 rfl (lv_at hl 0 rfl) ?_
          refine lv_iadd hx hb dX6_keep_37 ?_
          refine lv_as (y := nI (200 * j + i)) (nI_add _ _) ?_
          refine lv_aload_n hx hb dX6_keep_38 rfl (lv_at hl 1 rfl) ?_
          refine va_get (D := D) (ci := 6) (v := .ref (a 1)) (C := RX6) (T := TX6) (N := 13) hx hb hts hiX6 hown hK hP 0 rfl rfl 0 (by decide) w_3 (fun _ h9 => h9) rfl dX6_keep_39 ?_
          refine lv_iload_n hx hb dX6_keep_42 rfl (lv_at hl 0 rfl) ?_
          refine r_iald hx hb hK hP 1 0 rfl rfl (k := i) (rfl) (by omega) (by decide) dX6_keep_43 ?_
          refine r_iast hx hb hK hP hD hS 7 0 rfl rfl (k := (200 * j + i)) (rfl) (by omega) (by decide) dX6_keep_44 (fun H locs hP hD hS => ?_)
          have hP : va_P D vwCl (mG ct a (nI k) (nI t) (rowOf v) v.2 (rowOf u) u.2 (hisI w) (hisF w) (upd (mo (200 * j) (rowOf v) (hisI sl) i) (200 * j + i) ((rowOf v) i)) (hisF sl) (upd ik j 1) tx rd) H := hP
          have hD : va_D A (mG ct a (nI k) (nI t) (rowOf v) v.2 (rowOf u) u.2 (hisI w) (hisF w) (upd (mo (200 * j) (rowOf v) (hisI sl) i) (200 * j + i) ((rowOf v) i)) (hisF sl) (upd ik j 1) tx rd) := hD
          refine lv_iinc (v := nI (i + 1)) (lv' := [(2, .int (nI (i + 1))), (0, .ref (a 0)), (1, .int (nI j))]) hx hb dX6_keep_45 hl (k := 0) rfl ((nI_succ i).symm) (by decide) rfl (fun ls hl => ?_)
          refine lv_goto (tgt := 20) hx hb dX6_keep_48 (by decide) ?_
          exact ih_20 (i + 1) (by omega) (by omega) _ _ (by rw [← mo_s (200 * j) (rowOf v) (hisI sl) i]; exact hP) (mG_dn hD) hS ls (lv_sub hl [0, 1, 2] rfl)
    exact loop_20 (200 + 1) 0 (Nat.zero_le _) (by omega) _ _ (by rw [mo_0]; exact hP) (mG_dn hD) hS ls (lv_sub hl [0, 1, 2] rfl)
  · exact absurd c_6 hin

set_option maxHeartbeats 4000000 in
set_option maxRecDepth 100000 in
theorem k_X6_restore_e2 (l : Launch) (D : va_G) (ct : Nat → ClassId) (a : Nat → Nat) (v u : SV) (w sl : Nat → SV) (k t : Nat) (hk : k ≤ 5) (ik tx rd : Nat → Int32) (j : Nat) (hj : j < 2) (hz : ik j = 0) : Met l yX6_restore wsX6_restore ({ frames := 1, cells := 0, slots := 0, locals := 22 }) (roP D ct (mG ct a (nI k) (nI t) (rowOf v) v.2 (rowOf u) u.2 (hisI w) (hisF w) (hisI sl) (hisF sl) ik tx rd) [.ref (a 0), .int (nI j)]) (vp_Si (fun r => r = -4)) 0 0 noA := by
  refine Met.ofW (cc := cX6_restore) (maxL := 3) (ret := (some .int)) (by decide) rfl ?_
  intro p e s m args below meth c s₁ B hml hv
  obtain ⟨rfl, hP, hK, hN⟩ := hv
  have hx := B.exec
  have hb := B.bytes
  have hr := B.returns
  have hts := atoms_spec (ws := wsX6_restore) B.pre
  have hown : s.vm.findClass RX6 = some m.cls := findClass_of_methodNamed B.named
  have hlocks := B.notSynchronized
  have w_1 := hts (.fieldLink RX6 35 "ScannedDigitsModel" "isKept" "[Z") (List.mem_of_getElem? (i := 1) rfl)
  have hiX6 : ∀ w ∈ wsX60, w ∈ wsX6_restore := fun w h => (goodIn_r wsX60 [23, 24, 25, 26, 27, 28, 29, 30, 31, 32, 33, 34, 35] (by decide +kernel) (by decide +kernel) w h).1
  have hl := lv_entry ([.ref (a 0), .int (nI j)]) (n := 3) (Nat.le_of_ble_eq_true rfl)
  rw [lg_entry_eq]
  generalize (lg_sl ([.ref (a 0), .int (nI j)]) ++ List.replicate (3 - (lg_sl ([.ref (a 0), .int (nI j)])).length) Slot.unset).toArray = ls at hl ⊢
  have hl : lv_has ls 3 [(0, .ref (a 0)), (1, .int (nI j))] := hl
  have hin : ¬ pIn (nI j) 0 1 = 0 := pIn_ok (a := 0) (b := 1) rfl rfl (Nat.zero_le _) (by omega) (by decide)
  refine lv_iload_n hx hb dX6_restore_0 rfl (lv_at hl 1 rfl) ?_
  refine lv_iconst (v := 0) hx hb dX6_restore_1 (by decide) ?_
  refine lv_iconst (v := 1) hx hb dX6_restore_2 (by decide) ?_
  refine vp_callSi (va_runS (As := [.int (nI j), .int 0, .int 1]) (rest := []) ⟨hx, hb, hml, hown, hts⟩ (k_X6_in l D ct (nI j) 0 1) (va_cwS 3 hts gX6_restore_X6_in rfl rfl rfl (by decide +kernel) ⟨Nat.le_of_ble_eq_true rfl, Nat.le_of_ble_eq_true rfl⟩) ⟨roP.blind, roP.at pw_nil hK hN⟩ rfl rfl hl.1 rfl (lv_room (Nat.le_of_ble_eq_true rfl)) dX6_restore_3 ⟨Nat.le_of_ble_eq_true rfl, Nat.le_of_ble_eq_true rfl⟩).run (fun r_3 h_3 => ?_)
  obtain rfl : r_3 = pIn (nI j) 0 1 := h_3
  refine lv_if_ne (tgt := 11) hx hb dX6_restore_6 (by decide) (fun c_6 => ?_) (fun c_6 => ?_)
  · refine lv_aload_n hx hb dX6_restore_11 rfl (lv_at hl 0 rfl) ?_
    refine va_get (D := D) (ci := 6) (v := .ref (a 9)) (C := RX6) (T := TX6) (N := 13) hx hb hts hiX6 hown hK hP 0 rfl rfl 9 (by decide) w_1 (fun _ h9 => h9) rfl dX6_restore_12 ?_
    refine lv_iload_n hx hb dX6_restore_15 rfl (lv_at hl 1 rfl) ?_
    refine r_zald hx hb hK hP 9 3 rfl rfl (k := j) (rfl) (by omega) (by decide) dX6_restore_16 ?_
    refine lv_if_ne (tgt := 23) hx hb dX6_restore_17 (by decide) (fun c_17 => ?_) (fun c_17 => ?_)
    · exact absurd hz c_17
    · refine lv_bipush (v := (-4)) hx hb dX6_restore_20 (by decide) ?_
      exact W.iret (v := (-4)) hx hb hr (fun tt ht hW => ⟨(-4), rfl, rfl, ht⟩) (fun q hq => absurd hq List.not_mem_nil) dX6_restore_22
  · exact absurd c_6 hin

set_option maxHeartbeats 4000000 in
set_option maxRecDepth 100000 in
theorem k_X6_restore_ok (l : Launch) (D : va_G) (ct : Nat → ClassId) (sz : Nat) (a : Nat → Nat) (v u : SV) (w sl : Nat → SV) (k t : Nat) (hk : k ≤ 5) (ik tx rd : Nat → Int32) (j : Nat) (hj : j < 2) (hz : ¬ ik j = 0) : Met l yX6_restore wsX6_restore ({ frames := 1, cells := 0, slots := 0, locals := 22 }) (muP D ct (mG ct a (nI k) (nI t) (rowOf v) v.2 (rowOf u) u.2 (hisI w) (hisF w) (hisI sl) (hisF sl) ik tx rd) sz [.ref (a 0), .int (nI j)]) (muI D ct (mG ct a (nI k) (nI t) (rowOf v) v.2 (rowOf u) u.2 (hisI w) (hisF w) (hisI sl) (hisF sl) ik tx rd) (mS ct a (sl j) v (hPush w k v) sl (kPush k) t ik tx rd) sz (fun r => r = (sl j).1 0 1)) 0 0 (va_A (mG ct a (nI k) (nI t) (rowOf v) v.2 (rowOf u) u.2 (hisI w) (hisF w) (hisI sl) (hisF sl) ik tx rd) sz) := by
  refine Met.ofW (cc := cX6_restore) (maxL := 3) (ret := (some .int)) (by decide) rfl ?_
  intro p e s m args below meth c s₁ B hml hv
  obtain ⟨rfl, hsz, hP, hK, hN, hD0⟩ := hv
  have hx := B.exec
  have hb := B.bytes
  have hr := B.returns
  have hts := atoms_spec (ws := wsX6_restore) B.pre
  have hown : s.vm.findClass RX6 = some m.cls := findClass_of_methodNamed B.named
  have hlocks := B.notSynchronized
  subst hsz
  have hD := hD0.self (sz := s.heap.size)
  generalize hAe : va_A (mG ct a (nI k) (nI t) (rowOf v) v.2 (rowOf u) u.2 (hisI w) (hisF w) (hisI sl) (hisF sl) ik tx rd) s.heap.size = A at hD
  have hA : ∀ q : Nat, s.heap.size ≤ q → A q := fun q h => by rw [← hAe]; exact Or.inr h
  have hS : va_S A s.heap s.heap [] := va_S.rf
  have w_1 := hts (.fieldLink RX6 35 "ScannedDigitsModel" "isKept" "[Z") (List.mem_of_getElem? (i := 1) rfl)
  have w_2 := hts (.fieldLink RX6 7 "ScannedDigitsModel" "row" "[I") (List.mem_of_getElem? (i := 2) rfl)
  have w_3 := hts (.fieldLink RX6 29 "ScannedDigitsModel" "slots" "[I") (List.mem_of_getElem? (i := 3) rfl)
  have w_4 := hts (.fieldLink RX6 13 "ScannedDigitsModel" "flow" "[F") (List.mem_of_getElem? (i := 4) rfl)
  have w_5 := hts (.fieldLink RX6 32 "ScannedDigitsModel" "slotFlow" "[F") (List.mem_of_getElem? (i := 5) rfl)
  have hiX6 : ∀ w ∈ wsX60, w ∈ wsX6_restore := fun w h => (goodIn_r wsX60 [23, 24, 25, 26, 27, 28, 29, 30, 31, 32, 33, 34, 35] (by decide +kernel) (by decide +kernel) w h).1
  have hl := lv_entry ([.ref (a 0), .int (nI j)]) (n := 3) (Nat.le_of_ble_eq_true rfl)
  rw [lg_entry_eq]
  generalize (lg_sl ([.ref (a 0), .int (nI j)]) ++ List.replicate (3 - (lg_sl ([.ref (a 0), .int (nI j)])).length) Slot.unset).toArray = ls at hl ⊢
  have hl : lv_has ls 3 [(0, .ref (a 0)), (1, .int (nI j))] := hl
  have hin : ¬ pIn (nI j) 0 1 = 0 := pIn_ok (a := 0) (b := 1) rfl rfl (Nat.zero_le _) (by omega) (by decide)
  refine lv_iload_n hx hb dX6_restore_0 rfl (lv_at hl 1 rfl) ?_
  refine lv_iconst (v := 0) hx hb dX6_restore_1 (by decide) ?_
  refine lv_iconst (v := 1) hx hb dX6_restore_2 (by decide) ?_
  refine vp_callSi (va_runS (As := [.int (nI j), .int 0, .int 1]) (rest := []) ⟨hx, hb, hml, hown, hts⟩ (k_X6_in l D ct (nI j) 0 1) (va_cwS 3 hts gX6_restore_X6_in rfl rfl rfl (by decide +kernel) ⟨Nat.le_of_ble_eq_true rfl, Nat.le_of_ble_eq_true rfl⟩) ⟨roP.blind, roP.at pw_nil hK hN⟩ rfl rfl hl.1 rfl (lv_room (Nat.le_of_ble_eq_true rfl)) dX6_restore_3 ⟨Nat.le_of_ble_eq_true rfl, Nat.le_of_ble_eq_true rfl⟩).run (fun r_3 h_3 => ?_)
  obtain rfl : r_3 = pIn (nI j) 0 1 := h_3
  refine lv_if_ne (tgt := 11) hx hb dX6_restore_6 (by decide) (fun c_6 => ?_) (fun c_6 => ?_)
  · refine lv_aload_n hx hb dX6_restore_11 rfl (lv_at hl 0 rfl) ?_
    refine va_get (D := D) (ci := 6) (v := .ref (a 9)) (C := RX6) (T := TX6) (N := 13) hx hb hts hiX6 hown hK hP 0 rfl rfl 9 (by decide) w_1 (fun _ h9 => h9) rfl dX6_restore_12 ?_
    refine lv_iload_n hx hb dX6_restore_15 rfl (lv_at hl 1 rfl) ?_
    refine r_zald hx hb hK hP 9 3 rfl rfl (k := j) (rfl) (by omega) (by decide) dX6_restore_16 ?_
    refine lv_if_ne (tgt := 23) hx hb dX6_restore_17 (by decide) (fun c_17 => ?_) (fun c_17 => ?_)
    · refine lv_aload_n hx hb dX6_restore_23 rfl (lv_at hl 0 rfl) ?_
      have hFc_24 := w_free (wc := mG ct a (nI k) (nI t) (rowOf v) v.2 (rowOf u) u.2 (hisI w) (hisF w) (hisI sl) (hisF sl) ik tx rd) hD (List.Perm.of_eq (List.append_nil _).symm) hS hA
      refine va_callv (va_runV (As := []) (rest := []) ⟨hx, hb, hml, hown, hts⟩ (k_X6_begin l D ct _ a (nI k) (nI t) (rowOf v) v.2 (rowOf u) u.2 (hisI w) (hisF w) (hisI sl) (hisF sl) ik tx rd) (cwV 0 hts gX6_restore_X6_begin rfl rfl rfl (by decide +kernel) ⟨Nat.le_of_ble_eq_true rfl, Nat.le_of_ble_eq_true rfl⟩) ⟨muP.blind, va_recv hK hP (ci := 6) (q0 := 0) rfl rfl, muP.at hP hD hK hN⟩ rfl rfl hl.1 rfl (lv_room (Nat.le_of_ble_eq_true rfl)) dX6_restore_24 ⟨Nat.le_of_ble_eq_true rfl, Nat.le_of_ble_eq_true rfl⟩) hS (fun q _ h => hFc_24 q h) hFc_24 (fun uu tt H1 locs ht hvm hw hB hz1 hk1 hS => ?_)
      obtain ⟨hP, hD⟩ := muE.join (ws' := mG ct a (nI k) (nI t) (rowOf v) v.2 (rowOf v) v.2 (hisI w) (hisF w) (hisI sl) (hisF sl) ik tx rd) hP hD (List.Perm.of_eq (List.append_nil _).symm) (List.Perm.of_eq (List.append_nil _).symm) hk1 hFc_24 ht hB
      generalize H1 = H at hP hS ⊢
      refine lv_iconst (v := 0) hx hb dX6_restore_27 (by decide) ?_
      refine lv_istore_n (lv' := [(2, .int 0), (0, .ref (a 0)), (1, .int (nI j))]) hx hb dX6_restore_28 rfl hl (by decide) rfl (fun ls hl => ?_)
      have loop_29 : ∀ (n_29 : Nat) (i : Nat), (i ≤ 200) → (200 + 1 ≤ i + n_29) → ∀ (H : Heap) (locs : List Loc), va_P D vwCl (mG ct a (nI k) (nI t) (mo 0 (fun z => hisI sl (200 * j + z)) (rowOf v) i) v.2 (rowOf v) v.2 (hisI w) (hisF w) (hisI sl) (hisF sl) ik tx rd) H → va_D A (mG ct a (nI k) (nI t) (mo 0 (fun z => hisI sl (200 * j + z)) (rowOf v) i) v.2 (rowOf v) v.2 (hisI w) (hisF w) (hisI sl) (hisF sl) ik tx rd) → va_S A s.heap H locs → ∀ (ls : Array Slot), lv_has ls 3 [(2, .int (nI i)), (0, .ref (a 0)), (1, .int (nI j))] → W p l e (headSpec wsX6_restore ({ frames := 1, cells := 0, slots := 0, locals := 22 })).room s m #[.ref (a 0), .int (nI j)] below meth c H locs 0 0 (MQ below (muI D ct (mG ct a (nI k) (nI t) (rowOf v) v.2 (rowOf u) u.2 (hisI w) (hisF w) (hisI sl) (hisF sl) ik tx rd) (mS ct a (sl j) v (hPush w k v) sl (kPush k) t ik tx rd) s.heap.size (fun r => r = (sl j).1 0 1)) #[.ref (a 0), .int (nI j)] s 0 0 (A)) (F0 m 29 ls []) := by
        intro n_29
        induction n_29 with
        | zero =>
          intro i hi hn
          exact absurd hn (by omega)
        | succ n_29 ih_29 =>
          intro i hi hn H locs hP hD hS ls hl
          refine lv_iload_n hx hb dX6_restore_29 rfl (lv_at hl 0 rfl) ?_
          refine lv_sipush (v := 200) hx hb dX6_restore_30 (by decide) ?_
          refine lv_icmp_ge (tgt := 60) hx hb dX6_restore_33 (by decide) (fun c_33 => ?_) (fun c_33 => ?_)
          · have hge : 200 ≤ i := nI_le' (by omega) (by omega) c_33
            have hP : va_P D vwCl (mG ct a (nI k) (nI t) (rowOf (sl j)) v.2 (rowOf v) v.2 (hisI w) (hisF w) (hisI sl) (hisF sl) ik tx rd) H := (mG_ext hP (fun z hz => (mo_in _ _ i (by omega) z hz).trans (hisI_at sl hz)) (fun _ _ => rfl) (fun _ _ => rfl) (fun _ _ => rfl) (fun _ _ => rfl) (fun _ _ => rfl) (fun _ _ => rfl) (fun _ _ => rfl) (fun _ _ => rfl) (fun _ _ => rfl) (fun _ _ => rfl))
            have hD : va_D A (mG ct a (nI k) (nI t) (rowOf (sl j)) v.2 (rowOf v) v.2 (hisI w) (hisF w) (hisI sl) (hisF sl) ik tx rd) := mG_dn hD
            refine lv_iconst (v := 0) hx hb dX6_restore_60 (by decide) ?_
            refine lv_istore_n (lv' := [(2, .int 0), (0, .ref (a 0)), (1, .int (nI j))]) hx hb dX6_restore_61 rfl hl (by decide) rfl (fun ls hl => ?_)
            have loop_62 : ∀ (n_62 : Nat) (i : Nat), (i ≤ 3) → (3 + 1 ≤ i + n_62) → ∀ (H : Heap) (locs : List Loc), va_P D vwCl (mG ct a (nI k) (nI t) (rowOf (sl j)) (mo 0 (fun z => hisF sl (3 * j + z)) v.2 i) (rowOf v) v.2 (hisI w) (hisF w) (hisI sl) (hisF sl) ik tx rd) H → va_D A (mG ct a (nI k) (nI t) (rowOf (sl j)) (mo 0 (fun z => hisF sl (3 * j + z)) v.2 i) (rowOf v) v.2 (hisI w) (hisF w) (hisI sl) (hisF sl) ik tx rd) → va_S A s.heap H locs → ∀ (ls : Array Slot), lv_has ls 3 [(2, .int (nI i)), (0, .ref (a 0)), (1, .int (nI j))] → W p l e (headSpec wsX6_restore ({ frames := 1, cells := 0, slots := 0, locals := 22 })).room s m #[.ref (a 0), .int (nI j)] below meth c H locs 0 0 (MQ below (muI D ct (mG ct a (nI k) (nI t) (rowOf v) v.2 (rowOf u) u.2 (hisI w) (hisF w) (hisI sl) (hisF sl) ik tx rd) (mS ct a (sl j) v (hPush w k v) sl (kPush k) t ik tx rd) s.heap.size (fun r => r = (sl j).1 0 1)) #[.ref (a 0), .int (nI j)] s 0 0 (A)) (F0 m 62 ls []) := by
              intro n_62
              induction n_62 with
              | zero =>
                intro i hi hn
                exact absurd hn (by omega)
              | succ n_62 ih_62 =>
                intro i hi hn H locs hP hD hS ls hl
                refine lv_iload_n hx hb dX6_restore_62 rfl (lv_at hl 0 rfl) ?_
                refine lv_iconst (v := 3) hx hb dX6_restore_63 (by decide) ?_
                refine lv_icmp_ge (tgt := 89) hx hb dX6_restore_64 (by decide) (fun c_64 => ?_) (fun c_64 => ?_)
                · have hge : 3 ≤ i := nI_le' (by omega) (by omega) c_64
                  have hP : va_P D vwCl (mG ct a (nI k) (nI t) (rowOf (sl j)) ((sl j).2) (rowOf v) v.2 (hisI w) (hisF w) (hisI sl) (hisF sl) ik tx rd) H := (mG_ext hP (fun _ _ => rfl) (fun z hz => (mo_in _ _ i (by omega) z hz).trans (hisF_at sl hz)) (fun _ _ => rfl) (fun _ _ => rfl) (fun _ _ => rfl) (fun _ _ => rfl) (fun _ _ => rfl) (fun _ _ => rfl) (fun _ _ => rfl) (fun _ _ => rfl) (fun _ _ => rfl))
                  have hD : va_D A (mG ct a (nI k) (nI t) (rowOf (sl j)) ((sl j).2) (rowOf v) v.2 (hisI w) (hisF w) (hisI sl) (hisF sl) ik tx rd) := mG_dn hD
                  refine lv_aload_n hx hb dX6_restore_89 rfl (lv_at hl 1 rfl) ?_
                  refine lv_aload_n hx hb dX6_restore_90 rfl (lv_at hl 1 rfl) ?_
                  refine va_get (D := D) (ci := 6) (v := .ref (a 1)) (C := RX6) (T := TX6) (N := 13) hx hb hts hiX6 hown hK hP 0 rfl rfl 0 (by decide) w_2 (fun _ h9 => h9) rfl dX6_restore_91 ?_
                  refine lv_iconst (v := 1) hx hb dX6_restore_94 (by decide) ?_
                  refine r_iald hx hb hK hP 1 0 rfl rfl (k := 1) (rfl) (by decide) (by decide) dX6_restore_95 ?_
                  refine lv_as (y := (sl j).1 0 1) (row_0 (sl j) (by decide)) ?_
                  have hFc_96 := w_free (wc := mG ct a (nI k) (nI t) (rowOf (sl j)) ((sl j).2) (rowOf v) v.2 (hisI w) (hisF w) (hisI sl) (hisF sl) ik tx rd) hD (List.Perm.of_eq (List.append_nil _).symm) hS hA
                  refine va_calli (va_runV (As := [.int ((sl j).1 0 1)]) (rest := []) ⟨hx, hb, hml, hown, hts⟩ (k_X6_done l D ct _ a (nI t) (rowOf (sl j)) ((sl j).2) v w k hk (hisI sl) (hisF sl) ik tx rd ((sl j).1 0 1)) (cwV 1 hts gX6_restore_X6_done rfl rfl rfl (by decide +kernel) ⟨Nat.le_of_ble_eq_true rfl, Nat.le_of_ble_eq_true rfl⟩) ⟨muP.blind, va_recv hK hP (ci := 6) (q0 := 0) rfl rfl, muP.at hP hD hK hN⟩ rfl rfl hl.1 rfl (lv_room (Nat.le_of_ble_eq_true rfl)) dX6_restore_96 ⟨Nat.le_of_ble_eq_true rfl, Nat.le_of_ble_eq_true rfl⟩) hS (fun q _ h => hFc_96 q h) hFc_96 (fun r_96 uu tt H1 locs ht hvm h_96 hB hz1 hk1 hS => ?_)
                  obtain ⟨hP, hD⟩ := muE.join (ws' := mG ct a (nI (kPush k)) (nI t) (rowOf (sl j)) ((sl j).2) (rowOf v) v.2 (hisI (hPush w k v)) (hisF (hPush w k v)) (hisI sl) (hisF sl) ik tx rd) hP hD (List.Perm.of_eq (List.append_nil _).symm) (List.Perm.of_eq (List.append_nil _).symm) hk1 hFc_96 ht hB
                  generalize H1 = H at hP hS ⊢
                  obtain rfl : r_96 = (sl j).1 0 1 := h_96
                  have hP9 : va_P D vwCl (mS ct a (sl j) v (hPush w k v) sl (kPush k) t ik tx rd) H := hP
                  have hD9 : va_D A (mS ct a (sl j) v (hPush w k v) sl (kPush k) t ik tx rd) := mG_dn hD
                  subst hAe
                  exact W.iret (v := ((sl j).1 0 1)) hx hb hr (fun tt ht hW => ⟨⟨((sl j).1 0 1), (), rfl, rfl, muE.of (ct := ct) hP9 hD9 ht⟩, hS.F ht⟩) hS.2.2 dX6_restore_99
                · have hlt : i < 3 := nI_nle' (by omega) (by omega) c_64
                  refine lv_aload_n hx hb dX6_restore_67 rfl (lv_at hl 1 rfl) ?_
                  refine va_get (D := D) (ci := 6) (v := .ref (a 2)) (C := RX6) (T := TX6) (N := 13) hx hb hts hiX6 hown hK hP 0 rfl rfl 1 (by decide) w_4 (fun _ h9 => h9) rfl dX6_restore_68 ?_
                  refine lv_iload_n hx hb dX6_restore_71 rfl (lv_at hl 0 rfl) ?_
                  refine lv_aload_n hx hb dX6_restore_72 rfl (lv_at hl 1 rfl) ?_
                  refine va_get (D := D) (ci := 6) (v := .ref (a 8)) (C := RX6) (T := TX6) (N := 13) hx hb hts hiX6 hown hK hP 0 rfl rfl 8 (by decide) w_5 (fun _ h9 => h9) rfl dX6_restore_73 ?_
                  refine lv_iconst (v := 3) hx hb dX6_restore_76 (by decide) ?_
                  refine lv_iload_n hx hb dX6_restore_77 rfl (lv_at hl 2 rfl) ?_
                  refine lv_imul hx hb dX6_restore_78 ?_
                  refine lv_as (y := nI (3 * j)) (ix_mk 3 j 3 rfl) ?_
                  refine lv_iload_n hx hb dX6_restore_79 rfl (lv_at hl 0 rfl) ?_
                  refine lv_iadd hx hb dX6_restore_80 ?_
                  refine lv_as (y := nI (3 * j + i)) (nI_add _ _) ?_
                  refine r_fald hx hb hK hP 8 1 rfl rfl (k := (3 * j + i)) (rfl) (by omega) (by decide) dX6_restore_81 ?_
                  refine r_fast hx hb hK hP hD hS 2 1 rfl rfl (k := i) (rfl) (by omega) (by decide) dX6_restore_82 (fun H locs hP hD hS => ?_)
                  have hP : va_P D vwCl (mG ct a (nI k) (nI t) (rowOf (sl j)) (vf_upd (mo 0 (fun z => hisF sl (3 * j + z)) v.2 i) i ((hisF sl) (3 * j + i))) (rowOf v) v.2 (hisI w) (hisF w) (hisI sl) (hisF sl) ik tx rd) H := hP
                  have hD : va_D A (mG ct a (nI k) (nI t) (rowOf (sl j)) (vf_upd (mo 0 (fun z => hisF sl (3 * j + z)) v.2 i) i ((hisF sl) (3 * j + i))) (rowOf v) v.2 (hisI w) (hisF w) (hisI sl) (hisF sl) ik tx rd) := hD
                  refine lv_iinc (v := nI (i + 1)) (lv' := [(2, .int (nI (i + 1))), (0, .ref (a 0)), (1, .int (nI j))]) hx hb dX6_restore_83 hl (k := 0) rfl ((nI_succ i).symm) (by decide) rfl (fun ls hl => ?_)
                  refine lv_goto (tgt := 62) hx hb dX6_restore_86 (by decide) ?_
                  exact ih_62 (i + 1) (by omega) (by omega) _ _ (by rw [← mo_sf0 (fun z => hisF sl (3 * j + z)) v.2 i]; exact hP) (mG_dn hD) hS ls (lv_sub hl [0, 1, 2] rfl)
            exact loop_62 (3 + 1) 0 (Nat.zero_le _) (by omega) _ _ (by rw [mo_0]; exact hP) (mG_dn hD) hS ls (lv_sub hl [0, 1, 2] rfl)
          · have hlt : i < 200 := nI_nle' (by omega) (by omega) c_33
            refine lv_aload_n hx hb dX6_restore_36 rfl (lv_at hl 1 rfl) ?_
            refine va_get (D := D) (ci := 6) (v := .ref (a 1)) (C := RX6) (T := TX6) (N := 13) hx hb hts hiX6 hown hK hP 0 rfl rfl 0 (by decide) w_2 (fun _ h9 => h9) rfl dX6_restore_37 ?_
            refine lv_iload_n hx hb dX6_restore_40 rfl (lv_at hl 0 rfl) ?_
            refine lv_aload_n hx hb dX6_restore_41 rfl (lv_at hl 1 rfl) ?_
            refine va_get (D := D) (ci := 6) (v := .ref (a 7)) (C := RX6) (T := TX6) (N := 13) hx hb hts hiX6 hown hK hP 0 rfl rfl 7 (by decide) w_3 (fun _ h9 => h9) rfl dX6_restore_42 ?_
            refine lv_sipush (v := 200) hx hb dX6_restore_45 (by decide) ?_
            refine lv_iload_n hx hb dX6_restore_48 rfl (lv_at hl 2 rfl) ?_
            refine lv_imul hx hb dX6_restore_49 ?_
            refine lv_as (y := nI (200 * j)) (ix_mk 200 j 200 rfl) ?_
            refine lv_iload_n hx hb dX6_restore_50 rfl (lv_at hl 0 rfl) ?_
            refine lv_iadd hx hb dX6_restore_51 ?_
            refine lv_as (y := nI (200 * j + i)) (nI_add _ _) ?_
            refine r_iald hx hb hK hP 7 0 rfl rfl (k := (200 * j + i)) (rfl) (by omega) (by decide) dX6_restore_52 ?_
            refine r_iast hx hb hK hP hD hS 1 0 rfl rfl (k := i) (rfl) (by omega) (by decide) dX6_restore_53 (fun H locs hP hD hS => ?_)
            have hP : va_P D vwCl (mG ct a (nI k) (nI t) (upd (mo 0 (fun z => hisI sl (200 * j + z)) (rowOf v) i) i ((hisI sl) (200 * j + i))) v.2 (rowOf v) v.2 (hisI w) (hisF w) (hisI sl) (hisF sl) ik tx rd) H := hP
            have hD : va_D A (mG ct a (nI k) (nI t) (upd (mo 0 (fun z => hisI sl (200 * j + z)) (rowOf v) i) i ((hisI sl) (200 * j + i))) v.2 (rowOf v) v.2 (hisI w) (hisF w) (hisI sl) (hisF sl) ik tx rd) := hD
            refine lv_iinc (v := nI (i + 1)) (lv' := [(2, .int (nI (i + 1))), (0, .ref (a 0)), (1, .int (nI j))]) hx hb dX6_restore_54 hl (k := 0) rfl ((nI_succ i).symm) (by decide) rfl (fun ls hl => ?_)
            refine lv_goto (tgt := 29) hx hb dX6_restore_57 (by decide) ?_
            exact ih_29 (i + 1) (by omega) (by omega) _ _ (by rw [← mo_s0 (fun z => hisI sl (200 * j + z)) (rowOf v) i]; exact hP) (mG_dn hD) hS ls (lv_sub hl [0, 1, 2] rfl)
      exact loop_29 (200 + 1) 0 (Nat.zero_le _) (by omega) _ _ (by rw [mo_0]; exact hP) (mG_dn hD) hS ls (lv_sub hl [0, 1, 2] rfl)
    · exact absurd c_17 hz
  · exact absurd c_6 hin

set_option maxHeartbeats 4000000 in
set_option maxRecDepth 100000 in
theorem k_X6_type_e (l : Launch) (D : va_G) (ct : Nat → ClassId) (a : Nat → Nat) (v u : SV) (w sl : Nat → SV) (k : Nat) (hk : k ≤ 5) (ik tx rd : Nat → Int32) (x : Int32) : Met l yX6_type wsX6_type ({ frames := 0, cells := 0, slots := 0, locals := 0 }) (roP D ct (mG ct a (nI k) (nI 30) (rowOf v) v.2 (rowOf u) u.2 (hisI w) (hisF w) (hisI sl) (hisF sl) ik tx rd) [.ref (a 0), .int x]) (vp_Si (fun r => r = -3)) 0 0 noA := by
  refine Met.ofW (cc := cX6_type) (maxL := 2) (ret := (some .int)) (by decide) rfl ?_
  intro p e s m args below meth c s₁ B hml hv
  obtain ⟨rfl, hP, hK, hN⟩ := hv
  have hx := B.exec
  have hb := B.bytes
  have hr := B.returns
  have hts := atoms_spec (ws := wsX6_type) B.pre
  have hown : s.vm.findClass RX6 = some m.cls := findClass_of_methodNamed B.named
  have hlocks := B.notSynchronized
  have w_1 := hts (.fieldLink RX6 129 "ScannedDigitsModel" "typed" "I") (List.mem_of_getElem? (i := 1) rfl)
  have hiX6 : ∀ w ∈ wsX60, w ∈ wsX6_type := fun w h => (goodIn_r wsX60 [3, 4, 5, 6, 7, 8, 9, 10, 11, 12, 13, 14, 15] (by decide +kernel) (by decide +kernel) w h).1
  have hl := lv_entry ([.ref (a 0), .int x]) (n := 2) (Nat.le_of_ble_eq_true rfl)
  rw [lg_entry_eq]
  generalize (lg_sl ([.ref (a 0), .int x]) ++ List.replicate (2 - (lg_sl ([.ref (a 0), .int x])).length) Slot.unset).toArray = ls at hl ⊢
  have hl : lv_has ls 2 [(0, .ref (a 0)), (1, .int x)] := hl
  refine lv_aload_n hx hb dX6_type_0 rfl (lv_at hl 0 rfl) ?_
  refine va_get (D := D) (ci := 6) (v := .int (nI 30)) (C := RX6) (T := TX6) (N := 13) hx hb hts hiX6 hown hK hP 0 rfl rfl 10 (by decide) w_1 (fun _ h9 => h9) rfl dX6_type_1 ?_
  refine lv_bipush (v := 30) hx hb dX6_type_4 (by decide) ?_
  refine lv_icmp_ne (tgt := 12) hx hb dX6_type_6 (by decide) (fun c_6 => ?_) (fun c_6 => ?_)
  · exact absurd rfl c_6
  · refine lv_bipush (v := (-3)) hx hb dX6_type_9 (by decide) ?_
    exact W.iret (v := (-3)) hx hb hr (fun tt ht hW => ⟨(-3), rfl, rfl, ht⟩) (fun q hq => absurd hq List.not_mem_nil) dX6_type_11

set_option maxHeartbeats 4000000 in
set_option maxRecDepth 100000 in
theorem k_X6_type_ok (l : Launch) (D : va_G) (ct : Nat → ClassId) (sz : Nat) (a : Nat → Nat) (v u : SV) (w sl : Nat → SV) (k t : Nat) (hk : k ≤ 5) (ik tx rd : Nat → Int32) (ht30 : t < 30) (x : Int32) (hx16 : vp_nar .char x = x) : Met l yX6_type wsX6_type ({ frames := 0, cells := 0, slots := 0, locals := 0 }) (muP D ct (mG ct a (nI k) (nI t) (rowOf v) v.2 (rowOf u) u.2 (hisI w) (hisF w) (hisI sl) (hisF sl) ik tx rd) sz [.ref (a 0), .int x]) (muI D ct (mG ct a (nI k) (nI t) (rowOf v) v.2 (rowOf u) u.2 (hisI w) (hisF w) (hisI sl) (hisF sl) ik tx rd) (mS ct a v u w sl k (t + 1) ik (upd tx t x) rd) sz (fun r => r = nI (t + 1))) 0 0 (va_A (mG ct a (nI k) (nI t) (rowOf v) v.2 (rowOf u) u.2 (hisI w) (hisF w) (hisI sl) (hisF sl) ik tx rd) sz) := by
  refine Met.ofW (cc := cX6_type) (maxL := 2) (ret := (some .int)) (by decide) rfl ?_
  intro p e s m args below meth c s₁ B hml hv
  obtain ⟨rfl, hsz, hP, hK, hN, hD0⟩ := hv
  have hx := B.exec
  have hb := B.bytes
  have hr := B.returns
  have hts := atoms_spec (ws := wsX6_type) B.pre
  have hown : s.vm.findClass RX6 = some m.cls := findClass_of_methodNamed B.named
  have hlocks := B.notSynchronized
  subst hsz
  have hD := hD0.self (sz := s.heap.size)
  generalize hAe : va_A (mG ct a (nI k) (nI t) (rowOf v) v.2 (rowOf u) u.2 (hisI w) (hisF w) (hisI sl) (hisF sl) ik tx rd) s.heap.size = A at hD
  have hA : ∀ q : Nat, s.heap.size ≤ q → A q := fun q h => by rw [← hAe]; exact Or.inr h
  have hS : va_S A s.heap s.heap [] := va_S.rf
  have w_1 := hts (.fieldLink RX6 129 "ScannedDigitsModel" "typed" "I") (List.mem_of_getElem? (i := 1) rfl)
  have w_2 := hts (.fieldLink RX6 39 "ScannedDigitsModel" "text" "[C") (List.mem_of_getElem? (i := 2) rfl)
  have hiX6 : ∀ w ∈ wsX60, w ∈ wsX6_type := fun w h => (goodIn_r wsX60 [3, 4, 5, 6, 7, 8, 9, 10, 11, 12, 13, 14, 15] (by decide +kernel) (by decide +kernel) w h).1
  have hl := lv_entry ([.ref (a 0), .int x]) (n := 2) (Nat.le_of_ble_eq_true rfl)
  rw [lg_entry_eq]
  generalize (lg_sl ([.ref (a 0), .int x]) ++ List.replicate (2 - (lg_sl ([.ref (a 0), .int x])).length) Slot.unset).toArray = ls at hl ⊢
  have hl : lv_has ls 2 [(0, .ref (a 0)), (1, .int x)] := hl
  refine lv_aload_n hx hb dX6_type_0 rfl (lv_at hl 0 rfl) ?_
  refine va_get (D := D) (ci := 6) (v := .int (nI t)) (C := RX6) (T := TX6) (N := 13) hx hb hts hiX6 hown hK hP 0 rfl rfl 10 (by decide) w_1 (fun _ h9 => h9) rfl dX6_type_1 ?_
  refine lv_bipush (v := 30) hx hb dX6_type_4 (by decide) ?_
  refine lv_icmp_ne (tgt := 12) hx hb dX6_type_6 (by decide) (fun c_6 => ?_) (fun c_6 => ?_)
  · refine lv_aload_n hx hb dX6_type_12 rfl (lv_at hl 0 rfl) ?_
    refine va_get (D := D) (ci := 6) (v := .ref (a 10)) (C := RX6) (T := TX6) (N := 13) hx hb hts hiX6 hown hK hP 0 rfl rfl 11 (by decide) w_2 (fun _ h9 => h9) rfl dX6_type_13 ?_
    refine lv_aload_n hx hb dX6_type_16 rfl (lv_at hl 0 rfl) ?_
    refine va_get (D := D) (ci := 6) (v := .int (nI t)) (C := RX6) (T := TX6) (N := 13) hx hb hts hiX6 hown hK hP 0 rfl rfl 10 (by decide) w_1 (fun _ h9 => h9) rfl dX6_type_17 ?_
    refine lv_iload_n hx hb dX6_type_20 rfl (lv_at hl 1 rfl) ?_
    refine r_cast hx hb hK hP hD hS 10 2 rfl rfl (k := t) (rfl) (by omega) (by decide) (hx16) dX6_type_21 (fun H locs hP hD hS => ?_)
    have hP : va_P D vwCl (mG ct a (nI k) (nI t) (rowOf v) v.2 (rowOf u) u.2 (hisI w) (hisF w) (hisI sl) (hisF sl) ik (upd tx t x) rd) H := hP
    have hD : va_D A (mG ct a (nI k) (nI t) (rowOf v) v.2 (rowOf u) u.2 (hisI w) (hisF w) (hisI sl) (hisF sl) ik (upd tx t x) rd) := hD
    refine lv_aload_n hx hb dX6_type_22 rfl (lv_at hl 0 rfl) ?_
    refine lv_dup hx hb dX6_type_23 rfl ?_
    refine va_get (D := D) (ci := 6) (v := .int (nI t)) (C := RX6) (T := TX6) (N := 13) hx hb hts hiX6 hown hK hP 0 rfl rfl 10 (by decide) w_1 (fun _ h9 => h9) rfl dX6_type_24 ?_
    refine lv_iconst (v := 1) hx hb dX6_type_27 (by decide) ?_
    refine lv_iadd hx hb dX6_type_28 ?_
    refine lv_as (y := nI (t + 1)) (nI_1 t) ?_
    refine va_put (D := D) (ci := 6) (v := .int (nI (t + 1))) (ty := .int) (C := RX6) (T := TX6) (N := 13) hx hb hts hiX6 tyX6 tyX6_ok nmX6 hown hK hP hD hS 0 rfl rfl 10 (by decide) w_1 (fun _ h9 => h9) rfl (by decide +kernel) rfl rfl (Nat.le_of_ble_eq_true rfl) dX6_type_29 (fun H locs hP hD hS => ?_)
    have hP : va_P D vwCl (mG ct a (nI k) (nI (t + 1)) (rowOf v) v.2 (rowOf u) u.2 (hisI w) (hisF w) (hisI sl) (hisF sl) ik (upd tx t x) rd) H := hP
    have hD : va_D A (mG ct a (nI k) (nI (t + 1)) (rowOf v) v.2 (rowOf u) u.2 (hisI w) (hisF w) (hisI sl) (hisF sl) ik (upd tx t x) rd) := hD
    refine lv_aload_n hx hb dX6_type_32 rfl (lv_at hl 0 rfl) ?_
    refine va_get (D := D) (ci := 6) (v := .int (nI (t + 1))) (C := RX6) (T := TX6) (N := 13) hx hb hts hiX6 hown hK hP 0 rfl rfl 10 (by decide) w_1 (fun _ h9 => h9) rfl dX6_type_33 ?_
    have hP9 : va_P D vwCl (mS ct a v u w sl k (t + 1) ik (upd tx t x) rd) H := hP
    have hD9 : va_D A (mS ct a v u w sl k (t + 1) ik (upd tx t x) rd) := mG_dn hD
    subst hAe
    exact W.iret (v := (nI (t + 1))) hx hb hr (fun tt ht hW => ⟨⟨(nI (t + 1)), (), rfl, rfl, muE.of (ct := ct) hP9 hD9 ht⟩, hS.F ht⟩) hS.2.2 dX6_type_36
  · exact absurd ((nI_eq (by omega) (by decide)).mp (show nI t = nI 30 from c_6)) (by omega)

set_option maxHeartbeats 4000000 in
set_option maxRecDepth 100000 in
theorem k_X6_clearText (l : Launch) (D : va_G) (ct : Nat → ClassId) (sz : Nat) (a : Nat → Nat) (v u : SV) (w sl : Nat → SV) (k t : Nat) (hk : k ≤ 5) (ik tx rd : Nat → Int32) : Met l yX6_clearText wsX6_clearText ({ frames := 0, cells := 0, slots := 0, locals := 0 }) (muP D ct (mG ct a (nI k) (nI t) (rowOf v) v.2 (rowOf u) u.2 (hisI w) (hisF w) (hisI sl) (hisF sl) ik tx rd) sz [.ref (a 0)]) (muI D ct (mG ct a (nI k) (nI t) (rowOf v) v.2 (rowOf u) u.2 (hisI w) (hisF w) (hisI sl) (hisF sl) ik tx rd) (mS ct a v u w sl k 0 ik tx rd) sz (fun r => r = nI t)) 0 0 (va_A (mG ct a (nI k) (nI t) (rowOf v) v.2 (rowOf u) u.2 (hisI w) (hisF w) (hisI sl) (hisF sl) ik tx rd) sz) := by
  refine Met.ofW (cc := cX6_clearText) (maxL := 2) (ret := (some .int)) (by decide) rfl ?_
  intro p e s m args below meth c s₁ B hml hv
  obtain ⟨rfl, hsz, hP, hK, hN, hD0⟩ := hv
  have hx := B.exec
  have hb := B.bytes
  have hr := B.returns
  have hts := atoms_spec (ws := wsX6_clearText) B.pre
  have hown : s.vm.findClass RX6 = some m.cls := findClass_of_methodNamed B.named
  have hlocks := B.notSynchronized
  subst hsz
  have hD := hD0.self (sz := s.heap.size)
  generalize hAe : va_A (mG ct a (nI k) (nI t) (rowOf v) v.2 (rowOf u) u.2 (hisI w) (hisF w) (hisI sl) (hisF sl) ik tx rd) s.heap.size = A at hD
  have hA : ∀ q : Nat, s.heap.size ≤ q → A q := fun q h => by rw [← hAe]; exact Or.inr h
  have hS : va_S A s.heap s.heap [] := va_S.rf
  have w_1 := hts (.fieldLink RX6 129 "ScannedDigitsModel" "typed" "I") (List.mem_of_getElem? (i := 1) rfl)
  have hiX6 : ∀ w ∈ wsX60, w ∈ wsX6_clearText := fun w h => (goodIn_r wsX60 [2, 3, 4, 5, 6, 7, 8, 9, 10, 11, 12, 13, 14] (by decide +kernel) (by decide +kernel) w h).1
  have hl := lv_entry ([.ref (a 0)]) (n := 2) (Nat.le_of_ble_eq_true rfl)
  rw [lg_entry_eq]
  generalize (lg_sl ([.ref (a 0)]) ++ List.replicate (2 - (lg_sl ([.ref (a 0)])).length) Slot.unset).toArray = ls at hl ⊢
  have hl : lv_has ls 2 [(0, .ref (a 0))] := hl
  refine lv_aload_n hx hb dX6_clearText_0 rfl (lv_at hl 0 rfl) ?_
  refine va_get (D := D) (ci := 6) (v := .int (nI t)) (C := RX6) (T := TX6) (N := 13) hx hb hts hiX6 hown hK hP 0 rfl rfl 10 (by decide) w_1 (fun _ h9 => h9) rfl dX6_clearText_1 ?_
  refine lv_istore_n (lv' := [(1, .int (nI t)), (0, .ref (a 0))]) hx hb dX6_clearText_4 rfl hl (by decide) rfl (fun ls hl => ?_)
  refine lv_aload_n hx hb dX6_clearText_5 rfl (lv_at hl 1 rfl) ?_
  refine lv_iconst (v := 0) hx hb dX6_clearText_6 (by decide) ?_
  refine va_put (D := D) (ci := 6) (v := .int 0) (ty := .int) (C := RX6) (T := TX6) (N := 13) hx hb hts hiX6 tyX6 tyX6_ok nmX6 hown hK hP hD hS 0 rfl rfl 10 (by decide) w_1 (fun _ h9 => h9) rfl (by decide +kernel) rfl rfl (Nat.le_of_ble_eq_true rfl) dX6_clearText_7 (fun H locs hP hD hS => ?_)
  have hP : va_P D vwCl (mG ct a (nI k) 0 (rowOf v) v.2 (rowOf u) u.2 (hisI w) (hisF w) (hisI sl) (hisF sl) ik tx rd) H := hP
  have hD : va_D A (mG ct a (nI k) 0 (rowOf v) v.2 (rowOf u) u.2 (hisI w) (hisF w) (hisI sl) (hisF sl) ik tx rd) := hD
  refine lv_iload_n hx hb dX6_clearText_10 rfl (lv_at hl 0 rfl) ?_
  have hP9 : va_P D vwCl (mS ct a v u w sl k 0 ik tx rd) H := hP
  have hD9 : va_D A (mS ct a v u w sl k 0 ik tx rd) := mG_dn hD
  subst hAe
  exact W.iret (v := (nI t)) hx hb hr (fun tt ht hW => ⟨⟨(nI t), (), rfl, rfl, muE.of (ct := ct) hP9 hD9 ht⟩, hS.F ht⟩) hS.2.2 dX6_clearText_11

set_option maxHeartbeats 4000000 in
set_option maxRecDepth 100000 in
theorem k_X6_pass_e2 (l : Launch) (D : va_G) (ct : Nat → ClassId) (a : Nat → Nat) (v u : SV) (w sl : Nat → SV) (k t : Nat) (hk : k ≤ 5) (ik tx rd : Nat → Int32) (y : Int32) (hin : pIn y 1 500 = 0) : Met l yX6_pass wsX6_pass ({ frames := 5, cells := 0, slots := 0, locals := 115 }) (roP D ct (mG ct a (nI k) (nI t) (rowOf v) v.2 (rowOf u) u.2 (hisI w) (hisF w) (hisI sl) (hisF sl) ik tx rd) [.ref (a 0), .int y]) (vp_Si (fun r => r = -2)) 0 0 noA := by
  refine Met.ofW (cc := cX6_pass) (maxL := 4) (ret := (some .int)) (by decide) rfl ?_
  intro p e s m args below meth c s₁ B hml hv
  obtain ⟨rfl, hP, hK, hN⟩ := hv
  have hx := B.exec
  have hb := B.bytes
  have hr := B.returns
  have hts := atoms_spec (ws := wsX6_pass) B.pre
  have hown : s.vm.findClass RX6 = some m.cls := findClass_of_methodNamed B.named
  have hlocks := B.notSynchronized
  have hl := lv_entry ([.ref (a 0), .int y]) (n := 4) (Nat.le_of_ble_eq_true rfl)
  rw [lg_entry_eq]
  generalize (lg_sl ([.ref (a 0), .int y]) ++ List.replicate (4 - (lg_sl ([.ref (a 0), .int y])).length) Slot.unset).toArray = ls at hl ⊢
  have hl : lv_has ls 4 [(0, .ref (a 0)), (1, .int y)] := hl
  refine lv_iload_n hx hb dX6_pass_0 rfl (lv_at hl 1 rfl) ?_
  refine lv_iconst (v := 1) hx hb dX6_pass_1 (by decide) ?_
  refine lv_sipush (v := 500) hx hb dX6_pass_2 (by decide) ?_
  refine vp_callSi (va_runS (As := [.int y, .int 1, .int 500]) (rest := []) ⟨hx, hb, hml, hown, hts⟩ (k_X6_in l D ct y 1 500) (va_cwS 3 hts gX6_pass_X6_in rfl rfl rfl (by decide +kernel) ⟨Nat.le_of_ble_eq_true rfl, Nat.le_of_ble_eq_true rfl⟩) ⟨roP.blind, roP.at pw_nil hK hN⟩ rfl rfl hl.1 rfl (lv_room (Nat.le_of_ble_eq_true rfl)) dX6_pass_5 ⟨Nat.le_of_ble_eq_true rfl, Nat.le_of_ble_eq_true rfl⟩).run (fun r_5 h_5 => ?_)
  obtain rfl : r_5 = pIn y 1 500 := h_5
  refine lv_if_ne (tgt := 14) hx hb dX6_pass_8 (by decide) (fun c_8 => ?_) (fun c_8 => ?_)
  · exact absurd hin c_8
  · refine lv_bipush (v := (-2)) hx hb dX6_pass_11 (by decide) ?_
    exact W.iret (v := (-2)) hx hb hr (fun tt ht hW => ⟨(-2), rfl, rfl, ht⟩) (fun q hq => absurd hq List.not_mem_nil) dX6_pass_13

set_option maxHeartbeats 4000000 in
set_option maxRecDepth 100000 in
theorem k_X6_pass_ok (l : Launch) (D : va_G) (ct : Nat → ClassId) (sz : Nat) (a : Nat → Nat) (v u : SV) (w sl : Nat → SV) (k t : Nat) (hk : k ≤ 5) (ik tx rd : Nat → Int32) (ok : Inv v) (n : Nat) (h1 : 1 ≤ n) (h5 : n ≤ 500) : Met l yX6_pass wsX6_pass ({ frames := 5, cells := 0, slots := 0, locals := 115 }) (muP D ct (mG ct a (nI k) (nI t) (rowOf v) v.2 (rowOf u) u.2 (hisI w) (hisF w) (hisI sl) (hisF sl) ik tx rd) sz [.ref (a 0), .int (nI n)]) (muI D ct (mG ct a (nI k) (nI t) (rowOf v) v.2 (rowOf u) u.2 (hisI w) (hisF w) (hisI sl) (hisF sl) ik tx rd) (mS ct a (pTks v n) v (hPush w k v) sl (kPush k) t ik tx rd) sz (fun r => r = pTkN v n)) 0 0 (va_A (mG ct a (nI k) (nI t) (rowOf v) v.2 (rowOf u) u.2 (hisI w) (hisF w) (hisI sl) (hisF sl) ik tx rd) sz) := by
  refine Met.ofW (cc := cX6_pass) (maxL := 4) (ret := (some .int)) (by decide) rfl ?_
  intro p e s m args below meth c s₁ B hml hv
  obtain ⟨rfl, hsz, hP, hK, hN, hD0⟩ := hv
  have hx := B.exec
  have hb := B.bytes
  have hr := B.returns
  have hts := atoms_spec (ws := wsX6_pass) B.pre
  have hown : s.vm.findClass RX6 = some m.cls := findClass_of_methodNamed B.named
  have hlocks := B.notSynchronized
  subst hsz
  have hD := hD0.self (sz := s.heap.size)
  generalize hAe : va_A (mG ct a (nI k) (nI t) (rowOf v) v.2 (rowOf u) u.2 (hisI w) (hisF w) (hisI sl) (hisF sl) ik tx rd) s.heap.size = A at hD
  have hA : ∀ q : Nat, s.heap.size ≤ q → A q := fun q h => by rw [← hAe]; exact Or.inr h
  have hS : va_S A s.heap s.heap [] := va_S.rf
  have hl := lv_entry ([.ref (a 0), .int (nI n)]) (n := 4) (Nat.le_of_ble_eq_true rfl)
  rw [lg_entry_eq]
  generalize (lg_sl ([.ref (a 0), .int (nI n)]) ++ List.replicate (4 - (lg_sl ([.ref (a 0), .int (nI n)])).length) Slot.unset).toArray = ls at hl ⊢
  have hl : lv_has ls 4 [(0, .ref (a 0)), (1, .int (nI n))] := hl
  have hin : ¬ pIn (nI n) 1 500 = 0 := pIn_ok (a := 1) (b := 500) rfl rfl h1 h5 (by decide)
  refine lv_iload_n hx hb dX6_pass_0 rfl (lv_at hl 1 rfl) ?_
  refine lv_iconst (v := 1) hx hb dX6_pass_1 (by decide) ?_
  refine lv_sipush (v := 500) hx hb dX6_pass_2 (by decide) ?_
  refine vp_callSi (va_runS (As := [.int (nI n), .int 1, .int 500]) (rest := []) ⟨hx, hb, hml, hown, hts⟩ (k_X6_in l D ct (nI n) 1 500) (va_cwS 3 hts gX6_pass_X6_in rfl rfl rfl (by decide +kernel) ⟨Nat.le_of_ble_eq_true rfl, Nat.le_of_ble_eq_true rfl⟩) ⟨roP.blind, roP.at pw_nil hK hN⟩ rfl rfl hl.1 rfl (lv_room (Nat.le_of_ble_eq_true rfl)) dX6_pass_5 ⟨Nat.le_of_ble_eq_true rfl, Nat.le_of_ble_eq_true rfl⟩).run (fun r_5 h_5 => ?_)
  obtain rfl : r_5 = pIn (nI n) 1 500 := h_5
  refine lv_if_ne (tgt := 14) hx hb dX6_pass_8 (by decide) (fun c_8 => ?_) (fun c_8 => ?_)
  · refine lv_aload_n hx hb dX6_pass_14 rfl (lv_at hl 0 rfl) ?_
    have hFc_15 := w_free (wc := mG ct a (nI k) (nI t) (rowOf v) v.2 (rowOf u) u.2 (hisI w) (hisF w) (hisI sl) (hisF sl) ik tx rd) hD (List.Perm.of_eq (List.append_nil _).symm) hS hA
    refine va_callv (va_runV (As := []) (rest := []) ⟨hx, hb, hml, hown, hts⟩ (k_X6_begin l D ct _ a (nI k) (nI t) (rowOf v) v.2 (rowOf u) u.2 (hisI w) (hisF w) (hisI sl) (hisF sl) ik tx rd) (cwV 0 hts gX6_pass_X6_begin rfl rfl rfl (by decide +kernel) ⟨Nat.le_of_ble_eq_true rfl, Nat.le_of_ble_eq_true rfl⟩) ⟨muP.blind, va_recv hK hP (ci := 6) (q0 := 0) rfl rfl, muP.at hP hD hK hN⟩ rfl rfl hl.1 rfl (lv_room (Nat.le_of_ble_eq_true rfl)) dX6_pass_15 ⟨Nat.le_of_ble_eq_true rfl, Nat.le_of_ble_eq_true rfl⟩) hS (fun q _ h => hFc_15 q h) hFc_15 (fun uu tt H1 locs ht hvm hw hB hz1 hk1 hS => ?_)
    obtain ⟨hP, hD⟩ := muE.join (ws' := mG ct a (nI k) (nI t) (rowOf v) v.2 (rowOf v) v.2 (hisI w) (hisF w) (hisI sl) (hisF sl) ik tx rd) hP hD (List.Perm.of_eq (List.append_nil _).symm) (List.Perm.of_eq (List.append_nil _).symm) hk1 hFc_15 ht hB
    generalize H1 = H at hP hS ⊢
    refine lv_iconst (v := 0) hx hb dX6_pass_18 (by decide) ?_
    refine lv_istore_n (lv' := [(2, .int 0), (0, .ref (a 0)), (1, .int (nI n))]) hx hb dX6_pass_19 rfl hl (by decide) rfl (fun ls hl => ?_)
    refine lv_iconst (v := 0) hx hb dX6_pass_20 (by decide) ?_
    refine lv_istore_n (lv' := [(3, .int 0), (2, .int 0), (0, .ref (a 0)), (1, .int (nI n))]) hx hb dX6_pass_21 rfl hl (by decide) rfl (fun ls hl => ?_)
    have loop_22 : ∀ (n_22 : Nat) (i : Nat) (x : Int32), (i ≤ n) → (n + 1 ≤ i + n_22) → (x = pTkN v i) → ∀ (H : Heap) (locs : List Loc), va_P D vwCl (mG ct a (nI k) (nI t) (rowOf (pTks v i)) ((pTks v i).2) (rowOf v) v.2 (hisI w) (hisF w) (hisI sl) (hisF sl) ik tx rd) H → va_D A (mG ct a (nI k) (nI t) (rowOf (pTks v i)) ((pTks v i).2) (rowOf v) v.2 (hisI w) (hisF w) (hisI sl) (hisF sl) ik tx rd) → va_S A s.heap H locs → ∀ (ls : Array Slot), lv_has ls 4 [(0, .ref (a 0)), (1, .int (nI n)), (2, .int x), (3, .int (nI i))] → W p l e (headSpec wsX6_pass ({ frames := 5, cells := 0, slots := 0, locals := 115 })).room s m #[.ref (a 0), .int (nI n)] below meth c H locs 0 0 (MQ below (muI D ct (mG ct a (nI k) (nI t) (rowOf v) v.2 (rowOf u) u.2 (hisI w) (hisF w) (hisI sl) (hisF sl) ik tx rd) (mS ct a (pTks v n) v (hPush w k v) sl (kPush k) t ik tx rd) s.heap.size (fun r => r = pTkN v n)) #[.ref (a 0), .int (nI n)] s 0 0 (A)) (F0 m 22 ls []) := by
      intro n_22
      induction n_22 with
      | zero =>
        intro i x hi hn hx2
        exact absurd hn (by omega)
      | succ n_22 ih_22 =>
        intro i x hi hn hx2 H locs hP hD hS ls hl
        refine lv_iload_n hx hb dX6_pass_22 rfl (lv_at hl 3 rfl) ?_
        refine lv_iload_n hx hb dX6_pass_23 rfl (lv_at hl 1 rfl) ?_
        refine lv_icmp_ge (tgt := 40) hx hb dX6_pass_24 (by decide) (fun c_24 => ?_) (fun c_24 => ?_)
        · have hge : n ≤ i := nI_le' (by omega) (by omega) c_24
          obtain rfl : n = i := by omega
          subst hx2
          refine lv_aload_n hx hb dX6_pass_40 rfl (lv_at hl 0 rfl) ?_
          refine lv_iload_n hx hb dX6_pass_41 rfl (lv_at hl 2 rfl) ?_
          have hFc_42 := w_free (wc := mG ct a (nI k) (nI t) (rowOf (pTks v n)) ((pTks v n).2) (rowOf v) v.2 (hisI w) (hisF w) (hisI sl) (hisF sl) ik tx rd) hD (List.Perm.of_eq (List.append_nil _).symm) hS hA
          refine va_calli (va_runV (As := [.int (pTkN v n)]) (rest := []) ⟨hx, hb, hml, hown, hts⟩ (k_X6_done l D ct _ a (nI t) (rowOf (pTks v n)) ((pTks v n).2) v w k hk (hisI sl) (hisF sl) ik tx rd (pTkN v n)) (cwV 1 hts gX6_pass_X6_done rfl rfl rfl (by decide +kernel) ⟨Nat.le_of_ble_eq_true rfl, Nat.le_of_ble_eq_true rfl⟩) ⟨muP.blind, va_recv hK hP (ci := 6) (q0 := 0) rfl rfl, muP.at hP hD hK hN⟩ rfl rfl hl.1 rfl (lv_room (Nat.le_of_ble_eq_true rfl)) dX6_pass_42 ⟨Nat.le_of_ble_eq_true rfl, Nat.le_of_ble_eq_true rfl⟩) hS (fun q _ h => hFc_42 q h) hFc_42 (fun r_42 uu tt H1 locs ht hvm h_42 hB hz1 hk1 hS => ?_)
          obtain ⟨hP, hD⟩ := muE.join (ws' := mG ct a (nI (kPush k)) (nI t) (rowOf (pTks v n)) ((pTks v n).2) (rowOf v) v.2 (hisI (hPush w k v)) (hisF (hPush w k v)) (hisI sl) (hisF sl) ik tx rd) hP hD (List.Perm.of_eq (List.append_nil _).symm) (List.Perm.of_eq (List.append_nil _).symm) hk1 hFc_42 ht hB
          generalize H1 = H at hP hS ⊢
          obtain rfl : r_42 = pTkN v n := h_42
          have hP9 : va_P D vwCl (mS ct a (pTks v n) v (hPush w k v) sl (kPush k) t ik tx rd) H := hP
          have hD9 : va_D A (mS ct a (pTks v n) v (hPush w k v) sl (kPush k) t ik tx rd) := mG_dn hD
          subst hAe
          exact W.iret (v := (pTkN v n)) hx hb hr (fun tt ht hW => ⟨⟨(pTkN v n), (), rfl, rfl, muE.of (ct := ct) hP9 hD9 ht⟩, hS.F ht⟩) hS.2.2 dX6_pass_45
        · have hlt : i < n := nI_nle' (by omega) (by omega) c_24
          refine lv_iload_n hx hb dX6_pass_27 rfl (lv_at hl 2 rfl) ?_
          refine lv_aload_n hx hb dX6_pass_28 rfl (lv_at hl 0 rfl) ?_
          have hFc_29 := w_free (wc := mT ct (a 0) (a 1) (a 2) (mTl2 a (nI k) (nI t)) (pTks v i)) hD (mG_pT) hS hA
          refine va_calli (va_runV (As := []) (rest := [.int x]) ⟨hx, hb, hml, hown, hts⟩ (k_X6_tick l D ct _ (a 0) (a 1) (a 2) (mTl2 a (nI k) (nI t)) (pTks v i) (Inv_tks ok i)) (cwV 0 hts gX6_pass_X6_tick rfl rfl rfl (by decide +kernel) ⟨Nat.le_of_ble_eq_true rfl, Nat.le_of_ble_eq_true rfl⟩) ⟨muP.blind, va_recv hK (mG_T hP) (ci := 6) (q0 := 0) rfl rfl, muP.at (mG_T hP) (mG_TD hD) hK hN⟩ rfl rfl hl.1 rfl (lv_room (Nat.le_of_ble_eq_true rfl)) dX6_pass_29 ⟨Nat.le_of_ble_eq_true rfl, Nat.le_of_ble_eq_true rfl⟩) hS (fun q _ h => hFc_29 q h) hFc_29 (fun r_29 uu tt H1 locs ht hvm h_29 hB hz1 hk1 hS => ?_)
          obtain ⟨hP, hD⟩ := muE.join (ws' := mG ct a (nI k) (nI t) (rowOf (pTick (pTks v i))) ((pTick (pTks v i)).2) (rowOf v) v.2 (hisI w) (hisF w) (hisI sl) (hisF sl) ik tx rd) hP hD (mG_pT) (mG_pT) hk1 hFc_29 ht hB
          generalize H1 = H at hP hS ⊢
          obtain rfl : r_29 = pTickN (pTks v i) := h_29
          refine lv_iadd hx hb dX6_pass_32 ?_
          refine lv_istore_n (lv' := [(2, .int (x + (pTickN (pTks v i)))), (0, .ref (a 0)), (1, .int (nI n)), (3, .int (nI i))]) hx hb dX6_pass_33 rfl hl (by decide) rfl (fun ls hl => ?_)
          refine lv_iinc (v := nI (i + 1)) (lv' := [(3, .int (nI (i + 1))), (2, .int (x + (pTickN (pTks v i)))), (0, .ref (a 0)), (1, .int (nI n))]) hx hb dX6_pass_34 hl (k := 3) rfl ((nI_succ i).symm) (by decide) rfl (fun ls hl => ?_)
          refine lv_goto (tgt := 22) hx hb dX6_pass_37 (by decide) ?_
          exact ih_22 (i + 1) _ (by omega) (by omega) (by rw [hx2, pTkN_s]) _ _ (by rw [← pTks_s]; exact hP) (mG_dn hD) hS ls (lv_sub hl [2, 3, 1, 0] rfl)
    exact loop_22 (n + 1) 0 0 (Nat.zero_le _) (by omega) rfl _ _ (by rw [← pTks_z]; exact hP) (mG_dn hD) hS ls (lv_sub hl [2, 3, 1, 0] rfl)
  · exact absurd c_8 hin

set_option maxHeartbeats 4000000 in
set_option maxRecDepth 100000 in
theorem k_X6_passFrames_e2 (l : Launch) (D : va_G) (ct : Nat → ClassId) (a : Nat → Nat) (v u : SV) (w sl : Nat → SV) (k t : Nat) (hk : k ≤ 5) (ik tx rd : Nat → Int32) (y : Int32) (hin : pIn y 1 20 = 0) : Met l yX6_passFrames wsX6_passFrames ({ frames := 5, cells := 0, slots := 0, locals := 115 }) (roP D ct (mG ct a (nI k) (nI t) (rowOf v) v.2 (rowOf u) u.2 (hisI w) (hisF w) (hisI sl) (hisF sl) ik tx rd) [.ref (a 0), .int y]) (vp_Si (fun r => r = -2)) 0 0 noA := by
  refine Met.ofW (cc := cX6_passFrames) (maxL := 4) (ret := (some .int)) (by decide) rfl ?_
  intro p e s m args below meth c s₁ B hml hv
  obtain ⟨rfl, hP, hK, hN⟩ := hv
  have hx := B.exec
  have hb := B.bytes
  have hr := B.returns
  have hts := atoms_spec (ws := wsX6_passFrames) B.pre
  have hown : s.vm.findClass RX6 = some m.cls := findClass_of_methodNamed B.named
  have hlocks := B.notSynchronized
  have hl := lv_entry ([.ref (a 0), .int y]) (n := 4) (Nat.le_of_ble_eq_true rfl)
  rw [lg_entry_eq]
  generalize (lg_sl ([.ref (a 0), .int y]) ++ List.replicate (4 - (lg_sl ([.ref (a 0), .int y])).length) Slot.unset).toArray = ls at hl ⊢
  have hl : lv_has ls 4 [(0, .ref (a 0)), (1, .int y)] := hl
  refine lv_iload_n hx hb dX6_passFrames_0 rfl (lv_at hl 1 rfl) ?_
  refine lv_iconst (v := 1) hx hb dX6_passFrames_1 (by decide) ?_
  refine lv_bipush (v := 20) hx hb dX6_passFrames_2 (by decide) ?_
  refine vp_callSi (va_runS (As := [.int y, .int 1, .int 20]) (rest := []) ⟨hx, hb, hml, hown, hts⟩ (k_X6_in l D ct y 1 20) (va_cwS 3 hts gX6_passFrames_X6_in rfl rfl rfl (by decide +kernel) ⟨Nat.le_of_ble_eq_true rfl, Nat.le_of_ble_eq_true rfl⟩) ⟨roP.blind, roP.at pw_nil hK hN⟩ rfl rfl hl.1 rfl (lv_room (Nat.le_of_ble_eq_true rfl)) dX6_passFrames_4 ⟨Nat.le_of_ble_eq_true rfl, Nat.le_of_ble_eq_true rfl⟩).run (fun r_4 h_4 => ?_)
  obtain rfl : r_4 = pIn y 1 20 := h_4
  refine lv_if_ne (tgt := 13) hx hb dX6_passFrames_7 (by decide) (fun c_7 => ?_) (fun c_7 => ?_)
  · exact absurd hin c_7
  · refine lv_bipush (v := (-2)) hx hb dX6_passFrames_10 (by decide) ?_
    exact W.iret (v := (-2)) hx hb hr (fun tt ht hW => ⟨(-2), rfl, rfl, ht⟩) (fun q hq => absurd hq List.not_mem_nil) dX6_passFrames_12

set_option maxHeartbeats 4000000 in
set_option maxRecDepth 100000 in
theorem k_X6_passFrames_ok (l : Launch) (D : va_G) (ct : Nat → ClassId) (sz : Nat) (a : Nat → Nat) (v u : SV) (w sl : Nat → SV) (k t : Nat) (hk : k ≤ 5) (ik tx rd : Nat → Int32) (ok : Inv v) (n : Nat) (h1 : 1 ≤ n) (h2 : n ≤ 20) (F : Nat) (hF : v.1 0 2 = nI F) (hF2 : F < 2 ^ 30) : Met l yX6_passFrames wsX6_passFrames ({ frames := 5, cells := 0, slots := 0, locals := 115 }) (muP D ct (mG ct a (nI k) (nI t) (rowOf v) v.2 (rowOf u) u.2 (hisI w) (hisF w) (hisI sl) (hisF sl) ik tx rd) sz [.ref (a 0), .int (nI n)]) (muI D ct (mG ct a (nI k) (nI t) (rowOf v) v.2 (rowOf u) u.2 (hisI w) (hisF w) (hisI sl) (hisF sl) ik tx rd) (mS ct a (pTks v (pfN v n)) v (hPush w k v) sl (kPush k) t ik tx rd) sz (fun r => r = (pTks v (pfN v n)).1 0 1)) 0 0 (va_A (mG ct a (nI k) (nI t) (rowOf v) v.2 (rowOf u) u.2 (hisI w) (hisF w) (hisI sl) (hisF sl) ik tx rd) sz) := by
  refine Met.ofW (cc := cX6_passFrames) (maxL := 4) (ret := (some .int)) (by decide) rfl ?_
  intro p e s m args below meth c s₁ B hml hv
  obtain ⟨rfl, hsz, hP, hK, hN, hD0⟩ := hv
  have hx := B.exec
  have hb := B.bytes
  have hr := B.returns
  have hts := atoms_spec (ws := wsX6_passFrames) B.pre
  have hown : s.vm.findClass RX6 = some m.cls := findClass_of_methodNamed B.named
  have hlocks := B.notSynchronized
  subst hsz
  have hD := hD0.self (sz := s.heap.size)
  generalize hAe : va_A (mG ct a (nI k) (nI t) (rowOf v) v.2 (rowOf u) u.2 (hisI w) (hisF w) (hisI sl) (hisF sl) ik tx rd) s.heap.size = A at hD
  have hA : ∀ q : Nat, s.heap.size ≤ q → A q := fun q h => by rw [← hAe]; exact Or.inr h
  have hS : va_S A s.heap s.heap [] := va_S.rf
  have w_1 := hts (.fieldLink RX6 7 "ScannedDigitsModel" "row" "[I") (List.mem_of_getElem? (i := 1) rfl)
  have hiX6 : ∀ w ∈ wsX60, w ∈ wsX6_passFrames := fun w h => (goodIn_r wsX60 [78, 79, 80, 81, 82, 83, 84, 85, 86, 87, 88, 89, 90] (by decide +kernel) (by decide +kernel) w h).1
  have hl := lv_entry ([.ref (a 0), .int (nI n)]) (n := 4) (Nat.le_of_ble_eq_true rfl)
  rw [lg_entry_eq]
  generalize (lg_sl ([.ref (a 0), .int (nI n)]) ++ List.replicate (4 - (lg_sl ([.ref (a 0), .int (nI n)])).length) Slot.unset).toArray = ls at hl ⊢
  have hl : lv_has ls 4 [(0, .ref (a 0)), (1, .int (nI n))] := hl
  have hin : ¬ pIn (nI n) 1 20 = 0 := pIn_ok (a := 1) (b := 20) rfl rfl h1 h2 (by decide)
  have hfr := fr_ge ok hF hF2 h1 h2
  refine lv_iload_n hx hb dX6_passFrames_0 rfl (lv_at hl 1 rfl) ?_
  refine lv_iconst (v := 1) hx hb dX6_passFrames_1 (by decide) ?_
  refine lv_bipush (v := 20) hx hb dX6_passFrames_2 (by decide) ?_
  refine vp_callSi (va_runS (As := [.int (nI n), .int 1, .int 20]) (rest := []) ⟨hx, hb, hml, hown, hts⟩ (k_X6_in l D ct (nI n) 1 20) (va_cwS 3 hts gX6_passFrames_X6_in rfl rfl rfl (by decide +kernel) ⟨Nat.le_of_ble_eq_true rfl, Nat.le_of_ble_eq_true rfl⟩) ⟨roP.blind, roP.at pw_nil hK hN⟩ rfl rfl hl.1 rfl (lv_room (Nat.le_of_ble_eq_true rfl)) dX6_passFrames_4 ⟨Nat.le_of_ble_eq_true rfl, Nat.le_of_ble_eq_true rfl⟩).run (fun r_4 h_4 => ?_)
  obtain rfl : r_4 = pIn (nI n) 1 20 := h_4
  refine lv_if_ne (tgt := 13) hx hb dX6_passFrames_7 (by decide) (fun c_7 => ?_) (fun c_7 => ?_)
  · refine lv_aload_n hx hb dX6_passFrames_13 rfl (lv_at hl 0 rfl) ?_
    have hFc_14 := w_free (wc := mG ct a (nI k) (nI t) (rowOf v) v.2 (rowOf u) u.2 (hisI w) (hisF w) (hisI sl) (hisF sl) ik tx rd) hD (List.Perm.of_eq (List.append_nil _).symm) hS hA
    refine va_callv (va_runV (As := []) (rest := []) ⟨hx, hb, hml, hown, hts⟩ (k_X6_begin l D ct _ a (nI k) (nI t) (rowOf v) v.2 (rowOf u) u.2 (hisI w) (hisF w) (hisI sl) (hisF sl) ik tx rd) (cwV 0 hts gX6_passFrames_X6_begin rfl rfl rfl (by decide +kernel) ⟨Nat.le_of_ble_eq_true rfl, Nat.le_of_ble_eq_true rfl⟩) ⟨muP.blind, va_recv hK hP (ci := 6) (q0 := 0) rfl rfl, muP.at hP hD hK hN⟩ rfl rfl hl.1 rfl (lv_room (Nat.le_of_ble_eq_true rfl)) dX6_passFrames_14 ⟨Nat.le_of_ble_eq_true rfl, Nat.le_of_ble_eq_true rfl⟩) hS (fun q _ h => hFc_14 q h) hFc_14 (fun uu tt H1 locs ht hvm hw hB hz1 hk1 hS => ?_)
    obtain ⟨hP, hD⟩ := muE.join (ws' := mG ct a (nI k) (nI t) (rowOf v) v.2 (rowOf v) v.2 (hisI w) (hisF w) (hisI sl) (hisF sl) ik tx rd) hP hD (List.Perm.of_eq (List.append_nil _).symm) (List.Perm.of_eq (List.append_nil _).symm) hk1 hFc_14 ht hB
    generalize H1 = H at hP hS ⊢
    refine lv_aload_n hx hb dX6_passFrames_17 rfl (lv_at hl 0 rfl) ?_
    refine va_get (D := D) (ci := 6) (v := .ref (a 1)) (C := RX6) (T := TX6) (N := 13) hx hb hts hiX6 hown hK hP 0 rfl rfl 0 (by decide) w_1 (fun _ h9 => h9) rfl dX6_passFrames_18 ?_
    refine lv_iconst (v := 2) hx hb dX6_passFrames_21 (by decide) ?_
    refine r_iald hx hb hK hP 1 0 rfl rfl (k := 2) (rfl) (by decide) (by decide) dX6_passFrames_22 ?_
    refine lv_as (y := nI F) ((row_0 v (by decide)).trans hF) ?_
    refine lv_iload_n hx hb dX6_passFrames_23 rfl (lv_at hl 1 rfl) ?_
    refine lv_iadd hx hb dX6_passFrames_24 ?_
    refine lv_as (y := nI (F + n)) (nI_add _ _) ?_
    refine lv_istore_n (lv' := [(2, .int (nI (F + n))), (0, .ref (a 0)), (1, .int (nI n))]) hx hb dX6_passFrames_25 rfl hl (by decide) rfl (fun ls hl => ?_)
    have loop_26 : ∀ (n_26 : Nat) (i : Nat), (i ≤ pfN v n) → (pfN v n + 1 ≤ i + n_26) → ∀ (H : Heap) (locs : List Loc), va_P D vwCl (mG ct a (nI k) (nI t) (rowOf (pTks v i)) ((pTks v i).2) (rowOf v) v.2 (hisI w) (hisF w) (hisI sl) (hisF sl) ik tx rd) H → va_D A (mG ct a (nI k) (nI t) (rowOf (pTks v i)) ((pTks v i).2) (rowOf v) v.2 (hisI w) (hisF w) (hisI sl) (hisF sl) ik tx rd) → va_S A s.heap H locs → ∀ (ls : Array Slot), lv_has ls 4 [(0, .ref (a 0)), (2, .int (nI (F + n)))] → W p l e (headSpec wsX6_passFrames ({ frames := 5, cells := 0, slots := 0, locals := 115 })).room s m #[.ref (a 0), .int (nI n)] below meth c H locs 0 0 (MQ below (muI D ct (mG ct a (nI k) (nI t) (rowOf v) v.2 (rowOf u) u.2 (hisI w) (hisF w) (hisI sl) (hisF sl) ik tx rd) (mS ct a (pTks v (pfN v n)) v (hPush w k v) sl (kPush k) t ik tx rd) s.heap.size (fun r => r = (pTks v (pfN v n)).1 0 1)) #[.ref (a 0), .int (nI n)] s 0 0 (A)) (F0 m 26 ls []) := by
      intro n_26
      induction n_26 with
      | zero =>
        intro i hi hn
        exact absurd hn (by omega)
      | succ n_26 ih_26 =>
        intro i hi hn H locs hP hD hS ls hl
        refine lv_aload_n hx hb dX6_passFrames_26 rfl (lv_at hl 0 rfl) ?_
        refine va_get (D := D) (ci := 6) (v := .ref (a 1)) (C := RX6) (T := TX6) (N := 13) hx hb hts hiX6 hown hK hP 0 rfl rfl 0 (by decide) w_1 (fun _ h9 => h9) rfl dX6_passFrames_27 ?_
        refine lv_iconst (v := 2) hx hb dX6_passFrames_30 (by decide) ?_
        refine r_iald hx hb hK hP 1 0 rfl rfl (k := 2) (rfl) (by decide) (by decide) dX6_passFrames_31 ?_
        refine lv_as (y := (pTks v i).1 0 2) (row_0 _ (by decide)) ?_
        refine lv_iload_n hx hb dX6_passFrames_32 rfl (lv_at hl 1 rfl) ?_
        refine lv_icmp_ge (tgt := 44) hx hb dX6_passFrames_33 (by decide) (fun c_33 => ?_) (fun c_33 => ?_)
        · obtain rfl : i = pfN v n := Nat.le_antisymm hi ((hfr i hi).mp c_33)
          refine lv_aload_n hx hb dX6_passFrames_44 rfl (lv_at hl 0 rfl) ?_
          refine lv_aload_n hx hb dX6_passFrames_45 rfl (lv_at hl 0 rfl) ?_
          refine va_get (D := D) (ci := 6) (v := .ref (a 1)) (C := RX6) (T := TX6) (N := 13) hx hb hts hiX6 hown hK hP 0 rfl rfl 0 (by decide) w_1 (fun _ h9 => h9) rfl dX6_passFrames_46 ?_
          refine lv_iconst (v := 1) hx hb dX6_passFrames_49 (by decide) ?_
          refine r_iald hx hb hK hP 1 0 rfl rfl (k := 1) (rfl) (by decide) (by decide) dX6_passFrames_50 ?_
          refine lv_as (y := (pTks v (pfN v n)).1 0 1) (row_0 _ (by decide)) ?_
          have hFc_51 := w_free (wc := mG ct a (nI k) (nI t) (rowOf (pTks v (pfN v n))) ((pTks v (pfN v n)).2) (rowOf v) v.2 (hisI w) (hisF w) (hisI sl) (hisF sl) ik tx rd) hD (List.Perm.of_eq (List.append_nil _).symm) hS hA
          refine va_calli (va_runV (As := [.int ((pTks v (pfN v n)).1 0 1)]) (rest := []) ⟨hx, hb, hml, hown, hts⟩ (k_X6_done l D ct _ a (nI t) (rowOf (pTks v (pfN v n))) ((pTks v (pfN v n)).2) v w k hk (hisI sl) (hisF sl) ik tx rd ((pTks v (pfN v n)).1 0 1)) (cwV 1 hts gX6_passFrames_X6_done rfl rfl rfl (by decide +kernel) ⟨Nat.le_of_ble_eq_true rfl, Nat.le_of_ble_eq_true rfl⟩) ⟨muP.blind, va_recv hK hP (ci := 6) (q0 := 0) rfl rfl, muP.at hP hD hK hN⟩ rfl rfl hl.1 rfl (lv_room (Nat.le_of_ble_eq_true rfl)) dX6_passFrames_51 ⟨Nat.le_of_ble_eq_true rfl, Nat.le_of_ble_eq_true rfl⟩) hS (fun q _ h => hFc_51 q h) hFc_51 (fun r_51 uu tt H1 locs ht hvm h_51 hB hz1 hk1 hS => ?_)
          obtain ⟨hP, hD⟩ := muE.join (ws' := mG ct a (nI (kPush k)) (nI t) (rowOf (pTks v (pfN v n))) ((pTks v (pfN v n)).2) (rowOf v) v.2 (hisI (hPush w k v)) (hisF (hPush w k v)) (hisI sl) (hisF sl) ik tx rd) hP hD (List.Perm.of_eq (List.append_nil _).symm) (List.Perm.of_eq (List.append_nil _).symm) hk1 hFc_51 ht hB
          generalize H1 = H at hP hS ⊢
          obtain rfl : r_51 = (pTks v (pfN v n)).1 0 1 := h_51
          have hP9 : va_P D vwCl (mS ct a (pTks v (pfN v n)) v (hPush w k v) sl (kPush k) t ik tx rd) H := hP
          have hD9 : va_D A (mS ct a (pTks v (pfN v n)) v (hPush w k v) sl (kPush k) t ik tx rd) := mG_dn hD
          subst hAe
          exact W.iret (v := ((pTks v (pfN v n)).1 0 1)) hx hb hr (fun tt ht hW => ⟨⟨((pTks v (pfN v n)).1 0 1), (), rfl, rfl, muE.of (ct := ct) hP9 hD9 ht⟩, hS.F ht⟩) hS.2.2 dX6_passFrames_54
        · have hlt : i < pfN v n := Nat.lt_of_not_le (fun z => c_33 ((hfr i hi).mpr z))
          refine lv_aload_n hx hb dX6_passFrames_36 rfl (lv_at hl 0 rfl) ?_
          have hFc_37 := w_free (wc := mT ct (a 0) (a 1) (a 2) (mTl2 a (nI k) (nI t)) (pTks v i)) hD (mG_pT) hS hA
          refine va_calli (va_runV (As := []) (rest := []) ⟨hx, hb, hml, hown, hts⟩ (k_X6_tick l D ct _ (a 0) (a 1) (a 2) (mTl2 a (nI k) (nI t)) (pTks v i) (Inv_tks ok i)) (cwV 0 hts gX6_passFrames_X6_tick rfl rfl rfl (by decide +kernel) ⟨Nat.le_of_ble_eq_true rfl, Nat.le_of_ble_eq_true rfl⟩) ⟨muP.blind, va_recv hK (mG_T hP) (ci := 6) (q0 := 0) rfl rfl, muP.at (mG_T hP) (mG_TD hD) hK hN⟩ rfl rfl hl.1 rfl (lv_room (Nat.le_of_ble_eq_true rfl)) dX6_passFrames_37 ⟨Nat.le_of_ble_eq_true rfl, Nat.le_of_ble_eq_true rfl⟩) hS (fun q _ h => hFc_37 q h) hFc_37 (fun r_37 uu tt H1 locs ht hvm h_37 hB hz1 hk1 hS => ?_)
          obtain ⟨hP, hD⟩ := muE.join (ws' := mG ct a (nI k) (nI t) (rowOf (pTick (pTks v i))) ((pTick (pTks v i)).2) (rowOf v) v.2 (hisI w) (hisF w) (hisI sl) (hisF sl) ik tx rd) hP hD (mG_pT) (mG_pT) hk1 hFc_37 ht hB
          generalize H1 = H at hP hS ⊢
          obtain rfl : r_37 = pTickN (pTks v i) := h_37
          refine lv_istore_n (lv' := [(3, .int (pTickN (pTks v i))), (0, .ref (a 0)), (2, .int (nI (F + n)))]) hx hb dX6_passFrames_40 rfl hl (by decide) rfl (fun ls hl => ?_)
          refine lv_goto (tgt := 26) hx hb dX6_passFrames_41 (by decide) ?_
          exact ih_26 (i + 1) (by omega) (by omega) _ _ (by rw [← pTks_s]; exact hP) (mG_dn hD) hS ls (lv_sub hl [1, 2] rfl)
    exact loop_26 (pfN v n + 1) 0 (Nat.zero_le _) (by omega) _ _ (by rw [← pTks_z]; exact hP) (mG_dn hD) hS ls (lv_sub hl [1, 0] rfl)
  · exact absurd c_7 hin

set_option maxHeartbeats 4000000 in
set_option maxRecDepth 100000 in
theorem k_X6_litIn_ok (l : Launch) (D : va_G) (ct : Nat → ClassId) (sz : Nat) (a : Nat → Nat) (v u : SV) (w sl : Nat → SV) (k t : Nat) (hk : k ≤ 5) (ik tx rd : Nat → Int32) (ok : Inv v) (d : Nat) (hd : d < nOf v) (n : Nat) (h5 : n ≤ 500) : Met l yX6_litIn wsX6_litIn ({ frames := 5, cells := 0, slots := 0, locals := 115 }) (muP D ct (mG ct a (nI k) (nI t) (rowOf v) v.2 (rowOf u) u.2 (hisI w) (hisF w) (hisI sl) (hisF sl) ik tx rd) sz [.ref (a 0), .int (nI d), .int (nI n)]) (muI D ct (mG ct a (nI k) (nI t) (rowOf v) v.2 (rowOf u) u.2 (hisI w) (hisF w) (hisI sl) (hisF sl) ik tx rd) (mS ct a v v w sl k t ik tx rd) sz (fun r => r = pLit (pTks v n) d)) 0 0 (va_A (mG ct a (nI k) (nI t) (rowOf v) v.2 (rowOf u) u.2 (hisI w) (hisF w) (hisI sl) (hisF sl) ik tx rd) sz) := by
  refine Met.ofW (cc := cX6_litIn) (maxL := 5) (ret := (some .int)) (by decide) rfl ?_
  intro p e s m args below meth c s₁ B hml hv
  obtain ⟨rfl, hsz, hP, hK, hN, hD0⟩ := hv
  have hx := B.exec
  have hb := B.bytes
  have hr := B.returns
  have hts := atoms_spec (ws := wsX6_litIn) B.pre
  have hown : s.vm.findClass RX6 = some m.cls := findClass_of_methodNamed B.named
  have hlocks := B.notSynchronized
  subst hsz
  have hD := hD0.self (sz := s.heap.size)
  generalize hAe : va_A (mG ct a (nI k) (nI t) (rowOf v) v.2 (rowOf u) u.2 (hisI w) (hisF w) (hisI sl) (hisF sl) ik tx rd) s.heap.size = A at hD
  have hA : ∀ q : Nat, s.heap.size ≤ q → A q := fun q h => by rw [← hAe]; exact Or.inr h
  have hS : va_S A s.heap s.heap [] := va_S.rf
  have hl := lv_entry ([.ref (a 0), .int (nI d), .int (nI n)]) (n := 5) (Nat.le_of_ble_eq_true rfl)
  rw [lg_entry_eq]
  generalize (lg_sl ([.ref (a 0), .int (nI d), .int (nI n)]) ++ List.replicate (5 - (lg_sl ([.ref (a 0), .int (nI d), .int (nI n)])).length) Slot.unset).toArray = ls at hl ⊢
  have hl : lv_has ls 5 [(0, .ref (a 0)), (1, .int (nI d)), (2, .int (nI n))] := hl
  have hd8 : d < 8 := Nat.lt_of_lt_of_le hd ok.n8
  have hvd := vD_of ok hd
  have hin : ¬ pIn (nI n) 0 500 = 0 := pIn_ok (a := 0) (b := 500) rfl rfl (Nat.zero_le _) h5 (by decide)
  refine lv_aload_n hx hb dX6_litIn_0 rfl (lv_at hl 0 rfl) ?_
  refine lv_iload_n hx hb dX6_litIn_1 rfl (lv_at hl 1 rfl) ?_
  refine vp_callSi (va_runV (As := [.int (nI d)]) (rest := []) ⟨hx, hb, hml, hown, hts⟩ (k_X6_noDigit l D ct (a 0) (a 1) (mTl a (nI k) (nI t)) v (nI d)) (cwV 1 hts gX6_litIn_X6_noDigit rfl rfl rfl (by decide +kernel) ⟨Nat.le_of_ble_eq_true rfl, Nat.le_of_ble_eq_true rfl⟩) ⟨roP.blind, va_recv hK (mG_R hP) (ci := 6) (q0 := 0) rfl rfl, roP.at (mG_R hP) hK hN⟩ rfl rfl hl.1 rfl (lv_room (Nat.le_of_ble_eq_true rfl)) dX6_litIn_2 ⟨Nat.le_of_ble_eq_true rfl, Nat.le_of_ble_eq_true rfl⟩).run (fun r_2 h_2 => ?_)
  obtain rfl : r_2 = if vD v (nI d) then 0 else 1 := h_2
  refine lv_if_eq (tgt := 10) hx hb dX6_litIn_5 (by decide) (fun c_5 => ?_) (fun c_5 => ?_)
  · refine lv_iload_n hx hb dX6_litIn_10 rfl (lv_at hl 2 rfl) ?_
    refine lv_iconst (v := 0) hx hb dX6_litIn_11 (by decide) ?_
    refine lv_sipush (v := 500) hx hb dX6_litIn_12 (by decide) ?_
    refine vp_callSi (va_runS (As := [.int (nI n), .int 0, .int 500]) (rest := []) ⟨hx, hb, hml, hown, hts⟩ (k_X6_in l D ct (nI n) 0 500) (va_cwS 3 hts gX6_litIn_X6_in rfl rfl rfl (by decide +kernel) ⟨Nat.le_of_ble_eq_true rfl, Nat.le_of_ble_eq_true rfl⟩) ⟨roP.blind, roP.at pw_nil hK hN⟩ rfl rfl hl.1 rfl (lv_room (Nat.le_of_ble_eq_true rfl)) dX6_litIn_15 ⟨Nat.le_of_ble_eq_true rfl, Nat.le_of_ble_eq_true rfl⟩).run (fun r_15 h_15 => ?_)
    obtain rfl : r_15 = pIn (nI n) 0 500 := h_15
    refine lv_if_ne (tgt := 24) hx hb dX6_litIn_18 (by decide) (fun c_18 => ?_) (fun c_18 => ?_)
    · refine lv_aload_n hx hb dX6_litIn_24 rfl (lv_at hl 0 rfl) ?_
      have hFc_25 := w_free (wc := mG ct a (nI k) (nI t) (rowOf v) v.2 (rowOf u) u.2 (hisI w) (hisF w) (hisI sl) (hisF sl) ik tx rd) hD (List.Perm.of_eq (List.append_nil _).symm) hS hA
      refine va_callv (va_runV (As := []) (rest := []) ⟨hx, hb, hml, hown, hts⟩ (k_X6_begin l D ct _ a (nI k) (nI t) (rowOf v) v.2 (rowOf u) u.2 (hisI w) (hisF w) (hisI sl) (hisF sl) ik tx rd) (cwV 0 hts gX6_litIn_X6_begin rfl rfl rfl (by decide +kernel) ⟨Nat.le_of_ble_eq_true rfl, Nat.le_of_ble_eq_true rfl⟩) ⟨muP.blind, va_recv hK hP (ci := 6) (q0 := 0) rfl rfl, muP.at hP hD hK hN⟩ rfl rfl hl.1 rfl (lv_room (Nat.le_of_ble_eq_true rfl)) dX6_litIn_25 ⟨Nat.le_of_ble_eq_true rfl, Nat.le_of_ble_eq_true rfl⟩) hS (fun q _ h => hFc_25 q h) hFc_25 (fun uu tt H1 locs ht hvm hw hB hz1 hk1 hS => ?_)
      obtain ⟨hP, hD⟩ := muE.join (ws' := mG ct a (nI k) (nI t) (rowOf v) v.2 (rowOf v) v.2 (hisI w) (hisF w) (hisI sl) (hisF sl) ik tx rd) hP hD (List.Perm.of_eq (List.append_nil _).symm) (List.Perm.of_eq (List.append_nil _).symm) hk1 hFc_25 ht hB
      generalize H1 = H at hP hS ⊢
      refine lv_iconst (v := 0) hx hb dX6_litIn_28 (by decide) ?_
      refine lv_istore_n (lv' := [(3, .int 0), (0, .ref (a 0)), (1, .int (nI d)), (2, .int (nI n))]) hx hb dX6_litIn_29 rfl hl (by decide) rfl (fun ls hl => ?_)
      have loop_30 : ∀ (n_30 : Nat) (i : Nat), (i ≤ n) → (n + 1 ≤ i + n_30) → ∀ (H : Heap) (locs : List Loc), va_P D vwCl (mG ct a (nI k) (nI t) (rowOf (pTks v i)) ((pTks v i).2) (rowOf v) v.2 (hisI w) (hisF w) (hisI sl) (hisF sl) ik tx rd) H → va_D A (mG ct a (nI k) (nI t) (rowOf (pTks v i)) ((pTks v i).2) (rowOf v) v.2 (hisI w) (hisF w) (hisI sl) (hisF sl) ik tx rd) → va_S A s.heap H locs → ∀ (ls : Array Slot), lv_has ls 5 [(0, .ref (a 0)), (1, .int (nI d)), (2, .int (nI n)), (3, .int (nI i))] → W p l e (headSpec wsX6_litIn ({ frames := 5, cells := 0, slots := 0, locals := 115 })).room s m #[.ref (a 0), .int (nI d), .int (nI n)] below meth c H locs 0 0 (MQ below (muI D ct (mG ct a (nI k) (nI t) (rowOf v) v.2 (rowOf u) u.2 (hisI w) (hisF w) (hisI sl) (hisF sl) ik tx rd) (mS ct a v v w sl k t ik tx rd) s.heap.size (fun r => r = pLit (pTks v n) d)) #[.ref (a 0), .int (nI d), .int (nI n)] s 0 0 (A)) (F0 m 30 ls []) := by
        intro n_30
        induction n_30 with
        | zero =>
          intro i hi hn
          exact absurd hn (by omega)
        | succ n_30 ih_30 =>
          intro i hi hn H locs hP hD hS ls hl
          refine lv_iload_n hx hb dX6_litIn_30 rfl (lv_at hl 3 rfl) ?_
          refine lv_iload_n hx hb dX6_litIn_31 rfl (lv_at hl 2 rfl) ?_
          refine lv_icmp_ge (tgt := 47) hx hb dX6_litIn_32 (by decide) (fun c_32 => ?_) (fun c_32 => ?_)
          · have hge : n ≤ i := nI_le' (by omega) (by omega) c_32
            obtain rfl : n = i := by omega
            refine lv_aload_n hx hb dX6_litIn_47 rfl (lv_at hl 0 rfl) ?_
            refine lv_iload_n hx hb dX6_litIn_48 rfl (lv_at hl 1 rfl) ?_
            refine vp_callSi (va_runV (As := [.int (nI d)]) (rest := []) ⟨hx, hb, hml, hown, hts⟩ (k_X6_litNow l D ct (a 0) (a 1) (mTl a (nI k) (nI t)) (pTks v n) d (by rw [tks_n]; exact hd) (Inv_tks ok n)) (cwV 1 hts gX6_litIn_X6_litNow rfl rfl rfl (by decide +kernel) ⟨Nat.le_of_ble_eq_true rfl, Nat.le_of_ble_eq_true rfl⟩) ⟨roP.blind, va_recv hK (mG_R hP) (ci := 6) (q0 := 0) rfl rfl, roP.at (mG_R hP) hK hN⟩ rfl rfl hl.1 rfl (lv_room (Nat.le_of_ble_eq_true rfl)) dX6_litIn_49 ⟨Nat.le_of_ble_eq_true rfl, Nat.le_of_ble_eq_true rfl⟩).run (fun r_49 h_49 => ?_)
            obtain rfl : r_49 = pLit (pTks v n) d := h_49
            refine lv_istore_n (lv' := [(3, .int (pLit (pTks v n) d)), (0, .ref (a 0)), (1, .int (nI d)), (2, .int (nI n))]) hx hb dX6_litIn_52 rfl hl (by decide) rfl (fun ls hl => ?_)
            refine lv_aload_n hx hb dX6_litIn_53 rfl (lv_at hl 1 rfl) ?_
            have hFc_54 := w_free (wc := mG ct a (nI k) (nI t) (rowOf (pTks v n)) ((pTks v n).2) (rowOf v) v.2 (hisI w) (hisF w) (hisI sl) (hisF sl) ik tx rd) hD (List.Perm.of_eq (List.append_nil _).symm) hS hA
            refine va_callv (va_runV (As := []) (rest := []) ⟨hx, hb, hml, hown, hts⟩ (k_X6_goBack l D ct _ a (nI k) (nI t) (rowOf (pTks v n)) (pTks v n).2 (rowOf v) v.2 (hisI w) (hisF w) (hisI sl) (hisF sl) ik tx rd) (cwV 0 hts gX6_litIn_X6_goBack rfl rfl rfl (by decide +kernel) ⟨Nat.le_of_ble_eq_true rfl, Nat.le_of_ble_eq_true rfl⟩) ⟨muP.blind, va_recv hK hP (ci := 6) (q0 := 0) rfl rfl, muP.at hP hD hK hN⟩ rfl rfl hl.1 rfl (lv_room (Nat.le_of_ble_eq_true rfl)) dX6_litIn_54 ⟨Nat.le_of_ble_eq_true rfl, Nat.le_of_ble_eq_true rfl⟩) hS (fun q _ h => hFc_54 q h) hFc_54 (fun uu tt H1 locs ht hvm hw hB hz1 hk1 hS => ?_)
            obtain ⟨hP, hD⟩ := muE.join (ws' := mG ct a (nI k) (nI t) (rowOf v) v.2 (rowOf v) v.2 (hisI w) (hisF w) (hisI sl) (hisF sl) ik tx rd) hP hD (List.Perm.of_eq (List.append_nil _).symm) (List.Perm.of_eq (List.append_nil _).symm) hk1 hFc_54 ht hB
            generalize H1 = H at hP hS ⊢
            refine lv_iload_n hx hb dX6_litIn_57 rfl (lv_at hl 0 rfl) ?_
            have hP9 : va_P D vwCl (mS ct a v v w sl k t ik tx rd) H := hP
            have hD9 : va_D A (mS ct a v v w sl k t ik tx rd) := mG_dn hD
            subst hAe
            exact W.iret (v := (pLit (pTks v n) d)) hx hb hr (fun tt ht hW => ⟨⟨(pLit (pTks v n) d), (), rfl, rfl, muE.of (ct := ct) hP9 hD9 ht⟩, hS.F ht⟩) hS.2.2 dX6_litIn_58
          · have hlt : i < n := nI_nle' (by omega) (by omega) c_32
            refine lv_aload_n hx hb dX6_litIn_35 rfl (lv_at hl 0 rfl) ?_
            have hFc_36 := w_free (wc := mT ct (a 0) (a 1) (a 2) (mTl2 a (nI k) (nI t)) (pTks v i)) hD (mG_pT) hS hA
            refine va_calli (va_runV (As := []) (rest := []) ⟨hx, hb, hml, hown, hts⟩ (k_X6_tick l D ct _ (a 0) (a 1) (a 2) (mTl2 a (nI k) (nI t)) (pTks v i) (Inv_tks ok i)) (cwV 0 hts gX6_litIn_X6_tick rfl rfl rfl (by decide +kernel) ⟨Nat.le_of_ble_eq_true rfl, Nat.le_of_ble_eq_true rfl⟩) ⟨muP.blind, va_recv hK (mG_T hP) (ci := 6) (q0 := 0) rfl rfl, muP.at (mG_T hP) (mG_TD hD) hK hN⟩ rfl rfl hl.1 rfl (lv_room (Nat.le_of_ble_eq_true rfl)) dX6_litIn_36 ⟨Nat.le_of_ble_eq_true rfl, Nat.le_of_ble_eq_true rfl⟩) hS (fun q _ h => hFc_36 q h) hFc_36 (fun r_36 uu tt H1 locs ht hvm h_36 hB hz1 hk1 hS => ?_)
            obtain ⟨hP, hD⟩ := muE.join (ws' := mG ct a (nI k) (nI t) (rowOf (pTick (pTks v i))) ((pTick (pTks v i)).2) (rowOf v) v.2 (hisI w) (hisF w) (hisI sl) (hisF sl) ik tx rd) hP hD (mG_pT) (mG_pT) hk1 hFc_36 ht hB
            generalize H1 = H at hP hS ⊢
            obtain rfl : r_36 = pTickN (pTks v i) := h_36
            refine lv_istore (lv' := [(4, .int (pTickN (pTks v i))), (0, .ref (a 0)), (1, .int (nI d)), (2, .int (nI n)), (3, .int (nI i))]) hx hb dX6_litIn_39 hl (by decide) rfl (fun ls hl => ?_)
            refine lv_iinc (v := nI (i + 1)) (lv' := [(3, .int (nI (i + 1))), (4, .int (pTickN (pTks v i))), (0, .ref (a 0)), (1, .int (nI d)), (2, .int (nI n))]) hx hb dX6_litIn_41 hl (k := 4) rfl ((nI_succ i).symm) (by decide) rfl (fun ls hl => ?_)
            refine lv_goto (tgt := 30) hx hb dX6_litIn_44 (by decide) ?_
            exact ih_30 (i + 1) (by omega) (by omega) _ _ (by rw [← pTks_s]; exact hP) (mG_dn hD) hS ls (lv_sub hl [2, 3, 4, 0] rfl)
      exact loop_30 (n + 1) 0 (Nat.zero_le _) (by omega) _ _ (by rw [← pTks_z]; exact hP) (mG_dn hD) hS ls (lv_sub hl [1, 2, 3, 0] rfl)
    · exact absurd c_18 hin
  · exact absurd (if_pos hvd) c_5

