set_option maxHeartbeats 4000000 in
set_option maxRecDepth 100000 in
theorem k_X6_setGuard_e1 (l : Launch) (D : va_G) (ct : Nat → ClassId) (a : Nat → Nat) (v u : SV) (w sl : Nat → SV) (k t : Nat) (hk : k ≤ 5) (ik tx rd : Nat → Int32) (x : Int32) (y1 : Int32) (hnd : ¬ vD v x) : Met l yX6_setGuard wsX6_setGuard ({ frames := 2, cells := 0, slots := 0, locals := 43 }) (roP D ct (mG ct a (nI k) (nI t) (rowOf v) v.2 (rowOf u) u.2 (hisI w) (hisF w) (hisI sl) (hisF sl) ik tx rd) [.ref (a 0), .int x, .int y1]) (vp_Si (fun r => r = -1)) 0 0 noA := by
  refine Met.ofW (cc := cX6_setGuard) (maxL := 3) (ret := (some .int)) (by decide) rfl ?_
  intro p e s m args below meth c s₁ B hml hv
  obtain ⟨rfl, hP, hK, hN⟩ := hv
  have hx := B.exec
  have hb := B.bytes
  have hr := B.returns
  have hts := atoms_spec (ws := wsX6_setGuard) B.pre
  have hown : s.vm.findClass RX6 = some m.cls := findClass_of_methodNamed B.named
  have hlocks := B.notSynchronized
  have hl := lv_entry ([.ref (a 0), .int x, .int y1]) (n := 3) (Nat.le_of_ble_eq_true rfl)
  rw [lg_entry_eq]
  generalize (lg_sl ([.ref (a 0), .int x, .int y1]) ++ List.replicate (3 - (lg_sl ([.ref (a 0), .int x, .int y1])).length) Slot.unset).toArray = ls at hl ⊢
  have hl : lv_has ls 3 [(0, .ref (a 0)), (1, .int x), (2, .int y1)] := hl
  refine lv_aload_n hx hb dX6_setGuard_0 rfl (lv_at hl 0 rfl) ?_
  refine lv_iload_n hx hb dX6_setGuard_1 rfl (lv_at hl 1 rfl) ?_
  refine vp_callSi (va_runV (As := [.int x]) (rest := []) ⟨hx, hb, hml, hown, hts⟩ (k_X6_noDigit l D ct (a 0) (a 1) (mTl a (nI k) (nI t)) v x) (cwV 1 hts gX6_setGuard_X6_noDigit rfl rfl rfl (by decide +kernel) ⟨Nat.le_of_ble_eq_true rfl, Nat.le_of_ble_eq_true rfl⟩) ⟨roP.blind, va_recv hK (mG_R hP) (ci := 6) (q0 := 0) rfl rfl, roP.at (mG_R hP) hK hN⟩ rfl rfl hl.1 rfl (lv_room (Nat.le_of_ble_eq_true rfl)) dX6_setGuard_2 ⟨Nat.le_of_ble_eq_true rfl, Nat.le_of_ble_eq_true rfl⟩).run (fun r_2 h_2 => ?_)
  obtain rfl : r_2 = if vD v x then 0 else 1 := h_2
  refine lv_if_eq (tgt := 10) hx hb dX6_setGuard_5 (by decide) (fun c_5 => ?_) (fun c_5 => ?_)
  · exact absurd ((if_neg hnd).symm.trans c_5) (by decide)
  · refine lv_iconst (v := (-1)) hx hb dX6_setGuard_8 (by decide) ?_
    exact W.iret (v := (-1)) hx hb hr (fun tt ht hW => ⟨(-1), rfl, rfl, ht⟩) (fun q hq => absurd hq List.not_mem_nil) dX6_setGuard_9

set_option maxHeartbeats 4000000 in
set_option maxRecDepth 100000 in
theorem k_X6_setGuard_e2 (l : Launch) (D : va_G) (ct : Nat → ClassId) (a : Nat → Nat) (v u : SV) (w sl : Nat → SV) (k t : Nat) (hk : k ≤ 5) (ik tx rd : Nat → Int32) (ok : Inv v) (d : Nat) (hd : d < nOf v) (y : Int32) (hin : pIn y 0 3 = 0) : Met l yX6_setGuard wsX6_setGuard ({ frames := 2, cells := 0, slots := 0, locals := 43 }) (roP D ct (mG ct a (nI k) (nI t) (rowOf v) v.2 (rowOf u) u.2 (hisI w) (hisF w) (hisI sl) (hisF sl) ik tx rd) [.ref (a 0), .int (nI d), .int y]) (vp_Si (fun r => r = -2)) 0 0 noA := by
  refine Met.ofW (cc := cX6_setGuard) (maxL := 3) (ret := (some .int)) (by decide) rfl ?_
  intro p e s m args below meth c s₁ B hml hv
  obtain ⟨rfl, hP, hK, hN⟩ := hv
  have hx := B.exec
  have hb := B.bytes
  have hr := B.returns
  have hts := atoms_spec (ws := wsX6_setGuard) B.pre
  have hown : s.vm.findClass RX6 = some m.cls := findClass_of_methodNamed B.named
  have hlocks := B.notSynchronized
  have hl := lv_entry ([.ref (a 0), .int (nI d), .int y]) (n := 3) (Nat.le_of_ble_eq_true rfl)
  rw [lg_entry_eq]
  generalize (lg_sl ([.ref (a 0), .int (nI d), .int y]) ++ List.replicate (3 - (lg_sl ([.ref (a 0), .int (nI d), .int y])).length) Slot.unset).toArray = ls at hl ⊢
  have hl : lv_has ls 3 [(0, .ref (a 0)), (1, .int (nI d)), (2, .int y)] := hl
  have hd8 : d < 8 := Nat.lt_of_lt_of_le hd ok.n8
  have hvd := vD_of ok hd
  refine lv_aload_n hx hb dX6_setGuard_0 rfl (lv_at hl 0 rfl) ?_
  refine lv_iload_n hx hb dX6_setGuard_1 rfl (lv_at hl 1 rfl) ?_
  refine vp_callSi (va_runV (As := [.int (nI d)]) (rest := []) ⟨hx, hb, hml, hown, hts⟩ (k_X6_noDigit l D ct (a 0) (a 1) (mTl a (nI k) (nI t)) v (nI d)) (cwV 1 hts gX6_setGuard_X6_noDigit rfl rfl rfl (by decide +kernel) ⟨Nat.le_of_ble_eq_true rfl, Nat.le_of_ble_eq_true rfl⟩) ⟨roP.blind, va_recv hK (mG_R hP) (ci := 6) (q0 := 0) rfl rfl, roP.at (mG_R hP) hK hN⟩ rfl rfl hl.1 rfl (lv_room (Nat.le_of_ble_eq_true rfl)) dX6_setGuard_2 ⟨Nat.le_of_ble_eq_true rfl, Nat.le_of_ble_eq_true rfl⟩).run (fun r_2 h_2 => ?_)
  obtain rfl : r_2 = if vD v (nI d) then 0 else 1 := h_2
  refine lv_if_eq (tgt := 10) hx hb dX6_setGuard_5 (by decide) (fun c_5 => ?_) (fun c_5 => ?_)
  · refine lv_iload_n hx hb dX6_setGuard_10 rfl (lv_at hl 2 rfl) ?_
    refine lv_iconst (v := 0) hx hb dX6_setGuard_11 (by decide) ?_
    refine lv_iconst (v := 3) hx hb dX6_setGuard_12 (by decide) ?_
    refine vp_callSi (va_runS (As := [.int y, .int 0, .int 3]) (rest := []) ⟨hx, hb, hml, hown, hts⟩ (k_X6_in l D ct y 0 3) (va_cwS 3 hts gX6_setGuard_X6_in rfl rfl rfl (by decide +kernel) ⟨Nat.le_of_ble_eq_true rfl, Nat.le_of_ble_eq_true rfl⟩) ⟨roP.blind, roP.at pw_nil hK hN⟩ rfl rfl hl.1 rfl (lv_room (Nat.le_of_ble_eq_true rfl)) dX6_setGuard_13 ⟨Nat.le_of_ble_eq_true rfl, Nat.le_of_ble_eq_true rfl⟩).run (fun r_13 h_13 => ?_)
    obtain rfl : r_13 = pIn y 0 3 := h_13
    refine lv_if_ne (tgt := 22) hx hb dX6_setGuard_16 (by decide) (fun c_16 => ?_) (fun c_16 => ?_)
    · exact absurd hin c_16
    · refine lv_bipush (v := (-2)) hx hb dX6_setGuard_19 (by decide) ?_
      exact W.iret (v := (-2)) hx hb hr (fun tt ht hW => ⟨(-2), rfl, rfl, ht⟩) (fun q hq => absurd hq List.not_mem_nil) dX6_setGuard_21
  · exact absurd (if_pos hvd) c_5

set_option maxHeartbeats 4000000 in
set_option maxRecDepth 100000 in
theorem k_X6_setGuard_ok (l : Launch) (D : va_G) (ct : Nat → ClassId) (sz : Nat) (a : Nat → Nat) (v u : SV) (w sl : Nat → SV) (k t : Nat) (hk : k ≤ 5) (ik tx rd : Nat → Int32) (ok : Inv v) (d : Nat) (hd : d < nOf v) (y : Int32) (hin : ¬ pIn y 0 3 = 0) : Met l yX6_setGuard wsX6_setGuard ({ frames := 2, cells := 0, slots := 0, locals := 43 }) (muP D ct (mG ct a (nI k) (nI t) (rowOf v) v.2 (rowOf u) u.2 (hisI w) (hisF w) (hisI sl) (hisF sl) ik tx rd) sz [.ref (a 0), .int (nI d), .int y]) (muI D ct (mG ct a (nI k) (nI t) (rowOf v) v.2 (rowOf u) u.2 (hisI w) (hisF w) (hisI sl) (hisF sl) ik tx rd) (mS ct a (s2 v (4 + d) 2 y) v (hPush w k v) sl (kPush k) t ik tx rd) sz (fun r => r = pLP (s2 v (4 + d) 2 y) d)) 0 0 (va_A (mG ct a (nI k) (nI t) (rowOf v) v.2 (rowOf u) u.2 (hisI w) (hisF w) (hisI sl) (hisF sl) ik tx rd) sz) := by
  refine Met.ofW (cc := cX6_setGuard) (maxL := 3) (ret := (some .int)) (by decide) rfl ?_
  intro p e s m args below meth c s₁ B hml hv
  obtain ⟨rfl, hsz, hP, hK, hN, hD0⟩ := hv
  have hx := B.exec
  have hb := B.bytes
  have hr := B.returns
  have hts := atoms_spec (ws := wsX6_setGuard) B.pre
  have hown : s.vm.findClass RX6 = some m.cls := findClass_of_methodNamed B.named
  have hlocks := B.notSynchronized
  subst hsz
  have hD := hD0.self (sz := s.heap.size)
  generalize hAe : va_A (mG ct a (nI k) (nI t) (rowOf v) v.2 (rowOf u) u.2 (hisI w) (hisF w) (hisI sl) (hisF sl) ik tx rd) s.heap.size = A at hD
  have hA : ∀ q : Nat, s.heap.size ≤ q → A q := fun q h => by rw [← hAe]; exact Or.inr h
  have hS : va_S A s.heap s.heap [] := va_S.rf
  have hl := lv_entry ([.ref (a 0), .int (nI d), .int y]) (n := 3) (Nat.le_of_ble_eq_true rfl)
  rw [lg_entry_eq]
  generalize (lg_sl ([.ref (a 0), .int (nI d), .int y]) ++ List.replicate (3 - (lg_sl ([.ref (a 0), .int (nI d), .int y])).length) Slot.unset).toArray = ls at hl ⊢
  have hl : lv_has ls 3 [(0, .ref (a 0)), (1, .int (nI d)), (2, .int y)] := hl
  have hd8 : d < 8 := Nat.lt_of_lt_of_le hd ok.n8
  have hvd := vD_of ok hd
  refine lv_aload_n hx hb dX6_setGuard_0 rfl (lv_at hl 0 rfl) ?_
  refine lv_iload_n hx hb dX6_setGuard_1 rfl (lv_at hl 1 rfl) ?_
  refine vp_callSi (va_runV (As := [.int (nI d)]) (rest := []) ⟨hx, hb, hml, hown, hts⟩ (k_X6_noDigit l D ct (a 0) (a 1) (mTl a (nI k) (nI t)) v (nI d)) (cwV 1 hts gX6_setGuard_X6_noDigit rfl rfl rfl (by decide +kernel) ⟨Nat.le_of_ble_eq_true rfl, Nat.le_of_ble_eq_true rfl⟩) ⟨roP.blind, va_recv hK (mG_R hP) (ci := 6) (q0 := 0) rfl rfl, roP.at (mG_R hP) hK hN⟩ rfl rfl hl.1 rfl (lv_room (Nat.le_of_ble_eq_true rfl)) dX6_setGuard_2 ⟨Nat.le_of_ble_eq_true rfl, Nat.le_of_ble_eq_true rfl⟩).run (fun r_2 h_2 => ?_)
  obtain rfl : r_2 = if vD v (nI d) then 0 else 1 := h_2
  refine lv_if_eq (tgt := 10) hx hb dX6_setGuard_5 (by decide) (fun c_5 => ?_) (fun c_5 => ?_)
  · refine lv_iload_n hx hb dX6_setGuard_10 rfl (lv_at hl 2 rfl) ?_
    refine lv_iconst (v := 0) hx hb dX6_setGuard_11 (by decide) ?_
    refine lv_iconst (v := 3) hx hb dX6_setGuard_12 (by decide) ?_
    refine vp_callSi (va_runS (As := [.int y, .int 0, .int 3]) (rest := []) ⟨hx, hb, hml, hown, hts⟩ (k_X6_in l D ct y 0 3) (va_cwS 3 hts gX6_setGuard_X6_in rfl rfl rfl (by decide +kernel) ⟨Nat.le_of_ble_eq_true rfl, Nat.le_of_ble_eq_true rfl⟩) ⟨roP.blind, roP.at pw_nil hK hN⟩ rfl rfl hl.1 rfl (lv_room (Nat.le_of_ble_eq_true rfl)) dX6_setGuard_13 ⟨Nat.le_of_ble_eq_true rfl, Nat.le_of_ble_eq_true rfl⟩).run (fun r_13 h_13 => ?_)
    obtain rfl : r_13 = pIn y 0 3 := h_13
    refine lv_if_ne (tgt := 22) hx hb dX6_setGuard_16 (by decide) (fun c_16 => ?_) (fun c_16 => ?_)
    · refine lv_aload_n hx hb dX6_setGuard_22 rfl (lv_at hl 0 rfl) ?_
      have hFc_23 := w_free (wc := mG ct a (nI k) (nI t) (rowOf v) v.2 (rowOf u) u.2 (hisI w) (hisF w) (hisI sl) (hisF sl) ik tx rd) hD (List.Perm.of_eq (List.append_nil _).symm) hS hA
      refine va_callv (va_runV (As := []) (rest := []) ⟨hx, hb, hml, hown, hts⟩ (k_X6_begin l D ct _ a (nI k) (nI t) (rowOf v) v.2 (rowOf u) u.2 (hisI w) (hisF w) (hisI sl) (hisF sl) ik tx rd) (cwV 0 hts gX6_setGuard_X6_begin rfl rfl rfl (by decide +kernel) ⟨Nat.le_of_ble_eq_true rfl, Nat.le_of_ble_eq_true rfl⟩) ⟨muP.blind, va_recv hK hP (ci := 6) (q0 := 0) rfl rfl, muP.at hP hD hK hN⟩ rfl rfl hl.1 rfl (lv_room (Nat.le_of_ble_eq_true rfl)) dX6_setGuard_23 ⟨Nat.le_of_ble_eq_true rfl, Nat.le_of_ble_eq_true rfl⟩) hS (fun q _ h => hFc_23 q h) hFc_23 (fun uu tt H1 locs ht hvm hw hB hz1 hk1 hS => ?_)
      obtain ⟨hP, hD⟩ := muE.join (ws' := mG ct a (nI k) (nI t) (rowOf v) v.2 (rowOf v) v.2 (hisI w) (hisF w) (hisI sl) (hisF sl) ik tx rd) hP hD (List.Perm.of_eq (List.append_nil _).symm) (List.Perm.of_eq (List.append_nil _).symm) hk1 hFc_23 ht hB
      generalize H1 = H at hP hS ⊢
      refine lv_aload_n hx hb dX6_setGuard_26 rfl (lv_at hl 0 rfl) ?_
      refine lv_iload_n hx hb dX6_setGuard_27 rfl (lv_at hl 1 rfl) ?_
      refine lv_iconst (v := 2) hx hb dX6_setGuard_28 (by decide) ?_
      refine lv_iload_n hx hb dX6_setGuard_29 rfl (lv_at hl 2 rfl) ?_
      have hFc_30 := w_free (wc := mR ct (a 0) (a 1) (mTl a (nI k) (nI t)) v) hD (mG_pR) hS hA
      refine va_callv (va_runV (As := [.int (nI d), .int 2, .int y]) (rest := []) ⟨hx, hb, hml, hown, hts⟩ (k_X6_put l D ct _ (a 0) (a 1) (mTl a (nI k) (nI t)) v d 2 y hd8 (by decide)) (cwV 3 hts gX6_setGuard_X6_put rfl rfl rfl (by decide +kernel) ⟨Nat.le_of_ble_eq_true rfl, Nat.le_of_ble_eq_true rfl⟩) ⟨muP.blind, va_recv hK (mG_R hP) (ci := 6) (q0 := 0) rfl rfl, muP.at (mG_R hP) (mG_RD hD) hK hN⟩ rfl rfl hl.1 rfl (lv_room (Nat.le_of_ble_eq_true rfl)) dX6_setGuard_30 ⟨Nat.le_of_ble_eq_true rfl, Nat.le_of_ble_eq_true rfl⟩) hS (fun q _ h => hFc_30 q h) hFc_30 (fun uu tt H1 locs ht hvm hw hB hz1 hk1 hS => ?_)
      obtain ⟨hP, hD⟩ := muE.join (ws' := mG ct a (nI k) (nI t) (rowOf (s2 v (4 + d) 2 y)) v.2 (rowOf v) v.2 (hisI w) (hisF w) (hisI sl) (hisF sl) ik tx rd) hP hD (mG_pR) (mG_pR) hk1 hFc_30 ht hB
      generalize H1 = H at hP hS ⊢
      refine lv_aload_n hx hb dX6_setGuard_33 rfl (lv_at hl 0 rfl) ?_
      refine lv_aload_n hx hb dX6_setGuard_34 rfl (lv_at hl 0 rfl) ?_
      refine lv_iload_n hx hb dX6_setGuard_35 rfl (lv_at hl 1 rfl) ?_
      refine vp_callSi (va_runV (As := [.int (nI d)]) (rest := [.ref (a 0)]) ⟨hx, hb, hml, hown, hts⟩ (k_X6_litPart l D ct (a 0) (a 1) (mTl a (nI k) (nI t)) (s2 v (4 + d) 2 y) d hd8) (cwV 1 hts gX6_setGuard_X6_litPart rfl rfl rfl (by decide +kernel) ⟨Nat.le_of_ble_eq_true rfl, Nat.le_of_ble_eq_true rfl⟩) ⟨roP.blind, va_recv hK (mG_R hP) (ci := 6) (q0 := 0) rfl rfl, roP.at (mG_R hP) hK hN⟩ rfl rfl hl.1 rfl (lv_room (Nat.le_of_ble_eq_true rfl)) dX6_setGuard_36 ⟨Nat.le_of_ble_eq_true rfl, Nat.le_of_ble_eq_true rfl⟩).run (fun r_36 h_36 => ?_)
      obtain rfl : r_36 = pLP (s2 v (4 + d) 2 y) d := h_36
      have hFc_39 := w_free (wc := mG ct a (nI k) (nI t) (rowOf (s2 v (4 + d) 2 y)) v.2 (rowOf v) v.2 (hisI w) (hisF w) (hisI sl) (hisF sl) ik tx rd) hD (List.Perm.of_eq (List.append_nil _).symm) hS hA
      refine va_calli (va_runV (As := [.int (pLP (s2 v (4 + d) 2 y) d)]) (rest := []) ⟨hx, hb, hml, hown, hts⟩ (k_X6_done l D ct _ a (nI t) (rowOf (s2 v (4 + d) 2 y)) v.2 v w k hk (hisI sl) (hisF sl) ik tx rd (pLP (s2 v (4 + d) 2 y) d)) (cwV 1 hts gX6_setGuard_X6_done rfl rfl rfl (by decide +kernel) ⟨Nat.le_of_ble_eq_true rfl, Nat.le_of_ble_eq_true rfl⟩) ⟨muP.blind, va_recv hK hP (ci := 6) (q0 := 0) rfl rfl, muP.at hP hD hK hN⟩ rfl rfl hl.1 rfl (lv_room (Nat.le_of_ble_eq_true rfl)) dX6_setGuard_39 ⟨Nat.le_of_ble_eq_true rfl, Nat.le_of_ble_eq_true rfl⟩) hS (fun q _ h => hFc_39 q h) hFc_39 (fun r_39 uu tt H1 locs ht hvm h_39 hB hz1 hk1 hS => ?_)
      obtain ⟨hP, hD⟩ := muE.join (ws' := mG ct a (nI (kPush k)) (nI t) (rowOf (s2 v (4 + d) 2 y)) v.2 (rowOf v) v.2 (hisI (hPush w k v)) (hisF (hPush w k v)) (hisI sl) (hisF sl) ik tx rd) hP hD (List.Perm.of_eq (List.append_nil _).symm) (List.Perm.of_eq (List.append_nil _).symm) hk1 hFc_39 ht hB
      generalize H1 = H at hP hS ⊢
      obtain rfl : r_39 = pLP (s2 v (4 + d) 2 y) d := h_39
      have hP9 : va_P D vwCl (mS ct a (s2 v (4 + d) 2 y) v (hPush w k v) sl (kPush k) t ik tx rd) H := hP
      have hD9 : va_D A (mS ct a (s2 v (4 + d) 2 y) v (hPush w k v) sl (kPush k) t ik tx rd) := mG_dn hD
      subst hAe
      exact W.iret (v := (pLP (s2 v (4 + d) 2 y) d)) hx hb hr (fun tt ht hW => ⟨⟨(pLP (s2 v (4 + d) 2 y) d), (), rfl, rfl, muE.of (ct := ct) hP9 hD9 ht⟩, hS.F ht⟩) hS.2.2 dX6_setGuard_42
    · exact absurd c_16 hin
  · exact absurd (if_pos hvd) c_5

set_option maxHeartbeats 4000000 in
set_option maxRecDepth 100000 in
theorem k_X6_setBrightness_e1 (l : Launch) (D : va_G) (ct : Nat → ClassId) (a : Nat → Nat) (v u : SV) (w sl : Nat → SV) (k t : Nat) (hk : k ≤ 5) (ik tx rd : Nat → Int32) (x : Int32) (y1 : Int32) (hnd : ¬ vD v x) : Met l yX6_setBrightness wsX6_setBrightness ({ frames := 2, cells := 0, slots := 0, locals := 43 }) (roP D ct (mG ct a (nI k) (nI t) (rowOf v) v.2 (rowOf u) u.2 (hisI w) (hisF w) (hisI sl) (hisF sl) ik tx rd) [.ref (a 0), .int x, .int y1]) (vp_Si (fun r => r = -1)) 0 0 noA := by
  refine Met.ofW (cc := cX6_setBrightness) (maxL := 3) (ret := (some .int)) (by decide) rfl ?_
  intro p e s m args below meth c s₁ B hml hv
  obtain ⟨rfl, hP, hK, hN⟩ := hv
  have hx := B.exec
  have hb := B.bytes
  have hr := B.returns
  have hts := atoms_spec (ws := wsX6_setBrightness) B.pre
  have hown : s.vm.findClass RX6 = some m.cls := findClass_of_methodNamed B.named
  have hlocks := B.notSynchronized
  have hl := lv_entry ([.ref (a 0), .int x, .int y1]) (n := 3) (Nat.le_of_ble_eq_true rfl)
  rw [lg_entry_eq]
  generalize (lg_sl ([.ref (a 0), .int x, .int y1]) ++ List.replicate (3 - (lg_sl ([.ref (a 0), .int x, .int y1])).length) Slot.unset).toArray = ls at hl ⊢
  have hl : lv_has ls 3 [(0, .ref (a 0)), (1, .int x), (2, .int y1)] := hl
  refine lv_aload_n hx hb dX6_setBrightness_0 rfl (lv_at hl 0 rfl) ?_
  refine lv_iload_n hx hb dX6_setBrightness_1 rfl (lv_at hl 1 rfl) ?_
  refine vp_callSi (va_runV (As := [.int x]) (rest := []) ⟨hx, hb, hml, hown, hts⟩ (k_X6_noDigit l D ct (a 0) (a 1) (mTl a (nI k) (nI t)) v x) (cwV 1 hts gX6_setBrightness_X6_noDigit rfl rfl rfl (by decide +kernel) ⟨Nat.le_of_ble_eq_true rfl, Nat.le_of_ble_eq_true rfl⟩) ⟨roP.blind, va_recv hK (mG_R hP) (ci := 6) (q0 := 0) rfl rfl, roP.at (mG_R hP) hK hN⟩ rfl rfl hl.1 rfl (lv_room (Nat.le_of_ble_eq_true rfl)) dX6_setBrightness_2 ⟨Nat.le_of_ble_eq_true rfl, Nat.le_of_ble_eq_true rfl⟩).run (fun r_2 h_2 => ?_)
  obtain rfl : r_2 = if vD v x then 0 else 1 := h_2
  refine lv_if_eq (tgt := 10) hx hb dX6_setBrightness_5 (by decide) (fun c_5 => ?_) (fun c_5 => ?_)
  · exact absurd ((if_neg hnd).symm.trans c_5) (by decide)
  · refine lv_iconst (v := (-1)) hx hb dX6_setBrightness_8 (by decide) ?_
    exact W.iret (v := (-1)) hx hb hr (fun tt ht hW => ⟨(-1), rfl, rfl, ht⟩) (fun q hq => absurd hq List.not_mem_nil) dX6_setBrightness_9

set_option maxHeartbeats 4000000 in
set_option maxRecDepth 100000 in
theorem k_X6_setBrightness_e2 (l : Launch) (D : va_G) (ct : Nat → ClassId) (a : Nat → Nat) (v u : SV) (w sl : Nat → SV) (k t : Nat) (hk : k ≤ 5) (ik tx rd : Nat → Int32) (ok : Inv v) (d : Nat) (hd : d < nOf v) (y : Int32) (hin : pIn y 0 15 = 0) : Met l yX6_setBrightness wsX6_setBrightness ({ frames := 2, cells := 0, slots := 0, locals := 43 }) (roP D ct (mG ct a (nI k) (nI t) (rowOf v) v.2 (rowOf u) u.2 (hisI w) (hisF w) (hisI sl) (hisF sl) ik tx rd) [.ref (a 0), .int (nI d), .int y]) (vp_Si (fun r => r = -2)) 0 0 noA := by
  refine Met.ofW (cc := cX6_setBrightness) (maxL := 3) (ret := (some .int)) (by decide) rfl ?_
  intro p e s m args below meth c s₁ B hml hv
  obtain ⟨rfl, hP, hK, hN⟩ := hv
  have hx := B.exec
  have hb := B.bytes
  have hr := B.returns
  have hts := atoms_spec (ws := wsX6_setBrightness) B.pre
  have hown : s.vm.findClass RX6 = some m.cls := findClass_of_methodNamed B.named
  have hlocks := B.notSynchronized
  have hl := lv_entry ([.ref (a 0), .int (nI d), .int y]) (n := 3) (Nat.le_of_ble_eq_true rfl)
  rw [lg_entry_eq]
  generalize (lg_sl ([.ref (a 0), .int (nI d), .int y]) ++ List.replicate (3 - (lg_sl ([.ref (a 0), .int (nI d), .int y])).length) Slot.unset).toArray = ls at hl ⊢
  have hl : lv_has ls 3 [(0, .ref (a 0)), (1, .int (nI d)), (2, .int y)] := hl
  have hd8 : d < 8 := Nat.lt_of_lt_of_le hd ok.n8
  have hvd := vD_of ok hd
  refine lv_aload_n hx hb dX6_setBrightness_0 rfl (lv_at hl 0 rfl) ?_
  refine lv_iload_n hx hb dX6_setBrightness_1 rfl (lv_at hl 1 rfl) ?_
  refine vp_callSi (va_runV (As := [.int (nI d)]) (rest := []) ⟨hx, hb, hml, hown, hts⟩ (k_X6_noDigit l D ct (a 0) (a 1) (mTl a (nI k) (nI t)) v (nI d)) (cwV 1 hts gX6_setBrightness_X6_noDigit rfl rfl rfl (by decide +kernel) ⟨Nat.le_of_ble_eq_true rfl, Nat.le_of_ble_eq_true rfl⟩) ⟨roP.blind, va_recv hK (mG_R hP) (ci := 6) (q0 := 0) rfl rfl, roP.at (mG_R hP) hK hN⟩ rfl rfl hl.1 rfl (lv_room (Nat.le_of_ble_eq_true rfl)) dX6_setBrightness_2 ⟨Nat.le_of_ble_eq_true rfl, Nat.le_of_ble_eq_true rfl⟩).run (fun r_2 h_2 => ?_)
  obtain rfl : r_2 = if vD v (nI d) then 0 else 1 := h_2
  refine lv_if_eq (tgt := 10) hx hb dX6_setBrightness_5 (by decide) (fun c_5 => ?_) (fun c_5 => ?_)
  · refine lv_iload_n hx hb dX6_setBrightness_10 rfl (lv_at hl 2 rfl) ?_
    refine lv_iconst (v := 0) hx hb dX6_setBrightness_11 (by decide) ?_
    refine lv_bipush (v := 15) hx hb dX6_setBrightness_12 (by decide) ?_
    refine vp_callSi (va_runS (As := [.int y, .int 0, .int 15]) (rest := []) ⟨hx, hb, hml, hown, hts⟩ (k_X6_in l D ct y 0 15) (va_cwS 3 hts gX6_setBrightness_X6_in rfl rfl rfl (by decide +kernel) ⟨Nat.le_of_ble_eq_true rfl, Nat.le_of_ble_eq_true rfl⟩) ⟨roP.blind, roP.at pw_nil hK hN⟩ rfl rfl hl.1 rfl (lv_room (Nat.le_of_ble_eq_true rfl)) dX6_setBrightness_14 ⟨Nat.le_of_ble_eq_true rfl, Nat.le_of_ble_eq_true rfl⟩).run (fun r_14 h_14 => ?_)
    obtain rfl : r_14 = pIn y 0 15 := h_14
    refine lv_if_ne (tgt := 23) hx hb dX6_setBrightness_17 (by decide) (fun c_17 => ?_) (fun c_17 => ?_)
    · exact absurd hin c_17
    · refine lv_bipush (v := (-2)) hx hb dX6_setBrightness_20 (by decide) ?_
      exact W.iret (v := (-2)) hx hb hr (fun tt ht hW => ⟨(-2), rfl, rfl, ht⟩) (fun q hq => absurd hq List.not_mem_nil) dX6_setBrightness_22
  · exact absurd (if_pos hvd) c_5

set_option maxHeartbeats 4000000 in
set_option maxRecDepth 100000 in
theorem k_X6_setBrightness_ok (l : Launch) (D : va_G) (ct : Nat → ClassId) (sz : Nat) (a : Nat → Nat) (v u : SV) (w sl : Nat → SV) (k t : Nat) (hk : k ≤ 5) (ik tx rd : Nat → Int32) (ok : Inv v) (d : Nat) (hd : d < nOf v) (y : Int32) (hin : ¬ pIn y 0 15 = 0) : Met l yX6_setBrightness wsX6_setBrightness ({ frames := 2, cells := 0, slots := 0, locals := 43 }) (muP D ct (mG ct a (nI k) (nI t) (rowOf v) v.2 (rowOf u) u.2 (hisI w) (hisF w) (hisI sl) (hisF sl) ik tx rd) sz [.ref (a 0), .int (nI d), .int y]) (muI D ct (mG ct a (nI k) (nI t) (rowOf v) v.2 (rowOf u) u.2 (hisI w) (hisF w) (hisI sl) (hisF sl) ik tx rd) (mS ct a (s2 v (4 + d) 3 y) v (hPush w k v) sl (kPush k) t ik tx rd) sz (fun r => r = pLP (s2 v (4 + d) 3 y) d)) 0 0 (va_A (mG ct a (nI k) (nI t) (rowOf v) v.2 (rowOf u) u.2 (hisI w) (hisF w) (hisI sl) (hisF sl) ik tx rd) sz) := by
  refine Met.ofW (cc := cX6_setBrightness) (maxL := 3) (ret := (some .int)) (by decide) rfl ?_
  intro p e s m args below meth c s₁ B hml hv
  obtain ⟨rfl, hsz, hP, hK, hN, hD0⟩ := hv
  have hx := B.exec
  have hb := B.bytes
  have hr := B.returns
  have hts := atoms_spec (ws := wsX6_setBrightness) B.pre
  have hown : s.vm.findClass RX6 = some m.cls := findClass_of_methodNamed B.named
  have hlocks := B.notSynchronized
  subst hsz
  have hD := hD0.self (sz := s.heap.size)
  generalize hAe : va_A (mG ct a (nI k) (nI t) (rowOf v) v.2 (rowOf u) u.2 (hisI w) (hisF w) (hisI sl) (hisF sl) ik tx rd) s.heap.size = A at hD
  have hA : ∀ q : Nat, s.heap.size ≤ q → A q := fun q h => by rw [← hAe]; exact Or.inr h
  have hS : va_S A s.heap s.heap [] := va_S.rf
  have hl := lv_entry ([.ref (a 0), .int (nI d), .int y]) (n := 3) (Nat.le_of_ble_eq_true rfl)
  rw [lg_entry_eq]
  generalize (lg_sl ([.ref (a 0), .int (nI d), .int y]) ++ List.replicate (3 - (lg_sl ([.ref (a 0), .int (nI d), .int y])).length) Slot.unset).toArray = ls at hl ⊢
  have hl : lv_has ls 3 [(0, .ref (a 0)), (1, .int (nI d)), (2, .int y)] := hl
  have hd8 : d < 8 := Nat.lt_of_lt_of_le hd ok.n8
  have hvd := vD_of ok hd
  refine lv_aload_n hx hb dX6_setBrightness_0 rfl (lv_at hl 0 rfl) ?_
  refine lv_iload_n hx hb dX6_setBrightness_1 rfl (lv_at hl 1 rfl) ?_
  refine vp_callSi (va_runV (As := [.int (nI d)]) (rest := []) ⟨hx, hb, hml, hown, hts⟩ (k_X6_noDigit l D ct (a 0) (a 1) (mTl a (nI k) (nI t)) v (nI d)) (cwV 1 hts gX6_setBrightness_X6_noDigit rfl rfl rfl (by decide +kernel) ⟨Nat.le_of_ble_eq_true rfl, Nat.le_of_ble_eq_true rfl⟩) ⟨roP.blind, va_recv hK (mG_R hP) (ci := 6) (q0 := 0) rfl rfl, roP.at (mG_R hP) hK hN⟩ rfl rfl hl.1 rfl (lv_room (Nat.le_of_ble_eq_true rfl)) dX6_setBrightness_2 ⟨Nat.le_of_ble_eq_true rfl, Nat.le_of_ble_eq_true rfl⟩).run (fun r_2 h_2 => ?_)
  obtain rfl : r_2 = if vD v (nI d) then 0 else 1 := h_2
  refine lv_if_eq (tgt := 10) hx hb dX6_setBrightness_5 (by decide) (fun c_5 => ?_) (fun c_5 => ?_)
  · refine lv_iload_n hx hb dX6_setBrightness_10 rfl (lv_at hl 2 rfl) ?_
    refine lv_iconst (v := 0) hx hb dX6_setBrightness_11 (by decide) ?_
    refine lv_bipush (v := 15) hx hb dX6_setBrightness_12 (by decide) ?_
    refine vp_callSi (va_runS (As := [.int y, .int 0, .int 15]) (rest := []) ⟨hx, hb, hml, hown, hts⟩ (k_X6_in l D ct y 0 15) (va_cwS 3 hts gX6_setBrightness_X6_in rfl rfl rfl (by decide +kernel) ⟨Nat.le_of_ble_eq_true rfl, Nat.le_of_ble_eq_true rfl⟩) ⟨roP.blind, roP.at pw_nil hK hN⟩ rfl rfl hl.1 rfl (lv_room (Nat.le_of_ble_eq_true rfl)) dX6_setBrightness_14 ⟨Nat.le_of_ble_eq_true rfl, Nat.le_of_ble_eq_true rfl⟩).run (fun r_14 h_14 => ?_)
    obtain rfl : r_14 = pIn y 0 15 := h_14
    refine lv_if_ne (tgt := 23) hx hb dX6_setBrightness_17 (by decide) (fun c_17 => ?_) (fun c_17 => ?_)
    · refine lv_aload_n hx hb dX6_setBrightness_23 rfl (lv_at hl 0 rfl) ?_
      have hFc_24 := w_free (wc := mG ct a (nI k) (nI t) (rowOf v) v.2 (rowOf u) u.2 (hisI w) (hisF w) (hisI sl) (hisF sl) ik tx rd) hD (List.Perm.of_eq (List.append_nil _).symm) hS hA
      refine va_callv (va_runV (As := []) (rest := []) ⟨hx, hb, hml, hown, hts⟩ (k_X6_begin l D ct _ a (nI k) (nI t) (rowOf v) v.2 (rowOf u) u.2 (hisI w) (hisF w) (hisI sl) (hisF sl) ik tx rd) (cwV 0 hts gX6_setBrightness_X6_begin rfl rfl rfl (by decide +kernel) ⟨Nat.le_of_ble_eq_true rfl, Nat.le_of_ble_eq_true rfl⟩) ⟨muP.blind, va_recv hK hP (ci := 6) (q0 := 0) rfl rfl, muP.at hP hD hK hN⟩ rfl rfl hl.1 rfl (lv_room (Nat.le_of_ble_eq_true rfl)) dX6_setBrightness_24 ⟨Nat.le_of_ble_eq_true rfl, Nat.le_of_ble_eq_true rfl⟩) hS (fun q _ h => hFc_24 q h) hFc_24 (fun uu tt H1 locs ht hvm hw hB hz1 hk1 hS => ?_)
      obtain ⟨hP, hD⟩ := muE.join (ws' := mG ct a (nI k) (nI t) (rowOf v) v.2 (rowOf v) v.2 (hisI w) (hisF w) (hisI sl) (hisF sl) ik tx rd) hP hD (List.Perm.of_eq (List.append_nil _).symm) (List.Perm.of_eq (List.append_nil _).symm) hk1 hFc_24 ht hB
      generalize H1 = H at hP hS ⊢
      refine lv_aload_n hx hb dX6_setBrightness_27 rfl (lv_at hl 0 rfl) ?_
      refine lv_iload_n hx hb dX6_setBrightness_28 rfl (lv_at hl 1 rfl) ?_
      refine lv_iconst (v := 3) hx hb dX6_setBrightness_29 (by decide) ?_
      refine lv_iload_n hx hb dX6_setBrightness_30 rfl (lv_at hl 2 rfl) ?_
      have hFc_31 := w_free (wc := mR ct (a 0) (a 1) (mTl a (nI k) (nI t)) v) hD (mG_pR) hS hA
      refine va_callv (va_runV (As := [.int (nI d), .int 3, .int y]) (rest := []) ⟨hx, hb, hml, hown, hts⟩ (k_X6_put l D ct _ (a 0) (a 1) (mTl a (nI k) (nI t)) v d 3 y hd8 (by decide)) (cwV 3 hts gX6_setBrightness_X6_put rfl rfl rfl (by decide +kernel) ⟨Nat.le_of_ble_eq_true rfl, Nat.le_of_ble_eq_true rfl⟩) ⟨muP.blind, va_recv hK (mG_R hP) (ci := 6) (q0 := 0) rfl rfl, muP.at (mG_R hP) (mG_RD hD) hK hN⟩ rfl rfl hl.1 rfl (lv_room (Nat.le_of_ble_eq_true rfl)) dX6_setBrightness_31 ⟨Nat.le_of_ble_eq_true rfl, Nat.le_of_ble_eq_true rfl⟩) hS (fun q _ h => hFc_31 q h) hFc_31 (fun uu tt H1 locs ht hvm hw hB hz1 hk1 hS => ?_)
      obtain ⟨hP, hD⟩ := muE.join (ws' := mG ct a (nI k) (nI t) (rowOf (s2 v (4 + d) 3 y)) v.2 (rowOf v) v.2 (hisI w) (hisF w) (hisI sl) (hisF sl) ik tx rd) hP hD (mG_pR) (mG_pR) hk1 hFc_31 ht hB
      generalize H1 = H at hP hS ⊢
      refine lv_aload_n hx hb dX6_setBrightness_34 rfl (lv_at hl 0 rfl) ?_
      refine lv_aload_n hx hb dX6_setBrightness_35 rfl (lv_at hl 0 rfl) ?_
      refine lv_iload_n hx hb dX6_setBrightness_36 rfl (lv_at hl 1 rfl) ?_
      refine vp_callSi (va_runV (As := [.int (nI d)]) (rest := [.ref (a 0)]) ⟨hx, hb, hml, hown, hts⟩ (k_X6_litPart l D ct (a 0) (a 1) (mTl a (nI k) (nI t)) (s2 v (4 + d) 3 y) d hd8) (cwV 1 hts gX6_setBrightness_X6_litPart rfl rfl rfl (by decide +kernel) ⟨Nat.le_of_ble_eq_true rfl, Nat.le_of_ble_eq_true rfl⟩) ⟨roP.blind, va_recv hK (mG_R hP) (ci := 6) (q0 := 0) rfl rfl, roP.at (mG_R hP) hK hN⟩ rfl rfl hl.1 rfl (lv_room (Nat.le_of_ble_eq_true rfl)) dX6_setBrightness_37 ⟨Nat.le_of_ble_eq_true rfl, Nat.le_of_ble_eq_true rfl⟩).run (fun r_37 h_37 => ?_)
      obtain rfl : r_37 = pLP (s2 v (4 + d) 3 y) d := h_37
      have hFc_40 := w_free (wc := mG ct a (nI k) (nI t) (rowOf (s2 v (4 + d) 3 y)) v.2 (rowOf v) v.2 (hisI w) (hisF w) (hisI sl) (hisF sl) ik tx rd) hD (List.Perm.of_eq (List.append_nil _).symm) hS hA
      refine va_calli (va_runV (As := [.int (pLP (s2 v (4 + d) 3 y) d)]) (rest := []) ⟨hx, hb, hml, hown, hts⟩ (k_X6_done l D ct _ a (nI t) (rowOf (s2 v (4 + d) 3 y)) v.2 v w k hk (hisI sl) (hisF sl) ik tx rd (pLP (s2 v (4 + d) 3 y) d)) (cwV 1 hts gX6_setBrightness_X6_done rfl rfl rfl (by decide +kernel) ⟨Nat.le_of_ble_eq_true rfl, Nat.le_of_ble_eq_true rfl⟩) ⟨muP.blind, va_recv hK hP (ci := 6) (q0 := 0) rfl rfl, muP.at hP hD hK hN⟩ rfl rfl hl.1 rfl (lv_room (Nat.le_of_ble_eq_true rfl)) dX6_setBrightness_40 ⟨Nat.le_of_ble_eq_true rfl, Nat.le_of_ble_eq_true rfl⟩) hS (fun q _ h => hFc_40 q h) hFc_40 (fun r_40 uu tt H1 locs ht hvm h_40 hB hz1 hk1 hS => ?_)
      obtain ⟨hP, hD⟩ := muE.join (ws' := mG ct a (nI (kPush k)) (nI t) (rowOf (s2 v (4 + d) 3 y)) v.2 (rowOf v) v.2 (hisI (hPush w k v)) (hisF (hPush w k v)) (hisI sl) (hisF sl) ik tx rd) hP hD (List.Perm.of_eq (List.append_nil _).symm) (List.Perm.of_eq (List.append_nil _).symm) hk1 hFc_40 ht hB
      generalize H1 = H at hP hS ⊢
      obtain rfl : r_40 = pLP (s2 v (4 + d) 3 y) d := h_40
      have hP9 : va_P D vwCl (mS ct a (s2 v (4 + d) 3 y) v (hPush w k v) sl (kPush k) t ik tx rd) H := hP
      have hD9 : va_D A (mS ct a (s2 v (4 + d) 3 y) v (hPush w k v) sl (kPush k) t ik tx rd) := mG_dn hD
      subst hAe
      exact W.iret (v := (pLP (s2 v (4 + d) 3 y) d)) hx hb hr (fun tt ht hW => ⟨⟨(pLP (s2 v (4 + d) 3 y) d), (), rfl, rfl, muE.of (ct := ct) hP9 hD9 ht⟩, hS.F ht⟩) hS.2.2 dX6_setBrightness_43
    · exact absurd c_17 hin
  · exact absurd (if_pos hvd) c_5

set_option maxHeartbeats 4000000 in
set_option maxRecDepth 100000 in
theorem k_X6_setPattern_e1 (l : Launch) (D : va_G) (ct : Nat → ClassId) (a : Nat → Nat) (v u : SV) (w sl : Nat → SV) (k t : Nat) (hk : k ≤ 5) (ik tx rd : Nat → Int32) (x : Int32) (y1 : Int32) (hnd : ¬ vD v x) : Met l yX6_setPattern wsX6_setPattern ({ frames := 2, cells := 0, slots := 0, locals := 43 }) (roP D ct (mG ct a (nI k) (nI t) (rowOf v) v.2 (rowOf u) u.2 (hisI w) (hisF w) (hisI sl) (hisF sl) ik tx rd) [.ref (a 0), .int x, .int y1]) (vp_Si (fun r => r = -1)) 0 0 noA := by
  refine Met.ofW (cc := cX6_setPattern) (maxL := 4) (ret := (some .int)) (by decide) rfl ?_
  intro p e s m args below meth c s₁ B hml hv
  obtain ⟨rfl, hP, hK, hN⟩ := hv
  have hx := B.exec
  have hb := B.bytes
  have hr := B.returns
  have hts := atoms_spec (ws := wsX6_setPattern) B.pre
  have hown : s.vm.findClass RX6 = some m.cls := findClass_of_methodNamed B.named
  have hlocks := B.notSynchronized
  have hl := lv_entry ([.ref (a 0), .int x, .int y1]) (n := 4) (Nat.le_of_ble_eq_true rfl)
  rw [lg_entry_eq]
  generalize (lg_sl ([.ref (a 0), .int x, .int y1]) ++ List.replicate (4 - (lg_sl ([.ref (a 0), .int x, .int y1])).length) Slot.unset).toArray = ls at hl ⊢
  have hl : lv_has ls 4 [(0, .ref (a 0)), (1, .int x), (2, .int y1)] := hl
  refine lv_aload_n hx hb dX6_setPattern_0 rfl (lv_at hl 0 rfl) ?_
  refine lv_iload_n hx hb dX6_setPattern_1 rfl (lv_at hl 1 rfl) ?_
  refine vp_callSi (va_runV (As := [.int x]) (rest := []) ⟨hx, hb, hml, hown, hts⟩ (k_X6_noDigit l D ct (a 0) (a 1) (mTl a (nI k) (nI t)) v x) (cwV 1 hts gX6_setPattern_X6_noDigit rfl rfl rfl (by decide +kernel) ⟨Nat.le_of_ble_eq_true rfl, Nat.le_of_ble_eq_true rfl⟩) ⟨roP.blind, va_recv hK (mG_R hP) (ci := 6) (q0 := 0) rfl rfl, roP.at (mG_R hP) hK hN⟩ rfl rfl hl.1 rfl (lv_room (Nat.le_of_ble_eq_true rfl)) dX6_setPattern_2 ⟨Nat.le_of_ble_eq_true rfl, Nat.le_of_ble_eq_true rfl⟩).run (fun r_2 h_2 => ?_)
  obtain rfl : r_2 = if vD v x then 0 else 1 := h_2
  refine lv_if_eq (tgt := 10) hx hb dX6_setPattern_5 (by decide) (fun c_5 => ?_) (fun c_5 => ?_)
  · exact absurd ((if_neg hnd).symm.trans c_5) (by decide)
  · refine lv_iconst (v := (-1)) hx hb dX6_setPattern_8 (by decide) ?_
    exact W.iret (v := (-1)) hx hb hr (fun tt ht hW => ⟨(-1), rfl, rfl, ht⟩) (fun q hq => absurd hq List.not_mem_nil) dX6_setPattern_9

set_option maxHeartbeats 4000000 in
set_option maxRecDepth 100000 in
theorem k_X6_setPattern_e2 (l : Launch) (D : va_G) (ct : Nat → ClassId) (a : Nat → Nat) (v u : SV) (w sl : Nat → SV) (k t : Nat) (hk : k ≤ 5) (ik tx rd : Nat → Int32) (ok : Inv v) (d : Nat) (hd : d < nOf v) (y : Int32) (hin : pIn y 0 255 = 0) : Met l yX6_setPattern wsX6_setPattern ({ frames := 2, cells := 0, slots := 0, locals := 43 }) (roP D ct (mG ct a (nI k) (nI t) (rowOf v) v.2 (rowOf u) u.2 (hisI w) (hisF w) (hisI sl) (hisF sl) ik tx rd) [.ref (a 0), .int (nI d), .int y]) (vp_Si (fun r => r = -2)) 0 0 noA := by
  refine Met.ofW (cc := cX6_setPattern) (maxL := 4) (ret := (some .int)) (by decide) rfl ?_
  intro p e s m args below meth c s₁ B hml hv
  obtain ⟨rfl, hP, hK, hN⟩ := hv
  have hx := B.exec
  have hb := B.bytes
  have hr := B.returns
  have hts := atoms_spec (ws := wsX6_setPattern) B.pre
  have hown : s.vm.findClass RX6 = some m.cls := findClass_of_methodNamed B.named
  have hlocks := B.notSynchronized
  have hl := lv_entry ([.ref (a 0), .int (nI d), .int y]) (n := 4) (Nat.le_of_ble_eq_true rfl)
  rw [lg_entry_eq]
  generalize (lg_sl ([.ref (a 0), .int (nI d), .int y]) ++ List.replicate (4 - (lg_sl ([.ref (a 0), .int (nI d), .int y])).length) Slot.unset).toArray = ls at hl ⊢
  have hl : lv_has ls 4 [(0, .ref (a 0)), (1, .int (nI d)), (2, .int y)] := hl
  have hd8 : d < 8 := Nat.lt_of_lt_of_le hd ok.n8
  have hvd := vD_of ok hd
  refine lv_aload_n hx hb dX6_setPattern_0 rfl (lv_at hl 0 rfl) ?_
  refine lv_iload_n hx hb dX6_setPattern_1 rfl (lv_at hl 1 rfl) ?_
  refine vp_callSi (va_runV (As := [.int (nI d)]) (rest := []) ⟨hx, hb, hml, hown, hts⟩ (k_X6_noDigit l D ct (a 0) (a 1) (mTl a (nI k) (nI t)) v (nI d)) (cwV 1 hts gX6_setPattern_X6_noDigit rfl rfl rfl (by decide +kernel) ⟨Nat.le_of_ble_eq_true rfl, Nat.le_of_ble_eq_true rfl⟩) ⟨roP.blind, va_recv hK (mG_R hP) (ci := 6) (q0 := 0) rfl rfl, roP.at (mG_R hP) hK hN⟩ rfl rfl hl.1 rfl (lv_room (Nat.le_of_ble_eq_true rfl)) dX6_setPattern_2 ⟨Nat.le_of_ble_eq_true rfl, Nat.le_of_ble_eq_true rfl⟩).run (fun r_2 h_2 => ?_)
  obtain rfl : r_2 = if vD v (nI d) then 0 else 1 := h_2
  refine lv_if_eq (tgt := 10) hx hb dX6_setPattern_5 (by decide) (fun c_5 => ?_) (fun c_5 => ?_)
  · refine lv_iload_n hx hb dX6_setPattern_10 rfl (lv_at hl 2 rfl) ?_
    refine lv_iconst (v := 0) hx hb dX6_setPattern_11 (by decide) ?_
    refine lv_sipush (v := 255) hx hb dX6_setPattern_12 (by decide) ?_
    refine vp_callSi (va_runS (As := [.int y, .int 0, .int 255]) (rest := []) ⟨hx, hb, hml, hown, hts⟩ (k_X6_in l D ct y 0 255) (va_cwS 3 hts gX6_setPattern_X6_in rfl rfl rfl (by decide +kernel) ⟨Nat.le_of_ble_eq_true rfl, Nat.le_of_ble_eq_true rfl⟩) ⟨roP.blind, roP.at pw_nil hK hN⟩ rfl rfl hl.1 rfl (lv_room (Nat.le_of_ble_eq_true rfl)) dX6_setPattern_15 ⟨Nat.le_of_ble_eq_true rfl, Nat.le_of_ble_eq_true rfl⟩).run (fun r_15 h_15 => ?_)
    obtain rfl : r_15 = pIn y 0 255 := h_15
    refine lv_if_ne (tgt := 24) hx hb dX6_setPattern_18 (by decide) (fun c_18 => ?_) (fun c_18 => ?_)
    · exact absurd hin c_18
    · refine lv_bipush (v := (-2)) hx hb dX6_setPattern_21 (by decide) ?_
      exact W.iret (v := (-2)) hx hb hr (fun tt ht hW => ⟨(-2), rfl, rfl, ht⟩) (fun q hq => absurd hq List.not_mem_nil) dX6_setPattern_23
  · exact absurd (if_pos hvd) c_5

set_option maxHeartbeats 4000000 in
set_option maxRecDepth 100000 in
theorem k_X6_setPattern_ok (l : Launch) (D : va_G) (ct : Nat → ClassId) (sz : Nat) (a : Nat → Nat) (v u : SV) (w sl : Nat → SV) (k t : Nat) (hk : k ≤ 5) (ik tx rd : Nat → Int32) (ok : Inv v) (d : Nat) (hd : d < nOf v) (y : Int32) (hin : ¬ pIn y 0 255 = 0) : Met l yX6_setPattern wsX6_setPattern ({ frames := 2, cells := 0, slots := 0, locals := 43 }) (muP D ct (mG ct a (nI k) (nI t) (rowOf v) v.2 (rowOf u) u.2 (hisI w) (hisF w) (hisI sl) (hisF sl) ik tx rd) sz [.ref (a 0), .int (nI d), .int y]) (muI D ct (mG ct a (nI k) (nI t) (rowOf v) v.2 (rowOf u) u.2 (hisI w) (hisF w) (hisI sl) (hisF sl) ik tx rd) (mS ct a (s2 v (4 + d) 0 y) v (hPush w k v) sl (kPush k) t ik tx rd) sz (fun r => r = v.1 (4 + d) 0)) 0 0 (va_A (mG ct a (nI k) (nI t) (rowOf v) v.2 (rowOf u) u.2 (hisI w) (hisF w) (hisI sl) (hisF sl) ik tx rd) sz) := by
  refine Met.ofW (cc := cX6_setPattern) (maxL := 4) (ret := (some .int)) (by decide) rfl ?_
  intro p e s m args below meth c s₁ B hml hv
  obtain ⟨rfl, hsz, hP, hK, hN, hD0⟩ := hv
  have hx := B.exec
  have hb := B.bytes
  have hr := B.returns
  have hts := atoms_spec (ws := wsX6_setPattern) B.pre
  have hown : s.vm.findClass RX6 = some m.cls := findClass_of_methodNamed B.named
  have hlocks := B.notSynchronized
  subst hsz
  have hD := hD0.self (sz := s.heap.size)
  generalize hAe : va_A (mG ct a (nI k) (nI t) (rowOf v) v.2 (rowOf u) u.2 (hisI w) (hisF w) (hisI sl) (hisF sl) ik tx rd) s.heap.size = A at hD
  have hA : ∀ q : Nat, s.heap.size ≤ q → A q := fun q h => by rw [← hAe]; exact Or.inr h
  have hS : va_S A s.heap s.heap [] := va_S.rf
  have hl := lv_entry ([.ref (a 0), .int (nI d), .int y]) (n := 4) (Nat.le_of_ble_eq_true rfl)
  rw [lg_entry_eq]
  generalize (lg_sl ([.ref (a 0), .int (nI d), .int y]) ++ List.replicate (4 - (lg_sl ([.ref (a 0), .int (nI d), .int y])).length) Slot.unset).toArray = ls at hl ⊢
  have hl : lv_has ls 4 [(0, .ref (a 0)), (1, .int (nI d)), (2, .int y)] := hl
  have hd8 : d < 8 := Nat.lt_of_lt_of_le hd ok.n8
  have hvd := vD_of ok hd
  refine lv_aload_n hx hb dX6_setPattern_0 rfl (lv_at hl 0 rfl) ?_
  refine lv_iload_n hx hb dX6_setPattern_1 rfl (lv_at hl 1 rfl) ?_
  refine vp_callSi (va_runV (As := [.int (nI d)]) (rest := []) ⟨hx, hb, hml, hown, hts⟩ (k_X6_noDigit l D ct (a 0) (a 1) (mTl a (nI k) (nI t)) v (nI d)) (cwV 1 hts gX6_setPattern_X6_noDigit rfl rfl rfl (by decide +kernel) ⟨Nat.le_of_ble_eq_true rfl, Nat.le_of_ble_eq_true rfl⟩) ⟨roP.blind, va_recv hK (mG_R hP) (ci := 6) (q0 := 0) rfl rfl, roP.at (mG_R hP) hK hN⟩ rfl rfl hl.1 rfl (lv_room (Nat.le_of_ble_eq_true rfl)) dX6_setPattern_2 ⟨Nat.le_of_ble_eq_true rfl, Nat.le_of_ble_eq_true rfl⟩).run (fun r_2 h_2 => ?_)
  obtain rfl : r_2 = if vD v (nI d) then 0 else 1 := h_2
  refine lv_if_eq (tgt := 10) hx hb dX6_setPattern_5 (by decide) (fun c_5 => ?_) (fun c_5 => ?_)
  · refine lv_iload_n hx hb dX6_setPattern_10 rfl (lv_at hl 2 rfl) ?_
    refine lv_iconst (v := 0) hx hb dX6_setPattern_11 (by decide) ?_
    refine lv_sipush (v := 255) hx hb dX6_setPattern_12 (by decide) ?_
    refine vp_callSi (va_runS (As := [.int y, .int 0, .int 255]) (rest := []) ⟨hx, hb, hml, hown, hts⟩ (k_X6_in l D ct y 0 255) (va_cwS 3 hts gX6_setPattern_X6_in rfl rfl rfl (by decide +kernel) ⟨Nat.le_of_ble_eq_true rfl, Nat.le_of_ble_eq_true rfl⟩) ⟨roP.blind, roP.at pw_nil hK hN⟩ rfl rfl hl.1 rfl (lv_room (Nat.le_of_ble_eq_true rfl)) dX6_setPattern_15 ⟨Nat.le_of_ble_eq_true rfl, Nat.le_of_ble_eq_true rfl⟩).run (fun r_15 h_15 => ?_)
    obtain rfl : r_15 = pIn y 0 255 := h_15
    refine lv_if_ne (tgt := 24) hx hb dX6_setPattern_18 (by decide) (fun c_18 => ?_) (fun c_18 => ?_)
    · refine lv_aload_n hx hb dX6_setPattern_24 rfl (lv_at hl 0 rfl) ?_
      have hFc_25 := w_free (wc := mG ct a (nI k) (nI t) (rowOf v) v.2 (rowOf u) u.2 (hisI w) (hisF w) (hisI sl) (hisF sl) ik tx rd) hD (List.Perm.of_eq (List.append_nil _).symm) hS hA
      refine va_callv (va_runV (As := []) (rest := []) ⟨hx, hb, hml, hown, hts⟩ (k_X6_begin l D ct _ a (nI k) (nI t) (rowOf v) v.2 (rowOf u) u.2 (hisI w) (hisF w) (hisI sl) (hisF sl) ik tx rd) (cwV 0 hts gX6_setPattern_X6_begin rfl rfl rfl (by decide +kernel) ⟨Nat.le_of_ble_eq_true rfl, Nat.le_of_ble_eq_true rfl⟩) ⟨muP.blind, va_recv hK hP (ci := 6) (q0 := 0) rfl rfl, muP.at hP hD hK hN⟩ rfl rfl hl.1 rfl (lv_room (Nat.le_of_ble_eq_true rfl)) dX6_setPattern_25 ⟨Nat.le_of_ble_eq_true rfl, Nat.le_of_ble_eq_true rfl⟩) hS (fun q _ h => hFc_25 q h) hFc_25 (fun uu tt H1 locs ht hvm hw hB hz1 hk1 hS => ?_)
      obtain ⟨hP, hD⟩ := muE.join (ws' := mG ct a (nI k) (nI t) (rowOf v) v.2 (rowOf v) v.2 (hisI w) (hisF w) (hisI sl) (hisF sl) ik tx rd) hP hD (List.Perm.of_eq (List.append_nil _).symm) (List.Perm.of_eq (List.append_nil _).symm) hk1 hFc_25 ht hB
      generalize H1 = H at hP hS ⊢
      refine lv_aload_n hx hb dX6_setPattern_28 rfl (lv_at hl 0 rfl) ?_
      refine lv_iload_n hx hb dX6_setPattern_29 rfl (lv_at hl 1 rfl) ?_
      refine lv_iconst (v := 0) hx hb dX6_setPattern_30 (by decide) ?_
      refine vp_callSi (va_runV (As := [.int (nI d), .int 0]) (rest := []) ⟨hx, hb, hml, hown, hts⟩ (k_X6_of l D ct (a 0) (a 1) (mTl a (nI k) (nI t)) v d 0 hd8 (by decide)) (cwV 2 hts gX6_setPattern_X6_of rfl rfl rfl (by decide +kernel) ⟨Nat.le_of_ble_eq_true rfl, Nat.le_of_ble_eq_true rfl⟩) ⟨roP.blind, va_recv hK (mG_R hP) (ci := 6) (q0 := 0) rfl rfl, roP.at (mG_R hP) hK hN⟩ rfl rfl hl.1 rfl (lv_room (Nat.le_of_ble_eq_true rfl)) dX6_setPattern_31 ⟨Nat.le_of_ble_eq_true rfl, Nat.le_of_ble_eq_true rfl⟩).run (fun r_31 h_31 => ?_)
      obtain rfl : r_31 = v.1 (4 + d) 0 := h_31
      refine lv_istore_n (lv' := [(3, .int (v.1 (4 + d) 0)), (0, .ref (a 0)), (1, .int (nI d)), (2, .int y)]) hx hb dX6_setPattern_34 rfl hl (by decide) rfl (fun ls hl => ?_)
      refine lv_aload_n hx hb dX6_setPattern_35 rfl (lv_at hl 1 rfl) ?_
      refine lv_iload_n hx hb dX6_setPattern_36 rfl (lv_at hl 2 rfl) ?_
      refine lv_iconst (v := 0) hx hb dX6_setPattern_37 (by decide) ?_
      refine lv_iload_n hx hb dX6_setPattern_38 rfl (lv_at hl 3 rfl) ?_
      have hFc_39 := w_free (wc := mR ct (a 0) (a 1) (mTl a (nI k) (nI t)) v) hD (mG_pR) hS hA
      refine va_callv (va_runV (As := [.int (nI d), .int 0, .int y]) (rest := []) ⟨hx, hb, hml, hown, hts⟩ (k_X6_put l D ct _ (a 0) (a 1) (mTl a (nI k) (nI t)) v d 0 y hd8 (by decide)) (cwV 3 hts gX6_setPattern_X6_put rfl rfl rfl (by decide +kernel) ⟨Nat.le_of_ble_eq_true rfl, Nat.le_of_ble_eq_true rfl⟩) ⟨muP.blind, va_recv hK (mG_R hP) (ci := 6) (q0 := 0) rfl rfl, muP.at (mG_R hP) (mG_RD hD) hK hN⟩ rfl rfl hl.1 rfl (lv_room (Nat.le_of_ble_eq_true rfl)) dX6_setPattern_39 ⟨Nat.le_of_ble_eq_true rfl, Nat.le_of_ble_eq_true rfl⟩) hS (fun q _ h => hFc_39 q h) hFc_39 (fun uu tt H1 locs ht hvm hw hB hz1 hk1 hS => ?_)
      obtain ⟨hP, hD⟩ := muE.join (ws' := mG ct a (nI k) (nI t) (rowOf (s2 v (4 + d) 0 y)) v.2 (rowOf v) v.2 (hisI w) (hisF w) (hisI sl) (hisF sl) ik tx rd) hP hD (mG_pR) (mG_pR) hk1 hFc_39 ht hB
      generalize H1 = H at hP hS ⊢
      refine lv_aload_n hx hb dX6_setPattern_42 rfl (lv_at hl 1 rfl) ?_
      refine lv_iload_n hx hb dX6_setPattern_43 rfl (lv_at hl 0 rfl) ?_
      have hFc_44 := w_free (wc := mG ct a (nI k) (nI t) (rowOf (s2 v (4 + d) 0 y)) v.2 (rowOf v) v.2 (hisI w) (hisF w) (hisI sl) (hisF sl) ik tx rd) hD (List.Perm.of_eq (List.append_nil _).symm) hS hA
      refine va_calli (va_runV (As := [.int (v.1 (4 + d) 0)]) (rest := []) ⟨hx, hb, hml, hown, hts⟩ (k_X6_done l D ct _ a (nI t) (rowOf (s2 v (4 + d) 0 y)) v.2 v w k hk (hisI sl) (hisF sl) ik tx rd (v.1 (4 + d) 0)) (cwV 1 hts gX6_setPattern_X6_done rfl rfl rfl (by decide +kernel) ⟨Nat.le_of_ble_eq_true rfl, Nat.le_of_ble_eq_true rfl⟩) ⟨muP.blind, va_recv hK hP (ci := 6) (q0 := 0) rfl rfl, muP.at hP hD hK hN⟩ rfl rfl hl.1 rfl (lv_room (Nat.le_of_ble_eq_true rfl)) dX6_setPattern_44 ⟨Nat.le_of_ble_eq_true rfl, Nat.le_of_ble_eq_true rfl⟩) hS (fun q _ h => hFc_44 q h) hFc_44 (fun r_44 uu tt H1 locs ht hvm h_44 hB hz1 hk1 hS => ?_)
      obtain ⟨hP, hD⟩ := muE.join (ws' := mG ct a (nI (kPush k)) (nI t) (rowOf (s2 v (4 + d) 0 y)) v.2 (rowOf v) v.2 (hisI (hPush w k v)) (hisF (hPush w k v)) (hisI sl) (hisF sl) ik tx rd) hP hD (List.Perm.of_eq (List.append_nil _).symm) (List.Perm.of_eq (List.append_nil _).symm) hk1 hFc_44 ht hB
      generalize H1 = H at hP hS ⊢
      obtain rfl : r_44 = v.1 (4 + d) 0 := h_44
      have hP9 : va_P D vwCl (mS ct a (s2 v (4 + d) 0 y) v (hPush w k v) sl (kPush k) t ik tx rd) H := hP
      have hD9 : va_D A (mS ct a (s2 v (4 + d) 0 y) v (hPush w k v) sl (kPush k) t ik tx rd) := mG_dn hD
      subst hAe
      exact W.iret (v := (v.1 (4 + d) 0)) hx hb hr (fun tt ht hW => ⟨⟨(v.1 (4 + d) 0), (), rfl, rfl, muE.of (ct := ct) hP9 hD9 ht⟩, hS.F ht⟩) hS.2.2 dX6_setPattern_47
    · exact absurd c_18 hin
  · exact absurd (if_pos hvd) c_5

set_option maxHeartbeats 4000000 in
set_option maxRecDepth 100000 in
theorem k_X6_setGroup_e1 (l : Launch) (D : va_G) (ct : Nat → ClassId) (a : Nat → Nat) (v u : SV) (w sl : Nat → SV) (k t : Nat) (hk : k ≤ 5) (ik tx rd : Nat → Int32) (x y : Int32) (hnd : ¬ vD v x ∨ pIn y 0 3 = 0) : Met l yX6_setGroup wsX6_setGroup ({ frames := 2, cells := 0, slots := 0, locals := 43 }) (roP D ct (mG ct a (nI k) (nI t) (rowOf v) v.2 (rowOf u) u.2 (hisI w) (hisF w) (hisI sl) (hisF sl) ik tx rd) [.ref (a 0), .int x, .int y]) (vp_Si (fun r => r = -1)) 0 0 noA := by
  refine Met.ofW (cc := cX6_setGroup) (maxL := 4) (ret := (some .int)) (by decide) rfl ?_
  intro p e s m args below meth c s₁ B hml hv
  obtain ⟨rfl, hP, hK, hN⟩ := hv
  have hx := B.exec
  have hb := B.bytes
  have hr := B.returns
  have hts := atoms_spec (ws := wsX6_setGroup) B.pre
  have hown : s.vm.findClass RX6 = some m.cls := findClass_of_methodNamed B.named
  have hlocks := B.notSynchronized
  have hl := lv_entry ([.ref (a 0), .int x, .int y]) (n := 4) (Nat.le_of_ble_eq_true rfl)
  rw [lg_entry_eq]
  generalize (lg_sl ([.ref (a 0), .int x, .int y]) ++ List.replicate (4 - (lg_sl ([.ref (a 0), .int x, .int y])).length) Slot.unset).toArray = ls at hl ⊢
  have hl : lv_has ls 4 [(0, .ref (a 0)), (1, .int x), (2, .int y)] := hl
  refine lv_aload_n hx hb dX6_setGroup_0 rfl (lv_at hl 0 rfl) ?_
  refine lv_iload_n hx hb dX6_setGroup_1 rfl (lv_at hl 1 rfl) ?_
  refine vp_callSi (va_runV (As := [.int x]) (rest := []) ⟨hx, hb, hml, hown, hts⟩ (k_X6_noDigit l D ct (a 0) (a 1) (mTl a (nI k) (nI t)) v x) (cwV 1 hts gX6_setGroup_X6_noDigit rfl rfl rfl (by decide +kernel) ⟨Nat.le_of_ble_eq_true rfl, Nat.le_of_ble_eq_true rfl⟩) ⟨roP.blind, va_recv hK (mG_R hP) (ci := 6) (q0 := 0) rfl rfl, roP.at (mG_R hP) hK hN⟩ rfl rfl hl.1 rfl (lv_room (Nat.le_of_ble_eq_true rfl)) dX6_setGroup_2 ⟨Nat.le_of_ble_eq_true rfl, Nat.le_of_ble_eq_true rfl⟩).run (fun r_2 h_2 => ?_)
  obtain rfl : r_2 = if vD v x then 0 else 1 := h_2
  refine lv_if_ne (tgt := 17) hx hb dX6_setGroup_5 (by decide) (fun c_5 => ?_) (fun c_5 => ?_)
  · refine lv_iconst (v := (-1)) hx hb dX6_setGroup_17 (by decide) ?_
    exact W.iret (v := (-1)) hx hb hr (fun tt ht hW => ⟨(-1), rfl, rfl, ht⟩) (fun q hq => absurd hq List.not_mem_nil) dX6_setGroup_18
  · have hvd : vD v x := Classical.byContradiction (fun z => absurd ((if_neg z).symm.trans c_5) (by decide))
    refine lv_iload_n hx hb dX6_setGroup_8 rfl (lv_at hl 2 rfl) ?_
    refine lv_iconst (v := 0) hx hb dX6_setGroup_9 (by decide) ?_
    refine lv_iconst (v := 3) hx hb dX6_setGroup_10 (by decide) ?_
    refine vp_callSi (va_runS (As := [.int y, .int 0, .int 3]) (rest := []) ⟨hx, hb, hml, hown, hts⟩ (k_X6_in l D ct y 0 3) (va_cwS 3 hts gX6_setGroup_X6_in rfl rfl rfl (by decide +kernel) ⟨Nat.le_of_ble_eq_true rfl, Nat.le_of_ble_eq_true rfl⟩) ⟨roP.blind, roP.at pw_nil hK hN⟩ rfl rfl hl.1 rfl (lv_room (Nat.le_of_ble_eq_true rfl)) dX6_setGroup_11 ⟨Nat.le_of_ble_eq_true rfl, Nat.le_of_ble_eq_true rfl⟩).run (fun r_11 h_11 => ?_)
    obtain rfl : r_11 = pIn y 0 3 := h_11
    refine lv_if_ne (tgt := 19) hx hb dX6_setGroup_14 (by decide) (fun c_14 => ?_) (fun c_14 => ?_)
    · exact (hnd.elim (fun z => absurd hvd z) (fun z => absurd z c_14))
    · refine lv_iconst (v := (-1)) hx hb dX6_setGroup_17 (by decide) ?_
      exact W.iret (v := (-1)) hx hb hr (fun tt ht hW => ⟨(-1), rfl, rfl, ht⟩) (fun q hq => absurd hq List.not_mem_nil) dX6_setGroup_18

set_option maxHeartbeats 4000000 in
set_option maxRecDepth 100000 in
theorem k_X6_setGroup_ok (l : Launch) (D : va_G) (ct : Nat → ClassId) (sz : Nat) (a : Nat → Nat) (v u : SV) (w sl : Nat → SV) (k t : Nat) (hk : k ≤ 5) (ik tx rd : Nat → Int32) (ok : Inv v) (d : Nat) (hd : d < nOf v) (y : Int32) (hin : ¬ pIn y 0 3 = 0) : Met l yX6_setGroup wsX6_setGroup ({ frames := 2, cells := 0, slots := 0, locals := 43 }) (muP D ct (mG ct a (nI k) (nI t) (rowOf v) v.2 (rowOf u) u.2 (hisI w) (hisF w) (hisI sl) (hisF sl) ik tx rd) sz [.ref (a 0), .int (nI d), .int y]) (muI D ct (mG ct a (nI k) (nI t) (rowOf v) v.2 (rowOf u) u.2 (hisI w) (hisF w) (hisI sl) (hisF sl) ik tx rd) (mS ct a (s2 v (4 + d) 4 y) v (hPush w k v) sl (kPush k) t ik tx rd) sz (fun r => r = v.1 (4 + d) 4)) 0 0 (va_A (mG ct a (nI k) (nI t) (rowOf v) v.2 (rowOf u) u.2 (hisI w) (hisF w) (hisI sl) (hisF sl) ik tx rd) sz) := by
  refine Met.ofW (cc := cX6_setGroup) (maxL := 4) (ret := (some .int)) (by decide) rfl ?_
  intro p e s m args below meth c s₁ B hml hv
  obtain ⟨rfl, hsz, hP, hK, hN, hD0⟩ := hv
  have hx := B.exec
  have hb := B.bytes
  have hr := B.returns
  have hts := atoms_spec (ws := wsX6_setGroup) B.pre
  have hown : s.vm.findClass RX6 = some m.cls := findClass_of_methodNamed B.named
  have hlocks := B.notSynchronized
  subst hsz
  have hD := hD0.self (sz := s.heap.size)
  generalize hAe : va_A (mG ct a (nI k) (nI t) (rowOf v) v.2 (rowOf u) u.2 (hisI w) (hisF w) (hisI sl) (hisF sl) ik tx rd) s.heap.size = A at hD
  have hA : ∀ q : Nat, s.heap.size ≤ q → A q := fun q h => by rw [← hAe]; exact Or.inr h
  have hS : va_S A s.heap s.heap [] := va_S.rf
  have hl := lv_entry ([.ref (a 0), .int (nI d), .int y]) (n := 4) (Nat.le_of_ble_eq_true rfl)
  rw [lg_entry_eq]
  generalize (lg_sl ([.ref (a 0), .int (nI d), .int y]) ++ List.replicate (4 - (lg_sl ([.ref (a 0), .int (nI d), .int y])).length) Slot.unset).toArray = ls at hl ⊢
  have hl : lv_has ls 4 [(0, .ref (a 0)), (1, .int (nI d)), (2, .int y)] := hl
  have hd8 : d < 8 := Nat.lt_of_lt_of_le hd ok.n8
  have hvd := vD_of ok hd
  refine lv_aload_n hx hb dX6_setGroup_0 rfl (lv_at hl 0 rfl) ?_
  refine lv_iload_n hx hb dX6_setGroup_1 rfl (lv_at hl 1 rfl) ?_
  refine vp_callSi (va_runV (As := [.int (nI d)]) (rest := []) ⟨hx, hb, hml, hown, hts⟩ (k_X6_noDigit l D ct (a 0) (a 1) (mTl a (nI k) (nI t)) v (nI d)) (cwV 1 hts gX6_setGroup_X6_noDigit rfl rfl rfl (by decide +kernel) ⟨Nat.le_of_ble_eq_true rfl, Nat.le_of_ble_eq_true rfl⟩) ⟨roP.blind, va_recv hK (mG_R hP) (ci := 6) (q0 := 0) rfl rfl, roP.at (mG_R hP) hK hN⟩ rfl rfl hl.1 rfl (lv_room (Nat.le_of_ble_eq_true rfl)) dX6_setGroup_2 ⟨Nat.le_of_ble_eq_true rfl, Nat.le_of_ble_eq_true rfl⟩).run (fun r_2 h_2 => ?_)
  obtain rfl : r_2 = if vD v (nI d) then 0 else 1 := h_2
  refine lv_if_ne (tgt := 17) hx hb dX6_setGroup_5 (by decide) (fun c_5 => ?_) (fun c_5 => ?_)
  · exact absurd (if_pos hvd) c_5
  · refine lv_iload_n hx hb dX6_setGroup_8 rfl (lv_at hl 2 rfl) ?_
    refine lv_iconst (v := 0) hx hb dX6_setGroup_9 (by decide) ?_
    refine lv_iconst (v := 3) hx hb dX6_setGroup_10 (by decide) ?_
    refine vp_callSi (va_runS (As := [.int y, .int 0, .int 3]) (rest := []) ⟨hx, hb, hml, hown, hts⟩ (k_X6_in l D ct y 0 3) (va_cwS 3 hts gX6_setGroup_X6_in rfl rfl rfl (by decide +kernel) ⟨Nat.le_of_ble_eq_true rfl, Nat.le_of_ble_eq_true rfl⟩) ⟨roP.blind, roP.at pw_nil hK hN⟩ rfl rfl hl.1 rfl (lv_room (Nat.le_of_ble_eq_true rfl)) dX6_setGroup_11 ⟨Nat.le_of_ble_eq_true rfl, Nat.le_of_ble_eq_true rfl⟩).run (fun r_11 h_11 => ?_)
    obtain rfl : r_11 = pIn y 0 3 := h_11
    refine lv_if_ne (tgt := 19) hx hb dX6_setGroup_14 (by decide) (fun c_14 => ?_) (fun c_14 => ?_)
    · refine lv_aload_n hx hb dX6_setGroup_19 rfl (lv_at hl 0 rfl) ?_
      have hFc_20 := w_free (wc := mG ct a (nI k) (nI t) (rowOf v) v.2 (rowOf u) u.2 (hisI w) (hisF w) (hisI sl) (hisF sl) ik tx rd) hD (List.Perm.of_eq (List.append_nil _).symm) hS hA
      refine va_callv (va_runV (As := []) (rest := []) ⟨hx, hb, hml, hown, hts⟩ (k_X6_begin l D ct _ a (nI k) (nI t) (rowOf v) v.2 (rowOf u) u.2 (hisI w) (hisF w) (hisI sl) (hisF sl) ik tx rd) (cwV 0 hts gX6_setGroup_X6_begin rfl rfl rfl (by decide +kernel) ⟨Nat.le_of_ble_eq_true rfl, Nat.le_of_ble_eq_true rfl⟩) ⟨muP.blind, va_recv hK hP (ci := 6) (q0 := 0) rfl rfl, muP.at hP hD hK hN⟩ rfl rfl hl.1 rfl (lv_room (Nat.le_of_ble_eq_true rfl)) dX6_setGroup_20 ⟨Nat.le_of_ble_eq_true rfl, Nat.le_of_ble_eq_true rfl⟩) hS (fun q _ h => hFc_20 q h) hFc_20 (fun uu tt H1 locs ht hvm hw hB hz1 hk1 hS => ?_)
      obtain ⟨hP, hD⟩ := muE.join (ws' := mG ct a (nI k) (nI t) (rowOf v) v.2 (rowOf v) v.2 (hisI w) (hisF w) (hisI sl) (hisF sl) ik tx rd) hP hD (List.Perm.of_eq (List.append_nil _).symm) (List.Perm.of_eq (List.append_nil _).symm) hk1 hFc_20 ht hB
      generalize H1 = H at hP hS ⊢
      refine lv_aload_n hx hb dX6_setGroup_23 rfl (lv_at hl 0 rfl) ?_
      refine lv_iload_n hx hb dX6_setGroup_24 rfl (lv_at hl 1 rfl) ?_
      refine lv_iconst (v := 4) hx hb dX6_setGroup_25 (by decide) ?_
      refine vp_callSi (va_runV (As := [.int (nI d), .int 4]) (rest := []) ⟨hx, hb, hml, hown, hts⟩ (k_X6_of l D ct (a 0) (a 1) (mTl a (nI k) (nI t)) v d 4 hd8 (by decide)) (cwV 2 hts gX6_setGroup_X6_of rfl rfl rfl (by decide +kernel) ⟨Nat.le_of_ble_eq_true rfl, Nat.le_of_ble_eq_true rfl⟩) ⟨roP.blind, va_recv hK (mG_R hP) (ci := 6) (q0 := 0) rfl rfl, roP.at (mG_R hP) hK hN⟩ rfl rfl hl.1 rfl (lv_room (Nat.le_of_ble_eq_true rfl)) dX6_setGroup_26 ⟨Nat.le_of_ble_eq_true rfl, Nat.le_of_ble_eq_true rfl⟩).run (fun r_26 h_26 => ?_)
      obtain rfl : r_26 = v.1 (4 + d) 4 := h_26
      refine lv_istore_n (lv' := [(3, .int (v.1 (4 + d) 4)), (0, .ref (a 0)), (1, .int (nI d)), (2, .int y)]) hx hb dX6_setGroup_29 rfl hl (by decide) rfl (fun ls hl => ?_)
      refine lv_aload_n hx hb dX6_setGroup_30 rfl (lv_at hl 1 rfl) ?_
      refine lv_iload_n hx hb dX6_setGroup_31 rfl (lv_at hl 2 rfl) ?_
      refine lv_iconst (v := 4) hx hb dX6_setGroup_32 (by decide) ?_
      refine lv_iload_n hx hb dX6_setGroup_33 rfl (lv_at hl 3 rfl) ?_
      have hFc_34 := w_free (wc := mR ct (a 0) (a 1) (mTl a (nI k) (nI t)) v) hD (mG_pR) hS hA
      refine va_callv (va_runV (As := [.int (nI d), .int 4, .int y]) (rest := []) ⟨hx, hb, hml, hown, hts⟩ (k_X6_put l D ct _ (a 0) (a 1) (mTl a (nI k) (nI t)) v d 4 y hd8 (by decide)) (cwV 3 hts gX6_setGroup_X6_put rfl rfl rfl (by decide +kernel) ⟨Nat.le_of_ble_eq_true rfl, Nat.le_of_ble_eq_true rfl⟩) ⟨muP.blind, va_recv hK (mG_R hP) (ci := 6) (q0 := 0) rfl rfl, muP.at (mG_R hP) (mG_RD hD) hK hN⟩ rfl rfl hl.1 rfl (lv_room (Nat.le_of_ble_eq_true rfl)) dX6_setGroup_34 ⟨Nat.le_of_ble_eq_true rfl, Nat.le_of_ble_eq_true rfl⟩) hS (fun q _ h => hFc_34 q h) hFc_34 (fun uu tt H1 locs ht hvm hw hB hz1 hk1 hS => ?_)
      obtain ⟨hP, hD⟩ := muE.join (ws' := mG ct a (nI k) (nI t) (rowOf (s2 v (4 + d) 4 y)) v.2 (rowOf v) v.2 (hisI w) (hisF w) (hisI sl) (hisF sl) ik tx rd) hP hD (mG_pR) (mG_pR) hk1 hFc_34 ht hB
      generalize H1 = H at hP hS ⊢
      refine lv_aload_n hx hb dX6_setGroup_37 rfl (lv_at hl 1 rfl) ?_
      refine lv_iload_n hx hb dX6_setGroup_38 rfl (lv_at hl 0 rfl) ?_
      have hFc_39 := w_free (wc := mG ct a (nI k) (nI t) (rowOf (s2 v (4 + d) 4 y)) v.2 (rowOf v) v.2 (hisI w) (hisF w) (hisI sl) (hisF sl) ik tx rd) hD (List.Perm.of_eq (List.append_nil _).symm) hS hA
      refine va_calli (va_runV (As := [.int (v.1 (4 + d) 4)]) (rest := []) ⟨hx, hb, hml, hown, hts⟩ (k_X6_done l D ct _ a (nI t) (rowOf (s2 v (4 + d) 4 y)) v.2 v w k hk (hisI sl) (hisF sl) ik tx rd (v.1 (4 + d) 4)) (cwV 1 hts gX6_setGroup_X6_done rfl rfl rfl (by decide +kernel) ⟨Nat.le_of_ble_eq_true rfl, Nat.le_of_ble_eq_true rfl⟩) ⟨muP.blind, va_recv hK hP (ci := 6) (q0 := 0) rfl rfl, muP.at hP hD hK hN⟩ rfl rfl hl.1 rfl (lv_room (Nat.le_of_ble_eq_true rfl)) dX6_setGroup_39 ⟨Nat.le_of_ble_eq_true rfl, Nat.le_of_ble_eq_true rfl⟩) hS (fun q _ h => hFc_39 q h) hFc_39 (fun r_39 uu tt H1 locs ht hvm h_39 hB hz1 hk1 hS => ?_)
      obtain ⟨hP, hD⟩ := muE.join (ws' := mG ct a (nI (kPush k)) (nI t) (rowOf (s2 v (4 + d) 4 y)) v.2 (rowOf v) v.2 (hisI (hPush w k v)) (hisF (hPush w k v)) (hisI sl) (hisF sl) ik tx rd) hP hD (List.Perm.of_eq (List.append_nil _).symm) (List.Perm.of_eq (List.append_nil _).symm) hk1 hFc_39 ht hB
      generalize H1 = H at hP hS ⊢
      obtain rfl : r_39 = v.1 (4 + d) 4 := h_39
      have hP9 : va_P D vwCl (mS ct a (s2 v (4 + d) 4 y) v (hPush w k v) sl (kPush k) t ik tx rd) H := hP
      have hD9 : va_D A (mS ct a (s2 v (4 + d) 4 y) v (hPush w k v) sl (kPush k) t ik tx rd) := mG_dn hD
      subst hAe
      exact W.iret (v := (v.1 (4 + d) 4)) hx hb hr (fun tt ht hW => ⟨⟨(v.1 (4 + d) 4), (), rfl, rfl, muE.of (ct := ct) hP9 hD9 ht⟩, hS.F ht⟩) hS.2.2 dX6_setGroup_42
    · exact absurd c_14 hin

set_option maxHeartbeats 4000000 in
set_option maxRecDepth 100000 in
theorem k_X6_replace_e1 (l : Launch) (D : va_G) (ct : Nat → ClassId) (a : Nat → Nat) (v u : SV) (w sl : Nat → SV) (k t : Nat) (hk : k ≤ 5) (ik tx rd : Nat → Int32) (x : Int32) (hnd : ¬ vD v x) : Met l yX6_replace wsX6_replace ({ frames := 2, cells := 0, slots := 0, locals := 43 }) (roP D ct (mG ct a (nI k) (nI t) (rowOf v) v.2 (rowOf u) u.2 (hisI w) (hisF w) (hisI sl) (hisF sl) ik tx rd) [.ref (a 0), .int x]) (vp_Si (fun r => r = -1)) 0 0 noA := by
  refine Met.ofW (cc := cX6_replace) (maxL := 3) (ret := (some .int)) (by decide) rfl ?_
  intro p e s m args below meth c s₁ B hml hv
  obtain ⟨rfl, hP, hK, hN⟩ := hv
  have hx := B.exec
  have hb := B.bytes
  have hr := B.returns
  have hts := atoms_spec (ws := wsX6_replace) B.pre
  have hown : s.vm.findClass RX6 = some m.cls := findClass_of_methodNamed B.named
  have hlocks := B.notSynchronized
  have hl := lv_entry ([.ref (a 0), .int x]) (n := 3) (Nat.le_of_ble_eq_true rfl)
  rw [lg_entry_eq]
  generalize (lg_sl ([.ref (a 0), .int x]) ++ List.replicate (3 - (lg_sl ([.ref (a 0), .int x])).length) Slot.unset).toArray = ls at hl ⊢
  have hl : lv_has ls 3 [(0, .ref (a 0)), (1, .int x)] := hl
  refine lv_aload_n hx hb dX6_replace_0 rfl (lv_at hl 0 rfl) ?_
  refine lv_iload_n hx hb dX6_replace_1 rfl (lv_at hl 1 rfl) ?_
  refine vp_callSi (va_runV (As := [.int x]) (rest := []) ⟨hx, hb, hml, hown, hts⟩ (k_X6_noDigit l D ct (a 0) (a 1) (mTl a (nI k) (nI t)) v x) (cwV 1 hts gX6_replace_X6_noDigit rfl rfl rfl (by decide +kernel) ⟨Nat.le_of_ble_eq_true rfl, Nat.le_of_ble_eq_true rfl⟩) ⟨roP.blind, va_recv hK (mG_R hP) (ci := 6) (q0 := 0) rfl rfl, roP.at (mG_R hP) hK hN⟩ rfl rfl hl.1 rfl (lv_room (Nat.le_of_ble_eq_true rfl)) dX6_replace_2 ⟨Nat.le_of_ble_eq_true rfl, Nat.le_of_ble_eq_true rfl⟩).run (fun r_2 h_2 => ?_)
  obtain rfl : r_2 = if vD v x then 0 else 1 := h_2
  refine lv_if_eq (tgt := 10) hx hb dX6_replace_5 (by decide) (fun c_5 => ?_) (fun c_5 => ?_)
  · exact absurd ((if_neg hnd).symm.trans c_5) (by decide)
  · refine lv_iconst (v := (-1)) hx hb dX6_replace_8 (by decide) ?_
    exact W.iret (v := (-1)) hx hb hr (fun tt ht hW => ⟨(-1), rfl, rfl, ht⟩) (fun q hq => absurd hq List.not_mem_nil) dX6_replace_9

set_option maxHeartbeats 4000000 in
set_option maxRecDepth 100000 in
theorem k_X6_replace_ok (l : Launch) (D : va_G) (ct : Nat → ClassId) (sz : Nat) (a : Nat → Nat) (v u : SV) (w sl : Nat → SV) (k t : Nat) (hk : k ≤ 5) (ik tx rd : Nat → Int32) (ok : Inv v) (d : Nat) (hd : d < nOf v) : Met l yX6_replace wsX6_replace ({ frames := 2, cells := 0, slots := 0, locals := 43 }) (muP D ct (mG ct a (nI k) (nI t) (rowOf v) v.2 (rowOf u) u.2 (hisI w) (hisF w) (hisI sl) (hisF sl) ik tx rd) sz [.ref (a 0), .int (nI d)]) (muI D ct (mG ct a (nI k) (nI t) (rowOf v) v.2 (rowOf u) u.2 (hisI w) (hisF w) (hisI sl) (hisF sl) ik tx rd) (mS ct a (pRen v d) v (hPush w k v) sl (kPush k) t ik tx rd) sz (fun r => r = pBro (v.1 (4 + d) 6) 8)) 0 0 (va_A (mG ct a (nI k) (nI t) (rowOf v) v.2 (rowOf u) u.2 (hisI w) (hisF w) (hisI sl) (hisF sl) ik tx rd) sz) := by
  refine Met.ofW (cc := cX6_replace) (maxL := 3) (ret := (some .int)) (by decide) rfl ?_
  intro p e s m args below meth c s₁ B hml hv
  obtain ⟨rfl, hsz, hP, hK, hN, hD0⟩ := hv
  have hx := B.exec
  have hb := B.bytes
  have hr := B.returns
  have hts := atoms_spec (ws := wsX6_replace) B.pre
  have hown : s.vm.findClass RX6 = some m.cls := findClass_of_methodNamed B.named
  have hlocks := B.notSynchronized
  subst hsz
  have hD := hD0.self (sz := s.heap.size)
  generalize hAe : va_A (mG ct a (nI k) (nI t) (rowOf v) v.2 (rowOf u) u.2 (hisI w) (hisF w) (hisI sl) (hisF sl) ik tx rd) s.heap.size = A at hD
  have hA : ∀ q : Nat, s.heap.size ≤ q → A q := fun q h => by rw [← hAe]; exact Or.inr h
  have hS : va_S A s.heap s.heap [] := va_S.rf
  have hl := lv_entry ([.ref (a 0), .int (nI d)]) (n := 3) (Nat.le_of_ble_eq_true rfl)
  rw [lg_entry_eq]
  generalize (lg_sl ([.ref (a 0), .int (nI d)]) ++ List.replicate (3 - (lg_sl ([.ref (a 0), .int (nI d)])).length) Slot.unset).toArray = ls at hl ⊢
  have hl : lv_has ls 3 [(0, .ref (a 0)), (1, .int (nI d))] := hl
  have hd8 : d < 8 := Nat.lt_of_lt_of_le hd ok.n8
  have hvd := vD_of ok hd
  refine lv_aload_n hx hb dX6_replace_0 rfl (lv_at hl 0 rfl) ?_
  refine lv_iload_n hx hb dX6_replace_1 rfl (lv_at hl 1 rfl) ?_
  refine vp_callSi (va_runV (As := [.int (nI d)]) (rest := []) ⟨hx, hb, hml, hown, hts⟩ (k_X6_noDigit l D ct (a 0) (a 1) (mTl a (nI k) (nI t)) v (nI d)) (cwV 1 hts gX6_replace_X6_noDigit rfl rfl rfl (by decide +kernel) ⟨Nat.le_of_ble_eq_true rfl, Nat.le_of_ble_eq_true rfl⟩) ⟨roP.blind, va_recv hK (mG_R hP) (ci := 6) (q0 := 0) rfl rfl, roP.at (mG_R hP) hK hN⟩ rfl rfl hl.1 rfl (lv_room (Nat.le_of_ble_eq_true rfl)) dX6_replace_2 ⟨Nat.le_of_ble_eq_true rfl, Nat.le_of_ble_eq_true rfl⟩).run (fun r_2 h_2 => ?_)
  obtain rfl : r_2 = if vD v (nI d) then 0 else 1 := h_2
  refine lv_if_eq (tgt := 10) hx hb dX6_replace_5 (by decide) (fun c_5 => ?_) (fun c_5 => ?_)
  · refine lv_aload_n hx hb dX6_replace_10 rfl (lv_at hl 0 rfl) ?_
    have hFc_11 := w_free (wc := mG ct a (nI k) (nI t) (rowOf v) v.2 (rowOf u) u.2 (hisI w) (hisF w) (hisI sl) (hisF sl) ik tx rd) hD (List.Perm.of_eq (List.append_nil _).symm) hS hA
    refine va_callv (va_runV (As := []) (rest := []) ⟨hx, hb, hml, hown, hts⟩ (k_X6_begin l D ct _ a (nI k) (nI t) (rowOf v) v.2 (rowOf u) u.2 (hisI w) (hisF w) (hisI sl) (hisF sl) ik tx rd) (cwV 0 hts gX6_replace_X6_begin rfl rfl rfl (by decide +kernel) ⟨Nat.le_of_ble_eq_true rfl, Nat.le_of_ble_eq_true rfl⟩) ⟨muP.blind, va_recv hK hP (ci := 6) (q0 := 0) rfl rfl, muP.at hP hD hK hN⟩ rfl rfl hl.1 rfl (lv_room (Nat.le_of_ble_eq_true rfl)) dX6_replace_11 ⟨Nat.le_of_ble_eq_true rfl, Nat.le_of_ble_eq_true rfl⟩) hS (fun q _ h => hFc_11 q h) hFc_11 (fun uu tt H1 locs ht hvm hw hB hz1 hk1 hS => ?_)
    obtain ⟨hP, hD⟩ := muE.join (ws' := mG ct a (nI k) (nI t) (rowOf v) v.2 (rowOf v) v.2 (hisI w) (hisF w) (hisI sl) (hisF sl) ik tx rd) hP hD (List.Perm.of_eq (List.append_nil _).symm) (List.Perm.of_eq (List.append_nil _).symm) hk1 hFc_11 ht hB
    generalize H1 = H at hP hS ⊢
    refine lv_aload_n hx hb dX6_replace_14 rfl (lv_at hl 0 rfl) ?_
    refine lv_iload_n hx hb dX6_replace_15 rfl (lv_at hl 1 rfl) ?_
    refine vp_callSi (va_runV (As := [.int (nI d)]) (rest := []) ⟨hx, hb, hml, hown, hts⟩ (k_X6_brokenOf l D ct (a 0) (a 1) (mTl a (nI k) (nI t)) v d hd8) (cwV 1 hts gX6_replace_X6_brokenOf rfl rfl rfl (by decide +kernel) ⟨Nat.le_of_ble_eq_true rfl, Nat.le_of_ble_eq_true rfl⟩) ⟨roP.blind, va_recv hK (mG_R hP) (ci := 6) (q0 := 0) rfl rfl, roP.at (mG_R hP) hK hN⟩ rfl rfl hl.1 rfl (lv_room (Nat.le_of_ble_eq_true rfl)) dX6_replace_16 ⟨Nat.le_of_ble_eq_true rfl, Nat.le_of_ble_eq_true rfl⟩).run (fun r_16 h_16 => ?_)
    obtain rfl : r_16 = pBro (v.1 (4 + d) 6) 8 := h_16
    refine lv_istore_n (lv' := [(2, .int (pBro (v.1 (4 + d) 6) 8)), (0, .ref (a 0)), (1, .int (nI d))]) hx hb dX6_replace_19 rfl hl (by decide) rfl (fun ls hl => ?_)
    refine lv_aload_n hx hb dX6_replace_20 rfl (lv_at hl 1 rfl) ?_
    refine lv_iload_n hx hb dX6_replace_21 rfl (lv_at hl 2 rfl) ?_
    have hFc_22 := w_free (wc := mR ct (a 0) (a 1) (mTl a (nI k) (nI t)) v) hD (mG_pR) hS hA
    refine va_callv (va_runV (As := [.int (nI d)]) (rest := []) ⟨hx, hb, hml, hown, hts⟩ (k_X6_renew l D ct _ (a 0) (a 1) (mTl a (nI k) (nI t)) v d hd8) (cwV 1 hts gX6_replace_X6_renew rfl rfl rfl (by decide +kernel) ⟨Nat.le_of_ble_eq_true rfl, Nat.le_of_ble_eq_true rfl⟩) ⟨muP.blind, va_recv hK (mG_R hP) (ci := 6) (q0 := 0) rfl rfl, muP.at (mG_R hP) (mG_RD hD) hK hN⟩ rfl rfl hl.1 rfl (lv_room (Nat.le_of_ble_eq_true rfl)) dX6_replace_22 ⟨Nat.le_of_ble_eq_true rfl, Nat.le_of_ble_eq_true rfl⟩) hS (fun q _ h => hFc_22 q h) hFc_22 (fun uu tt H1 locs ht hvm hw hB hz1 hk1 hS => ?_)
    obtain ⟨hP, hD⟩ := muE.join (ws' := mG ct a (nI k) (nI t) (rowOf (pRen v d)) v.2 (rowOf v) v.2 (hisI w) (hisF w) (hisI sl) (hisF sl) ik tx rd) hP hD (mG_pR) (mG_pR) hk1 hFc_22 ht hB
    generalize H1 = H at hP hS ⊢
    refine lv_aload_n hx hb dX6_replace_25 rfl (lv_at hl 1 rfl) ?_
    refine lv_iload_n hx hb dX6_replace_26 rfl (lv_at hl 0 rfl) ?_
    have hFc_27 := w_free (wc := mG ct a (nI k) (nI t) (rowOf (pRen v d)) v.2 (rowOf v) v.2 (hisI w) (hisF w) (hisI sl) (hisF sl) ik tx rd) hD (List.Perm.of_eq (List.append_nil _).symm) hS hA
    refine va_calli (va_runV (As := [.int (pBro (v.1 (4 + d) 6) 8)]) (rest := []) ⟨hx, hb, hml, hown, hts⟩ (k_X6_done l D ct _ a (nI t) (rowOf (pRen v d)) v.2 v w k hk (hisI sl) (hisF sl) ik tx rd (pBro (v.1 (4 + d) 6) 8)) (cwV 1 hts gX6_replace_X6_done rfl rfl rfl (by decide +kernel) ⟨Nat.le_of_ble_eq_true rfl, Nat.le_of_ble_eq_true rfl⟩) ⟨muP.blind, va_recv hK hP (ci := 6) (q0 := 0) rfl rfl, muP.at hP hD hK hN⟩ rfl rfl hl.1 rfl (lv_room (Nat.le_of_ble_eq_true rfl)) dX6_replace_27 ⟨Nat.le_of_ble_eq_true rfl, Nat.le_of_ble_eq_true rfl⟩) hS (fun q _ h => hFc_27 q h) hFc_27 (fun r_27 uu tt H1 locs ht hvm h_27 hB hz1 hk1 hS => ?_)
    obtain ⟨hP, hD⟩ := muE.join (ws' := mG ct a (nI (kPush k)) (nI t) (rowOf (pRen v d)) v.2 (rowOf v) v.2 (hisI (hPush w k v)) (hisF (hPush w k v)) (hisI sl) (hisF sl) ik tx rd) hP hD (List.Perm.of_eq (List.append_nil _).symm) (List.Perm.of_eq (List.append_nil _).symm) hk1 hFc_27 ht hB
    generalize H1 = H at hP hS ⊢
    obtain rfl : r_27 = pBro (v.1 (4 + d) 6) 8 := h_27
    have hP9 : va_P D vwCl (mS ct a (pRen v d) v (hPush w k v) sl (kPush k) t ik tx rd) H := hP
    have hD9 : va_D A (mS ct a (pRen v d) v (hPush w k v) sl (kPush k) t ik tx rd) := mG_dn hD
    subst hAe
    exact W.iret (v := (pBro (v.1 (4 + d) 6) 8)) hx hb hr (fun tt ht hW => ⟨⟨(pBro (v.1 (4 + d) 6) 8), (), rfl, rfl, muE.of (ct := ct) hP9 hD9 ht⟩, hS.F ht⟩) hS.2.2 dX6_replace_30
  · exact absurd (if_pos hvd) c_5

set_option maxHeartbeats 4000000 in
set_option maxRecDepth 100000 in
theorem k_X6_setWidth_e1 (l : Launch) (D : va_G) (ct : Nat → ClassId) (a : Nat → Nat) (v u : SV) (w sl : Nat → SV) (k t : Nat) (hk : k ≤ 5) (ik tx rd : Nat → Int32) (x : Int32) (y1 : Int32) (hnd : ¬ vD v x) : Met l yX6_setWidth wsX6_setWidth ({ frames := 3, cells := 0, slots := 0, locals := 65 }) (roP D ct (mG ct a (nI k) (nI t) (rowOf v) v.2 (rowOf u) u.2 (hisI w) (hisF w) (hisI sl) (hisF sl) ik tx rd) [.ref (a 0), .int x, .int y1]) (vp_Si (fun r => r = -1)) 0 0 noA := by
  refine Met.ofW (cc := cX6_setWidth) (maxL := 4) (ret := (some .int)) (by decide) rfl ?_
  intro p e s m args below meth c s₁ B hml hv
  obtain ⟨rfl, hP, hK, hN⟩ := hv
  have hx := B.exec
  have hb := B.bytes
  have hr := B.returns
  have hts := atoms_spec (ws := wsX6_setWidth) B.pre
  have hown : s.vm.findClass RX6 = some m.cls := findClass_of_methodNamed B.named
  have hlocks := B.notSynchronized
  have hl := lv_entry ([.ref (a 0), .int x, .int y1]) (n := 4) (Nat.le_of_ble_eq_true rfl)
  rw [lg_entry_eq]
  generalize (lg_sl ([.ref (a 0), .int x, .int y1]) ++ List.replicate (4 - (lg_sl ([.ref (a 0), .int x, .int y1])).length) Slot.unset).toArray = ls at hl ⊢
  have hl : lv_has ls 4 [(0, .ref (a 0)), (1, .int x), (2, .int y1)] := hl
  refine lv_aload_n hx hb dX6_setWidth_0 rfl (lv_at hl 0 rfl) ?_
  refine lv_iload_n hx hb dX6_setWidth_1 rfl (lv_at hl 1 rfl) ?_
  refine vp_callSi (va_runV (As := [.int x]) (rest := []) ⟨hx, hb, hml, hown, hts⟩ (k_X6_noDigit l D ct (a 0) (a 1) (mTl a (nI k) (nI t)) v x) (cwV 1 hts gX6_setWidth_X6_noDigit rfl rfl rfl (by decide +kernel) ⟨Nat.le_of_ble_eq_true rfl, Nat.le_of_ble_eq_true rfl⟩) ⟨roP.blind, va_recv hK (mG_R hP) (ci := 6) (q0 := 0) rfl rfl, roP.at (mG_R hP) hK hN⟩ rfl rfl hl.1 rfl (lv_room (Nat.le_of_ble_eq_true rfl)) dX6_setWidth_2 ⟨Nat.le_of_ble_eq_true rfl, Nat.le_of_ble_eq_true rfl⟩).run (fun r_2 h_2 => ?_)
  obtain rfl : r_2 = if vD v x then 0 else 1 := h_2
  refine lv_if_eq (tgt := 10) hx hb dX6_setWidth_5 (by decide) (fun c_5 => ?_) (fun c_5 => ?_)
  · exact absurd ((if_neg hnd).symm.trans c_5) (by decide)
  · refine lv_iconst (v := (-1)) hx hb dX6_setWidth_8 (by decide) ?_
    exact W.iret (v := (-1)) hx hb hr (fun tt ht hW => ⟨(-1), rfl, rfl, ht⟩) (fun q hq => absurd hq List.not_mem_nil) dX6_setWidth_9

set_option maxHeartbeats 4000000 in
set_option maxRecDepth 100000 in
theorem k_X6_setWidth_e2 (l : Launch) (D : va_G) (ct : Nat → ClassId) (a : Nat → Nat) (v u : SV) (w sl : Nat → SV) (k t : Nat) (hk : k ≤ 5) (ik tx rd : Nat → Int32) (ok : Inv v) (d : Nat) (hd : d < nOf v) (y : Int32) (hin : pIn y 4 40 = 0) : Met l yX6_setWidth wsX6_setWidth ({ frames := 3, cells := 0, slots := 0, locals := 65 }) (roP D ct (mG ct a (nI k) (nI t) (rowOf v) v.2 (rowOf u) u.2 (hisI w) (hisF w) (hisI sl) (hisF sl) ik tx rd) [.ref (a 0), .int (nI d), .int y]) (vp_Si (fun r => r = -2)) 0 0 noA := by
  refine Met.ofW (cc := cX6_setWidth) (maxL := 4) (ret := (some .int)) (by decide) rfl ?_
  intro p e s m args below meth c s₁ B hml hv
  obtain ⟨rfl, hP, hK, hN⟩ := hv
  have hx := B.exec
  have hb := B.bytes
  have hr := B.returns
  have hts := atoms_spec (ws := wsX6_setWidth) B.pre
  have hown : s.vm.findClass RX6 = some m.cls := findClass_of_methodNamed B.named
  have hlocks := B.notSynchronized
  have hl := lv_entry ([.ref (a 0), .int (nI d), .int y]) (n := 4) (Nat.le_of_ble_eq_true rfl)
  rw [lg_entry_eq]
  generalize (lg_sl ([.ref (a 0), .int (nI d), .int y]) ++ List.replicate (4 - (lg_sl ([.ref (a 0), .int (nI d), .int y])).length) Slot.unset).toArray = ls at hl ⊢
  have hl : lv_has ls 4 [(0, .ref (a 0)), (1, .int (nI d)), (2, .int y)] := hl
  have hd8 : d < 8 := Nat.lt_of_lt_of_le hd ok.n8
  have hvd := vD_of ok hd
  refine lv_aload_n hx hb dX6_setWidth_0 rfl (lv_at hl 0 rfl) ?_
  refine lv_iload_n hx hb dX6_setWidth_1 rfl (lv_at hl 1 rfl) ?_
  refine vp_callSi (va_runV (As := [.int (nI d)]) (rest := []) ⟨hx, hb, hml, hown, hts⟩ (k_X6_noDigit l D ct (a 0) (a 1) (mTl a (nI k) (nI t)) v (nI d)) (cwV 1 hts gX6_setWidth_X6_noDigit rfl rfl rfl (by decide +kernel) ⟨Nat.le_of_ble_eq_true rfl, Nat.le_of_ble_eq_true rfl⟩) ⟨roP.blind, va_recv hK (mG_R hP) (ci := 6) (q0 := 0) rfl rfl, roP.at (mG_R hP) hK hN⟩ rfl rfl hl.1 rfl (lv_room (Nat.le_of_ble_eq_true rfl)) dX6_setWidth_2 ⟨Nat.le_of_ble_eq_true rfl, Nat.le_of_ble_eq_true rfl⟩).run (fun r_2 h_2 => ?_)
  obtain rfl : r_2 = if vD v (nI d) then 0 else 1 := h_2
  refine lv_if_eq (tgt := 10) hx hb dX6_setWidth_5 (by decide) (fun c_5 => ?_) (fun c_5 => ?_)
  · refine lv_iload_n hx hb dX6_setWidth_10 rfl (lv_at hl 2 rfl) ?_
    refine lv_iconst (v := 4) hx hb dX6_setWidth_11 (by decide) ?_
    refine lv_bipush (v := 40) hx hb dX6_setWidth_12 (by decide) ?_
    refine vp_callSi (va_runS (As := [.int y, .int 4, .int 40]) (rest := []) ⟨hx, hb, hml, hown, hts⟩ (k_X6_in l D ct y 4 40) (va_cwS 3 hts gX6_setWidth_X6_in rfl rfl rfl (by decide +kernel) ⟨Nat.le_of_ble_eq_true rfl, Nat.le_of_ble_eq_true rfl⟩) ⟨roP.blind, roP.at pw_nil hK hN⟩ rfl rfl hl.1 rfl (lv_room (Nat.le_of_ble_eq_true rfl)) dX6_setWidth_14 ⟨Nat.le_of_ble_eq_true rfl, Nat.le_of_ble_eq_true rfl⟩).run (fun r_14 h_14 => ?_)
    obtain rfl : r_14 = pIn y 4 40 := h_14
    refine lv_if_ne (tgt := 23) hx hb dX6_setWidth_17 (by decide) (fun c_17 => ?_) (fun c_17 => ?_)
    · exact absurd hin c_17
    · refine lv_bipush (v := (-2)) hx hb dX6_setWidth_20 (by decide) ?_
      exact W.iret (v := (-2)) hx hb hr (fun tt ht hW => ⟨(-2), rfl, rfl, ht⟩) (fun q hq => absurd hq List.not_mem_nil) dX6_setWidth_22
  · exact absurd (if_pos hvd) c_5

set_option maxHeartbeats 4000000 in
set_option maxRecDepth 100000 in
theorem k_X6_setWidth_ok (l : Launch) (D : va_G) (ct : Nat → ClassId) (sz : Nat) (a : Nat → Nat) (v u : SV) (w sl : Nat → SV) (k t : Nat) (hk : k ≤ 5) (ik tx rd : Nat → Int32) (ok : Inv v) (d : Nat) (hd : d < nOf v) (y : Int32) (hin : ¬ pIn y 4 40 = 0) : Met l yX6_setWidth wsX6_setWidth ({ frames := 3, cells := 0, slots := 0, locals := 65 }) (muP D ct (mG ct a (nI k) (nI t) (rowOf v) v.2 (rowOf u) u.2 (hisI w) (hisF w) (hisI sl) (hisF sl) ik tx rd) sz [.ref (a 0), .int (nI d), .int y]) (muI D ct (mG ct a (nI k) (nI t) (rowOf v) v.2 (rowOf u) u.2 (hisI w) (hisF w) (hisI sl) (hisF sl) ik tx rd) (mS ct a (pSW v d y) v (hPush w k v) sl (kPush k) t ik tx rd) sz (fun r => r = pLen (pSW v d y))) 0 0 (va_A (mG ct a (nI k) (nI t) (rowOf v) v.2 (rowOf u) u.2 (hisI w) (hisF w) (hisI sl) (hisF sl) ik tx rd) sz) := by
  refine Met.ofW (cc := cX6_setWidth) (maxL := 4) (ret := (some .int)) (by decide) rfl ?_
  intro p e s m args below meth c s₁ B hml hv
  obtain ⟨rfl, hsz, hP, hK, hN, hD0⟩ := hv
  have hx := B.exec
  have hb := B.bytes
  have hr := B.returns
  have hts := atoms_spec (ws := wsX6_setWidth) B.pre
  have hown : s.vm.findClass RX6 = some m.cls := findClass_of_methodNamed B.named
  have hlocks := B.notSynchronized
  subst hsz
  have hD := hD0.self (sz := s.heap.size)
  generalize hAe : va_A (mG ct a (nI k) (nI t) (rowOf v) v.2 (rowOf u) u.2 (hisI w) (hisF w) (hisI sl) (hisF sl) ik tx rd) s.heap.size = A at hD
  have hA : ∀ q : Nat, s.heap.size ≤ q → A q := fun q h => by rw [← hAe]; exact Or.inr h
  have hS : va_S A s.heap s.heap [] := va_S.rf
  have hl := lv_entry ([.ref (a 0), .int (nI d), .int y]) (n := 4) (Nat.le_of_ble_eq_true rfl)
  rw [lg_entry_eq]
  generalize (lg_sl ([.ref (a 0), .int (nI d), .int y]) ++ List.replicate (4 - (lg_sl ([.ref (a 0), .int (nI d), .int y])).length) Slot.unset).toArray = ls at hl ⊢
  have hl : lv_has ls 4 [(0, .ref (a 0)), (1, .int (nI d)), (2, .int y)] := hl
  have hd8 : d < 8 := Nat.lt_of_lt_of_le hd ok.n8
  have hvd := vD_of ok hd
  refine lv_aload_n hx hb dX6_setWidth_0 rfl (lv_at hl 0 rfl) ?_
  refine lv_iload_n hx hb dX6_setWidth_1 rfl (lv_at hl 1 rfl) ?_
  refine vp_callSi (va_runV (As := [.int (nI d)]) (rest := []) ⟨hx, hb, hml, hown, hts⟩ (k_X6_noDigit l D ct (a 0) (a 1) (mTl a (nI k) (nI t)) v (nI d)) (cwV 1 hts gX6_setWidth_X6_noDigit rfl rfl rfl (by decide +kernel) ⟨Nat.le_of_ble_eq_true rfl, Nat.le_of_ble_eq_true rfl⟩) ⟨roP.blind, va_recv hK (mG_R hP) (ci := 6) (q0 := 0) rfl rfl, roP.at (mG_R hP) hK hN⟩ rfl rfl hl.1 rfl (lv_room (Nat.le_of_ble_eq_true rfl)) dX6_setWidth_2 ⟨Nat.le_of_ble_eq_true rfl, Nat.le_of_ble_eq_true rfl⟩).run (fun r_2 h_2 => ?_)
  obtain rfl : r_2 = if vD v (nI d) then 0 else 1 := h_2
  refine lv_if_eq (tgt := 10) hx hb dX6_setWidth_5 (by decide) (fun c_5 => ?_) (fun c_5 => ?_)
  · refine lv_iload_n hx hb dX6_setWidth_10 rfl (lv_at hl 2 rfl) ?_
    refine lv_iconst (v := 4) hx hb dX6_setWidth_11 (by decide) ?_
    refine lv_bipush (v := 40) hx hb dX6_setWidth_12 (by decide) ?_
    refine vp_callSi (va_runS (As := [.int y, .int 4, .int 40]) (rest := []) ⟨hx, hb, hml, hown, hts⟩ (k_X6_in l D ct y 4 40) (va_cwS 3 hts gX6_setWidth_X6_in rfl rfl rfl (by decide +kernel) ⟨Nat.le_of_ble_eq_true rfl, Nat.le_of_ble_eq_true rfl⟩) ⟨roP.blind, roP.at pw_nil hK hN⟩ rfl rfl hl.1 rfl (lv_room (Nat.le_of_ble_eq_true rfl)) dX6_setWidth_14 ⟨Nat.le_of_ble_eq_true rfl, Nat.le_of_ble_eq_true rfl⟩).run (fun r_14 h_14 => ?_)
    obtain rfl : r_14 = pIn y 4 40 := h_14
    refine lv_if_ne (tgt := 23) hx hb dX6_setWidth_17 (by decide) (fun c_17 => ?_) (fun c_17 => ?_)
    · refine lv_aload_n hx hb dX6_setWidth_23 rfl (lv_at hl 0 rfl) ?_
      have hFc_24 := w_free (wc := mG ct a (nI k) (nI t) (rowOf v) v.2 (rowOf u) u.2 (hisI w) (hisF w) (hisI sl) (hisF sl) ik tx rd) hD (List.Perm.of_eq (List.append_nil _).symm) hS hA
      refine va_callv (va_runV (As := []) (rest := []) ⟨hx, hb, hml, hown, hts⟩ (k_X6_begin l D ct _ a (nI k) (nI t) (rowOf v) v.2 (rowOf u) u.2 (hisI w) (hisF w) (hisI sl) (hisF sl) ik tx rd) (cwV 0 hts gX6_setWidth_X6_begin rfl rfl rfl (by decide +kernel) ⟨Nat.le_of_ble_eq_true rfl, Nat.le_of_ble_eq_true rfl⟩) ⟨muP.blind, va_recv hK hP (ci := 6) (q0 := 0) rfl rfl, muP.at hP hD hK hN⟩ rfl rfl hl.1 rfl (lv_room (Nat.le_of_ble_eq_true rfl)) dX6_setWidth_24 ⟨Nat.le_of_ble_eq_true rfl, Nat.le_of_ble_eq_true rfl⟩) hS (fun q _ h => hFc_24 q h) hFc_24 (fun uu tt H1 locs ht hvm hw hB hz1 hk1 hS => ?_)
      obtain ⟨hP, hD⟩ := muE.join (ws' := mG ct a (nI k) (nI t) (rowOf v) v.2 (rowOf v) v.2 (hisI w) (hisF w) (hisI sl) (hisF sl) ik tx rd) hP hD (List.Perm.of_eq (List.append_nil _).symm) (List.Perm.of_eq (List.append_nil _).symm) hk1 hFc_24 ht hB
      generalize H1 = H at hP hS ⊢
      refine lv_aload_n hx hb dX6_setWidth_27 rfl (lv_at hl 0 rfl) ?_
      refine lv_iload_n hx hb dX6_setWidth_28 rfl (lv_at hl 1 rfl) ?_
      refine lv_iconst (v := 1) hx hb dX6_setWidth_29 (by decide) ?_
      refine vp_callSi (va_runV (As := [.int (nI d), .int 1]) (rest := []) ⟨hx, hb, hml, hown, hts⟩ (k_X6_of l D ct (a 0) (a 1) (mTl a (nI k) (nI t)) v d 1 hd8 (by decide)) (cwV 2 hts gX6_setWidth_X6_of rfl rfl rfl (by decide +kernel) ⟨Nat.le_of_ble_eq_true rfl, Nat.le_of_ble_eq_true rfl⟩) ⟨roP.blind, va_recv hK (mG_R hP) (ci := 6) (q0 := 0) rfl rfl, roP.at (mG_R hP) hK hN⟩ rfl rfl hl.1 rfl (lv_room (Nat.le_of_ble_eq_true rfl)) dX6_setWidth_30 ⟨Nat.le_of_ble_eq_true rfl, Nat.le_of_ble_eq_true rfl⟩).run (fun r_30 h_30 => ?_)
      obtain rfl : r_30 = v.1 (4 + d) 1 := h_30
      refine lv_iload_n hx hb dX6_setWidth_33 rfl (lv_at hl 2 rfl) ?_
      have cut_58 : ∀ (H : Heap) (locs : List Loc), va_P D vwCl (mG ct a (nI k) (nI t) (rowOf (pSW v d y)) v.2 (rowOf v) v.2 (hisI w) (hisF w) (hisI sl) (hisF sl) ik tx rd) H → va_D A (mG ct a (nI k) (nI t) (rowOf (pSW v d y)) v.2 (rowOf v) v.2 (hisI w) (hisF w) (hisI sl) (hisF sl) ik tx rd) → va_S A s.heap H locs → ∀ (ls : Array Slot), lv_has ls 4 [(0, .ref (a 0))] → W p l e (headSpec wsX6_setWidth ({ frames := 3, cells := 0, slots := 0, locals := 65 })).room s m #[.ref (a 0), .int (nI d), .int y] below meth c H locs 0 0 (MQ below (muI D ct (mG ct a (nI k) (nI t) (rowOf v) v.2 (rowOf u) u.2 (hisI w) (hisF w) (hisI sl) (hisF sl) ik tx rd) (mS ct a (pSW v d y) v (hPush w k v) sl (kPush k) t ik tx rd) s.heap.size (fun r => r = pLen (pSW v d y))) #[.ref (a 0), .int (nI d), .int y] s 0 0 (A)) (F0 m 58 ls []) := by
        intro   H locs hP hD hS ls hl
        refine lv_aload_n hx hb dX6_setWidth_58 rfl (lv_at hl 0 rfl) ?_
        refine lv_aload_n hx hb dX6_setWidth_59 rfl (lv_at hl 0 rfl) ?_
        refine vp_callSi (va_runV (As := []) (rest := [.ref (a 0)]) ⟨hx, hb, hml, hown, hts⟩ (k_X6_frameLength l D ct (a 0) (a 1) (mTl a (nI k) (nI t)) (pSW v d y) (by rw [(pSW_n v d y).1]; exact ok.n8) (by rw [(pSW_n v d y).1, (pSW_n v d y).2]; exact ok.cnt)) (cwV 0 hts gX6_setWidth_X6_frameLength rfl rfl rfl (by decide +kernel) ⟨Nat.le_of_ble_eq_true rfl, Nat.le_of_ble_eq_true rfl⟩) ⟨roP.blind, va_recv hK (mG_R hP) (ci := 6) (q0 := 0) rfl rfl, roP.at (mG_R hP) hK hN⟩ rfl rfl hl.1 rfl (lv_room (Nat.le_of_ble_eq_true rfl)) dX6_setWidth_60 ⟨Nat.le_of_ble_eq_true rfl, Nat.le_of_ble_eq_true rfl⟩).run (fun r_60 h_60 => ?_)
        obtain rfl : r_60 = pLen (pSW v d y) := h_60
        have hFc_63 := w_free (wc := mG ct a (nI k) (nI t) (rowOf (pSW v d y)) v.2 (rowOf v) v.2 (hisI w) (hisF w) (hisI sl) (hisF sl) ik tx rd) hD (List.Perm.of_eq (List.append_nil _).symm) hS hA
        refine va_calli (va_runV (As := [.int (pLen (pSW v d y))]) (rest := []) ⟨hx, hb, hml, hown, hts⟩ (k_X6_done l D ct _ a (nI t) (rowOf (pSW v d y)) v.2 v w k hk (hisI sl) (hisF sl) ik tx rd (pLen (pSW v d y))) (cwV 1 hts gX6_setWidth_X6_done rfl rfl rfl (by decide +kernel) ⟨Nat.le_of_ble_eq_true rfl, Nat.le_of_ble_eq_true rfl⟩) ⟨muP.blind, va_recv hK hP (ci := 6) (q0 := 0) rfl rfl, muP.at hP hD hK hN⟩ rfl rfl hl.1 rfl (lv_room (Nat.le_of_ble_eq_true rfl)) dX6_setWidth_63 ⟨Nat.le_of_ble_eq_true rfl, Nat.le_of_ble_eq_true rfl⟩) hS (fun q _ h => hFc_63 q h) hFc_63 (fun r_63 uu tt H1 locs ht hvm h_63 hB hz1 hk1 hS => ?_)
        obtain ⟨hP, hD⟩ := muE.join (ws' := mG ct a (nI (kPush k)) (nI t) (rowOf (pSW v d y)) v.2 (rowOf v) v.2 (hisI (hPush w k v)) (hisF (hPush w k v)) (hisI sl) (hisF sl) ik tx rd) hP hD (List.Perm.of_eq (List.append_nil _).symm) (List.Perm.of_eq (List.append_nil _).symm) hk1 hFc_63 ht hB
        generalize H1 = H at hP hS ⊢
        obtain rfl : r_63 = pLen (pSW v d y) := h_63
        have hP9 : va_P D vwCl (mS ct a (pSW v d y) v (hPush w k v) sl (kPush k) t ik tx rd) H := mG_c2 (pSW_f v d y) hP
        have hD9 : va_D A (mS ct a (pSW v d y) v (hPush w k v) sl (kPush k) t ik tx rd) := mG_dn hD
        subst hAe
        exact W.iret (v := (pLen (pSW v d y))) hx hb hr (fun tt ht hW => ⟨⟨(pLen (pSW v d y)), (), rfl, rfl, muE.of (ct := ct) hP9 hD9 ht⟩, hS.F ht⟩) hS.2.2 dX6_setWidth_66
      refine lv_icmp_eq (tgt := 41) hx hb dX6_setWidth_34 (by decide) (fun c_34 => ?_) (fun c_34 => ?_)
      · refine lv_iconst (v := 0) hx hb dX6_setWidth_41 (by decide) ?_
        refine lv_istore_n (lv' := [(3, .int 0), (0, .ref (a 0)), (1, .int (nI d)), (2, .int y)]) hx hb dX6_setWidth_42 rfl hl (by decide) rfl (fun ls hl => ?_)
        refine lv_aload_n hx hb dX6_setWidth_43 rfl (lv_at hl 1 rfl) ?_
        refine lv_iload_n hx hb dX6_setWidth_44 rfl (lv_at hl 2 rfl) ?_
        refine lv_iconst (v := 1) hx hb dX6_setWidth_45 (by decide) ?_
        refine lv_iload_n hx hb dX6_setWidth_46 rfl (lv_at hl 3 rfl) ?_
        have hFc_47 := w_free (wc := mR ct (a 0) (a 1) (mTl a (nI k) (nI t)) v) hD (mG_pR) hS hA
        refine va_callv (va_runV (As := [.int (nI d), .int 1, .int y]) (rest := []) ⟨hx, hb, hml, hown, hts⟩ (k_X6_put l D ct _ (a 0) (a 1) (mTl a (nI k) (nI t)) v d 1 y hd8 (by decide)) (cwV 3 hts gX6_setWidth_X6_put rfl rfl rfl (by decide +kernel) ⟨Nat.le_of_ble_eq_true rfl, Nat.le_of_ble_eq_true rfl⟩) ⟨muP.blind, va_recv hK (mG_R hP) (ci := 6) (q0 := 0) rfl rfl, muP.at (mG_R hP) (mG_RD hD) hK hN⟩ rfl rfl hl.1 rfl (lv_room (Nat.le_of_ble_eq_true rfl)) dX6_setWidth_47 ⟨Nat.le_of_ble_eq_true rfl, Nat.le_of_ble_eq_true rfl⟩) hS (fun q _ h => hFc_47 q h) hFc_47 (fun uu tt H1 locs ht hvm hw hB hz1 hk1 hS => ?_)
        obtain ⟨hP, hD⟩ := muE.join (ws' := mG ct a (nI k) (nI t) (rowOf (s2 v (4 + d) 1 y)) v.2 (rowOf v) v.2 (hisI w) (hisF w) (hisI sl) (hisF sl) ik tx rd) hP hD (mG_pR) (mG_pR) hk1 hFc_47 ht hB
        generalize H1 = H at hP hS ⊢
        refine lv_iload_n hx hb dX6_setWidth_50 rfl (lv_at hl 0 rfl) ?_
        refine lv_if_eq (tgt := 58) hx hb dX6_setWidth_51 (by decide) (fun c_51 => ?_) (fun c_51 => ?_)
        · exact cut_58  _ _ (by unfold pSW; rw [if_pos c_34]; exact hP) (mG_dn hD) hS ls (lv_sub hl [1] rfl)
        · exact absurd rfl c_51
      · refine lv_iconst (v := 1) hx hb dX6_setWidth_37 (by decide) ?_
        refine lv_goto (tgt := 42) hx hb dX6_setWidth_38 (by decide) ?_
        refine lv_istore_n (lv' := [(3, .int 1), (0, .ref (a 0)), (1, .int (nI d)), (2, .int y)]) hx hb dX6_setWidth_42 rfl hl (by decide) rfl (fun ls hl => ?_)
        refine lv_aload_n hx hb dX6_setWidth_43 rfl (lv_at hl 1 rfl) ?_
        refine lv_iload_n hx hb dX6_setWidth_44 rfl (lv_at hl 2 rfl) ?_
        refine lv_iconst (v := 1) hx hb dX6_setWidth_45 (by decide) ?_
        refine lv_iload_n hx hb dX6_setWidth_46 rfl (lv_at hl 3 rfl) ?_
        have hFc_47 := w_free (wc := mR ct (a 0) (a 1) (mTl a (nI k) (nI t)) v) hD (mG_pR) hS hA
        refine va_callv (va_runV (As := [.int (nI d), .int 1, .int y]) (rest := []) ⟨hx, hb, hml, hown, hts⟩ (k_X6_put l D ct _ (a 0) (a 1) (mTl a (nI k) (nI t)) v d 1 y hd8 (by decide)) (cwV 3 hts gX6_setWidth_X6_put rfl rfl rfl (by decide +kernel) ⟨Nat.le_of_ble_eq_true rfl, Nat.le_of_ble_eq_true rfl⟩) ⟨muP.blind, va_recv hK (mG_R hP) (ci := 6) (q0 := 0) rfl rfl, muP.at (mG_R hP) (mG_RD hD) hK hN⟩ rfl rfl hl.1 rfl (lv_room (Nat.le_of_ble_eq_true rfl)) dX6_setWidth_47 ⟨Nat.le_of_ble_eq_true rfl, Nat.le_of_ble_eq_true rfl⟩) hS (fun q _ h => hFc_47 q h) hFc_47 (fun uu tt H1 locs ht hvm hw hB hz1 hk1 hS => ?_)
        obtain ⟨hP, hD⟩ := muE.join (ws' := mG ct a (nI k) (nI t) (rowOf (s2 v (4 + d) 1 y)) v.2 (rowOf v) v.2 (hisI w) (hisF w) (hisI sl) (hisF sl) ik tx rd) hP hD (mG_pR) (mG_pR) hk1 hFc_47 ht hB
        generalize H1 = H at hP hS ⊢
        refine lv_iload_n hx hb dX6_setWidth_50 rfl (lv_at hl 0 rfl) ?_
        refine lv_if_eq (tgt := 58) hx hb dX6_setWidth_51 (by decide) (fun c_51 => ?_) (fun c_51 => ?_)
        · exact absurd c_51 (by decide)
        · refine lv_aload_n hx hb dX6_setWidth_54 rfl (lv_at hl 1 rfl) ?_
          have hFc_55 := w_free (wc := mR ct (a 0) (a 1) (mTl a (nI k) (nI t)) (s2 v (4 + d) 1 y)) hD (mG_pR) hS hA
          refine va_callv (va_runV (As := []) (rest := []) ⟨hx, hb, hml, hown, hts⟩ (k_X6_endFrame l D ct _ (a 0) (a 1) (mTl a (nI k) (nI t)) (s2 v (4 + d) 1 y) ) (cwV 0 hts gX6_setWidth_X6_endFrame rfl rfl rfl (by decide +kernel) ⟨Nat.le_of_ble_eq_true rfl, Nat.le_of_ble_eq_true rfl⟩) ⟨muP.blind, va_recv hK (mG_R hP) (ci := 6) (q0 := 0) rfl rfl, muP.at (mG_R hP) (mG_RD hD) hK hN⟩ rfl rfl hl.1 rfl (lv_room (Nat.le_of_ble_eq_true rfl)) dX6_setWidth_55 ⟨Nat.le_of_ble_eq_true rfl, Nat.le_of_ble_eq_true rfl⟩) hS (fun q _ h => hFc_55 q h) hFc_55 (fun uu tt H1 locs ht hvm hw hB hz1 hk1 hS => ?_)
          obtain ⟨hP, hD⟩ := muE.join (ws' := mG ct a (nI k) (nI t) (rowOf (pEnd (s2 v (4 + d) 1 y))) v.2 (rowOf v) v.2 (hisI w) (hisF w) (hisI sl) (hisF sl) ik tx rd) hP hD (mG_pR) (mG_pR) hk1 hFc_55 ht hB
          generalize H1 = H at hP hS ⊢
          exact cut_58  _ _ (by unfold pSW; rw [if_neg c_34]; exact hP) (mG_dn hD) hS ls (lv_sub hl [1] rfl)
    · exact absurd c_17 hin
  · exact absurd (if_pos hvd) c_5

set_option maxHeartbeats 4000000 in
set_option maxRecDepth 100000 in
theorem k_X6_setDigits_e2 (l : Launch) (D : va_G) (ct : Nat → ClassId) (a : Nat → Nat) (v u : SV) (w sl : Nat → SV) (k t : Nat) (hk : k ≤ 5) (ik tx rd : Nat → Int32) (y : Int32) (hin : pIn y 1 8 = 0) : Met l yX6_setDigits wsX6_setDigits ({ frames := 2, cells := 0, slots := 0, locals := 44 }) (roP D ct (mG ct a (nI k) (nI t) (rowOf v) v.2 (rowOf u) u.2 (hisI w) (hisF w) (hisI sl) (hisF sl) ik tx rd) [.ref (a 0), .int y]) (vp_Si (fun r => r = -2)) 0 0 noA := by
  refine Met.ofW (cc := cX6_setDigits) (maxL := 4) (ret := (some .int)) (by decide) rfl ?_
  intro p e s m args below meth c s₁ B hml hv
  obtain ⟨rfl, hP, hK, hN⟩ := hv
  have hx := B.exec
  have hb := B.bytes
  have hr := B.returns
  have hts := atoms_spec (ws := wsX6_setDigits) B.pre
  have hown : s.vm.findClass RX6 = some m.cls := findClass_of_methodNamed B.named
  have hlocks := B.notSynchronized
  have hl := lv_entry ([.ref (a 0), .int y]) (n := 4) (Nat.le_of_ble_eq_true rfl)
  rw [lg_entry_eq]
  generalize (lg_sl ([.ref (a 0), .int y]) ++ List.replicate (4 - (lg_sl ([.ref (a 0), .int y])).length) Slot.unset).toArray = ls at hl ⊢
  have hl : lv_has ls 4 [(0, .ref (a 0)), (1, .int y)] := hl
  refine lv_iload_n hx hb dX6_setDigits_0 rfl (lv_at hl 1 rfl) ?_
  refine lv_iconst (v := 1) hx hb dX6_setDigits_1 (by decide) ?_
  refine lv_bipush (v := 8) hx hb dX6_setDigits_2 (by decide) ?_
  refine vp_callSi (va_runS (As := [.int y, .int 1, .int 8]) (rest := []) ⟨hx, hb, hml, hown, hts⟩ (k_X6_in l D ct y 1 8) (va_cwS 3 hts gX6_setDigits_X6_in rfl rfl rfl (by decide +kernel) ⟨Nat.le_of_ble_eq_true rfl, Nat.le_of_ble_eq_true rfl⟩) ⟨roP.blind, roP.at pw_nil hK hN⟩ rfl rfl hl.1 rfl (lv_room (Nat.le_of_ble_eq_true rfl)) dX6_setDigits_4 ⟨Nat.le_of_ble_eq_true rfl, Nat.le_of_ble_eq_true rfl⟩).run (fun r_4 h_4 => ?_)
  obtain rfl : r_4 = pIn y 1 8 := h_4
  refine lv_if_ne (tgt := 13) hx hb dX6_setDigits_7 (by decide) (fun c_7 => ?_) (fun c_7 => ?_)
  · exact absurd hin c_7
  · refine lv_bipush (v := (-2)) hx hb dX6_setDigits_10 (by decide) ?_
    exact W.iret (v := (-2)) hx hb hr (fun tt ht hW => ⟨(-2), rfl, rfl, ht⟩) (fun q hq => absurd hq List.not_mem_nil) dX6_setDigits_12

set_option maxHeartbeats 4000000 in
set_option maxRecDepth 100000 in
theorem k_X6_setDigits_ok (l : Launch) (D : va_G) (ct : Nat → ClassId) (sz : Nat) (a : Nat → Nat) (v u : SV) (w sl : Nat → SV) (k t : Nat) (hk : k ≤ 5) (ik tx rd : Nat → Int32) (ok : Inv v) (n : Nat) (h1 : 1 ≤ n) (h8 : n ≤ 8) : Met l yX6_setDigits wsX6_setDigits ({ frames := 2, cells := 0, slots := 0, locals := 44 }) (muP D ct (mG ct a (nI k) (nI t) (rowOf v) v.2 (rowOf u) u.2 (hisI w) (hisF w) (hisI sl) (hisF sl) ik tx rd) sz [.ref (a 0), .int (nI n)]) (muI D ct (mG ct a (nI k) (nI t) (rowOf v) v.2 (rowOf u) u.2 (hisI w) (hisF w) (hisI sl) (hisF sl) ik tx rd) (mS ct a (pSD v n) v (hPush w k v) sl (kPush k) t ik tx rd) sz (fun r => r = nI (nOf v))) 0 0 (va_A (mG ct a (nI k) (nI t) (rowOf v) v.2 (rowOf u) u.2 (hisI w) (hisF w) (hisI sl) (hisF sl) ik tx rd) sz) := by
  refine Met.ofW (cc := cX6_setDigits) (maxL := 4) (ret := (some .int)) (by decide) rfl ?_
  intro p e s m args below meth c s₁ B hml hv
  obtain ⟨rfl, hsz, hP, hK, hN, hD0⟩ := hv
  have hx := B.exec
  have hb := B.bytes
  have hr := B.returns
  have hts := atoms_spec (ws := wsX6_setDigits) B.pre
  have hown : s.vm.findClass RX6 = some m.cls := findClass_of_methodNamed B.named
  have hlocks := B.notSynchronized
  subst hsz
  have hD := hD0.self (sz := s.heap.size)
  generalize hAe : va_A (mG ct a (nI k) (nI t) (rowOf v) v.2 (rowOf u) u.2 (hisI w) (hisF w) (hisI sl) (hisF sl) ik tx rd) s.heap.size = A at hD
  have hA : ∀ q : Nat, s.heap.size ≤ q → A q := fun q h => by rw [← hAe]; exact Or.inr h
  have hS : va_S A s.heap s.heap [] := va_S.rf
  have w_1 := hts (.fieldLink RX6 7 "ScannedDigitsModel" "row" "[I") (List.mem_of_getElem? (i := 1) rfl)
  have hiX6 : ∀ w ∈ wsX60, w ∈ wsX6_setDigits := fun w h => (goodIn_r wsX60 [36, 37, 38, 39, 40, 41, 42, 43, 44, 45, 46, 47, 48] (by decide +kernel) (by decide +kernel) w h).1
  have hl := lv_entry ([.ref (a 0), .int (nI n)]) (n := 4) (Nat.le_of_ble_eq_true rfl)
  rw [lg_entry_eq]
  generalize (lg_sl ([.ref (a 0), .int (nI n)]) ++ List.replicate (4 - (lg_sl ([.ref (a 0), .int (nI n)])).length) Slot.unset).toArray = ls at hl ⊢
  have hl : lv_has ls 4 [(0, .ref (a 0)), (1, .int (nI n))] := hl
  have hin : ¬ pIn (nI n) 1 8 = 0 := pIn_ok (a := 1) (b := 8) rfl rfl h1 h8 (by decide)
  have n8 := ok.n8
  refine lv_iload_n hx hb dX6_setDigits_0 rfl (lv_at hl 1 rfl) ?_
  refine lv_iconst (v := 1) hx hb dX6_setDigits_1 (by decide) ?_
  refine lv_bipush (v := 8) hx hb dX6_setDigits_2 (by decide) ?_
  refine vp_callSi (va_runS (As := [.int (nI n), .int 1, .int 8]) (rest := []) ⟨hx, hb, hml, hown, hts⟩ (k_X6_in l D ct (nI n) 1 8) (va_cwS 3 hts gX6_setDigits_X6_in rfl rfl rfl (by decide +kernel) ⟨Nat.le_of_ble_eq_true rfl, Nat.le_of_ble_eq_true rfl⟩) ⟨roP.blind, roP.at pw_nil hK hN⟩ rfl rfl hl.1 rfl (lv_room (Nat.le_of_ble_eq_true rfl)) dX6_setDigits_4 ⟨Nat.le_of_ble_eq_true rfl, Nat.le_of_ble_eq_true rfl⟩).run (fun r_4 h_4 => ?_)
  obtain rfl : r_4 = pIn (nI n) 1 8 := h_4
  refine lv_if_ne (tgt := 13) hx hb dX6_setDigits_7 (by decide) (fun c_7 => ?_) (fun c_7 => ?_)
  · refine lv_aload_n hx hb dX6_setDigits_13 rfl (lv_at hl 0 rfl) ?_
    have hFc_14 := w_free (wc := mG ct a (nI k) (nI t) (rowOf v) v.2 (rowOf u) u.2 (hisI w) (hisF w) (hisI sl) (hisF sl) ik tx rd) hD (List.Perm.of_eq (List.append_nil _).symm) hS hA
    refine va_callv (va_runV (As := []) (rest := []) ⟨hx, hb, hml, hown, hts⟩ (k_X6_begin l D ct _ a (nI k) (nI t) (rowOf v) v.2 (rowOf u) u.2 (hisI w) (hisF w) (hisI sl) (hisF sl) ik tx rd) (cwV 0 hts gX6_setDigits_X6_begin rfl rfl rfl (by decide +kernel) ⟨Nat.le_of_ble_eq_true rfl, Nat.le_of_ble_eq_true rfl⟩) ⟨muP.blind, va_recv hK hP (ci := 6) (q0 := 0) rfl rfl, muP.at hP hD hK hN⟩ rfl rfl hl.1 rfl (lv_room (Nat.le_of_ble_eq_true rfl)) dX6_setDigits_14 ⟨Nat.le_of_ble_eq_true rfl, Nat.le_of_ble_eq_true rfl⟩) hS (fun q _ h => hFc_14 q h) hFc_14 (fun uu tt H1 locs ht hvm hw hB hz1 hk1 hS => ?_)
    obtain ⟨hP, hD⟩ := muE.join (ws' := mG ct a (nI k) (nI t) (rowOf v) v.2 (rowOf v) v.2 (hisI w) (hisF w) (hisI sl) (hisF sl) ik tx rd) hP hD (List.Perm.of_eq (List.append_nil _).symm) (List.Perm.of_eq (List.append_nil _).symm) hk1 hFc_14 ht hB
    generalize H1 = H at hP hS ⊢
    refine lv_aload_n hx hb dX6_setDigits_17 rfl (lv_at hl 0 rfl) ?_
    refine va_get (D := D) (ci := 6) (v := .ref (a 1)) (C := RX6) (T := TX6) (N := 13) hx hb hts hiX6 hown hK hP 0 rfl rfl 0 (by decide) w_1 (fun _ h9 => h9) rfl dX6_setDigits_18 ?_
    refine lv_iconst (v := 0) hx hb dX6_setDigits_21 (by decide) ?_
    refine r_iald hx hb hK hP 1 0 rfl rfl (k := 0) (rfl) (by decide) (by decide) dX6_setDigits_22 ?_
    refine lv_as (y := nI (nOf v)) ((row_0 v (by decide)).trans ok.cnt) ?_
    refine lv_istore_n (lv' := [(2, .int (nI (nOf v))), (0, .ref (a 0)), (1, .int (nI n))]) hx hb dX6_setDigits_23 rfl hl (by decide) rfl (fun ls hl => ?_)
    refine lv_iload_n hx hb dX6_setDigits_24 rfl (lv_at hl 0 rfl) ?_
    refine lv_istore_n (lv' := [(3, .int (nI (nOf v))), (2, .int (nI (nOf v))), (0, .ref (a 0)), (1, .int (nI n))]) hx hb dX6_setDigits_25 rfl hl (by decide) rfl (fun ls hl => ?_)
    have loop_26 : ∀ (n_26 : Nat) (i : Nat), (i ≤ n - nOf v) → (n - nOf v + 1 ≤ i + n_26) → ∀ (H : Heap) (locs : List Loc), va_P D vwCl (mG ct a (nI k) (nI t) (rowOf (pNews v (nOf v) i)) v.2 (rowOf v) v.2 (hisI w) (hisF w) (hisI sl) (hisF sl) ik tx rd) H → va_D A (mG ct a (nI k) (nI t) (rowOf (pNews v (nOf v) i)) v.2 (rowOf v) v.2 (hisI w) (hisF w) (hisI sl) (hisF sl) ik tx rd) → va_S A s.heap H locs → ∀ (ls : Array Slot), lv_has ls 4 [(0, .ref (a 0)), (1, .int (nI n)), (2, .int (nI (nOf v))), (3, .int (nI (nOf v + i)))] → W p l e (headSpec wsX6_setDigits ({ frames := 2, cells := 0, slots := 0, locals := 44 })).room s m #[.ref (a 0), .int (nI n)] below meth c H locs 0 0 (MQ below (muI D ct (mG ct a (nI k) (nI t) (rowOf v) v.2 (rowOf u) u.2 (hisI w) (hisF w) (hisI sl) (hisF sl) ik tx rd) (mS ct a (pSD v n) v (hPush w k v) sl (kPush k) t ik tx rd) s.heap.size (fun r => r = nI (nOf v))) #[.ref (a 0), .int (nI n)] s 0 0 (A)) (F0 m 26 ls []) := by
      intro n_26
      induction n_26 with
      | zero =>
        intro i hi hn
        exact absurd hn (by omega)
      | succ n_26 ih_26 =>
        intro i hi hn H locs hP hD hS ls hl
        refine lv_iload_n hx hb dX6_setDigits_26 rfl (lv_at hl 3 rfl) ?_
        refine lv_iload_n hx hb dX6_setDigits_27 rfl (lv_at hl 1 rfl) ?_
        refine lv_icmp_ge (tgt := 42) hx hb dX6_setDigits_28 (by decide) (fun c_28 => ?_) (fun c_28 => ?_)
        · have hge : n ≤ nOf v + i := nI_le' (by omega) (by omega) c_28
          refine lv_aload_n hx hb dX6_setDigits_42 rfl (lv_at hl 0 rfl) ?_
          refine va_get (D := D) (ci := 6) (v := .ref (a 1)) (C := RX6) (T := TX6) (N := 13) hx hb hts hiX6 hown hK hP 0 rfl rfl 0 (by decide) w_1 (fun _ h9 => h9) rfl dX6_setDigits_43 ?_
          refine lv_iconst (v := 0) hx hb dX6_setDigits_46 (by decide) ?_
          refine lv_iload_n hx hb dX6_setDigits_47 rfl (lv_at hl 1 rfl) ?_
          refine r_iast hx hb hK hP hD hS 1 0 rfl rfl (k := 0) (rfl) (by decide) (by decide) dX6_setDigits_48 (fun H locs hP hD hS => ?_)
          have hP : va_P D vwCl (mG ct a (nI k) (nI t) (rowOf (pCnt v n)) v.2 (rowOf v) v.2 (hisI w) (hisF w) (hisI sl) (hisF sl) ik tx rd) H := by rw [← pCnt_row v n i (by omega)]; exact hP
          have hD : va_D A (mG ct a (nI k) (nI t) (rowOf (pCnt v n)) v.2 (rowOf v) v.2 (hisI w) (hisF w) (hisI sl) (hisF sl) ik tx rd) := mG_dn hD
          have cut_58 : ∀ (H : Heap) (locs : List Loc), va_P D vwCl (mG ct a (nI k) (nI t) (rowOf (pSD v n)) v.2 (rowOf v) v.2 (hisI w) (hisF w) (hisI sl) (hisF sl) ik tx rd) H → va_D A (mG ct a (nI k) (nI t) (rowOf (pSD v n)) v.2 (rowOf v) v.2 (hisI w) (hisF w) (hisI sl) (hisF sl) ik tx rd) → va_S A s.heap H locs → ∀ (ls : Array Slot), lv_has ls 4 [(0, .ref (a 0)), (2, .int (nI (nOf v)))] → W p l e (headSpec wsX6_setDigits ({ frames := 2, cells := 0, slots := 0, locals := 44 })).room s m #[.ref (a 0), .int (nI n)] below meth c H locs 0 0 (MQ below (muI D ct (mG ct a (nI k) (nI t) (rowOf v) v.2 (rowOf u) u.2 (hisI w) (hisF w) (hisI sl) (hisF sl) ik tx rd) (mS ct a (pSD v n) v (hPush w k v) sl (kPush k) t ik tx rd) s.heap.size (fun r => r = nI (nOf v))) #[.ref (a 0), .int (nI n)] s 0 0 (A)) (F0 m 58 ls []) := by
            intro   H locs hP hD hS ls hl
            refine lv_aload_n hx hb dX6_setDigits_58 rfl (lv_at hl 0 rfl) ?_
            refine lv_iload_n hx hb dX6_setDigits_59 rfl (lv_at hl 1 rfl) ?_
            have hFc_60 := w_free (wc := mG ct a (nI k) (nI t) (rowOf (pSD v n)) v.2 (rowOf v) v.2 (hisI w) (hisF w) (hisI sl) (hisF sl) ik tx rd) hD (List.Perm.of_eq (List.append_nil _).symm) hS hA
            refine va_calli (va_runV (As := [.int (nI (nOf v))]) (rest := []) ⟨hx, hb, hml, hown, hts⟩ (k_X6_done l D ct _ a (nI t) (rowOf (pSD v n)) v.2 v w k hk (hisI sl) (hisF sl) ik tx rd (nI (nOf v))) (cwV 1 hts gX6_setDigits_X6_done rfl rfl rfl (by decide +kernel) ⟨Nat.le_of_ble_eq_true rfl, Nat.le_of_ble_eq_true rfl⟩) ⟨muP.blind, va_recv hK hP (ci := 6) (q0 := 0) rfl rfl, muP.at hP hD hK hN⟩ rfl rfl hl.1 rfl (lv_room (Nat.le_of_ble_eq_true rfl)) dX6_setDigits_60 ⟨Nat.le_of_ble_eq_true rfl, Nat.le_of_ble_eq_true rfl⟩) hS (fun q _ h => hFc_60 q h) hFc_60 (fun r_60 uu tt H1 locs ht hvm h_60 hB hz1 hk1 hS => ?_)
            obtain ⟨hP, hD⟩ := muE.join (ws' := mG ct a (nI (kPush k)) (nI t) (rowOf (pSD v n)) v.2 (rowOf v) v.2 (hisI (hPush w k v)) (hisF (hPush w k v)) (hisI sl) (hisF sl) ik tx rd) hP hD (List.Perm.of_eq (List.append_nil _).symm) (List.Perm.of_eq (List.append_nil _).symm) hk1 hFc_60 ht hB
            generalize H1 = H at hP hS ⊢
            obtain rfl : r_60 = nI (nOf v) := h_60
            have hP9 : va_P D vwCl (mS ct a (pSD v n) v (hPush w k v) sl (kPush k) t ik tx rd) H := mG_c2 (pSD_f v n) hP
            have hD9 : va_D A (mS ct a (pSD v n) v (hPush w k v) sl (kPush k) t ik tx rd) := mG_dn hD
            subst hAe
            exact W.iret (v := (nI (nOf v))) hx hb hr (fun tt ht hW => ⟨⟨(nI (nOf v)), (), rfl, rfl, muE.of (ct := ct) hP9 hD9 ht⟩, hS.F ht⟩) hS.2.2 dX6_setDigits_63
          refine lv_iload_n hx hb dX6_setDigits_49 rfl (lv_at hl 2 rfl) ?_
          refine lv_iload_n hx hb dX6_setDigits_50 rfl (lv_at hl 1 rfl) ?_
          refine lv_icmp_eq (tgt := 58) hx hb dX6_setDigits_51 (by decide) (fun c_51 => ?_) (fun c_51 => ?_)
          · have hnn : nOf v = n := (nI_eq (by omega) (by omega)).mp c_51
            exact cut_58  _ _ (by unfold pSD; rw [if_pos hnn]; exact hP) (mG_dn hD) hS ls (lv_sub hl [0, 2] rfl)
          · have hnn : ¬ nOf v = n := fun z => c_51 (congrArg nI z)
            refine lv_aload_n hx hb dX6_setDigits_54 rfl (lv_at hl 0 rfl) ?_
            have hFc_55 := w_free (wc := mR ct (a 0) (a 1) (mTl a (nI k) (nI t)) (pCnt v n)) hD (mG_pR) hS hA
            refine va_callv (va_runV (As := []) (rest := []) ⟨hx, hb, hml, hown, hts⟩ (k_X6_endFrame l D ct _ (a 0) (a 1) (mTl a (nI k) (nI t)) (pCnt v n) ) (cwV 0 hts gX6_setDigits_X6_endFrame rfl rfl rfl (by decide +kernel) ⟨Nat.le_of_ble_eq_true rfl, Nat.le_of_ble_eq_true rfl⟩) ⟨muP.blind, va_recv hK (mG_R hP) (ci := 6) (q0 := 0) rfl rfl, muP.at (mG_R hP) (mG_RD hD) hK hN⟩ rfl rfl hl.1 rfl (lv_room (Nat.le_of_ble_eq_true rfl)) dX6_setDigits_55 ⟨Nat.le_of_ble_eq_true rfl, Nat.le_of_ble_eq_true rfl⟩) hS (fun q _ h => hFc_55 q h) hFc_55 (fun uu tt H1 locs ht hvm hw hB hz1 hk1 hS => ?_)
            obtain ⟨hP, hD⟩ := muE.join (ws' := mG ct a (nI k) (nI t) (rowOf (pEnd (pCnt v n))) v.2 (rowOf v) v.2 (hisI w) (hisF w) (hisI sl) (hisF sl) ik tx rd) hP hD (mG_pR) (mG_pR) hk1 hFc_55 ht hB
            generalize H1 = H at hP hS ⊢
            exact cut_58  _ _ (by unfold pSD; rw [if_neg hnn]; exact hP) (mG_dn hD) hS ls (lv_sub hl [0, 2] rfl)
        · have hlt : nOf v + i < n := nI_nle' (by omega) (by omega) c_28
          refine lv_aload_n hx hb dX6_setDigits_31 rfl (lv_at hl 0 rfl) ?_
          refine lv_iload_n hx hb dX6_setDigits_32 rfl (lv_at hl 3 rfl) ?_
          have hFc_33 := w_free (wc := mR ct (a 0) (a 1) (mTl a (nI k) (nI t)) (pNews v (nOf v) i)) hD (mG_pR) hS hA
          refine va_callv (va_runV (As := [.int (nI (nOf v + i))]) (rest := []) ⟨hx, hb, hml, hown, hts⟩ (k_X6_begins l D ct _ (a 0) (a 1) (mTl a (nI k) (nI t)) (pNews v (nOf v) i) (nOf v + i) (by omega)) (cwV 1 hts gX6_setDigits_X6_begins rfl rfl rfl (by decide +kernel) ⟨Nat.le_of_ble_eq_true rfl, Nat.le_of_ble_eq_true rfl⟩) ⟨muP.blind, va_recv hK (mG_R hP) (ci := 6) (q0 := 0) rfl rfl, muP.at (mG_R hP) (mG_RD hD) hK hN⟩ rfl rfl hl.1 rfl (lv_room (Nat.le_of_ble_eq_true rfl)) dX6_setDigits_33 ⟨Nat.le_of_ble_eq_true rfl, Nat.le_of_ble_eq_true rfl⟩) hS (fun q _ h => hFc_33 q h) hFc_33 (fun uu tt H1 locs ht hvm hw hB hz1 hk1 hS => ?_)
          obtain ⟨hP, hD⟩ := muE.join (ws' := mG ct a (nI k) (nI t) (rowOf (pNew (pNews v (nOf v) i) (nOf v + i))) v.2 (rowOf v) v.2 (hisI w) (hisF w) (hisI sl) (hisF sl) ik tx rd) hP hD (mG_pR) (mG_pR) hk1 hFc_33 ht hB
          generalize H1 = H at hP hS ⊢
          refine lv_iinc (v := nI ((nOf v + i) + 1)) (lv' := [(3, .int (nI ((nOf v + i) + 1))), (0, .ref (a 0)), (1, .int (nI n)), (2, .int (nI (nOf v)))]) hx hb dX6_setDigits_36 hl (k := 3) rfl ((nI_succ (nOf v + i)).symm) (by decide) rfl (fun ls hl => ?_)
          refine lv_goto (tgt := 26) hx hb dX6_setDigits_39 (by decide) ?_
          exact ih_26 (i + 1) (by omega) (by omega) _ _ (by rw [← pNews_s]; exact hP) (mG_dn hD) hS ls (lv_sub hl [1, 2, 3, 0] rfl)
    exact loop_26 (n - nOf v + 1) 0 (Nat.zero_le _) (by omega) _ _ (by rw [pNews_z]; exact hP) (mG_dn hD) hS ls (lv_sub hl [2, 3, 1, 0] rfl)
  · exact absurd c_7 hin

set_option maxHeartbeats 4000000 in
set_option maxRecDepth 100000 in
theorem k_X6_test_e2 (l : Launch) (D : va_G) (ct : Nat → ClassId) (a : Nat → Nat) (v u : SV) (w sl : Nat → SV) (k t : Nat) (hk : k ≤ 5) (ik tx rd : Nat → Int32) (y : Int32) (hin : pIn y 0 50 = 0) : Met l yX6_test wsX6_test ({ frames := 1, cells := 0, slots := 0, locals := 22 }) (roP D ct (mG ct a (nI k) (nI t) (rowOf v) v.2 (rowOf u) u.2 (hisI w) (hisF w) (hisI sl) (hisF sl) ik tx rd) [.ref (a 0), .int y]) (vp_Si (fun r => r = -2)) 0 0 noA := by
  refine Met.ofW (cc := cX6_test) (maxL := 3) (ret := (some .int)) (by decide) rfl ?_
  intro p e s m args below meth c s₁ B hml hv
  obtain ⟨rfl, hP, hK, hN⟩ := hv
  have hx := B.exec
  have hb := B.bytes
  have hr := B.returns
  have hts := atoms_spec (ws := wsX6_test) B.pre
  have hown : s.vm.findClass RX6 = some m.cls := findClass_of_methodNamed B.named
  have hlocks := B.notSynchronized
  have hl := lv_entry ([.ref (a 0), .int y]) (n := 3) (Nat.le_of_ble_eq_true rfl)
  rw [lg_entry_eq]
  generalize (lg_sl ([.ref (a 0), .int y]) ++ List.replicate (3 - (lg_sl ([.ref (a 0), .int y])).length) Slot.unset).toArray = ls at hl ⊢
  have hl : lv_has ls 3 [(0, .ref (a 0)), (1, .int y)] := hl
  refine lv_iload_n hx hb dX6_test_0 rfl (lv_at hl 1 rfl) ?_
  refine lv_iconst (v := 0) hx hb dX6_test_1 (by decide) ?_
  refine lv_bipush (v := 50) hx hb dX6_test_2 (by decide) ?_
  refine vp_callSi (va_runS (As := [.int y, .int 0, .int 50]) (rest := []) ⟨hx, hb, hml, hown, hts⟩ (k_X6_in l D ct y 0 50) (va_cwS 3 hts gX6_test_X6_in rfl rfl rfl (by decide +kernel) ⟨Nat.le_of_ble_eq_true rfl, Nat.le_of_ble_eq_true rfl⟩) ⟨roP.blind, roP.at pw_nil hK hN⟩ rfl rfl hl.1 rfl (lv_room (Nat.le_of_ble_eq_true rfl)) dX6_test_4 ⟨Nat.le_of_ble_eq_true rfl, Nat.le_of_ble_eq_true rfl⟩).run (fun r_4 h_4 => ?_)
  obtain rfl : r_4 = pIn y 0 50 := h_4
  refine lv_if_ne (tgt := 13) hx hb dX6_test_7 (by decide) (fun c_7 => ?_) (fun c_7 => ?_)
  · exact absurd hin c_7
  · refine lv_bipush (v := (-2)) hx hb dX6_test_10 (by decide) ?_
    exact W.iret (v := (-2)) hx hb hr (fun tt ht hW => ⟨(-2), rfl, rfl, ht⟩) (fun q hq => absurd hq List.not_mem_nil) dX6_test_12

set_option maxHeartbeats 4000000 in
set_option maxRecDepth 100000 in
theorem k_X6_test_ok (l : Launch) (D : va_G) (ct : Nat → ClassId) (sz : Nat) (a : Nat → Nat) (v u : SV) (w sl : Nat → SV) (k t : Nat) (hk : k ≤ 5) (ik tx rd : Nat → Int32) (y : Int32) (hin : ¬ pIn y 0 50 = 0) : Met l yX6_test wsX6_test ({ frames := 1, cells := 0, slots := 0, locals := 22 }) (muP D ct (mG ct a (nI k) (nI t) (rowOf v) v.2 (rowOf u) u.2 (hisI w) (hisF w) (hisI sl) (hisF sl) ik tx rd) sz [.ref (a 0), .int y]) (muI D ct (mG ct a (nI k) (nI t) (rowOf v) v.2 (rowOf u) u.2 (hisI w) (hisF w) (hisI sl) (hisF sl) ik tx rd) (mS ct a (sC v 0 (upd (v.1 0) 4 y)) v (hPush w k v) sl (kPush k) t ik tx rd) sz (fun r => r = v.1 0 4)) 0 0 (va_A (mG ct a (nI k) (nI t) (rowOf v) v.2 (rowOf u) u.2 (hisI w) (hisF w) (hisI sl) (hisF sl) ik tx rd) sz) := by
  refine Met.ofW (cc := cX6_test) (maxL := 3) (ret := (some .int)) (by decide) rfl ?_
  intro p e s m args below meth c s₁ B hml hv
  obtain ⟨rfl, hsz, hP, hK, hN, hD0⟩ := hv
  have hx := B.exec
  have hb := B.bytes
  have hr := B.returns
  have hts := atoms_spec (ws := wsX6_test) B.pre
  have hown : s.vm.findClass RX6 = some m.cls := findClass_of_methodNamed B.named
  have hlocks := B.notSynchronized
  subst hsz
  have hD := hD0.self (sz := s.heap.size)
  generalize hAe : va_A (mG ct a (nI k) (nI t) (rowOf v) v.2 (rowOf u) u.2 (hisI w) (hisF w) (hisI sl) (hisF sl) ik tx rd) s.heap.size = A at hD
  have hA : ∀ q : Nat, s.heap.size ≤ q → A q := fun q h => by rw [← hAe]; exact Or.inr h
  have hS : va_S A s.heap s.heap [] := va_S.rf
  have w_1 := hts (.fieldLink RX6 7 "ScannedDigitsModel" "row" "[I") (List.mem_of_getElem? (i := 1) rfl)
  have hiX6 : ∀ w ∈ wsX60, w ∈ wsX6_test := fun w h => (goodIn_r wsX60 [20, 21, 22, 23, 24, 25, 26, 27, 28, 29, 30, 31, 32] (by decide +kernel) (by decide +kernel) w h).1
  have hl := lv_entry ([.ref (a 0), .int y]) (n := 3) (Nat.le_of_ble_eq_true rfl)
  rw [lg_entry_eq]
  generalize (lg_sl ([.ref (a 0), .int y]) ++ List.replicate (3 - (lg_sl ([.ref (a 0), .int y])).length) Slot.unset).toArray = ls at hl ⊢
  have hl : lv_has ls 3 [(0, .ref (a 0)), (1, .int y)] := hl
  refine lv_iload_n hx hb dX6_test_0 rfl (lv_at hl 1 rfl) ?_
  refine lv_iconst (v := 0) hx hb dX6_test_1 (by decide) ?_
  refine lv_bipush (v := 50) hx hb dX6_test_2 (by decide) ?_
  refine vp_callSi (va_runS (As := [.int y, .int 0, .int 50]) (rest := []) ⟨hx, hb, hml, hown, hts⟩ (k_X6_in l D ct y 0 50) (va_cwS 3 hts gX6_test_X6_in rfl rfl rfl (by decide +kernel) ⟨Nat.le_of_ble_eq_true rfl, Nat.le_of_ble_eq_true rfl⟩) ⟨roP.blind, roP.at pw_nil hK hN⟩ rfl rfl hl.1 rfl (lv_room (Nat.le_of_ble_eq_true rfl)) dX6_test_4 ⟨Nat.le_of_ble_eq_true rfl, Nat.le_of_ble_eq_true rfl⟩).run (fun r_4 h_4 => ?_)
  obtain rfl : r_4 = pIn y 0 50 := h_4
  refine lv_if_ne (tgt := 13) hx hb dX6_test_7 (by decide) (fun c_7 => ?_) (fun c_7 => ?_)
  · refine lv_aload_n hx hb dX6_test_13 rfl (lv_at hl 0 rfl) ?_
    have hFc_14 := w_free (wc := mG ct a (nI k) (nI t) (rowOf v) v.2 (rowOf u) u.2 (hisI w) (hisF w) (hisI sl) (hisF sl) ik tx rd) hD (List.Perm.of_eq (List.append_nil _).symm) hS hA
    refine va_callv (va_runV (As := []) (rest := []) ⟨hx, hb, hml, hown, hts⟩ (k_X6_begin l D ct _ a (nI k) (nI t) (rowOf v) v.2 (rowOf u) u.2 (hisI w) (hisF w) (hisI sl) (hisF sl) ik tx rd) (cwV 0 hts gX6_test_X6_begin rfl rfl rfl (by decide +kernel) ⟨Nat.le_of_ble_eq_true rfl, Nat.le_of_ble_eq_true rfl⟩) ⟨muP.blind, va_recv hK hP (ci := 6) (q0 := 0) rfl rfl, muP.at hP hD hK hN⟩ rfl rfl hl.1 rfl (lv_room (Nat.le_of_ble_eq_true rfl)) dX6_test_14 ⟨Nat.le_of_ble_eq_true rfl, Nat.le_of_ble_eq_true rfl⟩) hS (fun q _ h => hFc_14 q h) hFc_14 (fun uu tt H1 locs ht hvm hw hB hz1 hk1 hS => ?_)
    obtain ⟨hP, hD⟩ := muE.join (ws' := mG ct a (nI k) (nI t) (rowOf v) v.2 (rowOf v) v.2 (hisI w) (hisF w) (hisI sl) (hisF sl) ik tx rd) hP hD (List.Perm.of_eq (List.append_nil _).symm) (List.Perm.of_eq (List.append_nil _).symm) hk1 hFc_14 ht hB
    generalize H1 = H at hP hS ⊢
    refine lv_aload_n hx hb dX6_test_17 rfl (lv_at hl 0 rfl) ?_
    refine va_get (D := D) (ci := 6) (v := .ref (a 1)) (C := RX6) (T := TX6) (N := 13) hx hb hts hiX6 hown hK hP 0 rfl rfl 0 (by decide) w_1 (fun _ h9 => h9) rfl dX6_test_18 ?_
    refine lv_iconst (v := 4) hx hb dX6_test_21 (by decide) ?_
    refine r_iald hx hb hK hP 1 0 rfl rfl (k := 4) (rfl) (by decide) (by decide) dX6_test_22 ?_
    refine lv_as (y := v.1 0 4) (row_0 v (by decide)) ?_
    refine lv_istore_n (lv' := [(2, .int (v.1 0 4)), (0, .ref (a 0)), (1, .int y)]) hx hb dX6_test_23 rfl hl (by decide) rfl (fun ls hl => ?_)
    refine lv_aload_n hx hb dX6_test_24 rfl (lv_at hl 1 rfl) ?_
    refine va_get (D := D) (ci := 6) (v := .ref (a 1)) (C := RX6) (T := TX6) (N := 13) hx hb hts hiX6 hown hK hP 0 rfl rfl 0 (by decide) w_1 (fun _ h9 => h9) rfl dX6_test_25 ?_
    refine lv_iconst (v := 4) hx hb dX6_test_28 (by decide) ?_
    refine lv_iload_n hx hb dX6_test_29 rfl (lv_at hl 2 rfl) ?_
    refine r_iast hx hb hK hP hD hS 1 0 rfl rfl (k := 4) (rfl) (by decide) (by decide) dX6_test_30 (fun H locs hP hD hS => ?_)
    have hP : va_P D vwCl (mG ct a (nI k) (nI t) (rowOf (sC v 0 (upd (v.1 0) 4 y))) v.2 (rowOf v) v.2 (hisI w) (hisF w) (hisI sl) (hisF sl) ik tx rd) H := by rw [← row_up0 v (by decide)]; exact hP
    have hD : va_D A (mG ct a (nI k) (nI t) (rowOf (sC v 0 (upd (v.1 0) 4 y))) v.2 (rowOf v) v.2 (hisI w) (hisF w) (hisI sl) (hisF sl) ik tx rd) := mG_dn hD
    refine lv_aload_n hx hb dX6_test_31 rfl (lv_at hl 1 rfl) ?_
    refine lv_iload_n hx hb dX6_test_32 rfl (lv_at hl 0 rfl) ?_
    have hFc_33 := w_free (wc := mG ct a (nI k) (nI t) (rowOf (sC v 0 (upd (v.1 0) 4 y))) v.2 (rowOf v) v.2 (hisI w) (hisF w) (hisI sl) (hisF sl) ik tx rd) hD (List.Perm.of_eq (List.append_nil _).symm) hS hA
    refine va_calli (va_runV (As := [.int (v.1 0 4)]) (rest := []) ⟨hx, hb, hml, hown, hts⟩ (k_X6_done l D ct _ a (nI t) (rowOf (sC v 0 (upd (v.1 0) 4 y))) v.2 v w k hk (hisI sl) (hisF sl) ik tx rd (v.1 0 4)) (cwV 1 hts gX6_test_X6_done rfl rfl rfl (by decide +kernel) ⟨Nat.le_of_ble_eq_true rfl, Nat.le_of_ble_eq_true rfl⟩) ⟨muP.blind, va_recv hK hP (ci := 6) (q0 := 0) rfl rfl, muP.at hP hD hK hN⟩ rfl rfl hl.1 rfl (lv_room (Nat.le_of_ble_eq_true rfl)) dX6_test_33 ⟨Nat.le_of_ble_eq_true rfl, Nat.le_of_ble_eq_true rfl⟩) hS (fun q _ h => hFc_33 q h) hFc_33 (fun r_33 uu tt H1 locs ht hvm h_33 hB hz1 hk1 hS => ?_)
    obtain ⟨hP, hD⟩ := muE.join (ws' := mG ct a (nI (kPush k)) (nI t) (rowOf (sC v 0 (upd (v.1 0) 4 y))) v.2 (rowOf v) v.2 (hisI (hPush w k v)) (hisF (hPush w k v)) (hisI sl) (hisF sl) ik tx rd) hP hD (List.Perm.of_eq (List.append_nil _).symm) (List.Perm.of_eq (List.append_nil _).symm) hk1 hFc_33 ht hB
    generalize H1 = H at hP hS ⊢
    obtain rfl : r_33 = v.1 0 4 := h_33
    have hP9 : va_P D vwCl (mS ct a (sC v 0 (upd (v.1 0) 4 y)) v (hPush w k v) sl (kPush k) t ik tx rd) H := hP
    have hD9 : va_D A (mS ct a (sC v 0 (upd (v.1 0) 4 y)) v (hPush w k v) sl (kPush k) t ik tx rd) := mG_dn hD
    subst hAe
    exact W.iret (v := (v.1 0 4)) hx hb hr (fun tt ht hW => ⟨⟨(v.1 0 4), (), rfl, rfl, muE.of (ct := ct) hP9 hD9 ht⟩, hS.F ht⟩) hS.2.2 dX6_test_36
  · exact absurd c_7 hin

set_option maxHeartbeats 4000000 in
set_option maxRecDepth 100000 in
theorem k_X6_set_e1 (l : Launch) (D : va_G) (ct : Nat → ClassId) (a : Nat → Nat) (v u : SV) (w sl : Nat → SV) (k t : Nat) (hk : k ≤ 5) (ik tx rd : Nat → Int32) (x y : Int32) (hin : pIn x 0 2 = 0) : Met l yX6_set wsX6_set ({ frames := 1, cells := 0, slots := 0, locals := 22 }) (roP D ct (mG ct a (nI k) (nI t) (rowOf v) v.2 (rowOf u) u.2 (hisI w) (hisF w) (hisI sl) (hisF sl) ik tx rd) [.ref (a 0), .int x, .int y]) (vp_Si (fun r => r = -1)) 0 0 noA := by
  refine Met.ofW (cc := cX6_set) (maxL := 4) (ret := (some .int)) (by decide) rfl ?_
  intro p e s m args below meth c s₁ B hml hv
  obtain ⟨rfl, hP, hK, hN⟩ := hv
  have hx := B.exec
  have hb := B.bytes
  have hr := B.returns
  have hts := atoms_spec (ws := wsX6_set) B.pre
  have hown : s.vm.findClass RX6 = some m.cls := findClass_of_methodNamed B.named
  have hlocks := B.notSynchronized
  have hl := lv_entry ([.ref (a 0), .int x, .int y]) (n := 4) (Nat.le_of_ble_eq_true rfl)
  rw [lg_entry_eq]
  generalize (lg_sl ([.ref (a 0), .int x, .int y]) ++ List.replicate (4 - (lg_sl ([.ref (a 0), .int x, .int y])).length) Slot.unset).toArray = ls at hl ⊢
  have hl : lv_has ls 4 [(0, .ref (a 0)), (1, .int x), (2, .int y)] := hl
  refine lv_iload_n hx hb dX6_set_0 rfl (lv_at hl 1 rfl) ?_
  refine lv_iconst (v := 0) hx hb dX6_set_1 (by decide) ?_
  refine lv_iconst (v := 2) hx hb dX6_set_2 (by decide) ?_
  refine vp_callSi (va_runS (As := [.int x, .int 0, .int 2]) (rest := []) ⟨hx, hb, hml, hown, hts⟩ (k_X6_in l D ct x 0 2) (va_cwS 3 hts gX6_set_X6_in rfl rfl rfl (by decide +kernel) ⟨Nat.le_of_ble_eq_true rfl, Nat.le_of_ble_eq_true rfl⟩) ⟨roP.blind, roP.at pw_nil hK hN⟩ rfl rfl hl.1 rfl (lv_room (Nat.le_of_ble_eq_true rfl)) dX6_set_3 ⟨Nat.le_of_ble_eq_true rfl, Nat.le_of_ble_eq_true rfl⟩).run (fun r_3 h_3 => ?_)
  obtain rfl : r_3 = pIn x 0 2 := h_3
  refine lv_if_ne (tgt := 11) hx hb dX6_set_6 (by decide) (fun c_6 => ?_) (fun c_6 => ?_)
  · exact absurd hin c_6
  · refine lv_iconst (v := (-1)) hx hb dX6_set_9 (by decide) ?_
    exact W.iret (v := (-1)) hx hb hr (fun tt ht hW => ⟨(-1), rfl, rfl, ht⟩) (fun q hq => absurd hq List.not_mem_nil) dX6_set_10

set_option maxHeartbeats 4000000 in
set_option maxRecDepth 100000 in
theorem k_X6_setBlink_e1 (l : Launch) (D : va_G) (ct : Nat → ClassId) (a : Nat → Nat) (v u : SV) (w sl : Nat → SV) (k t : Nat) (hk : k ≤ 5) (ik tx rd : Nat → Int32) (x y z : Int32) (hin : pIn x 1 3 = 0) : Met l yX6_setBlink wsX6_setBlink ({ frames := 2, cells := 0, slots := 0, locals := 45 }) (roP D ct (mG ct a (nI k) (nI t) (rowOf v) v.2 (rowOf u) u.2 (hisI w) (hisF w) (hisI sl) (hisF sl) ik tx rd) [.ref (a 0), .int x, .int y, .int z]) (vp_Si (fun r => r = -1)) 0 0 noA := by
  refine Met.ofW (cc := cX6_setBlink) (maxL := 4) (ret := (some .int)) (by decide) rfl ?_
  intro p e s m args below meth c s₁ B hml hv
  obtain ⟨rfl, hP, hK, hN⟩ := hv
  have hx := B.exec
  have hb := B.bytes
  have hr := B.returns
  have hts := atoms_spec (ws := wsX6_setBlink) B.pre
  have hown : s.vm.findClass RX6 = some m.cls := findClass_of_methodNamed B.named
  have hlocks := B.notSynchronized
  have hl := lv_entry ([.ref (a 0), .int x, .int y, .int z]) (n := 4) (Nat.le_of_ble_eq_true rfl)
  rw [lg_entry_eq]
  generalize (lg_sl ([.ref (a 0), .int x, .int y, .int z]) ++ List.replicate (4 - (lg_sl ([.ref (a 0), .int x, .int y, .int z])).length) Slot.unset).toArray = ls at hl ⊢
  have hl : lv_has ls 4 [(0, .ref (a 0)), (1, .int x), (2, .int y), (3, .int z)] := hl
  refine lv_iload_n hx hb dX6_setBlink_0 rfl (lv_at hl 1 rfl) ?_
  refine lv_iconst (v := 1) hx hb dX6_setBlink_1 (by decide) ?_
  refine lv_iconst (v := 3) hx hb dX6_setBlink_2 (by decide) ?_
  refine vp_callSi (va_runS (As := [.int x, .int 1, .int 3]) (rest := []) ⟨hx, hb, hml, hown, hts⟩ (k_X6_in l D ct x 1 3) (va_cwS 3 hts gX6_setBlink_X6_in rfl rfl rfl (by decide +kernel) ⟨Nat.le_of_ble_eq_true rfl, Nat.le_of_ble_eq_true rfl⟩) ⟨roP.blind, roP.at pw_nil hK hN⟩ rfl rfl hl.1 rfl (lv_room (Nat.le_of_ble_eq_true rfl)) dX6_setBlink_3 ⟨Nat.le_of_ble_eq_true rfl, Nat.le_of_ble_eq_true rfl⟩).run (fun r_3 h_3 => ?_)
  obtain rfl : r_3 = pIn x 1 3 := h_3
  refine lv_if_ne (tgt := 11) hx hb dX6_setBlink_6 (by decide) (fun c_6 => ?_) (fun c_6 => ?_)
  · exact absurd hin c_6
  · refine lv_iconst (v := (-1)) hx hb dX6_setBlink_9 (by decide) ?_
    exact W.iret (v := (-1)) hx hb hr (fun tt ht hW => ⟨(-1), rfl, rfl, ht⟩) (fun q hq => absurd hq List.not_mem_nil) dX6_setBlink_10

set_option maxHeartbeats 4000000 in
set_option maxRecDepth 100000 in
theorem k_X6_setBlink_e2 (l : Launch) (D : va_G) (ct : Nat → ClassId) (a : Nat → Nat) (v u : SV) (w sl : Nat → SV) (k t : Nat) (hk : k ≤ 5) (ik tx rd : Nat → Int32) (x y z : Int32) (hin : ¬ pIn x 1 3 = 0) (hyz : pIn y 1 50 = 0 ∨ pIn z 0 50 = 0) : Met l yX6_setBlink wsX6_setBlink ({ frames := 2, cells := 0, slots := 0, locals := 45 }) (roP D ct (mG ct a (nI k) (nI t) (rowOf v) v.2 (rowOf u) u.2 (hisI w) (hisF w) (hisI sl) (hisF sl) ik tx rd) [.ref (a 0), .int x, .int y, .int z]) (vp_Si (fun r => r = -2)) 0 0 noA := by
  refine Met.ofW (cc := cX6_setBlink) (maxL := 4) (ret := (some .int)) (by decide) rfl ?_
  intro p e s m args below meth c s₁ B hml hv
  obtain ⟨rfl, hP, hK, hN⟩ := hv
  have hx := B.exec
  have hb := B.bytes
  have hr := B.returns
  have hts := atoms_spec (ws := wsX6_setBlink) B.pre
  have hown : s.vm.findClass RX6 = some m.cls := findClass_of_methodNamed B.named
  have hlocks := B.notSynchronized
  have hl := lv_entry ([.ref (a 0), .int x, .int y, .int z]) (n := 4) (Nat.le_of_ble_eq_true rfl)
  rw [lg_entry_eq]
  generalize (lg_sl ([.ref (a 0), .int x, .int y, .int z]) ++ List.replicate (4 - (lg_sl ([.ref (a 0), .int x, .int y, .int z])).length) Slot.unset).toArray = ls at hl ⊢
  have hl : lv_has ls 4 [(0, .ref (a 0)), (1, .int x), (2, .int y), (3, .int z)] := hl
  refine lv_iload_n hx hb dX6_setBlink_0 rfl (lv_at hl 1 rfl) ?_
  refine lv_iconst (v := 1) hx hb dX6_setBlink_1 (by decide) ?_
  refine lv_iconst (v := 3) hx hb dX6_setBlink_2 (by decide) ?_
  refine vp_callSi (va_runS (As := [.int x, .int 1, .int 3]) (rest := []) ⟨hx, hb, hml, hown, hts⟩ (k_X6_in l D ct x 1 3) (va_cwS 3 hts gX6_setBlink_X6_in rfl rfl rfl (by decide +kernel) ⟨Nat.le_of_ble_eq_true rfl, Nat.le_of_ble_eq_true rfl⟩) ⟨roP.blind, roP.at pw_nil hK hN⟩ rfl rfl hl.1 rfl (lv_room (Nat.le_of_ble_eq_true rfl)) dX6_setBlink_3 ⟨Nat.le_of_ble_eq_true rfl, Nat.le_of_ble_eq_true rfl⟩).run (fun r_3 h_3 => ?_)
  obtain rfl : r_3 = pIn x 1 3 := h_3
  refine lv_if_ne (tgt := 11) hx hb dX6_setBlink_6 (by decide) (fun c_6 => ?_) (fun c_6 => ?_)
  · refine lv_iload_n hx hb dX6_setBlink_11 rfl (lv_at hl 2 rfl) ?_
    refine lv_iconst (v := 1) hx hb dX6_setBlink_12 (by decide) ?_
    refine lv_bipush (v := 50) hx hb dX6_setBlink_13 (by decide) ?_
    refine vp_callSi (va_runS (As := [.int y, .int 1, .int 50]) (rest := []) ⟨hx, hb, hml, hown, hts⟩ (k_X6_in l D ct y 1 50) (va_cwS 3 hts gX6_setBlink_X6_in rfl rfl rfl (by decide +kernel) ⟨Nat.le_of_ble_eq_true rfl, Nat.le_of_ble_eq_true rfl⟩) ⟨roP.blind, roP.at pw_nil hK hN⟩ rfl rfl hl.1 rfl (lv_room (Nat.le_of_ble_eq_true rfl)) dX6_setBlink_15 ⟨Nat.le_of_ble_eq_true rfl, Nat.le_of_ble_eq_true rfl⟩).run (fun r_15 h_15 => ?_)
    obtain rfl : r_15 = pIn y 1 50 := h_15
    refine lv_if_eq (tgt := 31) hx hb dX6_setBlink_18 (by decide) (fun c_18 => ?_) (fun c_18 => ?_)
    · refine lv_bipush (v := (-2)) hx hb dX6_setBlink_31 (by decide) ?_
      exact W.iret (v := (-2)) hx hb hr (fun tt ht hW => ⟨(-2), rfl, rfl, ht⟩) (fun q hq => absurd hq List.not_mem_nil) dX6_setBlink_33
    · refine lv_iload_n hx hb dX6_setBlink_21 rfl (lv_at hl 3 rfl) ?_
      refine lv_iconst (v := 0) hx hb dX6_setBlink_22 (by decide) ?_
      refine lv_bipush (v := 50) hx hb dX6_setBlink_23 (by decide) ?_
      refine vp_callSi (va_runS (As := [.int z, .int 0, .int 50]) (rest := []) ⟨hx, hb, hml, hown, hts⟩ (k_X6_in l D ct z 0 50) (va_cwS 3 hts gX6_setBlink_X6_in rfl rfl rfl (by decide +kernel) ⟨Nat.le_of_ble_eq_true rfl, Nat.le_of_ble_eq_true rfl⟩) ⟨roP.blind, roP.at pw_nil hK hN⟩ rfl rfl hl.1 rfl (lv_room (Nat.le_of_ble_eq_true rfl)) dX6_setBlink_25 ⟨Nat.le_of_ble_eq_true rfl, Nat.le_of_ble_eq_true rfl⟩).run (fun r_25 h_25 => ?_)
      obtain rfl : r_25 = pIn z 0 50 := h_25
      refine lv_if_ne (tgt := 34) hx hb dX6_setBlink_28 (by decide) (fun c_28 => ?_) (fun c_28 => ?_)
      · exact hyz.elim (fun q => absurd q c_18) (fun q => absurd q c_28)
      · refine lv_bipush (v := (-2)) hx hb dX6_setBlink_31 (by decide) ?_
        exact W.iret (v := (-2)) hx hb hr (fun tt ht hW => ⟨(-2), rfl, rfl, ht⟩) (fun q hq => absurd hq List.not_mem_nil) dX6_setBlink_33
  · exact absurd c_6 hin

set_option maxHeartbeats 4000000 in
set_option maxRecDepth 100000 in
theorem k_X6_setBlink_ok (l : Launch) (D : va_G) (ct : Nat → ClassId) (sz : Nat) (a : Nat → Nat) (v u : SV) (w sl : Nat → SV) (k t : Nat) (hk : k ≤ 5) (ik tx rd : Nat → Int32) (ok : Inv v) (g : Nat) (hg0 : 0 < g) (hg4 : g < 4) (y z : Int32) (hy : ¬ pIn y 1 50 = 0) (hz : ¬ pIn z 0 50 = 0) : Met l yX6_setBlink wsX6_setBlink ({ frames := 2, cells := 0, slots := 0, locals := 45 }) (muP D ct (mG ct a (nI k) (nI t) (rowOf v) v.2 (rowOf u) u.2 (hisI w) (hisF w) (hisI sl) (hisF sl) ik tx rd) sz [.ref (a 0), .int (nI g), .int y, .int z]) (muI D ct (mG ct a (nI k) (nI t) (rowOf v) v.2 (rowOf u) u.2 (hisI w) (hisF w) (hisI sl) (hisF sl) ik tx rd) (mS ct a (s2 (s2 v 1 g y) 2 g z) v (hPush w k v) sl (kPush k) t ik tx rd) sz (fun r => r = pDin (s2 (s2 v 1 g y) 2 g z) (nI g) (nOf v))) 0 0 (va_A (mG ct a (nI k) (nI t) (rowOf v) v.2 (rowOf u) u.2 (hisI w) (hisF w) (hisI sl) (hisF sl) ik tx rd) sz) := by
  refine Met.ofW (cc := cX6_setBlink) (maxL := 4) (ret := (some .int)) (by decide) rfl ?_
  intro p e s m args below meth c s₁ B hml hv
  obtain ⟨rfl, hsz, hP, hK, hN, hD0⟩ := hv
  have hx := B.exec
  have hb := B.bytes
  have hr := B.returns
  have hts := atoms_spec (ws := wsX6_setBlink) B.pre
  have hown : s.vm.findClass RX6 = some m.cls := findClass_of_methodNamed B.named
  have hlocks := B.notSynchronized
  subst hsz
  have hD := hD0.self (sz := s.heap.size)
  generalize hAe : va_A (mG ct a (nI k) (nI t) (rowOf v) v.2 (rowOf u) u.2 (hisI w) (hisF w) (hisI sl) (hisF sl) ik tx rd) s.heap.size = A at hD
  have hA : ∀ q : Nat, s.heap.size ≤ q → A q := fun q h => by rw [← hAe]; exact Or.inr h
  have hS : va_S A s.heap s.heap [] := va_S.rf
  have w_1 := hts (.fieldLink RX6 7 "ScannedDigitsModel" "row" "[I") (List.mem_of_getElem? (i := 1) rfl)
  have hiX6 : ∀ w ∈ wsX60, w ∈ wsX6_setBlink := fun w h => (goodIn_r wsX60 [28, 29, 30, 31, 32, 33, 34, 35, 36, 37, 38, 39, 40] (by decide +kernel) (by decide +kernel) w h).1
  have hl := lv_entry ([.ref (a 0), .int (nI g), .int y, .int z]) (n := 4) (Nat.le_of_ble_eq_true rfl)
  rw [lg_entry_eq]
  generalize (lg_sl ([.ref (a 0), .int (nI g), .int y, .int z]) ++ List.replicate (4 - (lg_sl ([.ref (a 0), .int (nI g), .int y, .int z])).length) Slot.unset).toArray = ls at hl ⊢
  have hl : lv_has ls 4 [(0, .ref (a 0)), (1, .int (nI g)), (2, .int y), (3, .int z)] := hl
  have hin : ¬ pIn (nI g) 1 3 = 0 := pIn_ok (a := 1) (b := 3) rfl rfl hg0 (by omega) (by decide)
  refine lv_iload_n hx hb dX6_setBlink_0 rfl (lv_at hl 1 rfl) ?_
  refine lv_iconst (v := 1) hx hb dX6_setBlink_1 (by decide) ?_
  refine lv_iconst (v := 3) hx hb dX6_setBlink_2 (by decide) ?_
  refine vp_callSi (va_runS (As := [.int (nI g), .int 1, .int 3]) (rest := []) ⟨hx, hb, hml, hown, hts⟩ (k_X6_in l D ct (nI g) 1 3) (va_cwS 3 hts gX6_setBlink_X6_in rfl rfl rfl (by decide +kernel) ⟨Nat.le_of_ble_eq_true rfl, Nat.le_of_ble_eq_true rfl⟩) ⟨roP.blind, roP.at pw_nil hK hN⟩ rfl rfl hl.1 rfl (lv_room (Nat.le_of_ble_eq_true rfl)) dX6_setBlink_3 ⟨Nat.le_of_ble_eq_true rfl, Nat.le_of_ble_eq_true rfl⟩).run (fun r_3 h_3 => ?_)
  obtain rfl : r_3 = pIn (nI g) 1 3 := h_3
  refine lv_if_ne (tgt := 11) hx hb dX6_setBlink_6 (by decide) (fun c_6 => ?_) (fun c_6 => ?_)
  · refine lv_iload_n hx hb dX6_setBlink_11 rfl (lv_at hl 2 rfl) ?_
    refine lv_iconst (v := 1) hx hb dX6_setBlink_12 (by decide) ?_
    refine lv_bipush (v := 50) hx hb dX6_setBlink_13 (by decide) ?_
    refine vp_callSi (va_runS (As := [.int y, .int 1, .int 50]) (rest := []) ⟨hx, hb, hml, hown, hts⟩ (k_X6_in l D ct y 1 50) (va_cwS 3 hts gX6_setBlink_X6_in rfl rfl rfl (by decide +kernel) ⟨Nat.le_of_ble_eq_true rfl, Nat.le_of_ble_eq_true rfl⟩) ⟨roP.blind, roP.at pw_nil hK hN⟩ rfl rfl hl.1 rfl (lv_room (Nat.le_of_ble_eq_true rfl)) dX6_setBlink_15 ⟨Nat.le_of_ble_eq_true rfl, Nat.le_of_ble_eq_true rfl⟩).run (fun r_15 h_15 => ?_)
    obtain rfl : r_15 = pIn y 1 50 := h_15
    refine lv_if_eq (tgt := 31) hx hb dX6_setBlink_18 (by decide) (fun c_18 => ?_) (fun c_18 => ?_)
    · exact absurd c_18 hy
    · refine lv_iload_n hx hb dX6_setBlink_21 rfl (lv_at hl 3 rfl) ?_
      refine lv_iconst (v := 0) hx hb dX6_setBlink_22 (by decide) ?_
      refine lv_bipush (v := 50) hx hb dX6_setBlink_23 (by decide) ?_
      refine vp_callSi (va_runS (As := [.int z, .int 0, .int 50]) (rest := []) ⟨hx, hb, hml, hown, hts⟩ (k_X6_in l D ct z 0 50) (va_cwS 3 hts gX6_setBlink_X6_in rfl rfl rfl (by decide +kernel) ⟨Nat.le_of_ble_eq_true rfl, Nat.le_of_ble_eq_true rfl⟩) ⟨roP.blind, roP.at pw_nil hK hN⟩ rfl rfl hl.1 rfl (lv_room (Nat.le_of_ble_eq_true rfl)) dX6_setBlink_25 ⟨Nat.le_of_ble_eq_true rfl, Nat.le_of_ble_eq_true rfl⟩).run (fun r_25 h_25 => ?_)
      obtain rfl : r_25 = pIn z 0 50 := h_25
      refine lv_if_ne (tgt := 34) hx hb dX6_setBlink_28 (by decide) (fun c_28 => ?_) (fun c_28 => ?_)
      · refine lv_aload_n hx hb dX6_setBlink_34 rfl (lv_at hl 0 rfl) ?_
        have hFc_35 := w_free (wc := mG ct a (nI k) (nI t) (rowOf v) v.2 (rowOf u) u.2 (hisI w) (hisF w) (hisI sl) (hisF sl) ik tx rd) hD (List.Perm.of_eq (List.append_nil _).symm) hS hA
        refine va_callv (va_runV (As := []) (rest := []) ⟨hx, hb, hml, hown, hts⟩ (k_X6_begin l D ct _ a (nI k) (nI t) (rowOf v) v.2 (rowOf u) u.2 (hisI w) (hisF w) (hisI sl) (hisF sl) ik tx rd) (cwV 0 hts gX6_setBlink_X6_begin rfl rfl rfl (by decide +kernel) ⟨Nat.le_of_ble_eq_true rfl, Nat.le_of_ble_eq_true rfl⟩) ⟨muP.blind, va_recv hK hP (ci := 6) (q0 := 0) rfl rfl, muP.at hP hD hK hN⟩ rfl rfl hl.1 rfl (lv_room (Nat.le_of_ble_eq_true rfl)) dX6_setBlink_35 ⟨Nat.le_of_ble_eq_true rfl, Nat.le_of_ble_eq_true rfl⟩) hS (fun q _ h => hFc_35 q h) hFc_35 (fun uu tt H1 locs ht hvm hw hB hz1 hk1 hS => ?_)
        obtain ⟨hP, hD⟩ := muE.join (ws' := mG ct a (nI k) (nI t) (rowOf v) v.2 (rowOf v) v.2 (hisI w) (hisF w) (hisI sl) (hisF sl) ik tx rd) hP hD (List.Perm.of_eq (List.append_nil _).symm) (List.Perm.of_eq (List.append_nil _).symm) hk1 hFc_35 ht hB
        generalize H1 = H at hP hS ⊢
        refine lv_aload_n hx hb dX6_setBlink_38 rfl (lv_at hl 0 rfl) ?_
        refine va_get (D := D) (ci := 6) (v := .ref (a 1)) (C := RX6) (T := TX6) (N := 13) hx hb hts hiX6 hown hK hP 0 rfl rfl 0 (by decide) w_1 (fun _ h9 => h9) rfl dX6_setBlink_39 ?_
        refine lv_bipush (v := 9) hx hb dX6_setBlink_42 (by decide) ?_
        refine lv_iload_n hx hb dX6_setBlink_44 rfl (lv_at hl 1 rfl) ?_
        refine lv_iadd hx hb dX6_setBlink_45 ?_
        refine lv_iconst (v := 1) hx hb dX6_setBlink_46 (by decide) ?_
        refine lv_isub hx hb dX6_setBlink_47 ?_
        refine lv_iload_n hx hb dX6_setBlink_48 rfl (lv_at hl 2 rfl) ?_
        refine r_iast hx hb hK hP hD hS 1 0 rfl rfl (k := 8 + g) (ix_m1 8 g 9 rfl) (by omega) (by decide) dX6_setBlink_49 (fun H locs hP hD hS => ?_)
        have hP : va_P D vwCl (mG ct a (nI k) (nI t) (rowOf (s2 v 1 g y)) v.2 (rowOf v) v.2 (hisI w) (hisF w) (hisI sl) (hisF sl) ik tx rd) H := by rw [← row_up1 v hg0 hg4]; exact hP
        have hD : va_D A (mG ct a (nI k) (nI t) (rowOf (s2 v 1 g y)) v.2 (rowOf v) v.2 (hisI w) (hisF w) (hisI sl) (hisF sl) ik tx rd) := mG_dn hD
        refine lv_aload_n hx hb dX6_setBlink_50 rfl (lv_at hl 0 rfl) ?_
        refine va_get (D := D) (ci := 6) (v := .ref (a 1)) (C := RX6) (T := TX6) (N := 13) hx hb hts hiX6 hown hK hP 0 rfl rfl 0 (by decide) w_1 (fun _ h9 => h9) rfl dX6_setBlink_51 ?_
        refine lv_bipush (v := 12) hx hb dX6_setBlink_54 (by decide) ?_
        refine lv_iload_n hx hb dX6_setBlink_56 rfl (lv_at hl 1 rfl) ?_
        refine lv_iadd hx hb dX6_setBlink_57 ?_
        refine lv_iconst (v := 1) hx hb dX6_setBlink_58 (by decide) ?_
        refine lv_isub hx hb dX6_setBlink_59 ?_
        refine lv_iload_n hx hb dX6_setBlink_60 rfl (lv_at hl 3 rfl) ?_
        refine r_iast hx hb hK hP hD hS 1 0 rfl rfl (k := 11 + g) (ix_m1 11 g 12 rfl) (by omega) (by decide) dX6_setBlink_61 (fun H locs hP hD hS => ?_)
        have hP : va_P D vwCl (mG ct a (nI k) (nI t) (rowOf (s2 (s2 v 1 g y) 2 g z)) v.2 (rowOf v) v.2 (hisI w) (hisF w) (hisI sl) (hisF sl) ik tx rd) H := by rw [← row_up2 _ hg0 hg4]; exact hP
        have hD : va_D A (mG ct a (nI k) (nI t) (rowOf (s2 (s2 v 1 g y) 2 g z)) v.2 (rowOf v) v.2 (hisI w) (hisF w) (hisI sl) (hisF sl) ik tx rd) := mG_dn hD
        refine lv_aload_n hx hb dX6_setBlink_62 rfl (lv_at hl 0 rfl) ?_
        refine lv_aload_n hx hb dX6_setBlink_63 rfl (lv_at hl 0 rfl) ?_
        refine lv_iload_n hx hb dX6_setBlink_64 rfl (lv_at hl 1 rfl) ?_
        refine vp_callSi (va_runV (As := [.int (nI g)]) (rest := [.ref (a 0)]) ⟨hx, hb, hml, hown, hts⟩ (k_X6_digitsIn l D ct (a 0) (a 1) (mTl a (nI k) (nI t)) (s2 (s2 v 1 g y) 2 g z) (nI g) ok.n8 ok.cnt) (cwV 1 hts gX6_setBlink_X6_digitsIn rfl rfl rfl (by decide +kernel) ⟨Nat.le_of_ble_eq_true rfl, Nat.le_of_ble_eq_true rfl⟩) ⟨roP.blind, va_recv hK (mG_R hP) (ci := 6) (q0 := 0) rfl rfl, roP.at (mG_R hP) hK hN⟩ rfl rfl hl.1 rfl (lv_room (Nat.le_of_ble_eq_true rfl)) dX6_setBlink_65 ⟨Nat.le_of_ble_eq_true rfl, Nat.le_of_ble_eq_true rfl⟩).run (fun r_65 h_65 => ?_)
        obtain rfl : r_65 = pDin (s2 (s2 v 1 g y) 2 g z) (nI g) (nOf v) := h_65
        have hFc_68 := w_free (wc := mG ct a (nI k) (nI t) (rowOf (s2 (s2 v 1 g y) 2 g z)) v.2 (rowOf v) v.2 (hisI w) (hisF w) (hisI sl) (hisF sl) ik tx rd) hD (List.Perm.of_eq (List.append_nil _).symm) hS hA
        refine va_calli (va_runV (As := [.int (pDin (s2 (s2 v 1 g y) 2 g z) (nI g) (nOf v))]) (rest := []) ⟨hx, hb, hml, hown, hts⟩ (k_X6_done l D ct _ a (nI t) (rowOf (s2 (s2 v 1 g y) 2 g z)) v.2 v w k hk (hisI sl) (hisF sl) ik tx rd (pDin (s2 (s2 v 1 g y) 2 g z) (nI g) (nOf v))) (cwV 1 hts gX6_setBlink_X6_done rfl rfl rfl (by decide +kernel) ⟨Nat.le_of_ble_eq_true rfl, Nat.le_of_ble_eq_true rfl⟩) ⟨muP.blind, va_recv hK hP (ci := 6) (q0 := 0) rfl rfl, muP.at hP hD hK hN⟩ rfl rfl hl.1 rfl (lv_room (Nat.le_of_ble_eq_true rfl)) dX6_setBlink_68 ⟨Nat.le_of_ble_eq_true rfl, Nat.le_of_ble_eq_true rfl⟩) hS (fun q _ h => hFc_68 q h) hFc_68 (fun r_68 uu tt H1 locs ht hvm h_68 hB hz1 hk1 hS => ?_)
        obtain ⟨hP, hD⟩ := muE.join (ws' := mG ct a (nI (kPush k)) (nI t) (rowOf (s2 (s2 v 1 g y) 2 g z)) v.2 (rowOf v) v.2 (hisI (hPush w k v)) (hisF (hPush w k v)) (hisI sl) (hisF sl) ik tx rd) hP hD (List.Perm.of_eq (List.append_nil _).symm) (List.Perm.of_eq (List.append_nil _).symm) hk1 hFc_68 ht hB
        generalize H1 = H at hP hS ⊢
        obtain rfl : r_68 = pDin (s2 (s2 v 1 g y) 2 g z) (nI g) (nOf v) := h_68
        have hP9 : va_P D vwCl (mS ct a (s2 (s2 v 1 g y) 2 g z) v (hPush w k v) sl (kPush k) t ik tx rd) H := hP
        have hD9 : va_D A (mS ct a (s2 (s2 v 1 g y) 2 g z) v (hPush w k v) sl (kPush k) t ik tx rd) := mG_dn hD
        subst hAe
        exact W.iret (v := (pDin (s2 (s2 v 1 g y) 2 g z) (nI g) (nOf v))) hx hb hr (fun tt ht hW => ⟨⟨(pDin (s2 (s2 v 1 g y) 2 g z) (nI g) (nOf v)), (), rfl, rfl, muE.of (ct := ct) hP9 hD9 ht⟩, hS.F ht⟩) hS.2.2 dX6_setBlink_71
      · exact absurd c_28 hz
  · exact absurd c_6 hin

