set_option maxHeartbeats 4000000 in
set_option maxRecDepth 100000 in
theorem k_X6_put (l : Launch) (D : va_G) (ct : Nat → ClassId) (sz : Nat) (h r : Nat) (tl : List Value) (v : SV) (d f : Nat) (x : Int32) (hd : d < 8) (hf : f < 6) : Met l yX6_put wsX6_put ({ frames := 0, cells := 0, slots := 0, locals := 0 }) (muP D ct (mR ct h r tl v) sz [.ref h, .int (nI d), .int (nI f), .int x]) (muV D ct (mR ct h r tl v) (mR ct h r tl (s2 v (4 + d) f x)) sz) 0 0 (va_A (mR ct h r tl v) sz) := by
  refine Met.ofW (cc := cX6_put) (maxL := 4) (ret := none) (by decide) rfl ?_
  intro p e s m args below meth c s₁ B hml hv
  obtain ⟨rfl, hsz, hP, hK, hN, hD0⟩ := hv
  have hx := B.exec
  have hb := B.bytes
  have hr := B.returns
  have hts := atoms_spec (ws := wsX6_put) B.pre
  have hown : s.vm.findClass RX6 = some m.cls := findClass_of_methodNamed B.named
  have hlocks := B.notSynchronized
  subst hsz
  have hD := hD0.self (sz := s.heap.size)
  generalize hAe : va_A (mR ct h r tl v) s.heap.size = A at hD
  have hA : ∀ q : Nat, s.heap.size ≤ q → A q := fun q h => by rw [← hAe]; exact Or.inr h
  have hS : va_S A s.heap s.heap [] := va_S.rf
  have w_1 := hts (.fieldLink RX6 7 "ScannedDigitsModel" "row" "[I") (List.mem_of_getElem? (i := 1) rfl)
  have hiX6 : ∀ w ∈ wsX60, w ∈ wsX6_put := fun w h => (goodIn_r wsX60 [2, 3, 4, 5, 6, 7, 8, 9, 10, 11, 12, 13, 14] (by decide +kernel) (by decide +kernel) w h).1
  have hl := lv_entry ([.ref h, .int (nI d), .int (nI f), .int x]) (n := 4) (Nat.le_of_ble_eq_true rfl)
  rw [lg_entry_eq]
  generalize (lg_sl ([.ref h, .int (nI d), .int (nI f), .int x]) ++ List.replicate (4 - (lg_sl ([.ref h, .int (nI d), .int (nI f), .int x])).length) Slot.unset).toArray = ls at hl ⊢
  have hl : lv_has ls 4 [(0, .ref h), (1, .int (nI d)), (2, .int (nI f)), (3, .int x)] := hl
  refine lv_aload_n hx hb dX6_put_0 rfl (lv_at hl 0 rfl) ?_
  refine va_get (D := D) (ci := 6) (v := .ref r) (C := RX6) (T := TX6) (N := 13) hx hb hts hiX6 hown hK hP 0 rfl rfl 0 (by decide) w_1 (fun _ h9 => h9) rfl dX6_put_1 ?_
  refine lv_bipush (v := 16) hx hb dX6_put_4 (by decide) ?_
  refine lv_bipush (v := 6) hx hb dX6_put_6 (by decide) ?_
  refine lv_iload_n hx hb dX6_put_8 rfl (lv_at hl 1 rfl) ?_
  refine lv_imul hx hb dX6_put_9 ?_
  refine lv_iadd hx hb dX6_put_10 ?_
  refine lv_iload_n hx hb dX6_put_11 rfl (lv_at hl 2 rfl) ?_
  refine lv_iadd hx hb dX6_put_12 ?_
  refine lv_iload_n hx hb dX6_put_13 rfl (lv_at hl 3 rfl) ?_
  refine r_iast hx hb hK hP hD hS 1 0 rfl rfl (k := 16 + 6 * d + f) (ix_6 d f) (by omega) (by decide) dX6_put_14 (fun H locs hP hD hS => ?_)
  have hP : va_P D vwCl (mR ct h r tl (s2 v (4 + d) f x)) H := mR_fn (row_upF v hd hf x) hP
  have hD : va_D A (mR ct h r tl (s2 v (4 + d) f x)) := mR_dn hD
  have hP9 : va_P D vwCl (mR ct h r tl (s2 v (4 + d) f x)) H := hP
  have hD9 : va_D A (mR ct h r tl (s2 v (4 + d) f x)) := hD
  subst hAe
  exact W.vret hx hb hr (fun tt ht hW => ⟨⟨(), rfl, trivial, muE.of (ct := ct) hP9 hD9 ht⟩, hS.F ht⟩) hS.2.2 dX6_put_15

set_option maxHeartbeats 4000000 in
set_option maxRecDepth 100000 in
theorem k_X6_renew (l : Launch) (D : va_G) (ct : Nat → ClassId) (sz : Nat) (h r : Nat) (tl : List Value) (v : SV) (d : Nat) (hd : d < 8) : Met l yX6_renew wsX6_renew ({ frames := 0, cells := 0, slots := 0, locals := 0 }) (muP D ct (mR ct h r tl v) sz [.ref h, .int (nI d)]) (muV D ct (mR ct h r tl v) (mR ct h r tl (pRen v d)) sz) 0 0 (va_A (mR ct h r tl v) sz) := by
  refine Met.ofW (cc := cX6_renew) (maxL := 3) (ret := none) (by decide) rfl ?_
  intro p e s m args below meth c s₁ B hml hv
  obtain ⟨rfl, hsz, hP, hK, hN, hD0⟩ := hv
  have hx := B.exec
  have hb := B.bytes
  have hr := B.returns
  have hts := atoms_spec (ws := wsX6_renew) B.pre
  have hown : s.vm.findClass RX6 = some m.cls := findClass_of_methodNamed B.named
  have hlocks := B.notSynchronized
  subst hsz
  have hD := hD0.self (sz := s.heap.size)
  generalize hAe : va_A (mR ct h r tl v) s.heap.size = A at hD
  have hA : ∀ q : Nat, s.heap.size ≤ q → A q := fun q h => by rw [← hAe]; exact Or.inr h
  have hS : va_S A s.heap s.heap [] := va_S.rf
  have w_1 := hts (.fieldLink RX6 7 "ScannedDigitsModel" "row" "[I") (List.mem_of_getElem? (i := 1) rfl)
  have hiX6 : ∀ w ∈ wsX60, w ∈ wsX6_renew := fun w h => (goodIn_r wsX60 [2, 3, 4, 5, 6, 7, 8, 9, 10, 11, 12, 13, 14] (by decide +kernel) (by decide +kernel) w h).1
  have hl := lv_entry ([.ref h, .int (nI d)]) (n := 3) (Nat.le_of_ble_eq_true rfl)
  rw [lg_entry_eq]
  generalize (lg_sl ([.ref h, .int (nI d)]) ++ List.replicate (3 - (lg_sl ([.ref h, .int (nI d)])).length) Slot.unset).toArray = ls at hl ⊢
  have hl : lv_has ls 3 [(0, .ref h), (1, .int (nI d))] := hl
  refine lv_aload_n hx hb dX6_renew_0 rfl (lv_at hl 0 rfl) ?_
  refine va_get (D := D) (ci := 6) (v := .ref r) (C := RX6) (T := TX6) (N := 13) hx hb hts hiX6 hown hK hP 0 rfl rfl 0 (by decide) w_1 (fun _ h9 => h9) rfl dX6_renew_1 ?_
  refine lv_sipush (v := 192) hx hb dX6_renew_4 (by decide) ?_
  refine lv_iload_n hx hb dX6_renew_7 rfl (lv_at hl 1 rfl) ?_
  refine lv_iadd hx hb dX6_renew_8 ?_
  refine lv_iconst (v := 0) hx hb dX6_renew_9 (by decide) ?_
  refine r_iast hx hb hK hP hD hS 1 0 rfl rfl (k := 192 + d) (ix_a 192 d 192 rfl) (by omega) (by decide) dX6_renew_10 (fun H locs hP hD hS => ?_)
  have hP : va_P D vwCl (mR ct h r tl (s2 v (4 + d) 6 0)) H := mR_fn (row_upB v hd 0) hP
  have hD : va_D A (mR ct h r tl (s2 v (4 + d) 6 0)) := mR_dn hD
  refine lv_iconst (v := 0) hx hb dX6_renew_11 (by decide) ?_
  refine lv_istore_n (lv' := [(2, .int 0), (0, .ref h), (1, .int (nI d))]) hx hb dX6_renew_12 rfl hl (by decide) rfl (fun ls hl => ?_)
  have loop_13 : ∀ (n_13 : Nat) (i : Nat), (i ≤ 8) → (9 ≤ i + n_13) → ∀ (H : Heap) (locs : List Loc), va_P D vwCl (mR ct h r tl (pRenK v d i)) H → va_D A (mR ct h r tl (pRenK v d i)) → va_S A s.heap H locs → ∀ (ls : Array Slot), lv_has ls 3 [(2, .int (nI i)), (0, .ref h), (1, .int (nI d))] → W p l e (headSpec wsX6_renew ({ frames := 0, cells := 0, slots := 0, locals := 0 })).room s m #[.ref h, .int (nI d)] below meth c H locs 0 0 (MQ below (muV D ct (mR ct h r tl v) (mR ct h r tl (pRen v d)) s.heap.size) #[.ref h, .int (nI d)] s 0 0 (A)) (F0 m 13 ls []) := by
    intro n_13
    induction n_13 with
    | zero =>
      intro i hi hn
      exact absurd hn (by omega)
    | succ n_13 ih_13 =>
      intro i hi hn H locs hP hD hS ls hl
      refine lv_iload_n hx hb dX6_renew_13 rfl (lv_at hl 0 rfl) ?_
      refine lv_bipush (v := 8) hx hb dX6_renew_14 (by decide) ?_
      refine lv_icmp_ge (tgt := 56) hx hb dX6_renew_16 (by decide) (fun c_16 => ?_) (fun c_16 => ?_)
      · have hge : 8 ≤ i := nI_le' (by decide) (by omega) c_16
        have hP9 : va_P D vwCl (mR ct h r tl (pRen v d)) H := mR_fn (pRenK_8 v d i hd (by omega)) hP
        have hD9 : va_D A (mR ct h r tl (pRen v d)) := mR_dn hD
        subst hAe
        exact W.vret hx hb hr (fun tt ht hW => ⟨⟨(), rfl, trivial, muE.of (ct := ct) hP9 hD9 ht⟩, hS.F ht⟩) hS.2.2 dX6_renew_56
      · have hlt : i < 8 := nI_nle' (by decide) (by omega) c_16
        refine lv_aload_n hx hb dX6_renew_19 rfl (lv_at hl 1 rfl) ?_
        refine va_get (D := D) (ci := 6) (v := .ref r) (C := RX6) (T := TX6) (N := 13) hx hb hts hiX6 hown hK hP 0 rfl rfl 0 (by decide) w_1 (fun _ h9 => h9) rfl dX6_renew_20 ?_
        refine lv_bipush (v := 64) hx hb dX6_renew_23 (by decide) ?_
        refine lv_bipush (v := 8) hx hb dX6_renew_25 (by decide) ?_
        refine lv_iload_n hx hb dX6_renew_27 rfl (lv_at hl 2 rfl) ?_
        refine lv_imul hx hb dX6_renew_28 ?_
        refine lv_iadd hx hb dX6_renew_29 ?_
        refine lv_iload_n hx hb dX6_renew_30 rfl (lv_at hl 0 rfl) ?_
        refine lv_iadd hx hb dX6_renew_31 ?_
        refine lv_iconst (v := 0) hx hb dX6_renew_32 (by decide) ?_
        refine r_iast hx hb hK hP hD hS 1 0 rfl rfl (k := 64 + 8 * d + i) (ix_8 64 d i 64 rfl) (by omega) (by decide) dX6_renew_33 (fun H locs hP hD hS => ?_)
        have hP : va_P D vwCl (mR ct h r tl (s2 (pRenK v d i) (12 + d) i 0)) H := mR_fn (row_upG (pRenK v d i) hd hlt 0) hP
        have hD : va_D A (mR ct h r tl (s2 (pRenK v d i) (12 + d) i 0)) := mR_dn hD
        refine lv_aload_n hx hb dX6_renew_34 rfl (lv_at hl 1 rfl) ?_
        refine va_get (D := D) (ci := 6) (v := .ref r) (C := RX6) (T := TX6) (N := 13) hx hb hts hiX6 hown hK hP 0 rfl rfl 0 (by decide) w_1 (fun _ h9 => h9) rfl dX6_renew_35 ?_
        refine lv_sipush (v := 128) hx hb dX6_renew_38 (by decide) ?_
        refine lv_bipush (v := 8) hx hb dX6_renew_41 (by decide) ?_
        refine lv_iload_n hx hb dX6_renew_43 rfl (lv_at hl 2 rfl) ?_
        refine lv_imul hx hb dX6_renew_44 ?_
        refine lv_iadd hx hb dX6_renew_45 ?_
        refine lv_iload_n hx hb dX6_renew_46 rfl (lv_at hl 0 rfl) ?_
        refine lv_iadd hx hb dX6_renew_47 ?_
        refine lv_iconst (v := 0) hx hb dX6_renew_48 (by decide) ?_
        refine r_iast hx hb hK hP hD hS 1 0 rfl rfl (k := 128 + 8 * d + i) (ix_8 128 d i 128 rfl) (by omega) (by decide) dX6_renew_49 (fun H locs hP hD hS => ?_)
        have hP : va_P D vwCl (mR ct h r tl (s2 (s2 (pRenK v d i) (12 + d) i 0) (20 + d) i 0)) H := mR_fn (row_upU (s2 (pRenK v d i) (12 + d) i 0) hd hlt 0) hP
        have hD : va_D A (mR ct h r tl (s2 (s2 (pRenK v d i) (12 + d) i 0) (20 + d) i 0)) := mR_dn hD
        refine lv_iinc (v := nI (i + 1)) (lv' := [(2, .int (nI (i + 1))), (0, .ref h), (1, .int (nI d))]) hx hb dX6_renew_50 hl (k := 0) rfl ((nI_succ i).symm) (by decide) rfl (fun ls hl => ?_)
        refine lv_goto (tgt := 13) hx hb dX6_renew_53 (by decide) ?_
        exact ih_13 (i + 1) (by omega) (by omega) _ _ (mR_fn (pRenK_s v d i) hP) (mR_dn hD) hS ls (lv_sub hl [0, 1, 2] rfl)
  exact loop_13 (9) 0 (Nat.zero_le _) (by omega) _ _ (mR_fn (pRenK_0 v d) hP) (mR_dn hD) hS ls (lv_sub hl [0, 1, 2] rfl)

set_option maxHeartbeats 4000000 in
set_option maxRecDepth 100000 in
theorem k_X6_begins (l : Launch) (D : va_G) (ct : Nat → ClassId) (sz : Nat) (h r : Nat) (tl : List Value) (v : SV) (d : Nat) (hd : d < 8) : Met l yX6_begins wsX6_begins ({ frames := 1, cells := 0, slots := 0, locals := 23 }) (muP D ct (mR ct h r tl v) sz [.ref h, .int (nI d)]) (muV D ct (mR ct h r tl v) (mR ct h r tl (pNew v d)) sz) 0 0 (va_A (mR ct h r tl v) sz) := by
  refine Met.ofW (cc := cX6_begins) (maxL := 2) (ret := none) (by decide) rfl ?_
  intro p e s m args below meth c s₁ B hml hv
  obtain ⟨rfl, hsz, hP, hK, hN, hD0⟩ := hv
  have hx := B.exec
  have hb := B.bytes
  have hr := B.returns
  have hts := atoms_spec (ws := wsX6_begins) B.pre
  have hown : s.vm.findClass RX6 = some m.cls := findClass_of_methodNamed B.named
  have hlocks := B.notSynchronized
  subst hsz
  have hD := hD0.self (sz := s.heap.size)
  generalize hAe : va_A (mR ct h r tl v) s.heap.size = A at hD
  have hA : ∀ q : Nat, s.heap.size ≤ q → A q := fun q h => by rw [← hAe]; exact Or.inr h
  have hS : va_S A s.heap s.heap [] := va_S.rf
  have hl := lv_entry ([.ref h, .int (nI d)]) (n := 2) (Nat.le_of_ble_eq_true rfl)
  rw [lg_entry_eq]
  generalize (lg_sl ([.ref h, .int (nI d)]) ++ List.replicate (2 - (lg_sl ([.ref h, .int (nI d)])).length) Slot.unset).toArray = ls at hl ⊢
  have hl : lv_has ls 2 [(0, .ref h), (1, .int (nI d))] := hl
  refine lv_aload_n hx hb dX6_begins_0 rfl (lv_at hl 0 rfl) ?_
  refine lv_iload_n hx hb dX6_begins_1 rfl (lv_at hl 1 rfl) ?_
  refine lv_iconst (v := 0) hx hb dX6_begins_2 (by decide) ?_
  refine lv_iconst (v := 0) hx hb dX6_begins_3 (by decide) ?_
  have hFc_4 := w_free (wc := mR ct h r tl v) hD (List.Perm.of_eq (List.append_nil _).symm) hS hA
  refine va_callv (va_runV (As := [.int (nI d), .int 0, .int 0]) (rest := []) ⟨hx, hb, hml, hown, hts⟩ (k_X6_put l D ct _ h r tl v d 0 0 hd (by decide)) (cwV 3 hts gX6_begins_X6_put rfl rfl rfl (by decide +kernel) ⟨Nat.le_of_ble_eq_true rfl, Nat.le_of_ble_eq_true rfl⟩) ⟨muP.blind, va_recv hK hP (ci := 6) (q0 := 0) rfl rfl, muP.at hP hD hK hN⟩ rfl rfl hl.1 rfl (lv_room (Nat.le_of_ble_eq_true rfl)) dX6_begins_4 ⟨Nat.le_of_ble_eq_true rfl, Nat.le_of_ble_eq_true rfl⟩) hS (fun q _ h => hFc_4 q h) hFc_4 (fun uu tt H1 locs ht hvm hw hB hz1 hk1 hS => ?_)
  obtain ⟨hP, hD⟩ := muE.join (ws' := mR ct h r tl (s2 v (4 + d) 0 0)) hP hD (List.Perm.of_eq (List.append_nil _).symm) (List.Perm.of_eq (List.append_nil _).symm) hk1 hFc_4 ht hB
  generalize H1 = H at hP hS ⊢
  refine lv_aload_n hx hb dX6_begins_7 rfl (lv_at hl 0 rfl) ?_
  refine lv_iload_n hx hb dX6_begins_8 rfl (lv_at hl 1 rfl) ?_
  refine lv_iconst (v := 1) hx hb dX6_begins_9 (by decide) ?_
  refine lv_bipush (v := 10) hx hb dX6_begins_10 (by decide) ?_
  have hFc_12 := w_free (wc := mR ct h r tl (s2 v (4 + d) 0 0)) hD (List.Perm.of_eq (List.append_nil _).symm) hS hA
  refine va_callv (va_runV (As := [.int (nI d), .int 1, .int 10]) (rest := []) ⟨hx, hb, hml, hown, hts⟩ (k_X6_put l D ct _ h r tl (s2 v (4 + d) 0 0) d 1 10 hd (by decide)) (cwV 3 hts gX6_begins_X6_put rfl rfl rfl (by decide +kernel) ⟨Nat.le_of_ble_eq_true rfl, Nat.le_of_ble_eq_true rfl⟩) ⟨muP.blind, va_recv hK hP (ci := 6) (q0 := 0) rfl rfl, muP.at hP hD hK hN⟩ rfl rfl hl.1 rfl (lv_room (Nat.le_of_ble_eq_true rfl)) dX6_begins_12 ⟨Nat.le_of_ble_eq_true rfl, Nat.le_of_ble_eq_true rfl⟩) hS (fun q _ h => hFc_12 q h) hFc_12 (fun uu tt H1 locs ht hvm hw hB hz1 hk1 hS => ?_)
  obtain ⟨hP, hD⟩ := muE.join (ws' := mR ct h r tl (s2 (s2 v (4 + d) 0 0) (4 + d) 1 10)) hP hD (List.Perm.of_eq (List.append_nil _).symm) (List.Perm.of_eq (List.append_nil _).symm) hk1 hFc_12 ht hB
  generalize H1 = H at hP hS ⊢
  refine lv_aload_n hx hb dX6_begins_15 rfl (lv_at hl 0 rfl) ?_
  refine lv_iload_n hx hb dX6_begins_16 rfl (lv_at hl 1 rfl) ?_
  refine lv_iconst (v := 2) hx hb dX6_begins_17 (by decide) ?_
  refine lv_iconst (v := 1) hx hb dX6_begins_18 (by decide) ?_
  have hFc_19 := w_free (wc := mR ct h r tl (s2 (s2 v (4 + d) 0 0) (4 + d) 1 10)) hD (List.Perm.of_eq (List.append_nil _).symm) hS hA
  refine va_callv (va_runV (As := [.int (nI d), .int 2, .int 1]) (rest := []) ⟨hx, hb, hml, hown, hts⟩ (k_X6_put l D ct _ h r tl (s2 (s2 v (4 + d) 0 0) (4 + d) 1 10) d 2 1 hd (by decide)) (cwV 3 hts gX6_begins_X6_put rfl rfl rfl (by decide +kernel) ⟨Nat.le_of_ble_eq_true rfl, Nat.le_of_ble_eq_true rfl⟩) ⟨muP.blind, va_recv hK hP (ci := 6) (q0 := 0) rfl rfl, muP.at hP hD hK hN⟩ rfl rfl hl.1 rfl (lv_room (Nat.le_of_ble_eq_true rfl)) dX6_begins_19 ⟨Nat.le_of_ble_eq_true rfl, Nat.le_of_ble_eq_true rfl⟩) hS (fun q _ h => hFc_19 q h) hFc_19 (fun uu tt H1 locs ht hvm hw hB hz1 hk1 hS => ?_)
  obtain ⟨hP, hD⟩ := muE.join (ws' := mR ct h r tl (s2 (s2 (s2 v (4 + d) 0 0) (4 + d) 1 10) (4 + d) 2 1)) hP hD (List.Perm.of_eq (List.append_nil _).symm) (List.Perm.of_eq (List.append_nil _).symm) hk1 hFc_19 ht hB
  generalize H1 = H at hP hS ⊢
  refine lv_aload_n hx hb dX6_begins_22 rfl (lv_at hl 0 rfl) ?_
  refine lv_iload_n hx hb dX6_begins_23 rfl (lv_at hl 1 rfl) ?_
  refine lv_iconst (v := 3) hx hb dX6_begins_24 (by decide) ?_
  refine lv_bipush (v := 15) hx hb dX6_begins_25 (by decide) ?_
  have hFc_27 := w_free (wc := mR ct h r tl (s2 (s2 (s2 v (4 + d) 0 0) (4 + d) 1 10) (4 + d) 2 1)) hD (List.Perm.of_eq (List.append_nil _).symm) hS hA
  refine va_callv (va_runV (As := [.int (nI d), .int 3, .int 15]) (rest := []) ⟨hx, hb, hml, hown, hts⟩ (k_X6_put l D ct _ h r tl (s2 (s2 (s2 v (4 + d) 0 0) (4 + d) 1 10) (4 + d) 2 1) d 3 15 hd (by decide)) (cwV 3 hts gX6_begins_X6_put rfl rfl rfl (by decide +kernel) ⟨Nat.le_of_ble_eq_true rfl, Nat.le_of_ble_eq_true rfl⟩) ⟨muP.blind, va_recv hK hP (ci := 6) (q0 := 0) rfl rfl, muP.at hP hD hK hN⟩ rfl rfl hl.1 rfl (lv_room (Nat.le_of_ble_eq_true rfl)) dX6_begins_27 ⟨Nat.le_of_ble_eq_true rfl, Nat.le_of_ble_eq_true rfl⟩) hS (fun q _ h => hFc_27 q h) hFc_27 (fun uu tt H1 locs ht hvm hw hB hz1 hk1 hS => ?_)
  obtain ⟨hP, hD⟩ := muE.join (ws' := mR ct h r tl (s2 (s2 (s2 (s2 v (4 + d) 0 0) (4 + d) 1 10) (4 + d) 2 1) (4 + d) 3 15)) hP hD (List.Perm.of_eq (List.append_nil _).symm) (List.Perm.of_eq (List.append_nil _).symm) hk1 hFc_27 ht hB
  generalize H1 = H at hP hS ⊢
  refine lv_aload_n hx hb dX6_begins_30 rfl (lv_at hl 0 rfl) ?_
  refine lv_iload_n hx hb dX6_begins_31 rfl (lv_at hl 1 rfl) ?_
  refine lv_iconst (v := 4) hx hb dX6_begins_32 (by decide) ?_
  refine lv_iconst (v := 0) hx hb dX6_begins_33 (by decide) ?_
  have hFc_34 := w_free (wc := mR ct h r tl (s2 (s2 (s2 (s2 v (4 + d) 0 0) (4 + d) 1 10) (4 + d) 2 1) (4 + d) 3 15)) hD (List.Perm.of_eq (List.append_nil _).symm) hS hA
  refine va_callv (va_runV (As := [.int (nI d), .int 4, .int 0]) (rest := []) ⟨hx, hb, hml, hown, hts⟩ (k_X6_put l D ct _ h r tl (s2 (s2 (s2 (s2 v (4 + d) 0 0) (4 + d) 1 10) (4 + d) 2 1) (4 + d) 3 15) d 4 0 hd (by decide)) (cwV 3 hts gX6_begins_X6_put rfl rfl rfl (by decide +kernel) ⟨Nat.le_of_ble_eq_true rfl, Nat.le_of_ble_eq_true rfl⟩) ⟨muP.blind, va_recv hK hP (ci := 6) (q0 := 0) rfl rfl, muP.at hP hD hK hN⟩ rfl rfl hl.1 rfl (lv_room (Nat.le_of_ble_eq_true rfl)) dX6_begins_34 ⟨Nat.le_of_ble_eq_true rfl, Nat.le_of_ble_eq_true rfl⟩) hS (fun q _ h => hFc_34 q h) hFc_34 (fun uu tt H1 locs ht hvm hw hB hz1 hk1 hS => ?_)
  obtain ⟨hP, hD⟩ := muE.join (ws' := mR ct h r tl (s2 (s2 (s2 (s2 (s2 v (4 + d) 0 0) (4 + d) 1 10) (4 + d) 2 1) (4 + d) 3 15) (4 + d) 4 0)) hP hD (List.Perm.of_eq (List.append_nil _).symm) (List.Perm.of_eq (List.append_nil _).symm) hk1 hFc_34 ht hB
  generalize H1 = H at hP hS ⊢
  refine lv_aload_n hx hb dX6_begins_37 rfl (lv_at hl 0 rfl) ?_
  refine lv_iload_n hx hb dX6_begins_38 rfl (lv_at hl 1 rfl) ?_
  refine lv_iconst (v := 5) hx hb dX6_begins_39 (by decide) ?_
  refine lv_iconst (v := 0) hx hb dX6_begins_40 (by decide) ?_
  have hFc_41 := w_free (wc := mR ct h r tl (s2 (s2 (s2 (s2 (s2 v (4 + d) 0 0) (4 + d) 1 10) (4 + d) 2 1) (4 + d) 3 15) (4 + d) 4 0)) hD (List.Perm.of_eq (List.append_nil _).symm) hS hA
  refine va_callv (va_runV (As := [.int (nI d), .int 5, .int 0]) (rest := []) ⟨hx, hb, hml, hown, hts⟩ (k_X6_put l D ct _ h r tl (s2 (s2 (s2 (s2 (s2 v (4 + d) 0 0) (4 + d) 1 10) (4 + d) 2 1) (4 + d) 3 15) (4 + d) 4 0) d 5 0 hd (by decide)) (cwV 3 hts gX6_begins_X6_put rfl rfl rfl (by decide +kernel) ⟨Nat.le_of_ble_eq_true rfl, Nat.le_of_ble_eq_true rfl⟩) ⟨muP.blind, va_recv hK hP (ci := 6) (q0 := 0) rfl rfl, muP.at hP hD hK hN⟩ rfl rfl hl.1 rfl (lv_room (Nat.le_of_ble_eq_true rfl)) dX6_begins_41 ⟨Nat.le_of_ble_eq_true rfl, Nat.le_of_ble_eq_true rfl⟩) hS (fun q _ h => hFc_41 q h) hFc_41 (fun uu tt H1 locs ht hvm hw hB hz1 hk1 hS => ?_)
  obtain ⟨hP, hD⟩ := muE.join (ws' := mR ct h r tl (s2 (s2 (s2 (s2 (s2 (s2 v (4 + d) 0 0) (4 + d) 1 10) (4 + d) 2 1) (4 + d) 3 15) (4 + d) 4 0) (4 + d) 5 0)) hP hD (List.Perm.of_eq (List.append_nil _).symm) (List.Perm.of_eq (List.append_nil _).symm) hk1 hFc_41 ht hB
  generalize H1 = H at hP hS ⊢
  refine lv_aload_n hx hb dX6_begins_44 rfl (lv_at hl 0 rfl) ?_
  refine lv_iload_n hx hb dX6_begins_45 rfl (lv_at hl 1 rfl) ?_
  have hFc_46 := w_free (wc := mR ct h r tl (s2 (s2 (s2 (s2 (s2 (s2 v (4 + d) 0 0) (4 + d) 1 10) (4 + d) 2 1) (4 + d) 3 15) (4 + d) 4 0) (4 + d) 5 0)) hD (List.Perm.of_eq (List.append_nil _).symm) hS hA
  refine va_callv (va_runV (As := [.int (nI d)]) (rest := []) ⟨hx, hb, hml, hown, hts⟩ (k_X6_renew l D ct _ h r tl (s2 (s2 (s2 (s2 (s2 (s2 v (4 + d) 0 0) (4 + d) 1 10) (4 + d) 2 1) (4 + d) 3 15) (4 + d) 4 0) (4 + d) 5 0) d hd) (cwV 1 hts gX6_begins_X6_renew rfl rfl rfl (by decide +kernel) ⟨Nat.le_of_ble_eq_true rfl, Nat.le_of_ble_eq_true rfl⟩) ⟨muP.blind, va_recv hK hP (ci := 6) (q0 := 0) rfl rfl, muP.at hP hD hK hN⟩ rfl rfl hl.1 rfl (lv_room (Nat.le_of_ble_eq_true rfl)) dX6_begins_46 ⟨Nat.le_of_ble_eq_true rfl, Nat.le_of_ble_eq_true rfl⟩) hS (fun q _ h => hFc_46 q h) hFc_46 (fun uu tt H1 locs ht hvm hw hB hz1 hk1 hS => ?_)
  obtain ⟨hP, hD⟩ := muE.join (ws' := mR ct h r tl (pRen (s2 (s2 (s2 (s2 (s2 (s2 v (4 + d) 0 0) (4 + d) 1 10) (4 + d) 2 1) (4 + d) 3 15) (4 + d) 4 0) (4 + d) 5 0) d)) hP hD (List.Perm.of_eq (List.append_nil _).symm) (List.Perm.of_eq (List.append_nil _).symm) hk1 hFc_46 ht hB
  generalize H1 = H at hP hS ⊢
  have hP9 : va_P D vwCl (mR ct h r tl (pNew v d)) H := mR_fn (pNew_of v d hd) hP
  have hD9 : va_D A (mR ct h r tl (pNew v d)) := mR_dn hD
  subst hAe
  exact W.vret hx hb hr (fun tt ht hW => ⟨⟨(), rfl, trivial, muE.of (ct := ct) hP9 hD9 ht⟩, hS.F ht⟩) hS.2.2 dX6_begins_49

set_option maxHeartbeats 4000000 in
set_option maxRecDepth 100000 in
theorem k_X6_endFrame (l : Launch) (D : va_G) (ct : Nat → ClassId) (sz : Nat) (h r : Nat) (tl : List Value) (v : SV) : Met l yX6_endFrame wsX6_endFrame ({ frames := 0, cells := 0, slots := 0, locals := 0 }) (muP D ct (mR ct h r tl v) sz [.ref h]) (muV D ct (mR ct h r tl v) (mR ct h r tl (pEnd v)) sz) 0 0 (va_A (mR ct h r tl v) sz) := by
  refine Met.ofW (cc := cX6_endFrame) (maxL := 1) (ret := none) (by decide) rfl ?_
  intro p e s m args below meth c s₁ B hml hv
  obtain ⟨rfl, hsz, hP, hK, hN, hD0⟩ := hv
  have hx := B.exec
  have hb := B.bytes
  have hr := B.returns
  have hts := atoms_spec (ws := wsX6_endFrame) B.pre
  have hown : s.vm.findClass RX6 = some m.cls := findClass_of_methodNamed B.named
  have hlocks := B.notSynchronized
  subst hsz
  have hD := hD0.self (sz := s.heap.size)
  generalize hAe : va_A (mR ct h r tl v) s.heap.size = A at hD
  have hA : ∀ q : Nat, s.heap.size ≤ q → A q := fun q h => by rw [← hAe]; exact Or.inr h
  have hS : va_S A s.heap s.heap [] := va_S.rf
  have w_1 := hts (.fieldLink RX6 7 "ScannedDigitsModel" "row" "[I") (List.mem_of_getElem? (i := 1) rfl)
  have hiX6 : ∀ w ∈ wsX60, w ∈ wsX6_endFrame := fun w h => (goodIn_r wsX60 [2, 3, 4, 5, 6, 7, 8, 9, 10, 11, 12, 13, 14] (by decide +kernel) (by decide +kernel) w h).1
  have hl := lv_entry ([.ref h]) (n := 1) (Nat.le_of_ble_eq_true rfl)
  rw [lg_entry_eq]
  generalize (lg_sl ([.ref h]) ++ List.replicate (1 - (lg_sl ([.ref h])).length) Slot.unset).toArray = ls at hl ⊢
  have hl : lv_has ls 1 [(0, .ref h)] := hl
  refine lv_aload_n hx hb dX6_endFrame_0 rfl (lv_at hl 0 rfl) ?_
  refine va_get (D := D) (ci := 6) (v := .ref r) (C := RX6) (T := TX6) (N := 13) hx hb hts hiX6 hown hK hP 0 rfl rfl 0 (by decide) w_1 (fun _ h9 => h9) rfl dX6_endFrame_1 ?_
  refine lv_iconst (v := 2) hx hb dX6_endFrame_4 (by decide) ?_
  refine lv_dup2_11 hx hb dX6_endFrame_5 rfl rfl ?_
  refine r_iald hx hb hK hP 1 0 rfl rfl (k := 2) (rfl) (by decide) (by decide) dX6_endFrame_6 ?_
  refine lv_as (y := v.1 0 2) (row_0 v (by decide)) ?_
  refine lv_iconst (v := 1) hx hb dX6_endFrame_7 (by decide) ?_
  refine lv_iadd hx hb dX6_endFrame_8 ?_
  refine r_iast hx hb hK hP hD hS 1 0 rfl rfl (k := 2) (rfl) (by decide) (by decide) dX6_endFrame_9 (fun H locs hP hD hS => ?_)
  have hP : va_P D vwCl (mR ct h r tl (sC v 0 (upd (v.1 0) 2 (v.1 0 2 + 1)))) H := mR_fn (row_up0 v (by decide) _) hP
  have hD : va_D A (mR ct h r tl (sC v 0 (upd (v.1 0) 2 (v.1 0 2 + 1)))) := mR_dn hD
  refine lv_aload_n hx hb dX6_endFrame_10 rfl (lv_at hl 0 rfl) ?_
  refine va_get (D := D) (ci := 6) (v := .ref r) (C := RX6) (T := TX6) (N := 13) hx hb hts hiX6 hown hK hP 0 rfl rfl 0 (by decide) w_1 (fun _ h9 => h9) rfl dX6_endFrame_11 ?_
  refine lv_iconst (v := 3) hx hb dX6_endFrame_14 (by decide) ?_
  refine lv_iconst (v := 0) hx hb dX6_endFrame_15 (by decide) ?_
  refine r_iast hx hb hK hP hD hS 1 0 rfl rfl (k := 3) (rfl) (by decide) (by decide) dX6_endFrame_16 (fun H locs hP hD hS => ?_)
  have hP : va_P D vwCl (mR ct h r tl (sC v 0 (upd (upd (v.1 0) 2 (v.1 0 2 + 1)) 3 0))) H := mR_fn (row_up0C v (upd (v.1 0) 2 (v.1 0 2 + 1)) (by decide) _) hP
  have hD : va_D A (mR ct h r tl (sC v 0 (upd (upd (v.1 0) 2 (v.1 0 2 + 1)) 3 0))) := mR_dn hD
  refine lv_aload_n hx hb dX6_endFrame_17 rfl (lv_at hl 0 rfl) ?_
  refine va_get (D := D) (ci := 6) (v := .ref r) (C := RX6) (T := TX6) (N := 13) hx hb hts hiX6 hown hK hP 0 rfl rfl 0 (by decide) w_1 (fun _ h9 => h9) rfl dX6_endFrame_18 ?_
  refine lv_iconst (v := 4) hx hb dX6_endFrame_21 (by decide) ?_
  refine lv_dup2_11 hx hb dX6_endFrame_22 rfl rfl ?_
  refine r_iald hx hb hK hP 1 0 rfl rfl (k := 4) (rfl) (by decide) (by decide) dX6_endFrame_23 ?_
  refine lv_as (y := v.1 0 4) (row_0 (sC v 0 (upd (upd (v.1 0) 2 (v.1 0 2 + 1)) 3 0)) (by decide)) ?_
  refine lv_aload_n hx hb dX6_endFrame_24 rfl (lv_at hl 0 rfl) ?_
  refine va_get (D := D) (ci := 6) (v := .ref r) (C := RX6) (T := TX6) (N := 13) hx hb hts hiX6 hown hK hP 0 rfl rfl 0 (by decide) w_1 (fun _ h9 => h9) rfl dX6_endFrame_25 ?_
  refine lv_iconst (v := 4) hx hb dX6_endFrame_28 (by decide) ?_
  refine r_iald hx hb hK hP 1 0 rfl rfl (k := 4) (rfl) (by decide) (by decide) dX6_endFrame_29 ?_
  refine lv_as (y := v.1 0 4) (row_0 (sC v 0 (upd (upd (v.1 0) 2 (v.1 0 2 + 1)) 3 0)) (by decide)) ?_
  refine lv_if_le (tgt := 37) hx hb dX6_endFrame_30 (by decide) (fun c_30 => ?_) (fun c_30 => ?_)
  · refine lv_iconst (v := 0) hx hb dX6_endFrame_37 (by decide) ?_
    refine lv_isub hx hb dX6_endFrame_38 ?_
    refine r_iast hx hb hK hP hD hS 1 0 rfl rfl (k := 4) (rfl) (by decide) (by decide) dX6_endFrame_39 (fun H locs hP hD hS => ?_)
    have hP : va_P D vwCl (mR ct h r tl (sC v 0 (upd (upd (upd (v.1 0) 2 (v.1 0 2 + 1)) 3 0) 4 (v.1 0 4 - 0)))) H := mR_fn (row_up0C v (upd (upd (v.1 0) 2 (v.1 0 2 + 1)) 3 0) (by decide) _) hP
    have hD : va_D A (mR ct h r tl (sC v 0 (upd (upd (upd (v.1 0) 2 (v.1 0 2 + 1)) 3 0) 4 (v.1 0 4 - 0)))) := mR_dn hD
    have hP9 : va_P D vwCl (mR ct h r tl (pEnd v)) H := by unfold pEnd pEndF; rw [if_neg (Int32.not_lt.mpr c_30)]; exact hP
    have hD9 : va_D A (mR ct h r tl (pEnd v)) := mR_dn hD
    subst hAe
    exact W.vret hx hb hr (fun tt ht hW => ⟨⟨(), rfl, trivial, muE.of (ct := ct) hP9 hD9 ht⟩, hS.F ht⟩) hS.2.2 dX6_endFrame_40
  · refine lv_iconst (v := 1) hx hb dX6_endFrame_33 (by decide) ?_
    refine lv_goto (tgt := 38) hx hb dX6_endFrame_34 (by decide) ?_
    refine lv_isub hx hb dX6_endFrame_38 ?_
    refine r_iast hx hb hK hP hD hS 1 0 rfl rfl (k := 4) (rfl) (by decide) (by decide) dX6_endFrame_39 (fun H locs hP hD hS => ?_)
    have hP : va_P D vwCl (mR ct h r tl (sC v 0 (upd (upd (upd (v.1 0) 2 (v.1 0 2 + 1)) 3 0) 4 (v.1 0 4 - 1)))) H := mR_fn (row_up0C v (upd (upd (v.1 0) 2 (v.1 0 2 + 1)) 3 0) (by decide) _) hP
    have hD : va_D A (mR ct h r tl (sC v 0 (upd (upd (upd (v.1 0) 2 (v.1 0 2 + 1)) 3 0) 4 (v.1 0 4 - 1)))) := mR_dn hD
    have hP9 : va_P D vwCl (mR ct h r tl (pEnd v)) H := by unfold pEnd pEndF; rw [if_pos (i_not_le c_30)]; exact hP
    have hD9 : va_D A (mR ct h r tl (pEnd v)) := mR_dn hD
    subst hAe
    exact W.vret hx hb hr (fun tt ht hW => ⟨⟨(), rfl, trivial, muE.of (ct := ct) hP9 hD9 ht⟩, hS.F ht⟩) hS.2.2 dX6_endFrame_40

set_option maxHeartbeats 4000000 in
set_option maxRecDepth 100000 in
theorem k_X6_light (l : Launch) (D : va_G) (ct : Nat → ClassId) (sz : Nat) (h r : Nat) (tl : List Value) (v : SV) (d k : Nat) (hd : d < 8) (hk : k < 8) (b : Bool) (hz : ¬ v.1 3 0 = 0) : Met l yX6_light wsX6_light ({ frames := 1, cells := 0, slots := 0, locals := 22 }) (muP D ct (mR ct h r tl v) sz [.ref h, .int (nI d), .int (nI k), .int (if b = true then 1 else 0)]) (muV D ct (mR ct h r tl v) (mR ct h r tl (sTri v d (dStep b (v.1 3 0) (v.1 3 2) k (dTri v d)))) sz) 0 0 (va_A (mR ct h r tl v) sz) := by
  refine Met.ofW (cc := cX6_light) (maxL := 5) (ret := none) (by decide) rfl ?_
  intro p e s m args below meth c s₁ B hml hv
  obtain ⟨rfl, hsz, hP, hK, hN, hD0⟩ := hv
  have hx := B.exec
  have hb := B.bytes
  have hr := B.returns
  have hts := atoms_spec (ws := wsX6_light) B.pre
  have hown : s.vm.findClass RX6 = some m.cls := findClass_of_methodNamed B.named
  have hlocks := B.notSynchronized
  subst hsz
  have hD := hD0.self (sz := s.heap.size)
  generalize hAe : va_A (mR ct h r tl v) s.heap.size = A at hD
  have hA : ∀ q : Nat, s.heap.size ≤ q → A q := fun q h => by rw [← hAe]; exact Or.inr h
  have hS : va_S A s.heap s.heap [] := va_S.rf
  have w_1 := hts (.fieldLink RX6 7 "ScannedDigitsModel" "row" "[I") (List.mem_of_getElem? (i := 1) rfl)
  have hiX6 : ∀ w ∈ wsX60, w ∈ wsX6_light := fun w h => (goodIn_r wsX60 [10, 11, 12, 13, 14, 15, 16, 17, 18, 19, 20, 21, 22] (by decide +kernel) (by decide +kernel) w h).1
  have hl := lv_entry ([.ref h, .int (nI d), .int (nI k), .int (if b = true then 1 else 0)]) (n := 5) (Nat.le_of_ble_eq_true rfl)
  rw [lg_entry_eq]
  generalize (lg_sl ([.ref h, .int (nI d), .int (nI k), .int (if b = true then 1 else 0)]) ++ List.replicate (5 - (lg_sl ([.ref h, .int (nI d), .int (nI k), .int (if b = true then 1 else 0)])).length) Slot.unset).toArray = ls at hl ⊢
  have hl : lv_has ls 5 [(0, .ref h), (1, .int (nI d)), (2, .int (nI k)), (3, .int (if b = true then 1 else 0))] := hl
  refine lv_bipush (v := 8) hx hb dX6_light_0 (by decide) ?_
  refine lv_iload_n hx hb dX6_light_2 rfl (lv_at hl 1 rfl) ?_
  refine lv_imul hx hb dX6_light_3 ?_
  refine lv_iload_n hx hb dX6_light_4 rfl (lv_at hl 2 rfl) ?_
  refine lv_iadd hx hb dX6_light_5 ?_
  refine lv_as (y := nI (8 * d + k)) (ix8 d k) ?_
  refine lv_istore (lv' := [(4, .int (nI (8 * d + k))), (0, .ref h), (1, .int (nI d)), (2, .int (nI k)), (3, .int (if b = true then 1 else 0))]) hx hb dX6_light_6 hl (by decide) rfl (fun ls hl => ?_)
  refine lv_aload_n hx hb dX6_light_8 rfl (lv_at hl 1 rfl) ?_
  refine va_get (D := D) (ci := 6) (v := .ref r) (C := RX6) (T := TX6) (N := 13) hx hb hts hiX6 hown hK hP 0 rfl rfl 0 (by decide) w_1 (fun _ h9 => h9) rfl dX6_light_9 ?_
  refine lv_bipush (v := 64) hx hb dX6_light_12 (by decide) ?_
  refine lv_iload hx hb dX6_light_14 (lv_at hl 0 rfl) ?_
  refine lv_iadd hx hb dX6_light_16 ?_
  refine lv_as (y := nI (64 + 8 * d + k)) (ix_c 64 (8 * d + k) 64 rfl _ (by omega)) ?_
  refine lv_iload_n hx hb dX6_light_17 rfl (lv_at hl 4 rfl) ?_
  refine lv_if_eq (tgt := 37) hx hb dX6_light_18 (by decide) (fun c_18 => ?_) (fun c_18 => ?_)
  · have hb0 : b = false := by cases b with
      | false => rfl
      | true => exact absurd c_18 (by decide)
    refine lv_aload_n hx hb dX6_light_37 rfl (lv_at hl 1 rfl) ?_
    refine lv_aload_n hx hb dX6_light_38 rfl (lv_at hl 1 rfl) ?_
    refine va_get (D := D) (ci := 6) (v := .ref r) (C := RX6) (T := TX6) (N := 13) hx hb hts hiX6 hown hK hP 0 rfl rfl 0 (by decide) w_1 (fun _ h9 => h9) rfl dX6_light_39 ?_
    refine lv_bipush (v := 64) hx hb dX6_light_42 (by decide) ?_
    refine lv_iload hx hb dX6_light_44 (lv_at hl 0 rfl) ?_
    refine lv_iadd hx hb dX6_light_46 ?_
    refine lv_as (y := nI (64 + 8 * d + k)) (ix_c 64 (8 * d + k) 64 rfl _ (by omega)) ?_
    refine r_iald hx hb hK hP 1 0 rfl rfl (k := (64 + 8 * d + k)) (rfl) (by omega) (by decide) dX6_light_47 ?_
    refine lv_as (y := v.1 (12 + d) k) (row_g v hd hk) ?_
    refine vp_callSi (va_runV (As := [.int (v.1 (12 + d) k)]) (rest := [.int (nI (64 + 8 * d + k)), .ref r]) ⟨hx, hb, hml, hown, hts⟩ (k_X6_darker l D ct h r tl v (v.1 (12 + d) k) hz) (cwV 1 hts gX6_light_X6_darker rfl rfl rfl (by decide +kernel) ⟨Nat.le_of_ble_eq_true rfl, Nat.le_of_ble_eq_true rfl⟩) ⟨roP.blind, va_recv hK hP (ci := 6) (q0 := 0) rfl rfl, roP.at hP hK hN⟩ rfl rfl hl.1 rfl (lv_room (Nat.le_of_ble_eq_true rfl)) dX6_light_48 ⟨Nat.le_of_ble_eq_true rfl, Nat.le_of_ble_eq_true rfl⟩).run (fun r_48 h_48 => ?_)
    obtain rfl : r_48 = pDar (v.1 (12 + d) k) (v.1 3 0) := h_48
    refine r_iast hx hb hK hP hD hS 1 0 rfl rfl (k := (64 + 8 * d + k)) (rfl) (by omega) (by decide) dX6_light_51 (fun H locs hP hD hS => ?_)
    have hP : va_P D vwCl (mR ct h r tl (s2 v (12 + d) k (pDar (v.1 (12 + d) k) (v.1 3 0)))) H := mR_fn (row_upG v hd hk _) hP
    have hD : va_D A (mR ct h r tl (s2 v (12 + d) k (pDar (v.1 (12 + d) k) (v.1 3 0)))) := mR_dn hD
    refine lv_iload_n hx hb dX6_light_52 rfl (lv_at hl 4 rfl) ?_
    refine lv_if_eq (tgt := 108) hx hb dX6_light_53 (by decide) (fun c_53 => ?_) (fun c_53 => ?_)
    · have hP9 : va_P D vwCl (mR ct h r tl (sTri v d (dStep b (v.1 3 0) (v.1 3 2) k (dTri v d)))) H := mR_fn (light_0 v b hb0) hP
      have hD9 : va_D A (mR ct h r tl (sTri v d (dStep b (v.1 3 0) (v.1 3 2) k (dTri v d)))) := mR_dn hD
      subst hAe
      exact W.vret hx hb hr (fun tt ht hW => ⟨⟨(), rfl, trivial, muE.of (ct := ct) hP9 hD9 ht⟩, hS.F ht⟩) hS.2.2 dX6_light_108
    · exact absurd (by rw [hb0]; rfl) c_53
  · have hb1 : b = true := by cases b with
      | false => exact absurd rfl c_18
      | true => rfl
    refine lv_aload_n hx hb dX6_light_21 rfl (lv_at hl 1 rfl) ?_
    refine va_get (D := D) (ci := 6) (v := .ref r) (C := RX6) (T := TX6) (N := 13) hx hb hts hiX6 hown hK hP 0 rfl rfl 0 (by decide) w_1 (fun _ h9 => h9) rfl dX6_light_22 ?_
    refine lv_bipush (v := 64) hx hb dX6_light_25 (by decide) ?_
    refine lv_iload hx hb dX6_light_27 (lv_at hl 0 rfl) ?_
    refine lv_iadd hx hb dX6_light_29 ?_
    refine lv_as (y := nI (64 + 8 * d + k)) (ix_c 64 (8 * d + k) 64 rfl _ (by omega)) ?_
    refine r_iald hx hb hK hP 1 0 rfl rfl (k := (64 + 8 * d + k)) (rfl) (by omega) (by decide) dX6_light_30 ?_
    refine lv_as (y := v.1 (12 + d) k) (row_g v hd hk) ?_
    refine vp_callSi (va_runS (As := [.int (v.1 (12 + d) k)]) (rest := [.int (nI (64 + 8 * d + k)), .ref r]) ⟨hx, hb, hml, hown, hts⟩ (k_X6_brighter l D ct (v.1 (12 + d) k)) (va_cwS 1 hts gX6_light_X6_brighter rfl rfl rfl (by decide +kernel) ⟨Nat.le_of_ble_eq_true rfl, Nat.le_of_ble_eq_true rfl⟩) ⟨roP.blind, roP.at pw_nil hK hN⟩ rfl rfl hl.1 rfl (lv_room (Nat.le_of_ble_eq_true rfl)) dX6_light_31 ⟨Nat.le_of_ble_eq_true rfl, Nat.le_of_ble_eq_true rfl⟩).run (fun r_31 h_31 => ?_)
    obtain rfl : r_31 = pBri (v.1 (12 + d) k) := h_31
    refine lv_goto (tgt := 51) hx hb dX6_light_34 (by decide) ?_
    refine r_iast hx hb hK hP hD hS 1 0 rfl rfl (k := (64 + 8 * d + k)) (rfl) (by omega) (by decide) dX6_light_51 (fun H locs hP hD hS => ?_)
    have hP : va_P D vwCl (mR ct h r tl (s2 v (12 + d) k (pBri (v.1 (12 + d) k)))) H := mR_fn (row_upG v hd hk _) hP
    have hD : va_D A (mR ct h r tl (s2 v (12 + d) k (pBri (v.1 (12 + d) k)))) := mR_dn hD
    refine lv_iload_n hx hb dX6_light_52 rfl (lv_at hl 4 rfl) ?_
    refine lv_if_eq (tgt := 108) hx hb dX6_light_53 (by decide) (fun c_53 => ?_) (fun c_53 => ?_)
    · exact absurd c_53 (by rw [hb1]; decide)
    · refine lv_aload_n hx hb dX6_light_56 rfl (lv_at hl 1 rfl) ?_
      refine va_get (D := D) (ci := 6) (v := .ref r) (C := RX6) (T := TX6) (N := 13) hx hb hts hiX6 hown hK hP 0 rfl rfl 0 (by decide) w_1 (fun _ h9 => h9) rfl dX6_light_57 ?_
      refine lv_sipush (v := 128) hx hb dX6_light_60 (by decide) ?_
      refine lv_iload hx hb dX6_light_63 (lv_at hl 0 rfl) ?_
      refine lv_iadd hx hb dX6_light_65 ?_
      refine lv_as (y := nI (128 + 8 * d + k)) (ix_c 128 (8 * d + k) 128 rfl _ (by omega)) ?_
      refine lv_dup2_11 hx hb dX6_light_66 rfl rfl ?_
      refine r_iald hx hb hK hP 1 0 rfl rfl (k := (128 + 8 * d + k)) (rfl) (by omega) (by decide) dX6_light_67 ?_
      refine lv_as (y := v.1 (20 + d) k) ((row_u _ hd hk).trans (by rw [s2_at, if_neg (by omega)])) ?_
      refine lv_iconst (v := 1) hx hb dX6_light_68 (by decide) ?_
      refine lv_iadd hx hb dX6_light_69 ?_
      refine r_iast hx hb hK hP hD hS 1 0 rfl rfl (k := (128 + 8 * d + k)) (rfl) (by omega) (by decide) dX6_light_70 (fun H locs hP hD hS => ?_)
      have hP : va_P D vwCl (mR ct h r tl (s2 (s2 v (12 + d) k (pBri (v.1 (12 + d) k))) (20 + d) k (v.1 (20 + d) k + 1))) H := mR_fn (row_upU _ hd hk _) hP
      have hD : va_D A (mR ct h r tl (s2 (s2 v (12 + d) k (pBri (v.1 (12 + d) k))) (20 + d) k (v.1 (20 + d) k + 1))) := mR_dn hD
      refine lv_aload_n hx hb dX6_light_71 rfl (lv_at hl 1 rfl) ?_
      refine va_get (D := D) (ci := 6) (v := .ref r) (C := RX6) (T := TX6) (N := 13) hx hb hts hiX6 hown hK hP 0 rfl rfl 0 (by decide) w_1 (fun _ h9 => h9) rfl dX6_light_72 ?_
      refine lv_sipush (v := 128) hx hb dX6_light_75 (by decide) ?_
      refine lv_iload hx hb dX6_light_78 (lv_at hl 0 rfl) ?_
      refine lv_iadd hx hb dX6_light_80 ?_
      refine lv_as (y := nI (128 + 8 * d + k)) (ix_c 128 (8 * d + k) 128 rfl _ (by omega)) ?_
      refine r_iald hx hb hK hP 1 0 rfl rfl (k := (128 + 8 * d + k)) (rfl) (by omega) (by decide) dX6_light_81 ?_
      refine lv_as (y := v.1 (20 + d) k + 1) ((row_u _ hd hk).trans (by rw [s2_at, if_pos ⟨rfl, rfl⟩])) ?_
      refine lv_aload_n hx hb dX6_light_82 rfl (lv_at hl 1 rfl) ?_
      refine va_get (D := D) (ci := 6) (v := .ref r) (C := RX6) (T := TX6) (N := 13) hx hb hts hiX6 hown hK hP 0 rfl rfl 0 (by decide) w_1 (fun _ h9 => h9) rfl dX6_light_83 ?_
      refine lv_bipush (v := 8) hx hb dX6_light_86 (by decide) ?_
      refine r_iald hx hb hK hP 1 0 rfl rfl (k := 8) (rfl) (by decide) (by decide) dX6_light_88 ?_
      refine lv_as (y := v.1 3 2) ((row_3 _ (j := 2) (by decide)).trans (by rw [s2_at, if_neg (by omega), s2_at, if_neg (by omega)])) ?_
      refine lv_icmp_lt (tgt := 108) hx hb dX6_light_89 (by decide) (fun c_89 => ?_) (fun c_89 => ?_)
      · have hP9 : va_P D vwCl (mR ct h r tl (sTri v d (dStep b (v.1 3 0) (v.1 3 2) k (dTri v d)))) H := mR_fn (light_1 v b hb1 (fun q => Int32.not_lt.mpr q c_89)) hP
        have hD9 : va_D A (mR ct h r tl (sTri v d (dStep b (v.1 3 0) (v.1 3 2) k (dTri v d)))) := mR_dn hD
        subst hAe
        exact W.vret hx hb hr (fun tt ht hW => ⟨⟨(), rfl, trivial, muE.of (ct := ct) hP9 hD9 ht⟩, hS.F ht⟩) hS.2.2 dX6_light_108
      · refine lv_aload_n hx hb dX6_light_92 rfl (lv_at hl 1 rfl) ?_
        refine va_get (D := D) (ci := 6) (v := .ref r) (C := RX6) (T := TX6) (N := 13) hx hb hts hiX6 hown hK hP 0 rfl rfl 0 (by decide) w_1 (fun _ h9 => h9) rfl dX6_light_93 ?_
        refine lv_sipush (v := 192) hx hb dX6_light_96 (by decide) ?_
        refine lv_iload_n hx hb dX6_light_99 rfl (lv_at hl 2 rfl) ?_
        refine lv_iadd hx hb dX6_light_100 ?_
        refine lv_as (y := nI (192 + d)) (ix_a 192 d 192 rfl) ?_
        refine lv_dup2_11 hx hb dX6_light_101 rfl rfl ?_
        refine r_iald hx hb hK hP 1 0 rfl rfl (k := (192 + d)) (rfl) (by omega) (by decide) dX6_light_102 ?_
        refine lv_as (y := v.1 (4 + d) 6) ((row_b _ hd).trans (by rw [s2_at, if_neg (by omega), s2_at, if_neg (by omega)])) ?_
        refine lv_iconst (v := 1) hx hb dX6_light_103 (by decide) ?_
        refine lv_iload_n hx hb dX6_light_104 rfl (lv_at hl 3 rfl) ?_
        refine lv_ishl hx hb dX6_light_105 ?_
        refine lv_ior hx hb dX6_light_106 ?_
        refine r_iast hx hb hK hP hD hS 1 0 rfl rfl (k := (192 + d)) (rfl) (by omega) (by decide) dX6_light_107 (fun H locs hP hD hS => ?_)
        have hP : va_P D vwCl (mR ct h r tl (s2 (s2 (s2 v (12 + d) k (pBri (v.1 (12 + d) k))) (20 + d) k (v.1 (20 + d) k + 1)) (4 + d) 6 (v.1 (4 + d) 6 ||| (1 : Int32) <<< (nI k &&& 31)))) H := mR_fn (row_upB _ hd _) hP
        have hD : va_D A (mR ct h r tl (s2 (s2 (s2 v (12 + d) k (pBri (v.1 (12 + d) k))) (20 + d) k (v.1 (20 + d) k + 1)) (4 + d) 6 (v.1 (4 + d) 6 ||| (1 : Int32) <<< (nI k &&& 31)))) := mR_dn hD
        have hP9 : va_P D vwCl (mR ct h r tl (sTri v d (dStep b (v.1 3 0) (v.1 3 2) k (dTri v d)))) H := mR_fn (light_2 v b hb1 (i_not_lt c_89)) hP
        have hD9 : va_D A (mR ct h r tl (sTri v d (dStep b (v.1 3 0) (v.1 3 2) k (dTri v d)))) := mR_dn hD
        subst hAe
        exact W.vret hx hb hr (fun tt ht hW => ⟨⟨(), rfl, trivial, muE.of (ct := ct) hP9 hD9 ht⟩, hS.F ht⟩) hS.2.2 dX6_light_108

