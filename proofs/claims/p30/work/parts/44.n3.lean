set_option maxHeartbeats 400000 in
set_option maxRecDepth 100000 in
theorem k_X2_init (l : Launch) (D : va_G) (ct : Nat → ClassId) (sz : Nat) (x : Nat) : Met l yX2_init wsX2_init ({ frames := 4, cells := 29, slots := 232, locals := 82 }) (muPS D ct ([(x, .inr (2, [.null, .int 0]))]) sz [.ref x]) (va_Qv (S := Nat → Nat) (fun _ => True) (fun u t => muE D ct ([(x, .inr (2, [.null, .int 0]))]) ([(x, .inr (2, [.ref (u 0), .int 0]))] ++ stW ct u sv0) sz t) (va_A ([(x, .inr (2, [.null, .int 0]))]) sz)) 29 232 (va_A ([(x, .inr (2, [.null, .int 0]))]) sz) := by
  refine Met.ofW (cc := cX2_init) (maxL := 1) (ret := none) (by decide) rfl ?_
  intro p e s m args below meth c s₁ B hml hv
  obtain ⟨rfl, hZ, hsz, hP, hK, hN, hD0⟩ := hv
  have hx := B.exec
  have hb := B.bytes
  have hr := B.returns
  have hts := atoms_spec (ws := wsX2_init) B.pre
  have hown : s.vm.findClass RX2 = some m.cls := findClass_of_methodNamed B.named
  have hlocks := B.notSynchronized
  have hin : meth.name = "<init>" := (name_of_methodNamed B.named B.method).1
  subst hsz
  have hD := hD0.self (sz := s.heap.size)
  generalize hAe : va_A ([(x, .inr (2, [.null, .int 0]))]) s.heap.size = A at hD hZ
  have hA : ∀ q : Nat, s.heap.size ≤ q → A q := fun q h => by rw [← hAe]; exact Or.inr h
  have hS : va_S A s.heap s.heap [] := va_S.rf
  obtain ⟨tch, zch, Tch⟩ := hZ.ch
  obtain ⟨tpt, zpt, Tpt⟩ := hZ.pt
  obtain ⟨tle, zle, Tle⟩ := hZ.le
  obtain ⟨tmo, zmo, Tmo⟩ := hZ.mo
  obtain ⟨tfi, fic, ficC, zfi, fi2, fi3, fi4, fi5, fi6, fi7, fi8, fi9⟩ := hZ.fi
  obtain ⟨hAOX0, hAOX3, hAOX2⟩ := hZ.ao
  have w_1 := hts (.methodLink RX2 1 objectInit) (List.mem_of_getElem? (i := 1) rfl)
  have w_2 := hts (.instanceMethod objectInit) (List.mem_of_getElem? (i := 2) rfl)
  have w_3 := hts (.code objectInit ⟨#[0xb1]⟩ 1 none) (List.mem_of_getElem? (i := 3) rfl)
  have w_4 := hts (.classLink RX2 7 RX3) (List.mem_of_getElem? (i := 4) rfl)
  have w_5 := hts (.instantiable RX3 13) (List.mem_of_getElem? (i := 5) rfl)
  have w_6 := hts (.initialized RX3) (List.mem_of_getElem? (i := 6) rfl)
  have w_7 := hts (.fieldLink RX2 10 "ScannedDigits$Snapshot" "state" "LScannedDigits$State;") (List.mem_of_getElem? (i := 7) rfl)
  have w_8 := hts (.methodLink RX2 9 yX3_init) (List.mem_of_getElem? (i := 8) rfl)
  have w_9 := hts (.instanceMethod yX3_init) (List.mem_of_getElem? (i := 9) rfl)
  have hiX3 : ∀ w ∈ wsX30, w ∈ wsX2_init := fun w h => (goodIn_r wsX30 [48, 49, 50, 51, 52, 53, 54, 55, 56, 57, 58, 59, 60] (by decide +kernel) (by decide +kernel) w h).1
  have hiX2 : ∀ w ∈ wsX20, w ∈ wsX2_init := fun w h => (goodIn_r wsX20 [61, 62] (by decide +kernel) (by decide +kernel) w h).1
  have hl := lv_entry ([.ref x]) (n := 1) (Nat.le_of_ble_eq_true rfl)
  rw [lg_entry_eq]
  generalize (lg_sl ([.ref x]) ++ List.replicate (1 - (lg_sl ([.ref x])).length) Slot.unset).toArray = ls at hl ⊢
  have hl : lv_has ls 1 [(0, .ref x)] := hl
  refine lv_aload_n hx hb dX2_init_0 rfl (lv_at hl 0 rfl) ?_
  refine W.objInit hx hb hown w_1 w_2 w_3 rfl (by rw [hml]; exact hl.1) rfl dX2_init_1 (Nat.le_of_ble_eq_true rfl) (Nat.le_of_ble_eq_true rfl) ?_
  refine W.eq (g2 := F0 m 4 ls []) rfl ?_
  refine lv_aload_n hx hb dX2_init_4 rfl (lv_at hl 0 rfl) ?_
  refine va_new (C := RX3) (T := TX3) (N := 13) (ci := 3) hx hb hts hiX3 tyX3 tyX3_ok hown w_4 w_5 w_6 hK hP hD hS hA rfl (fs := [.null, .int 0, .null, .null, .null, .int 0, .int 0, .int 0, .int 0, .int 0, .float 0, .float 0, .float 0]) (fun j hj => match j, hj with | 0, _ => rfl | 1, _ => rfl | 2, _ => rfl | 3, _ => rfl | 4, _ => rfl | 5, _ => rfl | 6, _ => rfl | 7, _ => rfl | 8, _ => rfl | 9, _ => rfl | 10, _ => rfl | 11, _ => rfl | 12, _ => rfl) (Nat.le_of_ble_eq_true rfl) (Nat.le_of_ble_eq_true rfl) dX2_init_5 (fun q1 H hP hD hS => ?_)
  have hP : va_P D vwCl ([(x, .inr (2, [.null, .int 0])), (q1, .inr (3, [.null, .int 0, .null, .null, .null, .int 0, .int 0, .int 0, .int 0, .int 0, .float 0, .float 0, .float 0]))]) H := hP
  have hD : va_D A ([(x, .inr (2, [.null, .int 0])), (q1, .inr (3, [.null, .int 0, .null, .null, .null, .int 0, .int 0, .int 0, .int 0, .int 0, .float 0, .float 0, .float 0]))]) := hD
  refine lv_dup hx hb dX2_init_8 rfl ?_
  have hFc_2 := w_free (wc := [(q1, .inr (3, [.null, .int 0, .null, .null, .null, .int 0, .int 0, .int 0, .int 0, .int 0, .float 0, .float 0, .float 0]))]) hD (List.perm_append_comm (l₁ := ([(x, .inr (2, [.null, .int 0]))] : va_W)) (l₂ := ([(q1, .inr (3, [.null, .int 0, .null, .null, .null, .int 0, .int 0, .int 0, .int 0, .int 0, .float 0, .float 0, .float 0]))] : va_W))) hS hA
  refine va_callv (va_runI (As := []) (rest := [.ref q1, .ref x]) ⟨hx, hb, hml, hown, hts⟩ (k_X3_init l D ct _ q1) (cwI 0 hts gX2_init_X3_init rfl rfl rfl w_6 w_8 w_9 rfl (by decide +kernel) ⟨Nat.le_of_ble_eq_true rfl, Nat.le_of_ble_eq_true rfl⟩) ⟨muPS.blind, muPS.at hZ hS hFc_2 (pw_cut (List.perm_append_comm (l₁ := ([(x, .inr (2, [.null, .int 0]))] : va_W)) (l₂ := ([(q1, .inr (3, [.null, .int 0, .null, .null, .null, .int 0, .int 0, .int 0, .int 0, .int 0, .float 0, .float 0, .float 0]))] : va_W))) hP) (dw_cut (List.perm_append_comm (l₁ := ([(x, .inr (2, [.null, .int 0]))] : va_W)) (l₂ := ([(q1, .inr (3, [.null, .int 0, .null, .null, .null, .int 0, .int 0, .int 0, .int 0, .int 0, .float 0, .float 0, .float 0]))] : va_W))) hD) hK hN⟩ rfl rfl hl.1 rfl (lv_room (Nat.le_of_ble_eq_true rfl)) dX2_init_9 ⟨Nat.le_of_ble_eq_true rfl, Nat.le_of_ble_eq_true rfl⟩) hS (fun q _ h => hFc_2 q h) hFc_2 (fun u1 tt H1 locs ht hvm hw hB hz1 hk1 hS => ?_)
  obtain ⟨hu, hB⟩ := hB
  obtain ⟨hP, hD⟩ := muE.join (ws' := [(x, .inr (2, [.null, .int 0]))] ++ stW ct u1 sv0) hP hD (List.perm_append_comm (l₁ := ([(x, .inr (2, [.null, .int 0]))] : va_W)) (l₂ := ([(q1, .inr (3, [.null, .int 0, .null, .null, .null, .int 0, .int 0, .int 0, .int 0, .int 0, .float 0, .float 0, .float 0]))] : va_W))) (List.perm_append_comm) hk1 hFc_2 ht hB
  generalize H1 = H at hP hS ⊢
  refine va_putF (D := D) (ci := 2) (v := .ref q1) (ty := (tyX2 0)) (C := RX2) (T := TX2) (N := 2) hx hb hts hiX2 tyX2 tyX2_ok nmX2 hown hK hP hD hS 0 rfl rfl 0 (by decide) w_7 (fun _ h9 => h9) rfl hin rfl (by decide +kernel) rfl rfl (Nat.le_of_ble_eq_true rfl) dX2_init_12 (fun H locs hP hD hS => ?_)
  have hP : va_P D vwCl ([(x, .inr (2, [.ref q1, .int 0]))] ++ stW ct u1 sv0) H := hP
  have hD : va_D A ([(x, .inr (2, [.ref q1, .int 0]))] ++ stW ct u1 sv0) := hD
  have hP9 : va_P D vwCl ([(x, .inr (2, [.ref (u1 0), .int 0]))] ++ stW ct u1 sv0) _ := x2_of hu hP
  have hD9 : va_D A ([(x, .inr (2, [.ref (u1 0), .int 0]))] ++ stW ct u1 sv0) := x2_ofD hu hD
  subst hAe
  exact W.vret hx hb hr (fun tt ht hW => ⟨⟨u1, rfl, trivial, muE.of (ct := ct) hP9 hD9 ht⟩, hS.F ht⟩) hS.2.2 dX2_init_15
