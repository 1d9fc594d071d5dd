set_option maxHeartbeats 4000000 in
set_option maxRecDepth 100000 in
theorem kL_digits (l : Launch) (D : va_G) (ct : Nat → ClassId) (sz : Nat) (o : Nat → Nat) (ad : Nat → Nat → Nat) {A : AS} {W0 : va_W} {b : Nat} (hX0 : CX ct o ad A W0) (ok : LOk b A)  : Met l yL_digits wsL_digits ({ frames := 3, cells := 0, slots := 0, locals := 67 }) (muPS D ct W0 sz [.ref (o 0)]) (mxQ D ct W0 sz ((1, A) : Int32 × AS) (CX ct o ad)) 0 0 (va_A W0 sz) := by
  refine Met.ofW (cc := cL_digits) (maxL := 12) (ret := (some .boolean)) (by decide) rfl ?_
  intro p e s m args below meth c s₁ B hml hv
  obtain ⟨rfl, hZ, hsz, hP, hK, hN, hD0⟩ := hv
  have hx := B.exec
  have hb := B.bytes
  have hr := B.returns
  have hts := atoms_spec (ws := wsL_digits) B.pre
  have hown : s.vm.findClass RL = some m.cls := findClass_of_methodNamed B.named
  have hlocks := B.notSynchronized
  subst hsz
  have hD := hD0.self (sz := s.heap.size)
  obtain ⟨Q, hQ⟩ : ∃ Q : State → Prop, Q = MQ below (mxQ D ct W0 s.heap.size ((1, A) : Int32 × AS) (CX ct o ad)) #[.ref (o 0)] s 0 0 (va_A W0 s.heap.size) := ⟨_, rfl⟩
  show W p l e _ s m #[.ref (o 0)] below meth c s.heap [] 0 0 (MQ below (mxQ D ct W0 s.heap.size ((1, A) : Int32 × AS) (CX ct o ad)) #[.ref (o 0)] s 0 0 (va_A W0 s.heap.size)) _
  rw [← hQ]
  obtain ⟨Z, hZe⟩ : ∃ Z : Nat → Prop, va_A W0 s.heap.size = Z := ⟨_, rfl⟩
  rw [hZe] at hD hZ
  have hA : ∀ q : Nat, s.heap.size ≤ q → Z q := fun q h => by rw [← hZe]; exact Or.inr h
  have C : LF p s m c cL_digits 12 #[.ref (o 0)] wsL_digits D ct Z := ⟨⟨hx, hb, hml, hown, hts⟩, hK, hN, hZ, hA⟩
  have hI := lq_begin hX0 hP hD
  have hl := lv_entry ([.ref (o 0)]) (n := 12) (Nat.le_of_ble_eq_true rfl)
  rw [lg_entry_eq]
  generalize (lg_sl ([.ref (o 0)]) ++ List.replicate (12 - (lg_sl ([.ref (o 0)])).length) Slot.unset).toArray = ls at hl ⊢
  have hl : lv_has ls 12 [(0, .ref (o 0))] := hl
  refine lv_iconst (v := 0) hx hb dL_digits_0 (by decide) ?_
  refine lv_istore_n (lv' := [(1, .int 0), (0, .ref (o 0))]) hx hb dL_digits_1 rfl hl (by decide) rfl (fun ls hl => ?_)
  refine lv_iconst (v := 0) hx hb dL_digits_2 (by decide) ?_
  refine lv_istore_n (lv' := [(2, .int 0), (1, .int 0), (0, .ref (o 0))]) hx hb dL_digits_3 rfl hl (by decide) rfl (fun ls hl => ?_)
  refine lv_iconst (v := 0) hx hb dL_digits_4 (by decide) ?_
  refine lv_istore_n (lv' := [(3, .int 0), (2, .int 0), (1, .int 0), (0, .ref (o 0))]) hx hb dL_digits_5 rfl hl (by decide) rfl (fun ls hl => ?_)
  refine lv_iconst (v := (-1)) hx hb dL_digits_6 (by decide) ?_
  refine lv_istore (lv' := [(4, .int (-1)), (3, .int 0), (2, .int 0), (1, .int 0), (0, .ref (o 0))]) hx hb dL_digits_7 hl (by decide) rfl (fun ls hl => ?_)
  refine lv_iconst (v := 0) hx hb dL_digits_9 (by decide) ?_
  refine lv_istore (lv' := [(5, .int 0), (4, .int (-1)), (3, .int 0), (2, .int 0), (1, .int 0), (0, .ref (o 0))]) hx hb dL_digits_10 hl (by decide) rfl (fun ls hl => ?_)
  have loop_12 : ∀ (n_12 : Nat) (d : Nat), (9 ≤ d + n_12) → (d ≤ nOf (aV A)) → ∀ (H : Heap) (locs : List Loc), LH s D ct o ad Z [] A H locs → ∀ (ls : Array Slot), lv_has ls 12 [(5, .int (nI d)), (1, .int (pBeg (aV A) d)), (2, .int (pBroS (aV A) d)), (3, .int (nI (pDrN (aV A) d))), (4, .int (pNow (aV A) d)), (0, .ref (o 0))] → W p l e (headSpec wsL_digits ({ frames := 3, cells := 0, slots := 0, locals := 67 })).room s m #[.ref (o 0)] below meth c H locs 0 0 Q (F0 m 12 ls []) := by
    intro n_12
    induction n_12 with
    | zero =>
      intro d hn hd8
      exact absurd hn (by have := ok.inv.n8; omega)
    | succ n_12 ih_12 =>
      intro d hn hd8 H locs hI ls hl
      refine lv_iload hx hb dL_digits_12 (lv_at hl 0 rfl) ?_
      refine lv_aload_n hx hb dL_digits_14 rfl (lv_at hl 5 rfl) ?_
      refine lv_iconst (v := 1) hx hb dL_digits_15 (by decide) ?_
      refine lq_call C hI (As := [.int 1]) (rest := [.int (nI d)]) (fun W1 sz hX => cx_count l D ct sz o ad hX ok.1 ok.2.2 1) (cwV 1 hts gL_digits_X5_count rfl rfl rfl (by decide +kernel) ⟨Nat.le_of_ble_eq_true rfl, Nat.le_of_ble_eq_true rfl⟩) rfl hl.1 rfl (Nat.le_of_ble_eq_true rfl) dL_digits_16 ⟨Nat.le_of_ble_eq_true rfl, Nat.le_of_ble_eq_true rfl⟩ (r := nI (nOf (aV A))) (qc_1 ok.inv) (A1 := A) (rfl) (fun H locs hI => ?_)
      refine lv_icmp_ge (tgt := 386) hx hb dL_digits_19 (by decide) (fun c_19 => ?_) (fun c_19 => ?_)
      · obtain rfl : d = nOf (aV A) := Nat.le_antisymm hd8 (nI_le' (by have := ok.inv.n8; omega) (by have := ok.inv.n8; omega) c_19)
        refine lv_aload_n hx hb dL_digits_386 rfl (lv_at hl 5 rfl) ?_
        refine lv_iconst (v := 2) hx hb dL_digits_387 (by decide) ?_
        refine lq_call C hI (As := [.int 2]) (rest := []) (fun W1 sz hX => cx_count l D ct sz o ad hX ok.1 ok.2.2 2) (cwV 1 hts gL_digits_X5_count rfl rfl rfl (by decide +kernel) ⟨Nat.le_of_ble_eq_true rfl, Nat.le_of_ble_eq_true rfl⟩) rfl hl.1 rfl (Nat.le_of_ble_eq_true rfl) dL_digits_388 ⟨Nat.le_of_ble_eq_true rfl, Nat.le_of_ble_eq_true rfl⟩ (r := pLen (aV A)) (qc_2) (A1 := A) (rfl) (fun H locs hI => ?_)
        refine lv_iload_n hx hb dL_digits_391 rfl (lv_at hl 1 rfl) ?_
        refine bicmp_ne_f (tgt := 466) hx hb dL_digits_392 (by decide) (rfl) ?_
        refine lv_aload_n hx hb dL_digits_395 rfl (lv_at hl 5 rfl) ?_
        refine lv_iconst (v := 5) hx hb dL_digits_396 (by decide) ?_
        refine lq_call C hI (As := [.int 5]) (rest := []) (fun W1 sz hX => cx_count l D ct sz o ad hX ok.1 ok.2.2 5) (cwV 1 hts gL_digits_X5_count rfl rfl rfl (by decide +kernel) ⟨Nat.le_of_ble_eq_true rfl, Nat.le_of_ble_eq_true rfl⟩) rfl hl.1 rfl (Nat.le_of_ble_eq_true rfl) dL_digits_397 ⟨Nat.le_of_ble_eq_true rfl, Nat.le_of_ble_eq_true rfl⟩ (r := nI (pSlot (aV A))) (qc_5) (A1 := A) (rfl) (fun H locs hI => ?_)
        refine lv_iload hx hb dL_digits_400 (lv_at hl 4 rfl) ?_
        refine bicmp_ne_f (tgt := 466) hx hb dL_digits_402 (by decide) (now_end ok.inv) ?_
        refine lv_aload_n hx hb dL_digits_405 rfl (lv_at hl 5 rfl) ?_
        refine lv_iconst (v := 4) hx hb dL_digits_406 (by decide) ?_
        refine lq_call C hI (As := [.int 4]) (rest := []) (fun W1 sz hX => cx_count l D ct sz o ad hX ok.1 ok.2.2 4) (cwV 1 hts gL_digits_X5_count rfl rfl rfl (by decide +kernel) ⟨Nat.le_of_ble_eq_true rfl, Nat.le_of_ble_eq_true rfl⟩) rfl hl.1 rfl (Nat.le_of_ble_eq_true rfl) dL_digits_407 ⟨Nat.le_of_ble_eq_true rfl, Nat.le_of_ble_eq_true rfl⟩ (r := (aV A).1 0 3) (qc_4) (A1 := A) (rfl) (fun H locs hI => ?_)
        refine lv_iload_n hx hb dL_digits_410 rfl (lv_at hl 1 rfl) ?_
        refine bicmp_ge_f (tgt := 466) hx hb dL_digits_411 (by decide) (Int32.not_le.mpr ok.inv.tick) ?_
        refine lv_aload_n hx hb dL_digits_414 rfl (lv_at hl 5 rfl) ?_
        refine lv_bipush (v := 8) hx hb dL_digits_415 (by decide) ?_
        refine lq_call C hI (As := [.int 8]) (rest := []) (fun W1 sz hX => cx_count l D ct sz o ad hX ok.1 ok.2.2 8) (cwV 1 hts gL_digits_X5_count rfl rfl rfl (by decide +kernel) ⟨Nat.le_of_ble_eq_true rfl, Nat.le_of_ble_eq_true rfl⟩) rfl hl.1 rfl (Nat.le_of_ble_eq_true rfl) dL_digits_417 ⟨Nat.le_of_ble_eq_true rfl, Nat.le_of_ble_eq_true rfl⟩ (r := pBroS (aV A) (nOf (aV A))) (qc_8) (A1 := A) (rfl) (fun H locs hI => ?_)
        refine lv_iload_n hx hb dL_digits_420 rfl (lv_at hl 2 rfl) ?_
        refine bicmp_ne_f (tgt := 466) hx hb dL_digits_421 (by decide) (rfl) ?_
        refine lv_iload_n hx hb dL_digits_424 rfl (lv_at hl 3 rfl) ?_
        refine lv_aload_n hx hb dL_digits_425 rfl (lv_at hl 5 rfl) ?_
        refine lv_bipush (v := 7) hx hb dL_digits_426 (by decide) ?_
        refine lq_call C hI (As := [.int 7]) (rest := [.int (nI (pDrN (aV A) (nOf (aV A))))]) (fun W1 sz hX => cx_count l D ct sz o ad hX ok.1 ok.2.2 7) (cwV 1 hts gL_digits_X5_count rfl rfl rfl (by decide +kernel) ⟨Nat.le_of_ble_eq_true rfl, Nat.le_of_ble_eq_true rfl⟩) rfl hl.1 rfl (Nat.le_of_ble_eq_true rfl) dL_digits_428 ⟨Nat.le_of_ble_eq_true rfl, Nat.le_of_ble_eq_true rfl⟩ (r := (aV A).1 0 5) (qc_7) (A1 := A) (rfl) (fun H locs hI => ?_)
        refine bicmp_gt_f (tgt := 466) hx hb dL_digits_431 (by decide) (xe_sum ok.xi ok.lt) ?_
        refine lv_aload_n hx hb dL_digits_434 rfl (lv_at hl 5 rfl) ?_
        refine lv_bipush (v := 7) hx hb dL_digits_435 (by decide) ?_
        refine lq_call C hI (As := [.int 7]) (rest := []) (fun W1 sz hX => cx_count l D ct sz o ad hX ok.1 ok.2.2 7) (cwV 1 hts gL_digits_X5_count rfl rfl rfl (by decide +kernel) ⟨Nat.le_of_ble_eq_true rfl, Nat.le_of_ble_eq_true rfl⟩) rfl hl.1 rfl (Nat.le_of_ble_eq_true rfl) dL_digits_437 ⟨Nat.le_of_ble_eq_true rfl, Nat.le_of_ble_eq_true rfl⟩ (r := (aV A).1 0 5) (qc_7) (A1 := A) (rfl) (fun H locs hI => ?_)
        refine lv_aload_n hx hb dL_digits_440 rfl (lv_at hl 5 rfl) ?_
        refine lv_iconst (v := 0) hx hb dL_digits_441 (by decide) ?_
        refine lq_call C hI (As := [.int 0]) (rest := [.int ((aV A).1 0 5)]) (fun W1 sz hX => cx_count l D ct sz o ad hX ok.1 ok.2.2 0) (cwV 1 hts gL_digits_X5_count rfl rfl rfl (by decide +kernel) ⟨Nat.le_of_ble_eq_true rfl, Nat.le_of_ble_eq_true rfl⟩) rfl hl.1 rfl (Nat.le_of_ble_eq_true rfl) dL_digits_442 ⟨Nat.le_of_ble_eq_true rfl, Nat.le_of_ble_eq_true rfl⟩ (r := (aV A).1 0 1) (qc_0) (A1 := A) (rfl) (fun H locs hI => ?_)
        refine bicmp_gt_f (tgt := 466) hx hb dL_digits_445 (by decide) (xe_time ok.xi ok.lt) ?_
        refine lv_aload_n hx hb dL_digits_448 rfl (lv_at hl 5 rfl) ?_
        refine lv_aload_n hx hb dL_digits_449 rfl (lv_at hl 5 rfl) ?_
        refine lv_iconst (v := 1) hx hb dL_digits_450 (by decide) ?_
        refine lq_call C hI (As := [.int 1]) (rest := [.ref (o 0)]) (fun W1 sz hX => cx_count l D ct sz o ad hX ok.1 ok.2.2 1) (cwV 1 hts gL_digits_X5_count rfl rfl rfl (by decide +kernel) ⟨Nat.le_of_ble_eq_true rfl, Nat.le_of_ble_eq_true rfl⟩) rfl hl.1 rfl (Nat.le_of_ble_eq_true rfl) dL_digits_451 ⟨Nat.le_of_ble_eq_true rfl, Nat.le_of_ble_eq_true rfl⟩ (r := nI (nOf (aV A))) (qc_1 ok.inv) (A1 := A) (rfl) (fun H locs hI => ?_)
        refine lv_iconst (v := 0) hx hb dL_digits_454 (by decide) ?_
        refine lq_call C hI (As := [.int (nI (nOf (aV A))), .int 0]) (rest := []) (fun W1 sz hX => cx_digit l D ct sz o ad hX ok.1 ok.2.2 (nI (nOf (aV A))) 0) (cwV 2 hts gL_digits_X5_digit rfl rfl rfl (by decide +kernel) ⟨Nat.le_of_ble_eq_true rfl, Nat.le_of_ble_eq_true rfl⟩) rfl hl.1 rfl (Nat.le_of_ble_eq_true rfl) dL_digits_455 ⟨Nat.le_of_ble_eq_true rfl, Nat.le_of_ble_eq_true rfl⟩ (r := -1) (qd_n ok.inv 0) (A1 := A) (rfl) (fun H locs hI => ?_)
        refine lv_iconst (v := (-1)) hx hb dL_digits_458 (by decide) ?_
        refine bicmp_ne_f (tgt := 466) hx hb dL_digits_459 (by decide) (by decide) ?_
        refine lv_iconst (v := 1) hx hb dL_digits_462 (by decide) ?_
        refine lv_goto (tgt := 467) hx hb dL_digits_463 (by decide) ?_
        have h9 := lq_end (args := #[.ref (o 0)]) (v := 1) (F := ((1, A) : Int32 × AS)) (Xp := CX ct o ad) hI hZe (rfl) (fun W1 h9 => h9)
        subst hQ
        exact W.zret (v := 1) hx hb hr (by decide) h9.1 h9.2 dL_digits_467
      · have hd : d < nOf (aV A) := nI_nle' (by have := ok.inv.n8; omega) (by have := ok.inv.n8; omega) c_19
        refine lv_aload_n hx hb dL_digits_22 rfl (lv_at hl 5 rfl) ?_
        refine lv_iload hx hb dL_digits_23 (lv_at hl 0 rfl) ?_
        refine lv_iconst (v := 1) hx hb dL_digits_25 (by decide) ?_
        refine lq_call C hI (As := [.int (nI d), .int 1]) (rest := []) (fun W1 sz hX => cx_digit l D ct sz o ad hX ok.1 ok.2.2 (nI d) 1) (cwV 2 hts gL_digits_X5_digit rfl rfl rfl (by decide +kernel) ⟨Nat.le_of_ble_eq_true rfl, Nat.le_of_ble_eq_true rfl⟩) rfl hl.1 rfl (Nat.le_of_ble_eq_true rfl) dL_digits_26 ⟨Nat.le_of_ble_eq_true rfl, Nat.le_of_ble_eq_true rfl⟩ (r := (aV A).1 (4 + d) 1) (qd_1 ok.inv hd) (A1 := A) (rfl) (fun H locs hI => ?_)
        refine lv_istore (lv' := [(6, .int ((aV A).1 (4 + d) 1)), (5, .int (nI d)), (1, .int (pBeg (aV A) d)), (2, .int (pBroS (aV A) d)), (3, .int (nI (pDrN (aV A) d))), (4, .int (pNow (aV A) d)), (0, .ref (o 0))]) hx hb dL_digits_29 hl (by decide) rfl (fun ls hl => ?_)
        refine lv_iconst (v := 0) hx hb dL_digits_31 (by decide) ?_
        refine lv_istore (lv' := [(7, .int 0), (6, .int ((aV A).1 (4 + d) 1)), (5, .int (nI d)), (1, .int (pBeg (aV A) d)), (2, .int (pBroS (aV A) d)), (3, .int (nI (pDrN (aV A) d))), (4, .int (pNow (aV A) d)), (0, .ref (o 0))]) hx hb dL_digits_32 hl (by decide) rfl (fun ls hl => ?_)
        refine lv_iconst (v := 0) hx hb dL_digits_34 (by decide) ?_
        refine lv_istore (lv' := [(8, .int 0), (7, .int 0), (6, .int ((aV A).1 (4 + d) 1)), (5, .int (nI d)), (1, .int (pBeg (aV A) d)), (2, .int (pBroS (aV A) d)), (3, .int (nI (pDrN (aV A) d))), (4, .int (pNow (aV A) d)), (0, .ref (o 0))]) hx hb dL_digits_35 hl (by decide) rfl (fun ls hl => ?_)
        refine lv_iconst (v := 0) hx hb dL_digits_37 (by decide) ?_
        refine lv_istore (lv' := [(9, .int 0), (8, .int 0), (7, .int 0), (6, .int ((aV A).1 (4 + d) 1)), (5, .int (nI d)), (1, .int (pBeg (aV A) d)), (2, .int (pBroS (aV A) d)), (3, .int (nI (pDrN (aV A) d))), (4, .int (pNow (aV A) d)), (0, .ref (o 0))]) hx hb dL_digits_38 hl (by decide) rfl (fun ls hl => ?_)
        refine lv_iconst (v := 0) hx hb dL_digits_40 (by decide) ?_
        refine lv_istore (lv' := [(10, .int 0), (9, .int 0), (8, .int 0), (7, .int 0), (6, .int ((aV A).1 (4 + d) 1)), (5, .int (nI d)), (1, .int (pBeg (aV A) d)), (2, .int (pBroS (aV A) d)), (3, .int (nI (pDrN (aV A) d))), (4, .int (pNow (aV A) d)), (0, .ref (o 0))]) hx hb dL_digits_41 hl (by decide) rfl (fun ls hl => ?_)
        have loop_43 : ∀ (n_43 : Nat) (k : Nat), (9 ≤ k + n_43) → (k ≤ 8) → ∀ (H : Heap) (locs : List Loc), LH s D ct o ad Z [] A H locs → ∀ (ls : Array Slot), lv_has ls 12 [(10, .int (nI k)), (9, .int (pSum ((aV A).1 (12 + d)) k)), (8, .int (pOut ((aV A).1 (4 + d) 6) k)), (7, .int (pSeen ((aV A).1 (12 + d)) ((aV A).1 3 1) k)), (6, .int ((aV A).1 (4 + d) 1)), (5, .int (nI d)), (1, .int (pBeg (aV A) d)), (2, .int (pBroS (aV A) d)), (3, .int (nI (pDrN (aV A) d))), (4, .int (pNow (aV A) d)), (0, .ref (o 0))] → W p l e (headSpec wsL_digits ({ frames := 3, cells := 0, slots := 0, locals := 67 })).room s m #[.ref (o 0)] below meth c H locs 0 0 Q (F0 m 43 ls []) := by
          intro n_43
          induction n_43 with
          | zero =>
            intro k hn hk8
            exact absurd hn (by omega)
          | succ n_43 ih_43 =>
            intro k hn hk8 H locs hI ls hl
            refine lv_iload hx hb dL_digits_43 (lv_at hl 0 rfl) ?_
            refine lv_bipush (v := 8) hx hb dL_digits_45 (by decide) ?_
            refine lv_icmp_ge (tgt := 215) hx hb dL_digits_47 (by decide) (fun c_47 => ?_) (fun c_47 => ?_)
            · obtain rfl : k = 8 := Nat.le_antisymm hk8 (nI_le' (b := 8) (by decide) (by omega) c_47)
              refine lv_aload_n hx hb dL_digits_215 rfl (lv_at hl 10 rfl) ?_
              refine lv_iload hx hb dL_digits_216 (lv_at hl 5 rfl) ?_
              refine lv_bipush (v := 6) hx hb dL_digits_218 (by decide) ?_
              refine lq_call C hI (As := [.int (nI d), .int 6]) (rest := []) (fun W1 sz hX => cx_digit l D ct sz o ad hX ok.1 ok.2.2 (nI d) 6) (cwV 2 hts gL_digits_X5_digit rfl rfl rfl (by decide +kernel) ⟨Nat.le_of_ble_eq_true rfl, Nat.le_of_ble_eq_true rfl⟩) rfl hl.1 rfl (Nat.le_of_ble_eq_true rfl) dL_digits_220 ⟨Nat.le_of_ble_eq_true rfl, Nat.le_of_ble_eq_true rfl⟩ (r := pBeg (aV A) d) (qd_6 ok.inv hd) (A1 := A) (rfl) (fun H locs hI => ?_)
              refine lv_iload_n hx hb dL_digits_223 rfl (lv_at hl 6 rfl) ?_
              refine bicmp_ne_f (tgt := 336) hx hb dL_digits_224 (by decide) (rfl) ?_
              refine lv_aload_n hx hb dL_digits_227 rfl (lv_at hl 10 rfl) ?_
              refine lv_iload hx hb dL_digits_228 (lv_at hl 5 rfl) ?_
              refine lv_iconst (v := 5) hx hb dL_digits_230 (by decide) ?_
              refine lq_call C hI (As := [.int (nI d), .int 5]) (rest := []) (fun W1 sz hX => cx_digit l D ct sz o ad hX ok.1 ok.2.2 (nI d) 5) (cwV 2 hts gL_digits_X5_digit rfl rfl rfl (by decide +kernel) ⟨Nat.le_of_ble_eq_true rfl, Nat.le_of_ble_eq_true rfl⟩) rfl hl.1 rfl (Nat.le_of_ble_eq_true rfl) dL_digits_231 ⟨Nat.le_of_ble_eq_true rfl, Nat.le_of_ble_eq_true rfl⟩ (r := pLP (aV A) d) (qd_5 ok.inv hd) (A1 := A) (rfl) (fun H locs hI => ?_)
              refine lv_iload hx hb dL_digits_234 (lv_at hl 4 rfl) ?_
              refine lv_aload_n hx hb dL_digits_236 rfl (lv_at hl 10 rfl) ?_
              refine lv_iload hx hb dL_digits_237 (lv_at hl 5 rfl) ?_
              refine lv_iconst (v := 2) hx hb dL_digits_239 (by decide) ?_
              refine lq_call C hI (As := [.int (nI d), .int 2]) (rest := [.int ((aV A).1 (4 + d) 1), .int (pLP (aV A) d)]) (fun W1 sz hX => cx_digit l D ct sz o ad hX ok.1 ok.2.2 (nI d) 2) (cwV 2 hts gL_digits_X5_digit rfl rfl rfl (by decide +kernel) ⟨Nat.le_of_ble_eq_true rfl, Nat.le_of_ble_eq_true rfl⟩) rfl hl.1 rfl (Nat.le_of_ble_eq_true rfl) dL_digits_240 ⟨Nat.le_of_ble_eq_true rfl, Nat.le_of_ble_eq_true rfl⟩ (r := (aV A).1 (4 + d) 2) (qd_2 ok.inv hd) (A1 := A) (rfl) (fun H locs hI => ?_)
              refine lv_isub hx hb dL_digits_243 ?_
              refine lv_aload_n hx hb dL_digits_244 rfl (lv_at hl 10 rfl) ?_
              refine lv_iload hx hb dL_digits_245 (lv_at hl 5 rfl) ?_
              refine lv_iconst (v := 3) hx hb dL_digits_247 (by decide) ?_
              refine lq_call C hI (As := [.int (nI d), .int 3]) (rest := [.int (((aV A).1 (4 + d) 1) - ((aV A).1 (4 + d) 2)), .int (pLP (aV A) d)]) (fun W1 sz hX => cx_digit l D ct sz o ad hX ok.1 ok.2.2 (nI d) 3) (cwV 2 hts gL_digits_X5_digit rfl rfl rfl (by decide +kernel) ⟨Nat.le_of_ble_eq_true rfl, Nat.le_of_ble_eq_true rfl⟩) rfl hl.1 rfl (Nat.le_of_ble_eq_true rfl) dL_digits_248 ⟨Nat.le_of_ble_eq_true rfl, Nat.le_of_ble_eq_true rfl⟩ (r := (aV A).1 (4 + d) 3) (qd_3 ok.inv hd) (A1 := A) (rfl) (fun H locs hI => ?_)
              refine lv_imul hx hb dL_digits_251 ?_
              refine lv_bipush (v := 15) hx hb dL_digits_252 (by decide) ?_
              refine lv_idiv hx hb dL_digits_254 (by decide) ?_
              refine bicmp_ne_f (tgt := 336) hx hb dL_digits_255 (by decide) (rfl) ?_
              refine lv_aload_n hx hb dL_digits_258 rfl (lv_at hl 10 rfl) ?_
              refine lv_iload hx hb dL_digits_259 (lv_at hl 5 rfl) ?_
              refine lv_bipush (v := 7) hx hb dL_digits_261 (by decide) ?_
              refine lq_call C hI (As := [.int (nI d), .int 7]) (rest := []) (fun W1 sz hX => cx_digit l D ct sz o ad hX ok.1 ok.2.2 (nI d) 7) (cwV 2 hts gL_digits_X5_digit rfl rfl rfl (by decide +kernel) ⟨Nat.le_of_ble_eq_true rfl, Nat.le_of_ble_eq_true rfl⟩) rfl hl.1 rfl (Nat.le_of_ble_eq_true rfl) dL_digits_263 ⟨Nat.le_of_ble_eq_true rfl, Nat.le_of_ble_eq_true rfl⟩ (r := pSeen ((aV A).1 (12 + d)) ((aV A).1 3 1) 8) (qd_7 ok.inv hd) (A1 := A) (rfl) (fun H locs hI => ?_)
              refine lv_iload hx hb dL_digits_266 (lv_at hl 3 rfl) ?_
              refine bicmp_ne_f (tgt := 336) hx hb dL_digits_268 (by decide) (rfl) ?_
              refine lv_aload_n hx hb dL_digits_271 rfl (lv_at hl 10 rfl) ?_
              refine lv_iload hx hb dL_digits_272 (lv_at hl 5 rfl) ?_
              refine lv_bipush (v := 8) hx hb dL_digits_274 (by decide) ?_
              refine lq_call C hI (As := [.int (nI d), .int 8]) (rest := []) (fun W1 sz hX => cx_digit l D ct sz o ad hX ok.1 ok.2.2 (nI d) 8) (cwV 2 hts gL_digits_X5_digit rfl rfl rfl (by decide +kernel) ⟨Nat.le_of_ble_eq_true rfl, Nat.le_of_ble_eq_true rfl⟩) rfl hl.1 rfl (Nat.le_of_ble_eq_true rfl) dL_digits_276 ⟨Nat.le_of_ble_eq_true rfl, Nat.le_of_ble_eq_true rfl⟩ (r := (aV A).1 (4 + d) 6) (qd_8 ok.inv hd) (A1 := A) (rfl) (fun H locs hI => ?_)
              refine lv_iload hx hb dL_digits_279 (lv_at hl 2 rfl) ?_
              refine bicmp_ne_f (tgt := 336) hx hb dL_digits_281 (by decide) ((pOut_rg (ok.inv.dg hd).2.2.2.2.2).symm) ?_
              refine lv_aload_n hx hb dL_digits_284 rfl (lv_at hl 10 rfl) ?_
              refine lv_iload hx hb dL_digits_285 (lv_at hl 5 rfl) ?_
              refine lv_bipush (v := 9) hx hb dL_digits_287 (by decide) ?_
              refine lq_call C hI (As := [.int (nI d), .int 9]) (rest := []) (fun W1 sz hX => cx_digit l D ct sz o ad hX ok.1 ok.2.2 (nI d) 9) (cwV 2 hts gL_digits_X5_digit rfl rfl rfl (by decide +kernel) ⟨Nat.le_of_ble_eq_true rfl, Nat.le_of_ble_eq_true rfl⟩) rfl hl.1 rfl (Nat.le_of_ble_eq_true rfl) dL_digits_289 ⟨Nat.le_of_ble_eq_true rfl, Nat.le_of_ble_eq_true rfl⟩ (r := pSum ((aV A).1 (12 + d)) 8) (qd_9 ok.inv hd) (A1 := A) (rfl) (fun H locs hI => ?_)
              refine lv_iload hx hb dL_digits_292 (lv_at hl 1 rfl) ?_
              refine bicmp_ne_f (tgt := 336) hx hb dL_digits_294 (by decide) (rfl) ?_
              refine lv_aload_n hx hb dL_digits_297 rfl (lv_at hl 10 rfl) ?_
              refine lv_iload hx hb dL_digits_298 (lv_at hl 5 rfl) ?_
              refine lv_bipush (v := 12) hx hb dL_digits_300 (by decide) ?_
              refine lq_call C hI (As := [.int (nI d), .int 12]) (rest := []) (fun W1 sz hX => cx_digit l D ct sz o ad hX ok.1 ok.2.2 (nI d) 12) (cwV 2 hts gL_digits_X5_digit rfl rfl rfl (by decide +kernel) ⟨Nat.le_of_ble_eq_true rfl, Nat.le_of_ble_eq_true rfl⟩) rfl hl.1 rfl (Nat.le_of_ble_eq_true rfl) dL_digits_302 ⟨Nat.le_of_ble_eq_true rfl, Nat.le_of_ble_eq_true rfl⟩ (r := -2) (qd_12 ok.inv hd) (A1 := A) (rfl) (fun H locs hI => ?_)
              refine lv_bipush (v := (-2)) hx hb dL_digits_305 (by decide) ?_
              refine bicmp_ne_f (tgt := 336) hx hb dL_digits_307 (by decide) (by decide) ?_
              refine lv_aload_n hx hb dL_digits_310 rfl (lv_at hl 10 rfl) ?_
              refine lv_iload hx hb dL_digits_311 (lv_at hl 5 rfl) ?_
              refine lv_bipush (v := 8) hx hb dL_digits_313 (by decide) ?_
              refine lv_iconst (v := 0) hx hb dL_digits_315 (by decide) ?_
              refine lq_call C hI (As := [.int (nI d), .int 8, .int 0]) (rest := []) (fun W1 sz hX => cx_segment l D ct sz o ad hX ok.1 ok.2.2 (nI d) 8 0) (cwV 3 hts gL_digits_X5_segment rfl rfl rfl (by decide +kernel) ⟨Nat.le_of_ble_eq_true rfl, Nat.le_of_ble_eq_true rfl⟩) rfl hl.1 rfl (Nat.le_of_ble_eq_true rfl) dL_digits_316 ⟨Nat.le_of_ble_eq_true rfl, Nat.le_of_ble_eq_true rfl⟩ (r := -1) (qs_8 ok.inv hd) (A1 := A) (rfl) (fun H locs hI => ?_)
              refine lv_iconst (v := (-1)) hx hb dL_digits_319 (by decide) ?_
              refine bicmp_ne_f (tgt := 336) hx hb dL_digits_320 (by decide) (by decide) ?_
              refine lv_aload_n hx hb dL_digits_323 rfl (lv_at hl 10 rfl) ?_
              refine lv_iload hx hb dL_digits_324 (lv_at hl 5 rfl) ?_
              refine lv_iconst (v := 0) hx hb dL_digits_326 (by decide) ?_
              refine lv_iconst (v := 4) hx hb dL_digits_327 (by decide) ?_
              refine lq_call C hI (As := [.int (nI d), .int 0, .int 4]) (rest := []) (fun W1 sz hX => cx_segment l D ct sz o ad hX ok.1 ok.2.2 (nI d) 0 4) (cwV 3 hts gL_digits_X5_segment rfl rfl rfl (by decide +kernel) ⟨Nat.le_of_ble_eq_true rfl, Nat.le_of_ble_eq_true rfl⟩) rfl hl.1 rfl (Nat.le_of_ble_eq_true rfl) dL_digits_328 ⟨Nat.le_of_ble_eq_true rfl, Nat.le_of_ble_eq_true rfl⟩ (r := -2) (qs_4 ok.inv hd (j := 0) (by decide)) (A1 := A) (rfl) (fun H locs hI => ?_)
              refine lv_bipush (v := (-2)) hx hb dL_digits_331 (by decide) ?_
              refine bicmp_eq_t (tgt := 338) hx hb dL_digits_333 (by decide) (by decide) ?_
              refine lv_aload_n hx hb dL_digits_338 rfl (lv_at hl 10 rfl) ?_
              refine lv_iconst (v := 4) hx hb dL_digits_339 (by decide) ?_
              refine lq_call C hI (As := [.int 4]) (rest := []) (fun W1 sz hX => cx_count l D ct sz o ad hX ok.1 ok.2.2 4) (cwV 1 hts gL_digits_X5_count rfl rfl rfl (by decide +kernel) ⟨Nat.le_of_ble_eq_true rfl, Nat.le_of_ble_eq_true rfl⟩) rfl hl.1 rfl (Nat.le_of_ble_eq_true rfl) dL_digits_340 ⟨Nat.le_of_ble_eq_true rfl, Nat.le_of_ble_eq_true rfl⟩ (r := (aV A).1 0 3) (qc_4) (A1 := A) (rfl) (fun H locs hI => ?_)
              refine lv_iload_n hx hb dL_digits_343 rfl (lv_at hl 6 rfl) ?_
              have J_344 : ∀ (x9 : Int32) (H : Heap) (locs : List Loc), LH s D ct o ad Z [] A H locs → x9 = pNow (aV A) (d + 1) → W p l e (headSpec wsL_digits ({ frames := 3, cells := 0, slots := 0, locals := 67 })).room s m #[.ref (o 0)] below meth c H locs 0 0 Q (F0 m 354 ls [.int x9]) := by
                intro x9 H locs hI e9
                subst e9
                refine lv_istore (lv' := [(4, .int (pNow (aV A) (d + 1))), (10, .int (nI 8)), (9, .int (pSum ((aV A).1 (12 + d)) 8)), (8, .int (pOut ((aV A).1 (4 + d) 6) 8)), (7, .int (pSeen ((aV A).1 (12 + d)) ((aV A).1 3 1) 8)), (6, .int ((aV A).1 (4 + d) 1)), (5, .int (nI d)), (1, .int (pBeg (aV A) d)), (2, .int (pBroS (aV A) d)), (3, .int (nI (pDrN (aV A) d))), (0, .ref (o 0))]) hx hb dL_digits_354 hl (by decide) rfl (fun ls hl => ?_)
                refine lv_iload_n hx hb dL_digits_356 rfl (lv_at hl 7 rfl) ?_
                refine lv_iload hx hb dL_digits_357 (lv_at hl 5 rfl) ?_
                refine lv_iadd hx hb dL_digits_359 ?_
                refine lv_as (y := pBeg (aV A) (d + 1)) (rfl) ?_
                refine lv_istore_n (lv' := [(1, .int (pBeg (aV A) (d + 1))), (4, .int (pNow (aV A) (d + 1))), (10, .int (nI 8)), (9, .int (pSum ((aV A).1 (12 + d)) 8)), (8, .int (pOut ((aV A).1 (4 + d) 6) 8)), (7, .int (pSeen ((aV A).1 (12 + d)) ((aV A).1 3 1) 8)), (6, .int ((aV A).1 (4 + d) 1)), (5, .int (nI d)), (2, .int (pBroS (aV A) d)), (3, .int (nI (pDrN (aV A) d))), (0, .ref (o 0))]) hx hb dL_digits_360 rfl hl (by decide) rfl (fun ls hl => ?_)
                refine lv_iload_n hx hb dL_digits_361 rfl (lv_at hl 8 rfl) ?_
                refine lv_iload hx hb dL_digits_362 (lv_at hl 4 rfl) ?_
                refine lv_as (y := (aV A).1 (4 + d) 6) (pOut_rg (ok.inv.dg hd).2.2.2.2.2) ?_
                refine lq_pure C (As := [.int ((aV A).1 (4 + d) 6)]) (rest := [.int (pBroS (aV A) d)]) (r := pBro ((aV A).1 (4 + d) 6) 8) (kL_bits l D ct ((aV A).1 (4 + d) 6) (ok.inv.dg hd).2.2.2.2.2) (va_cwS 1 hts gL_digits_L_bits rfl rfl rfl (by decide +kernel) ⟨Nat.le_of_ble_eq_true rfl, Nat.le_of_ble_eq_true rfl⟩) rfl hl.1 rfl (Nat.le_of_ble_eq_true rfl) dL_digits_364 ⟨Nat.le_of_ble_eq_true rfl, Nat.le_of_ble_eq_true rfl⟩ ?_
                refine lv_iadd hx hb dL_digits_367 ?_
                refine lv_as (y := pBroS (aV A) (d + 1)) (rfl) ?_
                refine lv_istore_n (lv' := [(2, .int (pBroS (aV A) (d + 1))), (1, .int (pBeg (aV A) (d + 1))), (4, .int (pNow (aV A) (d + 1))), (10, .int (nI 8)), (9, .int (pSum ((aV A).1 (12 + d)) 8)), (8, .int (pOut ((aV A).1 (4 + d) 6) 8)), (7, .int (pSeen ((aV A).1 (12 + d)) ((aV A).1 3 1) 8)), (6, .int ((aV A).1 (4 + d) 1)), (5, .int (nI d)), (3, .int (nI (pDrN (aV A) d))), (0, .ref (o 0))]) hx hb dL_digits_368 rfl hl (by decide) rfl (fun ls hl => ?_)
                refine lv_iload_n hx hb dL_digits_369 rfl (lv_at hl 9 rfl) ?_
                refine lv_aload_n hx hb dL_digits_370 rfl (lv_at hl 10 rfl) ?_
                refine lv_iload hx hb dL_digits_371 (lv_at hl 8 rfl) ?_
                refine lv_bipush (v := 11) hx hb dL_digits_373 (by decide) ?_
                refine lq_call C hI (As := [.int (nI d), .int 11]) (rest := [.int (nI (pDrN (aV A) d))]) (fun W1 sz hX => cx_digit l D ct sz o ad hX ok.1 ok.2.2 (nI d) 11) (cwV 2 hts gL_digits_X5_digit rfl rfl rfl (by decide +kernel) ⟨Nat.le_of_ble_eq_true rfl, Nat.le_of_ble_eq_true rfl⟩) rfl hl.1 rfl (Nat.le_of_ble_eq_true rfl) dL_digits_375 ⟨Nat.le_of_ble_eq_true rfl, Nat.le_of_ble_eq_true rfl⟩ (r := (aV A).1 (4 + d) 5) (qd_11 ok.inv hd) (A1 := A) (rfl) (fun H locs hI => ?_)
                refine lv_iadd hx hb dL_digits_378 ?_
                refine lv_as (y := nI (pDrN (aV A) (d + 1))) (xd_sum ok.xi hd ok.lt) ?_
                refine lv_istore_n (lv' := [(3, .int (nI (pDrN (aV A) (d + 1)))), (2, .int (pBroS (aV A) (d + 1))), (1, .int (pBeg (aV A) (d + 1))), (4, .int (pNow (aV A) (d + 1))), (10, .int (nI 8)), (9, .int (pSum ((aV A).1 (12 + d)) 8)), (8, .int (pOut ((aV A).1 (4 + d) 6) 8)), (7, .int (pSeen ((aV A).1 (12 + d)) ((aV A).1 3 1) 8)), (6, .int ((aV A).1 (4 + d) 1)), (5, .int (nI d)), (0, .ref (o 0))]) hx hb dL_digits_379 rfl hl (by decide) rfl (fun ls hl => ?_)
                refine lv_iinc (v := nI (d + 1)) (lv' := [(5, .int (nI (d + 1))), (3, .int (nI (pDrN (aV A) (d + 1)))), (2, .int (pBroS (aV A) (d + 1))), (1, .int (pBeg (aV A) (d + 1))), (4, .int (pNow (aV A) (d + 1))), (10, .int (nI 8)), (9, .int (pSum ((aV A).1 (12 + d)) 8)), (8, .int (pOut ((aV A).1 (4 + d) 6) 8)), (7, .int (pSeen ((aV A).1 (12 + d)) ((aV A).1 3 1) 8)), (6, .int ((aV A).1 (4 + d) 1)), (0, .ref (o 0))]) hx hb dL_digits_380 hl (k := 9) rfl ((nI_succ d).symm) (by decide) rfl (fun ls hl => ?_)
                refine lv_goto (tgt := 12) hx hb dL_digits_383 (by decide) ?_
                exact ih_12 (d + 1) (by omega) (by omega) _ _ hI ls (lv_sub hl [0, 3, 2, 1, 4, 10] rfl)
              refine lv_icmp_lt (tgt := 352) hx hb dL_digits_344 (by decide) (fun c_344 => ?_) (fun c_344 => ?_)
              · refine lv_iload hx hb dL_digits_352 (lv_at hl 9 rfl) ?_
                exact J_344 _ _ _ hI (now_lt ok.inv hd c_344)
              · refine lv_iload hx hb dL_digits_347 (lv_at hl 5 rfl) ?_
                refine lv_goto (tgt := 354) hx hb dL_digits_349 (by decide) ?_
                exact J_344 _ _ _ hI (now_ge ok.inv hd c_344)
            · have hk : k < 8 := nI_nle' (b := 8) (by decide) (by omega) c_47
              refine lv_aload_n hx hb dL_digits_50 rfl (lv_at hl 10 rfl) ?_
              refine lv_iload hx hb dL_digits_51 (lv_at hl 5 rfl) ?_
              refine lv_iload hx hb dL_digits_53 (lv_at hl 0 rfl) ?_
              refine lv_iconst (v := 0) hx hb dL_digits_55 (by decide) ?_
              refine lq_call C hI (As := [.int (nI d), .int (nI k), .int 0]) (rest := []) (fun W1 sz hX => cx_segment l D ct sz o ad hX ok.1 ok.2.2 (nI d) (nI k) 0) (cwV 3 hts gL_digits_X5_segment rfl rfl rfl (by decide +kernel) ⟨Nat.le_of_ble_eq_true rfl, Nat.le_of_ble_eq_true rfl⟩) rfl hl.1 rfl (Nat.le_of_ble_eq_true rfl) dL_digits_56 ⟨Nat.le_of_ble_eq_true rfl, Nat.le_of_ble_eq_true rfl⟩ (r := (aV A).1 (12 + d) k) (qs_0 ok.inv hd hk) (A1 := A) (rfl) (fun H locs hI => ?_)
              refine lv_istore (lv' := [(11, .int ((aV A).1 (12 + d) k)), (10, .int (nI k)), (9, .int (pSum ((aV A).1 (12 + d)) k)), (8, .int (pOut ((aV A).1 (4 + d) 6) k)), (7, .int (pSeen ((aV A).1 (12 + d)) ((aV A).1 3 1) k)), (6, .int ((aV A).1 (4 + d) 1)), (5, .int (nI d)), (1, .int (pBeg (aV A) d)), (2, .int (pBroS (aV A) d)), (3, .int (nI (pDrN (aV A) d))), (4, .int (pNow (aV A) d)), (0, .ref (o 0))]) hx hb dL_digits_59 hl (by decide) rfl (fun ls hl => ?_)
              refine lv_iload hx hb dL_digits_61 (lv_at hl 2 rfl) ?_
              refine lv_iload hx hb dL_digits_63 (lv_at hl 0 rfl) ?_
              refine lv_iadd hx hb dL_digits_65 ?_
              refine lv_as (y := pSum ((aV A).1 (12 + d)) (k + 1)) (rfl) ?_
              refine lv_istore (lv' := [(9, .int (pSum ((aV A).1 (12 + d)) (k + 1))), (11, .int ((aV A).1 (12 + d) k)), (10, .int (nI k)), (8, .int (pOut ((aV A).1 (4 + d) 6) k)), (7, .int (pSeen ((aV A).1 (12 + d)) ((aV A).1 3 1) k)), (6, .int ((aV A).1 (4 + d) 1)), (5, .int (nI d)), (1, .int (pBeg (aV A) d)), (2, .int (pBroS (aV A) d)), (3, .int (nI (pDrN (aV A) d))), (4, .int (pNow (aV A) d)), (0, .ref (o 0))]) hx hb dL_digits_66 hl (by decide) rfl (fun ls hl => ?_)
              refine lv_iload hx hb dL_digits_68 (lv_at hl 4 rfl) ?_
              refine lv_iload hx hb dL_digits_70 (lv_at hl 1 rfl) ?_
              refine lv_aload_n hx hb dL_digits_72 rfl (lv_at hl 11 rfl) ?_
              refine lv_bipush (v := 10) hx hb dL_digits_73 (by decide) ?_
              refine lq_call C hI (As := [.int 10]) (rest := [.int ((aV A).1 (12 + d) k), .int (pSeen ((aV A).1 (12 + d)) ((aV A).1 3 1) k)]) (fun W1 sz hX => cx_count l D ct sz o ad hX ok.1 ok.2.2 10) (cwV 1 hts gL_digits_X5_count rfl rfl rfl (by decide +kernel) ⟨Nat.le_of_ble_eq_true rfl, Nat.le_of_ble_eq_true rfl⟩) rfl hl.1 rfl (Nat.le_of_ble_eq_true rfl) dL_digits_75 ⟨Nat.le_of_ble_eq_true rfl, Nat.le_of_ble_eq_true rfl⟩ (r := (aV A).1 3 1) (qc_10) (A1 := A) (rfl) (fun H locs hI => ?_)
              have J_78 : ∀ (x9 : Int32) (H : Heap) (locs : List Loc), LH s D ct o ad Z [] A H locs → x9 = (if (aV A).1 (12 + d) k < (aV A).1 3 1 then 0 else (1 : Int32) <<< (nI k &&& 31)) → W p l e (headSpec wsL_digits ({ frames := 3, cells := 0, slots := 0, locals := 67 })).room s m #[.ref (o 0)] below meth c H locs 0 0 Q (F0 m 89 ls [.int x9, .int (pSeen ((aV A).1 (12 + d)) ((aV A).1 3 1) k)]) := by
                intro x9 H locs hI e9
                subst e9
                refine lv_ior hx hb dL_digits_89 ?_
                refine lv_as (y := pSeen ((aV A).1 (12 + d)) ((aV A).1 3 1) (k + 1)) (rfl) ?_
                refine lv_istore (lv' := [(7, .int (pSeen ((aV A).1 (12 + d)) ((aV A).1 3 1) (k + 1))), (9, .int (pSum ((aV A).1 (12 + d)) (k + 1))), (11, .int ((aV A).1 (12 + d) k)), (10, .int (nI k)), (8, .int (pOut ((aV A).1 (4 + d) 6) k)), (6, .int ((aV A).1 (4 + d) 1)), (5, .int (nI d)), (1, .int (pBeg (aV A) d)), (2, .int (pBroS (aV A) d)), (3, .int (nI (pDrN (aV A) d))), (4, .int (pNow (aV A) d)), (0, .ref (o 0))]) hx hb dL_digits_90 hl (by decide) rfl (fun ls hl => ?_)
                refine lv_iload hx hb dL_digits_92 (lv_at hl 4 rfl) ?_
                refine lv_aload_n hx hb dL_digits_94 rfl (lv_at hl 11 rfl) ?_
                refine lv_iload hx hb dL_digits_95 (lv_at hl 6 rfl) ?_
                refine lv_iload hx hb dL_digits_97 (lv_at hl 3 rfl) ?_
                refine lv_iconst (v := 2) hx hb dL_digits_99 (by decide) ?_
                refine lq_call C hI (As := [.int (nI d), .int (nI k), .int 2]) (rest := [.int (pOut ((aV A).1 (4 + d) 6) k)]) (fun W1 sz hX => cx_segment l D ct sz o ad hX ok.1 ok.2.2 (nI d) (nI k) 2) (cwV 3 hts gL_digits_X5_segment rfl rfl rfl (by decide +kernel) ⟨Nat.le_of_ble_eq_true rfl, Nat.le_of_ble_eq_true rfl⟩) rfl hl.1 rfl (Nat.le_of_ble_eq_true rfl) dL_digits_100 ⟨Nat.le_of_ble_eq_true rfl, Nat.le_of_ble_eq_true rfl⟩ (r := bit ((aV A).1 (4 + d) 6) k) (qs_2 ok.inv hd hk) (A1 := A) (rfl) (fun H locs hI => ?_)
                refine lv_iload hx hb dL_digits_103 (lv_at hl 3 rfl) ?_
                refine lv_ishl hx hb dL_digits_105 ?_
                refine lv_ior hx hb dL_digits_106 ?_
                refine lv_as (y := pOut ((aV A).1 (4 + d) 6) (k + 1)) (rfl) ?_
                refine lv_istore (lv' := [(8, .int (pOut ((aV A).1 (4 + d) 6) (k + 1))), (7, .int (pSeen ((aV A).1 (12 + d)) ((aV A).1 3 1) (k + 1))), (9, .int (pSum ((aV A).1 (12 + d)) (k + 1))), (11, .int ((aV A).1 (12 + d) k)), (10, .int (nI k)), (6, .int ((aV A).1 (4 + d) 1)), (5, .int (nI d)), (1, .int (pBeg (aV A) d)), (2, .int (pBroS (aV A) d)), (3, .int (nI (pDrN (aV A) d))), (4, .int (pNow (aV A) d)), (0, .ref (o 0))]) hx hb dL_digits_107 hl (by decide) rfl (fun ls hl => ?_)
                refine lv_iload hx hb dL_digits_109 (lv_at hl 3 rfl) ?_
                refine bif_lt_f (tgt := 207) hx hb dL_digits_111 (by decide) (((ok.xi.1 d hd).1 k hk).nn (by decide)) ?_
                refine lv_iload hx hb dL_digits_114 (lv_at hl 3 rfl) ?_
                refine lv_sipush (v := 1000) hx hb dL_digits_116 (by decide) ?_
                refine bicmp_gt_f (tgt := 207) hx hb dL_digits_119 (by decide) (rg_le (h := 1000) ((ok.xi.1 d hd).1 k hk) (by decide)) ?_
                refine lv_aload_n hx hb dL_digits_122 rfl (lv_at hl 11 rfl) ?_
                refine lv_iload hx hb dL_digits_123 (lv_at hl 6 rfl) ?_
                refine lv_iload hx hb dL_digits_125 (lv_at hl 4 rfl) ?_
                refine lv_iconst (v := 1) hx hb dL_digits_127 (by decide) ?_
                refine lq_call C hI (As := [.int (nI d), .int (nI k), .int 1]) (rest := []) (fun W1 sz hX => cx_segment l D ct sz o ad hX ok.1 ok.2.2 (nI d) (nI k) 1) (cwV 3 hts gL_digits_X5_segment rfl rfl rfl (by decide +kernel) ⟨Nat.le_of_ble_eq_true rfl, Nat.le_of_ble_eq_true rfl⟩) rfl hl.1 rfl (Nat.le_of_ble_eq_true rfl) dL_digits_128 ⟨Nat.le_of_ble_eq_true rfl, Nat.le_of_ble_eq_true rfl⟩ (r := (aV A).1 (20 + d) k) (qs_1 ok.inv hd hk) (A1 := A) (rfl) (fun H locs hI => ?_)
                refine bif_lt_f (tgt := 207) hx hb dL_digits_131 (by decide) ((xu_nn ok.xi hd hk ok.lt)) ?_
                refine lv_aload_n hx hb dL_digits_134 rfl (lv_at hl 11 rfl) ?_
                refine lv_iload hx hb dL_digits_135 (lv_at hl 6 rfl) ?_
                refine lv_iload hx hb dL_digits_137 (lv_at hl 4 rfl) ?_
                refine lv_iconst (v := 3) hx hb dL_digits_139 (by decide) ?_
                refine lq_call C hI (As := [.int (nI d), .int (nI k), .int 3]) (rest := []) (fun W1 sz hX => cx_segment l D ct sz o ad hX ok.1 ok.2.2 (nI d) (nI k) 3) (cwV 3 hts gL_digits_X5_segment rfl rfl rfl (by decide +kernel) ⟨Nat.le_of_ble_eq_true rfl, Nat.le_of_ble_eq_true rfl⟩) rfl hl.1 rfl (Nat.le_of_ble_eq_true rfl) dL_digits_140 ⟨Nat.le_of_ble_eq_true rfl, Nat.le_of_ble_eq_true rfl⟩ (r := bit (pSeen ((aV A).1 (12 + d)) ((aV A).1 3 1) 8) k) (qs_3 ok.inv hd hk) (A1 := A) (rfl) (fun H locs hI => ?_)
                refine lv_iload hx hb dL_digits_143 (lv_at hl 3 rfl) ?_
                refine lv_aload_n hx hb dL_digits_145 rfl (lv_at hl 11 rfl) ?_
                refine lv_bipush (v := 10) hx hb dL_digits_146 (by decide) ?_
                refine lq_call C hI (As := [.int 10]) (rest := [.int ((aV A).1 (12 + d) k), .int (bit (pSeen ((aV A).1 (12 + d)) ((aV A).1 3 1) 8) k)]) (fun W1 sz hX => cx_count l D ct sz o ad hX ok.1 ok.2.2 10) (cwV 1 hts gL_digits_X5_count rfl rfl rfl (by decide +kernel) ⟨Nat.le_of_ble_eq_true rfl, Nat.le_of_ble_eq_true rfl⟩) rfl hl.1 rfl (Nat.le_of_ble_eq_true rfl) dL_digits_148 ⟨Nat.le_of_ble_eq_true rfl, Nat.le_of_ble_eq_true rfl⟩ (r := (aV A).1 3 1) (qc_10) (A1 := A) (rfl) (fun H locs hI => ?_)
                have J_151 : ∀ (x9 : Int32) (H : Heap) (locs : List Loc), LH s D ct o ad Z [] A H locs → x9 = (if (aV A).1 (12 + d) k < (aV A).1 3 1 then 0 else 1) → W p l e (headSpec wsL_digits ({ frames := 3, cells := 0, slots := 0, locals := 67 })).room s m #[.ref (o 0)] below meth c H locs 0 0 Q (F0 m 159 ls [.int x9, .int (bit (pSeen ((aV A).1 (12 + d)) ((aV A).1 3 1) 8) k)]) := by
                  intro x9 H locs hI e9
                  subst e9
                  refine bicmp_ne_f (tgt := 207) hx hb dL_digits_159 (by decide) (seen_bit _ _ hk) ?_
                  refine lv_aload_n hx hb dL_digits_162 rfl (lv_at hl 11 rfl) ?_
                  refine lv_iload hx hb dL_digits_163 (lv_at hl 6 rfl) ?_
                  refine lv_iload hx hb dL_digits_165 (lv_at hl 4 rfl) ?_
                  refine lv_iconst (v := 2) hx hb dL_digits_167 (by decide) ?_
                  refine lq_call C hI (As := [.int (nI d), .int (nI k), .int 2]) (rest := []) (fun W1 sz hX => cx_segment l D ct sz o ad hX ok.1 ok.2.2 (nI d) (nI k) 2) (cwV 3 hts gL_digits_X5_segment rfl rfl rfl (by decide +kernel) ⟨Nat.le_of_ble_eq_true rfl, Nat.le_of_ble_eq_true rfl⟩) rfl hl.1 rfl (Nat.le_of_ble_eq_true rfl) dL_digits_168 ⟨Nat.le_of_ble_eq_true rfl, Nat.le_of_ble_eq_true rfl⟩ (r := bit ((aV A).1 (4 + d) 6) k) (qs_2 ok.inv hd hk) (A1 := A) (rfl) (fun H locs hI => ?_)
                  refine lv_iconst (v := 1) hx hb dL_digits_171 (by decide) ?_
                  have J_172 : ∀ (H : Heap) (locs : List Loc), LH s D ct o ad Z [] A H locs → W p l e (headSpec wsL_digits ({ frames := 3, cells := 0, slots := 0, locals := 67 })).room s m #[.ref (o 0)] below meth c H locs 0 0 Q (F0 m 187 ls []) := by
                    intro H locs hI
                    refine lv_aload_n hx hb dL_digits_187 rfl (lv_at hl 11 rfl) ?_
                    refine lv_iload hx hb dL_digits_188 (lv_at hl 6 rfl) ?_
                    refine lv_iload hx hb dL_digits_190 (lv_at hl 4 rfl) ?_
                    refine lv_iconst (v := 1) hx hb dL_digits_192 (by decide) ?_
                    refine lq_call C hI (As := [.int (nI d), .int (nI k), .int 1]) (rest := []) (fun W1 sz hX => cx_segment l D ct sz o ad hX ok.1 ok.2.2 (nI d) (nI k) 1) (cwV 3 hts gL_digits_X5_segment rfl rfl rfl (by decide +kernel) ⟨Nat.le_of_ble_eq_true rfl, Nat.le_of_ble_eq_true rfl⟩) rfl hl.1 rfl (Nat.le_of_ble_eq_true rfl) dL_digits_193 ⟨Nat.le_of_ble_eq_true rfl, Nat.le_of_ble_eq_true rfl⟩ (r := (aV A).1 (20 + d) k) (qs_1 ok.inv hd hk) (A1 := A) (rfl) (fun H locs hI => ?_)
                    refine lv_aload_n hx hb dL_digits_196 rfl (lv_at hl 11 rfl) ?_
                    refine lv_iload hx hb dL_digits_197 (lv_at hl 6 rfl) ?_
                    refine lv_bipush (v := 11) hx hb dL_digits_199 (by decide) ?_
                    refine lq_call C hI (As := [.int (nI d), .int 11]) (rest := [.int ((aV A).1 (20 + d) k)]) (fun W1 sz hX => cx_digit l D ct sz o ad hX ok.1 ok.2.2 (nI d) 11) (cwV 2 hts gL_digits_X5_digit rfl rfl rfl (by decide +kernel) ⟨Nat.le_of_ble_eq_true rfl, Nat.le_of_ble_eq_true rfl⟩) rfl hl.1 rfl (Nat.le_of_ble_eq_true rfl) dL_digits_201 ⟨Nat.le_of_ble_eq_true rfl, Nat.le_of_ble_eq_true rfl⟩ (r := (aV A).1 (4 + d) 5) (qd_11 ok.inv hd) (A1 := A) (rfl) (fun H locs hI => ?_)
                    refine bicmp_le_t (tgt := 209) hx hb dL_digits_204 (by decide) (xu_le ok.xi hd hk ok.lt) ?_
                    refine lv_iinc (v := nI (k + 1)) (lv' := [(10, .int (nI (k + 1))), (8, .int (pOut ((aV A).1 (4 + d) 6) (k + 1))), (7, .int (pSeen ((aV A).1 (12 + d)) ((aV A).1 3 1) (k + 1))), (9, .int (pSum ((aV A).1 (12 + d)) (k + 1))), (11, .int ((aV A).1 (12 + d) k)), (6, .int ((aV A).1 (4 + d) 1)), (5, .int (nI d)), (1, .int (pBeg (aV A) d)), (2, .int (pBroS (aV A) d)), (3, .int (nI (pDrN (aV A) d))), (4, .int (pNow (aV A) d)), (0, .ref (o 0))]) hx hb dL_digits_209 hl (k := 4) rfl ((nI_succ k).symm) (by decide) rfl (fun ls hl => ?_)
                    refine lv_goto (tgt := 43) hx hb dL_digits_212 (by decide) ?_
                    exact ih_43 (k + 1) (by omega) (by omega) _ _ hI ls (lv_sub hl [0, 3, 1, 2, 5, 6, 7, 8, 9, 10, 11] rfl)
                  refine lv_icmp_ne (tgt := 187) hx hb dL_digits_172 (by decide) (fun c_172 => ?_) (fun c_172 => ?_)
                  · exact J_172 _ _ hI
                  · refine lv_aload_n hx hb dL_digits_175 rfl (lv_at hl 11 rfl) ?_
                    refine lv_iload hx hb dL_digits_176 (lv_at hl 6 rfl) ?_
                    refine lv_iload hx hb dL_digits_178 (lv_at hl 4 rfl) ?_
                    refine lv_iconst (v := 1) hx hb dL_digits_180 (by decide) ?_
                    refine lq_call C hI (As := [.int (nI d), .int (nI k), .int 1]) (rest := []) (fun W1 sz hX => cx_segment l D ct sz o ad hX ok.1 ok.2.2 (nI d) (nI k) 1) (cwV 3 hts gL_digits_X5_segment rfl rfl rfl (by decide +kernel) ⟨Nat.le_of_ble_eq_true rfl, Nat.le_of_ble_eq_true rfl⟩) rfl hl.1 rfl (Nat.le_of_ble_eq_true rfl) dL_digits_181 ⟨Nat.le_of_ble_eq_true rfl, Nat.le_of_ble_eq_true rfl⟩ (r := (aV A).1 (20 + d) k) (qs_1 ok.inv hd hk) (A1 := A) (rfl) (fun H locs hI => ?_)
                    refine bif_eq_f (tgt := 207) hx hb dL_digits_184 (by decide) (xu_n0 ok.xi hd hk c_172 ok.lt) ?_
                    exact J_172 _ _ hI
                refine lv_icmp_lt (tgt := 158) hx hb dL_digits_151 (by decide) (fun c_151 => ?_) (fun c_151 => ?_)
                · refine lv_iconst (v := 0) hx hb dL_digits_158 (by decide) ?_
                  exact J_151 _ _ _ hI ((if_pos c_151).symm)
                · refine lv_iconst (v := 1) hx hb dL_digits_154 (by decide) ?_
                  refine lv_goto (tgt := 159) hx hb dL_digits_155 (by decide) ?_
                  exact J_151 _ _ _ hI ((if_neg c_151).symm)
              refine lv_icmp_lt (tgt := 88) hx hb dL_digits_78 (by decide) (fun c_78 => ?_) (fun c_78 => ?_)
              · refine lv_iconst (v := 0) hx hb dL_digits_88 (by decide) ?_
                exact J_78 _ _ _ hI ((if_pos c_78).symm)
              · refine lv_iconst (v := 1) hx hb dL_digits_81 (by decide) ?_
                refine lv_iload hx hb dL_digits_82 (lv_at hl 2 rfl) ?_
                refine lv_ishl hx hb dL_digits_84 ?_
                refine lv_goto (tgt := 89) hx hb dL_digits_85 (by decide) ?_
                exact J_78 _ _ _ hI ((if_neg c_78).symm)
        exact loop_43 (9) 0 (by omega) (by omega) _ _ hI ls (lv_sub hl [0, 1, 2, 3, 4, 5, 6, 7, 8, 9, 10] rfl)
  exact loop_12 (9) 0 (by omega) (Nat.zero_le _) _ _ hI ls (lv_sub hl [0, 4, 3, 2, 1, 5] rfl)


