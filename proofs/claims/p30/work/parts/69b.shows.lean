set_option maxHeartbeats 4000000 in
set_option maxRecDepth 100000 in
theorem kL_shows (l : Launch) (D : va_G) (ct : Nat → ClassId) (sz : Nat) (o : Nat → Nat) (ad : Nat → Nat → Nat) {A : AS} {W0 : va_W} {b : Nat} (hX0 : CX ct o ad A W0) (ok : LOk b A) (g h : Int32) (hb14 : b + 14000 < 2 ^ 20) : Met l yL_shows wsL_shows ({ frames := 5, cells := 1, slots := 8, locals := 125 }) (muPS D ct W0 sz [.ref (o 0), .int g, .int h]) (mxQ D ct W0 sz ((1, A) : Int32 × AS) (fun _ u => ∃ A9, CX ct o ad A9 u ∧ LOk (b + 14000) A9)) 1 8 (va_A W0 sz) := by
  refine Met.ofW (cc := cL_shows) (maxL := 10) (ret := (some .boolean)) (by decide) rfl ?_
  intro p e s m args below meth c s₁ B hml hv
  obtain ⟨rfl, hZ, hsz, hP, hK, hN, hD0⟩ := hv
  have hx := B.exec
  have hb := B.bytes
  have hr := B.returns
  have hts := atoms_spec (ws := wsL_shows) B.pre
  have hown : s.vm.findClass RL = some m.cls := findClass_of_methodNamed B.named
  have hlocks := B.notSynchronized
  subst hsz
  have hD := hD0.self (sz := s.heap.size)
  obtain ⟨Q, hQ⟩ : ∃ Q : State → Prop, Q = MQ below (mxQ D ct W0 s.heap.size ((1, A) : Int32 × AS) (fun _ u => ∃ A9, CX ct o ad A9 u ∧ LOk (b + 14000) A9)) #[.ref (o 0), .int g, .int h] s 1 8 (va_A W0 s.heap.size) := ⟨_, rfl⟩
  show W p l e _ s m #[.ref (o 0), .int g, .int h] below meth c s.heap [] 0 0 (MQ below (mxQ D ct W0 s.heap.size ((1, A) : Int32 × AS) (fun _ u => ∃ A9, CX ct o ad A9 u ∧ LOk (b + 14000) A9)) #[.ref (o 0), .int g, .int h] s 1 8 (va_A W0 s.heap.size)) _
  rw [← hQ]
  obtain ⟨Z, hZe⟩ : ∃ Z : Nat → Prop, va_A W0 s.heap.size = Z := ⟨_, rfl⟩
  rw [hZe] at hD hZ
  have hA : ∀ q : Nat, s.heap.size ≤ q → Z q := fun q h => by rw [← hZe]; exact Or.inr h
  have C : LF p s m c cL_shows 10 #[.ref (o 0), .int g, .int h] wsL_shows D ct Z := ⟨⟨hx, hb, hml, hown, hts⟩, hK, hN, hZ, hA⟩
  have hI := lq_begin hX0 hP hD
  have hl := lv_entry ([.ref (o 0), .int g, .int h]) (n := 10) (Nat.le_of_ble_eq_true rfl)
  rw [lg_entry_eq]
  generalize (lg_sl ([.ref (o 0), .int g, .int h]) ++ List.replicate (10 - (lg_sl ([.ref (o 0), .int g, .int h])).length) Slot.unset).toArray = ls at hl ⊢
  have hl : lv_has ls 10 [(0, .ref (o 0)), (1, .int g), (2, .int h)] := hl
  refine lv_aload_n hx hb dL_shows_0 rfl (lv_at hl 0 rfl) ?_
  refine lv_iconst (v := 1) hx hb dL_shows_1 (by decide) ?_
  refine lq_call C hI (As := [.int 1]) (rest := []) (fun W1 sz hX => cx_count l D ct sz o ad hX ok.1 ok.2.2 1) (cwV 1 hts gL_shows_X5_count rfl rfl rfl (by decide +kernel) ⟨Nat.le_of_ble_eq_true rfl, Nat.le_of_ble_eq_true rfl⟩) rfl hl.1 rfl (Nat.le_of_ble_eq_true rfl) dL_shows_2 ⟨Nat.le_of_ble_eq_true rfl, Nat.le_of_ble_eq_true rfl⟩ (r := nI (nOf (aV A))) (qc_1 ok.inv) (A1 := A) (rfl) (fun H locs hI => ?_)
  refine lv_istore_n (lv' := [(3, .int (nI (nOf (aV A)))), (0, .ref (o 0)), (1, .int g), (2, .int h)]) hx hb dL_shows_5 rfl hl (by decide) rfl (fun ls hl => ?_)
  refine lv_aload_n hx hb dL_shows_6 rfl (lv_at hl 1 rfl) ?_
  refine lq_call C hI (As := []) (rest := []) (fun W1 sz hX => cx_clearText l D ct sz o ad hX ok.1 ok.2.2 ) (cwV 0 hts gL_shows_X5_clearText rfl rfl rfl (by decide +kernel) ⟨Nat.le_of_ble_eq_true rfl, Nat.le_of_ble_eq_true rfl⟩) rfl hl.1 rfl (Nat.le_of_ble_eq_true rfl) dL_shows_7 ⟨Nat.le_of_ble_eq_true rfl, Nat.le_of_ble_eq_true rfl⟩ (r := nI (aT A)) (rfl) (A1 := aTx A 0 (aF A)) (rfl) (fun H locs hI => ?_)
  have okT0 : LOk b (aTx A 0 (aF A)) := ok_tx ok (by decide)
  refine lv_pop hx hb dL_shows_10 rfl ?_
  refine lv_iconst (v := 0) hx hb dL_shows_11 (by decide) ?_
  refine lv_istore (lv' := [(4, .int 0), (3, .int (nI (nOf (aV A)))), (0, .ref (o 0)), (1, .int g), (2, .int h)]) hx hb dL_shows_12 hl (by decide) rfl (fun ls hl => ?_)
  refine lv_iconst (v := 0) hx hb dL_shows_14 (by decide) ?_
  refine lv_istore (lv' := [(5, .int 0), (4, .int 0), (3, .int (nI (nOf (aV A)))), (0, .ref (o 0)), (1, .int g), (2, .int h)]) hx hb dL_shows_15 hl (by decide) rfl (fun ls hl => ?_)
  refine lv_bipush (v := 8) hx hb dL_shows_17 (by decide) ?_
  refine lq_new C hI (N := 8) rfl (by decide) (List.mem_of_getElem? (i := 1) rfl) (Nat.le_of_ble_eq_true rfl) (Nat.le_of_ble_eq_true rfl) dL_shows_19 (fun q1 H hI => ?_)
  have hI : LH s D ct o ad Z [(q1, .inl (ct 0, 8, .inl (fun _ => 0)))] (aTx A 0 (aF A)) H locs := hI
  have E236 : ∀ (i T : Nat) (t : Int32) (f P : Nat → Int32), (i ≤ nOf (aV A)) → (T ≤ 2 * i) → (shR f (nOf (aV A)) T i t P) → (∀ j, j < i → pChr (P j &&& 127) = dgC g j) → (∀ j, i ≤ j → P j = 0) → ∀ (H : Heap) (locs : List Loc), LH s D ct o ad Z [(q1, .inl (ct 0, 8, .inl P))] (aTx A T f) H locs → ∀ (ls : Array Slot), lv_has ls 10 [(4, .int (nI i)), (5, .int (nI T)), (6, .ref q1), (3, .int (nI (nOf (aV A)))), (0, .ref (o 0)), (1, .int g), (2, .int h)] → W p l e (headSpec wsL_shows ({ frames := 5, cells := 1, slots := 8, locals := 125 })).room s m #[.ref (o 0), .int g, .int h] below meth c H locs 1 8 Q (F0 m 236 ls []) := by
    intro i T t f P hi hT hsh hdig hz H locs hI ls hl
    have h8 := ok.inv.n8
    have okT : LOk b (aTx A T f) := ok_tx ok (by omega)
    obtain ⟨A3, eA3, hr3, hv3, hx3, ok3⟩ : ∃ A3 : AS, (f_show (aTx A T f)).2 = A3 ∧ (f_show (aTx A T f)).1 = nI i ∧ aV A3 = pPats (aV A) P (nOf (aV A)) ∧ aTx A3 T f = A3 ∧ LOk (b + 7000) A3 := by
      have h9 := q_sh (shR_end hsh)
      exact ⟨_, rfl, by rw [h9], by rw [h9]; rfl, by rw [h9]; rfl, l_show okT (by omega)⟩
    have hn3 : nOf (aV A3) = nOf (aV A) := by rw [hv3]; exact pPats_n _ _ _
    have hp3 : ∀ d, d < nOf (aV A) → (aV A3).1 (4 + d) 0 = P d := fun d hd => by rw [hv3, pPats_at _ _ _ h8 d (by omega), if_pos hd]
    refine lv_aload_n hx hb dL_shows_236 rfl (lv_at hl 4 rfl) ?_
    refine lq_call C hI (As := []) (rest := []) (fun W1 sz hX => cx_show l D ct sz o ad hX okT.1 okT.2.2 ) (cwV 0 hts gL_shows_X5_show rfl rfl rfl (by decide +kernel) ⟨Nat.le_of_ble_eq_true rfl, Nat.le_of_ble_eq_true rfl⟩) rfl hl.1 rfl (Nat.le_of_ble_eq_true rfl) dL_shows_237 ⟨Nat.le_of_ble_eq_true rfl, Nat.le_of_ble_eq_true rfl⟩ (r := nI i) (hr3) (A1 := A3) (eA3) (fun H locs hI => ?_)
    refine lv_iload hx hb dL_shows_240 (lv_at hl 0 rfl) ?_
    refine bicmp_eq_t (tgt := 247) hx hb dL_shows_242 (by decide) (rfl) ?_
    refine lv_iconst (v := 0) hx hb dL_shows_247 (by decide) ?_
    refine lv_istore (lv' := [(7, .int 0), (4, .int (nI i)), (5, .int (nI T)), (6, .ref q1), (3, .int (nI (nOf (aV A)))), (0, .ref (o 0)), (1, .int g), (2, .int h)]) hx hb dL_shows_248 hl (by decide) rfl (fun ls hl => ?_)
    have loop_250 : ∀ (n_250 : Nat) (d : Nat), (9 ≤ d + n_250) → (d ≤ nOf (aV A)) → ∀ (H : Heap) (locs : List Loc), LH s D ct o ad Z [(q1, .inl (ct 0, 8, .inl P))] A3 H locs → ∀ (ls : Array Slot), lv_has ls 10 [(7, .int (nI d)), (3, .int (nI (nOf (aV A)))), (4, .int (nI i)), (6, .ref q1), (0, .ref (o 0)), (1, .int g), (5, .int (nI T))] → W p l e (headSpec wsL_shows ({ frames := 5, cells := 1, slots := 8, locals := 125 })).room s m #[.ref (o 0), .int g, .int h] below meth c H locs 1 8 Q (F0 m 250 ls []) := by
      intro n_250
      induction n_250 with
      | zero =>
        intro d hn hd8
        exact absurd hn (by omega)
      | succ n_250 ih_250 =>
        intro d hn hd8 H locs hI ls hl
        refine lv_iload hx hb dL_shows_250 (lv_at hl 0 rfl) ?_
        refine lv_iload_n hx hb dL_shows_252 rfl (lv_at hl 1 rfl) ?_
        refine lv_icmp_ge (tgt := 329) hx hb dL_shows_253 (by decide) (fun c_253 => ?_) (fun c_253 => ?_)
        · have loop_329 : ∀ (n_329 : Nat) (i T : Nat) (t : Int32) (f P9 : Nat → Int32), (9 ≤ i + n_329) → (i ≤ nOf (aV A)) → (T ≤ 2 * i) → (shR f (nOf (aV A)) T i t P9) → ∀ (H : Heap) (locs : List Loc), LH s D ct o ad Z [(q1, .inl (ct 0, 8, .inl P))] (aTx A3 T f) H locs → ∀ (ls : Array Slot), lv_has ls 10 [(4, .int (nI i)), (3, .int (nI (nOf (aV A)))), (5, .int (nI T)), (0, .ref (o 0))] → W p l e (headSpec wsL_shows ({ frames := 5, cells := 1, slots := 8, locals := 125 })).room s m #[.ref (o 0), .int g, .int h] below meth c H locs 1 8 Q (F0 m 329 ls []) := by
            intro n_329
            induction n_329 with
            | zero =>
              intro i T t f P9 hn hi hT hsh
              exact absurd hn (by omega)
            | succ n_329 ih_329 =>
              intro i T t f P9 hn hi hT hsh H locs hI ls hl
              have okT3 : LOk (b + 7000) (aTx A3 T f) := ok_tx ok3 (by omega)
              refine lv_iload hx hb dL_shows_329 (lv_at hl 0 rfl) ?_
              refine lv_iload_n hx hb dL_shows_331 rfl (lv_at hl 1 rfl) ?_
              refine lv_icmp_ge (tgt := 349) hx hb dL_shows_332 (by decide) (fun c_332 => ?_) (fun c_332 => ?_)
              · have hge : nOf (aV A) ≤ i := nI_le' (by omega) (by omega) c_332
                have okE : LOk (b + 7000) (aTx A3 T f) := okT3
                refine lv_aload_n hx hb dL_shows_349 rfl (lv_at hl 3 rfl) ?_
                refine lv_bipush (v := 69) hx hb dL_shows_350 (by decide) ?_
                refine lq_call C hI (As := [.int 69]) (rest := []) (fun W1 sz hX => cx_type l D ct sz o ad hX okT3.1 okT3.2.2 69 (nar_c (q := 69) (by decide))) (cwV 1 hts gL_shows_X5_type rfl rfl rfl (by decide +kernel) ⟨Nat.le_of_ble_eq_true rfl, Nat.le_of_ble_eq_true rfl⟩) rfl hl.1 rfl (Nat.le_of_ble_eq_true rfl) dL_shows_352 ⟨Nat.le_of_ble_eq_true rfl, Nat.le_of_ble_eq_true rfl⟩ (r := nI (T + 1)) (congrArg Prod.fst (q_ty (by omega))) (A1 := aTx A3 (T + 1) (upd f T 69)) (congrArg Prod.snd (q_ty (by omega))) (fun H locs hI => ?_)
                have okT5 : LOk (b + 7000) (aTx A3 (T + 1) (upd f T 69)) := ok_tx ok3 (by omega)
                refine lv_istore (lv' := [(5, .int (nI (T + 1))), (4, .int (nI i)), (3, .int (nI (nOf (aV A)))), (0, .ref (o 0))]) hx hb dL_shows_355 hl (by decide) rfl (fun ls hl => ?_)
                have hs5 : f_show (aTx A3 (T + 1) (upd f T 69)) = (-100 - nI T, aTx A3 (T + 1) (upd f T 69)) := q_sh_bad (by rw [hn3]; exact shR_bad hsh (by decide) (Or.inr hge)) (by omega)
                refine lv_aload_n hx hb dL_shows_357 rfl (lv_at hl 3 rfl) ?_
                refine lq_call C hI (As := []) (rest := []) (fun W1 sz hX => cx_show l D ct sz o ad hX okT5.1 okT5.2.2 ) (cwV 0 hts gL_shows_X5_show rfl rfl rfl (by decide +kernel) ⟨Nat.le_of_ble_eq_true rfl, Nat.le_of_ble_eq_true rfl⟩) rfl hl.1 rfl (Nat.le_of_ble_eq_true rfl) dL_shows_358 ⟨Nat.le_of_ble_eq_true rfl, Nat.le_of_ble_eq_true rfl⟩ (r := -100 - nI T) (by rw [hs5]) (A1 := aTx A3 (T + 1) (upd f T 69)) (by rw [hs5]) (fun H locs hI => ?_)
                refine lv_bipush (v := (-99)) hx hb dL_shows_361 (by decide) ?_
                refine lv_iload hx hb dL_shows_363 (lv_at hl 0 rfl) ?_
                refine lv_isub hx hb dL_shows_365 ?_
                refine lv_as (y := -100 - nI T) (by rw [sh_eq, nI_1]) ?_
                refine bicmp_ne_f (tgt := 373) hx hb dL_shows_366 (by decide) (rfl) ?_
                refine lv_iconst (v := 1) hx hb dL_shows_369 (by decide) ?_
                refine lv_goto (tgt := 374) hx hb dL_shows_370 (by decide) ?_
                refine lv_istore (lv' := [(7, .int 1), (5, .int (nI (T + 1))), (4, .int (nI i)), (3, .int (nI (nOf (aV A)))), (0, .ref (o 0))]) hx hb dL_shows_374 hl (by decide) rfl (fun ls hl => ?_)
                refine lv_aload_n hx hb dL_shows_376 rfl (lv_at hl 4 rfl) ?_
                refine lq_call C hI (As := []) (rest := []) (fun W1 sz hX => cx_clearText l D ct sz o ad hX okT5.1 okT5.2.2 ) (cwV 0 hts gL_shows_X5_clearText rfl rfl rfl (by decide +kernel) ⟨Nat.le_of_ble_eq_true rfl, Nat.le_of_ble_eq_true rfl⟩) rfl hl.1 rfl (Nat.le_of_ble_eq_true rfl) dL_shows_377 ⟨Nat.le_of_ble_eq_true rfl, Nat.le_of_ble_eq_true rfl⟩ (r := nI (T + 1)) (rfl) (A1 := aTx A3 0 (upd f T 69)) (rfl) (fun H locs hI => ?_)
                have okT6 : LOk (b + 7000) (aTx A3 0 (upd f T 69)) := ok_tx ok3 (by omega)
                refine lv_pop hx hb dL_shows_380 rfl ?_
                refine lv_aload_n hx hb dL_shows_381 rfl (lv_at hl 4 rfl) ?_
                refine lv_bipush (v := 111) hx hb dL_shows_382 (by decide) ?_
                refine lq_call C hI (As := [.int 111]) (rest := []) (fun W1 sz hX => cx_type l D ct sz o ad hX okT6.1 okT6.2.2 111 (nar_c (q := 111) (by decide))) (cwV 1 hts gL_shows_X5_type rfl rfl rfl (by decide +kernel) ⟨Nat.le_of_ble_eq_true rfl, Nat.le_of_ble_eq_true rfl⟩) rfl hl.1 rfl (Nat.le_of_ble_eq_true rfl) dL_shows_384 ⟨Nat.le_of_ble_eq_true rfl, Nat.le_of_ble_eq_true rfl⟩ (r := nI (0 + 1)) (congrArg Prod.fst (q_ty (by omega))) (A1 := aTx A3 (0 + 1) (upd (upd f T 69) 0 111)) (congrArg Prod.snd (q_ty (by omega))) (fun H locs hI => ?_)
                have okT7 : LOk (b + 7000) (aTx A3 (0 + 1) (upd (upd f T 69) 0 111)) := ok_tx ok3 (by omega)
                refine lv_pop hx hb dL_shows_387 rfl ?_
                refine lv_aload_n hx hb dL_shows_388 rfl (lv_at hl 4 rfl) ?_
                refine lv_bipush (v := 120) hx hb dL_shows_389 (by decide) ?_
                refine lq_call C hI (As := [.int 120]) (rest := []) (fun W1 sz hX => cx_type l D ct sz o ad hX okT7.1 okT7.2.2 120 (nar_c (q := 120) (by decide))) (cwV 1 hts gL_shows_X5_type rfl rfl rfl (by decide +kernel) ⟨Nat.le_of_ble_eq_true rfl, Nat.le_of_ble_eq_true rfl⟩) rfl hl.1 rfl (Nat.le_of_ble_eq_true rfl) dL_shows_391 ⟨Nat.le_of_ble_eq_true rfl, Nat.le_of_ble_eq_true rfl⟩ (r := nI ((0 + 1) + 1)) (congrArg Prod.fst (q_ty (by omega))) (A1 := aTx A3 ((0 + 1) + 1) (upd (upd (upd f T 69) 0 111) (0 + 1) 120)) (congrArg Prod.snd (q_ty (by omega))) (fun H locs hI => ?_)
                have okT8 : LOk (b + 7000) (aTx A3 (0 + 1 + 1) (upd (upd (upd f T 69) 0 111) (0 + 1) 120)) := ok_tx ok3 (by omega)
                refine lv_pop hx hb dL_shows_394 rfl ?_
                refine lv_iload hx hb dL_shows_395 (lv_at hl 0 rfl) ?_
                refine bif_eq_f (tgt := 413) hx hb dL_shows_397 (by decide) (by decide) ?_
                have hs8 : f_show (aTx A3 (0 + 1 + 1) (upd (upd (upd f T 69) 0 111) (0 + 1) 120)) = (-100 - nI (0 + 1), aTx A3 (0 + 1 + 1) (upd (upd (upd f T 69) 0 111) (0 + 1) 120)) := q_sh_bad (by rw [hn3]; exact shR_bad (shR_c shR_0 (by decide) (by decide) (by have := ok.inv.n1; omega)) (by decide) (Or.inl (by decide))) (by omega)
                refine lv_aload_n hx hb dL_shows_400 rfl (lv_at hl 4 rfl) ?_
                refine lq_call C hI (As := []) (rest := []) (fun W1 sz hX => cx_show l D ct sz o ad hX okT8.1 okT8.2.2 ) (cwV 0 hts gL_shows_X5_show rfl rfl rfl (by decide +kernel) ⟨Nat.le_of_ble_eq_true rfl, Nat.le_of_ble_eq_true rfl⟩) rfl hl.1 rfl (Nat.le_of_ble_eq_true rfl) dL_shows_401 ⟨Nat.le_of_ble_eq_true rfl, Nat.le_of_ble_eq_true rfl⟩ (r := -101) (by rw [hs8]; exact (show (-100 : Int32) - nI (0 + 1) = -101 from by decide)) (A1 := aTx A3 (0 + 1 + 1) (upd (upd (upd f T 69) 0 111) (0 + 1) 120)) (by rw [hs8]) (fun H locs hI => ?_)
                refine lv_bipush (v := (-101)) hx hb dL_shows_404 (by decide) ?_
                refine bicmp_ne_f (tgt := 413) hx hb dL_shows_406 (by decide) (rfl) ?_
                refine lv_iconst (v := 1) hx hb dL_shows_409 (by decide) ?_
                refine lv_goto (tgt := 414) hx hb dL_shows_410 (by decide) ?_
                have h9 := lq_end (args := #[.ref (o 0), .int g, .int h]) (v := 1) (F := ((1, A) : Int32 × AS)) (Xp := fun _ u => ∃ A9, CX ct o ad A9 u ∧ LOk (b + 14000) A9) hI hZe (rfl) (fun W1 h9 => ⟨_, h9, (ok_tx ok3 (by decide)).mono (by omega) hb14⟩)
                subst hQ
                exact W.zret (v := 1) hx hb hr (by decide) h9.1 h9.2 dL_shows_414
              · have hd : i < nOf (aV A) := nI_nle' (by omega) (by omega) c_332
                refine lv_aload_n hx hb dL_shows_335 rfl (lv_at hl 3 rfl) ?_
                refine lv_bipush (v := 45) hx hb dL_shows_336 (by decide) ?_
                refine lq_call C hI (As := [.int 45]) (rest := []) (fun W1 sz hX => cx_type l D ct sz o ad hX okT3.1 okT3.2.2 45 (nar_c (q := 45) (by decide))) (cwV 1 hts gL_shows_X5_type rfl rfl rfl (by decide +kernel) ⟨Nat.le_of_ble_eq_true rfl, Nat.le_of_ble_eq_true rfl⟩) rfl hl.1 rfl (Nat.le_of_ble_eq_true rfl) dL_shows_338 ⟨Nat.le_of_ble_eq_true rfl, Nat.le_of_ble_eq_true rfl⟩ (r := nI (T + 1)) (congrArg Prod.fst (q_ty (by omega))) (A1 := aTx A3 (T + 1) (upd f T 45)) (congrArg Prod.snd (q_ty (by omega))) (fun H locs hI => ?_)
                have okT4 : LOk (b + 7000) (aTx A3 (T + 1) (upd f T 45)) := ok_tx ok3 (by omega)
                refine lv_istore (lv' := [(5, .int (nI (T + 1))), (4, .int (nI i)), (3, .int (nI (nOf (aV A)))), (0, .ref (o 0))]) hx hb dL_shows_341 hl (by decide) rfl (fun ls hl => ?_)
                refine lv_iinc (v := nI (i + 1)) (lv' := [(4, .int (nI (i + 1))), (5, .int (nI (T + 1))), (3, .int (nI (nOf (aV A)))), (0, .ref (o 0))]) hx hb dL_shows_343 hl (k := 1) rfl ((nI_succ i).symm) (by decide) rfl (fun ls hl => ?_)
                refine lv_goto (tgt := 329) hx hb dL_shows_346 (by decide) ?_
                exact ih_329 (i + 1) (T + 1) 1 (upd f T 45) (upd P9 i (pPat 45)) (by omega) (by omega) (by omega) (shR_c hsh (by decide) (by decide) hd) _ _ hI ls (lv_sub hl [0, 2, 1, 3] rfl)
          have hI : LH s D ct o ad Z [(q1, .inl (ct 0, 8, .inl P))] (aTx A3 T f) H locs := by rw [hx3]; exact hI
          exact loop_329 (9) i T t f P (by omega) hi hT hsh _ _ hI ls (lv_sub hl [2, 1, 6, 4] rfl)
        · have hd : d < nOf (aV A) := nI_nle' (by omega) (by omega) c_253
          have hd3 : d < nOf (aV A3) := by rw [hn3]; exact hd
          refine lv_aload_n hx hb dL_shows_256 rfl (lv_at hl 4 rfl) ?_
          refine lv_iload hx hb dL_shows_257 (lv_at hl 0 rfl) ?_
          refine lv_iconst (v := 0) hx hb dL_shows_259 (by decide) ?_
          refine lq_call C hI (As := [.int (nI d), .int 0]) (rest := []) (fun W1 sz hX => cx_digit l D ct sz o ad hX ok3.1 ok3.2.2 (nI d) 0) (cwV 2 hts gL_shows_X5_digit rfl rfl rfl (by decide +kernel) ⟨Nat.le_of_ble_eq_true rfl, Nat.le_of_ble_eq_true rfl⟩) rfl hl.1 rfl (Nat.le_of_ble_eq_true rfl) dL_shows_260 ⟨Nat.le_of_ble_eq_true rfl, Nat.le_of_ble_eq_true rfl⟩ (r := P d) ((qd_0 ok3.inv hd3).trans (hp3 d hd)) (A1 := A3) (rfl) (fun H locs hI => ?_)
          refine lv_aload hx hb dL_shows_263 (lv_at hl 3 rfl) ?_
          refine lv_iload hx hb dL_shows_265 (lv_at hl 0 rfl) ?_
          refine lq_ld C hI 0 rfl (j := d) (rfl) (by omega) (by decide) dL_shows_267 ?_
          refine bicmp_ne_f (tgt := 321) hx hb dL_shows_268 (by decide) (rfl) ?_
          refine lv_iload hx hb dL_shows_271 (lv_at hl 0 rfl) ?_
          refine lv_iload hx hb dL_shows_273 (lv_at hl 2 rfl) ?_
          refine lv_icmp_ge (tgt := 301) hx hb dL_shows_275 (by decide) (fun c_275 => ?_) (fun c_275 => ?_)
          · have hge : i ≤ d := nI_le' (by omega) (by omega) c_275
            refine lv_iload hx hb dL_shows_301 (lv_at hl 0 rfl) ?_
            refine lv_iload hx hb dL_shows_303 (lv_at hl 2 rfl) ?_
            refine bicmp_lt_f (tgt := 323) hx hb dL_shows_305 (by decide) (nI_nlt hge (by omega)) ?_
            refine lv_aload_n hx hb dL_shows_308 rfl (lv_at hl 4 rfl) ?_
            refine lv_iload hx hb dL_shows_309 (lv_at hl 0 rfl) ?_
            refine lv_bipush (v := 10) hx hb dL_shows_311 (by decide) ?_
            refine lq_call C hI (As := [.int (nI d), .int 10]) (rest := []) (fun W1 sz hX => cx_digit l D ct sz o ad hX ok3.1 ok3.2.2 (nI d) 10) (cwV 2 hts gL_shows_X5_digit rfl rfl rfl (by decide +kernel) ⟨Nat.le_of_ble_eq_true rfl, Nat.le_of_ble_eq_true rfl⟩) rfl hl.1 rfl (Nat.le_of_ble_eq_true rfl) dL_shows_313 ⟨Nat.le_of_ble_eq_true rfl, Nat.le_of_ble_eq_true rfl⟩ (r := 32) ((qd_10 ok3.inv hd3).trans (by rw [hp3 d hd, hz d hge]; exact chr_0)) (A1 := A3) (rfl) (fun H locs hI => ?_)
            refine lv_bipush (v := 32) hx hb dL_shows_316 (by decide) ?_
            refine bicmp_eq_t (tgt := 323) hx hb dL_shows_318 (by decide) (rfl) ?_
            refine lv_iinc (v := nI (d + 1)) (lv' := [(7, .int (nI (d + 1))), (3, .int (nI (nOf (aV A)))), (4, .int (nI i)), (6, .ref q1), (0, .ref (o 0)), (1, .int g), (5, .int (nI T))]) hx hb dL_shows_323 hl (k := 0) rfl ((nI_succ d).symm) (by decide) rfl (fun ls hl => ?_)
            refine lv_goto (tgt := 250) hx hb dL_shows_326 (by decide) ?_
            exact ih_250 (d + 1) (by omega) (by omega) _ _ hI ls (lv_sub hl [0, 1, 2, 3, 4, 5, 6] rfl)
          · have hlt : d < i := nI_nle' (by omega) (by omega) c_275
            refine lv_aload_n hx hb dL_shows_278 rfl (lv_at hl 4 rfl) ?_
            refine lv_iload hx hb dL_shows_279 (lv_at hl 0 rfl) ?_
            refine lv_bipush (v := 10) hx hb dL_shows_281 (by decide) ?_
            refine lq_call C hI (As := [.int (nI d), .int 10]) (rest := []) (fun W1 sz hX => cx_digit l D ct sz o ad hX ok3.1 ok3.2.2 (nI d) 10) (cwV 2 hts gL_shows_X5_digit rfl rfl rfl (by decide +kernel) ⟨Nat.le_of_ble_eq_true rfl, Nat.le_of_ble_eq_true rfl⟩) rfl hl.1 rfl (Nat.le_of_ble_eq_true rfl) dL_shows_283 ⟨Nat.le_of_ble_eq_true rfl, Nat.le_of_ble_eq_true rfl⟩ (r := pChr (P d &&& 127)) ((qd_10 ok3.inv hd3).trans (by rw [hp3 d hd])) (A1 := A3) (rfl) (fun H locs hI => ?_)
            refine lv_bipush (v := 48) hx hb dL_shows_286 (by decide) ?_
            refine lv_iload_n hx hb dL_shows_288 rfl (lv_at hl 5 rfl) ?_
            refine lv_iload hx hb dL_shows_289 (lv_at hl 0 rfl) ?_
            refine lv_ishr hx hb dL_shows_291 ?_
            refine lv_bipush (v := 10) hx hb dL_shows_292 (by decide) ?_
            refine lq_pure C (As := [.int (g >>> ((nI d) &&& 31)), .int 10]) (rest := [.int 48, .int (pChr (P d &&& 127))]) (r := pLow (g >>> (nI d &&& 31)) 10) (kL_low l D ct (g >>> ((nI d) &&& 31)) 10 (by decide)) (va_cwS 2 hts gL_shows_L_low rfl rfl rfl (by decide +kernel) ⟨Nat.le_of_ble_eq_true rfl, Nat.le_of_ble_eq_true rfl⟩) rfl hl.1 rfl (Nat.le_of_ble_eq_true rfl) dL_shows_294 ⟨Nat.le_of_ble_eq_true rfl, Nat.le_of_ble_eq_true rfl⟩ ?_
            refine lv_iadd hx hb dL_shows_297 ?_
            refine bicmp_ne_f (tgt := 321) hx hb dL_shows_298 (by decide) (hdig d hlt) ?_
            refine lv_iload hx hb dL_shows_301 (lv_at hl 0 rfl) ?_
            refine lv_iload hx hb dL_shows_303 (lv_at hl 2 rfl) ?_
            refine bicmp_lt_t (tgt := 323) hx hb dL_shows_305 (by decide) (nI_lt hlt (by omega)) ?_
            refine lv_iinc (v := nI (d + 1)) (lv' := [(7, .int (nI (d + 1))), (3, .int (nI (nOf (aV A)))), (4, .int (nI i)), (6, .ref q1), (0, .ref (o 0)), (1, .int g), (5, .int (nI T))]) hx hb dL_shows_323 hl (k := 0) rfl ((nI_succ d).symm) (by decide) rfl (fun ls hl => ?_)
            refine lv_goto (tgt := 250) hx hb dL_shows_326 (by decide) ?_
            exact ih_250 (d + 1) (by omega) (by omega) _ _ hI ls (lv_sub hl [0, 1, 2, 3, 4, 5, 6] rfl)
    exact loop_250 (9) 0 (by omega) (Nat.zero_le _) _ _ hI ls (lv_sub hl [0, 4, 1, 3, 5, 6, 2] rfl)
  refine lv_astore (lv' := [(6, .ref q1), (5, .int 0), (4, .int 0), (3, .int (nI (nOf (aV A)))), (0, .ref (o 0)), (1, .int g), (2, .int h)]) hx hb dL_shows_21 hl (by decide) rfl (fun ls hl => ?_)
  have loop_23 : ∀ (n_23 : Nat) (i T : Nat) (t : Int32) (f P : Nat → Int32), (9 ≤ i + n_23) → (i ≤ nOf (aV A)) → (T ≤ 2 * i) → (shR f (nOf (aV A)) T i t P) → (∀ j, j < i → pChr (P j &&& 127) = dgC g j) → (∀ j, i ≤ j → P j = 0) → ∀ (H : Heap) (locs : List Loc), LH s D ct o ad Z [(q1, .inl (ct 0, 8, .inl P))] (aTx A T f) H locs → ∀ (ls : Array Slot), lv_has ls 10 [(4, .int (nI i)), (5, .int (nI T)), (6, .ref q1), (3, .int (nI (nOf (aV A)))), (0, .ref (o 0)), (1, .int g), (2, .int h)] → W p l e (headSpec wsL_shows ({ frames := 5, cells := 1, slots := 8, locals := 125 })).room s m #[.ref (o 0), .int g, .int h] below meth c H locs 1 8 Q (F0 m 23 ls []) := by
    intro n_23
    induction n_23 with
    | zero =>
      intro i T t f P hn hi hT hsh hdig hz
      exact absurd hn (by have := ok.inv.n8; omega)
    | succ n_23 ih_23 =>
      intro i T t f P hn hi hT hsh hdig hz H locs hI ls hl
      have okT : LOk b (aTx A T f) := ok_tx ok (by have := ok.inv.n8; omega)
      refine lv_iload hx hb dL_shows_23 (lv_at hl 0 rfl) ?_
      refine lv_iload_n hx hb dL_shows_25 rfl (lv_at hl 3 rfl) ?_
      refine lv_icmp_ge (tgt := 236) hx hb dL_shows_26 (by decide) (fun c_26 => ?_) (fun c_26 => ?_)
      · exact E236 i T t f P hi hT hsh hdig hz _ _ hI ls (lv_sub hl [0, 1, 2, 3, 4, 5, 6] rfl)
      · have hd : i < nOf (aV A) := nI_nle' (by have := ok.inv.n8; omega) (by have := ok.inv.n8; omega) c_26
        have h8 := ok.inv.n8
        refine lv_iload hx hb dL_shows_29 (lv_at hl 1 rfl) ?_
        refine lv_bipush (v := 20) hx hb dL_shows_31 (by decide) ?_
        refine bicmp_ge_f (tgt := 236) hx hb dL_shows_33 (by decide) (nI_ge (a := T) (b := 20) (by omega) (by decide)) ?_
        obtain ⟨c9, hc, ec⟩ : ∃ c9, c9 < 10 ∧ pLow (g >>> (nI i &&& 31)) 10 = nI c9 := pLow_N _ (by decide) (by decide)
        refine lv_iload_n hx hb dL_shows_36 rfl (lv_at hl 5 rfl) ?_
        refine lv_iload hx hb dL_shows_37 (lv_at hl 0 rfl) ?_
        refine lv_ishr hx hb dL_shows_39 ?_
        refine lv_bipush (v := 10) hx hb dL_shows_40 (by decide) ?_
        refine lq_pure C (As := [.int (g >>> ((nI i) &&& 31)), .int 10]) (rest := []) (r := pLow (g >>> (nI i &&& 31)) 10) (kL_low l D ct (g >>> ((nI i) &&& 31)) 10 (by decide)) (va_cwS 2 hts gL_shows_L_low rfl rfl rfl (by decide +kernel) ⟨Nat.le_of_ble_eq_true rfl, Nat.le_of_ble_eq_true rfl⟩) rfl hl.1 rfl (Nat.le_of_ble_eq_true rfl) dL_shows_42 ⟨Nat.le_of_ble_eq_true rfl, Nat.le_of_ble_eq_true rfl⟩ ?_
        refine lv_as (y := nI c9) (ec) ?_
        refine lv_istore (lv' := [(7, .int (nI c9)), (4, .int (nI i)), (5, .int (nI T)), (6, .ref q1), (3, .int (nI (nOf (aV A)))), (0, .ref (o 0)), (1, .int g), (2, .int h)]) hx hb dL_shows_45 hl (by decide) rfl (fun ls hl => ?_)
        refine lv_aload_n hx hb dL_shows_47 rfl (lv_at hl 5 rfl) ?_
        refine lv_bipush (v := 48) hx hb dL_shows_48 (by decide) ?_
        refine lv_iload hx hb dL_shows_50 (lv_at hl 0 rfl) ?_
        refine lv_iadd hx hb dL_shows_52 ?_
        refine lv_as (y := nI (48 + c9)) (nI_add 48 c9) ?_
        refine lv_i2c (v := nI (48 + c9)) hx hb dL_shows_53 (i2c_nI (by omega)) ?_
        refine lq_call C hI (As := [.int (nI (48 + c9))]) (rest := []) (fun W1 sz hX => cx_type l D ct sz o ad hX okT.1 okT.2.2 (nI (48 + c9)) (nar_c (by omega))) (cwV 1 hts gL_shows_X5_type rfl rfl rfl (by decide +kernel) ⟨Nat.le_of_ble_eq_true rfl, Nat.le_of_ble_eq_true rfl⟩) rfl hl.1 rfl (Nat.le_of_ble_eq_true rfl) dL_shows_54 ⟨Nat.le_of_ble_eq_true rfl, Nat.le_of_ble_eq_true rfl⟩ (r := nI (T + 1)) (congrArg Prod.fst (q_ty (by omega))) (A1 := aTx A (T + 1) (upd f T (nI (48 + c9)))) (congrArg Prod.snd (q_ty (by omega))) (fun H locs hI => ?_)
        have okT1 : LOk b (aTx A (T + 1) (upd f T (nI (48 + c9)))) := ok_tx ok (by omega)
        refine lv_istore (lv' := [(5, .int (nI (T + 1))), (7, .int (nI c9)), (4, .int (nI i)), (6, .ref q1), (3, .int (nI (nOf (aV A)))), (0, .ref (o 0)), (1, .int g), (2, .int h)]) hx hb dL_shows_57 hl (by decide) rfl (fun ls hl => ?_)
        refine lv_iload hx hb dL_shows_59 (lv_at hl 1 rfl) ?_
        have J_61 : ∀ (x9 : Int32) (H : Heap) (locs : List Loc), LH s D ct o ad Z [(q1, .inl (ct 0, 8, .inl P))] (aTx A (T + 1) (upd f T (nI (48 + c9)))) H locs → x9 = pPat (nI (48 + c9)) → W p l e (headSpec wsL_shows ({ frames := 5, cells := 1, slots := 8, locals := 125 })).room s m #[.ref (o 0), .int g, .int h] below meth c H locs 1 8 Q (F0 m 162 ls [.int x9]) := by
          intro x9 H locs hI e9
          subst e9
          refine lv_istore (lv' := [(8, .int (pPat (nI (48 + c9)))), (5, .int (nI (T + 1))), (7, .int (nI c9)), (4, .int (nI i)), (6, .ref q1), (3, .int (nI (nOf (aV A)))), (0, .ref (o 0)), (1, .int g), (2, .int h)]) hx hb dL_shows_162 hl (by decide) rfl (fun ls hl => ?_)
          refine lv_iload_n hx hb dL_shows_164 rfl (lv_at hl 8 rfl) ?_
          refine lv_iload hx hb dL_shows_165 (lv_at hl 3 rfl) ?_
          refine lv_ishr hx hb dL_shows_167 ?_
          refine lv_iconst (v := 1) hx hb dL_shows_168 (by decide) ?_
          refine lv_iand hx hb dL_shows_169 ?_
          refine lv_as (y := bit h i) (rfl) ?_
          refine lv_iconst (v := 1) hx hb dL_shows_170 (by decide) ?_
          have J_171 : ∀ (x9 : Int32) (H : Heap) (locs : List Loc), LH s D ct o ad Z [(q1, .inl (ct 0, 8, .inl P))] (aTx A (T + 1) (upd f T (nI (48 + c9)))) H locs → x9 = (if bit h i = 1 then 1 else 0) → W p l e (headSpec wsL_shows ({ frames := 5, cells := 1, slots := 8, locals := 125 })).room s m #[.ref (o 0), .int g, .int h] below meth c H locs 1 8 Q (F0 m 179 ls [.int x9]) := by
            intro x9 H locs hI e9
            subst e9
            refine lv_istore (lv' := [(9, .int (if bit h i = 1 then 1 else 0)), (8, .int (pPat (nI (48 + c9)))), (5, .int (nI (T + 1))), (7, .int (nI c9)), (4, .int (nI i)), (6, .ref q1), (3, .int (nI (nOf (aV A)))), (0, .ref (o 0)), (1, .int g), (2, .int h)]) hx hb dL_shows_179 hl (by decide) rfl (fun ls hl => ?_)
            refine lv_iload hx hb dL_shows_181 (lv_at hl 0 rfl) ?_
            refine lv_if_eq (tgt := 194) hx hb dL_shows_183 (by decide) (fun c_183 => ?_) (fun c_183 => ?_)
            · refine lv_aload hx hb dL_shows_194 (lv_at hl 5 rfl) ?_
              refine lv_iload hx hb dL_shows_196 (lv_at hl 4 rfl) ?_
              refine lv_iload hx hb dL_shows_198 (lv_at hl 0 rfl) ?_
              refine bif_eq_t (tgt := 212) hx hb dL_shows_200 (by decide) (c_183) ?_
              refine lv_iload hx hb dL_shows_212 (lv_at hl 1 rfl) ?_
              refine lq_st C hI 0 rfl (j := i) (rfl) (by omega) (by decide) dL_shows_214 (fun H locs hI => ?_)
              have hI : LH s D ct o ad Z [(q1, .inl (ct 0, 8, .inl (upd P i (pPat (nI (48 + c9))))))] (aTx A (T + 1) (upd f T (nI (48 + c9)))) H locs := hI
              refine lv_iinc (v := nI (i + 1)) (lv' := [(4, .int (nI (i + 1))), (9, .int (if bit h i = 1 then 1 else 0)), (8, .int (pPat (nI (48 + c9)))), (5, .int (nI (T + 1))), (7, .int (nI c9)), (6, .ref q1), (3, .int (nI (nOf (aV A)))), (0, .ref (o 0)), (1, .int g), (2, .int h)]) hx hb dL_shows_215 hl (k := 4) rfl ((nI_succ i).symm) (by decide) rfl (fun ls hl => ?_)
              refine lv_iload_n hx hb dL_shows_218 rfl (lv_at hl 9 rfl) ?_
              refine lv_bipush (v := 9) hx hb dL_shows_219 (by decide) ?_
              refine lv_iload hx hb dL_shows_221 (lv_at hl 0 rfl) ?_
              refine lv_iadd hx hb dL_shows_223 ?_
              refine lv_ishr hx hb dL_shows_224 ?_
              refine lv_iconst (v := 3) hx hb dL_shows_225 (by decide) ?_
              refine lv_iand hx hb dL_shows_226 ?_
              refine lv_if_ne (tgt := 233) hx hb dL_shows_227 (by decide) (fun c_227 => ?_) (fun c_227 => ?_)
              · refine lv_goto (tgt := 23) hx hb dL_shows_233 (by decide) ?_
                exact ih_23 (i + 1) (T + 1) 1 (upd f T (nI (48 + c9))) (upd P i (pPat (nI (48 + c9)))) (by omega) (by omega) (by omega) (shR_c hsh (pat_46 c9 hc) (pat_4 c9 hc) hd) (dig_s hdig ((pat_chr c9 hc).1.trans (dgC_of ec).symm)) (dz_s hz) _ _ hI ls (lv_sub hl [0, 3, 5, 6, 7, 8, 9] rfl)
              · refine lv_goto (tgt := 236) hx hb dL_shows_230 (by decide) ?_
                exact E236 (i + 1) (T + 1) 1 (upd f T (nI (48 + c9))) (upd P i (pPat (nI (48 + c9)))) (by omega) (by omega) (shR_c hsh (pat_46 c9 hc) (pat_4 c9 hc) hd) (dig_s hdig ((pat_chr c9 hc).1.trans (dgC_of ec).symm)) (dz_s hz) _ _ hI ls (lv_sub hl [0, 3, 5, 6, 7, 8, 9] rfl)
            · refine lv_aload_n hx hb dL_shows_186 rfl (lv_at hl 7 rfl) ?_
              refine lv_bipush (v := 46) hx hb dL_shows_187 (by decide) ?_
              refine lq_call C hI (As := [.int 46]) (rest := []) (fun W1 sz hX => cx_type l D ct sz o ad hX okT1.1 okT1.2.2 46 (nar_c (q := 46) (by decide))) (cwV 1 hts gL_shows_X5_type rfl rfl rfl (by decide +kernel) ⟨Nat.le_of_ble_eq_true rfl, Nat.le_of_ble_eq_true rfl⟩) rfl hl.1 rfl (Nat.le_of_ble_eq_true rfl) dL_shows_189 ⟨Nat.le_of_ble_eq_true rfl, Nat.le_of_ble_eq_true rfl⟩ (r := nI ((T + 1) + 1)) (congrArg Prod.fst (q_ty (by omega))) (A1 := aTx A ((T + 1) + 1) (upd (upd f T (nI (48 + c9))) (T + 1) 46)) (congrArg Prod.snd (q_ty (by omega))) (fun H locs hI => ?_)
              have okT2 : LOk b (aTx A (T + 1 + 1) (upd (upd f T (nI (48 + c9))) (T + 1) 46)) := ok_tx ok (by omega)
              refine lv_istore (lv' := [(5, .int (nI ((T + 1) + 1))), (9, .int (if bit h i = 1 then 1 else 0)), (8, .int (pPat (nI (48 + c9)))), (7, .int (nI c9)), (4, .int (nI i)), (6, .ref q1), (3, .int (nI (nOf (aV A)))), (0, .ref (o 0)), (1, .int g), (2, .int h)]) hx hb dL_shows_192 hl (by decide) rfl (fun ls hl => ?_)
              refine lv_aload hx hb dL_shows_194 (lv_at hl 5 rfl) ?_
              refine lv_iload hx hb dL_shows_196 (lv_at hl 4 rfl) ?_
              refine lv_iload hx hb dL_shows_198 (lv_at hl 1 rfl) ?_
              refine bif_eq_f (tgt := 212) hx hb dL_shows_200 (by decide) (c_183) ?_
              refine lv_iload hx hb dL_shows_203 (lv_at hl 2 rfl) ?_
              refine lv_sipush (v := 128) hx hb dL_shows_205 (by decide) ?_
              refine lv_iadd hx hb dL_shows_208 ?_
              refine lv_goto (tgt := 214) hx hb dL_shows_209 (by decide) ?_
              refine lq_st C hI 0 rfl (j := i) (rfl) (by omega) (by decide) dL_shows_214 (fun H locs hI => ?_)
              have hI : LH s D ct o ad Z [(q1, .inl (ct 0, 8, .inl (upd P i ((pPat (nI (48 + c9))) + 128))))] (aTx A ((T + 1) + 1) (upd (upd f T (nI (48 + c9))) (T + 1) 46)) H locs := hI
              refine lv_iinc (v := nI (i + 1)) (lv' := [(4, .int (nI (i + 1))), (5, .int (nI ((T + 1) + 1))), (9, .int (if bit h i = 1 then 1 else 0)), (8, .int (pPat (nI (48 + c9)))), (7, .int (nI c9)), (6, .ref q1), (3, .int (nI (nOf (aV A)))), (0, .ref (o 0)), (1, .int g), (2, .int h)]) hx hb dL_shows_215 hl (k := 4) rfl ((nI_succ i).symm) (by decide) rfl (fun ls hl => ?_)
              refine lv_iload_n hx hb dL_shows_218 rfl (lv_at hl 9 rfl) ?_
              refine lv_bipush (v := 9) hx hb dL_shows_219 (by decide) ?_
              refine lv_iload hx hb dL_shows_221 (lv_at hl 0 rfl) ?_
              refine lv_iadd hx hb dL_shows_223 ?_
              refine lv_ishr hx hb dL_shows_224 ?_
              refine lv_iconst (v := 3) hx hb dL_shows_225 (by decide) ?_
              refine lv_iand hx hb dL_shows_226 ?_
              refine lv_if_ne (tgt := 233) hx hb dL_shows_227 (by decide) (fun c_227 => ?_) (fun c_227 => ?_)
              · refine lv_goto (tgt := 23) hx hb dL_shows_233 (by decide) ?_
                exact ih_23 (i + 1) (T + 1 + 1) 0 (upd (upd f T (nI (48 + c9))) (T + 1) 46) (upd P i (pPat (nI (48 + c9)) + 128)) (by omega) (by omega) (by omega) (shR_cp hsh (pat_46 c9 hc) (pat_4 c9 hc) hd) (dig_s hdig ((pat_chr c9 hc).2.trans (dgC_of ec).symm)) (dz_s hz) _ _ hI ls (lv_sub hl [0, 1, 5, 6, 7, 8, 9] rfl)
              · refine lv_goto (tgt := 236) hx hb dL_shows_230 (by decide) ?_
                exact E236 (i + 1) (T + 1 + 1) 0 (upd (upd f T (nI (48 + c9))) (T + 1) 46) (upd P i (pPat (nI (48 + c9)) + 128)) (by omega) (by omega) (shR_cp hsh (pat_46 c9 hc) (pat_4 c9 hc) hd) (dig_s hdig ((pat_chr c9 hc).2.trans (dgC_of ec).symm)) (dz_s hz) _ _ hI ls (lv_sub hl [0, 1, 5, 6, 7, 8, 9] rfl)
          refine lv_icmp_ne (tgt := 178) hx hb dL_shows_171 (by decide) (fun c_171 => ?_) (fun c_171 => ?_)
          · refine lv_iconst (v := 0) hx hb dL_shows_178 (by decide) ?_
            exact J_171 _ _ _ hI ((if_neg c_171).symm)
          · refine lv_iconst (v := 1) hx hb dL_shows_174 (by decide) ?_
            refine lv_goto (tgt := 179) hx hb dL_shows_175 (by decide) ?_
            exact J_171 _ _ _ hI ((if_pos c_171).symm)
        refine lv_if_ne (tgt := 69) hx hb dL_shows_61 (by decide) (fun c_61 => ?_) (fun c_61 => ?_)
        · refine lv_iload hx hb dL_shows_69 (lv_at hl 1 rfl) ?_
          refine lv_iconst (v := 1) hx hb dL_shows_71 (by decide) ?_
          refine lv_icmp_ne (tgt := 80) hx hb dL_shows_72 (by decide) (fun c_72 => ?_) (fun c_72 => ?_)
          · refine lv_iload hx hb dL_shows_80 (lv_at hl 1 rfl) ?_
            refine lv_iconst (v := 2) hx hb dL_shows_82 (by decide) ?_
            refine lv_icmp_ne (tgt := 91) hx hb dL_shows_83 (by decide) (fun c_83 => ?_) (fun c_83 => ?_)
            · refine lv_iload hx hb dL_shows_91 (lv_at hl 1 rfl) ?_
              refine lv_iconst (v := 3) hx hb dL_shows_93 (by decide) ?_
              refine lv_icmp_ne (tgt := 102) hx hb dL_shows_94 (by decide) (fun c_94 => ?_) (fun c_94 => ?_)
              · refine lv_iload hx hb dL_shows_102 (lv_at hl 1 rfl) ?_
                refine lv_iconst (v := 4) hx hb dL_shows_104 (by decide) ?_
                refine lv_icmp_ne (tgt := 113) hx hb dL_shows_105 (by decide) (fun c_105 => ?_) (fun c_105 => ?_)
                · refine lv_iload hx hb dL_shows_113 (lv_at hl 1 rfl) ?_
                  refine lv_iconst (v := 5) hx hb dL_shows_115 (by decide) ?_
                  refine lv_icmp_ne (tgt := 124) hx hb dL_shows_116 (by decide) (fun c_116 => ?_) (fun c_116 => ?_)
                  · refine lv_iload hx hb dL_shows_124 (lv_at hl 1 rfl) ?_
                    refine lv_bipush (v := 6) hx hb dL_shows_126 (by decide) ?_
                    refine lv_icmp_ne (tgt := 136) hx hb dL_shows_128 (by decide) (fun c_128 => ?_) (fun c_128 => ?_)
                    · refine lv_iload hx hb dL_shows_136 (lv_at hl 1 rfl) ?_
                      refine lv_bipush (v := 7) hx hb dL_shows_138 (by decide) ?_
                      refine lv_icmp_ne (tgt := 148) hx hb dL_shows_140 (by decide) (fun c_140 => ?_) (fun c_140 => ?_)
                      · refine lv_iload hx hb dL_shows_148 (lv_at hl 1 rfl) ?_
                        refine lv_bipush (v := 8) hx hb dL_shows_150 (by decide) ?_
                        refine lv_icmp_ne (tgt := 160) hx hb dL_shows_152 (by decide) (fun c_152 => ?_) (fun c_152 => ?_)
                        · refine lv_bipush (v := 111) hx hb dL_shows_160 (by decide) ?_
                          exact J_61 _ _ _ hI ((show (111 : Int32) = pPat (nI (48 + 9)) from by decide +kernel).trans (dig_pat hc (k := 9) (by decide) (dig_9 hc c_61 c_72 c_83 c_94 c_105 c_116 c_128 c_140 c_152)))
                        · refine lv_bipush (v := 127) hx hb dL_shows_155 (by decide) ?_
                          refine lv_goto (tgt := 162) hx hb dL_shows_157 (by decide) ?_
                          exact J_61 _ _ _ hI ((show (127 : Int32) = pPat (nI (48 + 8)) from by decide +kernel).trans (dig_pat hc (k := 8) (by decide) c_152))
                      · refine lv_bipush (v := 7) hx hb dL_shows_143 (by decide) ?_
                        refine lv_goto (tgt := 162) hx hb dL_shows_145 (by decide) ?_
                        exact J_61 _ _ _ hI ((show (7 : Int32) = pPat (nI (48 + 7)) from by decide +kernel).trans (dig_pat hc (k := 7) (by decide) c_140))
                    · refine lv_bipush (v := 125) hx hb dL_shows_131 (by decide) ?_
                      refine lv_goto (tgt := 162) hx hb dL_shows_133 (by decide) ?_
                      exact J_61 _ _ _ hI ((show (125 : Int32) = pPat (nI (48 + 6)) from by decide +kernel).trans (dig_pat hc (k := 6) (by decide) c_128))
                  · refine lv_bipush (v := 109) hx hb dL_shows_119 (by decide) ?_
                    refine lv_goto (tgt := 162) hx hb dL_shows_121 (by decide) ?_
                    exact J_61 _ _ _ hI ((show (109 : Int32) = pPat (nI (48 + 5)) from by decide +kernel).trans (dig_pat hc (k := 5) (by decide) c_116))
                · refine lv_bipush (v := 102) hx hb dL_shows_108 (by decide) ?_
                  refine lv_goto (tgt := 162) hx hb dL_shows_110 (by decide) ?_
                  exact J_61 _ _ _ hI ((show (102 : Int32) = pPat (nI (48 + 4)) from by decide +kernel).trans (dig_pat hc (k := 4) (by decide) c_105))
              · refine lv_bipush (v := 79) hx hb dL_shows_97 (by decide) ?_
                refine lv_goto (tgt := 162) hx hb dL_shows_99 (by decide) ?_
                exact J_61 _ _ _ hI ((show (79 : Int32) = pPat (nI (48 + 3)) from by decide +kernel).trans (dig_pat hc (k := 3) (by decide) c_94))
            · refine lv_bipush (v := 91) hx hb dL_shows_86 (by decide) ?_
              refine lv_goto (tgt := 162) hx hb dL_shows_88 (by decide) ?_
              exact J_61 _ _ _ hI ((show (91 : Int32) = pPat (nI (48 + 2)) from by decide +kernel).trans (dig_pat hc (k := 2) (by decide) c_83))
          · refine lv_bipush (v := 6) hx hb dL_shows_75 (by decide) ?_
            refine lv_goto (tgt := 162) hx hb dL_shows_77 (by decide) ?_
            exact J_61 _ _ _ hI ((show (6 : Int32) = pPat (nI (48 + 1)) from by decide +kernel).trans (dig_pat hc (k := 1) (by decide) c_72))
        · refine lv_bipush (v := 63) hx hb dL_shows_64 (by decide) ?_
          refine lv_goto (tgt := 162) hx hb dL_shows_66 (by decide) ?_
          exact J_61 _ _ _ hI ((show (63 : Int32) = pPat (nI (48 + 0)) from by decide +kernel).trans (dig_pat hc (k := 0) (by decide) c_61))
  exact loop_23 (9) 0 0 0 (aF A) (fun _ => 0) (by omega) (Nat.zero_le _) (by omega) shR_0 (fun j hj => absurd hj (Nat.not_lt_zero j)) (fun _ _ => rfl) _ _ hI ls (lv_sub hl [2, 1, 0, 3, 4, 5, 6] rfl)


