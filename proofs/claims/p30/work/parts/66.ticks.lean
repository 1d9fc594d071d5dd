set_option maxHeartbeats 4000000 in
set_option maxRecDepth 100000 in
theorem kL_ticks (l : Launch) (D : va_G) (ct : Nat → ClassId) (sz : Nat) (o : Nat → Nat) (ad : Nat → Nat → Nat) {A : AS} {W0 : va_W} {b : Nat} (hX0 : CX ct o ad A W0) (ok : LOk b A) (hb7 : b + 7000 < 2 ^ 20) : Met l yL_ticks wsL_ticks ({ frames := 6, cells := 2, slots := 128, locals := 138 }) (muPS D ct W0 sz [.ref (o 0)]) (mxQ D ct W0 sz ((1, A) : Int32 × AS) (fun _ u => ∃ A2, CX ct o ad A2 u ∧ LOk (b + 7000) A2)) 2 128 (va_A W0 sz) := by
  refine Met.ofW (cc := cL_ticks) (maxL := 16) (ret := (some .boolean)) (by decide) rfl ?_
  intro p e s m args below meth c s₁ B hml hv
  obtain ⟨rfl, hZ, hsz, hP, hK, hN, hD0⟩ := hv
  have hx := B.exec
  have hb := B.bytes
  have hr := B.returns
  have hts := atoms_spec (ws := wsL_ticks) B.pre
  have hown : s.vm.findClass RL = some m.cls := findClass_of_methodNamed B.named
  have hlocks := B.notSynchronized
  subst hsz
  have hD := hD0.self (sz := s.heap.size)
  obtain ⟨Q, hQ⟩ : ∃ Q : State → Prop, Q = MQ below (mxQ D ct W0 s.heap.size ((1, A) : Int32 × AS) (fun _ u => ∃ A2, CX ct o ad A2 u ∧ LOk (b + 7000) A2)) #[.ref (o 0)] s 2 128 (va_A W0 s.heap.size) := ⟨_, rfl⟩
  show W p l e _ s m #[.ref (o 0)] below meth c s.heap [] 0 0 (MQ below (mxQ D ct W0 s.heap.size ((1, A) : Int32 × AS) (fun _ u => ∃ A2, CX ct o ad A2 u ∧ LOk (b + 7000) A2)) #[.ref (o 0)] s 2 128 (va_A W0 s.heap.size)) _
  rw [← hQ]
  obtain ⟨Z, hZe⟩ : ∃ Z : Nat → Prop, va_A W0 s.heap.size = Z := ⟨_, rfl⟩
  rw [hZe] at hD hZ
  have hA : ∀ q : Nat, s.heap.size ≤ q → Z q := fun q h => by rw [← hZe]; exact Or.inr h
  have C : LF p s m c cL_ticks 16 #[.ref (o 0)] wsL_ticks D ct Z := ⟨⟨hx, hb, hml, hown, hts⟩, hK, hN, hZ, hA⟩
  have hI := lq_begin hX0 hP hD
  have hl := lv_entry ([.ref (o 0)]) (n := 16) (Nat.le_of_ble_eq_true rfl)
  rw [lg_entry_eq]
  generalize (lg_sl ([.ref (o 0)]) ++ List.replicate (16 - (lg_sl ([.ref (o 0)])).length) Slot.unset).toArray = ls at hl ⊢
  have hl : lv_has ls 16 [(0, .ref (o 0))] := hl
  refine lv_aload_n hx hb dL_ticks_0 rfl (lv_at hl 0 rfl) ?_
  refine lv_iconst (v := 1) hx hb dL_ticks_1 (by decide) ?_
  refine lq_call C hI (As := [.int 1]) (rest := []) (fun W1 sz hX => cx_count l D ct sz o ad hX ok.1 ok.2.2 1) (cwV 1 hts gL_ticks_X5_count rfl rfl rfl (by decide +kernel) ⟨Nat.le_of_ble_eq_true rfl, Nat.le_of_ble_eq_true rfl⟩) rfl hl.1 rfl (Nat.le_of_ble_eq_true rfl) dL_ticks_2 ⟨Nat.le_of_ble_eq_true rfl, Nat.le_of_ble_eq_true rfl⟩ (r := nI (nOf (aV A))) (qc_1 ok.inv) (A1 := A) (rfl) (fun H locs hI => ?_)
  refine lv_istore_n (lv' := [(1, .int (nI (nOf (aV A)))), (0, .ref (o 0))]) hx hb dL_ticks_5 rfl hl (by decide) rfl (fun ls hl => ?_)
  refine lv_bipush (v := 64) hx hb dL_ticks_6 (by decide) ?_
  refine lq_new C hI (N := 64) rfl (by decide) (List.mem_of_getElem? (i := 1) rfl) (Nat.le_of_ble_eq_true rfl) (Nat.le_of_ble_eq_true rfl) dL_ticks_8 (fun q1 H hI => ?_)
  have hI : LH s D ct o ad Z [(q1, .inl (ct 0, 64, .inl (fun _ => 0)))] A H locs := hI
  refine lv_astore_n (lv' := [(2, .ref q1), (1, .int (nI (nOf (aV A)))), (0, .ref (o 0))]) hx hb dL_ticks_10 rfl hl (by decide) rfl (fun ls hl => ?_)
  refine lv_bipush (v := 64) hx hb dL_ticks_11 (by decide) ?_
  refine lq_new C hI (N := 64) rfl (by decide) (List.mem_of_getElem? (i := 1) rfl) (Nat.le_of_ble_eq_true rfl) (Nat.le_of_ble_eq_true rfl) dL_ticks_13 (fun q2 H hI => ?_)
  have hI : LH s D ct o ad Z [(q1, .inl (ct 0, 64, .inl (fun _ => 0))), (q2, .inl (ct 0, 64, .inl (fun _ => 0)))] A H locs := hI
  refine lv_astore_n (lv' := [(3, .ref q2), (2, .ref q1), (1, .int (nI (nOf (aV A)))), (0, .ref (o 0))]) hx hb dL_ticks_15 rfl hl (by decide) rfl (fun ls hl => ?_)
  refine lv_iconst (v := 0) hx hb dL_ticks_16 (by decide) ?_
  refine lv_istore (lv' := [(4, .int 0), (3, .ref q2), (2, .ref q1), (1, .int (nI (nOf (aV A)))), (0, .ref (o 0))]) hx hb dL_ticks_17 hl (by decide) rfl (fun ls hl => ?_)
  refine lv_iconst (v := 0) hx hb dL_ticks_19 (by decide) ?_
  refine lv_istore (lv' := [(5, .int 0), (4, .int 0), (3, .ref q2), (2, .ref q1), (1, .int (nI (nOf (aV A)))), (0, .ref (o 0))]) hx hb dL_ticks_20 hl (by decide) rfl (fun ls hl => ?_)
  have loop_22 : ∀ (n_22 : Nat) (d : Nat) (fg fu : Nat → Int32), (9 ≤ d + n_22) → (d ≤ nOf (aV A)) → (tOk (aV A) fg tG d 0) → (tOk (aV A) fu tU d 0) → ∀ (H : Heap) (locs : List Loc), LH s D ct o ad Z [(q1, .inl (ct 0, 64, .inl fg)), (q2, .inl (ct 0, 64, .inl fu))] A H locs → ∀ (ls : Array Slot), lv_has ls 16 [(5, .int (nI d)), (4, .int (pAllT (aV A) d)), (1, .int (nI (nOf (aV A)))), (2, .ref q1), (3, .ref q2), (0, .ref (o 0))] → W p l e (headSpec wsL_ticks ({ frames := 6, cells := 2, slots := 128, locals := 138 })).room s m #[.ref (o 0)] below meth c H locs 2 128 Q (F0 m 22 ls []) := by
    intro n_22
    induction n_22 with
    | zero =>
      intro d fg fu hn hd8 hg hu
      exact absurd hn (by have := ok.inv.n8; omega)
    | succ n_22 ih_22 =>
      intro d fg fu hn hd8 hg hu H locs hI ls hl
      refine lv_iload hx hb dL_ticks_22 (lv_at hl 0 rfl) ?_
      refine lv_iload_n hx hb dL_ticks_24 rfl (lv_at hl 2 rfl) ?_
      refine lv_icmp_ge (tgt := 227) hx hb dL_ticks_25 (by decide) (fun c_25 => ?_) (fun c_25 => ?_)
      · obtain rfl : d = nOf (aV A) := Nat.le_antisymm hd8 (nI_le' (by have := ok.inv.n8; omega) (by have := ok.inv.n8; omega) c_25)
        refine lv_aload_n hx hb dL_ticks_227 rfl (lv_at hl 5 rfl) ?_
        refine lv_iconst (v := 0) hx hb dL_ticks_228 (by decide) ?_
        refine lq_call C hI (As := [.int 0]) (rest := []) (fun W1 sz hX => cx_count l D ct sz o ad hX ok.1 ok.2.2 0) (cwV 1 hts gL_ticks_X5_count rfl rfl rfl (by decide +kernel) ⟨Nat.le_of_ble_eq_true rfl, Nat.le_of_ble_eq_true rfl⟩) rfl hl.1 rfl (Nat.le_of_ble_eq_true rfl) dL_ticks_229 ⟨Nat.le_of_ble_eq_true rfl, Nat.le_of_ble_eq_true rfl⟩ (r := (aV A).1 0 1) (qc_0) (A1 := A) (rfl) (fun H locs hI => ?_)
        refine lv_istore (lv' := [(5, .int ((aV A).1 0 1)), (4, .int (pAllT (aV A) (nOf (aV A)))), (1, .int (nI (nOf (aV A)))), (2, .ref q1), (3, .ref q2), (0, .ref (o 0))]) hx hb dL_ticks_232 hl (by decide) rfl (fun ls hl => ?_)
        refine lv_aload_n hx hb dL_ticks_234 rfl (lv_at hl 5 rfl) ?_
        refine lv_iconst (v := 3) hx hb dL_ticks_235 (by decide) ?_
        refine lq_call C hI (As := [.int 3]) (rest := []) (fun W1 sz hX => cx_count l D ct sz o ad hX ok.1 ok.2.2 3) (cwV 1 hts gL_ticks_X5_count rfl rfl rfl (by decide +kernel) ⟨Nat.le_of_ble_eq_true rfl, Nat.le_of_ble_eq_true rfl⟩) rfl hl.1 rfl (Nat.le_of_ble_eq_true rfl) dL_ticks_236 ⟨Nat.le_of_ble_eq_true rfl, Nat.le_of_ble_eq_true rfl⟩ (r := (aV A).1 0 2) (qc_3) (A1 := A) (rfl) (fun H locs hI => ?_)
        refine lv_istore (lv' := [(6, .int ((aV A).1 0 2)), (5, .int ((aV A).1 0 1)), (4, .int (pAllT (aV A) (nOf (aV A)))), (1, .int (nI (nOf (aV A)))), (2, .ref q1), (3, .ref q2), (0, .ref (o 0))]) hx hb dL_ticks_239 hl (by decide) rfl (fun ls hl => ?_)
        refine lv_aload_n hx hb dL_ticks_241 rfl (lv_at hl 6 rfl) ?_
        refine lv_iconst (v := 4) hx hb dL_ticks_242 (by decide) ?_
        refine lq_call C hI (As := [.int 4]) (rest := []) (fun W1 sz hX => cx_count l D ct sz o ad hX ok.1 ok.2.2 4) (cwV 1 hts gL_ticks_X5_count rfl rfl rfl (by decide +kernel) ⟨Nat.le_of_ble_eq_true rfl, Nat.le_of_ble_eq_true rfl⟩) rfl hl.1 rfl (Nat.le_of_ble_eq_true rfl) dL_ticks_243 ⟨Nat.le_of_ble_eq_true rfl, Nat.le_of_ble_eq_true rfl⟩ (r := (aV A).1 0 3) (qc_4) (A1 := A) (rfl) (fun H locs hI => ?_)
        refine lv_istore (lv' := [(7, .int ((aV A).1 0 3)), (6, .int ((aV A).1 0 2)), (5, .int ((aV A).1 0 1)), (4, .int (pAllT (aV A) (nOf (aV A)))), (1, .int (nI (nOf (aV A)))), (2, .ref q1), (3, .ref q2), (0, .ref (o 0))]) hx hb dL_ticks_246 hl (by decide) rfl (fun ls hl => ?_)
        refine lv_aload_n hx hb dL_ticks_248 rfl (lv_at hl 7 rfl) ?_
        refine lv_bipush (v := 6) hx hb dL_ticks_249 (by decide) ?_
        refine lq_call C hI (As := [.int 6]) (rest := []) (fun W1 sz hX => cx_count l D ct sz o ad hX ok.1 ok.2.2 6) (cwV 1 hts gL_ticks_X5_count rfl rfl rfl (by decide +kernel) ⟨Nat.le_of_ble_eq_true rfl, Nat.le_of_ble_eq_true rfl⟩) rfl hl.1 rfl (Nat.le_of_ble_eq_true rfl) dL_ticks_251 ⟨Nat.le_of_ble_eq_true rfl, Nat.le_of_ble_eq_true rfl⟩ (r := (aV A).1 0 4) (qc_6) (A1 := A) (rfl) (fun H locs hI => ?_)
        refine lv_istore (lv' := [(8, .int ((aV A).1 0 4)), (7, .int ((aV A).1 0 3)), (6, .int ((aV A).1 0 2)), (5, .int ((aV A).1 0 1)), (4, .int (pAllT (aV A) (nOf (aV A)))), (1, .int (nI (nOf (aV A)))), (2, .ref q1), (3, .ref q2), (0, .ref (o 0))]) hx hb dL_ticks_254 hl (by decide) rfl (fun ls hl => ?_)
        refine lv_iload hx hb dL_ticks_256 (lv_at hl 1 rfl) ?_
        refine lv_iconst (v := 1) hx hb dL_ticks_258 (by decide) ?_
        refine lv_iadd hx hb dL_ticks_259 ?_
        refine lv_aload_n hx hb dL_ticks_260 rfl (lv_at hl 8 rfl) ?_
        refine lv_iconst (v := 2) hx hb dL_ticks_261 (by decide) ?_
        refine lq_call C hI (As := [.int 2]) (rest := [.int (((aV A).1 0 3) + 1)]) (fun W1 sz hX => cx_count l D ct sz o ad hX ok.1 ok.2.2 2) (cwV 1 hts gL_ticks_X5_count rfl rfl rfl (by decide +kernel) ⟨Nat.le_of_ble_eq_true rfl, Nat.le_of_ble_eq_true rfl⟩) rfl hl.1 rfl (Nat.le_of_ble_eq_true rfl) dL_ticks_262 ⟨Nat.le_of_ble_eq_true rfl, Nat.le_of_ble_eq_true rfl⟩ (r := pLen (aV A)) (qc_2) (A1 := A) (rfl) (fun H locs hI => ?_)
        have J_265 : ∀ (x9 : Int32) (H : Heap) (locs : List Loc), LH s D ct o ad Z [(q1, .inl (ct 0, 64, .inl fg)), (q2, .inl (ct 0, 64, .inl fu))] A H locs → x9 = (if (aV A).1 0 3 + 1 = pLen (aV A) then 1 else 0) → W p l e (headSpec wsL_ticks ({ frames := 6, cells := 2, slots := 128, locals := 138 })).room s m #[.ref (o 0)] below meth c H locs 2 128 Q (F0 m 273 ls [.int x9]) := by
          intro x9 H locs hI e9
          subst e9
          refine lv_istore (lv' := [(9, .int (if (aV A).1 0 3 + 1 = pLen (aV A) then 1 else 0)), (8, .int ((aV A).1 0 4)), (7, .int ((aV A).1 0 3)), (6, .int ((aV A).1 0 2)), (5, .int ((aV A).1 0 1)), (4, .int (pAllT (aV A) (nOf (aV A)))), (1, .int (nI (nOf (aV A)))), (2, .ref q1), (3, .ref q2), (0, .ref (o 0))]) hx hb dL_ticks_273 hl (by decide) rfl (fun ls hl => ?_)
          refine lv_aload_n hx hb dL_ticks_275 rfl (lv_at hl 9 rfl) ?_
          refine lv_iconst (v := 1) hx hb dL_ticks_276 (by decide) ?_
          refine lq_call C hI (As := [.int 1]) (rest := []) (fun W1 sz hX => cx_thousandths l D ct sz o ad hX ok.1 ok.2.2 1) (cwV 1 hts gL_ticks_X5_thousandths rfl rfl rfl (by decide +kernel) ⟨Nat.le_of_ble_eq_true rfl, Nat.le_of_ble_eq_true rfl⟩) rfl hl.1 rfl (Nat.le_of_ble_eq_true rfl) dL_ticks_277 ⟨Nat.le_of_ble_eq_true rfl, Nat.le_of_ble_eq_true rfl⟩ (r := th ((aV A).2 1)) (qt_1) (A1 := A) (rfl) (fun H locs hI => ?_)
          refine lv_istore (lv' := [(10, .int (th ((aV A).2 1))), (9, .int (if (aV A).1 0 3 + 1 = pLen (aV A) then 1 else 0)), (8, .int ((aV A).1 0 4)), (7, .int ((aV A).1 0 3)), (6, .int ((aV A).1 0 2)), (5, .int ((aV A).1 0 1)), (4, .int (pAllT (aV A) (nOf (aV A)))), (1, .int (nI (nOf (aV A)))), (2, .ref q1), (3, .ref q2), (0, .ref (o 0))]) hx hb dL_ticks_280 hl (by decide) rfl (fun ls hl => ?_)
          refine lv_aload_n hx hb dL_ticks_282 rfl (lv_at hl 10 rfl) ?_
          refine lv_iconst (v := 2) hx hb dL_ticks_283 (by decide) ?_
          refine lq_call C hI (As := [.int 2]) (rest := []) (fun W1 sz hX => cx_thousandths l D ct sz o ad hX ok.1 ok.2.2 2) (cwV 1 hts gL_ticks_X5_thousandths rfl rfl rfl (by decide +kernel) ⟨Nat.le_of_ble_eq_true rfl, Nat.le_of_ble_eq_true rfl⟩) rfl hl.1 rfl (Nat.le_of_ble_eq_true rfl) dL_ticks_284 ⟨Nat.le_of_ble_eq_true rfl, Nat.le_of_ble_eq_true rfl⟩ (r := th ((aV A).2 2)) (qt_2) (A1 := A) (rfl) (fun H locs hI => ?_)
          refine lv_istore (lv' := [(11, .int (th ((aV A).2 2))), (10, .int (th ((aV A).2 1))), (9, .int (if (aV A).1 0 3 + 1 = pLen (aV A) then 1 else 0)), (8, .int ((aV A).1 0 4)), (7, .int ((aV A).1 0 3)), (6, .int ((aV A).1 0 2)), (5, .int ((aV A).1 0 1)), (4, .int (pAllT (aV A) (nOf (aV A)))), (1, .int (nI (nOf (aV A)))), (2, .ref q1), (3, .ref q2), (0, .ref (o 0))]) hx hb dL_ticks_287 hl (by decide) rfl (fun ls hl => ?_)
          obtain ⟨A2, eA2, hv2, ok2⟩ : ∃ A2 : AS, (f_pass A 1).2 = A2 ∧ aV A2 = pTick (aV A) ∧ LOk (b + 7000) A2 := ⟨(f_pass A 1).2, rfl, congrArg (fun q : Int32 × AS => aV q.2) qp1, l_pass ok hb7⟩
          refine lv_aload_n hx hb dL_ticks_289 rfl (lv_at hl 11 rfl) ?_
          refine lv_iconst (v := 1) hx hb dL_ticks_290 (by decide) ?_
          refine lq_call C hI (As := [.int 1]) (rest := []) (fun W1 sz hX => cx_pass l D ct sz o ad hX ok.1 ok.2.2 1) (cwV 1 hts gL_ticks_X5_pass rfl rfl rfl (by decide +kernel) ⟨Nat.le_of_ble_eq_true rfl, Nat.le_of_ble_eq_true rfl⟩) rfl hl.1 rfl (Nat.le_of_ble_eq_true rfl) dL_ticks_291 ⟨Nat.le_of_ble_eq_true rfl, Nat.le_of_ble_eq_true rfl⟩ (r := pTickN (aV A)) (congrArg Prod.fst qp1) (A1 := A2) (eA2) (fun H locs hI => ?_)
          refine lv_iload hx hb dL_ticks_294 (lv_at hl 7 rfl) ?_
          refine bicmp_ne_f (tgt := 381) hx hb dL_ticks_296 (by decide) (pTickN_all ok.inv) ?_
          refine lv_aload_n hx hb dL_ticks_299 rfl (lv_at hl 11 rfl) ?_
          refine lv_iconst (v := 0) hx hb dL_ticks_300 (by decide) ?_
          refine lq_call C hI (As := [.int 0]) (rest := []) (fun W1 sz hX => cx_count l D ct sz o ad hX ok2.1 ok2.2.2 0) (cwV 1 hts gL_ticks_X5_count rfl rfl rfl (by decide +kernel) ⟨Nat.le_of_ble_eq_true rfl, Nat.le_of_ble_eq_true rfl⟩) rfl hl.1 rfl (Nat.le_of_ble_eq_true rfl) dL_ticks_301 ⟨Nat.le_of_ble_eq_true rfl, Nat.le_of_ble_eq_true rfl⟩ (r := (aV A2).1 0 1) (qc_0) (A1 := A2) (rfl) (fun H locs hI => ?_)
          refine lv_iload hx hb dL_ticks_304 (lv_at hl 6 rfl) ?_
          refine lv_iconst (v := 1) hx hb dL_ticks_306 (by decide) ?_
          refine lv_iadd hx hb dL_ticks_307 ?_
          refine bicmp_ne_f (tgt := 381) hx hb dL_ticks_308 (by decide) (by rw [hv2]; exact (tick_0 ok.inv).2.1) ?_
          refine lv_aload_n hx hb dL_ticks_311 rfl (lv_at hl 11 rfl) ?_
          refine lv_iconst (v := 3) hx hb dL_ticks_312 (by decide) ?_
          refine lq_call C hI (As := [.int 3]) (rest := []) (fun W1 sz hX => cx_count l D ct sz o ad hX ok2.1 ok2.2.2 3) (cwV 1 hts gL_ticks_X5_count rfl rfl rfl (by decide +kernel) ⟨Nat.le_of_ble_eq_true rfl, Nat.le_of_ble_eq_true rfl⟩) rfl hl.1 rfl (Nat.le_of_ble_eq_true rfl) dL_ticks_313 ⟨Nat.le_of_ble_eq_true rfl, Nat.le_of_ble_eq_true rfl⟩ (r := (aV A2).1 0 2) (qc_3) (A1 := A2) (rfl) (fun H locs hI => ?_)
          refine lv_iload hx hb dL_ticks_316 (lv_at hl 5 rfl) ?_
          refine lv_iload hx hb dL_ticks_318 (lv_at hl 2 rfl) ?_
          have J_320 : ∀ (x9 : Int32) (H : Heap) (locs : List Loc), LH s D ct o ad Z [(q1, .inl (ct 0, 64, .inl fg)), (q2, .inl (ct 0, 64, .inl fu))] A2 H locs → x9 = (if (aV A).1 0 3 + 1 = pLen (aV A) then 1 else 0) → W p l e (headSpec wsL_ticks ({ frames := 6, cells := 2, slots := 128, locals := 138 })).room s m #[.ref (o 0)] below meth c H locs 2 128 Q (F0 m 328 ls [.int x9, .int ((aV A).1 0 2), .int ((aV A2).1 0 2)]) := by
            intro x9 H locs hI e9
            subst e9
            refine lv_iadd hx hb dL_ticks_328 ?_
            refine bicmp_ne_f (tgt := 381) hx hb dL_ticks_329 (by decide) (by rw [hv2]; exact (tick_fr ok.inv).1) ?_
            refine lv_aload_n hx hb dL_ticks_332 rfl (lv_at hl 11 rfl) ?_
            refine lv_iconst (v := 4) hx hb dL_ticks_333 (by decide) ?_
            refine lq_call C hI (As := [.int 4]) (rest := []) (fun W1 sz hX => cx_count l D ct sz o ad hX ok2.1 ok2.2.2 4) (cwV 1 hts gL_ticks_X5_count rfl rfl rfl (by decide +kernel) ⟨Nat.le_of_ble_eq_true rfl, Nat.le_of_ble_eq_true rfl⟩) rfl hl.1 rfl (Nat.le_of_ble_eq_true rfl) dL_ticks_334 ⟨Nat.le_of_ble_eq_true rfl, Nat.le_of_ble_eq_true rfl⟩ (r := (aV A2).1 0 3) (qc_4) (A1 := A2) (rfl) (fun H locs hI => ?_)
            refine lv_iload hx hb dL_ticks_337 (lv_at hl 2 rfl) ?_
            have J_339 : ∀ (x9 : Int32) (H : Heap) (locs : List Loc), LH s D ct o ad Z [(q1, .inl (ct 0, 64, .inl fg)), (q2, .inl (ct 0, 64, .inl fu))] A2 H locs → x9 = (if (aV A).1 0 3 + 1 = pLen (aV A) then 0 else (aV A).1 0 3 + 1) → W p l e (headSpec wsL_ticks ({ frames := 6, cells := 2, slots := 128, locals := 138 })).room s m #[.ref (o 0)] below meth c H locs 2 128 Q (F0 m 350 ls [.int x9, .int ((aV A2).1 0 3)]) := by
              intro x9 H locs hI e9
              subst e9
              refine bicmp_ne_f (tgt := 381) hx hb dL_ticks_350 (by decide) (by rw [hv2]; exact (tick_fr ok.inv).2.1) ?_
              refine lv_aload_n hx hb dL_ticks_353 rfl (lv_at hl 11 rfl) ?_
              refine lv_bipush (v := 6) hx hb dL_ticks_354 (by decide) ?_
              refine lq_call C hI (As := [.int 6]) (rest := []) (fun W1 sz hX => cx_count l D ct sz o ad hX ok2.1 ok2.2.2 6) (cwV 1 hts gL_ticks_X5_count rfl rfl rfl (by decide +kernel) ⟨Nat.le_of_ble_eq_true rfl, Nat.le_of_ble_eq_true rfl⟩) rfl hl.1 rfl (Nat.le_of_ble_eq_true rfl) dL_ticks_356 ⟨Nat.le_of_ble_eq_true rfl, Nat.le_of_ble_eq_true rfl⟩ (r := (aV A2).1 0 4) (qc_6) (A1 := A2) (rfl) (fun H locs hI => ?_)
              refine lv_iload hx hb dL_ticks_359 (lv_at hl 2 rfl) ?_
              have J_361 : ∀ (x9 : Int32) (H : Heap) (locs : List Loc), LH s D ct o ad Z [(q1, .inl (ct 0, 64, .inl fg)), (q2, .inl (ct 0, 64, .inl fu))] A2 H locs → x9 = (if (aV A).1 0 3 + 1 = pLen (aV A) ∧ 0 < (aV A).1 0 4 then (aV A).1 0 4 - 1 else (aV A).1 0 4) → W p l e (headSpec wsL_ticks ({ frames := 6, cells := 2, slots := 128, locals := 138 })).room s m #[.ref (o 0)] below meth c H locs 2 128 Q (F0 m 378 ls [.int x9, .int ((aV A2).1 0 4)]) := by
                intro x9 H locs hI e9
                subst e9
                refine bicmp_eq_t (tgt := 383) hx hb dL_ticks_378 (by decide) (by rw [hv2]; exact (tick_fr ok.inv).2.2) ?_
                refine lv_iconst (v := 0) hx hb dL_ticks_383 (by decide) ?_
                refine lv_istore (lv' := [(12, .int 0), (11, .int (th ((aV A).2 2))), (10, .int (th ((aV A).2 1))), (9, .int (if (aV A).1 0 3 + 1 = pLen (aV A) then 1 else 0)), (8, .int ((aV A).1 0 4)), (7, .int ((aV A).1 0 3)), (6, .int ((aV A).1 0 2)), (5, .int ((aV A).1 0 1)), (4, .int (pAllT (aV A) (nOf (aV A)))), (1, .int (nI (nOf (aV A)))), (2, .ref q1), (3, .ref q2), (0, .ref (o 0))]) hx hb dL_ticks_384 hl (by decide) rfl (fun ls hl => ?_)
                have loop_386 : ∀ (n_386 : Nat) (d : Nat), (9 ≤ d + n_386) → (d ≤ nOf (aV A)) → ∀ (H : Heap) (locs : List Loc), LH s D ct o ad Z [(q1, .inl (ct 0, 64, .inl fg)), (q2, .inl (ct 0, 64, .inl fu))] A2 H locs → ∀ (ls : Array Slot), lv_has ls 16 [(12, .int (nI d)), (1, .int (nI (nOf (aV A)))), (2, .ref q1), (3, .ref q2), (0, .ref (o 0)), (10, .int (th ((aV A).2 1))), (11, .int (th ((aV A).2 2)))] → W p l e (headSpec wsL_ticks ({ frames := 6, cells := 2, slots := 128, locals := 138 })).room s m #[.ref (o 0)] below meth c H locs 2 128 Q (F0 m 386 ls []) := by
                  intro n_386
                  induction n_386 with
                  | zero =>
                    intro d hn hd8
                    exact absurd hn (by have := ok.inv.n8; omega)
                  | succ n_386 ih_386 =>
                    intro d hn hd8 H locs hI ls hl
                    refine lv_iload hx hb dL_ticks_386 (lv_at hl 0 rfl) ?_
                    refine lv_iload_n hx hb dL_ticks_388 rfl (lv_at hl 1 rfl) ?_
                    refine lv_icmp_ge (tgt := 524) hx hb dL_ticks_389 (by decide) (fun c_389 => ?_) (fun c_389 => ?_)
                    · obtain rfl : d = nOf (aV A) := Nat.le_antisymm hd8 (nI_le' (by have := ok.inv.n8; omega) (by have := ok.inv.n8; omega) c_389)
                      refine lv_aload_n hx hb dL_ticks_524 rfl (lv_at hl 4 rfl) ?_
                      refine lv_iconst (v := 1) hx hb dL_ticks_525 (by decide) ?_
                      refine lq_call C hI (As := [.int 1]) (rest := []) (fun W1 sz hX => cx_thousandths l D ct sz o ad hX ok2.1 ok2.2.2 1) (cwV 1 hts gL_ticks_X5_thousandths rfl rfl rfl (by decide +kernel) ⟨Nat.le_of_ble_eq_true rfl, Nat.le_of_ble_eq_true rfl⟩) rfl hl.1 rfl (Nat.le_of_ble_eq_true rfl) dL_ticks_526 ⟨Nat.le_of_ble_eq_true rfl, Nat.le_of_ble_eq_true rfl⟩ (r := th ((aV A2).2 1)) (qt_1) (A1 := A2) (rfl) (fun H locs hI => ?_)
                      refine lv_iload hx hb dL_ticks_529 (lv_at hl 5 rfl) ?_
                      refine bicmp_lt_f (tgt := 590) hx hb dL_ticks_531 (by decide) (Int32.not_lt.mpr (by rw [hv2]; exact (th_tick ok.inv ok.xi (by omega)).1)) ?_
                      refine lv_aload_n hx hb dL_ticks_534 rfl (lv_at hl 4 rfl) ?_
                      refine lv_iconst (v := 2) hx hb dL_ticks_535 (by decide) ?_
                      refine lq_call C hI (As := [.int 2]) (rest := []) (fun W1 sz hX => cx_thousandths l D ct sz o ad hX ok2.1 ok2.2.2 2) (cwV 1 hts gL_ticks_X5_thousandths rfl rfl rfl (by decide +kernel) ⟨Nat.le_of_ble_eq_true rfl, Nat.le_of_ble_eq_true rfl⟩) rfl hl.1 rfl (Nat.le_of_ble_eq_true rfl) dL_ticks_536 ⟨Nat.le_of_ble_eq_true rfl, Nat.le_of_ble_eq_true rfl⟩ (r := th ((aV A2).2 2)) (qt_2) (A1 := A2) (rfl) (fun H locs hI => ?_)
                      refine lv_iload hx hb dL_ticks_539 (lv_at hl 6 rfl) ?_
                      refine bicmp_lt_f (tgt := 590) hx hb dL_ticks_541 (by decide) (Int32.not_lt.mpr (by rw [hv2]; exact (th_tick ok.inv ok.xi (by omega)).2)) ?_
                      refine lv_aload_n hx hb dL_ticks_544 rfl (lv_at hl 4 rfl) ?_
                      refine lv_iconst (v := 0) hx hb dL_ticks_545 (by decide) ?_
                      refine lq_call C hI (As := [.int 0]) (rest := []) (fun W1 sz hX => cx_thousandths l D ct sz o ad hX ok2.1 ok2.2.2 0) (cwV 1 hts gL_ticks_X5_thousandths rfl rfl rfl (by decide +kernel) ⟨Nat.le_of_ble_eq_true rfl, Nat.le_of_ble_eq_true rfl⟩) rfl hl.1 rfl (Nat.le_of_ble_eq_true rfl) dL_ticks_546 ⟨Nat.le_of_ble_eq_true rfl, Nat.le_of_ble_eq_true rfl⟩ (r := th ((aV A2).2 0)) (qt_0) (A1 := A2) (rfl) (fun H locs hI => ?_)
                      refine lv_aload_n hx hb dL_ticks_549 rfl (lv_at hl 4 rfl) ?_
                      refine lv_iconst (v := 1) hx hb dL_ticks_550 (by decide) ?_
                      refine lq_call C hI (As := [.int 1]) (rest := [.int (th ((aV A2).2 0))]) (fun W1 sz hX => cx_thousandths l D ct sz o ad hX ok2.1 ok2.2.2 1) (cwV 1 hts gL_ticks_X5_thousandths rfl rfl rfl (by decide +kernel) ⟨Nat.le_of_ble_eq_true rfl, Nat.le_of_ble_eq_true rfl⟩) rfl hl.1 rfl (Nat.le_of_ble_eq_true rfl) dL_ticks_551 ⟨Nat.le_of_ble_eq_true rfl, Nat.le_of_ble_eq_true rfl⟩ (r := th ((aV A2).2 1)) (qt_1) (A1 := A2) (rfl) (fun H locs hI => ?_)
                      refine bicmp_gt_f (tgt := 590) hx hb dL_ticks_554 (by decide) (Int32.not_lt.mpr (th_all ok2.xi ok2.lt).1) ?_
                      refine lv_aload_n hx hb dL_ticks_557 rfl (lv_at hl 4 rfl) ?_
                      refine lv_iconst (v := 1) hx hb dL_ticks_558 (by decide) ?_
                      refine lq_call C hI (As := [.int 1]) (rest := []) (fun W1 sz hX => cx_thousandths l D ct sz o ad hX ok2.1 ok2.2.2 1) (cwV 1 hts gL_ticks_X5_thousandths rfl rfl rfl (by decide +kernel) ⟨Nat.le_of_ble_eq_true rfl, Nat.le_of_ble_eq_true rfl⟩) rfl hl.1 rfl (Nat.le_of_ble_eq_true rfl) dL_ticks_559 ⟨Nat.le_of_ble_eq_true rfl, Nat.le_of_ble_eq_true rfl⟩ (r := th ((aV A2).2 1)) (qt_1) (A1 := A2) (rfl) (fun H locs hI => ?_)
                      refine lv_sipush (v := 20000) hx hb dL_ticks_562 (by decide) ?_
                      refine bicmp_gt_f (tgt := 590) hx hb dL_ticks_565 (by decide) (Int32.not_lt.mpr (th_all ok2.xi ok2.lt).2.1) ?_
                      refine lv_aload_n hx hb dL_ticks_568 rfl (lv_at hl 4 rfl) ?_
                      refine lv_iconst (v := 0) hx hb dL_ticks_569 (by decide) ?_
                      refine lq_call C hI (As := [.int 0]) (rest := []) (fun W1 sz hX => cx_thousandths l D ct sz o ad hX ok2.1 ok2.2.2 0) (cwV 1 hts gL_ticks_X5_thousandths rfl rfl rfl (by decide +kernel) ⟨Nat.le_of_ble_eq_true rfl, Nat.le_of_ble_eq_true rfl⟩) rfl hl.1 rfl (Nat.le_of_ble_eq_true rfl) dL_ticks_570 ⟨Nat.le_of_ble_eq_true rfl, Nat.le_of_ble_eq_true rfl⟩ (r := th ((aV A2).2 0)) (qt_0) (A1 := A2) (rfl) (fun H locs hI => ?_)
                      refine bif_lt_f (tgt := 590) hx hb dL_ticks_573 (by decide) ((th_all ok2.xi ok2.lt).2.2) ?_
                      refine lv_aload_n hx hb dL_ticks_576 rfl (lv_at hl 4 rfl) ?_
                      refine lv_iconst (v := 3) hx hb dL_ticks_577 (by decide) ?_
                      refine lq_call C hI (As := [.int 3]) (rest := []) (fun W1 sz hX => cx_thousandths l D ct sz o ad hX ok2.1 ok2.2.2 3) (cwV 1 hts gL_ticks_X5_thousandths rfl rfl rfl (by decide +kernel) ⟨Nat.le_of_ble_eq_true rfl, Nat.le_of_ble_eq_true rfl⟩) rfl hl.1 rfl (Nat.le_of_ble_eq_true rfl) dL_ticks_578 ⟨Nat.le_of_ble_eq_true rfl, Nat.le_of_ble_eq_true rfl⟩ (r := -2) (qt_3) (A1 := A2) (rfl) (fun H locs hI => ?_)
                      refine lv_bipush (v := (-2)) hx hb dL_ticks_581 (by decide) ?_
                      refine bicmp_ne_f (tgt := 590) hx hb dL_ticks_583 (by decide) (by decide) ?_
                      refine lv_iconst (v := 1) hx hb dL_ticks_586 (by decide) ?_
                      refine lv_goto (tgt := 591) hx hb dL_ticks_587 (by decide) ?_
                      have h9 := lq_end (args := #[.ref (o 0)]) (v := 1) (F := ((1, A) : Int32 × AS)) (Xp := fun _ u => ∃ A2, CX ct o ad A2 u ∧ LOk (b + 7000) A2) hI hZe (rfl) (fun W1 h9 => ⟨A2, h9, ok2⟩)
                      subst hQ
                      exact W.zret (v := 1) hx hb hr (by decide) h9.1 h9.2 dL_ticks_591
                    · have hd : d < nOf (aV A) := nI_nle' (by have := ok.inv.n8; omega) (by have := ok.inv.n8; omega) c_389
                      have hd9 : d < 8 := Nat.lt_of_lt_of_le hd ok.inv.n8
                      have hd2 : d < nOf (aV A2) := by rw [hv2, tick_n ok.inv]; exact hd
                      refine lv_iconst (v := 0) hx hb dL_ticks_392 (by decide) ?_
                      refine lv_istore (lv' := [(13, .int 0), (12, .int (nI d)), (1, .int (nI (nOf (aV A)))), (2, .ref q1), (3, .ref q2), (0, .ref (o 0)), (10, .int (th ((aV A).2 1))), (11, .int (th ((aV A).2 2)))]) hx hb dL_ticks_393 hl (by decide) rfl (fun ls hl => ?_)
                      have loop_395 : ∀ (n_395 : Nat) (k : Nat), (9 ≤ k + n_395) → (k ≤ 8) → ∀ (H : Heap) (locs : List Loc), LH s D ct o ad Z [(q1, .inl (ct 0, 64, .inl fg)), (q2, .inl (ct 0, 64, .inl fu))] A2 H locs → ∀ (ls : Array Slot), lv_has ls 16 [(13, .int (nI k)), (12, .int (nI d)), (1, .int (nI (nOf (aV A)))), (2, .ref q1), (3, .ref q2), (0, .ref (o 0)), (10, .int (th ((aV A).2 1))), (11, .int (th ((aV A).2 2)))] → W p l e (headSpec wsL_ticks ({ frames := 6, cells := 2, slots := 128, locals := 138 })).room s m #[.ref (o 0)] below meth c H locs 2 128 Q (F0 m 395 ls []) := by
                        intro n_395
                        induction n_395 with
                        | zero =>
                          intro k hn hk8
                          exact absurd hn (by omega)
                        | succ n_395 ih_395 =>
                          intro k hn hk8 H locs hI ls hl
                          refine lv_iload hx hb dL_ticks_395 (lv_at hl 0 rfl) ?_
                          refine lv_bipush (v := 8) hx hb dL_ticks_397 (by decide) ?_
                          refine lv_icmp_ge (tgt := 518) hx hb dL_ticks_399 (by decide) (fun c_399 => ?_) (fun c_399 => ?_)
                          · obtain rfl : k = 8 := Nat.le_antisymm hk8 (nI_le' (b := 8) (by decide) (by omega) c_399)
                            refine lv_iinc (v := nI (d + 1)) (lv' := [(12, .int (nI (d + 1))), (13, .int (nI 8)), (1, .int (nI (nOf (aV A)))), (2, .ref q1), (3, .ref q2), (0, .ref (o 0)), (10, .int (th ((aV A).2 1))), (11, .int (th ((aV A).2 2)))]) hx hb dL_ticks_518 hl (k := 1) rfl ((nI_succ d).symm) (by decide) rfl (fun ls hl => ?_)
                            refine lv_goto (tgt := 386) hx hb dL_ticks_521 (by decide) ?_
                            exact ih_386 (d + 1) (by omega) (by omega) _ _ hI ls (lv_sub hl [0, 2, 3, 4, 5, 6, 7] rfl)
                          · have hk : k < 8 := nI_nle' (b := 8) (by decide) (by omega) c_399
                            refine lv_aload_n hx hb dL_ticks_402 rfl (lv_at hl 4 rfl) ?_
                            refine lv_bipush (v := 8) hx hb dL_ticks_403 (by decide) ?_
                            refine lv_iload hx hb dL_ticks_405 (lv_at hl 1 rfl) ?_
                            refine lv_imul hx hb dL_ticks_407 ?_
                            refine lv_iload hx hb dL_ticks_408 (lv_at hl 0 rfl) ?_
                            refine lv_iadd hx hb dL_ticks_410 ?_
                            refine lv_as (y := nI (8 * d + k)) (ix8 d k) ?_
                            refine lq_ld C hI 1 rfl (j := (8 * d + k)) (rfl) (by omega) (by decide) dL_ticks_411 ?_
                            refine lv_aload_n hx hb dL_ticks_412 rfl (lv_at hl 5 rfl) ?_
                            refine lv_bipush (v := 11) hx hb dL_ticks_413 (by decide) ?_
                            refine lq_call C hI (As := [.int 11]) (rest := [.int (fu (8 * d + k))]) (fun W1 sz hX => cx_count l D ct sz o ad hX ok2.1 ok2.2.2 11) (cwV 1 hts gL_ticks_X5_count rfl rfl rfl (by decide +kernel) ⟨Nat.le_of_ble_eq_true rfl, Nat.le_of_ble_eq_true rfl⟩) rfl hl.1 rfl (Nat.le_of_ble_eq_true rfl) dL_ticks_415 ⟨Nat.le_of_ble_eq_true rfl, Nat.le_of_ble_eq_true rfl⟩ (r := (aV A2).1 3 2) (qc_11) (A1 := A2) (rfl) (fun H locs hI => ?_)
                            have J_418 : ∀ (x9 : Int32) (H : Heap) (locs : List Loc), LH s D ct o ad Z [(q1, .inl (ct 0, 64, .inl fg)), (q2, .inl (ct 0, 64, .inl fu))] A2 H locs → x9 = (if fu (8 * d + k) < (aV A2).1 3 2 then 0 else 1) → W p l e (headSpec wsL_ticks ({ frames := 6, cells := 2, slots := 128, locals := 138 })).room s m #[.ref (o 0)] below meth c H locs 2 128 Q (F0 m 426 ls [.int x9]) := by
                              intro x9 H locs hI e9
                              subst e9
                              refine lv_istore (lv' := [(14, .int (if fu (8 * d + k) < (aV A2).1 3 2 then 0 else 1)), (13, .int (nI k)), (12, .int (nI d)), (1, .int (nI (nOf (aV A)))), (2, .ref q1), (3, .ref q2), (0, .ref (o 0)), (10, .int (th ((aV A).2 1))), (11, .int (th ((aV A).2 2)))]) hx hb dL_ticks_426 hl (by decide) rfl (fun ls hl => ?_)
                              refine lv_aload_n hx hb dL_ticks_428 rfl (lv_at hl 6 rfl) ?_
                              refine lv_iload hx hb dL_ticks_429 (lv_at hl 2 rfl) ?_
                              refine lv_iload hx hb dL_ticks_431 (lv_at hl 1 rfl) ?_
                              refine lv_iconst (v := 2) hx hb dL_ticks_433 (by decide) ?_
                              refine lq_call C hI (As := [.int (nI d), .int (nI k), .int 2]) (rest := []) (fun W1 sz hX => cx_segment l D ct sz o ad hX ok2.1 ok2.2.2 (nI d) (nI k) 2) (cwV 3 hts gL_ticks_X5_segment rfl rfl rfl (by decide +kernel) ⟨Nat.le_of_ble_eq_true rfl, Nat.le_of_ble_eq_true rfl⟩) rfl hl.1 rfl (Nat.le_of_ble_eq_true rfl) dL_ticks_434 ⟨Nat.le_of_ble_eq_true rfl, Nat.le_of_ble_eq_true rfl⟩ (r := bit ((aV A2).1 (4 + d) 6) k) (qs_2 ok2.inv hd2 hk) (A1 := A2) (rfl) (fun H locs hI => ?_)
                              refine lv_iconst (v := 1) hx hb dL_ticks_437 (by decide) ?_
                              have J_438 : ∀ (x9 : Int32) (H : Heap) (locs : List Loc), LH s D ct o ad Z [(q1, .inl (ct 0, 64, .inl fg)), (q2, .inl (ct 0, 64, .inl fu))] A2 H locs → x9 = (if bit ((aV A2).1 (4 + d) 6) k = 1 then 1 else 0) → W p l e (headSpec wsL_ticks ({ frames := 6, cells := 2, slots := 128, locals := 138 })).room s m #[.ref (o 0)] below meth c H locs 2 128 Q (F0 m 446 ls [.int x9]) := by
                                intro x9 H locs hI e9
                                subst e9
                                refine lv_istore (lv' := [(15, .int (if bit ((aV A2).1 (4 + d) 6) k = 1 then 1 else 0)), (14, .int (if fu (8 * d + k) < (aV A2).1 3 2 then 0 else 1)), (13, .int (nI k)), (12, .int (nI d)), (1, .int (nI (nOf (aV A)))), (2, .ref q1), (3, .ref q2), (0, .ref (o 0)), (10, .int (th ((aV A).2 1))), (11, .int (th ((aV A).2 2)))]) hx hb dL_ticks_446 hl (by decide) rfl (fun ls hl => ?_)
                                refine lv_aload_n hx hb dL_ticks_448 rfl (lv_at hl 7 rfl) ?_
                                refine lv_iload hx hb dL_ticks_449 (lv_at hl 3 rfl) ?_
                                refine lv_iload hx hb dL_ticks_451 (lv_at hl 2 rfl) ?_
                                refine lv_iconst (v := 0) hx hb dL_ticks_453 (by decide) ?_
                                refine lq_call C hI (As := [.int (nI d), .int (nI k), .int 0]) (rest := []) (fun W1 sz hX => cx_segment l D ct sz o ad hX ok2.1 ok2.2.2 (nI d) (nI k) 0) (cwV 3 hts gL_ticks_X5_segment rfl rfl rfl (by decide +kernel) ⟨Nat.le_of_ble_eq_true rfl, Nat.le_of_ble_eq_true rfl⟩) rfl hl.1 rfl (Nat.le_of_ble_eq_true rfl) dL_ticks_454 ⟨Nat.le_of_ble_eq_true rfl, Nat.le_of_ble_eq_true rfl⟩ (r := (aV A2).1 (12 + d) k) (qs_0 ok2.inv hd2 hk) (A1 := A2) (rfl) (fun H locs hI => ?_)
                                refine lv_aload_n hx hb dL_ticks_457 rfl (lv_at hl 5 rfl) ?_
                                refine lv_bipush (v := 8) hx hb dL_ticks_458 (by decide) ?_
                                refine lv_iload hx hb dL_ticks_460 (lv_at hl 3 rfl) ?_
                                refine lv_imul hx hb dL_ticks_462 ?_
                                refine lv_iload hx hb dL_ticks_463 (lv_at hl 2 rfl) ?_
                                refine lv_iadd hx hb dL_ticks_465 ?_
                                refine lv_as (y := nI (8 * d + k)) (ix8 d k) ?_
                                refine lq_ld C hI 0 rfl (j := (8 * d + k)) (rfl) (by omega) (by decide) dL_ticks_466 ?_
                                refine bicmp_ne_f (tgt := 510) hx hb dL_ticks_467 (by decide) (by rw [hg d k hk (Or.inl hd), hv2]; exact tick_glow ok.inv hd hk) ?_
                                refine lv_aload_n hx hb dL_ticks_470 rfl (lv_at hl 7 rfl) ?_
                                refine lv_iload hx hb dL_ticks_471 (lv_at hl 3 rfl) ?_
                                refine lv_iload hx hb dL_ticks_473 (lv_at hl 2 rfl) ?_
                                refine lv_iconst (v := 1) hx hb dL_ticks_475 (by decide) ?_
                                refine lq_call C hI (As := [.int (nI d), .int (nI k), .int 1]) (rest := []) (fun W1 sz hX => cx_segment l D ct sz o ad hX ok2.1 ok2.2.2 (nI d) (nI k) 1) (cwV 3 hts gL_ticks_X5_segment rfl rfl rfl (by decide +kernel) ⟨Nat.le_of_ble_eq_true rfl, Nat.le_of_ble_eq_true rfl⟩) rfl hl.1 rfl (Nat.le_of_ble_eq_true rfl) dL_ticks_476 ⟨Nat.le_of_ble_eq_true rfl, Nat.le_of_ble_eq_true rfl⟩ (r := (aV A2).1 (20 + d) k) (qs_1 ok2.inv hd2 hk) (A1 := A2) (rfl) (fun H locs hI => ?_)
                                refine lv_aload_n hx hb dL_ticks_479 rfl (lv_at hl 6 rfl) ?_
                                refine lv_bipush (v := 8) hx hb dL_ticks_480 (by decide) ?_
                                refine lv_iload hx hb dL_ticks_482 (lv_at hl 3 rfl) ?_
                                refine lv_imul hx hb dL_ticks_484 ?_
                                refine lv_iload hx hb dL_ticks_485 (lv_at hl 2 rfl) ?_
                                refine lv_iadd hx hb dL_ticks_487 ?_
                                refine lv_as (y := nI (8 * d + k)) (ix8 d k) ?_
                                refine lq_ld C hI 1 rfl (j := (8 * d + k)) (rfl) (by omega) (by decide) dL_ticks_488 ?_
                                refine bicmp_ne_f (tgt := 510) hx hb dL_ticks_489 (by decide) (by rw [hu d k hk (Or.inl hd), hv2]; exact tick_use ok.inv hd hk) ?_
                                refine lv_iload hx hb dL_ticks_492 (lv_at hl 0 rfl) ?_
                                refine lv_if_eq (tgt := 512) hx hb dL_ticks_494 (by decide) (fun c_494 => ?_) (fun c_494 => ?_)
                                · refine lv_iinc (v := nI (k + 1)) (lv' := [(13, .int (nI (k + 1))), (15, .int (if bit ((aV A2).1 (4 + d) 6) k = 1 then 1 else 0)), (14, .int (if fu (8 * d + k) < (aV A2).1 3 2 then 0 else 1)), (12, .int (nI d)), (1, .int (nI (nOf (aV A)))), (2, .ref q1), (3, .ref q2), (0, .ref (o 0)), (10, .int (th ((aV A).2 1))), (11, .int (th ((aV A).2 2)))]) hx hb dL_ticks_512 hl (k := 2) rfl ((nI_succ k).symm) (by decide) rfl (fun ls hl => ?_)
                                  refine lv_goto (tgt := 395) hx hb dL_ticks_515 (by decide) ?_
                                  exact ih_395 (k + 1) (by omega) (by omega) _ _ hI ls (lv_sub hl [0, 3, 4, 5, 6, 7, 8, 9] rfl)
                                · refine lv_aload_n hx hb dL_ticks_497 rfl (lv_at hl 6 rfl) ?_
                                  refine lv_bipush (v := 8) hx hb dL_ticks_498 (by decide) ?_
                                  refine lv_iload hx hb dL_ticks_500 (lv_at hl 3 rfl) ?_
                                  refine lv_imul hx hb dL_ticks_502 ?_
                                  refine lv_iload hx hb dL_ticks_503 (lv_at hl 2 rfl) ?_
                                  refine lv_iadd hx hb dL_ticks_505 ?_
                                  refine lv_as (y := nI (8 * d + k)) (ix8 d k) ?_
                                  refine lq_ld C hI 1 rfl (j := (8 * d + k)) (rfl) (by omega) (by decide) dL_ticks_506 ?_
                                  refine bif_ne_t (tgt := 512) hx hb dL_ticks_507 (by decide) (by rw [hu d k hk (Or.inl hd), show tU (aV A) d k = (aV A2).1 (20 + d) k from by rw [hv2]; exact (tick_use ok.inv hd hk).symm]; exact xu_n0 ok2.xi hd2 hk (ite11 c_494) ok2.lt) ?_
                                  refine lv_iinc (v := nI (k + 1)) (lv' := [(13, .int (nI (k + 1))), (15, .int (if bit ((aV A2).1 (4 + d) 6) k = 1 then 1 else 0)), (14, .int (if fu (8 * d + k) < (aV A2).1 3 2 then 0 else 1)), (12, .int (nI d)), (1, .int (nI (nOf (aV A)))), (2, .ref q1), (3, .ref q2), (0, .ref (o 0)), (10, .int (th ((aV A).2 1))), (11, .int (th ((aV A).2 2)))]) hx hb dL_ticks_512 hl (k := 2) rfl ((nI_succ k).symm) (by decide) rfl (fun ls hl => ?_)
                                  refine lv_goto (tgt := 395) hx hb dL_ticks_515 (by decide) ?_
                                  exact ih_395 (k + 1) (by omega) (by omega) _ _ hI ls (lv_sub hl [0, 3, 4, 5, 6, 7, 8, 9] rfl)
                              refine lv_icmp_ne (tgt := 445) hx hb dL_ticks_438 (by decide) (fun c_438 => ?_) (fun c_438 => ?_)
                              · refine lv_iconst (v := 0) hx hb dL_ticks_445 (by decide) ?_
                                exact J_438 _ _ _ hI ((if_neg c_438).symm)
                              · refine lv_iconst (v := 1) hx hb dL_ticks_441 (by decide) ?_
                                refine lv_goto (tgt := 446) hx hb dL_ticks_442 (by decide) ?_
                                exact J_438 _ _ _ hI ((if_pos c_438).symm)
                            refine lv_icmp_lt (tgt := 425) hx hb dL_ticks_418 (by decide) (fun c_418 => ?_) (fun c_418 => ?_)
                            · refine lv_iconst (v := 0) hx hb dL_ticks_425 (by decide) ?_
                              exact J_418 _ _ _ hI ((if_pos c_418).symm)
                            · refine lv_iconst (v := 1) hx hb dL_ticks_421 (by decide) ?_
                              refine lv_goto (tgt := 426) hx hb dL_ticks_422 (by decide) ?_
                              exact J_418 _ _ _ hI ((if_neg c_418).symm)
                      exact loop_395 (9) 0 (by omega) (by omega) _ _ hI ls (lv_sub hl [0, 1, 2, 3, 4, 5, 6, 7] rfl)
                exact loop_386 (9) 0 (by omega) (Nat.zero_le _) _ _ hI ls (lv_sub hl [0, 9, 10, 11, 12, 2, 1] rfl)
              refine lv_if_eq (tgt := 376) hx hb dL_ticks_361 (by decide) (fun c_361 => ?_) (fun c_361 => ?_)
              · refine lv_iload hx hb dL_ticks_376 (lv_at hl 3 rfl) ?_
                exact J_361 _ _ _ hI ((if_neg (fun z => ite01 c_361 z.1)).symm)
              · refine lv_iload hx hb dL_ticks_364 (lv_at hl 3 rfl) ?_
                refine lv_if_le (tgt := 376) hx hb dL_ticks_366 (by decide) (fun c_366 => ?_) (fun c_366 => ?_)
                · refine lv_iload hx hb dL_ticks_376 (lv_at hl 3 rfl) ?_
                  exact J_361 _ _ _ hI ((if_neg (fun z => absurd z.2 (Int32.not_lt.mpr c_366))).symm)
                · refine lv_iload hx hb dL_ticks_369 (lv_at hl 3 rfl) ?_
                  refine lv_iconst (v := 1) hx hb dL_ticks_371 (by decide) ?_
                  refine lv_isub hx hb dL_ticks_372 ?_
                  refine lv_goto (tgt := 378) hx hb dL_ticks_373 (by decide) ?_
                  exact J_361 _ _ _ hI ((if_pos ⟨ite11 c_361, Int32.not_le.mp c_366⟩).symm)
            refine lv_if_eq (tgt := 346) hx hb dL_ticks_339 (by decide) (fun c_339 => ?_) (fun c_339 => ?_)
            · refine lv_iload hx hb dL_ticks_346 (lv_at hl 4 rfl) ?_
              refine lv_iconst (v := 1) hx hb dL_ticks_348 (by decide) ?_
              refine lv_iadd hx hb dL_ticks_349 ?_
              exact J_339 _ _ _ hI ((if_neg (ite01 c_339)).symm)
            · refine lv_iconst (v := 0) hx hb dL_ticks_342 (by decide) ?_
              refine lv_goto (tgt := 350) hx hb dL_ticks_343 (by decide) ?_
              exact J_339 _ _ _ hI ((if_pos (ite11 c_339)).symm)
          refine lv_if_eq (tgt := 327) hx hb dL_ticks_320 (by decide) (fun c_320 => ?_) (fun c_320 => ?_)
          · refine lv_iconst (v := 0) hx hb dL_ticks_327 (by decide) ?_
            exact J_320 _ _ _ hI ((if_neg (ite01 c_320)).symm)
          · refine lv_iconst (v := 1) hx hb dL_ticks_323 (by decide) ?_
            refine lv_goto (tgt := 328) hx hb dL_ticks_324 (by decide) ?_
            exact J_320 _ _ _ hI ((if_pos (ite11 c_320)).symm)
        refine lv_icmp_ne (tgt := 272) hx hb dL_ticks_265 (by decide) (fun c_265 => ?_) (fun c_265 => ?_)
        · refine lv_iconst (v := 0) hx hb dL_ticks_272 (by decide) ?_
          exact J_265 _ _ _ hI ((if_neg c_265).symm)
        · refine lv_iconst (v := 1) hx hb dL_ticks_268 (by decide) ?_
          refine lv_goto (tgt := 273) hx hb dL_ticks_269 (by decide) ?_
          exact J_265 _ _ _ hI ((if_pos c_265).symm)
      · have hd : d < nOf (aV A) := nI_nle' (by have := ok.inv.n8; omega) (by have := ok.inv.n8; omega) c_25
        have hd9 : d < 8 := Nat.lt_of_lt_of_le hd ok.inv.n8
        refine lv_aload_n hx hb dL_ticks_28 rfl (lv_at hl 5 rfl) ?_
        refine lv_iload hx hb dL_ticks_29 (lv_at hl 0 rfl) ?_
        refine lq_stat C hI (As := [.ref (o 0), .int (nI d)]) (rest := []) (r := pLit (aV A) d) (mc := 0) (ms := 0) (fun W1 sz hX => kL_lit l D ct sz o ad hX ok d hd) (va_cwS 2 hts gL_ticks_L_lit rfl rfl rfl (by decide +kernel) ⟨Nat.le_of_ble_eq_true rfl, Nat.le_of_ble_eq_true rfl⟩) rfl hl.1 rfl (Nat.le_of_ble_eq_true rfl) dL_ticks_31 ⟨Nat.le_of_ble_eq_true rfl, Nat.le_of_ble_eq_true rfl⟩ (rfl) (fun H locs hI => ?_)
        have hI := LY.lh hI
        refine lv_istore (lv' := [(6, .int (pLit (aV A) d)), (5, .int (nI d)), (4, .int (pAllT (aV A) d)), (1, .int (nI (nOf (aV A)))), (2, .ref q1), (3, .ref q2), (0, .ref (o 0))]) hx hb dL_ticks_34 hl (by decide) rfl (fun ls hl => ?_)
        refine lv_aload_n hx hb dL_ticks_36 rfl (lv_at hl 6 rfl) ?_
        refine lv_iload hx hb dL_ticks_37 (lv_at hl 1 rfl) ?_
        refine lv_iconst (v := 0) hx hb dL_ticks_39 (by decide) ?_
        refine lq_call C hI (As := [.int (nI d), .int 0]) (rest := []) (fun W1 sz hX => cx_litIn l D ct sz o ad hX ok.1 ok.2.2 (nI d) 0) (cwV 2 hts gL_ticks_X5_litIn rfl rfl rfl (by decide +kernel) ⟨Nat.le_of_ble_eq_true rfl, Nat.le_of_ble_eq_true rfl⟩) rfl hl.1 rfl (Nat.le_of_ble_eq_true rfl) dL_ticks_40 ⟨Nat.le_of_ble_eq_true rfl, Nat.le_of_ble_eq_true rfl⟩ (r := pLit (pTks (aV A) 0) d) (ql ok.inv hd (j := 0) (by decide)) (A1 := A) (rfl) (fun H locs hI => ?_)
        refine lv_iload hx hb dL_ticks_43 (lv_at hl 0 rfl) ?_
        refine bicmp_eq_t (tgt := 50) hx hb dL_ticks_45 (by decide) (congrArg (fun v9 => pLit v9 d) (pTks_z (aV A)).symm) ?_
        refine lv_iload hx hb dL_ticks_50 (lv_at hl 2 rfl) ?_
        refine lv_iload hx hb dL_ticks_52 (lv_at hl 0 rfl) ?_
        refine lv_as (y := pLit (aV A) d) (rfl) ?_
        refine lq_pure C (As := [.int (pLit (aV A) d)]) (rest := [.int (pAllT (aV A) d)]) (r := pBro (pLit (aV A) d) 8) (kL_bits l D ct (pLit (aV A) d) (lit_rg ok.inv hd)) (va_cwS 1 hts gL_ticks_L_bits rfl rfl rfl (by decide +kernel) ⟨Nat.le_of_ble_eq_true rfl, Nat.le_of_ble_eq_true rfl⟩) rfl hl.1 rfl (Nat.le_of_ble_eq_true rfl) dL_ticks_54 ⟨Nat.le_of_ble_eq_true rfl, Nat.le_of_ble_eq_true rfl⟩ ?_
        refine lv_iadd hx hb dL_ticks_57 ?_
        refine lv_as (y := pAllT (aV A) (d + 1)) (rfl) ?_
        refine lv_istore (lv' := [(4, .int (pAllT (aV A) (d + 1))), (6, .int (pLit (aV A) d)), (5, .int (nI d)), (1, .int (nI (nOf (aV A)))), (2, .ref q1), (3, .ref q2), (0, .ref (o 0))]) hx hb dL_ticks_58 hl (by decide) rfl (fun ls hl => ?_)
        refine lv_iconst (v := 0) hx hb dL_ticks_60 (by decide) ?_
        refine lv_istore (lv' := [(7, .int 0), (4, .int (pAllT (aV A) (d + 1))), (6, .int (pLit (aV A) d)), (5, .int (nI d)), (1, .int (nI (nOf (aV A)))), (2, .ref q1), (3, .ref q2), (0, .ref (o 0))]) hx hb dL_ticks_61 hl (by decide) rfl (fun ls hl => ?_)
        have loop_63 : ∀ (n_63 : Nat) (k : Nat) (gg gu : Nat → Int32), (9 ≤ k + n_63) → (k ≤ 8) → (tOk (aV A) gg tG d k) → (tOk (aV A) gu tU d k) → ∀ (H : Heap) (locs : List Loc), LH s D ct o ad Z [(q1, .inl (ct 0, 64, .inl gg)), (q2, .inl (ct 0, 64, .inl gu))] A H locs → ∀ (ls : Array Slot), lv_has ls 16 [(7, .int (nI k)), (6, .int (pLit (aV A) d)), (5, .int (nI d)), (4, .int (pAllT (aV A) (d + 1))), (1, .int (nI (nOf (aV A)))), (2, .ref q1), (3, .ref q2), (0, .ref (o 0))] → W p l e (headSpec wsL_ticks ({ frames := 6, cells := 2, slots := 128, locals := 138 })).room s m #[.ref (o 0)] below meth c H locs 2 128 Q (F0 m 63 ls []) := by
          intro n_63
          induction n_63 with
          | zero =>
            intro k gg gu hn hk8 hgg hgu
            exact absurd hn (by omega)
          | succ n_63 ih_63 =>
            intro k gg gu hn hk8 hgg hgu H locs hI ls hl
            refine lv_iload hx hb dL_ticks_63 (lv_at hl 0 rfl) ?_
            refine lv_bipush (v := 8) hx hb dL_ticks_65 (by decide) ?_
            refine lv_icmp_ge (tgt := 221) hx hb dL_ticks_67 (by decide) (fun c_67 => ?_) (fun c_67 => ?_)
            · obtain rfl : k = 8 := Nat.le_antisymm hk8 (nI_le' (b := 8) (by decide) (by omega) c_67)
              refine lv_iinc (v := nI (d + 1)) (lv' := [(5, .int (nI (d + 1))), (7, .int (nI 8)), (6, .int (pLit (aV A) d)), (4, .int (pAllT (aV A) (d + 1))), (1, .int (nI (nOf (aV A)))), (2, .ref q1), (3, .ref q2), (0, .ref (o 0))]) hx hb dL_ticks_221 hl (k := 2) rfl ((nI_succ d).symm) (by decide) rfl (fun ls hl => ?_)
              refine lv_goto (tgt := 22) hx hb dL_ticks_224 (by decide) ?_
              exact ih_22 (d + 1) gg gu (by omega) (by omega) (tOk_n hgg) (tOk_n hgu) _ _ hI ls (lv_sub hl [0, 3, 4, 5, 6, 7] rfl)
            · have hk : k < 8 := nI_nle' (b := 8) (by decide) (by omega) c_67
              refine lv_aload_n hx hb dL_ticks_70 rfl (lv_at hl 7 rfl) ?_
              refine lv_iload hx hb dL_ticks_71 (lv_at hl 2 rfl) ?_
              refine lv_iload hx hb dL_ticks_73 (lv_at hl 0 rfl) ?_
              refine lv_iconst (v := 0) hx hb dL_ticks_75 (by decide) ?_
              refine lq_call C hI (As := [.int (nI d), .int (nI k), .int 0]) (rest := []) (fun W1 sz hX => cx_segment l D ct sz o ad hX ok.1 ok.2.2 (nI d) (nI k) 0) (cwV 3 hts gL_ticks_X5_segment rfl rfl rfl (by decide +kernel) ⟨Nat.le_of_ble_eq_true rfl, Nat.le_of_ble_eq_true rfl⟩) rfl hl.1 rfl (Nat.le_of_ble_eq_true rfl) dL_ticks_76 ⟨Nat.le_of_ble_eq_true rfl, Nat.le_of_ble_eq_true rfl⟩ (r := (aV A).1 (12 + d) k) (qs_0 ok.inv hd hk) (A1 := A) (rfl) (fun H locs hI => ?_)
              refine lv_istore (lv' := [(8, .int ((aV A).1 (12 + d) k)), (7, .int (nI k)), (6, .int (pLit (aV A) d)), (5, .int (nI d)), (4, .int (pAllT (aV A) (d + 1))), (1, .int (nI (nOf (aV A)))), (2, .ref q1), (3, .ref q2), (0, .ref (o 0))]) hx hb dL_ticks_79 hl (by decide) rfl (fun ls hl => ?_)
              refine lv_iload hx hb dL_ticks_81 (lv_at hl 2 rfl) ?_
              refine lv_iload hx hb dL_ticks_83 (lv_at hl 1 rfl) ?_
              refine lv_ishr hx hb dL_ticks_85 ?_
              refine lv_iconst (v := 1) hx hb dL_ticks_86 (by decide) ?_
              refine lv_iand hx hb dL_ticks_87 ?_
              refine lv_as (y := bit (pLit (aV A) d) k) (rfl) ?_
              refine lv_iconst (v := 1) hx hb dL_ticks_88 (by decide) ?_
              have J_89 : ∀ (x9 : Int32) (H : Heap) (locs : List Loc), LH s D ct o ad Z [(q1, .inl (ct 0, 64, .inl gg)), (q2, .inl (ct 0, 64, .inl gu))] A H locs → x9 = (if bit (pLit (aV A) d) k = 1 then 1 else 0) → W p l e (headSpec wsL_ticks ({ frames := 6, cells := 2, slots := 128, locals := 138 })).room s m #[.ref (o 0)] below meth c H locs 2 128 Q (F0 m 97 ls [.int x9]) := by
                intro x9 H locs hI e9
                subst e9
                refine lv_istore (lv' := [(9, .int (if bit (pLit (aV A) d) k = 1 then 1 else 0)), (8, .int ((aV A).1 (12 + d) k)), (7, .int (nI k)), (6, .int (pLit (aV A) d)), (5, .int (nI d)), (4, .int (pAllT (aV A) (d + 1))), (1, .int (nI (nOf (aV A)))), (2, .ref q1), (3, .ref q2), (0, .ref (o 0))]) hx hb dL_ticks_97 hl (by decide) rfl (fun ls hl => ?_)
                refine lv_iload hx hb dL_ticks_99 (lv_at hl 1 rfl) ?_
                refine lv_iload hx hb dL_ticks_101 (lv_at hl 1 rfl) ?_
                refine lv_sipush (v := 996) hx hb dL_ticks_103 (by decide) ?_
                have J_106 : ∀ (x9 : Int32) (H : Heap) (locs : List Loc), LH s D ct o ad Z [(q1, .inl (ct 0, 64, .inl gg)), (q2, .inl (ct 0, 64, .inl gu))] A H locs → x9 = (if (aV A).1 (12 + d) k ≤ 996 then (1000 - (aV A).1 (12 + d) k) / 4 else 1) → W p l e (headSpec wsL_ticks ({ frames := 6, cells := 2, slots := 128, locals := 138 })).room s m #[.ref (o 0)] below meth c H locs 2 128 Q (F0 m 121 ls [.int x9, .int ((aV A).1 (12 + d) k)]) := by
                  intro x9 H locs hI e9
                  subst e9
                  refine lv_iadd hx hb dL_ticks_121 ?_
                  refine lv_istore (lv' := [(10, .int (((aV A).1 (12 + d) k) + (if (aV A).1 (12 + d) k ≤ 996 then (1000 - (aV A).1 (12 + d) k) / 4 else 1))), (9, .int (if bit (pLit (aV A) d) k = 1 then 1 else 0)), (8, .int ((aV A).1 (12 + d) k)), (7, .int (nI k)), (6, .int (pLit (aV A) d)), (5, .int (nI d)), (4, .int (pAllT (aV A) (d + 1))), (1, .int (nI (nOf (aV A)))), (2, .ref q1), (3, .ref q2), (0, .ref (o 0))]) hx hb dL_ticks_122 hl (by decide) rfl (fun ls hl => ?_)
                  refine lv_iload hx hb dL_ticks_124 (lv_at hl 2 rfl) ?_
                  refine lv_iload hx hb dL_ticks_126 (lv_at hl 2 rfl) ?_
                  refine lv_aload_n hx hb dL_ticks_128 rfl (lv_at hl 10 rfl) ?_
                  refine lv_bipush (v := 9) hx hb dL_ticks_129 (by decide) ?_
                  refine lq_call C hI (As := [.int 9]) (rest := [.int ((aV A).1 (12 + d) k), .int ((aV A).1 (12 + d) k)]) (fun W1 sz hX => cx_count l D ct sz o ad hX ok.1 ok.2.2 9) (cwV 1 hts gL_ticks_X5_count rfl rfl rfl (by decide +kernel) ⟨Nat.le_of_ble_eq_true rfl, Nat.le_of_ble_eq_true rfl⟩) rfl hl.1 rfl (Nat.le_of_ble_eq_true rfl) dL_ticks_131 ⟨Nat.le_of_ble_eq_true rfl, Nat.le_of_ble_eq_true rfl⟩ (r := (aV A).1 3 0) (qc_9) (A1 := A) (rfl) (fun H locs hI => ?_)
                  refine lv_idiv hx hb dL_ticks_134 (ok.inv.dec) ?_
                  refine lv_isub hx hb dL_ticks_135 ?_
                  refine lv_iconst (v := 1) hx hb dL_ticks_136 (by decide) ?_
                  refine lv_isub hx hb dL_ticks_137 ?_
                  refine lv_istore (lv' := [(11, .int ((((aV A).1 (12 + d) k) - (((aV A).1 (12 + d) k) / ((aV A).1 3 0))) - 1)), (10, .int (((aV A).1 (12 + d) k) + (if (aV A).1 (12 + d) k ≤ 996 then (1000 - (aV A).1 (12 + d) k) / 4 else 1))), (9, .int (if bit (pLit (aV A) d) k = 1 then 1 else 0)), (8, .int ((aV A).1 (12 + d) k)), (7, .int (nI k)), (6, .int (pLit (aV A) d)), (5, .int (nI d)), (4, .int (pAllT (aV A) (d + 1))), (1, .int (nI (nOf (aV A)))), (2, .ref q1), (3, .ref q2), (0, .ref (o 0))]) hx hb dL_ticks_138 hl (by decide) rfl (fun ls hl => ?_)
                  refine lv_aload_n hx hb dL_ticks_140 rfl (lv_at hl 9 rfl) ?_
                  refine lv_bipush (v := 8) hx hb dL_ticks_141 (by decide) ?_
                  refine lv_iload hx hb dL_ticks_143 (lv_at hl 6 rfl) ?_
                  refine lv_imul hx hb dL_ticks_145 ?_
                  refine lv_iload hx hb dL_ticks_146 (lv_at hl 4 rfl) ?_
                  refine lv_iadd hx hb dL_ticks_148 ?_
                  refine lv_as (y := nI (8 * d + k)) (ix8 d k) ?_
                  refine lv_iload hx hb dL_ticks_149 (lv_at hl 2 rfl) ?_
                  have J_151 : ∀ (x9 : Int32) (H : Heap) (locs : List Loc), LH s D ct o ad Z [(q1, .inl (ct 0, 64, .inl gg)), (q2, .inl (ct 0, 64, .inl gu))] A H locs → x9 = tG (aV A) d k → W p l e (headSpec wsL_ticks ({ frames := 6, cells := 2, slots := 128, locals := 138 })).room s m #[.ref (o 0)] below meth c H locs 2 128 Q (F0 m 184 ls [.int x9, .int (nI (8 * d + k)), .ref q1]) := by
                    intro x9 H locs hI e9
                    subst e9
                    refine lq_st C hI 0 rfl (j := (8 * d + k)) (rfl) (by omega) (by decide) dL_ticks_184 (fun H locs hI => ?_)
                    have hI : LH s D ct o ad Z [(q1, .inl (ct 0, 64, .inl (upd gg (8 * d + k) (tG (aV A) d k)))), (q2, .inl (ct 0, 64, .inl gu))] A H locs := hI
                    refine lv_aload_n hx hb dL_ticks_185 rfl (lv_at hl 10 rfl) ?_
                    refine lv_bipush (v := 8) hx hb dL_ticks_186 (by decide) ?_
                    refine lv_iload hx hb dL_ticks_188 (lv_at hl 6 rfl) ?_
                    refine lv_imul hx hb dL_ticks_190 ?_
                    refine lv_iload hx hb dL_ticks_191 (lv_at hl 4 rfl) ?_
                    refine lv_iadd hx hb dL_ticks_193 ?_
                    refine lv_as (y := nI (8 * d + k)) (ix8 d k) ?_
                    refine lv_aload_n hx hb dL_ticks_194 rfl (lv_at hl 11 rfl) ?_
                    refine lv_iload hx hb dL_ticks_195 (lv_at hl 6 rfl) ?_
                    refine lv_iload hx hb dL_ticks_197 (lv_at hl 4 rfl) ?_
                    refine lv_iconst (v := 1) hx hb dL_ticks_199 (by decide) ?_
                    refine lq_call C hI (As := [.int (nI d), .int (nI k), .int 1]) (rest := [.int (nI (8 * d + k)), .ref q2]) (fun W1 sz hX => cx_segment l D ct sz o ad hX ok.1 ok.2.2 (nI d) (nI k) 1) (cwV 3 hts gL_ticks_X5_segment rfl rfl rfl (by decide +kernel) ⟨Nat.le_of_ble_eq_true rfl, Nat.le_of_ble_eq_true rfl⟩) rfl hl.1 rfl (Nat.le_of_ble_eq_true rfl) dL_ticks_200 ⟨Nat.le_of_ble_eq_true rfl, Nat.le_of_ble_eq_true rfl⟩ (r := (aV A).1 (20 + d) k) (qs_1 ok.inv hd hk) (A1 := A) (rfl) (fun H locs hI => ?_)
                    refine lv_iload hx hb dL_ticks_203 (lv_at hl 2 rfl) ?_
                    have J_205 : ∀ (x9 : Int32) (H : Heap) (locs : List Loc), LH s D ct o ad Z [(q1, .inl (ct 0, 64, .inl (upd gg (8 * d + k) (tG (aV A) d k)))), (q2, .inl (ct 0, 64, .inl gu))] A H locs → x9 = (if bit (pLit (aV A) d) k = 1 then 1 else 0) → W p l e (headSpec wsL_ticks ({ frames := 6, cells := 2, slots := 128, locals := 138 })).room s m #[.ref (o 0)] below meth c H locs 2 128 Q (F0 m 213 ls [.int x9, .int ((aV A).1 (20 + d) k), .int (nI (8 * d + k)), .ref q2]) := by
                      intro x9 H locs hI e9
                      subst e9
                      refine lv_iadd hx hb dL_ticks_213 ?_
                      refine lv_as (y := tU (aV A) d k) (rfl) ?_
                      refine lq_st C hI 1 rfl (j := (8 * d + k)) (rfl) (by omega) (by decide) dL_ticks_214 (fun H locs hI => ?_)
                      have hI : LH s D ct o ad Z [(q1, .inl (ct 0, 64, .inl (upd gg (8 * d + k) (tG (aV A) d k)))), (q2, .inl (ct 0, 64, .inl (upd gu (8 * d + k) (tU (aV A) d k))))] A H locs := hI
                      refine lv_iinc (v := nI (k + 1)) (lv' := [(7, .int (nI (k + 1))), (11, .int ((((aV A).1 (12 + d) k) - (((aV A).1 (12 + d) k) / ((aV A).1 3 0))) - 1)), (10, .int (((aV A).1 (12 + d) k) + (if (aV A).1 (12 + d) k ≤ 996 then (1000 - (aV A).1 (12 + d) k) / 4 else 1))), (9, .int (if bit (pLit (aV A) d) k = 1 then 1 else 0)), (8, .int ((aV A).1 (12 + d) k)), (6, .int (pLit (aV A) d)), (5, .int (nI d)), (4, .int (pAllT (aV A) (d + 1))), (1, .int (nI (nOf (aV A)))), (2, .ref q1), (3, .ref q2), (0, .ref (o 0))]) hx hb dL_ticks_215 hl (k := 4) rfl ((nI_succ k).symm) (by decide) rfl (fun ls hl => ?_)
                      refine lv_goto (tgt := 63) hx hb dL_ticks_218 (by decide) ?_
                      exact ih_63 (k + 1) _ _ (by omega) (by omega) (tOk_s hk hgg) (tOk_s hk hgu) _ _ hI ls (lv_sub hl [0, 5, 6, 7, 8, 9, 10, 11] rfl)
                    refine lv_if_eq (tgt := 212) hx hb dL_ticks_205 (by decide) (fun c_205 => ?_) (fun c_205 => ?_)
                    · refine lv_iconst (v := 0) hx hb dL_ticks_212 (by decide) ?_
                      exact J_205 _ _ _ hI ((if_neg (ite01 c_205)).symm)
                    · refine lv_iconst (v := 1) hx hb dL_ticks_208 (by decide) ?_
                      refine lv_goto (tgt := 213) hx hb dL_ticks_209 (by decide) ?_
                      exact J_205 _ _ _ hI ((if_pos (ite11 c_205)).symm)
                  refine lv_if_eq (tgt := 173) hx hb dL_ticks_151 (by decide) (fun c_151 => ?_) (fun c_151 => ?_)
                  · refine lv_iload hx hb dL_ticks_173 (lv_at hl 0 rfl) ?_
                    refine lv_if_ge (tgt := 182) hx hb dL_ticks_175 (by decide) (fun c_175 => ?_) (fun c_175 => ?_)
                    · refine lv_iload hx hb dL_ticks_182 (lv_at hl 0 rfl) ?_
                      exact J_151 _ _ _ hI (tG_dn (ite01 c_151) (if_pos c_175).symm)
                    · refine lv_iconst (v := 0) hx hb dL_ticks_178 (by decide) ?_
                      refine lv_goto (tgt := 184) hx hb dL_ticks_179 (by decide) ?_
                      exact J_151 _ _ _ hI (tG_dn (ite01 c_151) (if_neg c_175).symm)
                  · refine lv_iload hx hb dL_ticks_154 (lv_at hl 1 rfl) ?_
                    refine lv_sipush (v := 1000) hx hb dL_ticks_156 (by decide) ?_
                    refine lv_icmp_le (tgt := 168) hx hb dL_ticks_159 (by decide) (fun c_159 => ?_) (fun c_159 => ?_)
                    · refine lv_iload hx hb dL_ticks_168 (lv_at hl 1 rfl) ?_
                      refine lv_goto (tgt := 184) hx hb dL_ticks_170 (by decide) ?_
                      exact J_151 _ _ _ hI (tG_up ((ok.xi.1 d hd).1 k hk) (ite11 c_151) (up_le ((ok.xi.1 d hd).1 k hk) c_159))
                    · refine lv_sipush (v := 1000) hx hb dL_ticks_162 (by decide) ?_
                      refine lv_goto (tgt := 184) hx hb dL_ticks_165 (by decide) ?_
                      exact J_151 _ _ _ hI (tG_up ((ok.xi.1 d hd).1 k hk) (ite11 c_151) (up_gt ((ok.xi.1 d hd).1 k hk) c_159))
                refine lv_icmp_le (tgt := 113) hx hb dL_ticks_106 (by decide) (fun c_106 => ?_) (fun c_106 => ?_)
                · refine lv_sipush (v := 1000) hx hb dL_ticks_113 (by decide) ?_
                  refine lv_iload hx hb dL_ticks_116 (lv_at hl 1 rfl) ?_
                  refine lv_isub hx hb dL_ticks_118 ?_
                  refine lv_iconst (v := 4) hx hb dL_ticks_119 (by decide) ?_
                  refine lv_idiv hx hb dL_ticks_120 (by decide) ?_
                  exact J_106 _ _ _ hI ((if_pos c_106).symm)
                · refine lv_iconst (v := 1) hx hb dL_ticks_109 (by decide) ?_
                  refine lv_goto (tgt := 121) hx hb dL_ticks_110 (by decide) ?_
                  exact J_106 _ _ _ hI ((if_neg c_106).symm)
              refine lv_icmp_ne (tgt := 96) hx hb dL_ticks_89 (by decide) (fun c_89 => ?_) (fun c_89 => ?_)
              · refine lv_iconst (v := 0) hx hb dL_ticks_96 (by decide) ?_
                exact J_89 _ _ _ hI ((if_neg c_89).symm)
              · refine lv_iconst (v := 1) hx hb dL_ticks_92 (by decide) ?_
                refine lv_goto (tgt := 97) hx hb dL_ticks_93 (by decide) ?_
                exact J_89 _ _ _ hI ((if_pos c_89).symm)
        exact loop_63 (9) 0 fg fu (by omega) (by omega) hg hu _ _ hI ls (lv_sub hl [0, 2, 3, 1, 4, 5, 6, 7] rfl)
  exact loop_22 (9) 0 (fun _ => 0) (fun _ => 0) (by omega) (Nat.zero_le _) tOk_0 tOk_0 _ _ hI ls (lv_sub hl [0, 1, 4, 3, 2, 5] rfl)


