set_option maxHeartbeats 4000000 in
set_option maxRecDepth 100000 in
theorem kL_ahead (l : Launch) (D : va_G) (ct : Nat → ClassId) (sz : Nat) (o : Nat → Nat) (ad : Nat → Nat → Nat) {A : AS} {W0 : va_W} {b : Nat} (hX0 : CX ct o ad A W0) (ok : LOk b A) (d n : Nat) (hd : d < nOf (aV A)) (hn5 : n ≤ 500) (hb14 : b + 14000 < 2 ^ 20) : Met l yL_ahead wsL_ahead ({ frames := 6, cells := 0, slots := 0, locals := 138 }) (muPS D ct W0 sz [.ref (o 0), .int (nI d), .int (nI n)]) (mxQ D ct W0 sz ((1, A) : Int32 × AS) (fun _ u => ∃ A9, CX ct o ad A9 u ∧ LOk (b + 14000) A9 ∧ nOf (aV A9) = nOf (aV A))) 0 0 (va_A W0 sz) := by
  refine Met.ofW (cc := cL_ahead) (maxL := 5) (ret := (some .boolean)) (by decide) rfl ?_
  intro p e s m args below meth c s₁ B hml hv
  obtain ⟨rfl, hZ, hsz, hP, hK, hN, hD0⟩ := hv
  have hx := B.exec
  have hb := B.bytes
  have hr := B.returns
  have hts := atoms_spec (ws := wsL_ahead) B.pre
  have hown : s.vm.findClass RL = some m.cls := findClass_of_methodNamed B.named
  have hlocks := B.notSynchronized
  subst hsz
  have hD := hD0.self (sz := s.heap.size)
  obtain ⟨Q, hQ⟩ : ∃ Q : State → Prop, Q = MQ below (mxQ D ct W0 s.heap.size ((1, A) : Int32 × AS) (fun _ u => ∃ A9, CX ct o ad A9 u ∧ LOk (b + 14000) A9 ∧ nOf (aV A9) = nOf (aV A))) #[.ref (o 0), .int (nI d), .int (nI n)] s 0 0 (va_A W0 s.heap.size) := ⟨_, rfl⟩
  show W p l e _ s m #[.ref (o 0), .int (nI d), .int (nI n)] below meth c s.heap [] 0 0 (MQ below (mxQ D ct W0 s.heap.size ((1, A) : Int32 × AS) (fun _ u => ∃ A9, CX ct o ad A9 u ∧ LOk (b + 14000) A9 ∧ nOf (aV A9) = nOf (aV A))) #[.ref (o 0), .int (nI d), .int (nI n)] s 0 0 (va_A W0 s.heap.size)) _
  rw [← hQ]
  obtain ⟨Z, hZe⟩ : ∃ Z : Nat → Prop, va_A W0 s.heap.size = Z := ⟨_, rfl⟩
  rw [hZe] at hD hZ
  have hA : ∀ q : Nat, s.heap.size ≤ q → Z q := fun q h => by rw [← hZe]; exact Or.inr h
  have C : LF p s m c cL_ahead 5 #[.ref (o 0), .int (nI d), .int (nI n)] wsL_ahead D ct Z := ⟨⟨hx, hb, hml, hown, hts⟩, hK, hN, hZ, hA⟩
  have hI := lq_begin hX0 hP hD
  have hl := lv_entry ([.ref (o 0), .int (nI d), .int (nI n)]) (n := 5) (Nat.le_of_ble_eq_true rfl)
  rw [lg_entry_eq]
  generalize (lg_sl ([.ref (o 0), .int (nI d), .int (nI n)]) ++ List.replicate (5 - (lg_sl ([.ref (o 0), .int (nI d), .int (nI n)])).length) Slot.unset).toArray = ls at hl ⊢
  have hl : lv_has ls 5 [(0, .ref (o 0)), (1, .int (nI d)), (2, .int (nI n))] := hl
  refine lv_aload_n hx hb dL_ahead_0 rfl (lv_at hl 0 rfl) ?_
  refine lv_iload_n hx hb dL_ahead_1 rfl (lv_at hl 1 rfl) ?_
  refine lv_iload_n hx hb dL_ahead_2 rfl (lv_at hl 2 rfl) ?_
  refine lq_call C hI (As := [.int (nI d), .int (nI n)]) (rest := []) (fun W1 sz hX => cx_litIn l D ct sz o ad hX ok.1 ok.2.2 (nI d) (nI n)) (cwV 2 hts gL_ahead_X5_litIn rfl rfl rfl (by decide +kernel) ⟨Nat.le_of_ble_eq_true rfl, Nat.le_of_ble_eq_true rfl⟩) rfl hl.1 rfl (Nat.le_of_ble_eq_true rfl) dL_ahead_3 ⟨Nat.le_of_ble_eq_true rfl, Nat.le_of_ble_eq_true rfl⟩ (r := pLit (pTks (aV A) n) d) (ql ok.inv hd hn5) (A1 := A) (rfl) (fun H locs hI => ?_)
  refine lv_istore_n (lv' := [(3, .int (pLit (pTks (aV A) n) d)), (0, .ref (o 0)), (1, .int (nI d)), (2, .int (nI n))]) hx hb dL_ahead_6 rfl hl (by decide) rfl (fun ls hl => ?_)
  refine lv_iload_n hx hb dL_ahead_7 rfl (lv_at hl 3 rfl) ?_
  refine lv_if_le (tgt := 21) hx hb dL_ahead_8 (by decide) (fun c_8 => ?_) (fun c_8 => ?_)
  · have hz : n = 0 := Nat.le_zero.mp (nI_le' (by omega) (by decide) c_8)
    refine lv_aload_n hx hb dL_ahead_21 rfl (lv_at hl 1 rfl) ?_
    refine lv_iload_n hx hb dL_ahead_22 rfl (lv_at hl 2 rfl) ?_
    refine lv_iconst (v := 0) hx hb dL_ahead_23 (by decide) ?_
    refine lq_call C hI (As := [.int (nI d), .int 0]) (rest := []) (fun W1 sz hX => cx_litIn l D ct sz o ad hX ok.1 ok.2.2 (nI d) 0) (cwV 2 hts gL_ahead_X5_litIn rfl rfl rfl (by decide +kernel) ⟨Nat.le_of_ble_eq_true rfl, Nat.le_of_ble_eq_true rfl⟩) rfl hl.1 rfl (Nat.le_of_ble_eq_true rfl) dL_ahead_24 ⟨Nat.le_of_ble_eq_true rfl, Nat.le_of_ble_eq_true rfl⟩ (r := pLit (pTks (aV A) 0) d) (ql ok.inv hd (j := 0) (by decide)) (A1 := A) (rfl) (fun H locs hI => ?_)
    refine lv_iload_n hx hb dL_ahead_27 rfl (lv_at hl 0 rfl) ?_
    refine bicmp_ne_f (tgt := 35) hx hb dL_ahead_28 (by decide) (by rw [hz]) ?_
    refine lv_iconst (v := 1) hx hb dL_ahead_31 (by decide) ?_
    refine lv_goto (tgt := 36) hx hb dL_ahead_32 (by decide) ?_
    refine lv_istore (lv' := [(4, .int 1), (3, .int (pLit (pTks (aV A) n) d)), (0, .ref (o 0)), (1, .int (nI d)), (2, .int (nI n))]) hx hb dL_ahead_36 hl (by decide) rfl (fun ls hl => ?_)
    refine lv_iload hx hb dL_ahead_38 (lv_at hl 0 rfl) ?_
    refine bif_eq_f (tgt := 92) hx hb dL_ahead_40 (by decide) (by decide) ?_
    refine lv_iload_n hx hb dL_ahead_43 rfl (lv_at hl 4 rfl) ?_
    refine bif_eq_t (tgt := 64) hx hb dL_ahead_44 (by decide) (by rw [hz]; rfl) ?_
    refine lv_aload_n hx hb dL_ahead_64 rfl (lv_at hl 2 rfl) ?_
    refine lv_iload_n hx hb dL_ahead_65 rfl (lv_at hl 3 rfl) ?_
    refine lv_sipush (v := 501) hx hb dL_ahead_66 (by decide) ?_
    refine lq_call C hI (As := [.int (nI d), .int 501]) (rest := []) (fun W1 sz hX => cx_litIn l D ct sz o ad hX ok.1 ok.2.2 (nI d) 501) (cwV 2 hts gL_ahead_X5_litIn rfl rfl rfl (by decide +kernel) ⟨Nat.le_of_ble_eq_true rfl, Nat.le_of_ble_eq_true rfl⟩) rfl hl.1 rfl (Nat.le_of_ble_eq_true rfl) dL_ahead_69 ⟨Nat.le_of_ble_eq_true rfl, Nat.le_of_ble_eq_true rfl⟩ (r := -2) (ql_bad ok.inv hd (by decide)) (A1 := A) (rfl) (fun H locs hI => ?_)
    refine lv_bipush (v := (-2)) hx hb dL_ahead_72 (by decide) ?_
    refine bicmp_ne_f (tgt := 92) hx hb dL_ahead_74 (by decide) (by decide) ?_
    refine lv_aload_n hx hb dL_ahead_77 rfl (lv_at hl 2 rfl) ?_
    refine lv_iload_n hx hb dL_ahead_78 rfl (lv_at hl 3 rfl) ?_
    refine lv_iconst (v := (-1)) hx hb dL_ahead_79 (by decide) ?_
    refine lq_call C hI (As := [.int (nI d), .int (-1)]) (rest := []) (fun W1 sz hX => cx_litIn l D ct sz o ad hX ok.1 ok.2.2 (nI d) (-1)) (cwV 2 hts gL_ahead_X5_litIn rfl rfl rfl (by decide +kernel) ⟨Nat.le_of_ble_eq_true rfl, Nat.le_of_ble_eq_true rfl⟩) rfl hl.1 rfl (Nat.le_of_ble_eq_true rfl) dL_ahead_80 ⟨Nat.le_of_ble_eq_true rfl, Nat.le_of_ble_eq_true rfl⟩ (r := -2) (ql_bad ok.inv hd (by decide)) (A1 := A) (rfl) (fun H locs hI => ?_)
    refine lv_bipush (v := (-2)) hx hb dL_ahead_83 (by decide) ?_
    refine bicmp_ne_f (tgt := 92) hx hb dL_ahead_85 (by decide) (by decide) ?_
    refine lv_iconst (v := 1) hx hb dL_ahead_88 (by decide) ?_
    refine lv_goto (tgt := 93) hx hb dL_ahead_89 (by decide) ?_
    have h9 := lq_end (args := #[.ref (o 0), .int (nI d), .int (nI n)]) (v := 1) (F := ((1, A) : Int32 × AS)) (Xp := fun _ u => ∃ A9, CX ct o ad A9 u ∧ LOk (b + 14000) A9 ∧ nOf (aV A9) = nOf (aV A)) hI hZe (rfl) (fun W1 h9 => ⟨A, h9, ok.mono (by omega) hb14, rfl⟩)
    subst hQ
    exact W.zret (v := 1) hx hb hr (by decide) h9.1 h9.2 dL_ahead_93
  · have hn1 : 1 ≤ n := nI_nle' (b := n) (a := 0) (by omega) (by decide) c_8
    obtain ⟨A2, eA2, eA3, hv2, ok2, hd2⟩ : ∃ A2 : AS, (f_pass A (nI n)).2 = A2 ∧ A2 = aRec A (pTks (aV A) n) ∧ aV A2 = pTks (aV A) n ∧ LOk (b + 7000) A2 ∧ d < nOf (aV A2) := ⟨_, rfl, congrArg Prod.snd (qpn hn1 hn5), congrArg (fun q : Int32 × AS => aV q.2) (qpn hn1 hn5), l_pass ok (by omega), by rw [congrArg (fun q : Int32 × AS => aV q.2) (qpn hn1 hn5)]; exact Nat.lt_of_lt_of_eq hd (tks_nn ok.inv n).symm⟩
    refine lv_aload_n hx hb dL_ahead_11 rfl (lv_at hl 1 rfl) ?_
    refine lv_iload_n hx hb dL_ahead_12 rfl (lv_at hl 3 rfl) ?_
    refine lq_call C hI (As := [.int (nI n)]) (rest := []) (fun W1 sz hX => cx_pass l D ct sz o ad hX ok.1 ok.2.2 (nI n)) (cwV 1 hts gL_ahead_X5_pass rfl rfl rfl (by decide +kernel) ⟨Nat.le_of_ble_eq_true rfl, Nat.le_of_ble_eq_true rfl⟩) rfl hl.1 rfl (Nat.le_of_ble_eq_true rfl) dL_ahead_13 ⟨Nat.le_of_ble_eq_true rfl, Nat.le_of_ble_eq_true rfl⟩ (r := pTkN (aV A) n) (congrArg Prod.fst (qpn hn1 hn5)) (A1 := A2) (eA2) (fun H locs hI => ?_)
    refine bif_ge_t (tgt := 21) hx hb dL_ahead_16 (by decide) (pTkN_pos hn5) ?_
    refine lv_aload_n hx hb dL_ahead_21 rfl (lv_at hl 1 rfl) ?_
    refine lv_iload_n hx hb dL_ahead_22 rfl (lv_at hl 2 rfl) ?_
    refine lv_iconst (v := 0) hx hb dL_ahead_23 (by decide) ?_
    refine lq_call C hI (As := [.int (nI d), .int 0]) (rest := []) (fun W1 sz hX => cx_litIn l D ct sz o ad hX ok2.1 ok2.2.2 (nI d) 0) (cwV 2 hts gL_ahead_X5_litIn rfl rfl rfl (by decide +kernel) ⟨Nat.le_of_ble_eq_true rfl, Nat.le_of_ble_eq_true rfl⟩) rfl hl.1 rfl (Nat.le_of_ble_eq_true rfl) dL_ahead_24 ⟨Nat.le_of_ble_eq_true rfl, Nat.le_of_ble_eq_true rfl⟩ (r := pLit (pTks (aV A2) 0) d) (ql ok2.inv hd2 (j := 0) (by decide)) (A1 := A2) (rfl) (fun H locs hI => ?_)
    refine lv_iload_n hx hb dL_ahead_27 rfl (lv_at hl 0 rfl) ?_
    refine bicmp_ne_f (tgt := 35) hx hb dL_ahead_28 (by decide) (by rw [← pTks_z, hv2]) ?_
    refine lv_iconst (v := 1) hx hb dL_ahead_31 (by decide) ?_
    refine lv_goto (tgt := 36) hx hb dL_ahead_32 (by decide) ?_
    refine lv_istore (lv' := [(4, .int 1), (3, .int (pLit (pTks (aV A) n) d)), (0, .ref (o 0)), (1, .int (nI d)), (2, .int (nI n))]) hx hb dL_ahead_36 hl (by decide) rfl (fun ls hl => ?_)
    refine lv_iload hx hb dL_ahead_38 (lv_at hl 0 rfl) ?_
    refine bif_eq_f (tgt := 92) hx hb dL_ahead_40 (by decide) (by decide) ?_
    refine lv_iload_n hx hb dL_ahead_43 rfl (lv_at hl 4 rfl) ?_
    refine bif_eq_f (tgt := 64) hx hb dL_ahead_44 (by decide) (nI_ne0 hn1 (by omega)) ?_
    obtain ⟨A3, eB3, hu3, hv3, ok3, hd3⟩ : ∃ A3 : AS, (f_undo A2).2 = A3 ∧ (f_undo A2).1 = nI (kPush (aK A) - 1) ∧ aV A3 = aV A ∧ LOk (b + 14000) A3 ∧ d < nOf (aV A3) := by
      subst eA3
      exact ⟨_, rfl, q_undo.1, q_undo.2, l_undo ok ok2.1 hb14, by rw [q_undo.2]; exact hd⟩
    refine lv_aload_n hx hb dL_ahead_47 rfl (lv_at hl 2 rfl) ?_
    refine lq_call C hI (As := []) (rest := []) (fun W1 sz hX => cx_undo l D ct sz o ad hX ok2.1 ok2.2.2 ) (cwV 0 hts gL_ahead_X5_undo rfl rfl rfl (by decide +kernel) ⟨Nat.le_of_ble_eq_true rfl, Nat.le_of_ble_eq_true rfl⟩) rfl hl.1 rfl (Nat.le_of_ble_eq_true rfl) dL_ahead_48 ⟨Nat.le_of_ble_eq_true rfl, Nat.le_of_ble_eq_true rfl⟩ (r := nI (kPush (aK A) - 1)) (hu3) (A1 := A3) (eB3) (fun H locs hI => ?_)
    refine bif_lt_f (tgt := 92) hx hb dL_ahead_51 (by decide) (nI_pos (by have := ok.1.2.1; unfold kPush; split <;> omega)) ?_
    refine lv_aload_n hx hb dL_ahead_54 rfl (lv_at hl 2 rfl) ?_
    refine lv_iload_n hx hb dL_ahead_55 rfl (lv_at hl 3 rfl) ?_
    refine lv_iload_n hx hb dL_ahead_56 rfl (lv_at hl 4 rfl) ?_
    refine lq_call C hI (As := [.int (nI d), .int (nI n)]) (rest := []) (fun W1 sz hX => cx_litIn l D ct sz o ad hX ok3.1 ok3.2.2 (nI d) (nI n)) (cwV 2 hts gL_ahead_X5_litIn rfl rfl rfl (by decide +kernel) ⟨Nat.le_of_ble_eq_true rfl, Nat.le_of_ble_eq_true rfl⟩) rfl hl.1 rfl (Nat.le_of_ble_eq_true rfl) dL_ahead_57 ⟨Nat.le_of_ble_eq_true rfl, Nat.le_of_ble_eq_true rfl⟩ (r := pLit (pTks (aV A3) n) d) (ql ok3.inv hd3 hn5) (A1 := A3) (rfl) (fun H locs hI => ?_)
    refine lv_iload_n hx hb dL_ahead_60 rfl (lv_at hl 1 rfl) ?_
    refine bicmp_ne_f (tgt := 92) hx hb dL_ahead_61 (by decide) (by rw [hv3]) ?_
    refine lv_aload_n hx hb dL_ahead_64 rfl (lv_at hl 2 rfl) ?_
    refine lv_iload_n hx hb dL_ahead_65 rfl (lv_at hl 3 rfl) ?_
    refine lv_sipush (v := 501) hx hb dL_ahead_66 (by decide) ?_
    refine lq_call C hI (As := [.int (nI d), .int 501]) (rest := []) (fun W1 sz hX => cx_litIn l D ct sz o ad hX ok3.1 ok3.2.2 (nI d) 501) (cwV 2 hts gL_ahead_X5_litIn rfl rfl rfl (by decide +kernel) ⟨Nat.le_of_ble_eq_true rfl, Nat.le_of_ble_eq_true rfl⟩) rfl hl.1 rfl (Nat.le_of_ble_eq_true rfl) dL_ahead_69 ⟨Nat.le_of_ble_eq_true rfl, Nat.le_of_ble_eq_true rfl⟩ (r := -2) (ql_bad ok3.inv hd3 (by decide)) (A1 := A3) (rfl) (fun H locs hI => ?_)
    refine lv_bipush (v := (-2)) hx hb dL_ahead_72 (by decide) ?_
    refine bicmp_ne_f (tgt := 92) hx hb dL_ahead_74 (by decide) (by decide) ?_
    refine lv_aload_n hx hb dL_ahead_77 rfl (lv_at hl 2 rfl) ?_
    refine lv_iload_n hx hb dL_ahead_78 rfl (lv_at hl 3 rfl) ?_
    refine lv_iconst (v := (-1)) hx hb dL_ahead_79 (by decide) ?_
    refine lq_call C hI (As := [.int (nI d), .int (-1)]) (rest := []) (fun W1 sz hX => cx_litIn l D ct sz o ad hX ok3.1 ok3.2.2 (nI d) (-1)) (cwV 2 hts gL_ahead_X5_litIn rfl rfl rfl (by decide +kernel) ⟨Nat.le_of_ble_eq_true rfl, Nat.le_of_ble_eq_true rfl⟩) rfl hl.1 rfl (Nat.le_of_ble_eq_true rfl) dL_ahead_80 ⟨Nat.le_of_ble_eq_true rfl, Nat.le_of_ble_eq_true rfl⟩ (r := -2) (ql_bad ok3.inv hd3 (by decide)) (A1 := A3) (rfl) (fun H locs hI => ?_)
    refine lv_bipush (v := (-2)) hx hb dL_ahead_83 (by decide) ?_
    refine bicmp_ne_f (tgt := 92) hx hb dL_ahead_85 (by decide) (by decide) ?_
    refine lv_iconst (v := 1) hx hb dL_ahead_88 (by decide) ?_
    refine lv_goto (tgt := 93) hx hb dL_ahead_89 (by decide) ?_
    have h9 := lq_end (args := #[.ref (o 0), .int (nI d), .int (nI n)]) (v := 1) (F := ((1, A) : Int32 × AS)) (Xp := fun _ u => ∃ A9, CX ct o ad A9 u ∧ LOk (b + 14000) A9 ∧ nOf (aV A9) = nOf (aV A)) hI hZe (rfl) (fun W1 h9 => ⟨A3, h9, ok3, by rw [hv3]⟩)
    subst hQ
    exact W.zret (v := 1) hx hb hr (by decide) h9.1 h9.2 dL_ahead_93


set_option maxHeartbeats 4000000 in
set_option maxRecDepth 100000 in
theorem kL_steady (l : Launch) (D : va_G) (ct : Nat → ClassId) (sz : Nat) (o : Nat → Nat) (ad : Nat → Nat → Nat) {A : AS} {W0 : va_W} {b : Nat} (hX0 : CX ct o ad A W0) (ok : LOk b A) (d : Nat) (hd : d < nOf (aV A)) : Met l yL_steady wsL_steady ({ frames := 4, cells := 0, slots := 0, locals := 95 }) (muPS D ct W0 sz [.ref (o 0), .int (nI d)]) (mxQ D ct W0 sz ((1, A) : Int32 × AS) (CX ct o ad)) 0 0 (va_A W0 sz) := by
  refine Met.ofW (cc := cL_steady) (maxL := 7) (ret := (some .boolean)) (by decide) rfl ?_
  intro p e s m args below meth c s₁ B hml hv
  obtain ⟨rfl, hZ, hsz, hP, hK, hN, hD0⟩ := hv
  have hx := B.exec
  have hb := B.bytes
  have hr := B.returns
  have hts := atoms_spec (ws := wsL_steady) B.pre
  have hown : s.vm.findClass RL = some m.cls := findClass_of_methodNamed B.named
  have hlocks := B.notSynchronized
  subst hsz
  have hD := hD0.self (sz := s.heap.size)
  obtain ⟨Q, hQ⟩ : ∃ Q : State → Prop, Q = MQ below (mxQ D ct W0 s.heap.size ((1, A) : Int32 × AS) (CX ct o ad)) #[.ref (o 0), .int (nI d)] s 0 0 (va_A W0 s.heap.size) := ⟨_, rfl⟩
  show W p l e _ s m #[.ref (o 0), .int (nI d)] below meth c s.heap [] 0 0 (MQ below (mxQ D ct W0 s.heap.size ((1, A) : Int32 × AS) (CX ct o ad)) #[.ref (o 0), .int (nI d)] s 0 0 (va_A W0 s.heap.size)) _
  rw [← hQ]
  obtain ⟨Z, hZe⟩ : ∃ Z : Nat → Prop, va_A W0 s.heap.size = Z := ⟨_, rfl⟩
  rw [hZe] at hD hZ
  have hA : ∀ q : Nat, s.heap.size ≤ q → Z q := fun q h => by rw [← hZe]; exact Or.inr h
  have C : LF p s m c cL_steady 7 #[.ref (o 0), .int (nI d)] wsL_steady D ct Z := ⟨⟨hx, hb, hml, hown, hts⟩, hK, hN, hZ, hA⟩
  have hI := lq_begin hX0 hP hD
  have hl := lv_entry ([.ref (o 0), .int (nI d)]) (n := 7) (Nat.le_of_ble_eq_true rfl)
  rw [lg_entry_eq]
  generalize (lg_sl ([.ref (o 0), .int (nI d)]) ++ List.replicate (7 - (lg_sl ([.ref (o 0), .int (nI d)])).length) Slot.unset).toArray = ls at hl ⊢
  have hl : lv_has ls 7 [(0, .ref (o 0)), (1, .int (nI d))] := hl
  obtain ⟨L9, M9, q9, eL, eM, eQ, bL, bM, q0, q31⟩ := st_par ok.inv hd
  refine lv_aload_n hx hb dL_steady_0 rfl (lv_at hl 0 rfl) ?_
  refine lv_iload_n hx hb dL_steady_1 rfl (lv_at hl 1 rfl) ?_
  refine lv_iconst (v := 5) hx hb dL_steady_2 (by decide) ?_
  refine lq_call C hI (As := [.int (nI d), .int 5]) (rest := []) (fun W1 sz hX => cx_digit l D ct sz o ad hX ok.1 ok.2.2 (nI d) 5) (cwV 2 hts gL_steady_X5_digit rfl rfl rfl (by decide +kernel) ⟨Nat.le_of_ble_eq_true rfl, Nat.le_of_ble_eq_true rfl⟩) rfl hl.1 rfl (Nat.le_of_ble_eq_true rfl) dL_steady_3 ⟨Nat.le_of_ble_eq_true rfl, Nat.le_of_ble_eq_true rfl⟩ (r := nI L9) ((qd_5 ok.inv hd).trans eL) (A1 := A) (rfl) (fun H locs hI => ?_)
  refine lv_istore_n (lv' := [(2, .int (nI L9)), (0, .ref (o 0)), (1, .int (nI d))]) hx hb dL_steady_6 rfl hl (by decide) rfl (fun ls hl => ?_)
  refine lv_aload_n hx hb dL_steady_7 rfl (lv_at hl 1 rfl) ?_
  refine lv_iconst (v := 2) hx hb dL_steady_8 (by decide) ?_
  refine lq_call C hI (As := [.int 2]) (rest := []) (fun W1 sz hX => cx_count l D ct sz o ad hX ok.1 ok.2.2 2) (cwV 1 hts gL_steady_X5_count rfl rfl rfl (by decide +kernel) ⟨Nat.le_of_ble_eq_true rfl, Nat.le_of_ble_eq_true rfl⟩) rfl hl.1 rfl (Nat.le_of_ble_eq_true rfl) dL_steady_9 ⟨Nat.le_of_ble_eq_true rfl, Nat.le_of_ble_eq_true rfl⟩ (r := pLen (aV A)) (qc_2) (A1 := A) (rfl) (fun H locs hI => ?_)
  refine lv_iload_n hx hb dL_steady_12 rfl (lv_at hl 0 rfl) ?_
  refine lv_isub hx hb dL_steady_13 ?_
  refine lv_as (y := nI M9) (by rw [← eL]; exact eM) ?_
  refine lv_istore_n (lv' := [(3, .int (nI M9)), (2, .int (nI L9)), (0, .ref (o 0)), (1, .int (nI d))]) hx hb dL_steady_14 rfl hl (by decide) rfl (fun ls hl => ?_)
  refine lv_aload_n hx hb dL_steady_15 rfl (lv_at hl 2 rfl) ?_
  refine lv_iload_n hx hb dL_steady_16 rfl (lv_at hl 3 rfl) ?_
  refine lq_call C hI (As := [.int (nI d)]) (rest := []) (fun W1 sz hX => cx_steadyGlow l D ct sz o ad hX ok.1 ok.2.2 (nI d)) (cwV 1 hts gL_steady_X5_steadyGlow rfl rfl rfl (by decide +kernel) ⟨Nat.le_of_ble_eq_true rfl, Nat.le_of_ble_eq_true rfl⟩) rfl hl.1 rfl (Nat.le_of_ble_eq_true rfl) dL_steady_17 ⟨Nat.le_of_ble_eq_true rfl, Nat.le_of_ble_eq_true rfl⟩ (r := stG L9 M9 q9) (qst_G ok.inv hd eL eM eQ bL bM q31) (A1 := A) (rfl) (fun H locs hI => ?_)
  refine lv_istore (lv' := [(4, .int (stG L9 M9 q9)), (3, .int (nI M9)), (2, .int (nI L9)), (0, .ref (o 0)), (1, .int (nI d))]) hx hb dL_steady_20 hl (by decide) rfl (fun ls hl => ?_)
  refine lv_iload_n hx hb dL_steady_22 rfl (lv_at hl 2 rfl) ?_
  refine lv_if_ne (tgt := 37) hx hb dL_steady_23 (by decide) (fun c_23 => ?_) (fun c_23 => ?_)
  · have hL0 : ¬ L9 = 0 := fun z => c_23 (by rw [z]; rfl)
    have hL1 : 0 < L9 := Nat.pos_of_ne_zero hL0
    refine lv_iload hx hb dL_steady_37 (lv_at hl 0 rfl) ?_
    refine lv_as (y := nI (itN (dN q9) 0 (pSt L9 M9 q9))) (by unfold stG; rw [if_neg hL0]; rfl) ?_
    refine lv_istore (lv' := [(5, .int (nI (itN (dN q9) 0 (pSt L9 M9 q9)))), (4, .int (stG L9 M9 q9)), (3, .int (nI M9)), (2, .int (nI L9)), (0, .ref (o 0)), (1, .int (nI d))]) hx hb dL_steady_39 hl (by decide) rfl (fun ls hl => ?_)
    refine lv_iconst (v := 0) hx hb dL_steady_41 (by decide) ?_
    refine lv_istore (lv' := [(6, .int 0), (5, .int (nI (itN (dN q9) 0 (pSt L9 M9 q9)))), (4, .int (stG L9 M9 q9)), (3, .int (nI M9)), (2, .int (nI L9)), (0, .ref (o 0)), (1, .int (nI d))]) hx hb dL_steady_42 hl (by decide) rfl (fun ls hl => ?_)
    have loop_44 : ∀ (n_44 : Nat) (k : Nat), (M9 + 1 ≤ k + n_44) → (k ≤ M9) → ∀ (H : Heap) (locs : List Loc), LH s D ct o ad Z [] A H locs → ∀ (ls : Array Slot), lv_has ls 7 [(5, .int (nI (itN (dN q9) k (pSt L9 M9 q9)))), (6, .int (nI k)), (2, .int (nI L9)), (3, .int (nI M9)), (4, .int (stG L9 M9 q9)), (0, .ref (o 0)), (1, .int (nI d))] → W p l e (headSpec wsL_steady ({ frames := 4, cells := 0, slots := 0, locals := 95 })).room s m #[.ref (o 0), .int (nI d)] below meth c H locs 0 0 Q (F0 m 44 ls []) := by
      intro n_44
      induction n_44 with
      | zero =>
        intro k hn hkM
        exact absurd hn (by omega)
      | succ n_44 ih_44 =>
        intro k hn hkM H locs hI ls hl
        refine lv_iload hx hb dL_steady_44 (lv_at hl 1 rfl) ?_
        refine lv_iload_n hx hb dL_steady_46 rfl (lv_at hl 3 rfl) ?_
        refine lv_icmp_ge (tgt := 85) hx hb dL_steady_47 (by decide) (fun c_47 => ?_) (fun c_47 => ?_)
        · have ek : k = M9 := Nat.le_antisymm hkM (nI_le' (by omega) (by omega) c_47)
          rw [ek] at hl
          refine lv_iconst (v := 0) hx hb dL_steady_85 (by decide) ?_
          refine lv_istore (lv' := [(6, .int 0), (5, .int (nI (itN (dN q9) M9 (pSt L9 M9 q9)))), (2, .int (nI L9)), (3, .int (nI M9)), (4, .int (stG L9 M9 q9)), (0, .ref (o 0)), (1, .int (nI d))]) hx hb dL_steady_86 hl (by decide) rfl (fun ls hl => ?_)
          have loop_88 : ∀ (n_88 : Nat) (k : Nat), (L9 + 1 ≤ k + n_88) → (k ≤ L9) → ∀ (H : Heap) (locs : List Loc), LH s D ct o ad Z [] A H locs → ∀ (ls : Array Slot), lv_has ls 7 [(5, .int (nI (itN bN k (itN (dN q9) M9 (pSt L9 M9 q9))))), (6, .int (nI k)), (2, .int (nI L9)), (3, .int (nI M9)), (4, .int (stG L9 M9 q9)), (0, .ref (o 0)), (1, .int (nI d))] → W p l e (headSpec wsL_steady ({ frames := 4, cells := 0, slots := 0, locals := 95 })).room s m #[.ref (o 0), .int (nI d)] below meth c H locs 0 0 Q (F0 m 88 ls []) := by
            intro n_88
            induction n_88 with
            | zero =>
              intro k hn hkL
              exact absurd hn (by omega)
            | succ n_88 ih_88 =>
              intro k hn hkL H locs hI ls hl
              refine lv_iload hx hb dL_steady_88 (lv_at hl 1 rfl) ?_
              refine lv_iload_n hx hb dL_steady_90 rfl (lv_at hl 2 rfl) ?_
              refine lv_icmp_ge (tgt := 143) hx hb dL_steady_91 (by decide) (fun c_91 => ?_) (fun c_91 => ?_)
              · have ek : k = L9 := Nat.le_antisymm hkL (nI_le' (by omega) (by omega) c_91)
                rw [ek] at hl
                refine lv_iload hx hb dL_steady_143 (lv_at hl 0 rfl) ?_
                refine lv_iload hx hb dL_steady_145 (lv_at hl 4 rfl) ?_
                refine bicmp_ne_f (tgt := 162) hx hb dL_steady_147 (by decide) (by unfold stG; rw [if_neg hL0, pSt_fix q0 hL1]) ?_
                refine lv_iload hx hb dL_steady_150 (lv_at hl 4 rfl) ?_
                refine lv_sipush (v := 250) hx hb dL_steady_152 (by decide) ?_
                refine bicmp_lt_f (tgt := 162) hx hb dL_steady_155 (by decide) (stG_lt hL0) ?_
                refine lv_iconst (v := 1) hx hb dL_steady_158 (by decide) ?_
                refine lv_goto (tgt := 163) hx hb dL_steady_159 (by decide) ?_
                have h9 := lq_end (args := #[.ref (o 0), .int (nI d)]) (v := 1) (F := ((1, A) : Int32 × AS)) (Xp := CX ct o ad) hI hZe (rfl) (fun W1 h9 => h9)
                subst hQ
                exact W.zret (v := 1) hx hb hr (by decide) h9.1 h9.2 dL_steady_163
              · have hk : k < L9 := nI_nle' (by omega) (by omega) c_91
                refine lv_iload hx hb dL_steady_94 (lv_at hl 0 rfl) ?_
                refine lv_iload hx hb dL_steady_96 (lv_at hl 0 rfl) ?_
                refine lv_sipush (v := 996) hx hb dL_steady_98 (by decide) ?_
                have J_101 : ∀ (x9 : Int32) (H : Heap) (locs : List Loc), LH s D ct o ad Z [] A H locs → x9 = (if nI (itN bN k (itN (dN q9) M9 (pSt L9 M9 q9))) ≤ 996 then (1000 - nI (itN bN k (itN (dN q9) M9 (pSt L9 M9 q9)))) / 4 else 1) → W p l e (headSpec wsL_steady ({ frames := 4, cells := 0, slots := 0, locals := 95 })).room s m #[.ref (o 0), .int (nI d)] below meth c H locs 0 0 Q (F0 m 116 ls [.int x9, .int (nI (itN bN k (itN (dN q9) M9 (pSt L9 M9 q9))))]) := by
                  intro x9 H locs hI e9
                  subst e9
                  refine lv_iadd hx hb dL_steady_116 ?_
                  refine lv_istore (lv' := [(5, .int ((nI (itN bN k (itN (dN q9) M9 (pSt L9 M9 q9)))) + (if nI (itN bN k (itN (dN q9) M9 (pSt L9 M9 q9))) ≤ 996 then (1000 - nI (itN bN k (itN (dN q9) M9 (pSt L9 M9 q9)))) / 4 else 1))), (6, .int (nI k)), (2, .int (nI L9)), (3, .int (nI M9)), (4, .int (stG L9 M9 q9)), (0, .ref (o 0)), (1, .int (nI d))]) hx hb dL_steady_117 hl (by decide) rfl (fun ls hl => ?_)
                  refine lv_iload hx hb dL_steady_119 (lv_at hl 0 rfl) ?_
                  refine lv_sipush (v := 1000) hx hb dL_steady_121 (by decide) ?_
                  have J_124 : ∀ (x9 : Int32) (H : Heap) (locs : List Loc), LH s D ct o ad Z [] A H locs → x9 = nI (itN bN (k + 1) (itN (dN q9) M9 (pSt L9 M9 q9))) → W p l e (headSpec wsL_steady ({ frames := 4, cells := 0, slots := 0, locals := 95 })).room s m #[.ref (o 0), .int (nI d)] below meth c H locs 0 0 Q (F0 m 135 ls [.int x9]) := by
                    intro x9 H locs hI e9
                    subst e9
                    refine lv_istore (lv' := [(5, .int (nI (itN bN (k + 1) (itN (dN q9) M9 (pSt L9 M9 q9))))), (6, .int (nI k)), (2, .int (nI L9)), (3, .int (nI M9)), (4, .int (stG L9 M9 q9)), (0, .ref (o 0)), (1, .int (nI d))]) hx hb dL_steady_135 hl (by decide) rfl (fun ls hl => ?_)
                    refine lv_iinc (v := nI (k + 1)) (lv' := [(6, .int (nI (k + 1))), (5, .int (nI (itN bN (k + 1) (itN (dN q9) M9 (pSt L9 M9 q9))))), (2, .int (nI L9)), (3, .int (nI M9)), (4, .int (stG L9 M9 q9)), (0, .ref (o 0)), (1, .int (nI d))]) hx hb dL_steady_137 hl (k := 1) rfl ((nI_succ k).symm) (by decide) rfl (fun ls hl => ?_)
                    refine lv_goto (tgt := 88) hx hb dL_steady_140 (by decide) ?_
                    exact ih_88 (k + 1) (by omega) (by omega) _ _ hI ls (lv_sub hl [1, 0, 2, 3, 4, 5, 6] rfl)
                  refine lv_icmp_le (tgt := 133) hx hb dL_steady_124 (by decide) (fun c_124 => ?_) (fun c_124 => ?_)
                  · refine lv_iload hx hb dL_steady_133 (lv_at hl 0 rfl) ?_
                    exact J_124 _ _ _ hI ((up_le (bri_g (itB_le (Nat.le_trans (itD_le q9 M9) (pSt_le L9 M9 q9)) k)) c_124).trans (pBri_N (itB_le (Nat.le_trans (itD_le q9 M9) (pSt_le L9 M9 q9)) k)))
                  · refine lv_sipush (v := 1000) hx hb dL_steady_127 (by decide) ?_
                    refine lv_goto (tgt := 135) hx hb dL_steady_130 (by decide) ?_
                    exact J_124 _ _ _ hI ((up_gt (bri_g (itB_le (Nat.le_trans (itD_le q9 M9) (pSt_le L9 M9 q9)) k)) c_124).trans (pBri_N (itB_le (Nat.le_trans (itD_le q9 M9) (pSt_le L9 M9 q9)) k)))
                refine lv_icmp_le (tgt := 108) hx hb dL_steady_101 (by decide) (fun c_101 => ?_) (fun c_101 => ?_)
                · refine lv_sipush (v := 1000) hx hb dL_steady_108 (by decide) ?_
                  refine lv_iload hx hb dL_steady_111 (lv_at hl 0 rfl) ?_
                  refine lv_isub hx hb dL_steady_113 ?_
                  refine lv_iconst (v := 4) hx hb dL_steady_114 (by decide) ?_
                  refine lv_idiv hx hb dL_steady_115 (by decide) ?_
                  exact J_101 _ _ _ hI ((if_pos c_101).symm)
                · refine lv_iconst (v := 1) hx hb dL_steady_104 (by decide) ?_
                  refine lv_goto (tgt := 116) hx hb dL_steady_105 (by decide) ?_
                  exact J_101 _ _ _ hI ((if_neg c_101).symm)
          exact loop_88 (L9 + 1) 0 (by omega) (Nat.zero_le _) _ _ hI ls (lv_sub hl [1, 0, 2, 3, 4, 5, 6] rfl)
        · have hk : k < M9 := nI_nle' (by omega) (by omega) c_47
          refine lv_iload hx hb dL_steady_50 (lv_at hl 0 rfl) ?_
          refine lv_iload hx hb dL_steady_52 (lv_at hl 0 rfl) ?_
          refine lv_aload_n hx hb dL_steady_54 rfl (lv_at hl 5 rfl) ?_
          refine lv_bipush (v := 9) hx hb dL_steady_55 (by decide) ?_
          refine lq_call C hI (As := [.int 9]) (rest := [.int (nI (itN (dN q9) k (pSt L9 M9 q9))), .int (nI (itN (dN q9) k (pSt L9 M9 q9)))]) (fun W1 sz hX => cx_count l D ct sz o ad hX ok.1 ok.2.2 9) (cwV 1 hts gL_steady_X5_count rfl rfl rfl (by decide +kernel) ⟨Nat.le_of_ble_eq_true rfl, Nat.le_of_ble_eq_true rfl⟩) rfl hl.1 rfl (Nat.le_of_ble_eq_true rfl) dL_steady_57 ⟨Nat.le_of_ble_eq_true rfl, Nat.le_of_ble_eq_true rfl⟩ (r := nI q9) (qc_9.trans eQ) (A1 := A) (rfl) (fun H locs hI => ?_)
          refine lv_idiv hx hb dL_steady_60 (nI_ne0 q0 q31) ?_
          refine lv_iconst (v := 1) hx hb dL_steady_61 (by decide) ?_
          refine lv_iadd hx hb dL_steady_62 ?_
          refine lv_isub hx hb dL_steady_63 ?_
          refine lv_istore (lv' := [(5, .int ((nI (itN (dN q9) k (pSt L9 M9 q9))) - (((nI (itN (dN q9) k (pSt L9 M9 q9))) / (nI q9)) + 1))), (6, .int (nI k)), (2, .int (nI L9)), (3, .int (nI M9)), (4, .int (stG L9 M9 q9)), (0, .ref (o 0)), (1, .int (nI d))]) hx hb dL_steady_64 hl (by decide) rfl (fun ls hl => ?_)
          refine lv_iload hx hb dL_steady_66 (lv_at hl 0 rfl) ?_
          have J_68 : ∀ (x9 : Int32) (H : Heap) (locs : List Loc), LH s D ct o ad Z [] A H locs → x9 = nI (itN (dN q9) (k + 1) (pSt L9 M9 q9)) → W p l e (headSpec wsL_steady ({ frames := 4, cells := 0, slots := 0, locals := 95 })).room s m #[.ref (o 0), .int (nI d)] below meth c H locs 0 0 Q (F0 m 77 ls [.int x9]) := by
            intro x9 H locs hI e9
            subst e9
            refine lv_istore (lv' := [(5, .int (nI (itN (dN q9) (k + 1) (pSt L9 M9 q9)))), (6, .int (nI k)), (2, .int (nI L9)), (3, .int (nI M9)), (4, .int (stG L9 M9 q9)), (0, .ref (o 0)), (1, .int (nI d))]) hx hb dL_steady_77 hl (by decide) rfl (fun ls hl => ?_)
            refine lv_iinc (v := nI (k + 1)) (lv' := [(6, .int (nI (k + 1))), (5, .int (nI (itN (dN q9) (k + 1) (pSt L9 M9 q9)))), (2, .int (nI L9)), (3, .int (nI M9)), (4, .int (stG L9 M9 q9)), (0, .ref (o 0)), (1, .int (nI d))]) hx hb dL_steady_79 hl (k := 1) rfl ((nI_succ k).symm) (by decide) rfl (fun ls hl => ?_)
            refine lv_goto (tgt := 44) hx hb dL_steady_82 (by decide) ?_
            exact ih_44 (k + 1) (by omega) (by omega) _ _ hI ls (lv_sub hl [1, 0, 2, 3, 4, 5, 6] rfl)
          refine lv_if_ge (tgt := 75) hx hb dL_steady_68 (by decide) (fun c_68 => ?_) (fun c_68 => ?_)
          · refine lv_iload hx hb dL_steady_75 (lv_at hl 0 rfl) ?_
            exact J_68 _ _ _ hI (dn_ge (Nat.le_trans (itD_le q9 k) (pSt_le L9 M9 q9)) q0 q31 c_68)
          · refine lv_iconst (v := 0) hx hb dL_steady_71 (by decide) ?_
            refine lv_goto (tgt := 77) hx hb dL_steady_72 (by decide) ?_
            exact J_68 _ _ _ hI (dn_lt (Nat.le_trans (itD_le q9 k) (pSt_le L9 M9 q9)) q0 q31 c_68)
    exact loop_44 (M9 + 1) 0 (by omega) (Nat.zero_le _) _ _ hI ls (lv_sub hl [1, 0, 4, 3, 2, 5, 6] rfl)
  · have hL0 : L9 = 0 := nI_z (by omega) c_23
    refine lv_iload hx hb dL_steady_26 (lv_at hl 0 rfl) ?_
    refine bif_ne_f (tgt := 35) hx hb dL_steady_28 (by decide) (by unfold stG; rw [if_pos hL0]) ?_
    refine lv_iconst (v := 1) hx hb dL_steady_31 (by decide) ?_
    refine lv_goto (tgt := 36) hx hb dL_steady_32 (by decide) ?_
    have h9 := lq_end (args := #[.ref (o 0), .int (nI d)]) (v := 1) (F := ((1, A) : Int32 × AS)) (Xp := CX ct o ad) hI hZe (rfl) (fun W1 h9 => h9)
    subst hQ
    exact W.zret (v := 1) hx hb hr (by decide) h9.1 h9.2 dL_steady_36


set_option maxHeartbeats 4000000 in
set_option maxRecDepth 100000 in
theorem kL_frames (l : Launch) (D : va_G) (ct : Nat → ClassId) (sz : Nat) (o : Nat → Nat) (ad : Nat → Nat → Nat) {A : AS} {W0 : va_W} {b : Nat} (hX0 : CX ct o ad A W0) (ok : LOk b A) (n : Nat) (h1 : 1 ≤ n) (h20 : n ≤ 20) (hb14 : b + 14000 < 2 ^ 20) : Met l yL_frames wsL_frames ({ frames := 6, cells := 0, slots := 0, locals := 138 }) (muPS D ct W0 sz [.ref (o 0), .int (nI n)]) (mxQ D ct W0 sz ((1, A) : Int32 × AS) (fun _ u => ∃ A9, CX ct o ad A9 u ∧ LOk (b + 14000) A9)) 0 0 (va_A W0 sz) := by
  refine Met.ofW (cc := cL_frames) (maxL := 7) (ret := (some .boolean)) (by decide) rfl ?_
  intro p e s m args below meth c s₁ B hml hv
  obtain ⟨rfl, hZ, hsz, hP, hK, hN, hD0⟩ := hv
  have hx := B.exec
  have hb := B.bytes
  have hr := B.returns
  have hts := atoms_spec (ws := wsL_frames) B.pre
  have hown : s.vm.findClass RL = some m.cls := findClass_of_methodNamed B.named
  have hlocks := B.notSynchronized
  subst hsz
  have hD := hD0.self (sz := s.heap.size)
  obtain ⟨Q, hQ⟩ : ∃ Q : State → Prop, Q = MQ below (mxQ D ct W0 s.heap.size ((1, A) : Int32 × AS) (fun _ u => ∃ A9, CX ct o ad A9 u ∧ LOk (b + 14000) A9)) #[.ref (o 0), .int (nI n)] s 0 0 (va_A W0 s.heap.size) := ⟨_, rfl⟩
  show W p l e _ s m #[.ref (o 0), .int (nI n)] below meth c s.heap [] 0 0 (MQ below (mxQ D ct W0 s.heap.size ((1, A) : Int32 × AS) (fun _ u => ∃ A9, CX ct o ad A9 u ∧ LOk (b + 14000) A9)) #[.ref (o 0), .int (nI n)] s 0 0 (va_A W0 s.heap.size)) _
  rw [← hQ]
  obtain ⟨Z, hZe⟩ : ∃ Z : Nat → Prop, va_A W0 s.heap.size = Z := ⟨_, rfl⟩
  rw [hZe] at hD hZ
  have hA : ∀ q : Nat, s.heap.size ≤ q → Z q := fun q h => by rw [← hZe]; exact Or.inr h
  have C : LF p s m c cL_frames 7 #[.ref (o 0), .int (nI n)] wsL_frames D ct Z := ⟨⟨hx, hb, hml, hown, hts⟩, hK, hN, hZ, hA⟩
  have hI := lq_begin hX0 hP hD
  have hl := lv_entry ([.ref (o 0), .int (nI n)]) (n := 7) (Nat.le_of_ble_eq_true rfl)
  rw [lg_entry_eq]
  generalize (lg_sl ([.ref (o 0), .int (nI n)]) ++ List.replicate (7 - (lg_sl ([.ref (o 0), .int (nI n)])).length) Slot.unset).toArray = ls at hl ⊢
  have hl : lv_has ls 7 [(0, .ref (o 0)), (1, .int (nI n))] := hl
  obtain ⟨T, F, t, L, E, eT, eF, et, eL, eE, ht, hL, hT, hF, hE⟩ := fr_vals ok
  refine lv_aload_n hx hb dL_frames_0 rfl (lv_at hl 0 rfl) ?_
  refine lv_iconst (v := 3) hx hb dL_frames_1 (by decide) ?_
  refine lq_call C hI (As := [.int 3]) (rest := []) (fun W1 sz hX => cx_count l D ct sz o ad hX ok.1 ok.2.2 3) (cwV 1 hts gL_frames_X5_count rfl rfl rfl (by decide +kernel) ⟨Nat.le_of_ble_eq_true rfl, Nat.le_of_ble_eq_true rfl⟩) rfl hl.1 rfl (Nat.le_of_ble_eq_true rfl) dL_frames_2 ⟨Nat.le_of_ble_eq_true rfl, Nat.le_of_ble_eq_true rfl⟩ (r := nI F) (qc_3.trans eF) (A1 := A) (rfl) (fun H locs hI => ?_)
  refine lv_istore_n (lv' := [(2, .int (nI F)), (0, .ref (o 0)), (1, .int (nI n))]) hx hb dL_frames_5 rfl hl (by decide) rfl (fun ls hl => ?_)
  refine lv_aload_n hx hb dL_frames_6 rfl (lv_at hl 1 rfl) ?_
  refine lv_iconst (v := 2) hx hb dL_frames_7 (by decide) ?_
  refine lq_call C hI (As := [.int 2]) (rest := []) (fun W1 sz hX => cx_count l D ct sz o ad hX ok.1 ok.2.2 2) (cwV 1 hts gL_frames_X5_count rfl rfl rfl (by decide +kernel) ⟨Nat.le_of_ble_eq_true rfl, Nat.le_of_ble_eq_true rfl⟩) rfl hl.1 rfl (Nat.le_of_ble_eq_true rfl) dL_frames_8 ⟨Nat.le_of_ble_eq_true rfl, Nat.le_of_ble_eq_true rfl⟩ (r := nI L) (qc_2.trans eL) (A1 := A) (rfl) (fun H locs hI => ?_)
  refine lv_aload_n hx hb dL_frames_11 rfl (lv_at hl 1 rfl) ?_
  refine lv_iconst (v := 4) hx hb dL_frames_12 (by decide) ?_
  refine lq_call C hI (As := [.int 4]) (rest := [.int (nI L)]) (fun W1 sz hX => cx_count l D ct sz o ad hX ok.1 ok.2.2 4) (cwV 1 hts gL_frames_X5_count rfl rfl rfl (by decide +kernel) ⟨Nat.le_of_ble_eq_true rfl, Nat.le_of_ble_eq_true rfl⟩) rfl hl.1 rfl (Nat.le_of_ble_eq_true rfl) dL_frames_13 ⟨Nat.le_of_ble_eq_true rfl, Nat.le_of_ble_eq_true rfl⟩ (r := nI t) (qc_4.trans et) (A1 := A) (rfl) (fun H locs hI => ?_)
  refine lv_isub hx hb dL_frames_16 ?_
  refine lv_as (y := nI (L - t)) (pk_sub (by omega)) ?_
  refine lv_istore_n (lv' := [(3, .int (nI (L - t))), (2, .int (nI F)), (0, .ref (o 0)), (1, .int (nI n))]) hx hb dL_frames_17 rfl hl (by decide) rfl (fun ls hl => ?_)
  refine lv_aload_n hx hb dL_frames_18 rfl (lv_at hl 2 rfl) ?_
  refine lv_iconst (v := 0) hx hb dL_frames_19 (by decide) ?_
  refine lq_call C hI (As := [.int 0]) (rest := []) (fun W1 sz hX => cx_count l D ct sz o ad hX ok.1 ok.2.2 0) (cwV 1 hts gL_frames_X5_count rfl rfl rfl (by decide +kernel) ⟨Nat.le_of_ble_eq_true rfl, Nat.le_of_ble_eq_true rfl⟩) rfl hl.1 rfl (Nat.le_of_ble_eq_true rfl) dL_frames_20 ⟨Nat.le_of_ble_eq_true rfl, Nat.le_of_ble_eq_true rfl⟩ (r := nI T) (qc_0.trans eT) (A1 := A) (rfl) (fun H locs hI => ?_)
  refine lv_istore (lv' := [(4, .int (nI T)), (3, .int (nI (L - t))), (2, .int (nI F)), (0, .ref (o 0)), (1, .int (nI n))]) hx hb dL_frames_23 hl (by decide) rfl (fun ls hl => ?_)
  refine lv_aload_n hx hb dL_frames_25 rfl (lv_at hl 3 rfl) ?_
  refine lv_bipush (v := 6) hx hb dL_frames_26 (by decide) ?_
  refine lq_call C hI (As := [.int 6]) (rest := []) (fun W1 sz hX => cx_count l D ct sz o ad hX ok.1 ok.2.2 6) (cwV 1 hts gL_frames_X5_count rfl rfl rfl (by decide +kernel) ⟨Nat.le_of_ble_eq_true rfl, Nat.le_of_ble_eq_true rfl⟩) rfl hl.1 rfl (Nat.le_of_ble_eq_true rfl) dL_frames_28 ⟨Nat.le_of_ble_eq_true rfl, Nat.le_of_ble_eq_true rfl⟩ (r := nI E) (qc_6.trans eE) (A1 := A) (rfl) (fun H locs hI => ?_)
  refine lv_istore (lv' := [(5, .int (nI E)), (4, .int (nI T)), (3, .int (nI (L - t))), (2, .int (nI F)), (0, .ref (o 0)), (1, .int (nI n))]) hx hb dL_frames_31 hl (by decide) rfl (fun ls hl => ?_)
  refine lv_iload hx hb dL_frames_33 (lv_at hl 1 rfl) ?_
  refine lv_iload_n hx hb dL_frames_35 rfl (lv_at hl 2 rfl) ?_
  refine lv_iadd hx hb dL_frames_36 ?_
  refine lv_as (y := nI (T + (L - t))) (nI_add _ _) ?_
  refine lv_iload_n hx hb dL_frames_37 rfl (lv_at hl 5 rfl) ?_
  refine lv_iconst (v := 1) hx hb dL_frames_38 (by decide) ?_
  refine lv_isub hx hb dL_frames_39 ?_
  refine lv_as (y := nI (n - 1)) (nI_dec h1) ?_
  refine lv_aload_n hx hb dL_frames_40 rfl (lv_at hl 4 rfl) ?_
  refine lv_iconst (v := 2) hx hb dL_frames_41 (by decide) ?_
  refine lq_call C hI (As := [.int 2]) (rest := [.int (nI (n - 1)), .int (nI (T + (L - t)))]) (fun W1 sz hX => cx_count l D ct sz o ad hX ok.1 ok.2.2 2) (cwV 1 hts gL_frames_X5_count rfl rfl rfl (by decide +kernel) ⟨Nat.le_of_ble_eq_true rfl, Nat.le_of_ble_eq_true rfl⟩) rfl hl.1 rfl (Nat.le_of_ble_eq_true rfl) dL_frames_42 ⟨Nat.le_of_ble_eq_true rfl, Nat.le_of_ble_eq_true rfl⟩ (r := nI L) (qc_2.trans eL) (A1 := A) (rfl) (fun H locs hI => ?_)
  refine lv_imul hx hb dL_frames_45 ?_
  refine lv_as (y := nI ((n - 1) * L)) (pk_mul _ _) ?_
  refine lv_iadd hx hb dL_frames_46 ?_
  refine lv_as (y := nI (T + (n * L - t))) (fr_due ht h1) ?_
  refine lv_istore (lv' := [(6, .int (nI (T + (n * L - t)))), (5, .int (nI E)), (4, .int (nI T)), (3, .int (nI (L - t))), (2, .int (nI F)), (0, .ref (o 0)), (1, .int (nI n))]) hx hb dL_frames_47 hl (by decide) rfl (fun ls hl => ?_)
  obtain ⟨w0, w2, w3, w4⟩ := fr_end (n := n) ok.inv eT eF et eL eE ht hL hE h1
  obtain ⟨A2, eA2, hv2, ok2, hr2⟩ : ∃ A2 : AS, (f_passFrames A (nI n)).2 = A2 ∧ aV A2 = pTks (aV A) (pfN (aV A) n) ∧ LOk (b + 7000) A2 ∧ (f_passFrames A (nI n)).1 = nI (T + (n * L - t)) := ⟨_, rfl, (congrArg (fun q : Int32 × AS => aV q.2) (qpf h1 h20)), l_passFrames ok (by omega), (congrArg Prod.fst (qpf h1 h20)).trans w0⟩
  rw [← hv2] at w0 w2 w3 w4
  refine lv_aload_n hx hb dL_frames_49 rfl (lv_at hl 5 rfl) ?_
  refine lv_iload_n hx hb dL_frames_50 rfl (lv_at hl 6 rfl) ?_
  refine lq_call C hI (As := [.int (nI n)]) (rest := []) (fun W1 sz hX => cx_passFrames l D ct sz o ad hX ok.1 ok.2.2 (nI n)) (cwV 1 hts gL_frames_X5_passFrames rfl rfl rfl (by decide +kernel) ⟨Nat.le_of_ble_eq_true rfl, Nat.le_of_ble_eq_true rfl⟩) rfl hl.1 rfl (Nat.le_of_ble_eq_true rfl) dL_frames_51 ⟨Nat.le_of_ble_eq_true rfl, Nat.le_of_ble_eq_true rfl⟩ (r := nI (T + (n * L - t))) (hr2) (A1 := A2) (eA2) (fun H locs hI => ?_)
  refine lv_iload hx hb dL_frames_54 (lv_at hl 0 rfl) ?_
  refine bicmp_ne_f (tgt := 136) hx hb dL_frames_56 (by decide) (rfl) ?_
  refine lv_aload_n hx hb dL_frames_59 rfl (lv_at hl 5 rfl) ?_
  refine lv_iconst (v := 0) hx hb dL_frames_60 (by decide) ?_
  refine lq_call C hI (As := [.int 0]) (rest := []) (fun W1 sz hX => cx_count l D ct sz o ad hX ok2.1 ok2.2.2 0) (cwV 1 hts gL_frames_X5_count rfl rfl rfl (by decide +kernel) ⟨Nat.le_of_ble_eq_true rfl, Nat.le_of_ble_eq_true rfl⟩) rfl hl.1 rfl (Nat.le_of_ble_eq_true rfl) dL_frames_61 ⟨Nat.le_of_ble_eq_true rfl, Nat.le_of_ble_eq_true rfl⟩ (r := nI (T + (n * L - t))) (qc_0.trans w0) (A1 := A2) (rfl) (fun H locs hI => ?_)
  refine lv_iload hx hb dL_frames_64 (lv_at hl 0 rfl) ?_
  refine bicmp_ne_f (tgt := 136) hx hb dL_frames_66 (by decide) (rfl) ?_
  refine lv_aload_n hx hb dL_frames_69 rfl (lv_at hl 5 rfl) ?_
  refine lv_iconst (v := 3) hx hb dL_frames_70 (by decide) ?_
  refine lq_call C hI (As := [.int 3]) (rest := []) (fun W1 sz hX => cx_count l D ct sz o ad hX ok2.1 ok2.2.2 3) (cwV 1 hts gL_frames_X5_count rfl rfl rfl (by decide +kernel) ⟨Nat.le_of_ble_eq_true rfl, Nat.le_of_ble_eq_true rfl⟩) rfl hl.1 rfl (Nat.le_of_ble_eq_true rfl) dL_frames_71 ⟨Nat.le_of_ble_eq_true rfl, Nat.le_of_ble_eq_true rfl⟩ (r := nI (F + n)) (qc_3.trans w2) (A1 := A2) (rfl) (fun H locs hI => ?_)
  refine lv_iload_n hx hb dL_frames_74 rfl (lv_at hl 4 rfl) ?_
  refine lv_iload_n hx hb dL_frames_75 rfl (lv_at hl 6 rfl) ?_
  refine lv_iadd hx hb dL_frames_76 ?_
  refine lv_as (y := nI (F + n)) (nI_add _ _) ?_
  refine bicmp_ne_f (tgt := 136) hx hb dL_frames_77 (by decide) (rfl) ?_
  refine lv_aload_n hx hb dL_frames_80 rfl (lv_at hl 5 rfl) ?_
  refine lv_iconst (v := 4) hx hb dL_frames_81 (by decide) ?_
  refine lq_call C hI (As := [.int 4]) (rest := []) (fun W1 sz hX => cx_count l D ct sz o ad hX ok2.1 ok2.2.2 4) (cwV 1 hts gL_frames_X5_count rfl rfl rfl (by decide +kernel) ⟨Nat.le_of_ble_eq_true rfl, Nat.le_of_ble_eq_true rfl⟩) rfl hl.1 rfl (Nat.le_of_ble_eq_true rfl) dL_frames_82 ⟨Nat.le_of_ble_eq_true rfl, Nat.le_of_ble_eq_true rfl⟩ (r := nI 0) (qc_4.trans w3) (A1 := A2) (rfl) (fun H locs hI => ?_)
  refine bif_ne_f (tgt := 136) hx hb dL_frames_85 (by decide) (rfl) ?_
  refine lv_aload_n hx hb dL_frames_88 rfl (lv_at hl 5 rfl) ?_
  refine lv_bipush (v := 6) hx hb dL_frames_89 (by decide) ?_
  refine lq_call C hI (As := [.int 6]) (rest := []) (fun W1 sz hX => cx_count l D ct sz o ad hX ok2.1 ok2.2.2 6) (cwV 1 hts gL_frames_X5_count rfl rfl rfl (by decide +kernel) ⟨Nat.le_of_ble_eq_true rfl, Nat.le_of_ble_eq_true rfl⟩) rfl hl.1 rfl (Nat.le_of_ble_eq_true rfl) dL_frames_91 ⟨Nat.le_of_ble_eq_true rfl, Nat.le_of_ble_eq_true rfl⟩ (r := nI (E - n)) (qc_6.trans w4) (A1 := A2) (rfl) (fun H locs hI => ?_)
  refine lv_iload hx hb dL_frames_94 (lv_at hl 1 rfl) ?_
  refine lv_iload_n hx hb dL_frames_96 rfl (lv_at hl 6 rfl) ?_
  have J_97 : ∀ (x9 : Int32) (H : Heap) (locs : List Loc), LH s D ct o ad Z [] A2 H locs → x9 = nI (E - n) → W p l e (headSpec wsL_frames ({ frames := 6, cells := 0, slots := 0, locals := 138 })).room s m #[.ref (o 0), .int (nI n)] below meth c H locs 0 0 Q (F0 m 108 ls [.int x9, .int (nI (E - n))]) := by
    intro x9 H locs hI e9
    subst e9
    refine bicmp_ne_f (tgt := 136) hx hb dL_frames_108 (by decide) (rfl) ?_
    refine lv_aload_n hx hb dL_frames_111 rfl (lv_at hl 5 rfl) ?_
    refine lv_iconst (v := 0) hx hb dL_frames_112 (by decide) ?_
    refine lq_call C hI (As := [.int 0]) (rest := []) (fun W1 sz hX => cx_passFrames l D ct sz o ad hX ok2.1 ok2.2.2 0) (cwV 1 hts gL_frames_X5_passFrames rfl rfl rfl (by decide +kernel) ⟨Nat.le_of_ble_eq_true rfl, Nat.le_of_ble_eq_true rfl⟩) rfl hl.1 rfl (Nat.le_of_ble_eq_true rfl) dL_frames_113 ⟨Nat.le_of_ble_eq_true rfl, Nat.le_of_ble_eq_true rfl⟩ (r := -2) (congrArg Prod.fst (qpf_bad (by decide))) (A1 := A2) (congrArg Prod.snd (qpf_bad (by decide))) (fun H locs hI => ?_)
    refine lv_bipush (v := (-2)) hx hb dL_frames_116 (by decide) ?_
    refine bicmp_ne_f (tgt := 136) hx hb dL_frames_118 (by decide) (rfl) ?_
    refine lv_aload_n hx hb dL_frames_121 rfl (lv_at hl 5 rfl) ?_
    refine lv_bipush (v := 21) hx hb dL_frames_122 (by decide) ?_
    refine lq_call C hI (As := [.int 21]) (rest := []) (fun W1 sz hX => cx_passFrames l D ct sz o ad hX ok2.1 ok2.2.2 21) (cwV 1 hts gL_frames_X5_passFrames rfl rfl rfl (by decide +kernel) ⟨Nat.le_of_ble_eq_true rfl, Nat.le_of_ble_eq_true rfl⟩) rfl hl.1 rfl (Nat.le_of_ble_eq_true rfl) dL_frames_124 ⟨Nat.le_of_ble_eq_true rfl, Nat.le_of_ble_eq_true rfl⟩ (r := -2) (congrArg Prod.fst (qpf_bad (by decide))) (A1 := A2) (congrArg Prod.snd (qpf_bad (by decide))) (fun H locs hI => ?_)
    refine lv_bipush (v := (-2)) hx hb dL_frames_127 (by decide) ?_
    refine bicmp_ne_f (tgt := 136) hx hb dL_frames_129 (by decide) (rfl) ?_
    refine lv_iconst (v := 1) hx hb dL_frames_132 (by decide) ?_
    refine lv_goto (tgt := 137) hx hb dL_frames_133 (by decide) ?_
    have h9 := lq_end (args := #[.ref (o 0), .int (nI n)]) (v := 1) (F := ((1, A) : Int32 × AS)) (Xp := fun _ u => ∃ A9, CX ct o ad A9 u ∧ LOk (b + 14000) A9) hI hZe (rfl) (fun W1 h9 => ⟨A2, h9, ok2.mono (by omega) hb14⟩)
    subst hQ
    exact W.zret (v := 1) hx hb hr (by decide) h9.1 h9.2 dL_frames_137
  refine lv_icmp_le (tgt := 107) hx hb dL_frames_97 (by decide) (fun c_97 => ?_) (fun c_97 => ?_)
  · refine lv_iconst (v := 0) hx hb dL_frames_107 (by decide) ?_
    exact J_97 _ _ _ hI (te_t hE h20 c_97)
  · refine lv_iload hx hb dL_frames_100 (lv_at hl 1 rfl) ?_
    refine lv_iload_n hx hb dL_frames_102 rfl (lv_at hl 6 rfl) ?_
    refine lv_isub hx hb dL_frames_103 ?_
    refine lv_goto (tgt := 108) hx hb dL_frames_104 (by decide) ?_
    exact J_97 _ _ _ hI (te_f hE h20 c_97)


set_option maxHeartbeats 4000000 in
set_option maxRecDepth 100000 in
theorem kL_errors (l : Launch) (D : va_G) (ct : Nat → ClassId) (sz : Nat) (o : Nat → Nat) (ad : Nat → Nat → Nat) {A : AS} {W0 : va_W} {b : Nat} (hX0 : CX ct o ad A W0) (ok : LOk b A)  : Met l yL_errors wsL_errors ({ frames := 6, cells := 0, slots := 0, locals := 138 }) (muPS D ct W0 sz [.ref (o 0)]) (mxQ D ct W0 sz ((1, A) : Int32 × AS) (CX ct o ad)) 0 0 (va_A W0 sz) := by
  refine Met.ofW (cc := cL_errors) (maxL := 3) (ret := (some .boolean)) (by decide) rfl ?_
  intro p e s m args below meth c s₁ B hml hv
  obtain ⟨rfl, hZ, hsz, hP, hK, hN, hD0⟩ := hv
  have hx := B.exec
  have hb := B.bytes
  have hr := B.returns
  have hts := atoms_spec (ws := wsL_errors) B.pre
  have hown : s.vm.findClass RL = some m.cls := findClass_of_methodNamed B.named
  have hlocks := B.notSynchronized
  subst hsz
  have hD := hD0.self (sz := s.heap.size)
  obtain ⟨Q, hQ⟩ : ∃ Q : State → Prop, Q = MQ below (mxQ D ct W0 s.heap.size ((1, A) : Int32 × AS) (CX ct o ad)) #[.ref (o 0)] s 0 0 (va_A W0 s.heap.size) := ⟨_, rfl⟩
  show W p l e _ s m #[.ref (o 0)] below meth c s.heap [] 0 0 (MQ below (mxQ D ct W0 s.heap.size ((1, A) : Int32 × AS) (CX ct o ad)) #[.ref (o 0)] s 0 0 (va_A W0 s.heap.size)) _
  rw [← hQ]
  obtain ⟨Z, hZe⟩ : ∃ Z : Nat → Prop, va_A W0 s.heap.size = Z := ⟨_, rfl⟩
  rw [hZe] at hD hZ
  have hA : ∀ q : Nat, s.heap.size ≤ q → Z q := fun q h => by rw [← hZe]; exact Or.inr h
  have C : LF p s m c cL_errors 3 #[.ref (o 0)] wsL_errors D ct Z := ⟨⟨hx, hb, hml, hown, hts⟩, hK, hN, hZ, hA⟩
  have hI := lq_begin hX0 hP hD
  have hl := lv_entry ([.ref (o 0)]) (n := 3) (Nat.le_of_ble_eq_true rfl)
  rw [lg_entry_eq]
  generalize (lg_sl ([.ref (o 0)]) ++ List.replicate (3 - (lg_sl ([.ref (o 0)])).length) Slot.unset).toArray = ls at hl ⊢
  have hl : lv_has ls 3 [(0, .ref (o 0))] := hl
  refine lv_aload_n hx hb dL_errors_0 rfl (lv_at hl 0 rfl) ?_
  refine lv_iconst (v := 1) hx hb dL_errors_1 (by decide) ?_
  refine lq_call C hI (As := [.int 1]) (rest := []) (fun W1 sz hX => cx_count l D ct sz o ad hX ok.1 ok.2.2 1) (cwV 1 hts gL_errors_X5_count rfl rfl rfl (by decide +kernel) ⟨Nat.le_of_ble_eq_true rfl, Nat.le_of_ble_eq_true rfl⟩) rfl hl.1 rfl (Nat.le_of_ble_eq_true rfl) dL_errors_2 ⟨Nat.le_of_ble_eq_true rfl, Nat.le_of_ble_eq_true rfl⟩ (r := nI (nOf (aV A))) (qc_1 ok.inv) (A1 := A) (rfl) (fun H locs hI => ?_)
  refine lv_istore_n (lv' := [(1, .int (nI (nOf (aV A)))), (0, .ref (o 0))]) hx hb dL_errors_5 rfl hl (by decide) rfl (fun ls hl => ?_)
  refine lv_aload_n hx hb dL_errors_6 rfl (lv_at hl 1 rfl) ?_
  refine lv_iconst (v := 0) hx hb dL_errors_7 (by decide) ?_
  refine lq_call C hI (As := [.int 0]) (rest := []) (fun W1 sz hX => cx_setDigits l D ct sz o ad hX ok.1 ok.2.2 0) (cwV 1 hts gL_errors_X5_setDigits rfl rfl rfl (by decide +kernel) ⟨Nat.le_of_ble_eq_true rfl, Nat.le_of_ble_eq_true rfl⟩) rfl hl.1 rfl (Nat.le_of_ble_eq_true rfl) dL_errors_8 ⟨Nat.le_of_ble_eq_true rfl, Nat.le_of_ble_eq_true rfl⟩ (r := -2) (congrArg Prod.fst (e_sD (by decide))) (A1 := A) (congrArg Prod.snd (e_sD (by decide))) (fun H locs hI => ?_)
  refine lv_bipush (v := (-2)) hx hb dL_errors_11 (by decide) ?_
  refine bicmp_ne_f (tgt := 167) hx hb dL_errors_13 (by decide) (by decide) ?_
  refine lv_aload_n hx hb dL_errors_16 rfl (lv_at hl 1 rfl) ?_
  refine lv_bipush (v := 9) hx hb dL_errors_17 (by decide) ?_
  refine lq_call C hI (As := [.int 9]) (rest := []) (fun W1 sz hX => cx_setDigits l D ct sz o ad hX ok.1 ok.2.2 9) (cwV 1 hts gL_errors_X5_setDigits rfl rfl rfl (by decide +kernel) ⟨Nat.le_of_ble_eq_true rfl, Nat.le_of_ble_eq_true rfl⟩) rfl hl.1 rfl (Nat.le_of_ble_eq_true rfl) dL_errors_19 ⟨Nat.le_of_ble_eq_true rfl, Nat.le_of_ble_eq_true rfl⟩ (r := -2) (congrArg Prod.fst (e_sD (by decide))) (A1 := A) (congrArg Prod.snd (e_sD (by decide))) (fun H locs hI => ?_)
  refine lv_bipush (v := (-2)) hx hb dL_errors_22 (by decide) ?_
  refine bicmp_ne_f (tgt := 167) hx hb dL_errors_24 (by decide) (by decide) ?_
  refine lv_aload_n hx hb dL_errors_27 rfl (lv_at hl 1 rfl) ?_
  refine lv_iload_n hx hb dL_errors_28 rfl (lv_at hl 0 rfl) ?_
  refine lv_bipush (v := 10) hx hb dL_errors_29 (by decide) ?_
  refine lq_call C hI (As := [.int (nI (nOf (aV A))), .int 10]) (rest := []) (fun W1 sz hX => cx_setWidth l D ct sz o ad hX ok.1 ok.2.2 (nI (nOf (aV A))) 10) (cwV 2 hts gL_errors_X5_setWidth rfl rfl rfl (by decide +kernel) ⟨Nat.le_of_ble_eq_true rfl, Nat.le_of_ble_eq_true rfl⟩) rfl hl.1 rfl (Nat.le_of_ble_eq_true rfl) dL_errors_31 ⟨Nat.le_of_ble_eq_true rfl, Nat.le_of_ble_eq_true rfl⟩ (r := -1) (congrArg Prod.fst (e_sW1 (vD_n ok.inv))) (A1 := A) (congrArg Prod.snd (e_sW1 (vD_n ok.inv))) (fun H locs hI => ?_)
  refine lv_iconst (v := (-1)) hx hb dL_errors_34 (by decide) ?_
  refine bicmp_ne_f (tgt := 167) hx hb dL_errors_35 (by decide) (by decide) ?_
  refine lv_aload_n hx hb dL_errors_38 rfl (lv_at hl 1 rfl) ?_
  refine lv_iconst (v := 0) hx hb dL_errors_39 (by decide) ?_
  refine lv_iconst (v := 3) hx hb dL_errors_40 (by decide) ?_
  refine lq_call C hI (As := [.int 0, .int 3]) (rest := []) (fun W1 sz hX => cx_setWidth l D ct sz o ad hX ok.1 ok.2.2 0 3) (cwV 2 hts gL_errors_X5_setWidth rfl rfl rfl (by decide +kernel) ⟨Nat.le_of_ble_eq_true rfl, Nat.le_of_ble_eq_true rfl⟩) rfl hl.1 rfl (Nat.le_of_ble_eq_true rfl) dL_errors_41 ⟨Nat.le_of_ble_eq_true rfl, Nat.le_of_ble_eq_true rfl⟩ (r := -2) (congrArg Prod.fst (e_sW2 (vD_0 ok.inv) (by decide))) (A1 := A) (congrArg Prod.snd (e_sW2 (vD_0 ok.inv) (by decide))) (fun H locs hI => ?_)
  refine lv_bipush (v := (-2)) hx hb dL_errors_44 (by decide) ?_
  refine bicmp_ne_f (tgt := 167) hx hb dL_errors_46 (by decide) (by decide) ?_
  refine lv_aload_n hx hb dL_errors_49 rfl (lv_at hl 1 rfl) ?_
  refine lv_iconst (v := 0) hx hb dL_errors_50 (by decide) ?_
  refine lv_bipush (v := 41) hx hb dL_errors_51 (by decide) ?_
  refine lq_call C hI (As := [.int 0, .int 41]) (rest := []) (fun W1 sz hX => cx_setWidth l D ct sz o ad hX ok.1 ok.2.2 0 41) (cwV 2 hts gL_errors_X5_setWidth rfl rfl rfl (by decide +kernel) ⟨Nat.le_of_ble_eq_true rfl, Nat.le_of_ble_eq_true rfl⟩) rfl hl.1 rfl (Nat.le_of_ble_eq_true rfl) dL_errors_53 ⟨Nat.le_of_ble_eq_true rfl, Nat.le_of_ble_eq_true rfl⟩ (r := -2) (congrArg Prod.fst (e_sW2 (vD_0 ok.inv) (by decide))) (A1 := A) (congrArg Prod.snd (e_sW2 (vD_0 ok.inv) (by decide))) (fun H locs hI => ?_)
  refine lv_bipush (v := (-2)) hx hb dL_errors_56 (by decide) ?_
  refine bicmp_ne_f (tgt := 167) hx hb dL_errors_58 (by decide) (by decide) ?_
  refine lv_aload_n hx hb dL_errors_61 rfl (lv_at hl 1 rfl) ?_
  refine lv_iconst (v := 0) hx hb dL_errors_62 (by decide) ?_
  refine lv_iconst (v := 4) hx hb dL_errors_63 (by decide) ?_
  refine lq_call C hI (As := [.int 0, .int 4]) (rest := []) (fun W1 sz hX => cx_setGuard l D ct sz o ad hX ok.1 ok.2.2 0 4) (cwV 2 hts gL_errors_X5_setGuard rfl rfl rfl (by decide +kernel) ⟨Nat.le_of_ble_eq_true rfl, Nat.le_of_ble_eq_true rfl⟩) rfl hl.1 rfl (Nat.le_of_ble_eq_true rfl) dL_errors_64 ⟨Nat.le_of_ble_eq_true rfl, Nat.le_of_ble_eq_true rfl⟩ (r := -2) (congrArg Prod.fst (e_sG2 (vD_0 ok.inv) (by decide))) (A1 := A) (congrArg Prod.snd (e_sG2 (vD_0 ok.inv) (by decide))) (fun H locs hI => ?_)
  refine lv_bipush (v := (-2)) hx hb dL_errors_67 (by decide) ?_
  refine bicmp_ne_f (tgt := 167) hx hb dL_errors_69 (by decide) (by decide) ?_
  refine lv_aload_n hx hb dL_errors_72 rfl (lv_at hl 1 rfl) ?_
  refine lv_iconst (v := 0) hx hb dL_errors_73 (by decide) ?_
  refine lv_bipush (v := 16) hx hb dL_errors_74 (by decide) ?_
  refine lq_call C hI (As := [.int 0, .int 16]) (rest := []) (fun W1 sz hX => cx_setBrightness l D ct sz o ad hX ok.1 ok.2.2 0 16) (cwV 2 hts gL_errors_X5_setBrightness rfl rfl rfl (by decide +kernel) ⟨Nat.le_of_ble_eq_true rfl, Nat.le_of_ble_eq_true rfl⟩) rfl hl.1 rfl (Nat.le_of_ble_eq_true rfl) dL_errors_76 ⟨Nat.le_of_ble_eq_true rfl, Nat.le_of_ble_eq_true rfl⟩ (r := -2) (congrArg Prod.fst (e_sB2 (vD_0 ok.inv) (by decide))) (A1 := A) (congrArg Prod.snd (e_sB2 (vD_0 ok.inv) (by decide))) (fun H locs hI => ?_)
  refine lv_bipush (v := (-2)) hx hb dL_errors_79 (by decide) ?_
  refine bicmp_ne_f (tgt := 167) hx hb dL_errors_81 (by decide) (by decide) ?_
  refine lv_aload_n hx hb dL_errors_84 rfl (lv_at hl 1 rfl) ?_
  refine lv_iconst (v := 0) hx hb dL_errors_85 (by decide) ?_
  refine lv_sipush (v := 256) hx hb dL_errors_86 (by decide) ?_
  refine lq_call C hI (As := [.int 0, .int 256]) (rest := []) (fun W1 sz hX => cx_setPattern l D ct sz o ad hX ok.1 ok.2.2 0 256) (cwV 2 hts gL_errors_X5_setPattern rfl rfl rfl (by decide +kernel) ⟨Nat.le_of_ble_eq_true rfl, Nat.le_of_ble_eq_true rfl⟩) rfl hl.1 rfl (Nat.le_of_ble_eq_true rfl) dL_errors_89 ⟨Nat.le_of_ble_eq_true rfl, Nat.le_of_ble_eq_true rfl⟩ (r := -2) (congrArg Prod.fst (e_sP2 (vD_0 ok.inv) (by decide))) (A1 := A) (congrArg Prod.snd (e_sP2 (vD_0 ok.inv) (by decide))) (fun H locs hI => ?_)
  refine lv_bipush (v := (-2)) hx hb dL_errors_92 (by decide) ?_
  refine bicmp_ne_f (tgt := 167) hx hb dL_errors_94 (by decide) (by decide) ?_
  refine lv_aload_n hx hb dL_errors_97 rfl (lv_at hl 1 rfl) ?_
  refine lv_iconst (v := (-1)) hx hb dL_errors_98 (by decide) ?_
  refine lv_iconst (v := 0) hx hb dL_errors_99 (by decide) ?_
  refine lq_call C hI (As := [.int (-1), .int 0]) (rest := []) (fun W1 sz hX => cx_setPattern l D ct sz o ad hX ok.1 ok.2.2 (-1) 0) (cwV 2 hts gL_errors_X5_setPattern rfl rfl rfl (by decide +kernel) ⟨Nat.le_of_ble_eq_true rfl, Nat.le_of_ble_eq_true rfl⟩) rfl hl.1 rfl (Nat.le_of_ble_eq_true rfl) dL_errors_100 ⟨Nat.le_of_ble_eq_true rfl, Nat.le_of_ble_eq_true rfl⟩ (r := -1) (congrArg Prod.fst (e_sP1 vD_m1)) (A1 := A) (congrArg Prod.snd (e_sP1 vD_m1)) (fun H locs hI => ?_)
  refine lv_iconst (v := (-1)) hx hb dL_errors_103 (by decide) ?_
  refine bicmp_ne_f (tgt := 167) hx hb dL_errors_104 (by decide) (by decide) ?_
  refine lv_aload_n hx hb dL_errors_107 rfl (lv_at hl 1 rfl) ?_
  refine lv_iconst (v := 0) hx hb dL_errors_108 (by decide) ?_
  refine lv_iconst (v := 4) hx hb dL_errors_109 (by decide) ?_
  refine lq_call C hI (As := [.int 0, .int 4]) (rest := []) (fun W1 sz hX => cx_setGroup l D ct sz o ad hX ok.1 ok.2.2 0 4) (cwV 2 hts gL_errors_X5_setGroup rfl rfl rfl (by decide +kernel) ⟨Nat.le_of_ble_eq_true rfl, Nat.le_of_ble_eq_true rfl⟩) rfl hl.1 rfl (Nat.le_of_ble_eq_true rfl) dL_errors_110 ⟨Nat.le_of_ble_eq_true rfl, Nat.le_of_ble_eq_true rfl⟩ (r := -1) (congrArg Prod.fst (e_sR2 (vD_0 ok.inv) (by decide))) (A1 := A) (congrArg Prod.snd (e_sR2 (vD_0 ok.inv) (by decide))) (fun H locs hI => ?_)
  refine lv_iconst (v := (-1)) hx hb dL_errors_113 (by decide) ?_
  refine bicmp_ne_f (tgt := 167) hx hb dL_errors_114 (by decide) (by decide) ?_
  refine lv_aload_n hx hb dL_errors_117 rfl (lv_at hl 1 rfl) ?_
  refine lv_iload_n hx hb dL_errors_118 rfl (lv_at hl 0 rfl) ?_
  refine lv_iconst (v := 0) hx hb dL_errors_119 (by decide) ?_
  refine lq_call C hI (As := [.int (nI (nOf (aV A))), .int 0]) (rest := []) (fun W1 sz hX => cx_setGroup l D ct sz o ad hX ok.1 ok.2.2 (nI (nOf (aV A))) 0) (cwV 2 hts gL_errors_X5_setGroup rfl rfl rfl (by decide +kernel) ⟨Nat.le_of_ble_eq_true rfl, Nat.le_of_ble_eq_true rfl⟩) rfl hl.1 rfl (Nat.le_of_ble_eq_true rfl) dL_errors_120 ⟨Nat.le_of_ble_eq_true rfl, Nat.le_of_ble_eq_true rfl⟩ (r := -1) (congrArg Prod.fst (e_sR1 (vD_n ok.inv))) (A1 := A) (congrArg Prod.snd (e_sR1 (vD_n ok.inv))) (fun H locs hI => ?_)
  refine lv_iconst (v := (-1)) hx hb dL_errors_123 (by decide) ?_
  refine bicmp_ne_f (tgt := 167) hx hb dL_errors_124 (by decide) (by decide) ?_
  refine lv_aload_n hx hb dL_errors_127 rfl (lv_at hl 1 rfl) ?_
  refine lv_iconst (v := 0) hx hb dL_errors_128 (by decide) ?_
  refine lv_iconst (v := 1) hx hb dL_errors_129 (by decide) ?_
  refine lv_iconst (v := 1) hx hb dL_errors_130 (by decide) ?_
  refine lq_call C hI (As := [.int 0, .int 1, .int 1]) (rest := []) (fun W1 sz hX => cx_setBlink l D ct sz o ad hX ok.1 ok.2.2 0 1 1) (cwV 3 hts gL_errors_X5_setBlink rfl rfl rfl (by decide +kernel) ⟨Nat.le_of_ble_eq_true rfl, Nat.le_of_ble_eq_true rfl⟩) rfl hl.1 rfl (Nat.le_of_ble_eq_true rfl) dL_errors_131 ⟨Nat.le_of_ble_eq_true rfl, Nat.le_of_ble_eq_true rfl⟩ (r := -1) (congrArg Prod.fst (e_bl1 (by decide))) (A1 := A) (congrArg Prod.snd (e_bl1 (by decide))) (fun H locs hI => ?_)
  refine lv_iconst (v := (-1)) hx hb dL_errors_134 (by decide) ?_
  refine bicmp_ne_f (tgt := 167) hx hb dL_errors_135 (by decide) (by decide) ?_
  refine lv_aload_n hx hb dL_errors_138 rfl (lv_at hl 1 rfl) ?_
  refine lv_iconst (v := 1) hx hb dL_errors_139 (by decide) ?_
  refine lv_iconst (v := 0) hx hb dL_errors_140 (by decide) ?_
  refine lv_iconst (v := 1) hx hb dL_errors_141 (by decide) ?_
  refine lq_call C hI (As := [.int 1, .int 0, .int 1]) (rest := []) (fun W1 sz hX => cx_setBlink l D ct sz o ad hX ok.1 ok.2.2 1 0 1) (cwV 3 hts gL_errors_X5_setBlink rfl rfl rfl (by decide +kernel) ⟨Nat.le_of_ble_eq_true rfl, Nat.le_of_ble_eq_true rfl⟩) rfl hl.1 rfl (Nat.le_of_ble_eq_true rfl) dL_errors_142 ⟨Nat.le_of_ble_eq_true rfl, Nat.le_of_ble_eq_true rfl⟩ (r := -2) (congrArg Prod.fst (e_bl2 (by decide) (Or.inl (by decide)))) (A1 := A) (congrArg Prod.snd (e_bl2 (by decide) (Or.inl (by decide)))) (fun H locs hI => ?_)
  refine lv_bipush (v := (-2)) hx hb dL_errors_145 (by decide) ?_
  refine bicmp_ne_f (tgt := 167) hx hb dL_errors_147 (by decide) (by decide) ?_
  refine lv_aload_n hx hb dL_errors_150 rfl (lv_at hl 1 rfl) ?_
  refine lv_iconst (v := 1) hx hb dL_errors_151 (by decide) ?_
  refine lv_iconst (v := 1) hx hb dL_errors_152 (by decide) ?_
  refine lv_bipush (v := 51) hx hb dL_errors_153 (by decide) ?_
  refine lq_call C hI (As := [.int 1, .int 1, .int 51]) (rest := []) (fun W1 sz hX => cx_setBlink l D ct sz o ad hX ok.1 ok.2.2 1 1 51) (cwV 3 hts gL_errors_X5_setBlink rfl rfl rfl (by decide +kernel) ⟨Nat.le_of_ble_eq_true rfl, Nat.le_of_ble_eq_true rfl⟩) rfl hl.1 rfl (Nat.le_of_ble_eq_true rfl) dL_errors_155 ⟨Nat.le_of_ble_eq_true rfl, Nat.le_of_ble_eq_true rfl⟩ (r := -2) (congrArg Prod.fst (e_bl2 (by decide) (Or.inr (by decide)))) (A1 := A) (congrArg Prod.snd (e_bl2 (by decide) (Or.inr (by decide)))) (fun H locs hI => ?_)
  refine lv_bipush (v := (-2)) hx hb dL_errors_158 (by decide) ?_
  refine bicmp_ne_f (tgt := 167) hx hb dL_errors_160 (by decide) (by decide) ?_
  refine lv_iconst (v := 1) hx hb dL_errors_163 (by decide) ?_
  refine lv_goto (tgt := 168) hx hb dL_errors_164 (by decide) ?_
  refine lv_istore_n (lv' := [(2, .int 1), (1, .int (nI (nOf (aV A)))), (0, .ref (o 0))]) hx hb dL_errors_168 rfl hl (by decide) rfl (fun ls hl => ?_)
  refine lv_iload_n hx hb dL_errors_169 rfl (lv_at hl 0 rfl) ?_
  refine bif_eq_f (tgt := 334) hx hb dL_errors_170 (by decide) (by decide) ?_
  refine lv_aload_n hx hb dL_errors_173 rfl (lv_at hl 2 rfl) ?_
  refine lv_iconst (v := 3) hx hb dL_errors_174 (by decide) ?_
  refine lv_iconst (v := 1) hx hb dL_errors_175 (by decide) ?_
  refine lq_call C hI (As := [.int 3, .int 1]) (rest := []) (fun W1 sz hX => cx_set l D ct sz o ad hX ok.1 ok.2.2 3 1) (cwV 2 hts gL_errors_X5_set rfl rfl rfl (by decide +kernel) ⟨Nat.le_of_ble_eq_true rfl, Nat.le_of_ble_eq_true rfl⟩) rfl hl.1 rfl (Nat.le_of_ble_eq_true rfl) dL_errors_176 ⟨Nat.le_of_ble_eq_true rfl, Nat.le_of_ble_eq_true rfl⟩ (r := -1) (congrArg Prod.fst (e_set1 (by decide))) (A1 := A) (congrArg Prod.snd (e_set1 (by decide))) (fun H locs hI => ?_)
  refine lv_iconst (v := (-1)) hx hb dL_errors_179 (by decide) ?_
  refine bicmp_ne_f (tgt := 334) hx hb dL_errors_180 (by decide) (by decide) ?_
  refine lv_aload_n hx hb dL_errors_183 rfl (lv_at hl 2 rfl) ?_
  refine lv_iconst (v := 0) hx hb dL_errors_184 (by decide) ?_
  refine lv_iconst (v := 1) hx hb dL_errors_185 (by decide) ?_
  refine lq_call C hI (As := [.int 0, .int 1]) (rest := []) (fun W1 sz hX => cx_set l D ct sz o ad hX ok.1 ok.2.2 0 1) (cwV 2 hts gL_errors_X5_set rfl rfl rfl (by decide +kernel) ⟨Nat.le_of_ble_eq_true rfl, Nat.le_of_ble_eq_true rfl⟩) rfl hl.1 rfl (Nat.le_of_ble_eq_true rfl) dL_errors_186 ⟨Nat.le_of_ble_eq_true rfl, Nat.le_of_ble_eq_true rfl⟩ (r := -2) (congrArg Prod.fst (e_set2 (by decide) (by decide))) (A1 := A) (congrArg Prod.snd (e_set2 (by decide) (by decide))) (fun H locs hI => ?_)
  refine lv_bipush (v := (-2)) hx hb dL_errors_189 (by decide) ?_
  refine bicmp_ne_f (tgt := 334) hx hb dL_errors_191 (by decide) (by decide) ?_
  refine lv_aload_n hx hb dL_errors_194 rfl (lv_at hl 2 rfl) ?_
  refine lv_iconst (v := 0) hx hb dL_errors_195 (by decide) ?_
  refine lv_bipush (v := 51) hx hb dL_errors_196 (by decide) ?_
  refine lq_call C hI (As := [.int 0, .int 51]) (rest := []) (fun W1 sz hX => cx_set l D ct sz o ad hX ok.1 ok.2.2 0 51) (cwV 2 hts gL_errors_X5_set rfl rfl rfl (by decide +kernel) ⟨Nat.le_of_ble_eq_true rfl, Nat.le_of_ble_eq_true rfl⟩) rfl hl.1 rfl (Nat.le_of_ble_eq_true rfl) dL_errors_198 ⟨Nat.le_of_ble_eq_true rfl, Nat.le_of_ble_eq_true rfl⟩ (r := -2) (congrArg Prod.fst (e_set2 (by decide) (by decide))) (A1 := A) (congrArg Prod.snd (e_set2 (by decide) (by decide))) (fun H locs hI => ?_)
  refine lv_bipush (v := (-2)) hx hb dL_errors_201 (by decide) ?_
  refine bicmp_ne_f (tgt := 334) hx hb dL_errors_203 (by decide) (by decide) ?_
  refine lv_aload_n hx hb dL_errors_206 rfl (lv_at hl 2 rfl) ?_
  refine lv_iconst (v := 1) hx hb dL_errors_207 (by decide) ?_
  refine lv_sipush (v := 1001) hx hb dL_errors_208 (by decide) ?_
  refine lq_call C hI (As := [.int 1, .int 1001]) (rest := []) (fun W1 sz hX => cx_set l D ct sz o ad hX ok.1 ok.2.2 1 1001) (cwV 2 hts gL_errors_X5_set rfl rfl rfl (by decide +kernel) ⟨Nat.le_of_ble_eq_true rfl, Nat.le_of_ble_eq_true rfl⟩) rfl hl.1 rfl (Nat.le_of_ble_eq_true rfl) dL_errors_211 ⟨Nat.le_of_ble_eq_true rfl, Nat.le_of_ble_eq_true rfl⟩ (r := -2) (congrArg Prod.fst (e_set2 (by decide) (by decide))) (A1 := A) (congrArg Prod.snd (e_set2 (by decide) (by decide))) (fun H locs hI => ?_)
  refine lv_bipush (v := (-2)) hx hb dL_errors_214 (by decide) ?_
  refine bicmp_ne_f (tgt := 334) hx hb dL_errors_216 (by decide) (by decide) ?_
  refine lv_aload_n hx hb dL_errors_219 rfl (lv_at hl 2 rfl) ?_
  refine lv_iconst (v := 2) hx hb dL_errors_220 (by decide) ?_
  refine lv_iconst (v := 0) hx hb dL_errors_221 (by decide) ?_
  refine lq_call C hI (As := [.int 2, .int 0]) (rest := []) (fun W1 sz hX => cx_set l D ct sz o ad hX ok.1 ok.2.2 2 0) (cwV 2 hts gL_errors_X5_set rfl rfl rfl (by decide +kernel) ⟨Nat.le_of_ble_eq_true rfl, Nat.le_of_ble_eq_true rfl⟩) rfl hl.1 rfl (Nat.le_of_ble_eq_true rfl) dL_errors_222 ⟨Nat.le_of_ble_eq_true rfl, Nat.le_of_ble_eq_true rfl⟩ (r := -2) (congrArg Prod.fst (e_set2 (by decide) (by decide))) (A1 := A) (congrArg Prod.snd (e_set2 (by decide) (by decide))) (fun H locs hI => ?_)
  refine lv_bipush (v := (-2)) hx hb dL_errors_225 (by decide) ?_
  refine bicmp_ne_f (tgt := 334) hx hb dL_errors_227 (by decide) (by decide) ?_
  refine lv_aload_n hx hb dL_errors_230 rfl (lv_at hl 2 rfl) ?_
  refine lv_iload_n hx hb dL_errors_231 rfl (lv_at hl 1 rfl) ?_
  refine lq_call C hI (As := [.int (nI (nOf (aV A)))]) (rest := []) (fun W1 sz hX => cx_replace l D ct sz o ad hX ok.1 ok.2.2 (nI (nOf (aV A)))) (cwV 1 hts gL_errors_X5_replace rfl rfl rfl (by decide +kernel) ⟨Nat.le_of_ble_eq_true rfl, Nat.le_of_ble_eq_true rfl⟩) rfl hl.1 rfl (Nat.le_of_ble_eq_true rfl) dL_errors_232 ⟨Nat.le_of_ble_eq_true rfl, Nat.le_of_ble_eq_true rfl⟩ (r := -1) (congrArg Prod.fst (e_rep (vD_n ok.inv))) (A1 := A) (congrArg Prod.snd (e_rep (vD_n ok.inv))) (fun H locs hI => ?_)
  refine lv_iconst (v := (-1)) hx hb dL_errors_235 (by decide) ?_
  refine bicmp_ne_f (tgt := 334) hx hb dL_errors_236 (by decide) (by decide) ?_
  refine lv_aload_n hx hb dL_errors_239 rfl (lv_at hl 2 rfl) ?_
  refine lv_bipush (v := 51) hx hb dL_errors_240 (by decide) ?_
  refine lq_call C hI (As := [.int 51]) (rest := []) (fun W1 sz hX => cx_test l D ct sz o ad hX ok.1 ok.2.2 51) (cwV 1 hts gL_errors_X5_test rfl rfl rfl (by decide +kernel) ⟨Nat.le_of_ble_eq_true rfl, Nat.le_of_ble_eq_true rfl⟩) rfl hl.1 rfl (Nat.le_of_ble_eq_true rfl) dL_errors_242 ⟨Nat.le_of_ble_eq_true rfl, Nat.le_of_ble_eq_true rfl⟩ (r := -2) (congrArg Prod.fst (e_test (by decide))) (A1 := A) (congrArg Prod.snd (e_test (by decide))) (fun H locs hI => ?_)
  refine lv_bipush (v := (-2)) hx hb dL_errors_245 (by decide) ?_
  refine bicmp_ne_f (tgt := 334) hx hb dL_errors_247 (by decide) (by decide) ?_
  refine lv_aload_n hx hb dL_errors_250 rfl (lv_at hl 2 rfl) ?_
  refine lv_iconst (v := (-1)) hx hb dL_errors_251 (by decide) ?_
  refine lq_call C hI (As := [.int (-1)]) (rest := []) (fun W1 sz hX => cx_test l D ct sz o ad hX ok.1 ok.2.2 (-1)) (cwV 1 hts gL_errors_X5_test rfl rfl rfl (by decide +kernel) ⟨Nat.le_of_ble_eq_true rfl, Nat.le_of_ble_eq_true rfl⟩) rfl hl.1 rfl (Nat.le_of_ble_eq_true rfl) dL_errors_252 ⟨Nat.le_of_ble_eq_true rfl, Nat.le_of_ble_eq_true rfl⟩ (r := -2) (congrArg Prod.fst (e_test (by decide))) (A1 := A) (congrArg Prod.snd (e_test (by decide))) (fun H locs hI => ?_)
  refine lv_bipush (v := (-2)) hx hb dL_errors_255 (by decide) ?_
  refine bicmp_ne_f (tgt := 334) hx hb dL_errors_257 (by decide) (by decide) ?_
  refine lv_aload_n hx hb dL_errors_260 rfl (lv_at hl 2 rfl) ?_
  refine lv_iconst (v := 0) hx hb dL_errors_261 (by decide) ?_
  refine lq_call C hI (As := [.int 0]) (rest := []) (fun W1 sz hX => cx_pass l D ct sz o ad hX ok.1 ok.2.2 0) (cwV 1 hts gL_errors_X5_pass rfl rfl rfl (by decide +kernel) ⟨Nat.le_of_ble_eq_true rfl, Nat.le_of_ble_eq_true rfl⟩) rfl hl.1 rfl (Nat.le_of_ble_eq_true rfl) dL_errors_262 ⟨Nat.le_of_ble_eq_true rfl, Nat.le_of_ble_eq_true rfl⟩ (r := -2) (congrArg Prod.fst (e_pass (by decide))) (A1 := A) (congrArg Prod.snd (e_pass (by decide))) (fun H locs hI => ?_)
  refine lv_bipush (v := (-2)) hx hb dL_errors_265 (by decide) ?_
  refine bicmp_ne_f (tgt := 334) hx hb dL_errors_267 (by decide) (by decide) ?_
  refine lv_aload_n hx hb dL_errors_270 rfl (lv_at hl 2 rfl) ?_
  refine lv_sipush (v := 501) hx hb dL_errors_271 (by decide) ?_
  refine lq_call C hI (As := [.int 501]) (rest := []) (fun W1 sz hX => cx_pass l D ct sz o ad hX ok.1 ok.2.2 501) (cwV 1 hts gL_errors_X5_pass rfl rfl rfl (by decide +kernel) ⟨Nat.le_of_ble_eq_true rfl, Nat.le_of_ble_eq_true rfl⟩) rfl hl.1 rfl (Nat.le_of_ble_eq_true rfl) dL_errors_274 ⟨Nat.le_of_ble_eq_true rfl, Nat.le_of_ble_eq_true rfl⟩ (r := -2) (congrArg Prod.fst (e_pass (by decide))) (A1 := A) (congrArg Prod.snd (e_pass (by decide))) (fun H locs hI => ?_)
  refine lv_bipush (v := (-2)) hx hb dL_errors_277 (by decide) ?_
  refine bicmp_ne_f (tgt := 334) hx hb dL_errors_279 (by decide) (by decide) ?_
  refine lv_aload_n hx hb dL_errors_282 rfl (lv_at hl 2 rfl) ?_
  refine lv_iconst (v := 2) hx hb dL_errors_283 (by decide) ?_
  refine lq_call C hI (As := [.int 2]) (rest := []) (fun W1 sz hX => cx_keep l D ct sz o ad hX ok.1 ok.2.2 2) (cwV 1 hts gL_errors_X5_keep rfl rfl rfl (by decide +kernel) ⟨Nat.le_of_ble_eq_true rfl, Nat.le_of_ble_eq_true rfl⟩) rfl hl.1 rfl (Nat.le_of_ble_eq_true rfl) dL_errors_284 ⟨Nat.le_of_ble_eq_true rfl, Nat.le_of_ble_eq_true rfl⟩ (r := -1) (congrArg Prod.fst (e_keep (by decide))) (A1 := A) (congrArg Prod.snd (e_keep (by decide))) (fun H locs hI => ?_)
  refine lv_iconst (v := (-1)) hx hb dL_errors_287 (by decide) ?_
  refine bicmp_ne_f (tgt := 334) hx hb dL_errors_288 (by decide) (by decide) ?_
  refine lv_aload_n hx hb dL_errors_291 rfl (lv_at hl 2 rfl) ?_
  refine lv_iconst (v := 2) hx hb dL_errors_292 (by decide) ?_
  refine lq_call C hI (As := [.int 2]) (rest := []) (fun W1 sz hX => cx_restore l D ct sz o ad hX ok.1 ok.2.2 2) (cwV 1 hts gL_errors_X5_restore rfl rfl rfl (by decide +kernel) ⟨Nat.le_of_ble_eq_true rfl, Nat.le_of_ble_eq_true rfl⟩) rfl hl.1 rfl (Nat.le_of_ble_eq_true rfl) dL_errors_293 ⟨Nat.le_of_ble_eq_true rfl, Nat.le_of_ble_eq_true rfl⟩ (r := -1) (congrArg Prod.fst (e_rest (by decide))) (A1 := A) (congrArg Prod.snd (e_rest (by decide))) (fun H locs hI => ?_)
  refine lv_iconst (v := (-1)) hx hb dL_errors_296 (by decide) ?_
  refine bicmp_ne_f (tgt := 334) hx hb dL_errors_297 (by decide) (by decide) ?_
  refine lv_aload_n hx hb dL_errors_300 rfl (lv_at hl 2 rfl) ?_
  refine lv_iload_n hx hb dL_errors_301 rfl (lv_at hl 1 rfl) ?_
  refine lq_call C hI (As := [.int (nI (nOf (aV A)))]) (rest := []) (fun W1 sz hX => cx_steadyGlow l D ct sz o ad hX ok.1 ok.2.2 (nI (nOf (aV A)))) (cwV 1 hts gL_errors_X5_steadyGlow rfl rfl rfl (by decide +kernel) ⟨Nat.le_of_ble_eq_true rfl, Nat.le_of_ble_eq_true rfl⟩) rfl hl.1 rfl (Nat.le_of_ble_eq_true rfl) dL_errors_302 ⟨Nat.le_of_ble_eq_true rfl, Nat.le_of_ble_eq_true rfl⟩ (r := -1) (e_stg (vD_n ok.inv)) (A1 := A) (rfl) (fun H locs hI => ?_)
  refine lv_iconst (v := (-1)) hx hb dL_errors_305 (by decide) ?_
  refine bicmp_ne_f (tgt := 334) hx hb dL_errors_306 (by decide) (by decide) ?_
  refine lv_aload_n hx hb dL_errors_309 rfl (lv_at hl 2 rfl) ?_
  refine lv_iload_n hx hb dL_errors_310 rfl (lv_at hl 1 rfl) ?_
  refine lv_iconst (v := 0) hx hb dL_errors_311 (by decide) ?_
  refine lq_call C hI (As := [.int (nI (nOf (aV A))), .int 0]) (rest := []) (fun W1 sz hX => cx_litIn l D ct sz o ad hX ok.1 ok.2.2 (nI (nOf (aV A))) 0) (cwV 2 hts gL_errors_X5_litIn rfl rfl rfl (by decide +kernel) ⟨Nat.le_of_ble_eq_true rfl, Nat.le_of_ble_eq_true rfl⟩) rfl hl.1 rfl (Nat.le_of_ble_eq_true rfl) dL_errors_312 ⟨Nat.le_of_ble_eq_true rfl, Nat.le_of_ble_eq_true rfl⟩ (r := -1) (e_lit (vD_n ok.inv)) (A1 := A) (rfl) (fun H locs hI => ?_)
  refine lv_iconst (v := (-1)) hx hb dL_errors_315 (by decide) ?_
  refine bicmp_ne_f (tgt := 334) hx hb dL_errors_316 (by decide) (by decide) ?_
  refine lv_aload_n hx hb dL_errors_319 rfl (lv_at hl 2 rfl) ?_
  refine lv_bipush (v := 14) hx hb dL_errors_320 (by decide) ?_
  refine lq_call C hI (As := [.int 14]) (rest := []) (fun W1 sz hX => cx_count l D ct sz o ad hX ok.1 ok.2.2 14) (cwV 1 hts gL_errors_X5_count rfl rfl rfl (by decide +kernel) ⟨Nat.le_of_ble_eq_true rfl, Nat.le_of_ble_eq_true rfl⟩) rfl hl.1 rfl (Nat.le_of_ble_eq_true rfl) dL_errors_322 ⟨Nat.le_of_ble_eq_true rfl, Nat.le_of_ble_eq_true rfl⟩ (r := -2) (qc_14) (A1 := A) (rfl) (fun H locs hI => ?_)
  refine lv_bipush (v := (-2)) hx hb dL_errors_325 (by decide) ?_
  refine bicmp_ne_f (tgt := 334) hx hb dL_errors_327 (by decide) (by decide) ?_
  refine lv_iconst (v := 1) hx hb dL_errors_330 (by decide) ?_
  refine lv_goto (tgt := 335) hx hb dL_errors_331 (by decide) ?_
  have h9 := lq_end (args := #[.ref (o 0)]) (v := 1) (F := ((1, A) : Int32 × AS)) (Xp := CX ct o ad) hI hZe (rfl) (fun W1 h9 => h9)
  subst hQ
  exact W.zret (v := 1) hx hb hr (by decide) h9.1 h9.2 dL_errors_335


