set_option maxHeartbeats 4000000 in
set_option maxRecDepth 100000 in
theorem kL_low (l : Launch) (D : va_G) (ct : Nat → ClassId) (x n : Int32) (hn0 : ¬ n = 0) : Met l yL_low wsL_low ({ frames := 0, cells := 0, slots := 0, locals := 0 }) (roP D ct [] [.int x, .int n]) (vp_Si (fun r => r = pLow x n)) 0 0 noA := by
  refine Met.ofW (cc := cL_low) (maxL := 2) (ret := (some .int)) (by decide) rfl ?_
  intro p e s m args below meth c s₁ B hml hv
  obtain ⟨rfl, hP, hK, hN⟩ := hv
  have hx := B.exec
  have hb := B.bytes
  have hr := B.returns
  have hts := atoms_spec (ws := wsL_low) B.pre
  have hown : s.vm.findClass RL = some m.cls := findClass_of_methodNamed B.named
  have hlocks := B.notSynchronized
  obtain ⟨Q, hQ⟩ : ∃ Q : State → Prop, Q = MQ below (vp_Si (fun r => r = pLow x n)) #[.int x, .int n] s 0 0 noA := ⟨_, rfl⟩
  show W p l e _ s m #[.int x, .int n] below meth c s.heap [] 0 0 (MQ below (vp_Si (fun r => r = pLow x n)) #[.int x, .int n] s 0 0 noA) _
  rw [← hQ]
  have hl := lv_entry ([.int x, .int n]) (n := 2) (Nat.le_of_ble_eq_true rfl)
  rw [lg_entry_eq]
  generalize (lg_sl ([.int x, .int n]) ++ List.replicate (2 - (lg_sl ([.int x, .int n])).length) Slot.unset).toArray = ls at hl ⊢
  have hl : lv_has ls 2 [(0, .int x), (1, .int n)] := hl
  have w_1 := hts (.constant RL 8 (2147483647)) (List.mem_of_getElem? (i := 1) rfl)
  refine lv_iload_n hx hb dL_low_0 rfl (lv_at hl 0 rfl) ?_
  refine lv_ldc (v := 2147483647) hx hb hown w_1 dL_low_1 ?_
  refine lv_iand hx hb dL_low_3 ?_
  refine lv_iload_n hx hb dL_low_4 rfl (lv_at hl 1 rfl) ?_
  refine lv_irem hx hb dL_low_5 (hn0) ?_
  subst hQ
  exact W.iret (v := ((x &&& 2147483647) - (x &&& 2147483647) / n * n)) hx hb hr (fun tt ht hW => ⟨((x &&& 2147483647) - (x &&& 2147483647) / n * n), rfl, rfl, ht⟩) (fun q hq => absurd hq List.not_mem_nil) dL_low_6

set_option maxHeartbeats 4000000 in
set_option maxRecDepth 100000 in
theorem kL_bits (l : Launch) (D : va_G) (ct : Nat → ClassId) (x : Int32) (hx9 : rg x 0 255) : Met l yL_bits wsL_bits ({ frames := 0, cells := 0, slots := 0, locals := 0 }) (roP D ct [] [.int x]) (vp_Si (fun r => r = pBro x 8)) 0 0 noA := by
  refine Met.ofW (cc := cL_bits) (maxL := 3) (ret := (some .int)) (by decide) rfl ?_
  intro p e s m args below meth c s₁ B hml hv
  obtain ⟨rfl, hP, hK, hN⟩ := hv
  have hx := B.exec
  have hb := B.bytes
  have hr := B.returns
  have hts := atoms_spec (ws := wsL_bits) B.pre
  have hown : s.vm.findClass RL = some m.cls := findClass_of_methodNamed B.named
  have hlocks := B.notSynchronized
  obtain ⟨Q, hQ⟩ : ∃ Q : State → Prop, Q = MQ below (vp_Si (fun r => r = pBro x 8)) #[.int x] s 0 0 noA := ⟨_, rfl⟩
  show W p l e _ s m #[.int x] below meth c s.heap [] 0 0 (MQ below (vp_Si (fun r => r = pBro x 8)) #[.int x] s 0 0 noA) _
  rw [← hQ]
  have hl := lv_entry ([.int x]) (n := 3) (Nat.le_of_ble_eq_true rfl)
  rw [lg_entry_eq]
  generalize (lg_sl ([.int x]) ++ List.replicate (3 - (lg_sl ([.int x])).length) Slot.unset).toArray = ls at hl ⊢
  have hl : lv_has ls 3 [(0, .int x)] := hl
  obtain ⟨b9, -, hb9, e9⟩ := hx9
  refine lv_iconst (v := 0) hx hb dL_bits_0 (by decide) ?_
  refine lv_istore_n (lv' := [(1, .int 0), (0, .int x)]) hx hb dL_bits_1 rfl hl (by decide) rfl (fun ls hl => ?_)
  refine lv_iload_n hx hb dL_bits_2 rfl (lv_at hl 1 rfl) ?_
  refine lv_as (y := nI (b9 / 2 ^ 0)) (by rw [Nat.pow_zero, Nat.div_one]; exact e9) ?_
  refine lv_istore_n (lv' := [(2, .int (nI (b9 / 2 ^ 0))), (1, .int 0), (0, .int x)]) hx hb dL_bits_3 rfl hl (by decide) rfl (fun ls hl => ?_)
  have loop_4 : ∀ (n_4 : Nat) (k : Nat), (9 ≤ k + n_4) → (k ≤ 8) → ∀ (ls : Array Slot), lv_has ls 3 [(1, .int (pBro (nI b9) k)), (2, .int (nI (b9 / 2 ^ k))), (0, .int x)] → W p l e (headSpec wsL_bits ({ frames := 0, cells := 0, slots := 0, locals := 0 })).room s m #[.int x] below meth c s.heap [] 0 0 Q (F0 m 4 ls []) := by
    intro n_4
    induction n_4 with
    | zero =>
      intro k hn hk8
      exact absurd hn (by omega)
    | succ n_4 ih_4 =>
      intro k hn hk8 ls hl
      refine lv_iload_n hx hb dL_bits_4 rfl (lv_at hl 1 rfl) ?_
      refine lv_if_le (tgt := 21) hx hb dL_bits_5 (by decide) (fun c_5 => ?_) (fun c_5 => ?_)
      · have ez : b9 / 2 ^ k = 0 := Nat.le_zero.mp (nI_le' (by have := Nat.div_le_self b9 (2 ^ k); omega) (by decide) c_5)
        refine lv_iload_n hx hb dL_bits_21 rfl (lv_at hl 0 rfl) ?_
        subst hQ
        exact W.iret (v := (pBro (nI b9) k)) hx hb hr (fun tt ht hW => ⟨(pBro (nI b9) k), rfl, by rw [e9]; exact pBro_rest b9 (by omega) k hk8 ez, ht⟩) (fun q hq => absurd hq List.not_mem_nil) dL_bits_22
      · have ez : ¬ b9 / 2 ^ k = 0 := fun z => c_5 (by rw [z]; decide)
        have hk : k < 8 := by
          rcases Nat.lt_or_ge k 8 with z | z
          · exact z
          · exact absurd (by rw [show k = 8 by omega]; omega) ez
        have hz : b9 / 2 ^ k < 256 := Nat.lt_of_le_of_lt (Nat.div_le_self _ _) (by omega)
        refine lv_iload_n hx hb dL_bits_8 rfl (lv_at hl 0 rfl) ?_
        refine lv_iload_n hx hb dL_bits_9 rfl (lv_at hl 1 rfl) ?_
        refine lv_iconst (v := 2) hx hb dL_bits_10 (by decide) ?_
        refine lv_irem hx hb dL_bits_11 (by decide) ?_
        refine lv_as (y := nI (b9 / 2 ^ k % 2)) (pk_rem (d := 2) (by omega) (by decide) (by decide)) ?_
        refine lv_iadd hx hb dL_bits_12 ?_
        refine lv_as (y := pBro (nI b9) (k + 1)) (by rw [← bit_N b9 (by omega) k hk]; rfl) ?_
        refine lv_istore_n (lv' := [(1, .int (pBro (nI b9) (k + 1))), (2, .int (nI (b9 / 2 ^ k))), (0, .int x)]) hx hb dL_bits_13 rfl hl (by decide) rfl (fun ls hl => ?_)
        refine lv_iload_n hx hb dL_bits_14 rfl (lv_at hl 1 rfl) ?_
        refine lv_iconst (v := 2) hx hb dL_bits_15 (by decide) ?_
        refine lv_idiv hx hb dL_bits_16 (by decide) ?_
        refine lv_as (y := nI (b9 / 2 ^ (k + 1))) (by rw [Nat.pow_succ, ← Nat.div_div_eq_div_mul]; exact pk_div (d := 2) (by omega) (by decide) (by decide)) ?_
        refine lv_istore_n (lv' := [(2, .int (nI (b9 / 2 ^ (k + 1)))), (1, .int (pBro (nI b9) (k + 1))), (0, .int x)]) hx hb dL_bits_17 rfl hl (by decide) rfl (fun ls hl => ?_)
        refine lv_goto (tgt := 4) hx hb dL_bits_18 (by decide) ?_
        exact ih_4 (k + 1) (by omega) (by omega) ls (lv_sub hl [1, 0, 2] rfl)
  exact loop_4 (9) 0 (by omega) (by omega) ls (lv_sub hl [1, 0, 2] rfl)

set_option maxHeartbeats 4000000 in
set_option maxRecDepth 100000 in
theorem kL_lit (l : Launch) (D : va_G) (ct : Nat → ClassId) (sz : Nat) (o : Nat → Nat) (ad : Nat → Nat → Nat) {A : AS} {W0 : va_W} {b : Nat} (hX0 : CX ct o ad A W0) (ok : LOk b A) (d : Nat) (hd : d < nOf (aV A)) : Met l yL_lit wsL_lit ({ frames := 3, cells := 0, slots := 0, locals := 66 }) (muPS D ct W0 sz [.ref (o 0), .int (nI d)]) (mxQ D ct W0 sz ((pLit (aV A) d, A) : Int32 × AS) (CX ct o ad)) 0 0 (va_A W0 sz) := by
  refine Met.ofW (cc := cL_lit) (maxL := 6) (ret := (some .int)) (by decide) rfl ?_
  intro p e s m args below meth c s₁ B hml hv
  obtain ⟨rfl, hZ, hsz, hP, hK, hN, hD0⟩ := hv
  have hx := B.exec
  have hb := B.bytes
  have hr := B.returns
  have hts := atoms_spec (ws := wsL_lit) B.pre
  have hown : s.vm.findClass RL = some m.cls := findClass_of_methodNamed B.named
  have hlocks := B.notSynchronized
  subst hsz
  have hD := hD0.self (sz := s.heap.size)
  obtain ⟨Q, hQ⟩ : ∃ Q : State → Prop, Q = MQ below (mxQ D ct W0 s.heap.size ((pLit (aV A) d, A) : Int32 × AS) (CX ct o ad)) #[.ref (o 0), .int (nI d)] s 0 0 (va_A W0 s.heap.size) := ⟨_, rfl⟩
  show W p l e _ s m #[.ref (o 0), .int (nI d)] below meth c s.heap [] 0 0 (MQ below (mxQ D ct W0 s.heap.size ((pLit (aV A) d, A) : Int32 × AS) (CX ct o ad)) #[.ref (o 0), .int (nI d)] s 0 0 (va_A W0 s.heap.size)) _
  rw [← hQ]
  obtain ⟨Z, hZe⟩ : ∃ Z : Nat → Prop, va_A W0 s.heap.size = Z := ⟨_, rfl⟩
  rw [hZe] at hD hZ
  have hA : ∀ q : Nat, s.heap.size ≤ q → Z q := fun q h => by rw [← hZe]; exact Or.inr h
  have C : LF p s m c cL_lit 6 #[.ref (o 0), .int (nI d)] wsL_lit D ct Z := ⟨⟨hx, hb, hml, hown, hts⟩, hK, hN, hZ, hA⟩
  have hI := lq_begin hX0 hP hD
  have hl := lv_entry ([.ref (o 0), .int (nI d)]) (n := 6) (Nat.le_of_ble_eq_true rfl)
  rw [lg_entry_eq]
  generalize (lg_sl ([.ref (o 0), .int (nI d)]) ++ List.replicate (6 - (lg_sl ([.ref (o 0), .int (nI d)])).length) Slot.unset).toArray = ls at hl ⊢
  have hl : lv_has ls 6 [(0, .ref (o 0)), (1, .int (nI d))] := hl
  obtain ⟨hg, eg⟩ := gr_cl ok.inv hd
  refine lv_aload_n hx hb dL_lit_0 rfl (lv_at hl 0 rfl) ?_
  refine lv_iconst (v := 4) hx hb dL_lit_1 (by decide) ?_
  refine lq_call C hI (As := [.int 4]) (rest := []) (fun W1 sz hX => cx_count l D ct sz o ad hX ok.1 ok.2.2 4) (cwV 1 hts gL_lit_X5_count rfl rfl rfl (by decide +kernel) ⟨Nat.le_of_ble_eq_true rfl, Nat.le_of_ble_eq_true rfl⟩) rfl hl.1 rfl (Nat.le_of_ble_eq_true rfl) dL_lit_2 ⟨Nat.le_of_ble_eq_true rfl, Nat.le_of_ble_eq_true rfl⟩ (r := (aV A).1 0 3) (qc_4) (A1 := A) (rfl) (fun H locs hI => ?_)
  refine lv_aload_n hx hb dL_lit_5 rfl (lv_at hl 0 rfl) ?_
  refine lv_iload_n hx hb dL_lit_6 rfl (lv_at hl 1 rfl) ?_
  refine lv_bipush (v := 6) hx hb dL_lit_7 (by decide) ?_
  refine lq_call C hI (As := [.int (nI d), .int 6]) (rest := [.int ((aV A).1 0 3)]) (fun W1 sz hX => cx_digit l D ct sz o ad hX ok.1 ok.2.2 (nI d) 6) (cwV 2 hts gL_lit_X5_digit rfl rfl rfl (by decide +kernel) ⟨Nat.le_of_ble_eq_true rfl, Nat.le_of_ble_eq_true rfl⟩) rfl hl.1 rfl (Nat.le_of_ble_eq_true rfl) dL_lit_9 ⟨Nat.le_of_ble_eq_true rfl, Nat.le_of_ble_eq_true rfl⟩ (r := pBeg (aV A) d) (qd_6 ok.inv hd) (A1 := A) (rfl) (fun H locs hI => ?_)
  refine lv_isub hx hb dL_lit_12 ?_
  refine lv_istore_n (lv' := [(2, .int (((aV A).1 0 3) - (pBeg (aV A) d))), (0, .ref (o 0)), (1, .int (nI d))]) hx hb dL_lit_13 rfl hl (by decide) rfl (fun ls hl => ?_)
  refine lv_aload_n hx hb dL_lit_14 rfl (lv_at hl 1 rfl) ?_
  refine lv_bipush (v := 6) hx hb dL_lit_15 (by decide) ?_
  refine lq_call C hI (As := [.int 6]) (rest := []) (fun W1 sz hX => cx_count l D ct sz o ad hX ok.1 ok.2.2 6) (cwV 1 hts gL_lit_X5_count rfl rfl rfl (by decide +kernel) ⟨Nat.le_of_ble_eq_true rfl, Nat.le_of_ble_eq_true rfl⟩) rfl hl.1 rfl (Nat.le_of_ble_eq_true rfl) dL_lit_17 ⟨Nat.le_of_ble_eq_true rfl, Nat.le_of_ble_eq_true rfl⟩ (r := (aV A).1 0 4) (qc_6) (A1 := A) (rfl) (fun H locs hI => ?_)
  have J_20 : ∀ (x9 : Int32) (H : Heap) (locs : List Loc), LH s D ct o ad Z [] A H locs → x9 = (if 0 < (aV A).1 0 4 then 1 else 0) → W p l e (headSpec wsL_lit ({ frames := 3, cells := 0, slots := 0, locals := 66 })).room s m #[.ref (o 0), .int (nI d)] below meth c H locs 0 0 Q (F0 m 28 ls [.int x9]) := by
    intro x9 H locs hI e9
    subst e9
    refine lv_istore_n (lv' := [(3, .int (if 0 < (aV A).1 0 4 then 1 else 0)), (2, .int (((aV A).1 0 3) - (pBeg (aV A) d))), (0, .ref (o 0)), (1, .int (nI d))]) hx hb dL_lit_28 rfl hl (by decide) rfl (fun ls hl => ?_)
    refine lv_iload_n hx hb dL_lit_29 rfl (lv_at hl 1 rfl) ?_
    have J_30 : ∀ (x9 : Int32) (H : Heap) (locs : List Loc), LH s D ct o ad Z [] A H locs → x9 = (if pSlot (aV A) = d then 1 else 0) → W p l e (headSpec wsL_lit ({ frames := 3, cells := 0, slots := 0, locals := 66 })).room s m #[.ref (o 0), .int (nI d)] below meth c H locs 0 0 Q (F0 m 48 ls [.int x9]) := by
      intro x9 H locs hI e9
      subst e9
      refine lv_istore (lv' := [(4, .int (if pSlot (aV A) = d then 1 else 0)), (3, .int (if 0 < (aV A).1 0 4 then 1 else 0)), (2, .int (((aV A).1 0 3) - (pBeg (aV A) d))), (0, .ref (o 0)), (1, .int (nI d))]) hx hb dL_lit_48 hl (by decide) rfl (fun ls hl => ?_)
      refine lv_iload hx hb dL_lit_50 (lv_at hl 0 rfl) ?_
      have J_52 : ∀ (x9 : Int32) (H : Heap) (locs : List Loc), LH s D ct o ad Z [] A H locs → x9 = (if pSlot (aV A) = d ∧ pDrv (aV A) d then 1 else 0) → W p l e (headSpec wsL_lit ({ frames := 3, cells := 0, slots := 0, locals := 66 })).room s m #[.ref (o 0), .int (nI d)] below meth c H locs 0 0 Q (F0 m 109 ls [.int x9]) := by
        intro x9 H locs hI e9
        subst e9
        refine lv_istore (lv' := [(5, .int (if pSlot (aV A) = d ∧ pDrv (aV A) d then 1 else 0)), (4, .int (if pSlot (aV A) = d then 1 else 0)), (3, .int (if 0 < (aV A).1 0 4 then 1 else 0)), (2, .int (((aV A).1 0 3) - (pBeg (aV A) d))), (0, .ref (o 0)), (1, .int (nI d))]) hx hb dL_lit_109 hl (by decide) rfl (fun ls hl => ?_)
        refine lv_iload hx hb dL_lit_111 (lv_at hl 0 rfl) ?_
        refine lv_if_eq (tgt := 145) hx hb dL_lit_113 (by decide) (fun c_113 => ?_) (fun c_113 => ?_)
        · refine lv_iconst (v := 0) hx hb dL_lit_145 (by decide) ?_
          have h9 := lq_end (args := #[.ref (o 0), .int (nI d)]) (v := 0) (F := ((pLit (aV A) d, A) : Int32 × AS)) (Xp := CX ct o ad) hI hZe ((if_neg (ite01 c_113)).symm) (fun W1 h9 => h9)
          subst hQ
          exact W.iret (v := 0) hx hb hr h9.1 h9.2 dL_lit_146
        · refine lv_iload_n hx hb dL_lit_116 rfl (lv_at hl 2 rfl) ?_
          have J_117 : ∀ (x9 : Int32) (H : Heap) (locs : List Loc), LH s D ct o ad Z [] A H locs → x9 = (if 0 < (aV A).1 0 4 then 255 else (aV A).1 (4 + d) 0) → W p l e (headSpec wsL_lit ({ frames := 3, cells := 0, slots := 0, locals := 66 })).room s m #[.ref (o 0), .int (nI d)] below meth c H locs 0 0 Q (F0 m 132 ls [.int x9]) := by
            intro x9 H locs hI e9
            subst e9
            refine lv_aload_n hx hb dL_lit_132 rfl (lv_at hl 4 rfl) ?_
            refine lv_iload_n hx hb dL_lit_133 rfl (lv_at hl 5 rfl) ?_
            refine lv_bipush (v := 8) hx hb dL_lit_134 (by decide) ?_
            refine lq_call C hI (As := [.int (nI d), .int 8]) (rest := [.int (if 0 < (aV A).1 0 4 then 255 else (aV A).1 (4 + d) 0)]) (fun W1 sz hX => cx_digit l D ct sz o ad hX ok.1 ok.2.2 (nI d) 8) (cwV 2 hts gL_lit_X5_digit rfl rfl rfl (by decide +kernel) ⟨Nat.le_of_ble_eq_true rfl, Nat.le_of_ble_eq_true rfl⟩) rfl hl.1 rfl (Nat.le_of_ble_eq_true rfl) dL_lit_136 ⟨Nat.le_of_ble_eq_true rfl, Nat.le_of_ble_eq_true rfl⟩ (r := (aV A).1 (4 + d) 6) (qd_8 ok.inv hd) (A1 := A) (rfl) (fun H locs hI => ?_)
            refine lv_iconst (v := (-1)) hx hb dL_lit_139 (by decide) ?_
            refine lv_ixor hx hb dL_lit_140 ?_
            refine lv_iand hx hb dL_lit_141 ?_
            refine lv_goto (tgt := 146) hx hb dL_lit_142 (by decide) ?_
            have h9 := lq_end (args := #[.ref (o 0), .int (nI d)]) (v := ((if 0 < (aV A).1 0 4 then 255 else (aV A).1 (4 + d) 0) &&& (((aV A).1 (4 + d) 6) ^^^ (-1)))) (F := ((pLit (aV A) d, A) : Int32 × AS)) (Xp := CX ct o ad) hI hZe ((if_pos (ite11 c_113)).symm) (fun W1 h9 => h9)
            subst hQ
            exact W.iret (v := ((if 0 < (aV A).1 0 4 then 255 else (aV A).1 (4 + d) 0) &&& (((aV A).1 (4 + d) 6) ^^^ (-1)))) hx hb hr h9.1 h9.2 dL_lit_146
          refine lv_if_eq (tgt := 126) hx hb dL_lit_117 (by decide) (fun c_117 => ?_) (fun c_117 => ?_)
          · refine lv_aload_n hx hb dL_lit_126 rfl (lv_at hl 4 rfl) ?_
            refine lv_iload_n hx hb dL_lit_127 rfl (lv_at hl 5 rfl) ?_
            refine lv_iconst (v := 0) hx hb dL_lit_128 (by decide) ?_
            refine lq_call C hI (As := [.int (nI d), .int 0]) (rest := []) (fun W1 sz hX => cx_digit l D ct sz o ad hX ok.1 ok.2.2 (nI d) 0) (cwV 2 hts gL_lit_X5_digit rfl rfl rfl (by decide +kernel) ⟨Nat.le_of_ble_eq_true rfl, Nat.le_of_ble_eq_true rfl⟩) rfl hl.1 rfl (Nat.le_of_ble_eq_true rfl) dL_lit_129 ⟨Nat.le_of_ble_eq_true rfl, Nat.le_of_ble_eq_true rfl⟩ (r := (aV A).1 (4 + d) 0) (qd_0 ok.inv hd) (A1 := A) (rfl) (fun H locs hI => ?_)
            exact J_117 _ _ _ hI ((if_neg (ite01 c_117)).symm)
          · refine lv_sipush (v := 255) hx hb dL_lit_120 (by decide) ?_
            refine lv_goto (tgt := 132) hx hb dL_lit_123 (by decide) ?_
            exact J_117 _ _ _ hI ((if_pos (ite11 c_117)).symm)
      refine lv_if_eq (tgt := 108) hx hb dL_lit_52 (by decide) (fun c_52 => ?_) (fun c_52 => ?_)
      · refine lv_iconst (v := 0) hx hb dL_lit_108 (by decide) ?_
        exact J_52 _ _ _ hI ((if_neg (fun z => ite01 c_52 z.1)).symm)
      · refine lv_iload_n hx hb dL_lit_55 rfl (lv_at hl 1 rfl) ?_
        refine lv_if_eq (tgt := 79) hx hb dL_lit_56 (by decide) (fun c_56 => ?_) (fun c_56 => ?_)
        · refine lv_iload_n hx hb dL_lit_79 rfl (lv_at hl 2 rfl) ?_
          refine lv_aload_n hx hb dL_lit_80 rfl (lv_at hl 3 rfl) ?_
          refine lv_iload_n hx hb dL_lit_81 rfl (lv_at hl 4 rfl) ?_
          refine lv_iconst (v := 5) hx hb dL_lit_82 (by decide) ?_
          refine lq_call C hI (As := [.int (nI d), .int 5]) (rest := [.int (((aV A).1 0 3) - (pBeg (aV A) d))]) (fun W1 sz hX => cx_digit l D ct sz o ad hX ok.1 ok.2.2 (nI d) 5) (cwV 2 hts gL_lit_X5_digit rfl rfl rfl (by decide +kernel) ⟨Nat.le_of_ble_eq_true rfl, Nat.le_of_ble_eq_true rfl⟩) rfl hl.1 rfl (Nat.le_of_ble_eq_true rfl) dL_lit_83 ⟨Nat.le_of_ble_eq_true rfl, Nat.le_of_ble_eq_true rfl⟩ (r := pLP (aV A) d) (qd_5 ok.inv hd) (A1 := A) (rfl) (fun H locs hI => ?_)
          refine lv_icmp_ge (tgt := 108) hx hb dL_lit_86 (by decide) (fun c_86 => ?_) (fun c_86 => ?_)
          · refine lv_iconst (v := 0) hx hb dL_lit_108 (by decide) ?_
            exact J_52 _ _ _ hI ((if_neg (fun z => z.2.elim (fun y => (ite01 c_56) y.1) (fun y => absurd y.2.1 (Int32.not_lt.mpr c_86)))).symm)
          · refine lv_aload_n hx hb dL_lit_89 rfl (lv_at hl 3 rfl) ?_
            refine lv_aload_n hx hb dL_lit_90 rfl (lv_at hl 3 rfl) ?_
            refine lv_iload_n hx hb dL_lit_91 rfl (lv_at hl 4 rfl) ?_
            refine lv_iconst (v := 4) hx hb dL_lit_92 (by decide) ?_
            refine lq_call C hI (As := [.int (nI d), .int 4]) (rest := [.ref (o 0)]) (fun W1 sz hX => cx_digit l D ct sz o ad hX ok.1 ok.2.2 (nI d) 4) (cwV 2 hts gL_lit_X5_digit rfl rfl rfl (by decide +kernel) ⟨Nat.le_of_ble_eq_true rfl, Nat.le_of_ble_eq_true rfl⟩) rfl hl.1 rfl (Nat.le_of_ble_eq_true rfl) dL_lit_93 ⟨Nat.le_of_ble_eq_true rfl, Nat.le_of_ble_eq_true rfl⟩ (r := (aV A).1 (4 + d) 4) (qd_4 ok.inv hd) (A1 := A) (rfl) (fun H locs hI => ?_)
            refine lv_as (y := nI (gOf (aV A) d)) (eg) ?_
            refine lv_iconst (v := 2) hx hb dL_lit_96 (by decide) ?_
            refine lq_call C hI (As := [.int (nI (gOf (aV A) d)), .int 2]) (rest := []) (fun W1 sz hX => cx_group l D ct sz o ad hX ok.1 ok.2.2 (nI (gOf (aV A) d)) 2) (cwV 2 hts gL_lit_X5_group rfl rfl rfl (by decide +kernel) ⟨Nat.le_of_ble_eq_true rfl, Nat.le_of_ble_eq_true rfl⟩) rfl hl.1 rfl (Nat.le_of_ble_eq_true rfl) dL_lit_97 ⟨Nat.le_of_ble_eq_true rfl, Nat.le_of_ble_eq_true rfl⟩ (r := (if pOn (aV A) (gOf (aV A) d) then 1 else 0)) (qg_2 (A := A) hg) (A1 := A) (rfl) (fun H locs hI => ?_)
            refine lv_iconst (v := 1) hx hb dL_lit_100 (by decide) ?_
            refine lv_icmp_ne (tgt := 108) hx hb dL_lit_101 (by decide) (fun c_101 => ?_) (fun c_101 => ?_)
            · refine lv_iconst (v := 0) hx hb dL_lit_108 (by decide) ?_
              exact J_52 _ _ _ hI ((if_neg (fun z => z.2.elim (fun y => (ite01 c_56) y.1) (fun y => c_101 (if_pos y.2.2)))).symm)
            · refine lv_iconst (v := 1) hx hb dL_lit_104 (by decide) ?_
              refine lv_goto (tgt := 109) hx hb dL_lit_105 (by decide) ?_
              exact J_52 _ _ _ hI ((if_pos ⟨(ite11 c_52), Or.inr ⟨(ite01 c_56), Int32.not_le.mp c_86, ite1 c_101⟩⟩).symm)
        · refine lv_iload_n hx hb dL_lit_59 rfl (lv_at hl 2 rfl) ?_
          refine lv_aload_n hx hb dL_lit_60 rfl (lv_at hl 3 rfl) ?_
          refine lv_iload_n hx hb dL_lit_61 rfl (lv_at hl 4 rfl) ?_
          refine lv_iconst (v := 1) hx hb dL_lit_62 (by decide) ?_
          refine lq_call C hI (As := [.int (nI d), .int 1]) (rest := [.int (((aV A).1 0 3) - (pBeg (aV A) d))]) (fun W1 sz hX => cx_digit l D ct sz o ad hX ok.1 ok.2.2 (nI d) 1) (cwV 2 hts gL_lit_X5_digit rfl rfl rfl (by decide +kernel) ⟨Nat.le_of_ble_eq_true rfl, Nat.le_of_ble_eq_true rfl⟩) rfl hl.1 rfl (Nat.le_of_ble_eq_true rfl) dL_lit_63 ⟨Nat.le_of_ble_eq_true rfl, Nat.le_of_ble_eq_true rfl⟩ (r := (aV A).1 (4 + d) 1) (qd_1 ok.inv hd) (A1 := A) (rfl) (fun H locs hI => ?_)
          refine lv_aload_n hx hb dL_lit_66 rfl (lv_at hl 3 rfl) ?_
          refine lv_iload_n hx hb dL_lit_67 rfl (lv_at hl 4 rfl) ?_
          refine lv_iconst (v := 2) hx hb dL_lit_68 (by decide) ?_
          refine lq_call C hI (As := [.int (nI d), .int 2]) (rest := [.int ((aV A).1 (4 + d) 1), .int (((aV A).1 0 3) - (pBeg (aV A) d))]) (fun W1 sz hX => cx_digit l D ct sz o ad hX ok.1 ok.2.2 (nI d) 2) (cwV 2 hts gL_lit_X5_digit rfl rfl rfl (by decide +kernel) ⟨Nat.le_of_ble_eq_true rfl, Nat.le_of_ble_eq_true rfl⟩) rfl hl.1 rfl (Nat.le_of_ble_eq_true rfl) dL_lit_69 ⟨Nat.le_of_ble_eq_true rfl, Nat.le_of_ble_eq_true rfl⟩ (r := (aV A).1 (4 + d) 2) (qd_2 ok.inv hd) (A1 := A) (rfl) (fun H locs hI => ?_)
          refine lv_isub hx hb dL_lit_72 ?_
          refine lv_icmp_ge (tgt := 108) hx hb dL_lit_73 (by decide) (fun c_73 => ?_) (fun c_73 => ?_)
          · refine lv_iconst (v := 0) hx hb dL_lit_108 (by decide) ?_
            exact J_52 _ _ _ hI ((if_neg (fun z => z.2.elim (fun y => absurd y.2 (Int32.not_lt.mpr c_73)) (fun y => y.1 (ite11 c_56)))).symm)
          · refine lv_goto (tgt := 104) hx hb dL_lit_76 (by decide) ?_
            refine lv_iconst (v := 1) hx hb dL_lit_104 (by decide) ?_
            refine lv_goto (tgt := 109) hx hb dL_lit_105 (by decide) ?_
            exact J_52 _ _ _ hI ((if_pos ⟨(ite11 c_52), Or.inl ⟨(ite11 c_56), Int32.not_le.mp c_73⟩⟩).symm)
    refine lv_if_lt (tgt := 47) hx hb dL_lit_30 (by decide) (fun c_30 => ?_) (fun c_30 => ?_)
    · refine lv_iconst (v := 0) hx hb dL_lit_47 (by decide) ?_
      exact J_30 _ _ _ hI ((if_neg (fun z => ((slot_iff ok.inv hd).mp z).1 c_30)).symm)
    · refine lv_iload_n hx hb dL_lit_33 rfl (lv_at hl 1 rfl) ?_
      refine lv_aload_n hx hb dL_lit_34 rfl (lv_at hl 2 rfl) ?_
      refine lv_iload_n hx hb dL_lit_35 rfl (lv_at hl 3 rfl) ?_
      refine lv_iconst (v := 1) hx hb dL_lit_36 (by decide) ?_
      refine lq_call C hI (As := [.int (nI d), .int 1]) (rest := [.int (((aV A).1 0 3) - (pBeg (aV A) d))]) (fun W1 sz hX => cx_digit l D ct sz o ad hX ok.1 ok.2.2 (nI d) 1) (cwV 2 hts gL_lit_X5_digit rfl rfl rfl (by decide +kernel) ⟨Nat.le_of_ble_eq_true rfl, Nat.le_of_ble_eq_true rfl⟩) rfl hl.1 rfl (Nat.le_of_ble_eq_true rfl) dL_lit_37 ⟨Nat.le_of_ble_eq_true rfl, Nat.le_of_ble_eq_true rfl⟩ (r := (aV A).1 (4 + d) 1) (qd_1 ok.inv hd) (A1 := A) (rfl) (fun H locs hI => ?_)
      refine lv_icmp_ge (tgt := 47) hx hb dL_lit_40 (by decide) (fun c_40 => ?_) (fun c_40 => ?_)
      · refine lv_iconst (v := 0) hx hb dL_lit_47 (by decide) ?_
        exact J_30 _ _ _ hI ((if_neg (fun z => ((slot_iff ok.inv hd).mp z).2 c_40)).symm)
      · refine lv_iconst (v := 1) hx hb dL_lit_43 (by decide) ?_
        refine lv_goto (tgt := 48) hx hb dL_lit_44 (by decide) ?_
        exact J_30 _ _ _ hI ((if_pos ((slot_iff ok.inv hd).mpr ⟨c_30, c_40⟩)).symm)
  refine lv_if_le (tgt := 27) hx hb dL_lit_20 (by decide) (fun c_20 => ?_) (fun c_20 => ?_)
  · refine lv_iconst (v := 0) hx hb dL_lit_27 (by decide) ?_
    exact J_20 _ _ _ hI ((if_neg (Int32.not_lt.mpr c_20)).symm)
  · refine lv_iconst (v := 1) hx hb dL_lit_23 (by decide) ?_
    refine lv_goto (tgt := 28) hx hb dL_lit_24 (by decide) ?_
    exact J_20 _ _ _ hI ((if_pos (Int32.not_le.mp c_20)).symm)

set_option maxHeartbeats 4000000 in
set_option maxRecDepth 100000 in
theorem kL_groups (l : Launch) (D : va_G) (ct : Nat → ClassId) (sz : Nat) (o : Nat → Nat) (ad : Nat → Nat → Nat) {A : AS} {W0 : va_W} {b : Nat} (hX0 : CX ct o ad A W0) (ok : LOk b A)  : Met l yL_groups wsL_groups ({ frames := 3, cells := 0, slots := 0, locals := 66 }) (muPS D ct W0 sz [.ref (o 0)]) (mxQ D ct W0 sz ((1, A) : Int32 × AS) (CX ct o ad)) 0 0 (va_A W0 sz) := by
  refine Met.ofW (cc := cL_groups) (maxL := 6) (ret := (some .boolean)) (by decide) rfl ?_
  intro p e s m args below meth c s₁ B hml hv
  obtain ⟨rfl, hZ, hsz, hP, hK, hN, hD0⟩ := hv
  have hx := B.exec
  have hb := B.bytes
  have hr := B.returns
  have hts := atoms_spec (ws := wsL_groups) B.pre
  have hown : s.vm.findClass RL = some m.cls := findClass_of_methodNamed B.named
  have hlocks := B.notSynchronized
  subst hsz
  have hD := hD0.self (sz := s.heap.size)
  obtain ⟨Q, hQ⟩ : ∃ Q : State → Prop, Q = MQ below (mxQ D ct W0 s.heap.size ((1, A) : Int32 × AS) (CX ct o ad)) #[.ref (o 0)] s 0 0 (va_A W0 s.heap.size) := ⟨_, rfl⟩
  show W p l e _ s m #[.ref (o 0)] below meth c s.heap [] 0 0 (MQ below (mxQ D ct W0 s.heap.size ((1, A) : Int32 × AS) (CX ct o ad)) #[.ref (o 0)] s 0 0 (va_A W0 s.heap.size)) _
  rw [← hQ]
  obtain ⟨Z, hZe⟩ : ∃ Z : Nat → Prop, va_A W0 s.heap.size = Z := ⟨_, rfl⟩
  rw [hZe] at hD hZ
  have hA : ∀ q : Nat, s.heap.size ≤ q → Z q := fun q h => by rw [← hZe]; exact Or.inr h
  have C : LF p s m c cL_groups 6 #[.ref (o 0)] wsL_groups D ct Z := ⟨⟨hx, hb, hml, hown, hts⟩, hK, hN, hZ, hA⟩
  have hI := lq_begin hX0 hP hD
  have hl := lv_entry ([.ref (o 0)]) (n := 6) (Nat.le_of_ble_eq_true rfl)
  rw [lg_entry_eq]
  generalize (lg_sl ([.ref (o 0)]) ++ List.replicate (6 - (lg_sl ([.ref (o 0)])).length) Slot.unset).toArray = ls at hl ⊢
  have hl : lv_has ls 6 [(0, .ref (o 0))] := hl
  refine lv_iconst (v := 0) hx hb dL_groups_0 (by decide) ?_
  refine lv_istore_n (lv' := [(1, .int 0), (0, .ref (o 0))]) hx hb dL_groups_1 rfl hl (by decide) rfl (fun ls hl => ?_)
  refine lv_iconst (v := 0) hx hb dL_groups_2 (by decide) ?_
  refine lv_istore_n (lv' := [(2, .int 0), (1, .int 0), (0, .ref (o 0))]) hx hb dL_groups_3 rfl hl (by decide) rfl (fun ls hl => ?_)
  have loop_4 : ∀ (n_4 : Nat) (g : Nat), (5 ≤ g + n_4) → (g ≤ 4) → ∀ (H : Heap) (locs : List Loc), LH s D ct o ad Z [] A H locs → ∀ (ls : Array Slot), lv_has ls 6 [(2, .int (nI g)), (1, .int (pAllG (aV A) g)), (0, .ref (o 0))] → W p l e (headSpec wsL_groups ({ frames := 3, cells := 0, slots := 0, locals := 66 })).room s m #[.ref (o 0)] below meth c H locs 0 0 Q (F0 m 4 ls []) := by
    intro n_4
    induction n_4 with
    | zero =>
      intro g hn hg4
      exact absurd hn (by omega)
    | succ n_4 ih_4 =>
      intro g hn hg4 H locs hI ls hl
      refine lv_iload_n hx hb dL_groups_4 rfl (lv_at hl 0 rfl) ?_
      refine lv_iconst (v := 4) hx hb dL_groups_5 (by decide) ?_
      refine lv_icmp_ge (tgt := 136) hx hb dL_groups_6 (by decide) (fun c_6 => ?_) (fun c_6 => ?_)
      · obtain rfl : g = 4 := Nat.le_antisymm hg4 (nI_le' (b := 4) (by decide) (by omega) c_6)
        refine lv_iload_n hx hb dL_groups_136 rfl (lv_at hl 1 rfl) ?_
        refine lv_aload_n hx hb dL_groups_137 rfl (lv_at hl 2 rfl) ?_
        refine lv_iconst (v := 1) hx hb dL_groups_138 (by decide) ?_
        refine lq_call C hI (As := [.int 1]) (rest := [.int (pAllG (aV A) 4)]) (fun W1 sz hX => cx_count l D ct sz o ad hX ok.1 ok.2.2 1) (cwV 1 hts gL_groups_X5_count rfl rfl rfl (by decide +kernel) ⟨Nat.le_of_ble_eq_true rfl, Nat.le_of_ble_eq_true rfl⟩) rfl hl.1 rfl (Nat.le_of_ble_eq_true rfl) dL_groups_139 ⟨Nat.le_of_ble_eq_true rfl, Nat.le_of_ble_eq_true rfl⟩ (r := nI (nOf (aV A))) (qc_1 ok.inv) (A1 := A) (rfl) (fun H locs hI => ?_)
        refine bicmp_ne_f (tgt := 177) hx hb dL_groups_142 (by decide) (pAllG_4 ok.inv) ?_
        refine lv_aload_n hx hb dL_groups_145 rfl (lv_at hl 2 rfl) ?_
        refine lv_iconst (v := 0) hx hb dL_groups_146 (by decide) ?_
        refine lv_iconst (v := 0) hx hb dL_groups_147 (by decide) ?_
        refine lq_call C hI (As := [.int 0, .int 0]) (rest := []) (fun W1 sz hX => cx_group l D ct sz o ad hX ok.1 ok.2.2 0 0) (cwV 2 hts gL_groups_X5_group rfl rfl rfl (by decide +kernel) ⟨Nat.le_of_ble_eq_true rfl, Nat.le_of_ble_eq_true rfl⟩) rfl hl.1 rfl (Nat.le_of_ble_eq_true rfl) dL_groups_148 ⟨Nat.le_of_ble_eq_true rfl, Nat.le_of_ble_eq_true rfl⟩ (r := (aV A).1 1 0) (qg_0 (A := A) (g := 0) (by decide)) (A1 := A) (rfl) (fun H locs hI => ?_)
        refine bif_ne_f (tgt := 177) hx hb dL_groups_151 (by decide) (ok.inv.2.2.2.1.1) ?_
        refine lv_aload_n hx hb dL_groups_154 rfl (lv_at hl 2 rfl) ?_
        refine lv_iconst (v := 0) hx hb dL_groups_155 (by decide) ?_
        refine lv_iconst (v := 1) hx hb dL_groups_156 (by decide) ?_
        refine lq_call C hI (As := [.int 0, .int 1]) (rest := []) (fun W1 sz hX => cx_group l D ct sz o ad hX ok.1 ok.2.2 0 1) (cwV 2 hts gL_groups_X5_group rfl rfl rfl (by decide +kernel) ⟨Nat.le_of_ble_eq_true rfl, Nat.le_of_ble_eq_true rfl⟩) rfl hl.1 rfl (Nat.le_of_ble_eq_true rfl) dL_groups_157 ⟨Nat.le_of_ble_eq_true rfl, Nat.le_of_ble_eq_true rfl⟩ (r := (aV A).1 2 0) (qg_1 (A := A) (g := 0) (by decide)) (A1 := A) (rfl) (fun H locs hI => ?_)
        refine bif_ne_f (tgt := 177) hx hb dL_groups_160 (by decide) (ok.inv.2.2.2.1.2) ?_
        refine lv_aload_n hx hb dL_groups_163 rfl (lv_at hl 2 rfl) ?_
        refine lv_iconst (v := 4) hx hb dL_groups_164 (by decide) ?_
        refine lv_iconst (v := 0) hx hb dL_groups_165 (by decide) ?_
        refine lq_call C hI (As := [.int 4, .int 0]) (rest := []) (fun W1 sz hX => cx_group l D ct sz o ad hX ok.1 ok.2.2 4 0) (cwV 2 hts gL_groups_X5_group rfl rfl rfl (by decide +kernel) ⟨Nat.le_of_ble_eq_true rfl, Nat.le_of_ble_eq_true rfl⟩) rfl hl.1 rfl (Nat.le_of_ble_eq_true rfl) dL_groups_166 ⟨Nat.le_of_ble_eq_true rfl, Nat.le_of_ble_eq_true rfl⟩ (r := -1) (qg_bad) (A1 := A) (rfl) (fun H locs hI => ?_)
        refine lv_iconst (v := (-1)) hx hb dL_groups_169 (by decide) ?_
        refine bicmp_ne_f (tgt := 177) hx hb dL_groups_170 (by decide) (by decide) ?_
        refine lv_iconst (v := 1) hx hb dL_groups_173 (by decide) ?_
        refine lv_goto (tgt := 178) hx hb dL_groups_174 (by decide) ?_
        have h9 := lq_end (args := #[.ref (o 0)]) (v := 1) (F := ((1, A) : Int32 × AS)) (Xp := CX ct o ad) hI hZe (rfl) (fun W1 h9 => h9)
        subst hQ
        exact W.zret (v := 1) hx hb hr (by decide) h9.1 h9.2 dL_groups_178
      · have hg : g < 4 := nI_nle' (b := 4) (by decide) (by omega) c_6
        refine lv_iconst (v := 0) hx hb dL_groups_9 (by decide) ?_
        refine lv_istore_n (lv' := [(3, .int 0), (2, .int (nI g)), (1, .int (pAllG (aV A) g)), (0, .ref (o 0))]) hx hb dL_groups_10 rfl hl (by decide) rfl (fun ls hl => ?_)
        refine lv_iconst (v := 0) hx hb dL_groups_11 (by decide) ?_
        refine lv_istore (lv' := [(4, .int 0), (3, .int 0), (2, .int (nI g)), (1, .int (pAllG (aV A) g)), (0, .ref (o 0))]) hx hb dL_groups_12 hl (by decide) rfl (fun ls hl => ?_)
        have loop_14 : ∀ (n_14 : Nat) (d : Nat), (9 ≤ d + n_14) → (d ≤ nOf (aV A)) → ∀ (H : Heap) (locs : List Loc), LH s D ct o ad Z [] A H locs → ∀ (ls : Array Slot), lv_has ls 6 [(4, .int (nI d)), (3, .int (pDin (aV A) (nI g) d)), (2, .int (nI g)), (1, .int (pAllG (aV A) g)), (0, .ref (o 0))] → W p l e (headSpec wsL_groups ({ frames := 3, cells := 0, slots := 0, locals := 66 })).room s m #[.ref (o 0)] below meth c H locs 0 0 Q (F0 m 14 ls []) := by
          intro n_14
          induction n_14 with
          | zero =>
            intro d hn hd8
            exact absurd hn (by have := ok.inv.n8; omega)
          | succ n_14 ih_14 =>
            intro d hn hd8 H locs hI ls hl
            refine lv_iload hx hb dL_groups_14 (lv_at hl 0 rfl) ?_
            refine lv_aload_n hx hb dL_groups_16 rfl (lv_at hl 4 rfl) ?_
            refine lv_iconst (v := 1) hx hb dL_groups_17 (by decide) ?_
            refine lq_call C hI (As := [.int 1]) (rest := [.int (nI d)]) (fun W1 sz hX => cx_count l D ct sz o ad hX ok.1 ok.2.2 1) (cwV 1 hts gL_groups_X5_count rfl rfl rfl (by decide +kernel) ⟨Nat.le_of_ble_eq_true rfl, Nat.le_of_ble_eq_true rfl⟩) rfl hl.1 rfl (Nat.le_of_ble_eq_true rfl) dL_groups_18 ⟨Nat.le_of_ble_eq_true rfl, Nat.le_of_ble_eq_true rfl⟩ (r := nI (nOf (aV A))) (qc_1 ok.inv) (A1 := A) (rfl) (fun H locs hI => ?_)
            refine lv_icmp_ge (tgt := 49) hx hb dL_groups_21 (by decide) (fun c_21 => ?_) (fun c_21 => ?_)
            · obtain rfl : d = nOf (aV A) := Nat.le_antisymm hd8 (nI_le' (by have := ok.inv.n8; omega) (by have := ok.inv.n8; omega) c_21)
              refine lv_aload_n hx hb dL_groups_49 rfl (lv_at hl 4 rfl) ?_
              refine lv_iload_n hx hb dL_groups_50 rfl (lv_at hl 2 rfl) ?_
              refine lv_iconst (v := 0) hx hb dL_groups_51 (by decide) ?_
              refine lq_call C hI (As := [.int (nI g), .int 0]) (rest := []) (fun W1 sz hX => cx_group l D ct sz o ad hX ok.1 ok.2.2 (nI g) 0) (cwV 2 hts gL_groups_X5_group rfl rfl rfl (by decide +kernel) ⟨Nat.le_of_ble_eq_true rfl, Nat.le_of_ble_eq_true rfl⟩) rfl hl.1 rfl (Nat.le_of_ble_eq_true rfl) dL_groups_52 ⟨Nat.le_of_ble_eq_true rfl, Nat.le_of_ble_eq_true rfl⟩ (r := (aV A).1 1 g) (qg_0 (A := A) hg) (A1 := A) (rfl) (fun H locs hI => ?_)
              refine lv_aload_n hx hb dL_groups_55 rfl (lv_at hl 4 rfl) ?_
              refine lv_iload_n hx hb dL_groups_56 rfl (lv_at hl 2 rfl) ?_
              refine lv_iconst (v := 1) hx hb dL_groups_57 (by decide) ?_
              refine lq_call C hI (As := [.int (nI g), .int 1]) (rest := [.int ((aV A).1 1 g)]) (fun W1 sz hX => cx_group l D ct sz o ad hX ok.1 ok.2.2 (nI g) 1) (cwV 2 hts gL_groups_X5_group rfl rfl rfl (by decide +kernel) ⟨Nat.le_of_ble_eq_true rfl, Nat.le_of_ble_eq_true rfl⟩) rfl hl.1 rfl (Nat.le_of_ble_eq_true rfl) dL_groups_58 ⟨Nat.le_of_ble_eq_true rfl, Nat.le_of_ble_eq_true rfl⟩ (r := (aV A).1 2 g) (qg_1 (A := A) hg) (A1 := A) (rfl) (fun H locs hI => ?_)
              refine lv_iadd hx hb dL_groups_61 ?_
              refine lv_istore (lv' := [(4, .int (((aV A).1 1 g) + ((aV A).1 2 g))), (3, .int (pDin (aV A) (nI g) (nOf (aV A)))), (2, .int (nI g)), (1, .int (pAllG (aV A) g)), (0, .ref (o 0))]) hx hb dL_groups_62 hl (by decide) rfl (fun ls hl => ?_)
              refine lv_iload_n hx hb dL_groups_64 rfl (lv_at hl 2 rfl) ?_
              have J_65 : ∀ (x9 : Int32) (H : Heap) (locs : List Loc), LH s D ct o ad Z [] A H locs → x9 = (if pOn (aV A) g then 1 else 0) → W p l e (headSpec wsL_groups ({ frames := 3, cells := 0, slots := 0, locals := 66 })).room s m #[.ref (o 0)] below meth c H locs 0 0 Q (F0 m 90 ls [.int x9]) := by
                intro x9 H locs hI e9
                subst e9
                refine lv_istore (lv' := [(5, .int (if pOn (aV A) g then 1 else 0)), (4, .int (((aV A).1 1 g) + ((aV A).1 2 g))), (3, .int (pDin (aV A) (nI g) (nOf (aV A)))), (2, .int (nI g)), (1, .int (pAllG (aV A) g)), (0, .ref (o 0))]) hx hb dL_groups_90 hl (by decide) rfl (fun ls hl => ?_)
                refine lv_iload_n hx hb dL_groups_92 rfl (lv_at hl 4 rfl) ?_
                refine lv_iload_n hx hb dL_groups_93 rfl (lv_at hl 2 rfl) ?_
                refine lv_iadd hx hb dL_groups_94 ?_
                refine lv_as (y := pAllG (aV A) (g + 1)) (rfl) ?_
                refine lv_istore_n (lv' := [(1, .int (pAllG (aV A) (g + 1))), (5, .int (if pOn (aV A) g then 1 else 0)), (4, .int (((aV A).1 1 g) + ((aV A).1 2 g))), (3, .int (pDin (aV A) (nI g) (nOf (aV A)))), (2, .int (nI g)), (0, .ref (o 0))]) hx hb dL_groups_95 rfl hl (by decide) rfl (fun ls hl => ?_)
                refine lv_aload_n hx hb dL_groups_96 rfl (lv_at hl 5 rfl) ?_
                refine lv_iload_n hx hb dL_groups_97 rfl (lv_at hl 4 rfl) ?_
                refine lv_iconst (v := 2) hx hb dL_groups_98 (by decide) ?_
                refine lq_call C hI (As := [.int (nI g), .int 2]) (rest := []) (fun W1 sz hX => cx_group l D ct sz o ad hX ok.1 ok.2.2 (nI g) 2) (cwV 2 hts gL_groups_X5_group rfl rfl rfl (by decide +kernel) ⟨Nat.le_of_ble_eq_true rfl, Nat.le_of_ble_eq_true rfl⟩) rfl hl.1 rfl (Nat.le_of_ble_eq_true rfl) dL_groups_99 ⟨Nat.le_of_ble_eq_true rfl, Nat.le_of_ble_eq_true rfl⟩ (r := (if pOn (aV A) g then 1 else 0)) (qg_2 (A := A) hg) (A1 := A) (rfl) (fun H locs hI => ?_)
                refine lv_iload hx hb dL_groups_102 (lv_at hl 1 rfl) ?_
                refine bicmp_ne_f (tgt := 128) hx hb dL_groups_104 (by decide) (rfl) ?_
                refine lv_aload_n hx hb dL_groups_107 rfl (lv_at hl 5 rfl) ?_
                refine lv_iload_n hx hb dL_groups_108 rfl (lv_at hl 4 rfl) ?_
                refine lv_iconst (v := 3) hx hb dL_groups_109 (by decide) ?_
                refine lq_call C hI (As := [.int (nI g), .int 3]) (rest := []) (fun W1 sz hX => cx_group l D ct sz o ad hX ok.1 ok.2.2 (nI g) 3) (cwV 2 hts gL_groups_X5_group rfl rfl rfl (by decide +kernel) ⟨Nat.le_of_ble_eq_true rfl, Nat.le_of_ble_eq_true rfl⟩) rfl hl.1 rfl (Nat.le_of_ble_eq_true rfl) dL_groups_110 ⟨Nat.le_of_ble_eq_true rfl, Nat.le_of_ble_eq_true rfl⟩ (r := pDin (aV A) (nI g) (nOf (aV A))) (qg_3 (A := A) hg) (A1 := A) (rfl) (fun H locs hI => ?_)
                refine lv_iload_n hx hb dL_groups_113 rfl (lv_at hl 3 rfl) ?_
                refine bicmp_ne_f (tgt := 128) hx hb dL_groups_114 (by decide) (rfl) ?_
                refine lv_aload_n hx hb dL_groups_117 rfl (lv_at hl 5 rfl) ?_
                refine lv_iload_n hx hb dL_groups_118 rfl (lv_at hl 4 rfl) ?_
                refine lv_iconst (v := 4) hx hb dL_groups_119 (by decide) ?_
                refine lq_call C hI (As := [.int (nI g), .int 4]) (rest := []) (fun W1 sz hX => cx_group l D ct sz o ad hX ok.1 ok.2.2 (nI g) 4) (cwV 2 hts gL_groups_X5_group rfl rfl rfl (by decide +kernel) ⟨Nat.le_of_ble_eq_true rfl, Nat.le_of_ble_eq_true rfl⟩) rfl hl.1 rfl (Nat.le_of_ble_eq_true rfl) dL_groups_120 ⟨Nat.le_of_ble_eq_true rfl, Nat.le_of_ble_eq_true rfl⟩ (r := -2) (qg_4 (A := A) hg) (A1 := A) (rfl) (fun H locs hI => ?_)
                refine lv_bipush (v := (-2)) hx hb dL_groups_123 (by decide) ?_
                refine bicmp_eq_t (tgt := 130) hx hb dL_groups_125 (by decide) (by decide) ?_
                refine lv_iinc (v := nI (g + 1)) (lv' := [(2, .int (nI (g + 1))), (1, .int (pAllG (aV A) (g + 1))), (5, .int (if pOn (aV A) g then 1 else 0)), (4, .int (((aV A).1 1 g) + ((aV A).1 2 g))), (3, .int (pDin (aV A) (nI g) (nOf (aV A)))), (0, .ref (o 0))]) hx hb dL_groups_130 hl (k := 4) rfl ((nI_succ g).symm) (by decide) rfl (fun ls hl => ?_)
                refine lv_goto (tgt := 4) hx hb dL_groups_133 (by decide) ?_
                exact ih_4 (g + 1) (by omega) (by omega) _ _ hI ls (lv_sub hl [0, 1, 5] rfl)
              refine lv_if_eq (tgt := 85) hx hb dL_groups_65 (by decide) (fun c_65 => ?_) (fun c_65 => ?_)
              · refine lv_iconst (v := 1) hx hb dL_groups_85 (by decide) ?_
                refine lv_goto (tgt := 90) hx hb dL_groups_86 (by decide) ?_
                exact J_65 _ _ _ hI ((if_pos (Or.inl (nI_z (by omega) c_65))).symm)
              · have hg0 : 0 < g := Nat.pos_of_ne_zero (fun z => c_65 (by rw [z]; rfl))
                refine lv_aload_n hx hb dL_groups_68 rfl (lv_at hl 4 rfl) ?_
                refine lv_iconst (v := 3) hx hb dL_groups_69 (by decide) ?_
                refine lq_call C hI (As := [.int 3]) (rest := []) (fun W1 sz hX => cx_count l D ct sz o ad hX ok.1 ok.2.2 3) (cwV 1 hts gL_groups_X5_count rfl rfl rfl (by decide +kernel) ⟨Nat.le_of_ble_eq_true rfl, Nat.le_of_ble_eq_true rfl⟩) rfl hl.1 rfl (Nat.le_of_ble_eq_true rfl) dL_groups_70 ⟨Nat.le_of_ble_eq_true rfl, Nat.le_of_ble_eq_true rfl⟩ (r := (aV A).1 0 2) (qc_3) (A1 := A) (rfl) (fun H locs hI => ?_)
                refine lv_iload hx hb dL_groups_73 (lv_at hl 0 rfl) ?_
                refine lv_irem hx hb dL_groups_75 (ok.inv.per hg0 hg) ?_
                refine lv_aload_n hx hb dL_groups_76 rfl (lv_at hl 4 rfl) ?_
                refine lv_iload_n hx hb dL_groups_77 rfl (lv_at hl 2 rfl) ?_
                refine lv_iconst (v := 0) hx hb dL_groups_78 (by decide) ?_
                refine lq_call C hI (As := [.int (nI g), .int 0]) (rest := [.int (((aV A).1 0 2) - ((aV A).1 0 2) / (((aV A).1 1 g) + ((aV A).1 2 g)) * (((aV A).1 1 g) + ((aV A).1 2 g)))]) (fun W1 sz hX => cx_group l D ct sz o ad hX ok.1 ok.2.2 (nI g) 0) (cwV 2 hts gL_groups_X5_group rfl rfl rfl (by decide +kernel) ⟨Nat.le_of_ble_eq_true rfl, Nat.le_of_ble_eq_true rfl⟩) rfl hl.1 rfl (Nat.le_of_ble_eq_true rfl) dL_groups_79 ⟨Nat.le_of_ble_eq_true rfl, Nat.le_of_ble_eq_true rfl⟩ (r := (aV A).1 1 g) (qg_0 (A := A) hg) (A1 := A) (rfl) (fun H locs hI => ?_)
                refine lv_icmp_ge (tgt := 89) hx hb dL_groups_82 (by decide) (fun c_82 => ?_) (fun c_82 => ?_)
                · refine lv_iconst (v := 0) hx hb dL_groups_89 (by decide) ?_
                  exact J_65 _ _ _ hI ((if_neg (fun z => z.elim (fun z => c_65 (by rw [z]; rfl)) (fun z => absurd z (Int32.not_lt.mpr c_82)))).symm)
                · refine lv_iconst (v := 1) hx hb dL_groups_85 (by decide) ?_
                  refine lv_goto (tgt := 90) hx hb dL_groups_86 (by decide) ?_
                  exact J_65 _ _ _ hI ((if_pos (Or.inr (Int32.not_le.mp c_82))).symm)
            · have hd : d < nOf (aV A) := nI_nle' (by have := ok.inv.n8; omega) (by have := ok.inv.n8; omega) c_21
              refine lv_iload_n hx hb dL_groups_24 rfl (lv_at hl 1 rfl) ?_
              refine lv_aload_n hx hb dL_groups_25 rfl (lv_at hl 4 rfl) ?_
              refine lv_iload hx hb dL_groups_26 (lv_at hl 0 rfl) ?_
              refine lv_iconst (v := 4) hx hb dL_groups_28 (by decide) ?_
              refine lq_call C hI (As := [.int (nI d), .int 4]) (rest := [.int (pDin (aV A) (nI g) d)]) (fun W1 sz hX => cx_digit l D ct sz o ad hX ok.1 ok.2.2 (nI d) 4) (cwV 2 hts gL_groups_X5_digit rfl rfl rfl (by decide +kernel) ⟨Nat.le_of_ble_eq_true rfl, Nat.le_of_ble_eq_true rfl⟩) rfl hl.1 rfl (Nat.le_of_ble_eq_true rfl) dL_groups_29 ⟨Nat.le_of_ble_eq_true rfl, Nat.le_of_ble_eq_true rfl⟩ (r := (aV A).1 (4 + d) 4) (qd_4 ok.inv hd) (A1 := A) (rfl) (fun H locs hI => ?_)
              refine lv_iload_n hx hb dL_groups_32 rfl (lv_at hl 2 rfl) ?_
              have J_33 : ∀ (x9 : Int32) (H : Heap) (locs : List Loc), LH s D ct o ad Z [] A H locs → x9 = (if (aV A).1 (4 + d) 4 = nI g then 1 else 0) → W p l e (headSpec wsL_groups ({ frames := 3, cells := 0, slots := 0, locals := 66 })).room s m #[.ref (o 0)] below meth c H locs 0 0 Q (F0 m 41 ls [.int x9, .int (pDin (aV A) (nI g) d)]) := by
                intro x9 H locs hI e9
                subst e9
                refine lv_iadd hx hb dL_groups_41 ?_
                refine lv_as (y := pDin (aV A) (nI g) (d + 1)) (rfl) ?_
                refine lv_istore_n (lv' := [(3, .int (pDin (aV A) (nI g) (d + 1))), (4, .int (nI d)), (2, .int (nI g)), (1, .int (pAllG (aV A) g)), (0, .ref (o 0))]) hx hb dL_groups_42 rfl hl (by decide) rfl (fun ls hl => ?_)
                refine lv_iinc (v := nI (d + 1)) (lv' := [(4, .int (nI (d + 1))), (3, .int (pDin (aV A) (nI g) (d + 1))), (2, .int (nI g)), (1, .int (pAllG (aV A) g)), (0, .ref (o 0))]) hx hb dL_groups_43 hl (k := 1) rfl ((nI_succ d).symm) (by decide) rfl (fun ls hl => ?_)
                refine lv_goto (tgt := 14) hx hb dL_groups_46 (by decide) ?_
                exact ih_14 (d + 1) (by omega) (by omega) _ _ hI ls (lv_sub hl [0, 1, 2, 3, 4] rfl)
              refine lv_icmp_ne (tgt := 40) hx hb dL_groups_33 (by decide) (fun c_33 => ?_) (fun c_33 => ?_)
              · refine lv_iconst (v := 0) hx hb dL_groups_40 (by decide) ?_
                exact J_33 _ _ _ hI ((if_neg c_33).symm)
              · refine lv_iconst (v := 1) hx hb dL_groups_36 (by decide) ?_
                refine lv_goto (tgt := 41) hx hb dL_groups_37 (by decide) ?_
                exact J_33 _ _ _ hI ((if_pos c_33).symm)
        exact loop_14 (9) 0 (by omega) (Nat.zero_le _) _ _ hI ls (lv_sub hl [0, 1, 2, 3, 4] rfl)
  exact loop_4 (5) 0 (by omega) (by omega) _ _ hI ls (lv_sub hl [0, 1, 2] rfl)


