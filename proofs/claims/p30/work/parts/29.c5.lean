set_option maxHeartbeats 4000000 in
set_option maxRecDepth 100000 in
theorem k_X5_patternOf (l : Launch) (D : va_G) (ct : Nat → ClassId) (x : Int32) : Met l yX5_patternOf wsX5_patternOf ({ frames := 0, cells := 0, slots := 0, locals := 0 }) (roPS D ct ([]) [.int x]) (vp_Si (fun r => r = pPat x)) 0 0 noA := by
  refine Met.ofW (cc := cX5_patternOf) (maxL := 2) (ret := (some .int)) (by decide) rfl ?_
  intro p e s m args below meth c s₁ B hml hv
  obtain ⟨rfl, hZ, hP, hK, hN⟩ := hv
  have hx := B.exec
  have hb := B.bytes
  have hr := B.returns
  have hts := atoms_spec (ws := wsX5_patternOf) B.pre
  have hown : s.vm.findClass RX5 = some m.cls := findClass_of_methodNamed B.named
  have hlocks := B.notSynchronized
  have hS : va_S noA s.heap s.heap [] := va_S.rf
  obtain ⟨tch, zch, Tch⟩ := hZ.ch
  obtain ⟨tpt, zpt, Tpt⟩ := hZ.pt
  obtain ⟨tle, zle, Tle⟩ := hZ.le
  obtain ⟨tmo, zmo, Tmo⟩ := hZ.mo
  have w_1 := hts (.fieldLink RX5 230 "ScannedDigits" "CHARACTERS" "[C") (List.mem_of_getElem? (i := 1) rfl)
  have w_2 := hts (.fieldLink RX5 227 "ScannedDigits" "PATTERNS" "[I") (List.mem_of_getElem? (i := 2) rfl)
  have hl := lv_entry ([.int x]) (n := 2) (Nat.le_of_ble_eq_true rfl)
  rw [lg_entry_eq]
  generalize (lg_sl ([.int x]) ++ List.replicate (2 - (lg_sl ([.int x])).length) Slot.unset).toArray = ls at hl ⊢
  have hl : lv_has ls 2 [(0, .int x)] := hl
  refine lv_iconst (v := 0) hx hb dX5_patternOf_0 (by decide) ?_
  refine lv_istore_n (lv' := [(1, .int 0), (0, .int x)]) hx hb dX5_patternOf_1 rfl hl (by decide) rfl (fun ls hl => ?_)
  have loop_2 : ∀ (n_2 : Nat) (i : Nat), (i ≤ 15) → (16 ≤ i + n_2) → (∀ j, j < i → chF j ≠ x) → ∀ (ls : Array Slot), lv_has ls 2 [(0, .int x), (1, .int (nI i))] → W p l e (headSpec wsX5_patternOf ({ frames := 0, cells := 0, slots := 0, locals := 0 })).room s m #[.int x] below meth c s.heap [] 0 0 (MQ below (vp_Si (fun r => r = pPat x)) #[.int x] s 0 0 (noA)) (F0 m 2 ls []) := by
    intro n_2
    induction n_2 with
    | zero =>
      intro i hi hn hno
      exact absurd hn (by omega)
    | succ n_2 ih_2 =>
      intro i hi hn hno ls hl
      refine lv_iload_n hx hb dX5_patternOf_2 rfl (lv_at hl 1 rfl) ?_
      refine va_gets hx hb zch hS hown w_1 (fun _ h9 => h9) dX5_patternOf_3 ?_
      refine va_tlen hx hb Tch hS (v := 15) rfl dX5_patternOf_6 ?_
      refine lv_icmp_ge (tgt := 39) hx hb dX5_patternOf_7 (by decide) (fun c_7 => ?_) (fun c_7 => ?_)
      · have hge : 15 ≤ i := nI_le' (by decide) (by omega) c_7
        refine lv_bipush (v := (-4)) hx hb dX5_patternOf_39 (by decide) ?_
        exact W.iret (v := (-4)) hx hb hr (fun tt ht hW => ⟨(-4), rfl, (pPat_no (fun j hj => hno j (by omega))).symm, ht⟩) (fun q hq => absurd hq List.not_mem_nil) dX5_patternOf_41
      · have hlt : i < 15 := nI_nle' (by decide) (by omega) c_7
        refine lv_iload_n hx hb dX5_patternOf_10 rfl (lv_at hl 1 rfl) ?_
        refine va_gets hx hb zpt hS hown w_2 (fun _ h9 => h9) dX5_patternOf_11 ?_
        refine va_tlen hx hb Tpt hS (v := 15) rfl dX5_patternOf_14 ?_
        refine lv_icmp_ge (tgt := 39) hx hb dX5_patternOf_15 (by decide) (fun c_15 => ?_) (fun c_15 => ?_)
        · exact absurd (nI_le' (b := 15) (a := i) (by decide) (by omega) c_15) (by omega)
        · refine va_gets hx hb zch hS hown w_1 (fun _ h9 => h9) dX5_patternOf_18 ?_
          refine lv_iload_n hx hb dX5_patternOf_21 rfl (lv_at hl 1 rfl) ?_
          refine rt_c hx hb Tch hS (k := i) (rfl) (by omega) (by decide) dX5_patternOf_22 ?_
          refine lv_iload_n hx hb dX5_patternOf_23 rfl (lv_at hl 0 rfl) ?_
          refine lv_icmp_ne (tgt := 33) hx hb dX5_patternOf_24 (by decide) (fun c_24 => ?_) (fun c_24 => ?_)
          · refine lv_iinc (v := nI (i + 1)) (lv' := [(1, .int (nI (i + 1))), (0, .int x)]) hx hb dX5_patternOf_33 hl (k := 1) rfl ((nI_succ i).symm) (by decide) rfl (fun ls hl => ?_)
            refine lv_goto (tgt := 2) hx hb dX5_patternOf_36 (by decide) ?_
            exact ih_2 (i + 1) (by omega) (by omega) (fun j hj => by rcases Nat.lt_succ_iff_lt_or_eq.mp hj with h | rfl; exact hno j h; exact c_24) ls (lv_sub hl [1, 0] rfl)
          · refine va_gets hx hb zpt hS hown w_2 (fun _ h9 => h9) dX5_patternOf_27 ?_
            refine lv_iload_n hx hb dX5_patternOf_30 rfl (lv_at hl 1 rfl) ?_
            refine rt_i hx hb Tpt hS (k := i) (rfl) (by omega) (by decide) dX5_patternOf_31 ?_
            exact W.iret (v := (ptF i)) hx hb hr (fun tt ht hW => ⟨(ptF i), rfl, by rw [← c_24]; exact (pPat_ch i hlt).symm, ht⟩) (fun q hq => absurd hq List.not_mem_nil) dX5_patternOf_32
  exact loop_2 (16) 0 (by omega) (by omega) (fun j hj => absurd hj (Nat.not_lt_zero j)) ls (lv_sub hl [1, 0] rfl)
set_option maxHeartbeats 4000000 in
set_option maxRecDepth 100000 in
theorem k_X5_characterOf (l : Launch) (D : va_G) (ct : Nat → ClassId) (q : Int32) (h4 : q ≠ -4) : Met l yX5_characterOf wsX5_characterOf ({ frames := 0, cells := 0, slots := 0, locals := 0 }) (roPS D ct ([]) [.int q]) (vp_Si (fun r => r = pChr q)) 0 0 noA := by
  refine Met.ofW (cc := cX5_characterOf) (maxL := 2) (ret := (some .int)) (by decide) rfl ?_
  intro p e s m args below meth c s₁ B hml hv
  obtain ⟨rfl, hZ, hP, hK, hN⟩ := hv
  have hx := B.exec
  have hb := B.bytes
  have hr := B.returns
  have hts := atoms_spec (ws := wsX5_characterOf) B.pre
  have hown : s.vm.findClass RX5 = some m.cls := findClass_of_methodNamed B.named
  have hlocks := B.notSynchronized
  have hS : va_S noA s.heap s.heap [] := va_S.rf
  obtain ⟨tch, zch, Tch⟩ := hZ.ch
  obtain ⟨tpt, zpt, Tpt⟩ := hZ.pt
  obtain ⟨tle, zle, Tle⟩ := hZ.le
  obtain ⟨tmo, zmo, Tmo⟩ := hZ.mo
  have w_1 := hts (.fieldLink RX5 227 "ScannedDigits" "PATTERNS" "[I") (List.mem_of_getElem? (i := 1) rfl)
  have w_2 := hts (.fieldLink RX5 230 "ScannedDigits" "CHARACTERS" "[C") (List.mem_of_getElem? (i := 2) rfl)
  have hl := lv_entry ([.int q]) (n := 2) (Nat.le_of_ble_eq_true rfl)
  rw [lg_entry_eq]
  generalize (lg_sl ([.int q]) ++ List.replicate (2 - (lg_sl ([.int q])).length) Slot.unset).toArray = ls at hl ⊢
  have hl : lv_has ls 2 [(0, .int q)] := hl
  refine lv_iconst (v := 0) hx hb dX5_characterOf_0 (by decide) ?_
  refine lv_istore_n (lv' := [(1, .int 0), (0, .int q)]) hx hb dX5_characterOf_1 rfl hl (by decide) rfl (fun ls hl => ?_)
  have loop_2 : ∀ (n_2 : Nat) (i : Nat), (i ≤ 15) → (16 ≤ i + n_2) → (∀ j, j < i → ptF j ≠ q) → ∀ (ls : Array Slot), lv_has ls 2 [(0, .int q), (1, .int (nI i))] → W p l e (headSpec wsX5_characterOf ({ frames := 0, cells := 0, slots := 0, locals := 0 })).room s m #[.int q] below meth c s.heap [] 0 0 (MQ below (vp_Si (fun r => r = pChr q)) #[.int q] s 0 0 (noA)) (F0 m 2 ls []) := by
    intro n_2
    induction n_2 with
    | zero =>
      intro i hi hn hno
      exact absurd hn (by omega)
    | succ n_2 ih_2 =>
      intro i hi hn hno ls hl
      refine lv_iload_n hx hb dX5_characterOf_2 rfl (lv_at hl 1 rfl) ?_
      refine va_gets hx hb zpt hS hown w_1 (fun _ h9 => h9) dX5_characterOf_3 ?_
      refine va_tlen hx hb Tpt hS (v := 15) rfl dX5_characterOf_6 ?_
      refine lv_icmp_ge (tgt := 39) hx hb dX5_characterOf_7 (by decide) (fun c_7 => ?_) (fun c_7 => ?_)
      · have hge : 15 ≤ i := nI_le' (by decide) (by omega) c_7
        refine lv_bipush (v := (-4)) hx hb dX5_characterOf_39 (by decide) ?_
        exact W.iret (v := (-4)) hx hb hr (fun tt ht hW => ⟨(-4), rfl, (pChr_no h4 (fun j hj => hno j (by omega))).symm, ht⟩) (fun q hq => absurd hq List.not_mem_nil) dX5_characterOf_41
      · have hlt : i < 15 := nI_nle' (by decide) (by omega) c_7
        refine lv_iload_n hx hb dX5_characterOf_10 rfl (lv_at hl 1 rfl) ?_
        refine va_gets hx hb zch hS hown w_2 (fun _ h9 => h9) dX5_characterOf_11 ?_
        refine va_tlen hx hb Tch hS (v := 15) rfl dX5_characterOf_14 ?_
        refine lv_icmp_ge (tgt := 39) hx hb dX5_characterOf_15 (by decide) (fun c_15 => ?_) (fun c_15 => ?_)
        · exact absurd (nI_le' (b := 15) (a := i) (by decide) (by omega) c_15) (by omega)
        · refine va_gets hx hb zpt hS hown w_1 (fun _ h9 => h9) dX5_characterOf_18 ?_
          refine lv_iload_n hx hb dX5_characterOf_21 rfl (lv_at hl 1 rfl) ?_
          refine rt_i hx hb Tpt hS (k := i) (rfl) (by omega) (by decide) dX5_characterOf_22 ?_
          refine lv_iload_n hx hb dX5_characterOf_23 rfl (lv_at hl 0 rfl) ?_
          refine lv_icmp_ne (tgt := 33) hx hb dX5_characterOf_24 (by decide) (fun c_24 => ?_) (fun c_24 => ?_)
          · refine lv_iinc (v := nI (i + 1)) (lv' := [(1, .int (nI (i + 1))), (0, .int q)]) hx hb dX5_characterOf_33 hl (k := 1) rfl ((nI_succ i).symm) (by decide) rfl (fun ls hl => ?_)
            refine lv_goto (tgt := 2) hx hb dX5_characterOf_36 (by decide) ?_
            exact ih_2 (i + 1) (by omega) (by omega) (fun j hj => by rcases Nat.lt_succ_iff_lt_or_eq.mp hj with h | rfl; exact hno j h; exact c_24) ls (lv_sub hl [1, 0] rfl)
          · refine va_gets hx hb zch hS hown w_2 (fun _ h9 => h9) dX5_characterOf_27 ?_
            refine lv_iload_n hx hb dX5_characterOf_30 rfl (lv_at hl 1 rfl) ?_
            refine rt_c hx hb Tch hS (k := i) (rfl) (by omega) (by decide) dX5_characterOf_31 ?_
            exact W.iret (v := (chF i)) hx hb hr (fun tt ht hW => ⟨(chF i), rfl, by rw [← c_24]; exact (pChr_pt i hlt).symm, ht⟩) (fun q hq => absurd hq List.not_mem_nil) dX5_characterOf_32
  exact loop_2 (16) 0 (by omega) (by omega) (fun j hj => absurd hj (Nat.not_lt_zero j)) ls (lv_sub hl [1, 0] rfl)
set_option maxHeartbeats 4000000 in
set_option maxRecDepth 100000 in
theorem k_X4_isFull (l : Launch) (D : va_G) (ct : Nat → ClassId) (x tc tp : Nat) (k : Nat) (nd : Int32) (f g : Nat → Int32) (hk : k ≤ 30) : Met l yX4_isFull wsX4_isFull ({ frames := 0, cells := 0, slots := 0, locals := 0 }) (roP D ct ([(x, .inr (4, [.ref tc, .int (nI k), .ref tp, .int (nd)])), (tc, .inl (ct 2, 30, .inl (f))), (tp, .inl (ct 0, 8, .inl (g)))]) [.ref x]) (vp_Si (fun r => r = if 30 ≤ k then 1 else 0)) 0 0 noA := by
  refine Met.ofW (cc := cX4_isFull) (maxL := 1) (ret := (some .boolean)) (by decide) rfl ?_
  intro p e s m args below meth c s₁ B hml hv
  obtain ⟨rfl, hP, hK, hN⟩ := hv
  have hx := B.exec
  have hb := B.bytes
  have hr := B.returns
  have hts := atoms_spec (ws := wsX4_isFull) B.pre
  have hown : s.vm.findClass RX4 = some m.cls := findClass_of_methodNamed B.named
  have hlocks := B.notSynchronized
  have w_1 := hts (.fieldLink RX4 19 "ScannedDigits$Text" "length" "I") (List.mem_of_getElem? (i := 1) rfl)
  have hiX4 : ∀ w ∈ wsX40, w ∈ wsX4_isFull := fun w h => (goodIn_r wsX40 [2, 3, 4, 5] (by decide +kernel) (by decide +kernel) w h).1
  have hl := lv_entry ([.ref x]) (n := 1) (Nat.le_of_ble_eq_true rfl)
  rw [lg_entry_eq]
  generalize (lg_sl ([.ref x]) ++ List.replicate (1 - (lg_sl ([.ref x])).length) Slot.unset).toArray = ls at hl ⊢
  have hl : lv_has ls 1 [(0, .ref x)] := hl
  refine lv_aload_n hx hb dX4_isFull_0 rfl (lv_at hl 0 rfl) ?_
  refine va_get (D := D) (ci := 4) (v := .int (nI k)) (C := RX4) (T := TX4) (N := 4) hx hb hts hiX4 hown hK hP 0 rfl rfl 1 (by decide) w_1 (fun _ h9 => h9) rfl dX4_isFull_1 ?_
  refine lv_bipush (v := 30) hx hb dX4_isFull_4 (by decide) ?_
  refine lv_icmp_lt (tgt := 13) hx hb dX4_isFull_6 (by decide) (fun c_6 => ?_) (fun c_6 => ?_)
  · have hlt : k < 30 := nI_lt' (by omega) (by decide) c_6
    refine lv_iconst (v := 0) hx hb dX4_isFull_13 (by decide) ?_
    exact W.zret (v := 0) hx hb hr (by decide) (fun tt ht hW => ⟨0, rfl, (if_neg (by omega)).symm, ht⟩) (fun q hq => absurd hq List.not_mem_nil) dX4_isFull_14
  · have hge : 30 ≤ k := nI_nlt' (by omega) (by decide) c_6
    refine lv_iconst (v := 1) hx hb dX4_isFull_9 (by decide) ?_
    refine lv_goto (tgt := 14) hx hb dX4_isFull_10 (by decide) ?_
    exact W.zret (v := 1) hx hb hr (by decide) (fun tt ht hW => ⟨1, rfl, (if_pos (by omega)).symm, ht⟩) (fun q hq => absurd hq List.not_mem_nil) dX4_isFull_14
set_option maxHeartbeats 4000000 in
set_option maxRecDepth 100000 in
theorem k_X4_append (l : Launch) (D : va_G) (ct : Nat → ClassId) (sz : Nat) (x tc tp : Nat) (k : Nat) (nd : Int32) (f g : Nat → Int32) (hk : k < 30) (z : Int32) (hz : vp_nar .char z = z) : Met l yX4_append wsX4_append ({ frames := 0, cells := 0, slots := 0, locals := 0 }) (muP D ct ([(x, .inr (4, [.ref tc, .int (nI k), .ref tp, .int (nd)])), (tc, .inl (ct 2, 30, .inl (f))), (tp, .inl (ct 0, 8, .inl (g)))]) sz [.ref x, .int z]) (muV D ct ([(x, .inr (4, [.ref tc, .int (nI k), .ref tp, .int (nd)])), (tc, .inl (ct 2, 30, .inl (f))), (tp, .inl (ct 0, 8, .inl (g)))]) ([(x, .inr (4, [.ref tc, .int (nI (k + 1)), .ref tp, .int (nd)])), (tc, .inl (ct 2, 30, .inl (upd f k z))), (tp, .inl (ct 0, 8, .inl (g)))]) sz) 0 0 (va_A ([(x, .inr (4, [.ref tc, .int (nI k), .ref tp, .int (nd)])), (tc, .inl (ct 2, 30, .inl (f))), (tp, .inl (ct 0, 8, .inl (g)))]) sz) := by
  refine Met.ofW (cc := cX4_append) (maxL := 2) (ret := none) (by decide) rfl ?_
  intro p e s m args below meth c s₁ B hml hv
  obtain ⟨rfl, hsz, hP, hK, hN, hD0⟩ := hv
  have hx := B.exec
  have hb := B.bytes
  have hr := B.returns
  have hts := atoms_spec (ws := wsX4_append) B.pre
  have hown : s.vm.findClass RX4 = some m.cls := findClass_of_methodNamed B.named
  have hlocks := B.notSynchronized
  subst hsz
  have hD := hD0.self (sz := s.heap.size)
  generalize hAe : va_A ([(x, .inr (4, [.ref tc, .int (nI k), .ref tp, .int (nd)])), (tc, .inl (ct 2, 30, .inl (f))), (tp, .inl (ct 0, 8, .inl (g)))]) s.heap.size = A at hD
  have hA : ∀ q : Nat, s.heap.size ≤ q → A q := fun q h => by rw [← hAe]; exact Or.inr h
  have hS : va_S A s.heap s.heap [] := va_S.rf
  have w_1 := hts (.fieldLink RX4 9 "ScannedDigits$Text" "characters" "[C") (List.mem_of_getElem? (i := 1) rfl)
  have w_2 := hts (.fieldLink RX4 19 "ScannedDigits$Text" "length" "I") (List.mem_of_getElem? (i := 2) rfl)
  have hiX4 : ∀ w ∈ wsX40, w ∈ wsX4_append := fun w h => (goodIn_r wsX40 [3, 4, 5, 6] (by decide +kernel) (by decide +kernel) w h).1
  have hl := lv_entry ([.ref x, .int z]) (n := 2) (Nat.le_of_ble_eq_true rfl)
  rw [lg_entry_eq]
  generalize (lg_sl ([.ref x, .int z]) ++ List.replicate (2 - (lg_sl ([.ref x, .int z])).length) Slot.unset).toArray = ls at hl ⊢
  have hl : lv_has ls 2 [(0, .ref x), (1, .int z)] := hl
  refine lv_aload_n hx hb dX4_append_0 rfl (lv_at hl 0 rfl) ?_
  refine va_get (D := D) (ci := 4) (v := .ref tc) (C := RX4) (T := TX4) (N := 4) hx hb hts hiX4 hown hK hP 0 rfl rfl 0 (by decide) w_1 (fun _ h9 => h9) rfl dX4_append_1 ?_
  refine lv_aload_n hx hb dX4_append_4 rfl (lv_at hl 0 rfl) ?_
  refine va_get (D := D) (ci := 4) (v := .int (nI k)) (C := RX4) (T := TX4) (N := 4) hx hb hts hiX4 hown hK hP 0 rfl rfl 1 (by decide) w_2 (fun _ h9 => h9) rfl dX4_append_5 ?_
  refine lv_iload_n hx hb dX4_append_8 rfl (lv_at hl 1 rfl) ?_
  refine r_cast hx hb hK hP hD hS 1 2 rfl rfl (k := k) (rfl) (by omega) (by decide) (hz) dX4_append_9 (fun H locs hP hD hS => ?_)
  have hP : va_P D vwCl ([(x, .inr (4, [.ref tc, .int (nI k), .ref tp, .int (nd)])), (tc, .inl (ct 2, 30, .inl (upd f k z))), (tp, .inl (ct 0, 8, .inl (g)))]) H := hP
  have hD : va_D A ([(x, .inr (4, [.ref tc, .int (nI k), .ref tp, .int (nd)])), (tc, .inl (ct 2, 30, .inl (upd f k z))), (tp, .inl (ct 0, 8, .inl (g)))]) := hD
  refine lv_aload_n hx hb dX4_append_10 rfl (lv_at hl 0 rfl) ?_
  refine lv_dup hx hb dX4_append_11 rfl ?_
  refine va_get (D := D) (ci := 4) (v := .int (nI k)) (C := RX4) (T := TX4) (N := 4) hx hb hts hiX4 hown hK hP 0 rfl rfl 1 (by decide) w_2 (fun _ h9 => h9) rfl dX4_append_12 ?_
  refine lv_iconst (v := 1) hx hb dX4_append_15 (by decide) ?_
  refine lv_iadd hx hb dX4_append_16 ?_
  refine lv_as (y := nI (k + 1)) ((nI_succ k).symm) ?_
  refine va_put (D := D) (ci := 4) (v := .int (nI (k + 1))) (ty := .int) (C := RX4) (T := TX4) (N := 4) hx hb hts hiX4 tyX4 tyX4_ok nmX4 hown hK hP hD hS 0 rfl rfl 1 (by decide) w_2 (fun _ h9 => h9) rfl (by decide +kernel) rfl rfl (Nat.le_of_ble_eq_true rfl) dX4_append_17 (fun H locs hP hD hS => ?_)
  have hP : va_P D vwCl ([(x, .inr (4, [.ref tc, .int (nI (k + 1)), .ref tp, .int (nd)])), (tc, .inl (ct 2, 30, .inl (upd f k z))), (tp, .inl (ct 0, 8, .inl (g)))]) H := hP
  have hD : va_D A ([(x, .inr (4, [.ref tc, .int (nI (k + 1)), .ref tp, .int (nd)])), (tc, .inl (ct 2, 30, .inl (upd f k z))), (tp, .inl (ct 0, 8, .inl (g)))]) := hD
  have hP9 : va_P D vwCl ([(x, .inr (4, [.ref tc, .int (nI (k + 1)), .ref tp, .int (nd)])), (tc, .inl (ct 2, 30, .inl (upd f k z))), (tp, .inl (ct 0, 8, .inl (g)))]) _ := hP
  have hD9 : va_D A ([(x, .inr (4, [.ref tc, .int (nI (k + 1)), .ref tp, .int (nd)])), (tc, .inl (ct 2, 30, .inl (upd f k z))), (tp, .inl (ct 0, 8, .inl (g)))]) := hD
  subst hAe
  exact W.vret hx hb hr (fun tt ht hW => ⟨⟨(), rfl, trivial, muE.of (ct := ct) hP9 hD9 ht⟩, hS.F ht⟩) hS.2.2 dX4_append_20
set_option maxHeartbeats 4000000 in
set_option maxRecDepth 100000 in
theorem k_X4_layOut (l : Launch) (D : va_G) (ct : Nat → ClassId) (sz : Nat) (x tc tp : Nat) (k : Nat) (nd : Int32) (f g : Nat → Int32) (d : Nat) (hd : d ≤ 8) (hk : k ≤ 30) : Met l yX4_layOut wsX4_layOut ({ frames := 1, cells := 0, slots := 0, locals := 21 }) (muPS D ct ([(x, .inr (4, [.ref tc, .int (nI k), .ref tp, .int (nd)])), (tc, .inl (ct 2, 30, .inl (f))), (tp, .inl (ct 0, 8, .inl (g)))]) sz [.ref x, .int (nI d)]) (muI D ct ([(x, .inr (4, [.ref tc, .int (nI k), .ref tp, .int (nd)])), (tc, .inl (ct 2, 30, .inl (f))), (tp, .inl (ct 0, 8, .inl (g)))]) ([(x, .inr (4, [.ref tc, .int (nI k), .ref tp, .int (nI ((shO f d k 0 0 0 (fun _ => 0)).2.1))])), (tc, .inl (ct 2, 30, .inl (f))), (tp, .inl (ct 0, 8, .inl ((shO f d k 0 0 0 (fun _ => 0)).2.2)))]) sz (fun r => r = (shO f d k 0 0 0 (fun _ => 0)).1)) 0 0 (va_A ([(x, .inr (4, [.ref tc, .int (nI k), .ref tp, .int (nd)])), (tc, .inl (ct 2, 30, .inl (f))), (tp, .inl (ct 0, 8, .inl (g)))]) sz) := by
  refine Met.ofW (cc := cX4_layOut) (maxL := 6) (ret := (some .int)) (by decide) rfl ?_
  intro p e s m args below meth c s₁ B hml hv
  obtain ⟨rfl, hZ, hsz, hP, hK, hN, hD0⟩ := hv
  have hx := B.exec
  have hb := B.bytes
  have hr := B.returns
  have hts := atoms_spec (ws := wsX4_layOut) B.pre
  have hown : s.vm.findClass RX4 = some m.cls := findClass_of_methodNamed B.named
  have hlocks := B.notSynchronized
  subst hsz
  have hD := hD0.self (sz := s.heap.size)
  generalize hAe : va_A ([(x, .inr (4, [.ref tc, .int (nI k), .ref tp, .int (nd)])), (tc, .inl (ct 2, 30, .inl (f))), (tp, .inl (ct 0, 8, .inl (g)))]) s.heap.size = A at hD hZ
  have hA : ∀ q : Nat, s.heap.size ≤ q → A q := fun q h => by rw [← hAe]; exact Or.inr h
  have hS : va_S A s.heap s.heap [] := va_S.rf
  obtain ⟨tch, zch, Tch⟩ := hZ.ch
  obtain ⟨tpt, zpt, Tpt⟩ := hZ.pt
  obtain ⟨tle, zle, Tle⟩ := hZ.le
  obtain ⟨tmo, zmo, Tmo⟩ := hZ.mo
  have w_1 := hts (.fieldLink RX4 15 "ScannedDigits$Text" "patterns" "[I") (List.mem_of_getElem? (i := 1) rfl)
  have w_2 := hts (.fieldLink RX4 23 "ScannedDigits$Text" "needed" "I") (List.mem_of_getElem? (i := 2) rfl)
  have w_3 := hts (.fieldLink RX4 19 "ScannedDigits$Text" "length" "I") (List.mem_of_getElem? (i := 3) rfl)
  have w_4 := hts (.fieldLink RX4 9 "ScannedDigits$Text" "characters" "[C") (List.mem_of_getElem? (i := 4) rfl)
  have w_5 := hts (.static yX5_patternOf) (List.mem_of_getElem? (i := 5) rfl)
  have w_6 := hts (.initialized RX5) (List.mem_of_getElem? (i := 6) rfl)
  have hiX4 : ∀ w ∈ wsX40, w ∈ wsX4_layOut := fun w h => (goodIn_r wsX40 [10, 11, 12, 13] (by decide +kernel) (by decide +kernel) w h).1
  have hl := lv_entry ([.ref x, .int (nI d)]) (n := 6) (Nat.le_of_ble_eq_true rfl)
  rw [lg_entry_eq]
  generalize (lg_sl ([.ref x, .int (nI d)]) ++ List.replicate (6 - (lg_sl ([.ref x, .int (nI d)])).length) Slot.unset).toArray = ls at hl ⊢
  have hl : lv_has ls 6 [(0, .ref x), (1, .int (nI d))] := hl
  refine lv_iconst (v := 0) hx hb dX4_layOut_0 (by decide) ?_
  refine lv_istore_n (lv' := [(2, .int 0), (0, .ref x), (1, .int (nI d))]) hx hb dX4_layOut_1 rfl hl (by decide) rfl (fun ls hl => ?_)
  have loop_2 : ∀ (n_2 : Nat) (i : Nat) (gg : Nat → Int32), (i ≤ 8) → (9 ≤ i + n_2) → (∀ j, j < i → gg j = 0) → ∀ (H : Heap) (locs : List Loc), va_P D vwCl ([(x, .inr (4, [.ref tc, .int (nI k), .ref tp, .int (nd)])), (tc, .inl (ct 2, 30, .inl (f))), (tp, .inl (ct 0, 8, .inl (gg)))]) H → va_D A ([(x, .inr (4, [.ref tc, .int (nI k), .ref tp, .int (nd)])), (tc, .inl (ct 2, 30, .inl (f))), (tp, .inl (ct 0, 8, .inl (gg)))]) → va_S A s.heap H locs → ∀ (ls : Array Slot), lv_has ls 6 [(0, .ref x), (1, .int (nI d)), (2, .int (nI i))] → W p l e (headSpec wsX4_layOut ({ frames := 1, cells := 0, slots := 0, locals := 21 })).room s m #[.ref x, .int (nI d)] below meth c H locs 0 0 (MQ below (muI D ct ([(x, .inr (4, [.ref tc, .int (nI k), .ref tp, .int (nd)])), (tc, .inl (ct 2, 30, .inl (f))), (tp, .inl (ct 0, 8, .inl (g)))]) ([(x, .inr (4, [.ref tc, .int (nI k), .ref tp, .int (nI ((shO f d k 0 0 0 (fun _ => 0)).2.1))])), (tc, .inl (ct 2, 30, .inl (f))), (tp, .inl (ct 0, 8, .inl ((shO f d k 0 0 0 (fun _ => 0)).2.2)))]) s.heap.size (fun r => r = (shO f d k 0 0 0 (fun _ => 0)).1)) #[.ref x, .int (nI d)] s 0 0 (A)) (F0 m 2 ls []) := by
    intro n_2
    induction n_2 with
    | zero =>
      intro i gg hi hn hg
      exact absurd hn (by omega)
    | succ n_2 ih_2 =>
      intro i gg hi hn hg H locs hP hD hS ls hl
      refine lv_iload_n hx hb dX4_layOut_2 rfl (lv_at hl 2 rfl) ?_
      refine lv_aload_n hx hb dX4_layOut_3 rfl (lv_at hl 0 rfl) ?_
      refine va_get (D := D) (ci := 4) (v := .ref tp) (C := RX4) (T := TX4) (N := 4) hx hb hts hiX4 hown hK hP 0 rfl rfl 2 (by decide) w_1 (fun _ h9 => h9) rfl dX4_layOut_4 ?_
      refine va_alen hx hb hK hP 2 0 rfl (ty := .int) rfl (v := 8) rfl dX4_layOut_7 ?_
      refine lv_icmp_ge (tgt := 24) hx hb dX4_layOut_8 (by decide) (fun c_8 => ?_) (fun c_8 => ?_)
      · have hge : 8 ≤ i := nI_le' (by decide) (by omega) c_8
        refine lv_aload_n hx hb dX4_layOut_24 rfl (lv_at hl 0 rfl) ?_
        refine lv_iconst (v := 0) hx hb dX4_layOut_25 (by decide) ?_
        refine va_put (D := D) (ci := 4) (v := .int 0) (ty := .int) (C := RX4) (T := TX4) (N := 4) hx hb hts hiX4 tyX4 tyX4_ok nmX4 hown hK hP hD hS 0 rfl rfl 3 (by decide) w_2 (fun _ h9 => h9) rfl (by decide +kernel) rfl rfl (Nat.le_of_ble_eq_true rfl) dX4_layOut_26 (fun H locs hP hD hS => ?_)
        have hP : va_P D vwCl ([(x, .inr (4, [.ref tc, .int (nI k), .ref tp, .int 0])), (tc, .inl (ct 2, 30, .inl (f))), (tp, .inl (ct 0, 8, .inl (gg)))]) H := hP
        have hD : va_D A ([(x, .inr (4, [.ref tc, .int (nI k), .ref tp, .int 0])), (tc, .inl (ct 2, 30, .inl (f))), (tp, .inl (ct 0, 8, .inl (gg)))]) := hD
        refine lv_iconst (v := 0) hx hb dX4_layOut_29 (by decide) ?_
        refine lv_istore_n (lv' := [(2, .int 0), (0, .ref x), (1, .int (nI d))]) hx hb dX4_layOut_30 rfl hl (by decide) rfl (fun ls hl => ?_)
        refine lv_iconst (v := 0) hx hb dX4_layOut_31 (by decide) ?_
        refine lv_istore_n (lv' := [(3, .int 0), (2, .int 0), (0, .ref x), (1, .int (nI d))]) hx hb dX4_layOut_32 rfl hl (by decide) rfl (fun ls hl => ?_)
        have loop_33 : ∀ (n_33 : Nat) (i n : Nat) (t : Int32) (P : Nat → Int32), (i ≤ k) → (k + 1 ≤ i + n_33) → (n ≤ i) → (n ≤ d) → (t ≠ 0 → 0 < n) → (shO f d (k - i) i n t P = shO f d k 0 0 0 (fun _ => 0)) → ∀ (H : Heap) (locs : List Loc), va_P D vwCl ([(x, .inr (4, [.ref tc, .int (nI k), .ref tp, .int (nI n)])), (tc, .inl (ct 2, 30, .inl (f))), (tp, .inl (ct 0, 8, .inl (P)))]) H → va_D A ([(x, .inr (4, [.ref tc, .int (nI k), .ref tp, .int (nI n)])), (tc, .inl (ct 2, 30, .inl (f))), (tp, .inl (ct 0, 8, .inl (P)))]) → va_S A s.heap H locs → ∀ (ls : Array Slot), lv_has ls 6 [(0, .ref x), (1, .int (nI d)), (2, .int t), (3, .int (nI i))] → W p l e (headSpec wsX4_layOut ({ frames := 1, cells := 0, slots := 0, locals := 21 })).room s m #[.ref x, .int (nI d)] below meth c H locs 0 0 (MQ below (muI D ct ([(x, .inr (4, [.ref tc, .int (nI k), .ref tp, .int (nd)])), (tc, .inl (ct 2, 30, .inl (f))), (tp, .inl (ct 0, 8, .inl (g)))]) ([(x, .inr (4, [.ref tc, .int (nI k), .ref tp, .int (nI ((shO f d k 0 0 0 (fun _ => 0)).2.1))])), (tc, .inl (ct 2, 30, .inl (f))), (tp, .inl (ct 0, 8, .inl ((shO f d k 0 0 0 (fun _ => 0)).2.2)))]) s.heap.size (fun r => r = (shO f d k 0 0 0 (fun _ => 0)).1)) #[.ref x, .int (nI d)] s 0 0 (A)) (F0 m 33 ls []) := by
          intro n_33
          induction n_33 with
          | zero =>
            intro i n t P hi hn hni hnd ht hq
            exact absurd hn (by omega)
          | succ n_33 ih_33 =>
            intro i n t P hi hn hni hnd ht hq H locs hP hD hS ls hl
            refine lv_iload_n hx hb dX4_layOut_33 rfl (lv_at hl 3 rfl) ?_
            refine lv_aload_n hx hb dX4_layOut_34 rfl (lv_at hl 0 rfl) ?_
            refine va_get (D := D) (ci := 4) (v := .int (nI k)) (C := RX4) (T := TX4) (N := 4) hx hb hts hiX4 hown hK hP 0 rfl rfl 1 (by decide) w_3 (fun _ h9 => h9) rfl dX4_layOut_35 ?_
            refine lv_icmp_ge (tgt := 165) hx hb dX4_layOut_38 (by decide) (fun c_38 => ?_) (fun c_38 => ?_)
            · have hge : k ≤ i := nI_le' (by omega) (by omega) c_38
              have he := hq.symm.trans (sho_z (by omega))
              refine lv_bipush (v := (-4)) hx hb dX4_layOut_165 (by decide) ?_
              have hP9 : va_P D vwCl ([(x, .inr (4, [.ref tc, .int (nI k), .ref tp, .int (nI ((shO f d k 0 0 0 (fun _ => 0)).2.1))])), (tc, .inl (ct 2, 30, .inl (f))), (tp, .inl (ct 0, 8, .inl ((shO f d k 0 0 0 (fun _ => 0)).2.2)))]) _ := tx_o he hP
              have hD9 : va_D A ([(x, .inr (4, [.ref tc, .int (nI k), .ref tp, .int (nI ((shO f d k 0 0 0 (fun _ => 0)).2.1))])), (tc, .inl (ct 2, 30, .inl (f))), (tp, .inl (ct 0, 8, .inl ((shO f d k 0 0 0 (fun _ => 0)).2.2)))]) := tx_dn hD
              subst hAe
              exact W.iret (v := (-4)) hx hb hr (fun tt ht hW => ⟨⟨(-4), (), rfl, by rw [he], muE.of (ct := ct) hP9 hD9 ht⟩, hS.F ht⟩) hS.2.2 dX4_layOut_167
            · have hlt : i < k := nI_nle' (by omega) (by omega) c_38
              refine lv_aload_n hx hb dX4_layOut_41 rfl (lv_at hl 0 rfl) ?_
              refine va_get (D := D) (ci := 4) (v := .ref tc) (C := RX4) (T := TX4) (N := 4) hx hb hts hiX4 hown hK hP 0 rfl rfl 0 (by decide) w_4 (fun _ h9 => h9) rfl dX4_layOut_42 ?_
              refine lv_iload_n hx hb dX4_layOut_45 rfl (lv_at hl 3 rfl) ?_
              refine r_cald hx hb hK hP 1 2 rfl rfl (k := i) (rfl) (by omega) (by decide) dX4_layOut_46 ?_
              refine lv_bipush (v := 46) hx hb dX4_layOut_47 (by decide) ?_
              refine lv_icmp_ne (tgt := 56) hx hb dX4_layOut_49 (by decide) (fun c_49 => ?_) (fun c_49 => ?_)
              · refine lv_iconst (v := 0) hx hb dX4_layOut_56 (by decide) ?_
                refine lv_istore (lv' := [(4, .int 0), (0, .ref x), (1, .int (nI d)), (2, .int t), (3, .int (nI i))]) hx hb dX4_layOut_57 hl (by decide) rfl (fun ls hl => ?_)
                refine lv_iload hx hb dX4_layOut_59 (lv_at hl 0 rfl) ?_
                refine lv_if_eq (tgt := 88) hx hb dX4_layOut_61 (by decide) (fun c_61 => ?_) (fun c_61 => ?_)
                · refine lv_iload hx hb dX4_layOut_88 (lv_at hl 0 rfl) ?_
                  refine lv_if_eq (tgt := 99) hx hb dX4_layOut_90 (by decide) (fun c_90 => ?_) (fun c_90 => ?_)
                  · refine lv_aload_n hx hb dX4_layOut_99 rfl (lv_at hl 1 rfl) ?_
                    refine va_get (D := D) (ci := 4) (v := .ref tc) (C := RX4) (T := TX4) (N := 4) hx hb hts hiX4 hown hK hP 0 rfl rfl 0 (by decide) w_4 (fun _ h9 => h9) rfl dX4_layOut_100 ?_
                    refine lv_iload_n hx hb dX4_layOut_103 rfl (lv_at hl 4 rfl) ?_
                    refine r_cald hx hb hK hP 1 2 rfl rfl (k := i) (rfl) (by omega) (by decide) dX4_layOut_104 ?_
                    refine vp_callSi (va_runSN (As := [.int (f i)]) (rest := []) ⟨hx, hb, hml, hown, hts⟩ (k_X5_patternOf l D ct (f i)) ⟨va_cnB 1 hts gX4_layOut_X5_patternOf_n26 rfl rfl rfl hN.2.2.2.1 w_6 (by decide +kernel) ⟨Nat.le_of_ble_eq_true rfl, Nat.le_of_ble_eq_true rfl⟩, w_5, trivial⟩ ⟨roPS.blind, roPS.at hZ hS pw_nil hK hN⟩ rfl rfl hl.1 rfl (lv_room (Nat.le_of_ble_eq_true rfl)) dX4_layOut_105 ⟨Nat.le_of_ble_eq_true rfl, Nat.le_of_ble_eq_true rfl⟩).run (fun r_105 h_105 => ?_)
                    obtain rfl : r_105 = pPat (f i) := h_105
                    refine lv_istore (lv' := [(5, .int (pPat (f i))), (4, .int 0), (0, .ref x), (1, .int (nI d)), (2, .int t), (3, .int (nI i))]) hx hb dX4_layOut_108 hl (by decide) rfl (fun ls hl => ?_)
                    refine lv_iload hx hb dX4_layOut_110 (lv_at hl 0 rfl) ?_
                    refine lv_bipush (v := (-4)) hx hb dX4_layOut_112 (by decide) ?_
                    refine lv_icmp_eq (tgt := 125) hx hb dX4_layOut_114 (by decide) (fun c_114 => ?_) (fun c_114 => ?_)
                    · have he := hq.symm.trans (sho_c0 hlt c_49 c_114)
                      refine lv_iload_n hx hb dX4_layOut_125 rfl (lv_at hl 5 rfl) ?_
                      have hP9 : va_P D vwCl ([(x, .inr (4, [.ref tc, .int (nI k), .ref tp, .int (nI ((shO f d k 0 0 0 (fun _ => 0)).2.1))])), (tc, .inl (ct 2, 30, .inl (f))), (tp, .inl (ct 0, 8, .inl ((shO f d k 0 0 0 (fun _ => 0)).2.2)))]) _ := tx_o he hP
                      have hD9 : va_D A ([(x, .inr (4, [.ref tc, .int (nI k), .ref tp, .int (nI ((shO f d k 0 0 0 (fun _ => 0)).2.1))])), (tc, .inl (ct 2, 30, .inl (f))), (tp, .inl (ct 0, 8, .inl ((shO f d k 0 0 0 (fun _ => 0)).2.2)))]) := tx_dn hD
                      subst hAe
                      exact W.iret (v := (nI i)) hx hb hr (fun tt ht hW => ⟨⟨(nI i), (), rfl, by rw [he], muE.of (ct := ct) hP9 hD9 ht⟩, hS.F ht⟩) hS.2.2 dX4_layOut_126
                    · refine lv_aload_n hx hb dX4_layOut_117 rfl (lv_at hl 2 rfl) ?_
                      refine va_get (D := D) (ci := 4) (v := .int (nI n)) (C := RX4) (T := TX4) (N := 4) hx hb hts hiX4 hown hK hP 0 rfl rfl 3 (by decide) w_2 (fun _ h9 => h9) rfl dX4_layOut_118 ?_
                      refine lv_iload_n hx hb dX4_layOut_121 rfl (lv_at hl 3 rfl) ?_
                      refine lv_icmp_lt (tgt := 127) hx hb dX4_layOut_122 (by decide) (fun c_122 => ?_) (fun c_122 => ?_)
                      · have hlt2 : n < d := nI_lt' (by omega) (by omega) c_122
                        refine lv_aload_n hx hb dX4_layOut_127 rfl (lv_at hl 2 rfl) ?_
                        refine va_get (D := D) (ci := 4) (v := .ref tp) (C := RX4) (T := TX4) (N := 4) hx hb hts hiX4 hown hK hP 0 rfl rfl 2 (by decide) w_1 (fun _ h9 => h9) rfl dX4_layOut_128 ?_
                        refine lv_aload_n hx hb dX4_layOut_131 rfl (lv_at hl 2 rfl) ?_
                        refine va_get (D := D) (ci := 4) (v := .int (nI n)) (C := RX4) (T := TX4) (N := 4) hx hb hts hiX4 hown hK hP 0 rfl rfl 3 (by decide) w_2 (fun _ h9 => h9) rfl dX4_layOut_132 ?_
                        refine lv_iload hx hb dX4_layOut_135 (lv_at hl 0 rfl) ?_
                        refine r_iast hx hb hK hP hD hS 2 0 rfl rfl (k := n) (rfl) (by omega) (by decide) dX4_layOut_137 (fun H locs hP hD hS => ?_)
                        have hP : va_P D vwCl ([(x, .inr (4, [.ref tc, .int (nI k), .ref tp, .int (nI n)])), (tc, .inl (ct 2, 30, .inl (f))), (tp, .inl (ct 0, 8, .inl (upd P n (pPat (f i)))))]) H := hP
                        have hD : va_D A ([(x, .inr (4, [.ref tc, .int (nI k), .ref tp, .int (nI n)])), (tc, .inl (ct 2, 30, .inl (f))), (tp, .inl (ct 0, 8, .inl (upd P n (pPat (f i)))))]) := hD
                        refine lv_aload_n hx hb dX4_layOut_138 rfl (lv_at hl 2 rfl) ?_
                        refine lv_dup hx hb dX4_layOut_139 rfl ?_
                        refine va_get (D := D) (ci := 4) (v := .int (nI n)) (C := RX4) (T := TX4) (N := 4) hx hb hts hiX4 hown hK hP 0 rfl rfl 3 (by decide) w_2 (fun _ h9 => h9) rfl dX4_layOut_140 ?_
                        refine lv_iconst (v := 1) hx hb dX4_layOut_143 (by decide) ?_
                        refine lv_iadd hx hb dX4_layOut_144 ?_
                        refine lv_as (y := nI (n + 1)) ((nI_succ n).symm) ?_
                        refine va_put (D := D) (ci := 4) (v := .int (nI (n + 1))) (ty := .int) (C := RX4) (T := TX4) (N := 4) hx hb hts hiX4 tyX4 tyX4_ok nmX4 hown hK hP hD hS 0 rfl rfl 3 (by decide) w_2 (fun _ h9 => h9) rfl (by decide +kernel) rfl rfl (Nat.le_of_ble_eq_true rfl) dX4_layOut_145 (fun H locs hP hD hS => ?_)
                        have hP : va_P D vwCl ([(x, .inr (4, [.ref tc, .int (nI k), .ref tp, .int (nI (n + 1))])), (tc, .inl (ct 2, 30, .inl (f))), (tp, .inl (ct 0, 8, .inl (upd P n (pPat (f i)))))]) H := hP
                        have hD : va_D A ([(x, .inr (4, [.ref tc, .int (nI k), .ref tp, .int (nI (n + 1))])), (tc, .inl (ct 2, 30, .inl (f))), (tp, .inl (ct 0, 8, .inl (upd P n (pPat (f i)))))]) := hD
                        refine lv_iload hx hb dX4_layOut_148 (lv_at hl 1 rfl) ?_
                        refine lv_if_ne (tgt := 157) hx hb dX4_layOut_150 (by decide) (fun c_150 => ?_) (fun c_150 => ?_)
                        · exact absurd rfl c_150
                        · refine lv_iconst (v := 1) hx hb dX4_layOut_153 (by decide) ?_
                          refine lv_goto (tgt := 158) hx hb dX4_layOut_154 (by decide) ?_
                          refine lv_istore_n (lv' := [(2, .int 1), (5, .int (pPat (f i))), (4, .int 0), (0, .ref x), (1, .int (nI d)), (3, .int (nI i))]) hx hb dX4_layOut_158 rfl hl (by decide) rfl (fun ls hl => ?_)
                          refine lv_iinc (v := nI (i + 1)) (lv' := [(3, .int (nI (i + 1))), (2, .int 1), (5, .int (pPat (f i))), (4, .int 0), (0, .ref x), (1, .int (nI d))]) hx hb dX4_layOut_159 hl (k := 5) rfl ((nI_succ i).symm) (by decide) rfl (fun ls hl => ?_)
                          refine lv_goto (tgt := 33) hx hb dX4_layOut_162 (by decide) ?_
                          exact ih_33 (i + 1) (n + 1) 1 _ (by omega) (by omega) (by omega) (by omega) (fun _ => Nat.succ_pos n) ((sho_c2 hlt c_49 c_114 (by omega)).symm.trans hq) _ _ hP hD hS ls (lv_sub hl [4, 5, 1, 0] rfl)
                      · have hge2 : d ≤ n := nI_nlt' (by omega) (by omega) c_122
                        have he := hq.symm.trans (sho_c1 hlt c_49 hge2)
                        refine lv_iload_n hx hb dX4_layOut_125 rfl (lv_at hl 5 rfl) ?_
                        have hP9 : va_P D vwCl ([(x, .inr (4, [.ref tc, .int (nI k), .ref tp, .int (nI ((shO f d k 0 0 0 (fun _ => 0)).2.1))])), (tc, .inl (ct 2, 30, .inl (f))), (tp, .inl (ct 0, 8, .inl ((shO f d k 0 0 0 (fun _ => 0)).2.2)))]) _ := tx_o he hP
                        have hD9 : va_D A ([(x, .inr (4, [.ref tc, .int (nI k), .ref tp, .int (nI ((shO f d k 0 0 0 (fun _ => 0)).2.1))])), (tc, .inl (ct 2, 30, .inl (f))), (tp, .inl (ct 0, 8, .inl ((shO f d k 0 0 0 (fun _ => 0)).2.2)))]) := tx_dn hD
                        subst hAe
                        exact W.iret (v := (nI i)) hx hb hr (fun tt ht hW => ⟨⟨(nI i), (), rfl, by rw [he], muE.of (ct := ct) hP9 hD9 ht⟩, hS.F ht⟩) hS.2.2 dX4_layOut_126
                  · exact absurd rfl c_90
                · exact absurd rfl c_61
              · refine lv_iconst (v := 1) hx hb dX4_layOut_52 (by decide) ?_
                refine lv_goto (tgt := 57) hx hb dX4_layOut_53 (by decide) ?_
                refine lv_istore (lv' := [(4, .int 1), (0, .ref x), (1, .int (nI d)), (2, .int t), (3, .int (nI i))]) hx hb dX4_layOut_57 hl (by decide) rfl (fun ls hl => ?_)
                refine lv_iload hx hb dX4_layOut_59 (lv_at hl 0 rfl) ?_
                refine lv_if_eq (tgt := 88) hx hb dX4_layOut_61 (by decide) (fun c_61 => ?_) (fun c_61 => ?_)
                · exact absurd c_61 (by decide)
                · refine lv_iload_n hx hb dX4_layOut_64 rfl (lv_at hl 3 rfl) ?_
                  refine lv_if_eq (tgt := 88) hx hb dX4_layOut_65 (by decide) (fun c_65 => ?_) (fun c_65 => ?_)
                  · refine lv_iload hx hb dX4_layOut_88 (lv_at hl 0 rfl) ?_
                    refine lv_if_eq (tgt := 99) hx hb dX4_layOut_90 (by decide) (fun c_90 => ?_) (fun c_90 => ?_)
                    · exact absurd c_90 (by decide)
                    · refine lv_sipush (v := 128) hx hb dX4_layOut_93 (by decide) ?_
                      refine lv_goto (tgt := 108) hx hb dX4_layOut_96 (by decide) ?_
                      refine lv_istore (lv' := [(5, .int 128), (4, .int 1), (0, .ref x), (1, .int (nI d)), (2, .int t), (3, .int (nI i))]) hx hb dX4_layOut_108 hl (by decide) rfl (fun ls hl => ?_)
                      refine lv_iload hx hb dX4_layOut_110 (lv_at hl 0 rfl) ?_
                      refine lv_bipush (v := (-4)) hx hb dX4_layOut_112 (by decide) ?_
                      refine lv_icmp_eq (tgt := 125) hx hb dX4_layOut_114 (by decide) (fun c_114 => ?_) (fun c_114 => ?_)
                      · exact absurd c_114 (by decide)
                      · refine lv_aload_n hx hb dX4_layOut_117 rfl (lv_at hl 2 rfl) ?_
                        refine va_get (D := D) (ci := 4) (v := .int (nI n)) (C := RX4) (T := TX4) (N := 4) hx hb hts hiX4 hown hK hP 0 rfl rfl 3 (by decide) w_2 (fun _ h9 => h9) rfl dX4_layOut_118 ?_
                        refine lv_iload_n hx hb dX4_layOut_121 rfl (lv_at hl 3 rfl) ?_
                        refine lv_icmp_lt (tgt := 127) hx hb dX4_layOut_122 (by decide) (fun c_122 => ?_) (fun c_122 => ?_)
                        · have hlt2 : n < d := nI_lt' (by omega) (by omega) c_122
                          refine lv_aload_n hx hb dX4_layOut_127 rfl (lv_at hl 2 rfl) ?_
                          refine va_get (D := D) (ci := 4) (v := .ref tp) (C := RX4) (T := TX4) (N := 4) hx hb hts hiX4 hown hK hP 0 rfl rfl 2 (by decide) w_1 (fun _ h9 => h9) rfl dX4_layOut_128 ?_
                          refine lv_aload_n hx hb dX4_layOut_131 rfl (lv_at hl 2 rfl) ?_
                          refine va_get (D := D) (ci := 4) (v := .int (nI n)) (C := RX4) (T := TX4) (N := 4) hx hb hts hiX4 hown hK hP 0 rfl rfl 3 (by decide) w_2 (fun _ h9 => h9) rfl dX4_layOut_132 ?_
                          refine lv_iload hx hb dX4_layOut_135 (lv_at hl 0 rfl) ?_
                          refine r_iast hx hb hK hP hD hS 2 0 rfl rfl (k := n) (rfl) (by omega) (by decide) dX4_layOut_137 (fun H locs hP hD hS => ?_)
                          have hP : va_P D vwCl ([(x, .inr (4, [.ref tc, .int (nI k), .ref tp, .int (nI n)])), (tc, .inl (ct 2, 30, .inl (f))), (tp, .inl (ct 0, 8, .inl (upd P n 128)))]) H := hP
                          have hD : va_D A ([(x, .inr (4, [.ref tc, .int (nI k), .ref tp, .int (nI n)])), (tc, .inl (ct 2, 30, .inl (f))), (tp, .inl (ct 0, 8, .inl (upd P n 128)))]) := hD
                          refine lv_aload_n hx hb dX4_layOut_138 rfl (lv_at hl 2 rfl) ?_
                          refine lv_dup hx hb dX4_layOut_139 rfl ?_
                          refine va_get (D := D) (ci := 4) (v := .int (nI n)) (C := RX4) (T := TX4) (N := 4) hx hb hts hiX4 hown hK hP 0 rfl rfl 3 (by decide) w_2 (fun _ h9 => h9) rfl dX4_layOut_140 ?_
                          refine lv_iconst (v := 1) hx hb dX4_layOut_143 (by decide) ?_
                          refine lv_iadd hx hb dX4_layOut_144 ?_
                          refine lv_as (y := nI (n + 1)) ((nI_succ n).symm) ?_
                          refine va_put (D := D) (ci := 4) (v := .int (nI (n + 1))) (ty := .int) (C := RX4) (T := TX4) (N := 4) hx hb hts hiX4 tyX4 tyX4_ok nmX4 hown hK hP hD hS 0 rfl rfl 3 (by decide) w_2 (fun _ h9 => h9) rfl (by decide +kernel) rfl rfl (Nat.le_of_ble_eq_true rfl) dX4_layOut_145 (fun H locs hP hD hS => ?_)
                          have hP : va_P D vwCl ([(x, .inr (4, [.ref tc, .int (nI k), .ref tp, .int (nI (n + 1))])), (tc, .inl (ct 2, 30, .inl (f))), (tp, .inl (ct 0, 8, .inl (upd P n 128)))]) H := hP
                          have hD : va_D A ([(x, .inr (4, [.ref tc, .int (nI k), .ref tp, .int (nI (n + 1))])), (tc, .inl (ct 2, 30, .inl (f))), (tp, .inl (ct 0, 8, .inl (upd P n 128)))]) := hD
                          refine lv_iload hx hb dX4_layOut_148 (lv_at hl 1 rfl) ?_
                          refine lv_if_ne (tgt := 157) hx hb dX4_layOut_150 (by decide) (fun c_150 => ?_) (fun c_150 => ?_)
                          · refine lv_iconst (v := 0) hx hb dX4_layOut_157 (by decide) ?_
                            refine lv_istore_n (lv' := [(2, .int 0), (5, .int 128), (4, .int 1), (0, .ref x), (1, .int (nI d)), (3, .int (nI i))]) hx hb dX4_layOut_158 rfl hl (by decide) rfl (fun ls hl => ?_)
                            refine lv_iinc (v := nI (i + 1)) (lv' := [(3, .int (nI (i + 1))), (2, .int 0), (5, .int 128), (4, .int 1), (0, .ref x), (1, .int (nI d))]) hx hb dX4_layOut_159 hl (k := 5) rfl ((nI_succ i).symm) (by decide) rfl (fun ls hl => ?_)
                            refine lv_goto (tgt := 33) hx hb dX4_layOut_162 (by decide) ?_
                            exact ih_33 (i + 1) (n + 1) 0 _ (by omega) (by omega) (by omega) (by omega) (fun z => absurd rfl z) ((sho_f1 hlt c_49 c_65 (by omega)).symm.trans hq) _ _ hP hD hS ls (lv_sub hl [4, 5, 1, 0] rfl)
                          · exact absurd c_150 (by decide)
                        · have hge2 : d ≤ n := nI_nlt' (by omega) (by omega) c_122
                          have he := hq.symm.trans (sho_f0 hlt c_49 c_65 hge2)
                          refine lv_iload_n hx hb dX4_layOut_125 rfl (lv_at hl 5 rfl) ?_
                          have hP9 : va_P D vwCl ([(x, .inr (4, [.ref tc, .int (nI k), .ref tp, .int (nI ((shO f d k 0 0 0 (fun _ => 0)).2.1))])), (tc, .inl (ct 2, 30, .inl (f))), (tp, .inl (ct 0, 8, .inl ((shO f d k 0 0 0 (fun _ => 0)).2.2)))]) _ := tx_o he hP
                          have hD9 : va_D A ([(x, .inr (4, [.ref tc, .int (nI k), .ref tp, .int (nI ((shO f d k 0 0 0 (fun _ => 0)).2.1))])), (tc, .inl (ct 2, 30, .inl (f))), (tp, .inl (ct 0, 8, .inl ((shO f d k 0 0 0 (fun _ => 0)).2.2)))]) := tx_dn hD
                          subst hAe
                          exact W.iret (v := (nI i)) hx hb hr (fun tt ht hW => ⟨⟨(nI i), (), rfl, by rw [he], muE.of (ct := ct) hP9 hD9 ht⟩, hS.F ht⟩) hS.2.2 dX4_layOut_126
                  · refine lv_aload_n hx hb dX4_layOut_68 rfl (lv_at hl 1 rfl) ?_
                    refine va_get (D := D) (ci := 4) (v := .ref tp) (C := RX4) (T := TX4) (N := 4) hx hb hts hiX4 hown hK hP 0 rfl rfl 2 (by decide) w_1 (fun _ h9 => h9) rfl dX4_layOut_69 ?_
                    refine lv_aload_n hx hb dX4_layOut_72 rfl (lv_at hl 1 rfl) ?_
                    refine va_get (D := D) (ci := 4) (v := .int (nI n)) (C := RX4) (T := TX4) (N := 4) hx hb hts hiX4 hown hK hP 0 rfl rfl 3 (by decide) w_2 (fun _ h9 => h9) rfl dX4_layOut_73 ?_
                    refine lv_iconst (v := 1) hx hb dX4_layOut_76 (by decide) ?_
                    refine lv_isub hx hb dX4_layOut_77 ?_
                    refine lv_as (y := nI (n - 1)) (nI_dec (ht c_65)) ?_
                    refine lv_dup2_11 hx hb dX4_layOut_78 rfl rfl ?_
                    refine r_iald hx hb hK hP 2 0 rfl rfl (k := (n - 1)) (rfl) (by omega) (by decide) dX4_layOut_79 ?_
                    refine lv_sipush (v := 128) hx hb dX4_layOut_80 (by decide) ?_
                    refine lv_ior hx hb dX4_layOut_83 ?_
                    refine r_iast hx hb hK hP hD hS 2 0 rfl rfl (k := (n - 1)) (rfl) (by omega) (by decide) dX4_layOut_84 (fun H locs hP hD hS => ?_)
                    have hP : va_P D vwCl ([(x, .inr (4, [.ref tc, .int (nI k), .ref tp, .int (nI n)])), (tc, .inl (ct 2, 30, .inl (f))), (tp, .inl (ct 0, 8, .inl (upd P (n - 1) ((P (n - 1)) ||| 128))))]) H := hP
                    have hD : va_D A ([(x, .inr (4, [.ref tc, .int (nI k), .ref tp, .int (nI n)])), (tc, .inl (ct 2, 30, .inl (f))), (tp, .inl (ct 0, 8, .inl (upd P (n - 1) ((P (n - 1)) ||| 128))))]) := hD
                    refine lv_goto (tgt := 148) hx hb dX4_layOut_85 (by decide) ?_
                    refine lv_iload hx hb dX4_layOut_148 (lv_at hl 0 rfl) ?_
                    refine lv_if_ne (tgt := 157) hx hb dX4_layOut_150 (by decide) (fun c_150 => ?_) (fun c_150 => ?_)
                    · refine lv_iconst (v := 0) hx hb dX4_layOut_157 (by decide) ?_
                      refine lv_istore_n (lv' := [(2, .int 0), (4, .int 1), (0, .ref x), (1, .int (nI d)), (3, .int (nI i))]) hx hb dX4_layOut_158 rfl hl (by decide) rfl (fun ls hl => ?_)
                      refine lv_iinc (v := nI (i + 1)) (lv' := [(3, .int (nI (i + 1))), (2, .int 0), (4, .int 1), (0, .ref x), (1, .int (nI d))]) hx hb dX4_layOut_159 hl (k := 4) rfl ((nI_succ i).symm) (by decide) rfl (fun ls hl => ?_)
                      refine lv_goto (tgt := 33) hx hb dX4_layOut_162 (by decide) ?_
                      exact ih_33 (i + 1) n 0 _ (by omega) (by omega) (by omega) hnd (fun z => absurd rfl z) ((sho_f2 hlt c_49 c_65).symm.trans hq) _ _ hP hD hS ls (lv_sub hl [3, 4, 1, 0] rfl)
                    · exact absurd c_150 (by decide)
        exact loop_33 (k + 1) 0 0 0 (fun _ => 0) (by omega) (by omega) (by omega) (by omega) (fun z => absurd rfl z) rfl _ _ (tx_ext hP (fun _ _ => rfl) (fun j hj => hg j (by omega))) (tx_dn hD) hS ls (lv_sub hl [2, 3, 1, 0] rfl)
      · have hlt : i < 8 := nI_nle' (by decide) (by omega) c_8
        refine lv_aload_n hx hb dX4_layOut_11 rfl (lv_at hl 0 rfl) ?_
        refine va_get (D := D) (ci := 4) (v := .ref tp) (C := RX4) (T := TX4) (N := 4) hx hb hts hiX4 hown hK hP 0 rfl rfl 2 (by decide) w_1 (fun _ h9 => h9) rfl dX4_layOut_12 ?_
        refine lv_iload_n hx hb dX4_layOut_15 rfl (lv_at hl 2 rfl) ?_
        refine lv_iconst (v := 0) hx hb dX4_layOut_16 (by decide) ?_
        refine r_iast hx hb hK hP hD hS 2 0 rfl rfl (k := i) (rfl) (by omega) (by decide) dX4_layOut_17 (fun H locs hP hD hS => ?_)
        have hP : va_P D vwCl ([(x, .inr (4, [.ref tc, .int (nI k), .ref tp, .int (nd)])), (tc, .inl (ct 2, 30, .inl (f))), (tp, .inl (ct 0, 8, .inl (upd gg i 0)))]) H := hP
        have hD : va_D A ([(x, .inr (4, [.ref tc, .int (nI k), .ref tp, .int (nd)])), (tc, .inl (ct 2, 30, .inl (f))), (tp, .inl (ct 0, 8, .inl (upd gg i 0)))]) := hD
        refine lv_iinc (v := nI (i + 1)) (lv' := [(2, .int (nI (i + 1))), (0, .ref x), (1, .int (nI d))]) hx hb dX4_layOut_18 hl (k := 2) rfl ((nI_succ i).symm) (by decide) rfl (fun ls hl => ?_)
        refine lv_goto (tgt := 2) hx hb dX4_layOut_21 (by decide) ?_
        exact ih_2 (i + 1) _ (by omega) (by omega) (fun j hj => by rcases Nat.lt_succ_iff_lt_or_eq.mp hj with h | h; exact (if_neg (Nat.ne_of_lt h)).trans (hg j h); exact if_pos h) _ _ hP hD hS ls (lv_sub hl [1, 2, 0] rfl)
  exact loop_2 (9) 0 g (by omega) (by omega) (fun j hj => absurd hj (Nat.not_lt_zero j)) _ _ hP hD hS ls (lv_sub hl [1, 2, 0] rfl)
