set_option maxHeartbeats 4000000 in
set_option maxRecDepth 100000 in
theorem k_X6_patternOf (l : Launch) (D : va_G) (ct : Nat → ClassId) (x : Int32) : Met l yX6_patternOf wsX6_patternOf ({ frames := 0, cells := 0, slots := 0, locals := 0 }) (roP D ct ([]) [.int x]) (vp_Si (fun r => r = pPat x)) 0 0 noA := by
  refine Met.ofW (cc := cX6_patternOf) (maxL := 1) (ret := (some .int)) (by decide) rfl ?_
  intro p e s m args below meth c s₁ B hml hv
  obtain ⟨rfl, hP, hK, hN⟩ := hv
  have hx := B.exec
  have hb := B.bytes
  have hr := B.returns
  have hts := atoms_spec (ws := wsX6_patternOf) B.pre
  have hown : s.vm.findClass RX6 = some m.cls := findClass_of_methodNamed B.named
  have hlocks := B.notSynchronized
  have hl := lv_entry ([.int x]) (n := 1) (Nat.le_of_ble_eq_true rfl)
  rw [lg_entry_eq]
  generalize (lg_sl ([.int x]) ++ List.replicate (1 - (lg_sl ([.int x])).length) Slot.unset).toArray = ls at hl ⊢
  have hl : lv_has ls 1 [(0, .int x)] := hl
  refine lv_iload_n hx hb dX6_patternOf_0 rfl (lv_at hl 0 rfl) ?_
  rcases pat_cases x with (h | h | h | h | h | h | h | h | h | h | h | h | h | h | h) | h
  · subst h
    refine lv_lookup (off := 164) (tgt := 165) hx hb dX6_patternOf_1 (by decide) (by decide) (by decide) ?_
    refine lv_iconst (v := 0) hx hb dX6_patternOf_165 (by decide) ?_
    exact W.iret (v := 0) hx hb hr (fun tt ht hW => ⟨0, rfl, by decide, ht⟩) (fun q hq => absurd hq List.not_mem_nil) dX6_patternOf_166
  · subst h
    refine lv_lookup (off := 161) (tgt := 162) hx hb dX6_patternOf_1 (by decide) (by decide) (by decide) ?_
    refine lv_bipush (v := 64) hx hb dX6_patternOf_162 (by decide) ?_
    exact W.iret (v := 64) hx hb hr (fun tt ht hW => ⟨64, rfl, by decide, ht⟩) (fun q hq => absurd hq List.not_mem_nil) dX6_patternOf_164
  · subst h
    refine lv_lookup (off := 131) (tgt := 132) hx hb dX6_patternOf_1 (by decide) (by decide) (by decide) ?_
    refine lv_bipush (v := 63) hx hb dX6_patternOf_132 (by decide) ?_
    exact W.iret (v := 63) hx hb hr (fun tt ht hW => ⟨63, rfl, by decide, ht⟩) (fun q hq => absurd hq List.not_mem_nil) dX6_patternOf_134
  · subst h
    refine lv_lookup (off := 134) (tgt := 135) hx hb dX6_patternOf_1 (by decide) (by decide) (by decide) ?_
    refine lv_bipush (v := 6) hx hb dX6_patternOf_135 (by decide) ?_
    exact W.iret (v := 6) hx hb hr (fun tt ht hW => ⟨6, rfl, by decide, ht⟩) (fun q hq => absurd hq List.not_mem_nil) dX6_patternOf_137
  · subst h
    refine lv_lookup (off := 137) (tgt := 138) hx hb dX6_patternOf_1 (by decide) (by decide) (by decide) ?_
    refine lv_bipush (v := 91) hx hb dX6_patternOf_138 (by decide) ?_
    exact W.iret (v := 91) hx hb hr (fun tt ht hW => ⟨91, rfl, by decide, ht⟩) (fun q hq => absurd hq List.not_mem_nil) dX6_patternOf_140
  · subst h
    refine lv_lookup (off := 140) (tgt := 141) hx hb dX6_patternOf_1 (by decide) (by decide) (by decide) ?_
    refine lv_bipush (v := 79) hx hb dX6_patternOf_141 (by decide) ?_
    exact W.iret (v := 79) hx hb hr (fun tt ht hW => ⟨79, rfl, by decide, ht⟩) (fun q hq => absurd hq List.not_mem_nil) dX6_patternOf_143
  · subst h
    refine lv_lookup (off := 143) (tgt := 144) hx hb dX6_patternOf_1 (by decide) (by decide) (by decide) ?_
    refine lv_bipush (v := 102) hx hb dX6_patternOf_144 (by decide) ?_
    exact W.iret (v := 102) hx hb hr (fun tt ht hW => ⟨102, rfl, by decide, ht⟩) (fun q hq => absurd hq List.not_mem_nil) dX6_patternOf_146
  · subst h
    refine lv_lookup (off := 146) (tgt := 147) hx hb dX6_patternOf_1 (by decide) (by decide) (by decide) ?_
    refine lv_bipush (v := 109) hx hb dX6_patternOf_147 (by decide) ?_
    exact W.iret (v := 109) hx hb hr (fun tt ht hW => ⟨109, rfl, by decide, ht⟩) (fun q hq => absurd hq List.not_mem_nil) dX6_patternOf_149
  · subst h
    refine lv_lookup (off := 149) (tgt := 150) hx hb dX6_patternOf_1 (by decide) (by decide) (by decide) ?_
    refine lv_bipush (v := 125) hx hb dX6_patternOf_150 (by decide) ?_
    exact W.iret (v := 125) hx hb hr (fun tt ht hW => ⟨125, rfl, by decide, ht⟩) (fun q hq => absurd hq List.not_mem_nil) dX6_patternOf_152
  · subst h
    refine lv_lookup (off := 152) (tgt := 153) hx hb dX6_patternOf_1 (by decide) (by decide) (by decide) ?_
    refine lv_bipush (v := 7) hx hb dX6_patternOf_153 (by decide) ?_
    exact W.iret (v := 7) hx hb hr (fun tt ht hW => ⟨7, rfl, by decide, ht⟩) (fun q hq => absurd hq List.not_mem_nil) dX6_patternOf_155
  · subst h
    refine lv_lookup (off := 155) (tgt := 156) hx hb dX6_patternOf_1 (by decide) (by decide) (by decide) ?_
    refine lv_bipush (v := 127) hx hb dX6_patternOf_156 (by decide) ?_
    exact W.iret (v := 127) hx hb hr (fun tt ht hW => ⟨127, rfl, by decide, ht⟩) (fun q hq => absurd hq List.not_mem_nil) dX6_patternOf_158
  · subst h
    refine lv_lookup (off := 158) (tgt := 159) hx hb dX6_patternOf_1 (by decide) (by decide) (by decide) ?_
    refine lv_bipush (v := 111) hx hb dX6_patternOf_159 (by decide) ?_
    exact W.iret (v := 111) hx hb hr (fun tt ht hW => ⟨111, rfl, by decide, ht⟩) (fun q hq => absurd hq List.not_mem_nil) dX6_patternOf_161
  · subst h
    refine lv_lookup (off := 166) (tgt := 167) hx hb dX6_patternOf_1 (by decide) (by decide) (by decide) ?_
    refine lv_bipush (v := 121) hx hb dX6_patternOf_167 (by decide) ?_
    exact W.iret (v := 121) hx hb hr (fun tt ht hW => ⟨121, rfl, by decide, ht⟩) (fun q hq => absurd hq List.not_mem_nil) dX6_patternOf_169
  · subst h
    refine lv_lookup (off := 172) (tgt := 173) hx hb dX6_patternOf_1 (by decide) (by decide) (by decide) ?_
    refine lv_bipush (v := 92) hx hb dX6_patternOf_173 (by decide) ?_
    exact W.iret (v := 92) hx hb hr (fun tt ht hW => ⟨92, rfl, by decide, ht⟩) (fun q hq => absurd hq List.not_mem_nil) dX6_patternOf_175
  · subst h
    refine lv_lookup (off := 169) (tgt := 170) hx hb dX6_patternOf_1 (by decide) (by decide) (by decide) ?_
    refine lv_bipush (v := 80) hx hb dX6_patternOf_170 (by decide) ?_
    exact W.iret (v := 80) hx hb hr (fun tt ht hW => ⟨80, rfl, by decide, ht⟩) (fun q hq => absurd hq List.not_mem_nil) dX6_patternOf_172
  · have h2 := h
    obtain ⟨h1, h2, h3, h4, h5, h6, h7, h8, h9, h10, h11, h12, h13, h14, h15⟩ := h
    refine lv_lookup (off := 175) (tgt := 176) hx hb dX6_patternOf_1 (by decide) (by show Op.lookupswitch.offset [(32, 164), (45, 161), (48, 131), (49, 134), (50, 137), (51, 140), (52, 143), (53, 146), (54, 149), (55, 152), (56, 155), (57, 158), (69, 166), (111, 172), (114, 169)] 175 x.toInt = 175; rw [lv_osw (a := 32) h1 (by decide), lv_osw (a := 45) h2 (by decide), lv_osw (a := 48) h3 (by decide), lv_osw (a := 49) h4 (by decide), lv_osw (a := 50) h5 (by decide), lv_osw (a := 51) h6 (by decide), lv_osw (a := 52) h7 (by decide), lv_osw (a := 53) h8 (by decide), lv_osw (a := 54) h9 (by decide), lv_osw (a := 55) h10 (by decide), lv_osw (a := 56) h11 (by decide), lv_osw (a := 57) h12 (by decide), lv_osw (a := 69) h13 (by decide), lv_osw (a := 111) h14 (by decide), lv_osw (a := 114) h15 (by decide)]; rfl) (by decide) ?_
    refine lv_bipush (v := (-4)) hx hb dX6_patternOf_176 (by decide) ?_
    exact W.iret (v := (-4)) hx hb hr (fun tt ht hW => ⟨(-4), rfl, (pPat_none ⟨h1, h2, h3, h4, h5, h6, h7, h8, h9, h10, h11, h12, h13, h14, h15⟩).symm, ht⟩) (fun q hq => absurd hq List.not_mem_nil) dX6_patternOf_178

set_option maxHeartbeats 4000000 in
set_option maxRecDepth 100000 in
theorem k_X6_charOf (l : Launch) (D : va_G) (ct : Nat → ClassId) (h r : Nat) (tl : List Value) (v : SV) (q : Int32) : Met l yX6_charOf wsX6_charOf ({ frames := 1, cells := 0, slots := 0, locals := 20 }) (roP D ct (mR ct h r tl v) [.ref h, .int q]) (vp_Si (fun r => r = pChr q)) 0 0 noA := by
  refine Met.ofW (cc := cX6_charOf) (maxL := 3) (ret := (some .int)) (by decide) rfl ?_
  intro p e s m args below meth c s₁ B hml hv
  obtain ⟨rfl, hP, hK, hN⟩ := hv
  have hx := B.exec
  have hb := B.bytes
  have hr := B.returns
  have hts := atoms_spec (ws := wsX6_charOf) B.pre
  have hown : s.vm.findClass RX6 = some m.cls := findClass_of_methodNamed B.named
  have hlocks := B.notSynchronized
  have hl := lv_entry ([.ref h, .int q]) (n := 3) (Nat.le_of_ble_eq_true rfl)
  rw [lg_entry_eq]
  generalize (lg_sl ([.ref h, .int q]) ++ List.replicate (3 - (lg_sl ([.ref h, .int q])).length) Slot.unset).toArray = ls at hl ⊢
  have hl : lv_has ls 3 [(0, .ref h), (1, .int q)] := hl
  refine lv_bipush (v := 32) hx hb dX6_charOf_0 (by decide) ?_
  refine lv_istore_n (lv' := [(2, .int 32), (0, .ref h), (1, .int q)]) hx hb dX6_charOf_2 rfl hl (by decide) rfl (fun ls hl => ?_)
  have loop_3 : ∀ (n_3 : Nat) (i : Nat), (i ≤ 127) → (128 ≤ i + n_3) → (pChrF q (127 - i) i = pChr q) → ∀ (ls : Array Slot), lv_has ls 3 [(2, .int (nI i)), (0, .ref h), (1, .int q)] → W p l e (headSpec wsX6_charOf ({ frames := 1, cells := 0, slots := 0, locals := 20 })).room s m #[.ref h, .int q] below meth c s.heap [] 0 0 (MQ below (vp_Si (fun r => r = pChr q)) #[.ref h, .int q] s 0 0 (noA)) (F0 m 3 ls []) := by
    intro n_3
    induction n_3 with
    | zero =>
      intro i hi hn hq
      exact absurd hn (by omega)
    | succ n_3 ih_3 =>
      intro i hi hn hq ls hl
      refine lv_iload_n hx hb dX6_charOf_3 rfl (lv_at hl 0 rfl) ?_
      refine lv_bipush (v := 127) hx hb dX6_charOf_4 (by decide) ?_
      refine lv_icmp_ge (tgt := 27) hx hb dX6_charOf_6 (by decide) (fun c_6 => ?_) (fun c_6 => ?_)
      · have hge : 127 ≤ i := nI_le' (by decide) (by omega) c_6
        refine lv_bipush (v := (-4)) hx hb dX6_charOf_27 (by decide) ?_
        exact W.iret (v := (-4)) hx hb hr (fun tt ht hW => ⟨(-4), rfl, by rw [← hq, show i = 127 by omega]; rfl, ht⟩) (fun q hq => absurd hq List.not_mem_nil) dX6_charOf_29
      · have hlt : i < 127 := nI_nle' (by decide) (by omega) c_6
        refine lv_iload_n hx hb dX6_charOf_9 rfl (lv_at hl 0 rfl) ?_
        refine vp_callSi (va_runS (As := [.int (nI i)]) (rest := []) ⟨hx, hb, hml, hown, hts⟩ (k_X6_patternOf l D ct (nI i)) (va_cwS 1 hts gX6_charOf_X6_patternOf rfl rfl rfl (by decide +kernel) ⟨Nat.le_of_ble_eq_true rfl, Nat.le_of_ble_eq_true rfl⟩) ⟨roP.blind, roP.at pw_nil hK hN⟩ rfl rfl hl.1 rfl (lv_room (Nat.le_of_ble_eq_true rfl)) dX6_charOf_10 ⟨Nat.le_of_ble_eq_true rfl, Nat.le_of_ble_eq_true rfl⟩).run (fun r_10 h_10 => ?_)
        obtain rfl : r_10 = pPat (nI i) := h_10
        refine lv_iload_n hx hb dX6_charOf_13 rfl (lv_at hl 2 rfl) ?_
        refine lv_icmp_ne (tgt := 19) hx hb dX6_charOf_14 (by decide) (fun c_14 => ?_) (fun c_14 => ?_)
        · refine lv_iload_n hx hb dX6_charOf_19 rfl (lv_at hl 0 rfl) ?_
          refine lv_iconst (v := 1) hx hb dX6_charOf_20 (by decide) ?_
          refine lv_iadd hx hb dX6_charOf_21 ?_
          refine lv_as (y := nI (i + 1)) (nI_1 i) ?_
          refine lv_i2c (v := nI (i + 1)) hx hb dX6_charOf_22 (i2c_nI (by omega)) ?_
          refine lv_istore_n (lv' := [(2, .int (nI (i + 1))), (0, .ref h), (1, .int q)]) hx hb dX6_charOf_23 rfl hl (by decide) rfl (fun ls hl => ?_)
          refine lv_goto (tgt := 3) hx hb dX6_charOf_24 (by decide) ?_
          exact ih_3 (i + 1) (by omega) (by omega) ((pChr_next hlt c_14).symm.trans hq) ls (lv_sub hl [0, 1, 2] rfl)
        · refine lv_iload_n hx hb dX6_charOf_17 rfl (lv_at hl 0 rfl) ?_
          exact W.iret (v := (nI i)) hx hb hr (fun tt ht hW => ⟨(nI i), rfl, (pChr_hit hlt c_14).symm.trans hq, ht⟩) (fun q hq => absurd hq List.not_mem_nil) dX6_charOf_18
  exact loop_3 (96) 32 (by omega) (by omega) rfl ls (lv_sub hl [0, 1, 2] rfl)

set_option maxHeartbeats 4000000 in
set_option maxRecDepth 100000 in
theorem k_X6_tick (l : Launch) (D : va_G) (ct : Nat → ClassId) (sz : Nat) (h r f : Nat) (tl : List Value) (v : SV) (ok : Inv v) : Met l yX6_tick wsX6_tick ({ frames := 4, cells := 0, slots := 0, locals := 89 }) (muP D ct (mT ct h r f tl v) sz [.ref h]) (muI D ct (mT ct h r f tl v) (mT ct h r f tl (pTick v)) sz (fun r => r = pTickN v)) 0 0 (va_A (mT ct h r f tl v) sz) := by
  refine Met.ofW (cc := cX6_tick) (maxL := 7) (ret := (some .int)) (by decide) rfl ?_
  intro p e s m args below meth c s₁ B hml hv
  obtain ⟨rfl, hsz, hP, hK, hN, hD0⟩ := hv
  have hx := B.exec
  have hb := B.bytes
  have hr := B.returns
  have hts := atoms_spec (ws := wsX6_tick) B.pre
  have hown : s.vm.findClass RX6 = some m.cls := findClass_of_methodNamed B.named
  have hlocks := B.notSynchronized
  subst hsz
  have hD := hD0.self (sz := s.heap.size)
  generalize hAe : va_A (mT ct h r f tl v) s.heap.size = A at hD
  have hA : ∀ q : Nat, s.heap.size ≤ q → A q := fun q h => by rw [← hAe]; exact Or.inr h
  have hS : va_S A s.heap s.heap [] := va_S.rf
  have w_1 := hts (.fieldLink RX6 7 "ScannedDigitsModel" "row" "[I") (List.mem_of_getElem? (i := 1) rfl)
  have w_2 := hts (.fieldLink RX6 13 "ScannedDigitsModel" "flow" "[F") (List.mem_of_getElem? (i := 2) rfl)
  have w_3 := hts (.constantFloat RX6 123 (1075838976)) (List.mem_of_getElem? (i := 3) rfl)
  have w_4 := hts (.constantFloat RX6 124 (1040187392)) (List.mem_of_getElem? (i := 4) rfl)
  have w_5 := hts (.constantFloat RX6 125 (981668463)) (List.mem_of_getElem? (i := 5) rfl)
  have hiX6 : ∀ w ∈ wsX60, w ∈ wsX6_tick := fun w h => (goodIn_r wsX60 [58, 59, 60, 61, 62, 63, 64, 65, 66, 67, 68, 69, 70] (by decide +kernel) (by decide +kernel) w h).1
  have hl := lv_entry ([.ref h]) (n := 7) (Nat.le_of_ble_eq_true rfl)
  rw [lg_entry_eq]
  generalize (lg_sl ([.ref h]) ++ List.replicate (7 - (lg_sl ([.ref h])).length) Slot.unset).toArray = ls at hl ⊢
  have hl : lv_has ls 7 [(0, .ref h)] := hl
  have hs8 := ok.slot8
  have hn8 := ok.n8
  have hsn := ok.slot
  have hfl := fl_ok ok.2.2.2.2.2.2.2 (tickN_n v)
  have cut_127 : ∀ (H : Heap) (locs : List Loc), va_P D vwCl (mT ct h r f tl (pTk2 v)) H → va_D A (mT ct h r f tl (pTk2 v)) → va_S A s.heap H locs → ∀ (ls : Array Slot), lv_has ls 7 [(0, .ref h), (3, .int (pTickN v))] → W p l e (headSpec wsX6_tick ({ frames := 4, cells := 0, slots := 0, locals := 89 })).room s m #[.ref h] below meth c H locs 0 0 (MQ below (muI D ct (mT ct h r f tl v) (mT ct h r f tl (pTick v)) s.heap.size (fun r => r = pTickN v)) #[.ref h] s 0 0 (A)) (F0 m 127 ls []) := by
    intro   H locs hP hD hS ls hl
    refine lv_aload_n hx hb dX6_tick_127 rfl (lv_at hl 0 rfl) ?_
    refine va_get (D := D) (ci := 6) (v := .ref f) (C := RX6) (T := TX6) (N := 13) hx hb hts hiX6 hown hK hP 0 rfl rfl 1 (by decide) w_2 (fun _ h9 => h9) rfl dX6_tick_128 ?_
    refine lv_iconst (v := 0) hx hb dX6_tick_131 (by decide) ?_
    refine lv_aload_n hx hb dX6_tick_132 rfl (lv_at hl 0 rfl) ?_
    refine va_get (D := D) (ci := 6) (v := .ref f) (C := RX6) (T := TX6) (N := 13) hx hb hts hiX6 hown hK hP 0 rfl rfl 1 (by decide) w_2 (fun _ h9 => h9) rfl dX6_tick_133 ?_
    refine lv_iconst (v := 0) hx hb dX6_tick_136 (by decide) ?_
    refine r_fald hx hb hK hP 2 1 rfl rfl (k := 0) (rfl) (by decide) (by decide) dX6_tick_137 ?_
    refine lv_asf (y := v.2 0) (congrFun (pTk2_f v) 0) ?_
    refine lv_iload_n hx hb dX6_tick_138 rfl (lv_at hl 1 rfl) ?_
    refine lv_i2f hx hb dX6_tick_139 ?_
    refine lv_ldcf (v := 1075838976) hx hb hown w_3 dX6_tick_140 ?_
    refine lv_fmul hx hb dX6_tick_142 (hfl.1.1) ?_
    refine lv_aload_n hx hb dX6_tick_143 rfl (lv_at hl 0 rfl) ?_
    refine va_get (D := D) (ci := 6) (v := .ref f) (C := RX6) (T := TX6) (N := 13) hx hb hts hiX6 hown hK hP 0 rfl rfl 1 (by decide) w_2 (fun _ h9 => h9) rfl dX6_tick_144 ?_
    refine lv_iconst (v := 0) hx hb dX6_tick_147 (by decide) ?_
    refine r_fald hx hb hK hP 2 1 rfl rfl (k := 0) (rfl) (by decide) (by decide) dX6_tick_148 ?_
    refine lv_asf (y := v.2 0) (congrFun (pTk2_f v) 0) ?_
    refine lv_fsub hx hb dX6_tick_149 (hfl.1.2.1) ?_
    refine lv_ldcf (v := 1040187392) hx hb hown w_4 dX6_tick_150 ?_
    refine lv_fmul hx hb dX6_tick_152 (hfl.1.2.2.1) ?_
    refine lv_fadd hx hb dX6_tick_153 (hfl.1.2.2.2.1) ?_
    refine r_fast hx hb hK hP hD hS 2 1 rfl rfl (k := 0) (rfl) (by decide) (by decide) dX6_tick_154 (fun H locs hP hD hS => ?_)
    have hP : va_P D vwCl (mT ct h r f tl ((pTk2 v).1, vf_upd v.2 0 (pCur (v.2 0) (pTickN v)))) H := mT_fn rfl (by rw [pTk2_f]; rfl) hP
    have hD : va_D A (mT ct h r f tl ((pTk2 v).1, vf_upd v.2 0 (pCur (v.2 0) (pTickN v)))) := mT_dn hD
    have cut_191 : ∀ (H : Heap) (locs : List Loc), va_P D vwCl (mT ct h r f tl ((pTk2 v).1, vf_upd v.2 0 (pCur (v.2 0) (pTickN v)))) H → va_D A (mT ct h r f tl ((pTk2 v).1, vf_upd v.2 0 (pCur (v.2 0) (pTickN v)))) → va_S A s.heap H locs → ∀ (ls : Array Slot), lv_has ls 7 [(0, .ref h), (3, .int (pTickN v))] → W p l e (headSpec wsX6_tick ({ frames := 4, cells := 0, slots := 0, locals := 89 })).room s m #[.ref h] below meth c H locs 0 0 (MQ below (muI D ct (mT ct h r f tl v) (mT ct h r f tl (pTick v)) s.heap.size (fun r => r = pTickN v)) #[.ref h] s 0 0 (A)) (F0 m 191 ls [.float (pPk (pCur (v.2 0) (pTickN v)) (v.2 1)), .int 1, .ref f]) := by
      intro   H locs hP hD hS ls hl
      refine r_fast hx hb hK hP hD hS 2 1 rfl rfl (k := 1) (rfl) (by decide) (by decide) dX6_tick_191 (fun H locs hP hD hS => ?_)
      have hP : va_P D vwCl (mT ct h r f tl ((pTk2 v).1, vf_upd (vf_upd v.2 0 (pCur (v.2 0) (pTickN v))) 1 (pPk (pCur (v.2 0) (pTickN v)) (v.2 1)))) H := mT_fn rfl rfl hP
      have hD : va_D A (mT ct h r f tl ((pTk2 v).1, vf_upd (vf_upd v.2 0 (pCur (v.2 0) (pTickN v))) 1 (pPk (pCur (v.2 0) (pTickN v)) (v.2 1)))) := mT_dn hD
      refine lv_aload_n hx hb dX6_tick_192 rfl (lv_at hl 0 rfl) ?_
      refine va_get (D := D) (ci := 6) (v := .ref f) (C := RX6) (T := TX6) (N := 13) hx hb hts hiX6 hown hK hP 0 rfl rfl 1 (by decide) w_2 (fun _ h9 => h9) rfl dX6_tick_193 ?_
      refine lv_iconst (v := 2) hx hb dX6_tick_196 (by decide) ?_
      refine lv_aload_n hx hb dX6_tick_197 rfl (lv_at hl 0 rfl) ?_
      refine va_get (D := D) (ci := 6) (v := .ref f) (C := RX6) (T := TX6) (N := 13) hx hb hts hiX6 hown hK hP 0 rfl rfl 1 (by decide) w_2 (fun _ h9 => h9) rfl dX6_tick_198 ?_
      refine lv_iconst (v := 2) hx hb dX6_tick_201 (by decide) ?_
      refine r_fald hx hb hK hP 2 1 rfl rfl (k := 2) (rfl) (by decide) (by decide) dX6_tick_202 ?_
      refine lv_asf (y := v.2 2) (rfl) ?_
      refine lv_aload_n hx hb dX6_tick_203 rfl (lv_at hl 0 rfl) ?_
      refine va_get (D := D) (ci := 6) (v := .ref f) (C := RX6) (T := TX6) (N := 13) hx hb hts hiX6 hown hK hP 0 rfl rfl 1 (by decide) w_2 (fun _ h9 => h9) rfl dX6_tick_204 ?_
      refine lv_iconst (v := 0) hx hb dX6_tick_207 (by decide) ?_
      refine r_fald hx hb hK hP 2 1 rfl rfl (k := 0) (rfl) (by decide) (by decide) dX6_tick_208 ?_
      refine lv_asf (y := pCur (v.2 0) (pTickN v)) (rfl) ?_
      refine lv_ldcf (v := 981668463) hx hb hown w_5 dX6_tick_209 ?_
      refine lv_fmul hx hb dX6_tick_211 (hfl.1.2.2.2.2.1) ?_
      refine lv_fadd hx hb dX6_tick_212 (hfl.1.2.2.2.2.2) ?_
      refine r_fast hx hb hK hP hD hS 2 1 rfl rfl (k := 2) (rfl) (by decide) (by decide) dX6_tick_213 (fun H locs hP hD hS => ?_)
      have hP : va_P D vwCl (mT ct h r f tl ((pTk2 v).1, pFlo v.2 (pTickN v))) H := mT_fn rfl rfl hP
      have hD : va_D A (mT ct h r f tl ((pTk2 v).1, pFlo v.2 (pTickN v))) := mT_dn hD
      refine lv_aload_n hx hb dX6_tick_214 rfl (lv_at hl 0 rfl) ?_
      refine va_get (D := D) (ci := 6) (v := .ref r) (C := RX6) (T := TX6) (N := 13) hx hb hts hiX6 hown hK hP 0 rfl rfl 0 (by decide) w_1 (fun _ h9 => h9) rfl dX6_tick_215 ?_
      refine lv_iconst (v := 1) hx hb dX6_tick_218 (by decide) ?_
      refine lv_dup2_11 hx hb dX6_tick_219 rfl rfl ?_
      refine r_iald hx hb hK hP 1 0 rfl rfl (k := 1) (rfl) (by decide) (by decide) dX6_tick_220 ?_
      refine lv_as (y := (pTk2 v).1 0 1) (row_0 _ (by decide)) ?_
      refine lv_iconst (v := 1) hx hb dX6_tick_221 (by decide) ?_
      refine lv_iadd hx hb dX6_tick_222 ?_
      refine r_iast hx hb hK hP hD hS 1 0 rfl rfl (k := 1) (rfl) (by decide) (by decide) dX6_tick_223 (fun H locs hP hD hS => ?_)
      have hP : va_P D vwCl (mT ct h r f tl (va_up (pTk2 v).1 0 (upd ((pTk2 v).1 0) 1 ((pTk2 v).1 0 1 + 1)), pFlo v.2 (pTickN v))) H := mT_fn (row_up0 (((pTk2 v).1, pFlo v.2 (pTickN v)) : SV) (by decide) _) rfl hP
      have hD : va_D A (mT ct h r f tl (va_up (pTk2 v).1 0 (upd ((pTk2 v).1 0) 1 ((pTk2 v).1 0 1 + 1)), pFlo v.2 (pTickN v))) := mT_dn hD
      refine lv_aload_n hx hb dX6_tick_224 rfl (lv_at hl 0 rfl) ?_
      refine va_get (D := D) (ci := 6) (v := .ref r) (C := RX6) (T := TX6) (N := 13) hx hb hts hiX6 hown hK hP 0 rfl rfl 0 (by decide) w_1 (fun _ h9 => h9) rfl dX6_tick_225 ?_
      refine lv_iconst (v := 3) hx hb dX6_tick_228 (by decide) ?_
      refine lv_dup2_11 hx hb dX6_tick_229 rfl rfl ?_
      refine r_iald hx hb hK hP 1 0 rfl rfl (k := 3) (rfl) (by decide) (by decide) dX6_tick_230 ?_
      refine lv_as (y := (pTk2 v).1 0 3) (row_0 _ (by decide)) ?_
      refine lv_iconst (v := 1) hx hb dX6_tick_231 (by decide) ?_
      refine lv_iadd hx hb dX6_tick_232 ?_
      refine r_iast hx hb hK hP hD hS 1 0 rfl rfl (k := 3) (rfl) (by decide) (by decide) dX6_tick_233 (fun H locs hP hD hS => ?_)
      have hP : va_P D vwCl (mT ct h r f tl (pTk3 v)) H := mT_fn (row_up0C (((pTk2 v).1, pFlo v.2 (pTickN v)) : SV) (upd ((pTk2 v).1 0) 1 ((pTk2 v).1 0 1 + 1)) (by decide) _) rfl hP
      have hD : va_D A (mT ct h r f tl (pTk3 v)) := mT_dn hD
      refine lv_aload_n hx hb dX6_tick_234 rfl (lv_at hl 0 rfl) ?_
      refine va_get (D := D) (ci := 6) (v := .ref r) (C := RX6) (T := TX6) (N := 13) hx hb hts hiX6 hown hK hP 0 rfl rfl 0 (by decide) w_1 (fun _ h9 => h9) rfl dX6_tick_235 ?_
      refine lv_iconst (v := 3) hx hb dX6_tick_238 (by decide) ?_
      refine r_iald hx hb hK hP 1 0 rfl rfl (k := 3) (rfl) (by decide) (by decide) dX6_tick_239 ?_
      refine lv_as (y := (pTk3 v).1 0 3) (row_0 (pTk3 v) (by decide)) ?_
      refine lv_aload_n hx hb dX6_tick_240 rfl (lv_at hl 0 rfl) ?_
      refine vp_callSi (va_runV (As := []) (rest := [.int ((pTk3 v).1 0 3)]) ⟨hx, hb, hml, hown, hts⟩ (k_X6_frameLength l D ct h r (.ref f :: tl) (pTk3 v) (by rw [pTk3_n]; exact hn8) (by rw [pTk3_n, pTk3_0]; exact ok.cnt)) (cwV 0 hts gX6_tick_X6_frameLength rfl rfl rfl (by decide +kernel) ⟨Nat.le_of_ble_eq_true rfl, Nat.le_of_ble_eq_true rfl⟩) ⟨roP.blind, va_recv hK (mT_R hP) (ci := 6) (q0 := 0) rfl rfl, roP.at (mT_R hP) hK hN⟩ rfl rfl hl.1 rfl (lv_room (Nat.le_of_ble_eq_true rfl)) dX6_tick_241 ⟨Nat.le_of_ble_eq_true rfl, Nat.le_of_ble_eq_true rfl⟩).run (fun r_241 h_241 => ?_)
      obtain rfl : r_241 = pLen (pTk3 v) := h_241
      refine lv_as (y := pLen v) (pTk3_len ok) ?_
      refine lv_icmp_ne (tgt := 251) hx hb dX6_tick_244 (by decide) (fun c_244 => ?_) (fun c_244 => ?_)
      · refine lv_iload_n hx hb dX6_tick_251 rfl (lv_at hl 1 rfl) ?_
        have hP9 : va_P D vwCl (mT ct h r f tl (pTick v)) H := by unfold pTick; rw [if_neg c_244]; exact hP
        have hD9 : va_D A (mT ct h r f tl (pTick v)) := mT_dn hD
        subst hAe
        exact W.iret (v := (pTickN v)) hx hb hr (fun tt ht hW => ⟨⟨(pTickN v), (), rfl, rfl, muE.of (ct := ct) hP9 hD9 ht⟩, hS.F ht⟩) hS.2.2 dX6_tick_252
      · refine lv_aload_n hx hb dX6_tick_247 rfl (lv_at hl 0 rfl) ?_
        have hFc_248 := w_free (wc := mR ct h r (.ref f :: tl) (pTk3 v)) hD (.refl (mT ct h r f tl (pTk3 v))) hS hA
        refine va_callv (va_runV (As := []) (rest := []) ⟨hx, hb, hml, hown, hts⟩ (k_X6_endFrame l D ct _ h r (.ref f :: tl) (pTk3 v)) (cwV 0 hts gX6_tick_X6_endFrame rfl rfl rfl (by decide +kernel) ⟨Nat.le_of_ble_eq_true rfl, Nat.le_of_ble_eq_true rfl⟩) ⟨muP.blind, va_recv hK (mT_R hP) (ci := 6) (q0 := 0) rfl rfl, muP.at (mT_R hP) (mT_D hD) hK hN⟩ rfl rfl hl.1 rfl (lv_room (Nat.le_of_ble_eq_true rfl)) dX6_tick_248 ⟨Nat.le_of_ble_eq_true rfl, Nat.le_of_ble_eq_true rfl⟩) hS (fun q _ h => hFc_248 q h) hFc_248 (fun uu tt H1 locs ht hvm hw hB hz1 hk1 hS => ?_)
        obtain ⟨hP, hD⟩ := muE.join (ws' := mT ct h r f tl (pEnd (pTk3 v))) hP hD (.refl (mT ct h r f tl (pTk3 v))) (.refl (mT ct h r f tl (pEnd (pTk3 v)))) hk1 hFc_248 ht hB
        generalize H1 = H at hP hS ⊢
        refine lv_iload_n hx hb dX6_tick_251 rfl (lv_at hl 1 rfl) ?_
        have hP9 : va_P D vwCl (mT ct h r f tl (pTick v)) H := by unfold pTick; rw [if_pos c_244]; exact hP
        have hD9 : va_D A (mT ct h r f tl (pTick v)) := mT_dn hD
        subst hAe
        exact W.iret (v := (pTickN v)) hx hb hr (fun tt ht hW => ⟨⟨(pTickN v), (), rfl, rfl, muE.of (ct := ct) hP9 hD9 ht⟩, hS.F ht⟩) hS.2.2 dX6_tick_252
    refine lv_aload_n hx hb dX6_tick_155 rfl (lv_at hl 0 rfl) ?_
    refine va_get (D := D) (ci := 6) (v := .ref f) (C := RX6) (T := TX6) (N := 13) hx hb hts hiX6 hown hK hP 0 rfl rfl 1 (by decide) w_2 (fun _ h9 => h9) rfl dX6_tick_156 ?_
    refine lv_iconst (v := 1) hx hb dX6_tick_159 (by decide) ?_
    refine lv_aload_n hx hb dX6_tick_160 rfl (lv_at hl 0 rfl) ?_
    refine va_get (D := D) (ci := 6) (v := .ref f) (C := RX6) (T := TX6) (N := 13) hx hb hts hiX6 hown hK hP 0 rfl rfl 1 (by decide) w_2 (fun _ h9 => h9) rfl dX6_tick_161 ?_
    refine lv_iconst (v := 0) hx hb dX6_tick_164 (by decide) ?_
    refine r_fald hx hb hK hP 2 1 rfl rfl (k := 0) (rfl) (by decide) (by decide) dX6_tick_165 ?_
    refine lv_asf (y := pCur (v.2 0) (pTickN v)) (rfl) ?_
    refine lv_aload_n hx hb dX6_tick_166 rfl (lv_at hl 0 rfl) ?_
    refine va_get (D := D) (ci := 6) (v := .ref f) (C := RX6) (T := TX6) (N := 13) hx hb hts hiX6 hown hK hP 0 rfl rfl 1 (by decide) w_2 (fun _ h9 => h9) rfl dX6_tick_167 ?_
    refine lv_iconst (v := 1) hx hb dX6_tick_170 (by decide) ?_
    refine r_fald hx hb hK hP 2 1 rfl rfl (k := 1) (rfl) (by decide) (by decide) dX6_tick_171 ?_
    refine lv_asf (y := v.2 1) (rfl) ?_
    refine lv_fcmp hx hb dX6_tick_172 ?_
    refine lv_if_le (tgt := 185) hx hb dX6_tick_173 (by decide) (fun c_173 => ?_) (fun c_173 => ?_)
    · refine lv_aload_n hx hb dX6_tick_185 rfl (lv_at hl 0 rfl) ?_
      refine va_get (D := D) (ci := 6) (v := .ref f) (C := RX6) (T := TX6) (N := 13) hx hb hts hiX6 hown hK hP 0 rfl rfl 1 (by decide) w_2 (fun _ h9 => h9) rfl dX6_tick_186 ?_
      refine lv_iconst (v := 1) hx hb dX6_tick_189 (by decide) ?_
      refine r_fald hx hb hK hP 2 1 rfl rfl (k := 1) (rfl) (by decide) (by decide) dX6_tick_190 ?_
      refine lv_asf (y := v.2 1) (rfl) ?_
      refine lv_asf (y := pPk (pCur (v.2 0) (pTickN v)) (v.2 1)) ((if_pos c_173).symm) ?_
      exact cut_191  _ _ hP hD hS ls (lv_sub hl [0, 1] rfl)
    · refine lv_aload_n hx hb dX6_tick_176 rfl (lv_at hl 0 rfl) ?_
      refine va_get (D := D) (ci := 6) (v := .ref f) (C := RX6) (T := TX6) (N := 13) hx hb hts hiX6 hown hK hP 0 rfl rfl 1 (by decide) w_2 (fun _ h9 => h9) rfl dX6_tick_177 ?_
      refine lv_iconst (v := 0) hx hb dX6_tick_180 (by decide) ?_
      refine r_fald hx hb hK hP 2 1 rfl rfl (k := 0) (rfl) (by decide) (by decide) dX6_tick_181 ?_
      refine lv_asf (y := pCur (v.2 0) (pTickN v)) (rfl) ?_
      refine lv_goto (tgt := 191) hx hb dX6_tick_182 (by decide) ?_
      refine lv_asf (y := pPk (pCur (v.2 0) (pTickN v)) (v.2 1)) ((if_neg c_173).symm) ?_
      exact cut_191  _ _ hP hD hS ls (lv_sub hl [0, 1] rfl)
  refine lv_aload_n hx hb dX6_tick_0 rfl (lv_at hl 0 rfl) ?_
  refine vp_callSi (va_runV (As := []) (rest := []) ⟨hx, hb, hml, hown, hts⟩ (k_X6_slotNow l D ct h r (.ref f :: tl) v ok) (cwV 0 hts gX6_tick_X6_slotNow rfl rfl rfl (by decide +kernel) ⟨Nat.le_of_ble_eq_true rfl, Nat.le_of_ble_eq_true rfl⟩) ⟨roP.blind, va_recv hK (mT_R hP) (ci := 6) (q0 := 0) rfl rfl, roP.at (mT_R hP) hK hN⟩ rfl rfl hl.1 rfl (lv_room (Nat.le_of_ble_eq_true rfl)) dX6_tick_1 ⟨Nat.le_of_ble_eq_true rfl, Nat.le_of_ble_eq_true rfl⟩).run (fun r_1 h_1 => ?_)
  obtain rfl : r_1 = nI (pSlot v) := h_1
  refine lv_istore_n (lv' := [(1, .int (nI (pSlot v))), (0, .ref h)]) hx hb dX6_tick_4 rfl hl (by decide) rfl (fun ls hl => ?_)
  refine lv_aload_n hx hb dX6_tick_5 rfl (lv_at hl 1 rfl) ?_
  refine lv_iload_n hx hb dX6_tick_6 rfl (lv_at hl 0 rfl) ?_
  refine vp_callSi (va_runV (As := [.int (nI (pSlot v))]) (rest := []) ⟨hx, hb, hml, hown, hts⟩ (k_X6_litNow l D ct h r (.ref f :: tl) v (pSlot v) ok.slot ok) (cwV 1 hts gX6_tick_X6_litNow rfl rfl rfl (by decide +kernel) ⟨Nat.le_of_ble_eq_true rfl, Nat.le_of_ble_eq_true rfl⟩) ⟨roP.blind, va_recv hK (mT_R hP) (ci := 6) (q0 := 0) rfl rfl, roP.at (mT_R hP) hK hN⟩ rfl rfl hl.1 rfl (lv_room (Nat.le_of_ble_eq_true rfl)) dX6_tick_7 ⟨Nat.le_of_ble_eq_true rfl, Nat.le_of_ble_eq_true rfl⟩).run (fun r_7 h_7 => ?_)
  obtain rfl : r_7 = pLit v (pSlot v) := h_7
  refine lv_istore_n (lv' := [(2, .int (pLit v (pSlot v))), (1, .int (nI (pSlot v))), (0, .ref h)]) hx hb dX6_tick_10 rfl hl (by decide) rfl (fun ls hl => ?_)
  refine lv_iconst (v := 0) hx hb dX6_tick_11 (by decide) ?_
  refine lv_istore_n (lv' := [(3, .int 0), (2, .int (pLit v (pSlot v))), (1, .int (nI (pSlot v))), (0, .ref h)]) hx hb dX6_tick_12 rfl hl (by decide) rfl (fun ls hl => ?_)
  refine lv_aload_n hx hb dX6_tick_13 rfl (lv_at hl 3 rfl) ?_
  refine lv_iload_n hx hb dX6_tick_14 rfl (lv_at hl 2 rfl) ?_
  refine vp_callSi (va_runV (As := [.int (nI (pSlot v))]) (rest := []) ⟨hx, hb, hml, hown, hts⟩ (k_X6_isDriven l D ct h r (.ref f :: tl) v (pSlot v) ok.slot ok) (cwV 1 hts gX6_tick_X6_isDriven rfl rfl rfl (by decide +kernel) ⟨Nat.le_of_ble_eq_true rfl, Nat.le_of_ble_eq_true rfl⟩) ⟨roP.blind, va_recv hK (mT_R hP) (ci := 6) (q0 := 0) rfl rfl, roP.at (mT_R hP) hK hN⟩ rfl rfl hl.1 rfl (lv_room (Nat.le_of_ble_eq_true rfl)) dX6_tick_15 ⟨Nat.le_of_ble_eq_true rfl, Nat.le_of_ble_eq_true rfl⟩).run (fun r_15 h_15 => ?_)
  obtain rfl : r_15 = if pDrv v (pSlot v) then 1 else 0 := h_15
  have cut_45 : ∀ (H : Heap) (locs : List Loc), va_P D vwCl (mT ct h r f tl (pTk1 v)) H → va_D A (mT ct h r f tl (pTk1 v)) → va_S A s.heap H locs → ∀ (ls : Array Slot), lv_has ls 7 [(0, .ref h), (1, .int (nI (pSlot v))), (2, .int (pLit v (pSlot v))), (3, .int 0)] → W p l e (headSpec wsX6_tick ({ frames := 4, cells := 0, slots := 0, locals := 89 })).room s m #[.ref h] below meth c H locs 0 0 (MQ below (muI D ct (mT ct h r f tl v) (mT ct h r f tl (pTick v)) s.heap.size (fun r => r = pTickN v)) #[.ref h] s 0 0 (A)) (F0 m 45 ls []) := by
    intro   H locs hP hD hS ls hl
    refine lv_iconst (v := 0) hx hb dX6_tick_45 (by decide) ?_
    refine lv_istore (lv' := [(4, .int 0), (0, .ref h), (1, .int (nI (pSlot v))), (2, .int (pLit v (pSlot v))), (3, .int 0)]) hx hb dX6_tick_46 hl (by decide) rfl (fun ls hl => ?_)
    have loop_48 : ∀ (n_48 : Nat) (i : Nat) (x : Int32), (i ≤ nOf v) → (nOf v + 1 ≤ i + n_48) → (x = if pSlot v < i then pTickN v else 0) → ∀ (H : Heap) (locs : List Loc), va_P D vwCl (mT ct h r f tl (pAll (pTk1 v) (pSlot v) (pLit v (pSlot v)) i)) H → va_D A (mT ct h r f tl (pAll (pTk1 v) (pSlot v) (pLit v (pSlot v)) i)) → va_S A s.heap H locs → ∀ (ls : Array Slot), lv_has ls 7 [(0, .ref h), (1, .int (nI (pSlot v))), (2, .int (pLit v (pSlot v))), (3, .int x), (4, .int (nI i))] → W p l e (headSpec wsX6_tick ({ frames := 4, cells := 0, slots := 0, locals := 89 })).room s m #[.ref h] below meth c H locs 0 0 (MQ below (muI D ct (mT ct h r f tl v) (mT ct h r f tl (pTick v)) s.heap.size (fun r => r = pTickN v)) #[.ref h] s 0 0 (A)) (F0 m 48 ls []) := by
      intro n_48
      induction n_48 with
      | zero =>
        intro i x hi hn hx3
        exact absurd hn (by omega)
      | succ n_48 ih_48 =>
        intro i x hi hn hx3 H locs hP hD hS ls hl
        refine lv_iload hx hb dX6_tick_48 (lv_at hl 4 rfl) ?_
        refine lv_aload_n hx hb dX6_tick_50 rfl (lv_at hl 0 rfl) ?_
        refine va_get (D := D) (ci := 6) (v := .ref r) (C := RX6) (T := TX6) (N := 13) hx hb hts hiX6 hown hK hP 0 rfl rfl 0 (by decide) w_1 (fun _ h9 => h9) rfl dX6_tick_51 ?_
        refine lv_iconst (v := 0) hx hb dX6_tick_54 (by decide) ?_
        refine r_iald hx hb hK hP 1 0 rfl rfl (k := 0) (rfl) (by decide) (by decide) dX6_tick_55 ?_
        refine lv_as (y := nI (nOf v)) ((row_0 _ (by decide)).trans (by rw [pAll_lo _ _ _ (by decide), pTk1_0 v (by decide)]; exact ok.cnt)) ?_
        refine lv_icmp_ge (tgt := 127) hx hb dX6_tick_56 (by decide) (fun c_56 => ?_) (fun c_56 => ?_)
        · have hge : nOf v ≤ i := nI_le' (by omega) (by omega) c_56
          obtain rfl : i = nOf v := by omega
          obtain rfl : x = pTickN v := by rw [hx3, if_pos (by omega)]
          have hP : va_P D vwCl (mT ct h r f tl (pTk2 v)) H := hP
          have hD : va_D A (mT ct h r f tl (pTk2 v)) := hD
          exact cut_127  _ _ hP hD hS ls (lv_sub hl [0, 3] rfl)
        · have hlt : i < nOf v := nI_nle' (by omega) (by omega) c_56
          refine lv_iconst (v := 0) hx hb dX6_tick_59 (by decide) ?_
          refine lv_istore (lv' := [(5, .int 0), (0, .ref h), (1, .int (nI (pSlot v))), (2, .int (pLit v (pSlot v))), (3, .int x), (4, .int (nI i))]) hx hb dX6_tick_60 hl (by decide) rfl (fun ls hl => ?_)
          have loop_62 : ∀ (n_62 : Nat) (k : Nat) (y : Int32), (k ≤ 8) → (9 ≤ k + n_62) → (y = x + (if i = pSlot v then pBro (pLit v (pSlot v)) k else 0)) → ∀ (H : Heap) (locs : List Loc), va_P D vwCl (mT ct h r f tl (pDigK (pAll (pTk1 v) (pSlot v) (pLit v (pSlot v)) i) (if i = pSlot v then pLit v (pSlot v) else 0) i k)) H → va_D A (mT ct h r f tl (pDigK (pAll (pTk1 v) (pSlot v) (pLit v (pSlot v)) i) (if i = pSlot v then pLit v (pSlot v) else 0) i k)) → va_S A s.heap H locs → ∀ (ls : Array Slot), lv_has ls 7 [(0, .ref h), (1, .int (nI (pSlot v))), (2, .int (pLit v (pSlot v))), (3, .int y), (4, .int (nI i)), (5, .int (nI k))] → W p l e (headSpec wsX6_tick ({ frames := 4, cells := 0, slots := 0, locals := 89 })).room s m #[.ref h] below meth c H locs 0 0 (MQ below (muI D ct (mT ct h r f tl v) (mT ct h r f tl (pTick v)) s.heap.size (fun r => r = pTickN v)) #[.ref h] s 0 0 (A)) (F0 m 62 ls []) := by
            intro n_62
            induction n_62 with
            | zero =>
              intro k y hk hn2 hy
              exact absurd hn2 (by omega)
            | succ n_62 ih_62 =>
              intro k y hk hn2 hy H locs hP hD hS ls hl
              refine lv_iload hx hb dX6_tick_62 (lv_at hl 5 rfl) ?_
              refine lv_bipush (v := 8) hx hb dX6_tick_64 (by decide) ?_
              refine lv_icmp_ge (tgt := 121) hx hb dX6_tick_66 (by decide) (fun c_66 => ?_) (fun c_66 => ?_)
              · have hge2 : 8 ≤ k := nI_le' (by decide) (by omega) c_66
                refine lv_iinc (v := nI (i + 1)) (lv' := [(4, .int (nI (i + 1))), (0, .ref h), (1, .int (nI (pSlot v))), (2, .int (pLit v (pSlot v))), (3, .int y), (5, .int (nI k))]) hx hb dX6_tick_121 hl (k := 4) rfl ((nI_succ i).symm) (by decide) rfl (fun ls hl => ?_)
                refine lv_goto (tgt := 48) hx hb dX6_tick_124 (by decide) ?_
                exact ih_48 (i + 1) y (by omega) (by omega) (tk_cnt hx3 (by rw [hy, show k = 8 by omega])) _ _ (mT_fn (congrArg rowOf (by rw [show k = 8 by omega, pAll_s])) (by rw [show k = 8 by omega, pAll_s]) hP) (mT_dn hD) hS ls (lv_sub hl [1, 2, 3, 4, 0] rfl)
              · have hlt2 : k < 8 := nI_nle' (by decide) (by omega) c_66
                have cut_90 : ∀ (b : Bool), (b = decide (bit (if i = pSlot v then pLit v (pSlot v) else 0) k = 1)) → ∀ (H : Heap) (locs : List Loc), va_P D vwCl (mT ct h r f tl (pDigK (pAll (pTk1 v) (pSlot v) (pLit v (pSlot v)) i) (if i = pSlot v then pLit v (pSlot v) else 0) i k)) H → va_D A (mT ct h r f tl (pDigK (pAll (pTk1 v) (pSlot v) (pLit v (pSlot v)) i) (if i = pSlot v then pLit v (pSlot v) else 0) i k)) → va_S A s.heap H locs → ∀ (ls : Array Slot), lv_has ls 7 [(0, .ref h), (1, .int (nI (pSlot v))), (2, .int (pLit v (pSlot v))), (3, .int y), (4, .int (nI i)), (5, .int (nI k))] → W p l e (headSpec wsX6_tick ({ frames := 4, cells := 0, slots := 0, locals := 89 })).room s m #[.ref h] below meth c H locs 0 0 (MQ below (muI D ct (mT ct h r f tl v) (mT ct h r f tl (pTick v)) s.heap.size (fun r => r = pTickN v)) #[.ref h] s 0 0 (A)) (F0 m 90 ls [.int (if b = true then 1 else 0)]) := by
                  intro b hb2 H locs hP hD hS ls hl
                  refine lv_istore (lv' := [(6, .int (if b = true then 1 else 0)), (0, .ref h), (1, .int (nI (pSlot v))), (2, .int (pLit v (pSlot v))), (3, .int y), (4, .int (nI i)), (5, .int (nI k))]) hx hb dX6_tick_90 hl (by decide) rfl (fun ls hl => ?_)
                  refine lv_iload_n hx hb dX6_tick_92 rfl (lv_at hl 4 rfl) ?_
                  refine lv_iload hx hb dX6_tick_93 (lv_at hl 0 rfl) ?_
                  refine lv_if_eq (tgt := 102) hx hb dX6_tick_95 (by decide) (fun c_95 => ?_) (fun c_95 => ?_)
                  · refine lv_iconst (v := 0) hx hb dX6_tick_102 (by decide) ?_
                    refine lv_iadd hx hb dX6_tick_103 ?_
                    refine lv_as (y := y + (if b = true then 1 else 0)) (by rw [c_95]) ?_
                    refine lv_istore_n (lv' := [(3, .int (y + (if b = true then 1 else 0))), (6, .int (if b = true then 1 else 0)), (0, .ref h), (1, .int (nI (pSlot v))), (2, .int (pLit v (pSlot v))), (4, .int (nI i)), (5, .int (nI k))]) hx hb dX6_tick_104 rfl hl (by decide) rfl (fun ls hl => ?_)
                    refine lv_aload_n hx hb dX6_tick_105 rfl (lv_at hl 2 rfl) ?_
                    refine lv_iload hx hb dX6_tick_106 (lv_at hl 5 rfl) ?_
                    refine lv_iload hx hb dX6_tick_108 (lv_at hl 6 rfl) ?_
                    refine lv_iload hx hb dX6_tick_110 (lv_at hl 1 rfl) ?_
                    have hFc_112 := w_free (wc := mR ct h r (.ref f :: tl) (pDigK (pAll (pTk1 v) (pSlot v) (pLit v (pSlot v)) i) (if i = pSlot v then pLit v (pSlot v) else 0) i k)) hD (.refl (mT ct h r f tl (pDigK (pAll (pTk1 v) (pSlot v) (pLit v (pSlot v)) i) (if i = pSlot v then pLit v (pSlot v) else 0) i k))) hS hA
                    refine va_callv (va_runV (As := [.int (nI i), .int (nI k), .int (if b = true then 1 else 0)]) (rest := []) ⟨hx, hb, hml, hown, hts⟩ (k_X6_light l D ct _ h r (.ref f :: tl) (pDigK (pAll (pTk1 v) (pSlot v) (pLit v (pSlot v)) i) (if i = pSlot v then pLit v (pSlot v) else 0) i k) i k (by omega) hlt2 b (by rw [tk_dec]; exact ok.dec)) (cwV 3 hts gX6_tick_X6_light rfl rfl rfl (by decide +kernel) ⟨Nat.le_of_ble_eq_true rfl, Nat.le_of_ble_eq_true rfl⟩) ⟨muP.blind, va_recv hK (mT_R hP) (ci := 6) (q0 := 0) rfl rfl, muP.at (mT_R hP) (mT_D hD) hK hN⟩ rfl rfl hl.1 rfl (lv_room (Nat.le_of_ble_eq_true rfl)) dX6_tick_112 ⟨Nat.le_of_ble_eq_true rfl, Nat.le_of_ble_eq_true rfl⟩) hS (fun q _ h => hFc_112 q h) hFc_112 (fun uu tt H1 locs ht hvm hw hB hz1 hk1 hS => ?_)
                    obtain ⟨hP, hD⟩ := muE.join (ws' := mT ct h r f tl (sTri (pDigK (pAll (pTk1 v) (pSlot v) (pLit v (pSlot v)) i) (if i = pSlot v then pLit v (pSlot v) else 0) i k) i (dStep b ((pDigK (pAll (pTk1 v) (pSlot v) (pLit v (pSlot v)) i) (if i = pSlot v then pLit v (pSlot v) else 0) i k).1 3 0) ((pDigK (pAll (pTk1 v) (pSlot v) (pLit v (pSlot v)) i) (if i = pSlot v then pLit v (pSlot v) else 0) i k).1 3 2) k (dTri (pDigK (pAll (pTk1 v) (pSlot v) (pLit v (pSlot v)) i) (if i = pSlot v then pLit v (pSlot v) else 0) i k) i)))) hP hD (.refl (mT ct h r f tl (pDigK (pAll (pTk1 v) (pSlot v) (pLit v (pSlot v)) i) (if i = pSlot v then pLit v (pSlot v) else 0) i k))) (.refl (mT ct h r f tl (sTri (pDigK (pAll (pTk1 v) (pSlot v) (pLit v (pSlot v)) i) (if i = pSlot v then pLit v (pSlot v) else 0) i k) i (dStep b ((pDigK (pAll (pTk1 v) (pSlot v) (pLit v (pSlot v)) i) (if i = pSlot v then pLit v (pSlot v) else 0) i k).1 3 0) ((pDigK (pAll (pTk1 v) (pSlot v) (pLit v (pSlot v)) i) (if i = pSlot v then pLit v (pSlot v) else 0) i k).1 3 2) k (dTri (pDigK (pAll (pTk1 v) (pSlot v) (pLit v (pSlot v)) i) (if i = pSlot v then pLit v (pSlot v) else 0) i k) i))))) hk1 hFc_112 ht hB
                    generalize H1 = H at hP hS ⊢
                    refine lv_iinc (v := nI (k + 1)) (lv' := [(5, .int (nI (k + 1))), (3, .int (y + (if b = true then 1 else 0))), (6, .int (if b = true then 1 else 0)), (0, .ref h), (1, .int (nI (pSlot v))), (2, .int (pLit v (pSlot v))), (4, .int (nI i))]) hx hb dX6_tick_115 hl (k := 6) rfl ((nI_succ k).symm) (by decide) rfl (fun ls hl => ?_)
                    refine lv_goto (tgt := 62) hx hb dX6_tick_118 (by decide) ?_
                    exact ih_62 (k + 1) (y + (if b = true then 1 else 0)) (by omega) (by omega) (tk_cnt2 hy hb2) _ _ (mT_fn (by rw [pDigK_s _ _ i k b hb2]) (by rw [pDigK_s _ _ i k b hb2]) hP) (mT_dn hD) hS ls (lv_sub hl [3, 4, 5, 1, 6, 0] rfl)
                  · refine lv_iconst (v := 1) hx hb dX6_tick_98 (by decide) ?_
                    refine lv_goto (tgt := 103) hx hb dX6_tick_99 (by decide) ?_
                    refine lv_iadd hx hb dX6_tick_103 ?_
                    refine lv_as (y := y + (if b = true then 1 else 0)) (by rw [show (if b = true then (1 : Int32) else 0) = 1 from (if_pos (Classical.byContradiction (fun z => c_95 (if_neg z))))]) ?_
                    refine lv_istore_n (lv' := [(3, .int (y + (if b = true then 1 else 0))), (6, .int (if b = true then 1 else 0)), (0, .ref h), (1, .int (nI (pSlot v))), (2, .int (pLit v (pSlot v))), (4, .int (nI i)), (5, .int (nI k))]) hx hb dX6_tick_104 rfl hl (by decide) rfl (fun ls hl => ?_)
                    refine lv_aload_n hx hb dX6_tick_105 rfl (lv_at hl 2 rfl) ?_
                    refine lv_iload hx hb dX6_tick_106 (lv_at hl 5 rfl) ?_
                    refine lv_iload hx hb dX6_tick_108 (lv_at hl 6 rfl) ?_
                    refine lv_iload hx hb dX6_tick_110 (lv_at hl 1 rfl) ?_
                    have hFc_112 := w_free (wc := mR ct h r (.ref f :: tl) (pDigK (pAll (pTk1 v) (pSlot v) (pLit v (pSlot v)) i) (if i = pSlot v then pLit v (pSlot v) else 0) i k)) hD (.refl (mT ct h r f tl (pDigK (pAll (pTk1 v) (pSlot v) (pLit v (pSlot v)) i) (if i = pSlot v then pLit v (pSlot v) else 0) i k))) hS hA
                    refine va_callv (va_runV (As := [.int (nI i), .int (nI k), .int (if b = true then 1 else 0)]) (rest := []) ⟨hx, hb, hml, hown, hts⟩ (k_X6_light l D ct _ h r (.ref f :: tl) (pDigK (pAll (pTk1 v) (pSlot v) (pLit v (pSlot v)) i) (if i = pSlot v then pLit v (pSlot v) else 0) i k) i k (by omega) hlt2 b (by rw [tk_dec]; exact ok.dec)) (cwV 3 hts gX6_tick_X6_light rfl rfl rfl (by decide +kernel) ⟨Nat.le_of_ble_eq_true rfl, Nat.le_of_ble_eq_true rfl⟩) ⟨muP.blind, va_recv hK (mT_R hP) (ci := 6) (q0 := 0) rfl rfl, muP.at (mT_R hP) (mT_D hD) hK hN⟩ rfl rfl hl.1 rfl (lv_room (Nat.le_of_ble_eq_true rfl)) dX6_tick_112 ⟨Nat.le_of_ble_eq_true rfl, Nat.le_of_ble_eq_true rfl⟩) hS (fun q _ h => hFc_112 q h) hFc_112 (fun uu tt H1 locs ht hvm hw hB hz1 hk1 hS => ?_)
                    obtain ⟨hP, hD⟩ := muE.join (ws' := mT ct h r f tl (sTri (pDigK (pAll (pTk1 v) (pSlot v) (pLit v (pSlot v)) i) (if i = pSlot v then pLit v (pSlot v) else 0) i k) i (dStep b ((pDigK (pAll (pTk1 v) (pSlot v) (pLit v (pSlot v)) i) (if i = pSlot v then pLit v (pSlot v) else 0) i k).1 3 0) ((pDigK (pAll (pTk1 v) (pSlot v) (pLit v (pSlot v)) i) (if i = pSlot v then pLit v (pSlot v) else 0) i k).1 3 2) k (dTri (pDigK (pAll (pTk1 v) (pSlot v) (pLit v (pSlot v)) i) (if i = pSlot v then pLit v (pSlot v) else 0) i k) i)))) hP hD (.refl (mT ct h r f tl (pDigK (pAll (pTk1 v) (pSlot v) (pLit v (pSlot v)) i) (if i = pSlot v then pLit v (pSlot v) else 0) i k))) (.refl (mT ct h r f tl (sTri (pDigK (pAll (pTk1 v) (pSlot v) (pLit v (pSlot v)) i) (if i = pSlot v then pLit v (pSlot v) else 0) i k) i (dStep b ((pDigK (pAll (pTk1 v) (pSlot v) (pLit v (pSlot v)) i) (if i = pSlot v then pLit v (pSlot v) else 0) i k).1 3 0) ((pDigK (pAll (pTk1 v) (pSlot v) (pLit v (pSlot v)) i) (if i = pSlot v then pLit v (pSlot v) else 0) i k).1 3 2) k (dTri (pDigK (pAll (pTk1 v) (pSlot v) (pLit v (pSlot v)) i) (if i = pSlot v then pLit v (pSlot v) else 0) i k) i))))) hk1 hFc_112 ht hB
                    generalize H1 = H at hP hS ⊢
                    refine lv_iinc (v := nI (k + 1)) (lv' := [(5, .int (nI (k + 1))), (3, .int (y + (if b = true then 1 else 0))), (6, .int (if b = true then 1 else 0)), (0, .ref h), (1, .int (nI (pSlot v))), (2, .int (pLit v (pSlot v))), (4, .int (nI i))]) hx hb dX6_tick_115 hl (k := 6) rfl ((nI_succ k).symm) (by decide) rfl (fun ls hl => ?_)
                    refine lv_goto (tgt := 62) hx hb dX6_tick_118 (by decide) ?_
                    exact ih_62 (k + 1) (y + (if b = true then 1 else 0)) (by omega) (by omega) (tk_cnt2 hy hb2) _ _ (mT_fn (by rw [pDigK_s _ _ i k b hb2]) (by rw [pDigK_s _ _ i k b hb2]) hP) (mT_dn hD) hS ls (lv_sub hl [3, 4, 5, 1, 6, 0] rfl)
                refine lv_iload hx hb dX6_tick_69 (lv_at hl 4 rfl) ?_
                refine lv_iload_n hx hb dX6_tick_71 rfl (lv_at hl 1 rfl) ?_
                refine lv_icmp_ne (tgt := 89) hx hb dX6_tick_72 (by decide) (fun c_72 => ?_) (fun c_72 => ?_)
                · refine lv_iconst (v := 0) hx hb dX6_tick_89 (by decide) ?_
                  exact cut_90 false (by rw [if_neg (fun q => c_72 (congrArg nI q)), bit_0]; rfl) _ _ hP hD hS ls (lv_sub hl [0, 1, 2, 3, 4, 5] rfl)
                · have hcd : i = pSlot v := (nI_eq (by omega) (by omega)).mp c_72
                  refine lv_iload_n hx hb dX6_tick_75 rfl (lv_at hl 2 rfl) ?_
                  refine lv_iload hx hb dX6_tick_76 (lv_at hl 5 rfl) ?_
                  refine lv_ishr hx hb dX6_tick_78 ?_
                  refine lv_iconst (v := 1) hx hb dX6_tick_79 (by decide) ?_
                  refine lv_iand hx hb dX6_tick_80 ?_
                  refine lv_iconst (v := 1) hx hb dX6_tick_81 (by decide) ?_
                  refine lv_icmp_ne (tgt := 89) hx hb dX6_tick_82 (by decide) (fun c_82 => ?_) (fun c_82 => ?_)
                  · refine lv_iconst (v := 0) hx hb dX6_tick_89 (by decide) ?_
                    exact cut_90 false (by rw [if_pos hcd]; exact (decide_eq_false c_82).symm) _ _ hP hD hS ls (lv_sub hl [0, 1, 2, 3, 4, 5] rfl)
                  · refine lv_iconst (v := 1) hx hb dX6_tick_85 (by decide) ?_
                    refine lv_goto (tgt := 90) hx hb dX6_tick_86 (by decide) ?_
                    exact cut_90 true (by rw [if_pos hcd]; exact (decide_eq_true c_82).symm) _ _ hP hD hS ls (lv_sub hl [0, 1, 2, 3, 4, 5] rfl)
          exact loop_62 (9) 0 x (Nat.zero_le _) (by omega) (by rw [show pBro (pLit v (pSlot v)) 0 = 0 from rfl, ite_self]; exact (Int32.add_zero _).symm) _ _ (mT_fn (by rw [pDigK_z]) (by rw [pDigK_z]) hP) (mT_dn hD) hS ls (lv_sub hl [1, 2, 3, 4, 5, 0] rfl)
    exact loop_48 (nOf v + 1) 0 0 (Nat.zero_le _) (by omega) (if_neg (by omega)).symm _ _ (mT_fn (by rw [pAll_z]) (by rw [pAll_z]) hP) (mT_dn hD) hS ls (lv_sub hl [1, 2, 3, 4, 0] rfl)
  refine lv_if_eq (tgt := 45) hx hb dX6_tick_18 (by decide) (fun c_18 => ?_) (fun c_18 => ?_)
  · have hdr : ¬ pDrv v (pSlot v) := fun z => by rw [if_pos z] at c_18; exact absurd c_18 (by decide)
    exact cut_45  _ _ (mT_fn (congrArg rowOf (pTk1_neg hdr)) (pTk1_f v).symm hP) (mT_dn hD) hS ls (lv_sub hl [3, 2, 1, 0] rfl)
  · have hdr : pDrv v (pSlot v) := Classical.byContradiction (fun z => by rw [if_neg z] at c_18; exact c_18 rfl)
    refine lv_aload_n hx hb dX6_tick_21 rfl (lv_at hl 3 rfl) ?_
    refine va_get (D := D) (ci := 6) (v := .ref r) (C := RX6) (T := TX6) (N := 13) hx hb hts hiX6 hown hK hP 0 rfl rfl 0 (by decide) w_1 (fun _ h9 => h9) rfl dX6_tick_22 ?_
    refine lv_iconst (v := 5) hx hb dX6_tick_25 (by decide) ?_
    refine lv_dup2_11 hx hb dX6_tick_26 rfl rfl ?_
    refine r_iald hx hb hK hP 1 0 rfl rfl (k := 5) (rfl) (by decide) (by decide) dX6_tick_27 ?_
    refine lv_as (y := v.1 0 5) (row_0 v (by decide)) ?_
    refine lv_iconst (v := 1) hx hb dX6_tick_28 (by decide) ?_
    refine lv_iadd hx hb dX6_tick_29 ?_
    refine r_iast hx hb hK hP hD hS 1 0 rfl rfl (k := 5) (rfl) (by decide) (by decide) dX6_tick_30 (fun H locs hP hD hS => ?_)
    have hP : va_P D vwCl (mT ct h r f tl (sC v 0 (upd (v.1 0) 5 (v.1 0 5 + 1)))) H := mT_fn (row_up0 v (by decide) _) rfl hP
    have hD : va_D A (mT ct h r f tl (sC v 0 (upd (v.1 0) 5 (v.1 0 5 + 1)))) := mT_dn hD
    refine lv_aload_n hx hb dX6_tick_31 rfl (lv_at hl 3 rfl) ?_
    refine lv_iload_n hx hb dX6_tick_32 rfl (lv_at hl 2 rfl) ?_
    refine lv_iconst (v := 5) hx hb dX6_tick_33 (by decide) ?_
    refine lv_aload_n hx hb dX6_tick_34 rfl (lv_at hl 3 rfl) ?_
    refine lv_iload_n hx hb dX6_tick_35 rfl (lv_at hl 2 rfl) ?_
    refine lv_iconst (v := 5) hx hb dX6_tick_36 (by decide) ?_
    refine vp_callSi (va_runV (As := [.int (nI (pSlot v)), .int 5]) (rest := [.int 5, .int (nI (pSlot v)), .ref h]) ⟨hx, hb, hml, hown, hts⟩ (k_X6_of l D ct h r (.ref f :: tl) (sC v 0 (upd (v.1 0) 5 (v.1 0 5 + 1))) (pSlot v) 5 hs8 (by decide)) (cwV 2 hts gX6_tick_X6_of rfl rfl rfl (by decide +kernel) ⟨Nat.le_of_ble_eq_true rfl, Nat.le_of_ble_eq_true rfl⟩) ⟨roP.blind, va_recv hK (mT_R hP) (ci := 6) (q0 := 0) rfl rfl, roP.at (mT_R hP) hK hN⟩ rfl rfl hl.1 rfl (lv_room (Nat.le_of_ble_eq_true rfl)) dX6_tick_37 ⟨Nat.le_of_ble_eq_true rfl, Nat.le_of_ble_eq_true rfl⟩).run (fun r_37 h_37 => ?_)
    obtain rfl : r_37 = (sC v 0 (upd (v.1 0) 5 (v.1 0 5 + 1))).1 (4 + pSlot v) 5 := h_37
    refine lv_as (y := v.1 (4 + pSlot v) 5) (congrFun (sC_ne v (by omega) _) 5) ?_
    refine lv_iconst (v := 1) hx hb dX6_tick_40 (by decide) ?_
    refine lv_iadd hx hb dX6_tick_41 ?_
    have hFc_42 := w_free (wc := mR ct h r (.ref f :: tl) (sC v 0 (upd (v.1 0) 5 (v.1 0 5 + 1)))) hD (.refl (mT ct h r f tl (sC v 0 (upd (v.1 0) 5 (v.1 0 5 + 1))))) hS hA
    refine va_callv (va_runV (As := [.int (nI (pSlot v)), .int 5, .int ((v.1 (4 + pSlot v) 5) + 1)]) (rest := []) ⟨hx, hb, hml, hown, hts⟩ (k_X6_put l D ct _ h r (.ref f :: tl) (sC v 0 (upd (v.1 0) 5 (v.1 0 5 + 1))) (pSlot v) 5 (v.1 (4 + pSlot v) 5 + 1) hs8 (by decide)) (cwV 3 hts gX6_tick_X6_put rfl rfl rfl (by decide +kernel) ⟨Nat.le_of_ble_eq_true rfl, Nat.le_of_ble_eq_true rfl⟩) ⟨muP.blind, va_recv hK (mT_R hP) (ci := 6) (q0 := 0) rfl rfl, muP.at (mT_R hP) (mT_D hD) hK hN⟩ rfl rfl hl.1 rfl (lv_room (Nat.le_of_ble_eq_true rfl)) dX6_tick_42 ⟨Nat.le_of_ble_eq_true rfl, Nat.le_of_ble_eq_true rfl⟩) hS (fun q _ h => hFc_42 q h) hFc_42 (fun uu tt H1 locs ht hvm hw hB hz1 hk1 hS => ?_)
    obtain ⟨hP, hD⟩ := muE.join (ws' := mT ct h r f tl (s2 (s2 v 0 5 (v.1 0 5 + 1)) (4 + pSlot v) 5 (v.1 (4 + pSlot v) 5 + 1))) hP hD (.refl (mT ct h r f tl (sC v 0 (upd (v.1 0) 5 (v.1 0 5 + 1))))) (.refl (mT ct h r f tl (s2 (s2 v 0 5 (v.1 0 5 + 1)) (4 + pSlot v) 5 (v.1 (4 + pSlot v) 5 + 1)))) hk1 hFc_42 ht hB
    generalize H1 = H at hP hS ⊢
    exact cut_45  _ _ (mT_fn (congrArg rowOf (pTk1_pos hdr)) (pTk1_f v).symm hP) (mT_dn hD) hS ls (lv_sub hl [3, 2, 1, 0] rfl)

