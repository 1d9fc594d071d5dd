set_option maxHeartbeats 4000000 in
set_option maxRecDepth 100000 in
theorem k_X6_begin (l : Launch) (D : va_G) (ct : Nat → ClassId) (sz : Nat) (a : Nat → Nat) (K T : Int32) (g1 : Nat → Int32) (f2 : Nat → UInt32) (g3 : Nat → Int32) (f4 : Nat → UInt32) (g5 : Nat → Int32) (f6 : Nat → UInt32) (g7 : Nat → Int32) (f8 : Nat → UInt32) (g9 g10 g11 : Nat → Int32) : Met l yX6_begin wsX6_begin ({ frames := 0, cells := 0, slots := 0, locals := 0 }) (muP D ct (mG ct a K T g1 f2 g3 f4 g5 f6 g7 f8 g9 g10 g11) sz [.ref (a 0)]) (muV D ct (mG ct a K T g1 f2 g3 f4 g5 f6 g7 f8 g9 g10 g11) (mG ct a K T g1 f2 g1 f2 g5 f6 g7 f8 g9 g10 g11) sz) 0 0 (va_A (mG ct a K T g1 f2 g3 f4 g5 f6 g7 f8 g9 g10 g11) sz) := by
  refine Met.ofW (cc := cX6_begin) (maxL := 2) (ret := none) (by decide) rfl ?_
  intro p e s m args below meth c s₁ B hml hv
  obtain ⟨rfl, hsz, hP, hK, hN, hD0⟩ := hv
  have hx := B.exec
  have hb := B.bytes
  have hr := B.returns
  have hts := atoms_spec (ws := wsX6_begin) B.pre
  have hown : s.vm.findClass RX6 = some m.cls := findClass_of_methodNamed B.named
  have hlocks := B.notSynchronized
  subst hsz
  have hD := hD0.self (sz := s.heap.size)
  generalize hAe : va_A (mG ct a K T g1 f2 g3 f4 g5 f6 g7 f8 g9 g10 g11) s.heap.size = A at hD
  have hA : ∀ q : Nat, s.heap.size ≤ q → A q := fun q h => by rw [← hAe]; exact Or.inr h
  have hS : va_S A s.heap s.heap [] := va_S.rf
  have w_1 := hts (.fieldLink RX6 17 "ScannedDigitsModel" "scratch" "[I") (List.mem_of_getElem? (i := 1) rfl)
  have w_2 := hts (.fieldLink RX6 7 "ScannedDigitsModel" "row" "[I") (List.mem_of_getElem? (i := 2) rfl)
  have w_3 := hts (.fieldLink RX6 20 "ScannedDigitsModel" "scratchFlow" "[F") (List.mem_of_getElem? (i := 3) rfl)
  have w_4 := hts (.fieldLink RX6 13 "ScannedDigitsModel" "flow" "[F") (List.mem_of_getElem? (i := 4) rfl)
  have hiX6 : ∀ w ∈ wsX60, w ∈ wsX6_begin := fun w h => (goodIn_r wsX60 [5, 6, 7, 8, 9, 10, 11, 12, 13, 14, 15, 16, 17] (by decide +kernel) (by decide +kernel) w h).1
  have hl := lv_entry ([.ref (a 0)]) (n := 2) (Nat.le_of_ble_eq_true rfl)
  rw [lg_entry_eq]
  generalize (lg_sl ([.ref (a 0)]) ++ List.replicate (2 - (lg_sl ([.ref (a 0)])).length) Slot.unset).toArray = ls at hl ⊢
  have hl : lv_has ls 2 [(0, .ref (a 0))] := hl
  refine lv_iconst (v := 0) hx hb dX6_begin_0 (by decide) ?_
  refine lv_istore_n (lv' := [(1, .int 0), (0, .ref (a 0))]) hx hb dX6_begin_1 rfl hl (by decide) rfl (fun ls hl => ?_)
  have loop_2 : ∀ (n_2 : Nat) (i : Nat), (i ≤ 200) → (200 + 1 ≤ i + n_2) → ∀ (H : Heap) (locs : List Loc), va_P D vwCl (mG ct a K T g1 f2 (mo 0 g1 g3 i) f4 g5 f6 g7 f8 g9 g10 g11) H → va_D A (mG ct a K T g1 f2 (mo 0 g1 g3 i) f4 g5 f6 g7 f8 g9 g10 g11) → va_S A s.heap H locs → ∀ (ls : Array Slot), lv_has ls 2 [(1, .int (nI i)), (0, .ref (a 0))] → W p l e (headSpec wsX6_begin ({ frames := 0, cells := 0, slots := 0, locals := 0 })).room s m #[.ref (a 0)] below meth c H locs 0 0 (MQ below (muV D ct (mG ct a K T g1 f2 g3 f4 g5 f6 g7 f8 g9 g10 g11) (mG ct a K T g1 f2 g1 f2 g5 f6 g7 f8 g9 g10 g11) s.heap.size) #[.ref (a 0)] s 0 0 (A)) (F0 m 2 ls []) := by
    intro n_2
    induction n_2 with
    | zero =>
      intro i hi hn
      exact absurd hn (by omega)
    | succ n_2 ih_2 =>
      intro i hi hn H locs hP hD hS ls hl
      refine lv_iload_n hx hb dX6_begin_2 rfl (lv_at hl 0 rfl) ?_
      refine lv_sipush (v := 200) hx hb dX6_begin_3 (by decide) ?_
      refine lv_icmp_ge (tgt := 27) hx hb dX6_begin_6 (by decide) (fun c_6 => ?_) (fun c_6 => ?_)
      · have hge : 200 ≤ i := nI_le' (by omega) (by omega) c_6
        have hP : va_P D vwCl (mG ct a K T g1 f2 g1 f4 g5 f6 g7 f8 g9 g10 g11) H := (mG_ext hP (fun _ _ => rfl) (fun _ _ => rfl) (mo_in (g1) (g3) i (by omega)) (fun _ _ => rfl) (fun _ _ => rfl) (fun _ _ => rfl) (fun _ _ => rfl) (fun _ _ => rfl) (fun _ _ => rfl) (fun _ _ => rfl) (fun _ _ => rfl))
        have hD : va_D A (mG ct a K T g1 f2 g1 f4 g5 f6 g7 f8 g9 g10 g11) := mG_dn hD
        refine lv_iconst (v := 0) hx hb dX6_begin_27 (by decide) ?_
        refine lv_istore_n (lv' := [(1, .int 0), (0, .ref (a 0))]) hx hb dX6_begin_28 rfl hl (by decide) rfl (fun ls hl => ?_)
        have loop_29 : ∀ (n_29 : Nat) (i : Nat), (i ≤ 3) → (3 + 1 ≤ i + n_29) → ∀ (H : Heap) (locs : List Loc), va_P D vwCl (mG ct a K T g1 f2 g1 (mo 0 f2 f4 i) g5 f6 g7 f8 g9 g10 g11) H → va_D A (mG ct a K T g1 f2 g1 (mo 0 f2 f4 i) g5 f6 g7 f8 g9 g10 g11) → va_S A s.heap H locs → ∀ (ls : Array Slot), lv_has ls 2 [(1, .int (nI i)), (0, .ref (a 0))] → W p l e (headSpec wsX6_begin ({ frames := 0, cells := 0, slots := 0, locals := 0 })).room s m #[.ref (a 0)] below meth c H locs 0 0 (MQ below (muV D ct (mG ct a K T g1 f2 g3 f4 g5 f6 g7 f8 g9 g10 g11) (mG ct a K T g1 f2 g1 f2 g5 f6 g7 f8 g9 g10 g11) s.heap.size) #[.ref (a 0)] s 0 0 (A)) (F0 m 29 ls []) := by
          intro n_29
          induction n_29 with
          | zero =>
            intro i hi hn
            exact absurd hn (by omega)
          | succ n_29 ih_29 =>
            intro i hi hn H locs hP hD hS ls hl
            refine lv_iload_n hx hb dX6_begin_29 rfl (lv_at hl 0 rfl) ?_
            refine lv_iconst (v := 3) hx hb dX6_begin_30 (by decide) ?_
            refine lv_icmp_ge (tgt := 52) hx hb dX6_begin_31 (by decide) (fun c_31 => ?_) (fun c_31 => ?_)
            · have hge : 3 ≤ i := nI_le' (by omega) (by omega) c_31
              have hP9 : va_P D vwCl (mG ct a K T g1 f2 g1 f2 g5 f6 g7 f8 g9 g10 g11) H := (mG_ext hP (fun _ _ => rfl) (fun _ _ => rfl) (fun _ _ => rfl) (mo_in (f2) (f4) i (by omega)) (fun _ _ => rfl) (fun _ _ => rfl) (fun _ _ => rfl) (fun _ _ => rfl) (fun _ _ => rfl) (fun _ _ => rfl) (fun _ _ => rfl))
              have hD9 : va_D A (mG ct a K T g1 f2 g1 f2 g5 f6 g7 f8 g9 g10 g11) := mG_dn hD
              subst hAe
              exact W.vret hx hb hr (fun tt ht hW => ⟨⟨(), rfl, trivial, muE.of (ct := ct) hP9 hD9 ht⟩, hS.F ht⟩) hS.2.2 dX6_begin_52
            · have hlt : i < 3 := nI_nle' (by omega) (by omega) c_31
              refine lv_aload_n hx hb dX6_begin_34 rfl (lv_at hl 1 rfl) ?_
              refine va_get (D := D) (ci := 6) (v := .ref (a 4)) (C := RX6) (T := TX6) (N := 13) hx hb hts hiX6 hown hK hP 0 rfl rfl 3 (by decide) w_3 (fun _ h9 => h9) rfl dX6_begin_35 ?_
              refine lv_iload_n hx hb dX6_begin_38 rfl (lv_at hl 0 rfl) ?_
              refine lv_aload_n hx hb dX6_begin_39 rfl (lv_at hl 1 rfl) ?_
              refine va_get (D := D) (ci := 6) (v := .ref (a 2)) (C := RX6) (T := TX6) (N := 13) hx hb hts hiX6 hown hK hP 0 rfl rfl 1 (by decide) w_4 (fun _ h9 => h9) rfl dX6_begin_40 ?_
              refine lv_iload_n hx hb dX6_begin_43 rfl (lv_at hl 0 rfl) ?_
              refine r_fald hx hb hK hP 2 1 rfl rfl (k := i) (rfl) (by omega) (by decide) dX6_begin_44 ?_
              refine r_fast hx hb hK hP hD hS 4 1 rfl rfl (k := i) (rfl) (by omega) (by decide) dX6_begin_45 (fun H locs hP hD hS => ?_)
              have hP : va_P D vwCl (mG ct a K T g1 f2 g1 (vf_upd (mo 0 f2 f4 i) i (f2 i)) g5 f6 g7 f8 g9 g10 g11) H := hP
              have hD : va_D A (mG ct a K T g1 f2 g1 (vf_upd (mo 0 f2 f4 i) i (f2 i)) g5 f6 g7 f8 g9 g10 g11) := hD
              refine lv_iinc (v := nI (i + 1)) (lv' := [(1, .int (nI (i + 1))), (0, .ref (a 0))]) hx hb dX6_begin_46 hl (k := 0) rfl ((nI_succ i).symm) (by decide) rfl (fun ls hl => ?_)
              refine lv_goto (tgt := 29) hx hb dX6_begin_49 (by decide) ?_
              exact ih_29 (i + 1) (by omega) (by omega) _ _ (by rw [← mo_sf0 f2 f4 i]; exact hP) (mG_dn hD) hS ls (lv_sub hl [0, 1] rfl)
        exact loop_29 (3 + 1) 0 (Nat.zero_le _) (by omega) _ _ (by rw [mo_0]; exact hP) (mG_dn hD) hS ls (lv_sub hl [0, 1] rfl)
      · have hlt : i < 200 := nI_nle' (by omega) (by omega) c_6
        refine lv_aload_n hx hb dX6_begin_9 rfl (lv_at hl 1 rfl) ?_
        refine va_get (D := D) (ci := 6) (v := .ref (a 3)) (C := RX6) (T := TX6) (N := 13) hx hb hts hiX6 hown hK hP 0 rfl rfl 2 (by decide) w_1 (fun _ h9 => h9) rfl dX6_begin_10 ?_
        refine lv_iload_n hx hb dX6_begin_13 rfl (lv_at hl 0 rfl) ?_
        refine lv_aload_n hx hb dX6_begin_14 rfl (lv_at hl 1 rfl) ?_
        refine va_get (D := D) (ci := 6) (v := .ref (a 1)) (C := RX6) (T := TX6) (N := 13) hx hb hts hiX6 hown hK hP 0 rfl rfl 0 (by decide) w_2 (fun _ h9 => h9) rfl dX6_begin_15 ?_
        refine lv_iload_n hx hb dX6_begin_18 rfl (lv_at hl 0 rfl) ?_
        refine r_iald hx hb hK hP 1 0 rfl rfl (k := i) (rfl) (by omega) (by decide) dX6_begin_19 ?_
        refine r_iast hx hb hK hP hD hS 3 0 rfl rfl (k := i) (rfl) (by omega) (by decide) dX6_begin_20 (fun H locs hP hD hS => ?_)
        have hP : va_P D vwCl (mG ct a K T g1 f2 (upd (mo 0 g1 g3 i) i (g1 i)) f4 g5 f6 g7 f8 g9 g10 g11) H := hP
        have hD : va_D A (mG ct a K T g1 f2 (upd (mo 0 g1 g3 i) i (g1 i)) f4 g5 f6 g7 f8 g9 g10 g11) := hD
        refine lv_iinc (v := nI (i + 1)) (lv' := [(1, .int (nI (i + 1))), (0, .ref (a 0))]) hx hb dX6_begin_21 hl (k := 0) rfl ((nI_succ i).symm) (by decide) rfl (fun ls hl => ?_)
        refine lv_goto (tgt := 2) hx hb dX6_begin_24 (by decide) ?_
        exact ih_2 (i + 1) (by omega) (by omega) _ _ (by rw [← mo_s0 g1 g3 i]; exact hP) (mG_dn hD) hS ls (lv_sub hl [0, 1] rfl)
  exact loop_2 (200 + 1) 0 (Nat.zero_le _) (by omega) _ _ (by rw [mo_0]; exact hP) (mG_dn hD) hS ls (lv_sub hl [0, 1] rfl)

set_option maxHeartbeats 4000000 in
set_option maxRecDepth 100000 in
theorem k_X6_goBack (l : Launch) (D : va_G) (ct : Nat → ClassId) (sz : Nat) (a : Nat → Nat) (K T : Int32) (g1 : Nat → Int32) (f2 : Nat → UInt32) (g3 : Nat → Int32) (f4 : Nat → UInt32) (g5 : Nat → Int32) (f6 : Nat → UInt32) (g7 : Nat → Int32) (f8 : Nat → UInt32) (g9 g10 g11 : Nat → Int32) : Met l yX6_goBack wsX6_goBack ({ frames := 0, cells := 0, slots := 0, locals := 0 }) (muP D ct (mG ct a K T g1 f2 g3 f4 g5 f6 g7 f8 g9 g10 g11) sz [.ref (a 0)]) (muV D ct (mG ct a K T g1 f2 g3 f4 g5 f6 g7 f8 g9 g10 g11) (mG ct a K T g3 f4 g3 f4 g5 f6 g7 f8 g9 g10 g11) sz) 0 0 (va_A (mG ct a K T g1 f2 g3 f4 g5 f6 g7 f8 g9 g10 g11) sz) := by
  refine Met.ofW (cc := cX6_goBack) (maxL := 2) (ret := none) (by decide) rfl ?_
  intro p e s m args below meth c s₁ B hml hv
  obtain ⟨rfl, hsz, hP, hK, hN, hD0⟩ := hv
  have hx := B.exec
  have hb := B.bytes
  have hr := B.returns
  have hts := atoms_spec (ws := wsX6_goBack) B.pre
  have hown : s.vm.findClass RX6 = some m.cls := findClass_of_methodNamed B.named
  have hlocks := B.notSynchronized
  subst hsz
  have hD := hD0.self (sz := s.heap.size)
  generalize hAe : va_A (mG ct a K T g1 f2 g3 f4 g5 f6 g7 f8 g9 g10 g11) s.heap.size = A at hD
  have hA : ∀ q : Nat, s.heap.size ≤ q → A q := fun q h => by rw [← hAe]; exact Or.inr h
  have hS : va_S A s.heap s.heap [] := va_S.rf
  have w_1 := hts (.fieldLink RX6 7 "ScannedDigitsModel" "row" "[I") (List.mem_of_getElem? (i := 1) rfl)
  have w_2 := hts (.fieldLink RX6 17 "ScannedDigitsModel" "scratch" "[I") (List.mem_of_getElem? (i := 2) rfl)
  have w_3 := hts (.fieldLink RX6 13 "ScannedDigitsModel" "flow" "[F") (List.mem_of_getElem? (i := 3) rfl)
  have w_4 := hts (.fieldLink RX6 20 "ScannedDigitsModel" "scratchFlow" "[F") (List.mem_of_getElem? (i := 4) rfl)
  have hiX6 : ∀ w ∈ wsX60, w ∈ wsX6_goBack := fun w h => (goodIn_r wsX60 [5, 6, 7, 8, 9, 10, 11, 12, 13, 14, 15, 16, 17] (by decide +kernel) (by decide +kernel) w h).1
  have hl := lv_entry ([.ref (a 0)]) (n := 2) (Nat.le_of_ble_eq_true rfl)
  rw [lg_entry_eq]
  generalize (lg_sl ([.ref (a 0)]) ++ List.replicate (2 - (lg_sl ([.ref (a 0)])).length) Slot.unset).toArray = ls at hl ⊢
  have hl : lv_has ls 2 [(0, .ref (a 0))] := hl
  refine lv_iconst (v := 0) hx hb dX6_goBack_0 (by decide) ?_
  refine lv_istore_n (lv' := [(1, .int 0), (0, .ref (a 0))]) hx hb dX6_goBack_1 rfl hl (by decide) rfl (fun ls hl => ?_)
  have loop_2 : ∀ (n_2 : Nat) (i : Nat), (i ≤ 200) → (200 + 1 ≤ i + n_2) → ∀ (H : Heap) (locs : List Loc), va_P D vwCl (mG ct a K T (mo 0 g3 g1 i) f2 g3 f4 g5 f6 g7 f8 g9 g10 g11) H → va_D A (mG ct a K T (mo 0 g3 g1 i) f2 g3 f4 g5 f6 g7 f8 g9 g10 g11) → va_S A s.heap H locs → ∀ (ls : Array Slot), lv_has ls 2 [(1, .int (nI i)), (0, .ref (a 0))] → W p l e (headSpec wsX6_goBack ({ frames := 0, cells := 0, slots := 0, locals := 0 })).room s m #[.ref (a 0)] below meth c H locs 0 0 (MQ below (muV D ct (mG ct a K T g1 f2 g3 f4 g5 f6 g7 f8 g9 g10 g11) (mG ct a K T g3 f4 g3 f4 g5 f6 g7 f8 g9 g10 g11) s.heap.size) #[.ref (a 0)] s 0 0 (A)) (F0 m 2 ls []) := by
    intro n_2
    induction n_2 with
    | zero =>
      intro i hi hn
      exact absurd hn (by omega)
    | succ n_2 ih_2 =>
      intro i hi hn H locs hP hD hS ls hl
      refine lv_iload_n hx hb dX6_goBack_2 rfl (lv_at hl 0 rfl) ?_
      refine lv_sipush (v := 200) hx hb dX6_goBack_3 (by decide) ?_
      refine lv_icmp_ge (tgt := 27) hx hb dX6_goBack_6 (by decide) (fun c_6 => ?_) (fun c_6 => ?_)
      · have hge : 200 ≤ i := nI_le' (by omega) (by omega) c_6
        have hP : va_P D vwCl (mG ct a K T g3 f2 g3 f4 g5 f6 g7 f8 g9 g10 g11) H := (mG_ext hP (mo_in (g3) (g1) i (by omega)) (fun _ _ => rfl) (fun _ _ => rfl) (fun _ _ => rfl) (fun _ _ => rfl) (fun _ _ => rfl) (fun _ _ => rfl) (fun _ _ => rfl) (fun _ _ => rfl) (fun _ _ => rfl) (fun _ _ => rfl))
        have hD : va_D A (mG ct a K T g3 f2 g3 f4 g5 f6 g7 f8 g9 g10 g11) := mG_dn hD
        refine lv_iconst (v := 0) hx hb dX6_goBack_27 (by decide) ?_
        refine lv_istore_n (lv' := [(1, .int 0), (0, .ref (a 0))]) hx hb dX6_goBack_28 rfl hl (by decide) rfl (fun ls hl => ?_)
        have loop_29 : ∀ (n_29 : Nat) (i : Nat), (i ≤ 3) → (3 + 1 ≤ i + n_29) → ∀ (H : Heap) (locs : List Loc), va_P D vwCl (mG ct a K T g3 (mo 0 f4 f2 i) g3 f4 g5 f6 g7 f8 g9 g10 g11) H → va_D A (mG ct a K T g3 (mo 0 f4 f2 i) g3 f4 g5 f6 g7 f8 g9 g10 g11) → va_S A s.heap H locs → ∀ (ls : Array Slot), lv_has ls 2 [(1, .int (nI i)), (0, .ref (a 0))] → W p l e (headSpec wsX6_goBack ({ frames := 0, cells := 0, slots := 0, locals := 0 })).room s m #[.ref (a 0)] below meth c H locs 0 0 (MQ below (muV D ct (mG ct a K T g1 f2 g3 f4 g5 f6 g7 f8 g9 g10 g11) (mG ct a K T g3 f4 g3 f4 g5 f6 g7 f8 g9 g10 g11) s.heap.size) #[.ref (a 0)] s 0 0 (A)) (F0 m 29 ls []) := by
          intro n_29
          induction n_29 with
          | zero =>
            intro i hi hn
            exact absurd hn (by omega)
          | succ n_29 ih_29 =>
            intro i hi hn H locs hP hD hS ls hl
            refine lv_iload_n hx hb dX6_goBack_29 rfl (lv_at hl 0 rfl) ?_
            refine lv_iconst (v := 3) hx hb dX6_goBack_30 (by decide) ?_
            refine lv_icmp_ge (tgt := 52) hx hb dX6_goBack_31 (by decide) (fun c_31 => ?_) (fun c_31 => ?_)
            · have hge : 3 ≤ i := nI_le' (by omega) (by omega) c_31
              have hP9 : va_P D vwCl (mG ct a K T g3 f4 g3 f4 g5 f6 g7 f8 g9 g10 g11) H := (mG_ext hP (fun _ _ => rfl) (mo_in (f4) (f2) i (by omega)) (fun _ _ => rfl) (fun _ _ => rfl) (fun _ _ => rfl) (fun _ _ => rfl) (fun _ _ => rfl) (fun _ _ => rfl) (fun _ _ => rfl) (fun _ _ => rfl) (fun _ _ => rfl))
              have hD9 : va_D A (mG ct a K T g3 f4 g3 f4 g5 f6 g7 f8 g9 g10 g11) := mG_dn hD
              subst hAe
              exact W.vret hx hb hr (fun tt ht hW => ⟨⟨(), rfl, trivial, muE.of (ct := ct) hP9 hD9 ht⟩, hS.F ht⟩) hS.2.2 dX6_goBack_52
            · have hlt : i < 3 := nI_nle' (by omega) (by omega) c_31
              refine lv_aload_n hx hb dX6_goBack_34 rfl (lv_at hl 1 rfl) ?_
              refine va_get (D := D) (ci := 6) (v := .ref (a 2)) (C := RX6) (T := TX6) (N := 13) hx hb hts hiX6 hown hK hP 0 rfl rfl 1 (by decide) w_3 (fun _ h9 => h9) rfl dX6_goBack_35 ?_
              refine lv_iload_n hx hb dX6_goBack_38 rfl (lv_at hl 0 rfl) ?_
              refine lv_aload_n hx hb dX6_goBack_39 rfl (lv_at hl 1 rfl) ?_
              refine va_get (D := D) (ci := 6) (v := .ref (a 4)) (C := RX6) (T := TX6) (N := 13) hx hb hts hiX6 hown hK hP 0 rfl rfl 3 (by decide) w_4 (fun _ h9 => h9) rfl dX6_goBack_40 ?_
              refine lv_iload_n hx hb dX6_goBack_43 rfl (lv_at hl 0 rfl) ?_
              refine r_fald hx hb hK hP 4 1 rfl rfl (k := i) (rfl) (by omega) (by decide) dX6_goBack_44 ?_
              refine r_fast hx hb hK hP hD hS 2 1 rfl rfl (k := i) (rfl) (by omega) (by decide) dX6_goBack_45 (fun H locs hP hD hS => ?_)
              have hP : va_P D vwCl (mG ct a K T g3 (vf_upd (mo 0 f4 f2 i) i (f4 i)) g3 f4 g5 f6 g7 f8 g9 g10 g11) H := hP
              have hD : va_D A (mG ct a K T g3 (vf_upd (mo 0 f4 f2 i) i (f4 i)) g3 f4 g5 f6 g7 f8 g9 g10 g11) := hD
              refine lv_iinc (v := nI (i + 1)) (lv' := [(1, .int (nI (i + 1))), (0, .ref (a 0))]) hx hb dX6_goBack_46 hl (k := 0) rfl ((nI_succ i).symm) (by decide) rfl (fun ls hl => ?_)
              refine lv_goto (tgt := 29) hx hb dX6_goBack_49 (by decide) ?_
              exact ih_29 (i + 1) (by omega) (by omega) _ _ (by rw [← mo_sf0 f4 f2 i]; exact hP) (mG_dn hD) hS ls (lv_sub hl [0, 1] rfl)
        exact loop_29 (3 + 1) 0 (Nat.zero_le _) (by omega) _ _ (by rw [mo_0]; exact hP) (mG_dn hD) hS ls (lv_sub hl [0, 1] rfl)
      · have hlt : i < 200 := nI_nle' (by omega) (by omega) c_6
        refine lv_aload_n hx hb dX6_goBack_9 rfl (lv_at hl 1 rfl) ?_
        refine va_get (D := D) (ci := 6) (v := .ref (a 1)) (C := RX6) (T := TX6) (N := 13) hx hb hts hiX6 hown hK hP 0 rfl rfl 0 (by decide) w_1 (fun _ h9 => h9) rfl dX6_goBack_10 ?_
        refine lv_iload_n hx hb dX6_goBack_13 rfl (lv_at hl 0 rfl) ?_
        refine lv_aload_n hx hb dX6_goBack_14 rfl (lv_at hl 1 rfl) ?_
        refine va_get (D := D) (ci := 6) (v := .ref (a 3)) (C := RX6) (T := TX6) (N := 13) hx hb hts hiX6 hown hK hP 0 rfl rfl 2 (by decide) w_2 (fun _ h9 => h9) rfl dX6_goBack_15 ?_
        refine lv_iload_n hx hb dX6_goBack_18 rfl (lv_at hl 0 rfl) ?_
        refine r_iald hx hb hK hP 3 0 rfl rfl (k := i) (rfl) (by omega) (by decide) dX6_goBack_19 ?_
        refine r_iast hx hb hK hP hD hS 1 0 rfl rfl (k := i) (rfl) (by omega) (by decide) dX6_goBack_20 (fun H locs hP hD hS => ?_)
        have hP : va_P D vwCl (mG ct a K T (upd (mo 0 g3 g1 i) i (g3 i)) f2 g3 f4 g5 f6 g7 f8 g9 g10 g11) H := hP
        have hD : va_D A (mG ct a K T (upd (mo 0 g3 g1 i) i (g3 i)) f2 g3 f4 g5 f6 g7 f8 g9 g10 g11) := hD
        refine lv_iinc (v := nI (i + 1)) (lv' := [(1, .int (nI (i + 1))), (0, .ref (a 0))]) hx hb dX6_goBack_21 hl (k := 0) rfl ((nI_succ i).symm) (by decide) rfl (fun ls hl => ?_)
        refine lv_goto (tgt := 2) hx hb dX6_goBack_24 (by decide) ?_
        exact ih_2 (i + 1) (by omega) (by omega) _ _ (by rw [← mo_s0 g3 g1 i]; exact hP) (mG_dn hD) hS ls (lv_sub hl [0, 1] rfl)
  exact loop_2 (200 + 1) 0 (Nat.zero_le _) (by omega) _ _ (by rw [mo_0]; exact hP) (mG_dn hD) hS ls (lv_sub hl [0, 1] rfl)

set_option maxHeartbeats 4000000 in
set_option maxRecDepth 100000 in
theorem k_X6_done (l : Launch) (D : va_G) (ct : Nat → ClassId) (sz : Nat) (a : Nat → Nat) (T : Int32) (g1 : Nat → Int32) (f2 : Nat → UInt32) (u : SV) (w : Nat → SV) (k : Nat) (hk : k ≤ 5) (g7 : Nat → Int32) (f8 : Nat → UInt32) (g9 g10 g11 : Nat → Int32) (x : Int32) : Met l yX6_done wsX6_done ({ frames := 0, cells := 0, slots := 0, locals := 0 }) (muP D ct (mG ct a (nI k) T g1 f2 (rowOf u) u.2 (hisI w) (hisF w) g7 f8 g9 g10 g11) sz [.ref (a 0), .int x]) (muI D ct (mG ct a (nI k) T g1 f2 (rowOf u) u.2 (hisI w) (hisF w) g7 f8 g9 g10 g11) (mG ct a (nI (kPush k)) T g1 f2 (rowOf u) u.2 (hisI (hPush w k u)) (hisF (hPush w k u)) g7 f8 g9 g10 g11) sz (fun r => r = x)) 0 0 (va_A (mG ct a (nI k) T g1 f2 (rowOf u) u.2 (hisI w) (hisF w) g7 f8 g9 g10 g11) sz) := by
  refine Met.ofW (cc := cX6_done) (maxL := 3) (ret := (some .int)) (by decide) rfl ?_
  intro p e s m args below meth c s₁ B hml hv
  obtain ⟨rfl, hsz, hP, hK, hN, hD0⟩ := hv
  have hx := B.exec
  have hb := B.bytes
  have hr := B.returns
  have hts := atoms_spec (ws := wsX6_done) B.pre
  have hown : s.vm.findClass RX6 = some m.cls := findClass_of_methodNamed B.named
  have hlocks := B.notSynchronized
  subst hsz
  have hD := hD0.self (sz := s.heap.size)
  generalize hAe : va_A (mG ct a (nI k) T g1 f2 (rowOf u) u.2 (hisI w) (hisF w) g7 f8 g9 g10 g11) s.heap.size = A at hD
  have hA : ∀ q : Nat, s.heap.size ≤ q → A q := fun q h => by rw [← hAe]; exact Or.inr h
  have hS : va_S A s.heap s.heap [] := va_S.rf
  have w_1 := hts (.fieldLink RX6 51 "ScannedDigitsModel" "kept" "I") (List.mem_of_getElem? (i := 1) rfl)
  have w_2 := hts (.fieldLink RX6 23 "ScannedDigitsModel" "history" "[I") (List.mem_of_getElem? (i := 2) rfl)
  have w_3 := hts (.fieldLink RX6 26 "ScannedDigitsModel" "historyFlow" "[F") (List.mem_of_getElem? (i := 3) rfl)
  have w_4 := hts (.fieldLink RX6 17 "ScannedDigitsModel" "scratch" "[I") (List.mem_of_getElem? (i := 4) rfl)
  have w_5 := hts (.fieldLink RX6 20 "ScannedDigitsModel" "scratchFlow" "[F") (List.mem_of_getElem? (i := 5) rfl)
  have hiX6 : ∀ w ∈ wsX60, w ∈ wsX6_done := fun w h => (goodIn_r wsX60 [6, 7, 8, 9, 10, 11, 12, 13, 14, 15, 16, 17, 18] (by decide +kernel) (by decide +kernel) w h).1
  have hl := lv_entry ([.ref (a 0), .int x]) (n := 3) (Nat.le_of_ble_eq_true rfl)
  rw [lg_entry_eq]
  generalize (lg_sl ([.ref (a 0), .int x]) ++ List.replicate (3 - (lg_sl ([.ref (a 0), .int x])).length) Slot.unset).toArray = ls at hl ⊢
  have hl : lv_has ls 3 [(0, .ref (a 0)), (1, .int x)] := hl
  have cut_86 : ∀ (q : Nat) (w2 : Nat → SV), (q ≤ 4) → (q + 1 = kPush k) → (va_up w2 q u = hPush w k u) → ∀ (H : Heap) (locs : List Loc), va_P D vwCl (mG ct a (nI q) T g1 f2 (rowOf u) u.2 (hisI w2) (hisF w2) g7 f8 g9 g10 g11) H → va_D A (mG ct a (nI q) T g1 f2 (rowOf u) u.2 (hisI w2) (hisF w2) g7 f8 g9 g10 g11) → va_S A s.heap H locs → ∀ (ls : Array Slot), lv_has ls 3 [(0, .ref (a 0)), (1, .int x)] → W p l e (headSpec wsX6_done ({ frames := 0, cells := 0, slots := 0, locals := 0 })).room s m #[.ref (a 0), .int x] below meth c H locs 0 0 (MQ below (muI D ct (mG ct a (nI k) T g1 f2 (rowOf u) u.2 (hisI w) (hisF w) g7 f8 g9 g10 g11) (mG ct a (nI (kPush k)) T g1 f2 (rowOf u) u.2 (hisI (hPush w k u)) (hisF (hPush w k u)) g7 f8 g9 g10 g11) s.heap.size (fun r => r = x)) #[.ref (a 0), .int x] s 0 0 (A)) (F0 m 86 ls []) := by
    intro q w2 hq4 hq5 hw5 H locs hP hD hS ls hl
    refine lv_iconst (v := 0) hx hb dX6_done_86 (by decide) ?_
    refine lv_istore_n (lv' := [(2, .int 0), (0, .ref (a 0)), (1, .int x)]) hx hb dX6_done_87 rfl hl (by decide) rfl (fun ls hl => ?_)
    have loop_88 : ∀ (n_88 : Nat) (i : Nat), (i ≤ 200) → (200 + 1 ≤ i + n_88) → ∀ (H : Heap) (locs : List Loc), va_P D vwCl (mG ct a (nI q) T g1 f2 (rowOf u) u.2 (mo (200 * q) (rowOf u) (hisI w2) i) (hisF w2) g7 f8 g9 g10 g11) H → va_D A (mG ct a (nI q) T g1 f2 (rowOf u) u.2 (mo (200 * q) (rowOf u) (hisI w2) i) (hisF w2) g7 f8 g9 g10 g11) → va_S A s.heap H locs → ∀ (ls : Array Slot), lv_has ls 3 [(2, .int (nI i)), (0, .ref (a 0)), (1, .int x)] → W p l e (headSpec wsX6_done ({ frames := 0, cells := 0, slots := 0, locals := 0 })).room s m #[.ref (a 0), .int x] below meth c H locs 0 0 (MQ below (muI D ct (mG ct a (nI k) T g1 f2 (rowOf u) u.2 (hisI w) (hisF w) g7 f8 g9 g10 g11) (mG ct a (nI (kPush k)) T g1 f2 (rowOf u) u.2 (hisI (hPush w k u)) (hisF (hPush w k u)) g7 f8 g9 g10 g11) s.heap.size (fun r => r = x)) #[.ref (a 0), .int x] s 0 0 (A)) (F0 m 88 ls []) := by
      intro n_88
      induction n_88 with
      | zero =>
        intro i hi hn
        exact absurd hn (by omega)
      | succ n_88 ih_88 =>
        intro i hi hn H locs hP hD hS ls hl
        refine lv_iload_n hx hb dX6_done_88 rfl (lv_at hl 0 rfl) ?_
        refine lv_sipush (v := 200) hx hb dX6_done_89 (by decide) ?_
        refine lv_icmp_ge (tgt := 122) hx hb dX6_done_92 (by decide) (fun c_92 => ?_) (fun c_92 => ?_)
        · have hge : 200 ≤ i := nI_le' (by omega) (by omega) c_92
          have hP : va_P D vwCl (mG ct a (nI q) T g1 f2 (rowOf u) u.2 (hisI (va_up w2 q u)) (hisF w2) g7 f8 g9 g10 g11) H := (mG_ext hP (fun _ _ => rfl) (fun _ _ => rfl) (fun _ _ => rfl) (fun _ _ => rfl) (fun j _ => by rw [show i = 200 by omega]; exact hisI_put w2 q u j) (fun _ _ => rfl) (fun _ _ => rfl) (fun _ _ => rfl) (fun _ _ => rfl) (fun _ _ => rfl) (fun _ _ => rfl))
          have hD : va_D A (mG ct a (nI q) T g1 f2 (rowOf u) u.2 (hisI (va_up w2 q u)) (hisF w2) g7 f8 g9 g10 g11) := mG_dn hD
          refine lv_iconst (v := 0) hx hb dX6_done_122 (by decide) ?_
          refine lv_istore_n (lv' := [(2, .int 0), (0, .ref (a 0)), (1, .int x)]) hx hb dX6_done_123 rfl hl (by decide) rfl (fun ls hl => ?_)
          have loop_124 : ∀ (n_124 : Nat) (i : Nat), (i ≤ 3) → (3 + 1 ≤ i + n_124) → ∀ (H : Heap) (locs : List Loc), va_P D vwCl (mG ct a (nI q) T g1 f2 (rowOf u) u.2 (hisI (va_up w2 q u)) (mo (3 * q) u.2 (hisF w2) i) g7 f8 g9 g10 g11) H → va_D A (mG ct a (nI q) T g1 f2 (rowOf u) u.2 (hisI (va_up w2 q u)) (mo (3 * q) u.2 (hisF w2) i) g7 f8 g9 g10 g11) → va_S A s.heap H locs → ∀ (ls : Array Slot), lv_has ls 3 [(2, .int (nI i)), (0, .ref (a 0)), (1, .int x)] → W p l e (headSpec wsX6_done ({ frames := 0, cells := 0, slots := 0, locals := 0 })).room s m #[.ref (a 0), .int x] below meth c H locs 0 0 (MQ below (muI D ct (mG ct a (nI k) T g1 f2 (rowOf u) u.2 (hisI w) (hisF w) g7 f8 g9 g10 g11) (mG ct a (nI (kPush k)) T g1 f2 (rowOf u) u.2 (hisI (hPush w k u)) (hisF (hPush w k u)) g7 f8 g9 g10 g11) s.heap.size (fun r => r = x)) #[.ref (a 0), .int x] s 0 0 (A)) (F0 m 124 ls []) := by
            intro n_124
            induction n_124 with
            | zero =>
              intro i hi hn
              exact absurd hn (by omega)
            | succ n_124 ih_124 =>
              intro i hi hn H locs hP hD hS ls hl
              refine lv_iload_n hx hb dX6_done_124 rfl (lv_at hl 0 rfl) ?_
              refine lv_iconst (v := 3) hx hb dX6_done_125 (by decide) ?_
              refine lv_icmp_ge (tgt := 154) hx hb dX6_done_126 (by decide) (fun c_126 => ?_) (fun c_126 => ?_)
              · have hge : 3 ≤ i := nI_le' (by omega) (by omega) c_126
                have hP : va_P D vwCl (mG ct a (nI q) T g1 f2 (rowOf u) u.2 (hisI (va_up w2 q u)) (hisF (va_up w2 q u)) g7 f8 g9 g10 g11) H := (mG_ext hP (fun _ _ => rfl) (fun _ _ => rfl) (fun _ _ => rfl) (fun _ _ => rfl) (fun _ _ => rfl) (fun j _ => by rw [show i = 3 by omega]; exact hisF_put w2 q u j) (fun _ _ => rfl) (fun _ _ => rfl) (fun _ _ => rfl) (fun _ _ => rfl) (fun _ _ => rfl))
                have hD : va_D A (mG ct a (nI q) T g1 f2 (rowOf u) u.2 (hisI (va_up w2 q u)) (hisF (va_up w2 q u)) g7 f8 g9 g10 g11) := mG_dn hD
                refine lv_aload_n hx hb dX6_done_154 rfl (lv_at hl 1 rfl) ?_
                refine lv_dup hx hb dX6_done_155 rfl ?_
                refine va_get (D := D) (ci := 6) (v := .int (nI q)) (C := RX6) (T := TX6) (N := 13) hx hb hts hiX6 hown hK hP 0 rfl rfl 6 (by decide) w_1 (fun _ h9 => h9) rfl dX6_done_156 ?_
                refine lv_iconst (v := 1) hx hb dX6_done_159 (by decide) ?_
                refine lv_iadd hx hb dX6_done_160 ?_
                refine lv_as (y := nI (q + 1)) (nI_1 q) ?_
                refine va_put (D := D) (ci := 6) (v := .int (nI (q + 1))) (ty := .int) (C := RX6) (T := TX6) (N := 13) hx hb hts hiX6 tyX6 tyX6_ok nmX6 hown hK hP hD hS 0 rfl rfl 6 (by decide) w_1 (fun _ h9 => h9) rfl (by decide +kernel) rfl rfl (Nat.le_of_ble_eq_true rfl) dX6_done_161 (fun H locs hP hD hS => ?_)
                have hP : va_P D vwCl (mG ct a (nI (q + 1)) T g1 f2 (rowOf u) u.2 (hisI (va_up w2 q u)) (hisF (va_up w2 q u)) g7 f8 g9 g10 g11) H := hP
                have hD : va_D A (mG ct a (nI (q + 1)) T g1 f2 (rowOf u) u.2 (hisI (va_up w2 q u)) (hisF (va_up w2 q u)) g7 f8 g9 g10 g11) := hD
                refine lv_iload_n hx hb dX6_done_164 rfl (lv_at hl 2 rfl) ?_
                have hP9 : va_P D vwCl (mG ct a (nI (kPush k)) T g1 f2 (rowOf u) u.2 (hisI (hPush w k u)) (hisF (hPush w k u)) g7 f8 g9 g10 g11) H := by rw [← hw5, ← hq5]; exact hP
                have hD9 : va_D A (mG ct a (nI (kPush k)) T g1 f2 (rowOf u) u.2 (hisI (hPush w k u)) (hisF (hPush w k u)) g7 f8 g9 g10 g11) := mG_dn hD
                subst hAe
                exact W.iret (v := x) hx hb hr (fun tt ht hW => ⟨⟨x, (), rfl, rfl, muE.of (ct := ct) hP9 hD9 ht⟩, hS.F ht⟩) hS.2.2 dX6_done_165
              · have hlt : i < 3 := nI_nle' (by omega) (by omega) c_126
                refine lv_aload_n hx hb dX6_done_129 rfl (lv_at hl 1 rfl) ?_
                refine va_get (D := D) (ci := 6) (v := .ref (a 6)) (C := RX6) (T := TX6) (N := 13) hx hb hts hiX6 hown hK hP 0 rfl rfl 5 (by decide) w_3 (fun _ h9 => h9) rfl dX6_done_130 ?_
                refine lv_iconst (v := 3) hx hb dX6_done_133 (by decide) ?_
                refine lv_aload_n hx hb dX6_done_134 rfl (lv_at hl 1 rfl) ?_
                refine va_get (D := D) (ci := 6) (v := .int (nI q)) (C := RX6) (T := TX6) (N := 13) hx hb hts hiX6 hown hK hP 0 rfl rfl 6 (by decide) w_1 (fun _ h9 => h9) rfl dX6_done_135 ?_
                refine lv_imul hx hb dX6_done_138 ?_
                refine lv_as (y := nI (3 * q)) (ix_mk 3 q 3 rfl) ?_
                refine lv_iload_n hx hb dX6_done_139 rfl (lv_at hl 0 rfl) ?_
                refine lv_iadd hx hb dX6_done_140 ?_
                refine lv_as (y := nI (3 * q + i)) (nI_add _ _) ?_
                refine lv_aload_n hx hb dX6_done_141 rfl (lv_at hl 1 rfl) ?_
                refine va_get (D := D) (ci := 6) (v := .ref (a 4)) (C := RX6) (T := TX6) (N := 13) hx hb hts hiX6 hown hK hP 0 rfl rfl 3 (by decide) w_5 (fun _ h9 => h9) rfl dX6_done_142 ?_
                refine lv_iload_n hx hb dX6_done_145 rfl (lv_at hl 0 rfl) ?_
                refine r_fald hx hb hK hP 4 1 rfl rfl (k := i) (rfl) (by omega) (by decide) dX6_done_146 ?_
                refine r_fast hx hb hK hP hD hS 6 1 rfl rfl (k := (3 * q + i)) (rfl) (by omega) (by decide) dX6_done_147 (fun H locs hP hD hS => ?_)
                have hP : va_P D vwCl (mG ct a (nI q) T g1 f2 (rowOf u) u.2 (hisI (va_up w2 q u)) (vf_upd (mo (3 * q) u.2 (hisF w2) i) (3 * q + i) (u.2 i)) g7 f8 g9 g10 g11) H := hP
                have hD : va_D A (mG ct a (nI q) T g1 f2 (rowOf u) u.2 (hisI (va_up w2 q u)) (vf_upd (mo (3 * q) u.2 (hisF w2) i) (3 * q + i) (u.2 i)) g7 f8 g9 g10 g11) := hD
                refine lv_iinc (v := nI (i + 1)) (lv' := [(2, .int (nI (i + 1))), (0, .ref (a 0)), (1, .int x)]) hx hb dX6_done_148 hl (k := 0) rfl ((nI_succ i).symm) (by decide) rfl (fun ls hl => ?_)
                refine lv_goto (tgt := 124) hx hb dX6_done_151 (by decide) ?_
                exact ih_124 (i + 1) (by omega) (by omega) _ _ (by rw [← mo_sf (3 * q) u.2 (hisF w2) i]; exact hP) (mG_dn hD) hS ls (lv_sub hl [0, 1, 2] rfl)
          exact loop_124 (3 + 1) 0 (Nat.zero_le _) (by omega) _ _ (by rw [mo_0]; exact hP) (mG_dn hD) hS ls (lv_sub hl [0, 1, 2] rfl)
        · have hlt : i < 200 := nI_nle' (by omega) (by omega) c_92
          refine lv_aload_n hx hb dX6_done_95 rfl (lv_at hl 1 rfl) ?_
          refine va_get (D := D) (ci := 6) (v := .ref (a 5)) (C := RX6) (T := TX6) (N := 13) hx hb hts hiX6 hown hK hP 0 rfl rfl 4 (by decide) w_2 (fun _ h9 => h9) rfl dX6_done_96 ?_
          refine lv_sipush (v := 200) hx hb dX6_done_99 (by decide) ?_
          refine lv_aload_n hx hb dX6_done_102 rfl (lv_at hl 1 rfl) ?_
          refine va_get (D := D) (ci := 6) (v := .int (nI q)) (C := RX6) (T := TX6) (N := 13) hx hb hts hiX6 hown hK hP 0 rfl rfl 6 (by decide) w_1 (fun _ h9 => h9) rfl dX6_done_103 ?_
          refine lv_imul hx hb dX6_done_106 ?_
          refine lv_as (y := nI (200 * q)) (ix_mk 200 q 200 rfl) ?_
          refine lv_iload_n hx hb dX6_done_107 rfl (lv_at hl 0 rfl) ?_
          refine lv_iadd hx hb dX6_done_108 ?_
          refine lv_as (y := nI (200 * q + i)) (nI_add _ _) ?_
          refine lv_aload_n hx hb dX6_done_109 rfl (lv_at hl 1 rfl) ?_
          refine va_get (D := D) (ci := 6) (v := .ref (a 3)) (C := RX6) (T := TX6) (N := 13) hx hb hts hiX6 hown hK hP 0 rfl rfl 2 (by decide) w_4 (fun _ h9 => h9) rfl dX6_done_110 ?_
          refine lv_iload_n hx hb dX6_done_113 rfl (lv_at hl 0 rfl) ?_
          refine r_iald hx hb hK hP 3 0 rfl rfl (k := i) (rfl) (by omega) (by decide) dX6_done_114 ?_
          refine r_iast hx hb hK hP hD hS 5 0 rfl rfl (k := (200 * q + i)) (rfl) (by omega) (by decide) dX6_done_115 (fun H locs hP hD hS => ?_)
          have hP : va_P D vwCl (mG ct a (nI q) T g1 f2 (rowOf u) u.2 (upd (mo (200 * q) (rowOf u) (hisI w2) i) (200 * q + i) ((rowOf u) i)) (hisF w2) g7 f8 g9 g10 g11) H := hP
          have hD : va_D A (mG ct a (nI q) T g1 f2 (rowOf u) u.2 (upd (mo (200 * q) (rowOf u) (hisI w2) i) (200 * q + i) ((rowOf u) i)) (hisF w2) g7 f8 g9 g10 g11) := hD
          refine lv_iinc (v := nI (i + 1)) (lv' := [(2, .int (nI (i + 1))), (0, .ref (a 0)), (1, .int x)]) hx hb dX6_done_116 hl (k := 0) rfl ((nI_succ i).symm) (by decide) rfl (fun ls hl => ?_)
          refine lv_goto (tgt := 88) hx hb dX6_done_119 (by decide) ?_
          exact ih_88 (i + 1) (by omega) (by omega) _ _ (by rw [← mo_s (200 * q) (rowOf u) (hisI w2) i]; exact hP) (mG_dn hD) hS ls (lv_sub hl [0, 1, 2] rfl)
    exact loop_88 (200 + 1) 0 (Nat.zero_le _) (by omega) _ _ (by rw [mo_0]; exact hP) (mG_dn hD) hS ls (lv_sub hl [0, 1, 2] rfl)
  refine lv_aload_n hx hb dX6_done_0 rfl (lv_at hl 0 rfl) ?_
  refine va_get (D := D) (ci := 6) (v := .int (nI k)) (C := RX6) (T := TX6) (N := 13) hx hb hts hiX6 hown hK hP 0 rfl rfl 6 (by decide) w_1 (fun _ h9 => h9) rfl dX6_done_1 ?_
  refine lv_iconst (v := 5) hx hb dX6_done_4 (by decide) ?_
  refine lv_icmp_ne (tgt := 86) hx hb dX6_done_5 (by decide) (fun c_5 => ?_) (fun c_5 => ?_)
  · have hk5 : ¬ k = 5 := fun z => c_5 (by rw [z]; rfl)
    exact cut_86 k w (by omega) (by unfold kPush; rw [if_neg hk5]) (by unfold hPush; rw [if_neg hk5]) _ _ hP hD hS ls (lv_sub hl [0, 1] rfl)
  · have hk5 : k = 5 := (nI_eq (by omega) (by decide)).mp (show nI k = nI 5 from c_5)
    refine lv_aload_n hx hb dX6_done_8 rfl (lv_at hl 0 rfl) ?_
    refine lv_dup hx hb dX6_done_9 rfl ?_
    refine va_get (D := D) (ci := 6) (v := .int (nI k)) (C := RX6) (T := TX6) (N := 13) hx hb hts hiX6 hown hK hP 0 rfl rfl 6 (by decide) w_1 (fun _ h9 => h9) rfl dX6_done_10 ?_
    refine lv_iconst (v := 1) hx hb dX6_done_13 (by decide) ?_
    refine lv_isub hx hb dX6_done_14 ?_
    refine lv_as (y := nI 4) (by rw [hk5]; exact nI_pred 4) ?_
    refine va_put (D := D) (ci := 6) (v := .int (nI 4)) (ty := .int) (C := RX6) (T := TX6) (N := 13) hx hb hts hiX6 tyX6 tyX6_ok nmX6 hown hK hP hD hS 0 rfl rfl 6 (by decide) w_1 (fun _ h9 => h9) rfl (by decide +kernel) rfl rfl (Nat.le_of_ble_eq_true rfl) dX6_done_15 (fun H locs hP hD hS => ?_)
    have hP : va_P D vwCl (mG ct a (nI 4) T g1 f2 (rowOf u) u.2 (hisI w) (hisF w) g7 f8 g9 g10 g11) H := hP
    have hD : va_D A (mG ct a (nI 4) T g1 f2 (rowOf u) u.2 (hisI w) (hisF w) g7 f8 g9 g10 g11) := hD
    refine lv_iconst (v := 0) hx hb dX6_done_18 (by decide) ?_
    refine lv_istore_n (lv' := [(2, .int 0), (0, .ref (a 0)), (1, .int x)]) hx hb dX6_done_19 rfl hl (by decide) rfl (fun ls hl => ?_)
    have loop_20 : ∀ (n_20 : Nat) (i : Nat), (i ≤ 800) → (800 + 1 ≤ i + n_20) → ∀ (H : Heap) (locs : List Loc), va_P D vwCl (mG ct a (nI 4) T g1 f2 (rowOf u) u.2 (mo 0 (fun z => hisI w (z + 200)) (hisI w) i) (hisF w) g7 f8 g9 g10 g11) H → va_D A (mG ct a (nI 4) T g1 f2 (rowOf u) u.2 (mo 0 (fun z => hisI w (z + 200)) (hisI w) i) (hisF w) g7 f8 g9 g10 g11) → va_S A s.heap H locs → ∀ (ls : Array Slot), lv_has ls 3 [(2, .int (nI i)), (0, .ref (a 0)), (1, .int x)] → W p l e (headSpec wsX6_done ({ frames := 0, cells := 0, slots := 0, locals := 0 })).room s m #[.ref (a 0), .int x] below meth c H locs 0 0 (MQ below (muI D ct (mG ct a (nI k) T g1 f2 (rowOf u) u.2 (hisI w) (hisF w) g7 f8 g9 g10 g11) (mG ct a (nI (kPush k)) T g1 f2 (rowOf u) u.2 (hisI (hPush w k u)) (hisF (hPush w k u)) g7 f8 g9 g10 g11) s.heap.size (fun r => r = x)) #[.ref (a 0), .int x] s 0 0 (A)) (F0 m 20 ls []) := by
      intro n_20
      induction n_20 with
      | zero =>
        intro i hi hn
        exact absurd hn (by omega)
      | succ n_20 ih_20 =>
        intro i hi hn H locs hP hD hS ls hl
        refine lv_iload_n hx hb dX6_done_20 rfl (lv_at hl 0 rfl) ?_
        refine lv_sipush (v := 200) hx hb dX6_done_21 (by decide) ?_
        refine lv_aload_n hx hb dX6_done_24 rfl (lv_at hl 1 rfl) ?_
        refine va_get (D := D) (ci := 6) (v := .int (nI 4)) (C := RX6) (T := TX6) (N := 13) hx hb hts hiX6 hown hK hP 0 rfl rfl 6 (by decide) w_1 (fun _ h9 => h9) rfl dX6_done_25 ?_
        refine lv_imul hx hb dX6_done_28 ?_
        refine lv_as (y := nI 800) (rfl) ?_
        refine lv_icmp_ge (tgt := 54) hx hb dX6_done_29 (by decide) (fun c_29 => ?_) (fun c_29 => ?_)
        · have hge : 800 ≤ i := nI_le' (by omega) (by omega) c_29
          have hP : va_P D vwCl (mG ct a (nI 4) T g1 f2 (rowOf u) u.2 (hisI (hSh w)) (hisF w) g7 f8 g9 g10 g11) H := (mG_ext hP (fun _ _ => rfl) (fun _ _ => rfl) (fun _ _ => rfl) (fun _ _ => rfl) (fun j _ => by rw [show i = 800 by omega]; exact hisI_sh w j) (fun _ _ => rfl) (fun _ _ => rfl) (fun _ _ => rfl) (fun _ _ => rfl) (fun _ _ => rfl) (fun _ _ => rfl))
          have hD : va_D A (mG ct a (nI 4) T g1 f2 (rowOf u) u.2 (hisI (hSh w)) (hisF w) g7 f8 g9 g10 g11) := mG_dn hD
          refine lv_iconst (v := 0) hx hb dX6_done_54 (by decide) ?_
          refine lv_istore_n (lv' := [(2, .int 0), (0, .ref (a 0)), (1, .int x)]) hx hb dX6_done_55 rfl hl (by decide) rfl (fun ls hl => ?_)
          have loop_56 : ∀ (n_56 : Nat) (i : Nat), (i ≤ 12) → (12 + 1 ≤ i + n_56) → ∀ (H : Heap) (locs : List Loc), va_P D vwCl (mG ct a (nI 4) T g1 f2 (rowOf u) u.2 (hisI (hSh w)) (mo 0 (fun z => hisF w (z + 3)) (hisF w) i) g7 f8 g9 g10 g11) H → va_D A (mG ct a (nI 4) T g1 f2 (rowOf u) u.2 (hisI (hSh w)) (mo 0 (fun z => hisF w (z + 3)) (hisF w) i) g7 f8 g9 g10 g11) → va_S A s.heap H locs → ∀ (ls : Array Slot), lv_has ls 3 [(2, .int (nI i)), (0, .ref (a 0)), (1, .int x)] → W p l e (headSpec wsX6_done ({ frames := 0, cells := 0, slots := 0, locals := 0 })).room s m #[.ref (a 0), .int x] below meth c H locs 0 0 (MQ below (muI D ct (mG ct a (nI k) T g1 f2 (rowOf u) u.2 (hisI w) (hisF w) g7 f8 g9 g10 g11) (mG ct a (nI (kPush k)) T g1 f2 (rowOf u) u.2 (hisI (hPush w k u)) (hisF (hPush w k u)) g7 f8 g9 g10 g11) s.heap.size (fun r => r = x)) #[.ref (a 0), .int x] s 0 0 (A)) (F0 m 56 ls []) := by
            intro n_56
            induction n_56 with
            | zero =>
              intro i hi hn
              exact absurd hn (by omega)
            | succ n_56 ih_56 =>
              intro i hi hn H locs hP hD hS ls hl
              refine lv_iload_n hx hb dX6_done_56 rfl (lv_at hl 0 rfl) ?_
              refine lv_iconst (v := 3) hx hb dX6_done_57 (by decide) ?_
              refine lv_aload_n hx hb dX6_done_58 rfl (lv_at hl 1 rfl) ?_
              refine va_get (D := D) (ci := 6) (v := .int (nI 4)) (C := RX6) (T := TX6) (N := 13) hx hb hts hiX6 hown hK hP 0 rfl rfl 6 (by decide) w_1 (fun _ h9 => h9) rfl dX6_done_59 ?_
              refine lv_imul hx hb dX6_done_62 ?_
              refine lv_as (y := nI 12) (rfl) ?_
              refine lv_icmp_ge (tgt := 86) hx hb dX6_done_63 (by decide) (fun c_63 => ?_) (fun c_63 => ?_)
              · have hge : 12 ≤ i := nI_le' (by omega) (by omega) c_63
                exact cut_86 4 (hSh w) (by omega) (by unfold kPush; rw [if_pos hk5]) (by unfold hPush; rw [if_pos hk5]) _ _ (mG_ext hP (fun _ _ => rfl) (fun _ _ => rfl) (fun _ _ => rfl) (fun _ _ => rfl) (fun _ _ => rfl) (fun j _ => by rw [show i = 12 by omega]; exact hisF_sh w j) (fun _ _ => rfl) (fun _ _ => rfl) (fun _ _ => rfl) (fun _ _ => rfl) (fun _ _ => rfl)) (mG_dn hD) hS ls (lv_sub hl [1, 2] rfl)
              · have hlt : i < 12 := nI_nle' (by omega) (by omega) c_63
                refine lv_aload_n hx hb dX6_done_66 rfl (lv_at hl 1 rfl) ?_
                refine va_get (D := D) (ci := 6) (v := .ref (a 6)) (C := RX6) (T := TX6) (N := 13) hx hb hts hiX6 hown hK hP 0 rfl rfl 5 (by decide) w_3 (fun _ h9 => h9) rfl dX6_done_67 ?_
                refine lv_iload_n hx hb dX6_done_70 rfl (lv_at hl 0 rfl) ?_
                refine lv_aload_n hx hb dX6_done_71 rfl (lv_at hl 1 rfl) ?_
                refine va_get (D := D) (ci := 6) (v := .ref (a 6)) (C := RX6) (T := TX6) (N := 13) hx hb hts hiX6 hown hK hP 0 rfl rfl 5 (by decide) w_3 (fun _ h9 => h9) rfl dX6_done_72 ?_
                refine lv_iload_n hx hb dX6_done_75 rfl (lv_at hl 0 rfl) ?_
                refine lv_iconst (v := 3) hx hb dX6_done_76 (by decide) ?_
                refine lv_iadd hx hb dX6_done_77 ?_
                refine lv_as (y := nI (i + 3)) (nI_add i 3) ?_
                refine r_fald hx hb hK hP 6 1 rfl rfl (k := (i + 3)) (rfl) (by omega) (by decide) dX6_done_78 ?_
                refine lv_asf (y := hisF w (i + 3)) (mo_ge _ _ _ _ (by omega)) ?_
                refine r_fast hx hb hK hP hD hS 6 1 rfl rfl (k := i) (rfl) (by omega) (by decide) dX6_done_79 (fun H locs hP hD hS => ?_)
                have hP : va_P D vwCl (mG ct a (nI 4) T g1 f2 (rowOf u) u.2 (hisI (hSh w)) (vf_upd (mo 0 (fun z => hisF w (z + 3)) (hisF w) i) i (hisF w (i + 3))) g7 f8 g9 g10 g11) H := hP
                have hD : va_D A (mG ct a (nI 4) T g1 f2 (rowOf u) u.2 (hisI (hSh w)) (vf_upd (mo 0 (fun z => hisF w (z + 3)) (hisF w) i) i (hisF w (i + 3))) g7 f8 g9 g10 g11) := hD
                refine lv_iinc (v := nI (i + 1)) (lv' := [(2, .int (nI (i + 1))), (0, .ref (a 0)), (1, .int x)]) hx hb dX6_done_80 hl (k := 0) rfl ((nI_succ i).symm) (by decide) rfl (fun ls hl => ?_)
                refine lv_goto (tgt := 56) hx hb dX6_done_83 (by decide) ?_
                exact ih_56 (i + 1) (by omega) (by omega) _ _ (by rw [← mo_sf0 (fun z => hisF w (z + 3)) (hisF w) i]; exact hP) (mG_dn hD) hS ls (lv_sub hl [0, 1, 2] rfl)
          exact loop_56 (12 + 1) 0 (Nat.zero_le _) (by omega) _ _ (by rw [mo_0]; exact hP) (mG_dn hD) hS ls (lv_sub hl [0, 1, 2] rfl)
        · have hlt : i < 800 := nI_nle' (by omega) (by omega) c_29
          refine lv_aload_n hx hb dX6_done_32 rfl (lv_at hl 1 rfl) ?_
          refine va_get (D := D) (ci := 6) (v := .ref (a 5)) (C := RX6) (T := TX6) (N := 13) hx hb hts hiX6 hown hK hP 0 rfl rfl 4 (by decide) w_2 (fun _ h9 => h9) rfl dX6_done_33 ?_
          refine lv_iload_n hx hb dX6_done_36 rfl (lv_at hl 0 rfl) ?_
          refine lv_aload_n hx hb dX6_done_37 rfl (lv_at hl 1 rfl) ?_
          refine va_get (D := D) (ci := 6) (v := .ref (a 5)) (C := RX6) (T := TX6) (N := 13) hx hb hts hiX6 hown hK hP 0 rfl rfl 4 (by decide) w_2 (fun _ h9 => h9) rfl dX6_done_38 ?_
          refine lv_iload_n hx hb dX6_done_41 rfl (lv_at hl 0 rfl) ?_
          refine lv_sipush (v := 200) hx hb dX6_done_42 (by decide) ?_
          refine lv_iadd hx hb dX6_done_45 ?_
          refine lv_as (y := nI (i + 200)) (nI_add i 200) ?_
          refine r_iald hx hb hK hP 5 0 rfl rfl (k := (i + 200)) (rfl) (by omega) (by decide) dX6_done_46 ?_
          refine lv_as (y := hisI w (i + 200)) (mo_ge _ _ _ _ (by omega)) ?_
          refine r_iast hx hb hK hP hD hS 5 0 rfl rfl (k := i) (rfl) (by omega) (by decide) dX6_done_47 (fun H locs hP hD hS => ?_)
          have hP : va_P D vwCl (mG ct a (nI 4) T g1 f2 (rowOf u) u.2 (upd (mo 0 (fun z => hisI w (z + 200)) (hisI w) i) i (hisI w (i + 200))) (hisF w) g7 f8 g9 g10 g11) H := hP
          have hD : va_D A (mG ct a (nI 4) T g1 f2 (rowOf u) u.2 (upd (mo 0 (fun z => hisI w (z + 200)) (hisI w) i) i (hisI w (i + 200))) (hisF w) g7 f8 g9 g10 g11) := hD
          refine lv_iinc (v := nI (i + 1)) (lv' := [(2, .int (nI (i + 1))), (0, .ref (a 0)), (1, .int x)]) hx hb dX6_done_48 hl (k := 0) rfl ((nI_succ i).symm) (by decide) rfl (fun ls hl => ?_)
          refine lv_goto (tgt := 20) hx hb dX6_done_51 (by decide) ?_
          exact ih_20 (i + 1) (by omega) (by omega) _ _ (by rw [← mo_s0 (fun z => hisI w (z + 200)) (hisI w) i]; exact hP) (mG_dn hD) hS ls (lv_sub hl [0, 1, 2] rfl)
    exact loop_20 (800 + 1) 0 (Nat.zero_le _) (by omega) _ _ (by rw [mo_0]; exact hP) (mG_dn hD) hS ls (lv_sub hl [0, 1, 2] rfl)

