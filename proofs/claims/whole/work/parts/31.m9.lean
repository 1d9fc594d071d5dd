set_option maxHeartbeats 4000000 in
set_option maxRecDepth 100000 in
theorem k_X6_show_e (l : Launch) (D : va_G) (ct : Nat → ClassId) (sz : Nat) (a : Nat → Nat) (v u : SV) (w sl : Nat → SV) (k t : Nat) (hk : k ≤ 5) (ik tx rd : Nat → Int32) (ok : Inv v) (ht30 : t ≤ 30) (h4 : ¬ (shO tx (nOf v) t 0 0 0 (fun _ => 0)).1 = -4) : Met l yX6_show wsX6_show ({ frames := 1, cells := 0, slots := 0, locals := 23 }) (muP D ct (mG ct a (nI k) (nI t) (rowOf v) v.2 (rowOf u) u.2 (hisI w) (hisF w) (hisI sl) (hisF sl) ik tx rd) sz [.ref (a 0)]) (muI D ct (mG ct a (nI k) (nI t) (rowOf v) v.2 (rowOf u) u.2 (hisI w) (hisF w) (hisI sl) (hisF sl) ik tx rd) (mS ct a v u w sl k t ik tx (shO tx (nOf v) t 0 0 0 rd).2.2) sz (fun r => r = -100 - (shO tx (nOf v) t 0 0 0 (fun _ => 0)).1)) 0 0 (va_A (mG ct a (nI k) (nI t) (rowOf v) v.2 (rowOf u) u.2 (hisI w) (hisF w) (hisI sl) (hisF sl) ik tx rd) sz) := by
  refine Met.ofW (cc := cX6_show) (maxL := 6) (ret := (some .int)) (by decide) rfl ?_
  intro p e s m args below meth c s₁ B hml hv
  obtain ⟨rfl, hsz, hP, hK, hN, hD0⟩ := hv
  have hx := B.exec
  have hb := B.bytes
  have hr := B.returns
  have hts := atoms_spec (ws := wsX6_show) B.pre
  have hown : s.vm.findClass RX6 = some m.cls := findClass_of_methodNamed B.named
  have hlocks := B.notSynchronized
  subst hsz
  have hD := hD0.self (sz := s.heap.size)
  generalize hAe : va_A (mG ct a (nI k) (nI t) (rowOf v) v.2 (rowOf u) u.2 (hisI w) (hisF w) (hisI sl) (hisF sl) ik tx rd) s.heap.size = A at hD
  have hA : ∀ q : Nat, s.heap.size ≤ q → A q := fun q h => by rw [← hAe]; exact Or.inr h
  have hS : va_S A s.heap s.heap [] := va_S.rf
  have w_1 := hts (.fieldLink RX6 129 "ScannedDigitsModel" "typed" "I") (List.mem_of_getElem? (i := 1) rfl)
  have w_2 := hts (.fieldLink RX6 39 "ScannedDigitsModel" "text" "[C") (List.mem_of_getElem? (i := 2) rfl)
  have w_3 := hts (.fieldLink RX6 7 "ScannedDigitsModel" "row" "[I") (List.mem_of_getElem? (i := 3) rfl)
  have w_4 := hts (.fieldLink RX6 43 "ScannedDigitsModel" "read" "[I") (List.mem_of_getElem? (i := 4) rfl)
  have hiX6 : ∀ w ∈ wsX60, w ∈ wsX6_show := fun w h => (goodIn_r wsX60 [27, 28, 29, 30, 31, 32, 33, 34, 35, 36, 37, 38, 39] (by decide +kernel) (by decide +kernel) w h).1
  have hl := lv_entry ([.ref (a 0)]) (n := 6) (Nat.le_of_ble_eq_true rfl)
  rw [lg_entry_eq]
  generalize (lg_sl ([.ref (a 0)]) ++ List.replicate (6 - (lg_sl ([.ref (a 0)])).length) Slot.unset).toArray = ls at hl ⊢
  have hl : lv_has ls 6 [(0, .ref (a 0))] := hl
  have n8 := ok.n8
  refine lv_iconst (v := 0) hx hb dX6_show_0 (by decide) ?_
  refine lv_istore_n (lv' := [(1, .int 0), (0, .ref (a 0))]) hx hb dX6_show_1 rfl hl (by decide) rfl (fun ls hl => ?_)
  refine lv_iconst (v := 0) hx hb dX6_show_2 (by decide) ?_
  refine lv_istore_n (lv' := [(2, .int 0), (1, .int 0), (0, .ref (a 0))]) hx hb dX6_show_3 rfl hl (by decide) rfl (fun ls hl => ?_)
  refine lv_iconst (v := 0) hx hb dX6_show_4 (by decide) ?_
  refine lv_istore_n (lv' := [(3, .int 0), (2, .int 0), (1, .int 0), (0, .ref (a 0))]) hx hb dX6_show_5 rfl hl (by decide) rfl (fun ls hl => ?_)
  have loop_6 : ∀ (n_6 : Nat) (i n : Nat) (q : Int32) (P R : Nat → Int32), (i ≤ t) → (t + 1 ≤ i + n_6) → (n ≤ i) → (n ≤ nOf v) → (¬ q = 0 → 0 < n) → (¬ q = 0 → R (n - 1) + 128 = R (n - 1) ||| 128) → (∀ j, j < n → R j = P j) → (∀ j, n ≤ j → P j = 0) → (shO tx (nOf v) (t - i) i n q R = (shO tx (nOf v) t 0 0 0 rd)) → (shO tx (nOf v) (t - i) i n q P = (shO tx (nOf v) t 0 0 0 (fun _ => 0))) → ∀ (H : Heap) (locs : List Loc), va_P D vwCl (mG ct a (nI k) (nI t) (rowOf v) v.2 (rowOf u) u.2 (hisI w) (hisF w) (hisI sl) (hisF sl) ik tx R) H → va_D A (mG ct a (nI k) (nI t) (rowOf v) v.2 (rowOf u) u.2 (hisI w) (hisF w) (hisI sl) (hisF sl) ik tx R) → va_S A s.heap H locs → ∀ (ls : Array Slot), lv_has ls 6 [(0, .ref (a 0)), (1, .int (nI n)), (2, .int q), (3, .int (nI i))] → W p l e (headSpec wsX6_show ({ frames := 1, cells := 0, slots := 0, locals := 23 })).room s m #[.ref (a 0)] below meth c H locs 0 0 (MQ below (muI D ct (mG ct a (nI k) (nI t) (rowOf v) v.2 (rowOf u) u.2 (hisI w) (hisF w) (hisI sl) (hisF sl) ik tx rd) (mS ct a v u w sl k t ik tx (shO tx (nOf v) t 0 0 0 rd).2.2) s.heap.size (fun r => r = -100 - (shO tx (nOf v) t 0 0 0 (fun _ => 0)).1)) #[.ref (a 0)] s 0 0 (A)) (F0 m 6 ls []) := by
    intro n_6
    induction n_6 with
    | zero =>
      intro i n q P R hi hn hni hnd hq0 hor hRP hz hq1 hq2
      exact absurd hn (by omega)
    | succ n_6 ih_6 =>
      intro i n q P R hi hn hni hnd hq0 hor hRP hz hq1 hq2 H locs hP hD hS ls hl
      refine lv_iload_n hx hb dX6_show_6 rfl (lv_at hl 3 rfl) ?_
      refine lv_aload_n hx hb dX6_show_7 rfl (lv_at hl 0 rfl) ?_
      refine va_get (D := D) (ci := 6) (v := .int (nI t)) (C := RX6) (T := TX6) (N := 13) hx hb hts hiX6 hown hK hP 0 rfl rfl 10 (by decide) w_1 (fun _ h9 => h9) rfl dX6_show_8 ?_
      refine lv_icmp_ge (tgt := 153) hx hb dX6_show_11 (by decide) (fun c_11 => ?_) (fun c_11 => ?_)
      · have hge0 : t ≤ i := nI_le' (by omega) (by omega) c_11
        have he := hq2.symm.trans (sho_z (by omega))
        rw [he] at h4
        exact absurd rfl h4
      · have hlt : i < t := nI_nle' (by omega) (by omega) c_11
        refine lv_aload_n hx hb dX6_show_14 rfl (lv_at hl 0 rfl) ?_
        refine va_get (D := D) (ci := 6) (v := .ref (a 10)) (C := RX6) (T := TX6) (N := 13) hx hb hts hiX6 hown hK hP 0 rfl rfl 11 (by decide) w_2 (fun _ h9 => h9) rfl dX6_show_15 ?_
        refine lv_iload_n hx hb dX6_show_18 rfl (lv_at hl 3 rfl) ?_
        refine r_cald hx hb hK hP 10 2 rfl rfl (k := i) (rfl) (by omega) (by decide) dX6_show_19 ?_
        refine lv_bipush (v := 46) hx hb dX6_show_20 (by decide) ?_
        refine lv_icmp_ne (tgt := 29) hx hb dX6_show_22 (by decide) (fun c_22 => ?_) (fun c_22 => ?_)
        · refine lv_iconst (v := 0) hx hb dX6_show_29 (by decide) ?_
          refine lv_istore (lv' := [(4, .int 0), (0, .ref (a 0)), (1, .int (nI n)), (2, .int q), (3, .int (nI i))]) hx hb dX6_show_30 hl (by decide) rfl (fun ls hl => ?_)
          refine lv_iload hx hb dX6_show_32 (lv_at hl 0 rfl) ?_
          refine lv_if_eq (tgt := 41) hx hb dX6_show_34 (by decide) (fun c_34 => ?_) (fun c_34 => ?_)
          · refine lv_iconst (v := 1) hx hb dX6_show_41 (by decide) ?_
            refine lv_goto (tgt := 46) hx hb dX6_show_42 (by decide) ?_
            refine lv_istore (lv' := [(5, .int 1), (4, .int 0), (0, .ref (a 0)), (1, .int (nI n)), (2, .int q), (3, .int (nI i))]) hx hb dX6_show_46 hl (by decide) rfl (fun ls hl => ?_)
            refine lv_iload hx hb dX6_show_48 (lv_at hl 1 rfl) ?_
            refine lv_if_ne (tgt := 65) hx hb dX6_show_50 (by decide) (fun c_50 => ?_) (fun c_50 => ?_)
            · exact absurd rfl c_50
            · refine lv_aload_n hx hb dX6_show_53 rfl (lv_at hl 2 rfl) ?_
              refine va_get (D := D) (ci := 6) (v := .ref (a 10)) (C := RX6) (T := TX6) (N := 13) hx hb hts hiX6 hown hK hP 0 rfl rfl 11 (by decide) w_2 (fun _ h9 => h9) rfl dX6_show_54 ?_
              refine lv_iload_n hx hb dX6_show_57 rfl (lv_at hl 5 rfl) ?_
              refine r_cald hx hb hK hP 10 2 rfl rfl (k := i) (rfl) (by omega) (by decide) dX6_show_58 ?_
              refine vp_callSi (va_runS (As := [.int (tx i)]) (rest := []) ⟨hx, hb, hml, hown, hts⟩ (k_X6_patternOf l D ct (tx i)) (va_cwS 1 hts gX6_show_X6_patternOf rfl rfl rfl (by decide +kernel) ⟨Nat.le_of_ble_eq_true rfl, Nat.le_of_ble_eq_true rfl⟩) ⟨roP.blind, roP.at pw_nil hK hN⟩ rfl rfl hl.1 rfl (lv_room (Nat.le_of_ble_eq_true rfl)) dX6_show_59 ⟨Nat.le_of_ble_eq_true rfl, Nat.le_of_ble_eq_true rfl⟩).run (fun r_59 h_59 => ?_)
              obtain rfl : r_59 = pPat (tx i) := h_59
              refine lv_if_lt (tgt := 80) hx hb dX6_show_62 (by decide) (fun c_62 => ?_) (fun c_62 => ?_)
              · have he := hq2.symm.trans (sho_c0 hlt c_22 (pPat_neg c_62))
                have he1 := hq1.symm.trans (sho_c0 hlt c_22 (pPat_neg c_62))
                refine lv_bipush (v := (-100)) hx hb dX6_show_80 (by decide) ?_
                refine lv_iload_n hx hb dX6_show_82 rfl (lv_at hl 5 rfl) ?_
                refine lv_isub hx hb dX6_show_83 ?_
                have hP9 : va_P D vwCl (mS ct a v u w sl k t ik tx (shO tx (nOf v) t 0 0 0 rd).2.2) _ := mG_rd (by rw [he1]) hP
                have hD9 : va_D A (mS ct a v u w sl k t ik tx (shO tx (nOf v) t 0 0 0 rd).2.2) := mG_dn hD
                subst hAe
                exact W.iret (v := ((-100) - (nI i))) hx hb hr (fun tt ht hW => ⟨⟨((-100) - (nI i)), (), rfl, by rw [he], muE.of (ct := ct) hP9 hD9 ht⟩, hS.F ht⟩) hS.2.2 dX6_show_84
              · have hpp := pPat_pos c_62
                refine lv_iload hx hb dX6_show_65 (lv_at hl 0 rfl) ?_
                refine lv_if_eq (tgt := 85) hx hb dX6_show_67 (by decide) (fun c_67 => ?_) (fun c_67 => ?_)
                · exact absurd c_67 (by decide)
                · refine lv_iload_n hx hb dX6_show_70 rfl (lv_at hl 3 rfl) ?_
                  refine lv_aload_n hx hb dX6_show_71 rfl (lv_at hl 2 rfl) ?_
                  refine va_get (D := D) (ci := 6) (v := .ref (a 1)) (C := RX6) (T := TX6) (N := 13) hx hb hts hiX6 hown hK hP 0 rfl rfl 0 (by decide) w_3 (fun _ h9 => h9) rfl dX6_show_72 ?_
                  refine lv_iconst (v := 0) hx hb dX6_show_75 (by decide) ?_
                  refine r_iald hx hb hK hP 1 0 rfl rfl (k := 0) (rfl) (by decide) (by decide) dX6_show_76 ?_
                  refine lv_as (y := nI (nOf v)) ((row_0 v (by decide)).trans ok.cnt) ?_
                  refine lv_icmp_ne (tgt := 85) hx hb dX6_show_77 (by decide) (fun c_77 => ?_) (fun c_77 => ?_)
                  · have hlt2 : n < nOf v := Nat.lt_of_le_of_ne hnd (fun z => c_77 (congrArg nI z))
                    refine lv_iload hx hb dX6_show_85 (lv_at hl 0 rfl) ?_
                    refine lv_if_eq (tgt := 122) hx hb dX6_show_87 (by decide) (fun c_87 => ?_) (fun c_87 => ?_)
                    · exact absurd c_87 (by decide)
                    · refine lv_aload_n hx hb dX6_show_90 rfl (lv_at hl 2 rfl) ?_
                      refine va_get (D := D) (ci := 6) (v := .ref (a 11)) (C := RX6) (T := TX6) (N := 13) hx hb hts hiX6 hown hK hP 0 rfl rfl 12 (by decide) w_4 (fun _ h9 => h9) rfl dX6_show_91 ?_
                      refine lv_iload_n hx hb dX6_show_94 rfl (lv_at hl 3 rfl) ?_
                      refine lv_iload hx hb dX6_show_95 (lv_at hl 1 rfl) ?_
                      refine lv_if_eq (tgt := 106) hx hb dX6_show_97 (by decide) (fun c_97 => ?_) (fun c_97 => ?_)
                      · refine lv_aload_n hx hb dX6_show_106 rfl (lv_at hl 2 rfl) ?_
                        refine va_get (D := D) (ci := 6) (v := .ref (a 10)) (C := RX6) (T := TX6) (N := 13) hx hb hts hiX6 hown hK hP 0 rfl rfl 11 (by decide) w_2 (fun _ h9 => h9) rfl dX6_show_107 ?_
                        refine lv_iload_n hx hb dX6_show_110 rfl (lv_at hl 5 rfl) ?_
                        refine r_cald hx hb hK hP 10 2 rfl rfl (k := i) (rfl) (by omega) (by decide) dX6_show_111 ?_
                        refine vp_callSi (va_runS (As := [.int (tx i)]) (rest := [.int (nI n), .ref (a 11)]) ⟨hx, hb, hml, hown, hts⟩ (k_X6_patternOf l D ct (tx i)) (va_cwS 1 hts gX6_show_X6_patternOf rfl rfl rfl (by decide +kernel) ⟨Nat.le_of_ble_eq_true rfl, Nat.le_of_ble_eq_true rfl⟩) ⟨roP.blind, roP.at pw_nil hK hN⟩ rfl rfl hl.1 rfl (lv_room (Nat.le_of_ble_eq_true rfl)) dX6_show_112 ⟨Nat.le_of_ble_eq_true rfl, Nat.le_of_ble_eq_true rfl⟩).run (fun r_112 h_112 => ?_)
                        obtain rfl : r_112 = pPat (tx i) := h_112
                        refine r_iast hx hb hK hP hD hS 11 0 rfl rfl (k := n) (rfl) (by omega) (by decide) dX6_show_115 (fun H locs hP hD hS => ?_)
                        have hP : va_P D vwCl (mG ct a (nI k) (nI t) (rowOf v) v.2 (rowOf u) u.2 (hisI w) (hisF w) (hisI sl) (hisF sl) ik tx (upd R n (pPat (tx i)))) H := hP
                        have hD : va_D A (mG ct a (nI k) (nI t) (rowOf v) v.2 (rowOf u) u.2 (hisI w) (hisF w) (hisI sl) (hisF sl) ik tx (upd R n (pPat (tx i)))) := hD
                        refine lv_iinc (v := nI (n + 1)) (lv' := [(1, .int (nI (n + 1))), (5, .int 1), (4, .int 0), (0, .ref (a 0)), (2, .int q), (3, .int (nI i))]) hx hb dX6_show_116 hl (k := 3) rfl ((nI_succ n).symm) (by decide) rfl (fun ls hl => ?_)
                        refine lv_goto (tgt := 136) hx hb dX6_show_119 (by decide) ?_
                        refine lv_iload hx hb dX6_show_136 (lv_at hl 2 rfl) ?_
                        refine lv_if_ne (tgt := 145) hx hb dX6_show_138 (by decide) (fun c_138 => ?_) (fun c_138 => ?_)
                        · exact absurd rfl c_138
                        · refine lv_iconst (v := 1) hx hb dX6_show_141 (by decide) ?_
                          refine lv_goto (tgt := 146) hx hb dX6_show_142 (by decide) ?_
                          refine lv_istore_n (lv' := [(2, .int 1), (1, .int (nI (n + 1))), (5, .int 1), (4, .int 0), (0, .ref (a 0)), (3, .int (nI i))]) hx hb dX6_show_146 rfl hl (by decide) rfl (fun ls hl => ?_)
                          refine lv_iinc (v := nI (i + 1)) (lv' := [(3, .int (nI (i + 1))), (2, .int 1), (1, .int (nI (n + 1))), (5, .int 1), (4, .int 0), (0, .ref (a 0))]) hx hb dX6_show_147 hl (k := 5) rfl ((nI_succ i).symm) (by decide) rfl (fun ls hl => ?_)
                          refine lv_goto (tgt := 6) hx hb dX6_show_150 (by decide) ?_
                          exact ih_6 (i + 1) (n + 1) 1 _ _ (by omega) (by omega) (by omega) (by omega) (fun _ => Nat.succ_pos n) (fun _ => by rw [Nat.add_sub_cancel]; unfold upd; rw [if_pos rfl]; exact pPat_or hpp) (up_lt _ hRP) (up_z _ hz) ((sho_c2 hlt c_22 hpp (by omega)).symm.trans hq1) ((sho_c2 hlt c_22 hpp (by omega)).symm.trans hq2) _ _ hP (mG_dn hD) hS ls (lv_sub hl [5, 2, 1, 0] rfl)
                      · exact absurd rfl c_97
                  · have hge : nOf v ≤ n := Nat.le_of_eq ((nI_eq (by omega) (by omega)).mp c_77).symm
                    have he := hq2.symm.trans (sho_c1 hlt c_22 hge)
                    have he1 := hq1.symm.trans (sho_c1 hlt c_22 hge)
                    refine lv_bipush (v := (-100)) hx hb dX6_show_80 (by decide) ?_
                    refine lv_iload_n hx hb dX6_show_82 rfl (lv_at hl 5 rfl) ?_
                    refine lv_isub hx hb dX6_show_83 ?_
                    have hP9 : va_P D vwCl (mS ct a v u w sl k t ik tx (shO tx (nOf v) t 0 0 0 rd).2.2) _ := mG_rd (by rw [he1]) hP
                    have hD9 : va_D A (mS ct a v u w sl k t ik tx (shO tx (nOf v) t 0 0 0 rd).2.2) := mG_dn hD
                    subst hAe
                    exact W.iret (v := ((-100) - (nI i))) hx hb hr (fun tt ht hW => ⟨⟨((-100) - (nI i)), (), rfl, by rw [he], muE.of (ct := ct) hP9 hD9 ht⟩, hS.F ht⟩) hS.2.2 dX6_show_84
          · exact absurd rfl c_34
        · refine lv_iconst (v := 1) hx hb dX6_show_25 (by decide) ?_
          refine lv_goto (tgt := 30) hx hb dX6_show_26 (by decide) ?_
          refine lv_istore (lv' := [(4, .int 1), (0, .ref (a 0)), (1, .int (nI n)), (2, .int q), (3, .int (nI i))]) hx hb dX6_show_30 hl (by decide) rfl (fun ls hl => ?_)
          refine lv_iload hx hb dX6_show_32 (lv_at hl 0 rfl) ?_
          refine lv_if_eq (tgt := 41) hx hb dX6_show_34 (by decide) (fun c_34 => ?_) (fun c_34 => ?_)
          · exact absurd c_34 (by decide)
          · refine lv_iload_n hx hb dX6_show_37 rfl (lv_at hl 3 rfl) ?_
            refine lv_if_ne (tgt := 45) hx hb dX6_show_38 (by decide) (fun c_38 => ?_) (fun c_38 => ?_)
            · refine lv_iconst (v := 0) hx hb dX6_show_45 (by decide) ?_
              refine lv_istore (lv' := [(5, .int 0), (4, .int 1), (0, .ref (a 0)), (1, .int (nI n)), (2, .int q), (3, .int (nI i))]) hx hb dX6_show_46 hl (by decide) rfl (fun ls hl => ?_)
              refine lv_iload hx hb dX6_show_48 (lv_at hl 1 rfl) ?_
              refine lv_if_ne (tgt := 65) hx hb dX6_show_50 (by decide) (fun c_50 => ?_) (fun c_50 => ?_)
              · refine lv_iload hx hb dX6_show_65 (lv_at hl 0 rfl) ?_
                refine lv_if_eq (tgt := 85) hx hb dX6_show_67 (by decide) (fun c_67 => ?_) (fun c_67 => ?_)
                · refine lv_iload hx hb dX6_show_85 (lv_at hl 0 rfl) ?_
                  refine lv_if_eq (tgt := 122) hx hb dX6_show_87 (by decide) (fun c_87 => ?_) (fun c_87 => ?_)
                  · refine lv_aload_n hx hb dX6_show_122 rfl (lv_at hl 2 rfl) ?_
                    refine va_get (D := D) (ci := 6) (v := .ref (a 11)) (C := RX6) (T := TX6) (N := 13) hx hb hts hiX6 hown hK hP 0 rfl rfl 12 (by decide) w_4 (fun _ h9 => h9) rfl dX6_show_123 ?_
                    refine lv_iload_n hx hb dX6_show_126 rfl (lv_at hl 3 rfl) ?_
                    refine lv_iconst (v := 1) hx hb dX6_show_127 (by decide) ?_
                    refine lv_isub hx hb dX6_show_128 ?_
                    refine lv_as (y := nI (n - 1)) (nI_dec (hq0 c_38)) ?_
                    refine lv_dup2_11 hx hb dX6_show_129 rfl rfl ?_
                    refine r_iald hx hb hK hP 11 0 rfl rfl (k := (n - 1)) (rfl) (by have := hq0 c_38; omega) (by decide) dX6_show_130 ?_
                    refine lv_sipush (v := 128) hx hb dX6_show_131 (by decide) ?_
                    refine lv_iadd hx hb dX6_show_134 ?_
                    refine lv_as (y := R (n - 1) ||| 128) (hor c_38) ?_
                    refine r_iast hx hb hK hP hD hS 11 0 rfl rfl (k := (n - 1)) (rfl) (by have := hq0 c_38; omega) (by decide) dX6_show_135 (fun H locs hP hD hS => ?_)
                    have hP : va_P D vwCl (mG ct a (nI k) (nI t) (rowOf v) v.2 (rowOf u) u.2 (hisI w) (hisF w) (hisI sl) (hisF sl) ik tx (upd R (n - 1) (R (n - 1) ||| 128))) H := hP
                    have hD : va_D A (mG ct a (nI k) (nI t) (rowOf v) v.2 (rowOf u) u.2 (hisI w) (hisF w) (hisI sl) (hisF sl) ik tx (upd R (n - 1) (R (n - 1) ||| 128))) := hD
                    refine lv_iload hx hb dX6_show_136 (lv_at hl 1 rfl) ?_
                    refine lv_if_ne (tgt := 145) hx hb dX6_show_138 (by decide) (fun c_138 => ?_) (fun c_138 => ?_)
                    · refine lv_iconst (v := 0) hx hb dX6_show_145 (by decide) ?_
                      refine lv_istore_n (lv' := [(2, .int 0), (5, .int 0), (4, .int 1), (0, .ref (a 0)), (1, .int (nI n)), (3, .int (nI i))]) hx hb dX6_show_146 rfl hl (by decide) rfl (fun ls hl => ?_)
                      refine lv_iinc (v := nI (i + 1)) (lv' := [(3, .int (nI (i + 1))), (2, .int 0), (5, .int 0), (4, .int 1), (0, .ref (a 0)), (1, .int (nI n))]) hx hb dX6_show_147 hl (k := 5) rfl ((nI_succ i).symm) (by decide) rfl (fun ls hl => ?_)
                      refine lv_goto (tgt := 6) hx hb dX6_show_150 (by decide) ?_
                      exact ih_6 (i + 1) n 0 _ _ (by omega) (by omega) (by omega) hnd (fun z => absurd rfl z) (fun z => absurd rfl z) (up_lt2 (hq0 c_38) hRP) (up_z2 _ (hq0 c_38) hz) ((sho_f2 hlt c_22 c_38).symm.trans hq1) ((sho_f2 hlt c_22 c_38).symm.trans hq2) _ _ hP (mG_dn hD) hS ls (lv_sub hl [4, 5, 1, 0] rfl)
                    · exact absurd c_138 (by decide)
                  · exact absurd rfl c_87
                · exact absurd rfl c_67
              · exact absurd c_50 (by decide)
            · refine lv_iconst (v := 1) hx hb dX6_show_41 (by decide) ?_
              refine lv_goto (tgt := 46) hx hb dX6_show_42 (by decide) ?_
              refine lv_istore (lv' := [(5, .int 1), (4, .int 1), (0, .ref (a 0)), (1, .int (nI n)), (2, .int q), (3, .int (nI i))]) hx hb dX6_show_46 hl (by decide) rfl (fun ls hl => ?_)
              refine lv_iload hx hb dX6_show_48 (lv_at hl 1 rfl) ?_
              refine lv_if_ne (tgt := 65) hx hb dX6_show_50 (by decide) (fun c_50 => ?_) (fun c_50 => ?_)
              · refine lv_iload hx hb dX6_show_65 (lv_at hl 0 rfl) ?_
                refine lv_if_eq (tgt := 85) hx hb dX6_show_67 (by decide) (fun c_67 => ?_) (fun c_67 => ?_)
                · exact absurd c_67 (by decide)
                · refine lv_iload_n hx hb dX6_show_70 rfl (lv_at hl 3 rfl) ?_
                  refine lv_aload_n hx hb dX6_show_71 rfl (lv_at hl 2 rfl) ?_
                  refine va_get (D := D) (ci := 6) (v := .ref (a 1)) (C := RX6) (T := TX6) (N := 13) hx hb hts hiX6 hown hK hP 0 rfl rfl 0 (by decide) w_3 (fun _ h9 => h9) rfl dX6_show_72 ?_
                  refine lv_iconst (v := 0) hx hb dX6_show_75 (by decide) ?_
                  refine r_iald hx hb hK hP 1 0 rfl rfl (k := 0) (rfl) (by decide) (by decide) dX6_show_76 ?_
                  refine lv_as (y := nI (nOf v)) ((row_0 v (by decide)).trans ok.cnt) ?_
                  refine lv_icmp_ne (tgt := 85) hx hb dX6_show_77 (by decide) (fun c_77 => ?_) (fun c_77 => ?_)
                  · have hlt2 : n < nOf v := Nat.lt_of_le_of_ne hnd (fun z => c_77 (congrArg nI z))
                    refine lv_iload hx hb dX6_show_85 (lv_at hl 0 rfl) ?_
                    refine lv_if_eq (tgt := 122) hx hb dX6_show_87 (by decide) (fun c_87 => ?_) (fun c_87 => ?_)
                    · exact absurd c_87 (by decide)
                    · refine lv_aload_n hx hb dX6_show_90 rfl (lv_at hl 2 rfl) ?_
                      refine va_get (D := D) (ci := 6) (v := .ref (a 11)) (C := RX6) (T := TX6) (N := 13) hx hb hts hiX6 hown hK hP 0 rfl rfl 12 (by decide) w_4 (fun _ h9 => h9) rfl dX6_show_91 ?_
                      refine lv_iload_n hx hb dX6_show_94 rfl (lv_at hl 3 rfl) ?_
                      refine lv_iload hx hb dX6_show_95 (lv_at hl 1 rfl) ?_
                      refine lv_if_eq (tgt := 106) hx hb dX6_show_97 (by decide) (fun c_97 => ?_) (fun c_97 => ?_)
                      · exact absurd c_97 (by decide)
                      · refine lv_sipush (v := 128) hx hb dX6_show_100 (by decide) ?_
                        refine lv_goto (tgt := 115) hx hb dX6_show_103 (by decide) ?_
                        refine r_iast hx hb hK hP hD hS 11 0 rfl rfl (k := n) (rfl) (by omega) (by decide) dX6_show_115 (fun H locs hP hD hS => ?_)
                        have hP : va_P D vwCl (mG ct a (nI k) (nI t) (rowOf v) v.2 (rowOf u) u.2 (hisI w) (hisF w) (hisI sl) (hisF sl) ik tx (upd R n 128)) H := hP
                        have hD : va_D A (mG ct a (nI k) (nI t) (rowOf v) v.2 (rowOf u) u.2 (hisI w) (hisF w) (hisI sl) (hisF sl) ik tx (upd R n 128)) := hD
                        refine lv_iinc (v := nI (n + 1)) (lv' := [(1, .int (nI (n + 1))), (5, .int 1), (4, .int 1), (0, .ref (a 0)), (2, .int q), (3, .int (nI i))]) hx hb dX6_show_116 hl (k := 3) rfl ((nI_succ n).symm) (by decide) rfl (fun ls hl => ?_)
                        refine lv_goto (tgt := 136) hx hb dX6_show_119 (by decide) ?_
                        refine lv_iload hx hb dX6_show_136 (lv_at hl 2 rfl) ?_
                        refine lv_if_ne (tgt := 145) hx hb dX6_show_138 (by decide) (fun c_138 => ?_) (fun c_138 => ?_)
                        · refine lv_iconst (v := 0) hx hb dX6_show_145 (by decide) ?_
                          refine lv_istore_n (lv' := [(2, .int 0), (1, .int (nI (n + 1))), (5, .int 1), (4, .int 1), (0, .ref (a 0)), (3, .int (nI i))]) hx hb dX6_show_146 rfl hl (by decide) rfl (fun ls hl => ?_)
                          refine lv_iinc (v := nI (i + 1)) (lv' := [(3, .int (nI (i + 1))), (2, .int 0), (1, .int (nI (n + 1))), (5, .int 1), (4, .int 1), (0, .ref (a 0))]) hx hb dX6_show_147 hl (k := 5) rfl ((nI_succ i).symm) (by decide) rfl (fun ls hl => ?_)
                          refine lv_goto (tgt := 6) hx hb dX6_show_150 (by decide) ?_
                          exact ih_6 (i + 1) (n + 1) 0 _ _ (by omega) (by omega) (by omega) (by omega) (fun z => absurd rfl z) (fun z => absurd rfl z) (up_lt _ hRP) (up_z _ hz) ((sho_f1 hlt c_22 c_38 (by omega)).symm.trans hq1) ((sho_f1 hlt c_22 c_38 (by omega)).symm.trans hq2) _ _ hP (mG_dn hD) hS ls (lv_sub hl [5, 2, 1, 0] rfl)
                        · exact absurd c_138 (by decide)
                  · have hge : nOf v ≤ n := Nat.le_of_eq ((nI_eq (by omega) (by omega)).mp c_77).symm
                    have he := hq2.symm.trans (sho_f0 hlt c_22 c_38 hge)
                    have he1 := hq1.symm.trans (sho_f0 hlt c_22 c_38 hge)
                    refine lv_bipush (v := (-100)) hx hb dX6_show_80 (by decide) ?_
                    refine lv_iload_n hx hb dX6_show_82 rfl (lv_at hl 5 rfl) ?_
                    refine lv_isub hx hb dX6_show_83 ?_
                    have hP9 : va_P D vwCl (mS ct a v u w sl k t ik tx (shO tx (nOf v) t 0 0 0 rd).2.2) _ := mG_rd (by rw [he1]) hP
                    have hD9 : va_D A (mS ct a v u w sl k t ik tx (shO tx (nOf v) t 0 0 0 rd).2.2) := mG_dn hD
                    subst hAe
                    exact W.iret (v := ((-100) - (nI i))) hx hb hr (fun tt ht hW => ⟨⟨((-100) - (nI i)), (), rfl, by rw [he], muE.of (ct := ct) hP9 hD9 ht⟩, hS.F ht⟩) hS.2.2 dX6_show_84
              · exact absurd c_50 (by decide)
  exact loop_6 (t + 1) 0 0 0 (fun _ => 0) rd (by omega) (by omega) (by omega) (by omega) (fun z => absurd rfl z) (fun z => absurd rfl z) (fun j hj => absurd hj (Nat.not_lt_zero j)) (fun _ _ => rfl) rfl rfl _ _ hP hD hS ls (lv_sub hl [3, 2, 1, 0] rfl)

set_option maxHeartbeats 4000000 in
set_option maxRecDepth 100000 in
theorem k_X6_show_ok (l : Launch) (D : va_G) (ct : Nat → ClassId) (sz : Nat) (a : Nat → Nat) (v u : SV) (w sl : Nat → SV) (k t : Nat) (hk : k ≤ 5) (ik tx rd : Nat → Int32) (ok : Inv v) (ht30 : t ≤ 30) (h4 : (shO tx (nOf v) t 0 0 0 (fun _ => 0)).1 = -4) : Met l yX6_show wsX6_show ({ frames := 1, cells := 0, slots := 0, locals := 23 }) (muP D ct (mG ct a (nI k) (nI t) (rowOf v) v.2 (rowOf u) u.2 (hisI w) (hisF w) (hisI sl) (hisF sl) ik tx rd) sz [.ref (a 0)]) (muI D ct (mG ct a (nI k) (nI t) (rowOf v) v.2 (rowOf u) u.2 (hisI w) (hisF w) (hisI sl) (hisF sl) ik tx rd) (mS ct a (pPats v (shO tx (nOf v) t 0 0 0 (fun _ => 0)).2.2 (nOf v)) v (hPush w k v) sl (kPush k) t ik tx (shO tx (nOf v) t 0 0 0 rd).2.2) sz (fun r => r = nI (shO tx (nOf v) t 0 0 0 (fun _ => 0)).2.1)) 0 0 (va_A (mG ct a (nI k) (nI t) (rowOf v) v.2 (rowOf u) u.2 (hisI w) (hisF w) (hisI sl) (hisF sl) ik tx rd) sz) := by
  refine Met.ofW (cc := cX6_show) (maxL := 6) (ret := (some .int)) (by decide) rfl ?_
  intro p e s m args below meth c s₁ B hml hv
  obtain ⟨rfl, hsz, hP, hK, hN, hD0⟩ := hv
  have hx := B.exec
  have hb := B.bytes
  have hr := B.returns
  have hts := atoms_spec (ws := wsX6_show) B.pre
  have hown : s.vm.findClass RX6 = some m.cls := findClass_of_methodNamed B.named
  have hlocks := B.notSynchronized
  subst hsz
  have hD := hD0.self (sz := s.heap.size)
  generalize hAe : va_A (mG ct a (nI k) (nI t) (rowOf v) v.2 (rowOf u) u.2 (hisI w) (hisF w) (hisI sl) (hisF sl) ik tx rd) s.heap.size = A at hD
  have hA : ∀ q : Nat, s.heap.size ≤ q → A q := fun q h => by rw [← hAe]; exact Or.inr h
  have hS : va_S A s.heap s.heap [] := va_S.rf
  have w_1 := hts (.fieldLink RX6 129 "ScannedDigitsModel" "typed" "I") (List.mem_of_getElem? (i := 1) rfl)
  have w_2 := hts (.fieldLink RX6 39 "ScannedDigitsModel" "text" "[C") (List.mem_of_getElem? (i := 2) rfl)
  have w_3 := hts (.fieldLink RX6 7 "ScannedDigitsModel" "row" "[I") (List.mem_of_getElem? (i := 3) rfl)
  have w_4 := hts (.fieldLink RX6 43 "ScannedDigitsModel" "read" "[I") (List.mem_of_getElem? (i := 4) rfl)
  have hiX6 : ∀ w ∈ wsX60, w ∈ wsX6_show := fun w h => (goodIn_r wsX60 [27, 28, 29, 30, 31, 32, 33, 34, 35, 36, 37, 38, 39] (by decide +kernel) (by decide +kernel) w h).1
  have hl := lv_entry ([.ref (a 0)]) (n := 6) (Nat.le_of_ble_eq_true rfl)
  rw [lg_entry_eq]
  generalize (lg_sl ([.ref (a 0)]) ++ List.replicate (6 - (lg_sl ([.ref (a 0)])).length) Slot.unset).toArray = ls at hl ⊢
  have hl : lv_has ls 6 [(0, .ref (a 0))] := hl
  have n8 := ok.n8
  refine lv_iconst (v := 0) hx hb dX6_show_0 (by decide) ?_
  refine lv_istore_n (lv' := [(1, .int 0), (0, .ref (a 0))]) hx hb dX6_show_1 rfl hl (by decide) rfl (fun ls hl => ?_)
  refine lv_iconst (v := 0) hx hb dX6_show_2 (by decide) ?_
  refine lv_istore_n (lv' := [(2, .int 0), (1, .int 0), (0, .ref (a 0))]) hx hb dX6_show_3 rfl hl (by decide) rfl (fun ls hl => ?_)
  refine lv_iconst (v := 0) hx hb dX6_show_4 (by decide) ?_
  refine lv_istore_n (lv' := [(3, .int 0), (2, .int 0), (1, .int 0), (0, .ref (a 0))]) hx hb dX6_show_5 rfl hl (by decide) rfl (fun ls hl => ?_)
  have loop_6 : ∀ (n_6 : Nat) (i n : Nat) (q : Int32) (P R : Nat → Int32), (i ≤ t) → (t + 1 ≤ i + n_6) → (n ≤ i) → (n ≤ nOf v) → (¬ q = 0 → 0 < n) → (¬ q = 0 → R (n - 1) + 128 = R (n - 1) ||| 128) → (∀ j, j < n → R j = P j) → (∀ j, n ≤ j → P j = 0) → (shO tx (nOf v) (t - i) i n q R = (shO tx (nOf v) t 0 0 0 rd)) → (shO tx (nOf v) (t - i) i n q P = (shO tx (nOf v) t 0 0 0 (fun _ => 0))) → ∀ (H : Heap) (locs : List Loc), va_P D vwCl (mG ct a (nI k) (nI t) (rowOf v) v.2 (rowOf u) u.2 (hisI w) (hisF w) (hisI sl) (hisF sl) ik tx R) H → va_D A (mG ct a (nI k) (nI t) (rowOf v) v.2 (rowOf u) u.2 (hisI w) (hisF w) (hisI sl) (hisF sl) ik tx R) → va_S A s.heap H locs → ∀ (ls : Array Slot), lv_has ls 6 [(0, .ref (a 0)), (1, .int (nI n)), (2, .int q), (3, .int (nI i))] → W p l e (headSpec wsX6_show ({ frames := 1, cells := 0, slots := 0, locals := 23 })).room s m #[.ref (a 0)] below meth c H locs 0 0 (MQ below (muI D ct (mG ct a (nI k) (nI t) (rowOf v) v.2 (rowOf u) u.2 (hisI w) (hisF w) (hisI sl) (hisF sl) ik tx rd) (mS ct a (pPats v (shO tx (nOf v) t 0 0 0 (fun _ => 0)).2.2 (nOf v)) v (hPush w k v) sl (kPush k) t ik tx (shO tx (nOf v) t 0 0 0 rd).2.2) s.heap.size (fun r => r = nI (shO tx (nOf v) t 0 0 0 (fun _ => 0)).2.1)) #[.ref (a 0)] s 0 0 (A)) (F0 m 6 ls []) := by
    intro n_6
    induction n_6 with
    | zero =>
      intro i n q P R hi hn hni hnd hq0 hor hRP hz hq1 hq2
      exact absurd hn (by omega)
    | succ n_6 ih_6 =>
      intro i n q P R hi hn hni hnd hq0 hor hRP hz hq1 hq2 H locs hP hD hS ls hl
      refine lv_iload_n hx hb dX6_show_6 rfl (lv_at hl 3 rfl) ?_
      refine lv_aload_n hx hb dX6_show_7 rfl (lv_at hl 0 rfl) ?_
      refine va_get (D := D) (ci := 6) (v := .int (nI t)) (C := RX6) (T := TX6) (N := 13) hx hb hts hiX6 hown hK hP 0 rfl rfl 10 (by decide) w_1 (fun _ h9 => h9) rfl dX6_show_8 ?_
      refine lv_icmp_ge (tgt := 153) hx hb dX6_show_11 (by decide) (fun c_11 => ?_) (fun c_11 => ?_)
      · have hge0 : t ≤ i := nI_le' (by omega) (by omega) c_11
        have he := hq2.symm.trans (sho_z (by omega))
        have he1 := hq1.symm.trans (sho_z (by omega))
        refine lv_aload_n hx hb dX6_show_153 rfl (lv_at hl 0 rfl) ?_
        have hFc_154 := w_free (wc := mG ct a (nI k) (nI t) (rowOf v) v.2 (rowOf u) u.2 (hisI w) (hisF w) (hisI sl) (hisF sl) ik tx R) hD (List.Perm.of_eq (List.append_nil _).symm) hS hA
        refine va_callv (va_runV (As := []) (rest := []) ⟨hx, hb, hml, hown, hts⟩ (k_X6_begin l D ct _ a (nI k) (nI t) (rowOf v) v.2 (rowOf u) u.2 (hisI w) (hisF w) (hisI sl) (hisF sl) ik tx R) (cwV 0 hts gX6_show_X6_begin rfl rfl rfl (by decide +kernel) ⟨Nat.le_of_ble_eq_true rfl, Nat.le_of_ble_eq_true rfl⟩) ⟨muP.blind, va_recv hK hP (ci := 6) (q0 := 0) rfl rfl, muP.at hP hD hK hN⟩ rfl rfl hl.1 rfl (lv_room (Nat.le_of_ble_eq_true rfl)) dX6_show_154 ⟨Nat.le_of_ble_eq_true rfl, Nat.le_of_ble_eq_true rfl⟩) hS (fun q _ h => hFc_154 q h) hFc_154 (fun uu tt H1 locs ht hvm hw hB hz1 hk1 hS => ?_)
        obtain ⟨hP, hD⟩ := muE.join (ws' := mG ct a (nI k) (nI t) (rowOf v) v.2 (rowOf v) v.2 (hisI w) (hisF w) (hisI sl) (hisF sl) ik tx R) hP hD (List.Perm.of_eq (List.append_nil _).symm) (List.Perm.of_eq (List.append_nil _).symm) hk1 hFc_154 ht hB
        generalize H1 = H at hP hS ⊢
        refine lv_iconst (v := 0) hx hb dX6_show_157 (by decide) ?_
        refine lv_istore_n (lv' := [(3, .int 0), (0, .ref (a 0)), (1, .int (nI n)), (2, .int q)]) hx hb dX6_show_158 rfl hl (by decide) rfl (fun ls hl => ?_)
        have loop_159 : ∀ (n_159 : Nat) (i : Nat), (i ≤ nOf v) → (nOf v + 1 ≤ i + n_159) → ∀ (H : Heap) (locs : List Loc), va_P D vwCl (mG ct a (nI k) (nI t) (rowOf (pPats v P i)) v.2 (rowOf v) v.2 (hisI w) (hisF w) (hisI sl) (hisF sl) ik tx R) H → va_D A (mG ct a (nI k) (nI t) (rowOf (pPats v P i)) v.2 (rowOf v) v.2 (hisI w) (hisF w) (hisI sl) (hisF sl) ik tx R) → va_S A s.heap H locs → ∀ (ls : Array Slot), lv_has ls 6 [(0, .ref (a 0)), (1, .int (nI n)), (3, .int (nI i))] → W p l e (headSpec wsX6_show ({ frames := 1, cells := 0, slots := 0, locals := 23 })).room s m #[.ref (a 0)] below meth c H locs 0 0 (MQ below (muI D ct (mG ct a (nI k) (nI t) (rowOf v) v.2 (rowOf u) u.2 (hisI w) (hisF w) (hisI sl) (hisF sl) ik tx rd) (mS ct a (pPats v (shO tx (nOf v) t 0 0 0 (fun _ => 0)).2.2 (nOf v)) v (hPush w k v) sl (kPush k) t ik tx (shO tx (nOf v) t 0 0 0 rd).2.2) s.heap.size (fun r => r = nI (shO tx (nOf v) t 0 0 0 (fun _ => 0)).2.1)) #[.ref (a 0)] s 0 0 (A)) (F0 m 159 ls []) := by
          intro n_159
          induction n_159 with
          | zero =>
            intro i hi9 hn9
            exact absurd hn9 (by omega)
          | succ n_159 ih_159 =>
            intro i hi9 hn9 H locs hP hD hS ls hl
            refine lv_iload_n hx hb dX6_show_159 rfl (lv_at hl 2 rfl) ?_
            refine lv_aload_n hx hb dX6_show_160 rfl (lv_at hl 0 rfl) ?_
            refine va_get (D := D) (ci := 6) (v := .ref (a 1)) (C := RX6) (T := TX6) (N := 13) hx hb hts hiX6 hown hK hP 0 rfl rfl 0 (by decide) w_3 (fun _ h9 => h9) rfl dX6_show_161 ?_
            refine lv_iconst (v := 0) hx hb dX6_show_164 (by decide) ?_
            refine r_iald hx hb hK hP 1 0 rfl rfl (k := 0) (rfl) (by decide) (by decide) dX6_show_165 ?_
            refine lv_as (y := nI (nOf v)) ((row_0 _ (by decide)).trans ((congrFun (pPats_lo v P (by decide) i) 0).trans ok.cnt)) ?_
            refine lv_icmp_ge (tgt := 196) hx hb dX6_show_166 (by decide) (fun c_166 => ?_) (fun c_166 => ?_)
            · have hge9 : nOf v ≤ i := nI_le' (by omega) (by omega) c_166
              obtain rfl : i = nOf v := by omega
              refine lv_aload_n hx hb dX6_show_196 rfl (lv_at hl 0 rfl) ?_
              refine lv_iload_n hx hb dX6_show_197 rfl (lv_at hl 1 rfl) ?_
              have hFc_198 := w_free (wc := mG ct a (nI k) (nI t) (rowOf (pPats v P (nOf v))) v.2 (rowOf v) v.2 (hisI w) (hisF w) (hisI sl) (hisF sl) ik tx R) hD (List.Perm.of_eq (List.append_nil _).symm) hS hA
              refine va_calli (va_runV (As := [.int (nI n)]) (rest := []) ⟨hx, hb, hml, hown, hts⟩ (k_X6_done l D ct _ a (nI t) (rowOf (pPats v P (nOf v))) v.2 v w k hk (hisI sl) (hisF sl) ik tx R (nI n)) (cwV 1 hts gX6_show_X6_done rfl rfl rfl (by decide +kernel) ⟨Nat.le_of_ble_eq_true rfl, Nat.le_of_ble_eq_true rfl⟩) ⟨muP.blind, va_recv hK hP (ci := 6) (q0 := 0) rfl rfl, muP.at hP hD hK hN⟩ rfl rfl hl.1 rfl (lv_room (Nat.le_of_ble_eq_true rfl)) dX6_show_198 ⟨Nat.le_of_ble_eq_true rfl, Nat.le_of_ble_eq_true rfl⟩) hS (fun q _ h => hFc_198 q h) hFc_198 (fun r_198 uu tt H1 locs ht hvm h_198 hB hz1 hk1 hS => ?_)
              obtain ⟨hP, hD⟩ := muE.join (ws' := mG ct a (nI (kPush k)) (nI t) (rowOf (pPats v P (nOf v))) v.2 (rowOf v) v.2 (hisI (hPush w k v)) (hisF (hPush w k v)) (hisI sl) (hisF sl) ik tx R) hP hD (List.Perm.of_eq (List.append_nil _).symm) (List.Perm.of_eq (List.append_nil _).symm) hk1 hFc_198 ht hB
              generalize H1 = H at hP hS ⊢
              obtain rfl : r_198 = (nI n) := h_198
              have hP9 : va_P D vwCl (mS ct a (pPats v (shO tx (nOf v) t 0 0 0 (fun _ => 0)).2.2 (nOf v)) v (hPush w k v) sl (kPush k) t ik tx (shO tx (nOf v) t 0 0 0 rd).2.2) _ := sh_end v (by rw [he]) (by rw [he1]) hP
              have hD9 : va_D A (mS ct a (pPats v (shO tx (nOf v) t 0 0 0 (fun _ => 0)).2.2 (nOf v)) v (hPush w k v) sl (kPush k) t ik tx (shO tx (nOf v) t 0 0 0 rd).2.2) := mG_dn hD
              subst hAe
              exact W.iret (v := (nI n)) hx hb hr (fun tt ht hW => ⟨⟨(nI n), (), rfl, by rw [he], muE.of (ct := ct) hP9 hD9 ht⟩, hS.F ht⟩) hS.2.2 dX6_show_201
            · have hlt : i < nOf v := nI_nle' (by omega) (by omega) c_166
              refine lv_aload_n hx hb dX6_show_169 rfl (lv_at hl 0 rfl) ?_
              refine lv_iload_n hx hb dX6_show_170 rfl (lv_at hl 2 rfl) ?_
              refine lv_iconst (v := 0) hx hb dX6_show_171 (by decide) ?_
              refine lv_iload_n hx hb dX6_show_172 rfl (lv_at hl 2 rfl) ?_
              refine lv_iload_n hx hb dX6_show_173 rfl (lv_at hl 1 rfl) ?_
              refine lv_icmp_ge (tgt := 186) hx hb dX6_show_174 (by decide) (fun c_174 => ?_) (fun c_174 => ?_)
              · have hge9 : n ≤ i := nI_le' (by omega) (by omega) c_174
                refine lv_iconst (v := 0) hx hb dX6_show_186 (by decide) ?_
                refine lv_as (y := P i) ((hz i hge9).symm) ?_
                have hFc_187 := w_free (wc := mR ct (a 0) (a 1) (mTl a (nI k) (nI t)) (pPats v P i)) hD (mG_pR) hS hA
                refine va_callv (va_runV (As := [.int (nI i), .int 0, .int (P i)]) (rest := []) ⟨hx, hb, hml, hown, hts⟩ (k_X6_put l D ct _ (a 0) (a 1) (mTl a (nI k) (nI t)) (pPats v P i) i 0 (P i) (by omega) (by decide)) (cwV 3 hts gX6_show_X6_put rfl rfl rfl (by decide +kernel) ⟨Nat.le_of_ble_eq_true rfl, Nat.le_of_ble_eq_true rfl⟩) ⟨muP.blind, va_recv hK (mG_R hP) (ci := 6) (q0 := 0) rfl rfl, muP.at (mG_R hP) (mG_RD hD) hK hN⟩ rfl rfl hl.1 rfl (lv_room (Nat.le_of_ble_eq_true rfl)) dX6_show_187 ⟨Nat.le_of_ble_eq_true rfl, Nat.le_of_ble_eq_true rfl⟩) hS (fun q _ h => hFc_187 q h) hFc_187 (fun uu tt H1 locs ht hvm hw hB hz1 hk1 hS => ?_)
                obtain ⟨hP, hD⟩ := muE.join (ws' := mG ct a (nI k) (nI t) (rowOf (s2 (pPats v P i) (4 + i) 0 (P i))) v.2 (rowOf v) v.2 (hisI w) (hisF w) (hisI sl) (hisF sl) ik tx R) hP hD (mG_pR) (mG_pR) hk1 hFc_187 ht hB
                generalize H1 = H at hP hS ⊢
                refine lv_iinc (v := nI (i + 1)) (lv' := [(3, .int (nI (i + 1))), (0, .ref (a 0)), (1, .int (nI n))]) hx hb dX6_show_190 hl (k := 2) rfl ((nI_succ i).symm) (by decide) rfl (fun ls hl => ?_)
                refine lv_goto (tgt := 159) hx hb dX6_show_193 (by decide) ?_
                exact ih_159 (i + 1) (by omega) (by omega) _ _ (mG_v (pPats_s v P i) hP) (mG_dn hD) hS ls (lv_sub hl [1, 2, 0] rfl)
              · have hlt9 : i < n := nI_nle' (by omega) (by omega) c_174
                refine lv_aload_n hx hb dX6_show_177 rfl (lv_at hl 0 rfl) ?_
                refine va_get (D := D) (ci := 6) (v := .ref (a 11)) (C := RX6) (T := TX6) (N := 13) hx hb hts hiX6 hown hK hP 0 rfl rfl 12 (by decide) w_4 (fun _ h9 => h9) rfl dX6_show_178 ?_
                refine lv_iload_n hx hb dX6_show_181 rfl (lv_at hl 2 rfl) ?_
                refine r_iald hx hb hK hP 11 0 rfl rfl (k := i) (rfl) (by omega) (by decide) dX6_show_182 ?_
                refine lv_as (y := P i) (hRP i hlt9) ?_
                refine lv_goto (tgt := 187) hx hb dX6_show_183 (by decide) ?_
                have hFc_187 := w_free (wc := mR ct (a 0) (a 1) (mTl a (nI k) (nI t)) (pPats v P i)) hD (mG_pR) hS hA
                refine va_callv (va_runV (As := [.int (nI i), .int 0, .int (P i)]) (rest := []) ⟨hx, hb, hml, hown, hts⟩ (k_X6_put l D ct _ (a 0) (a 1) (mTl a (nI k) (nI t)) (pPats v P i) i 0 (P i) (by omega) (by decide)) (cwV 3 hts gX6_show_X6_put rfl rfl rfl (by decide +kernel) ⟨Nat.le_of_ble_eq_true rfl, Nat.le_of_ble_eq_true rfl⟩) ⟨muP.blind, va_recv hK (mG_R hP) (ci := 6) (q0 := 0) rfl rfl, muP.at (mG_R hP) (mG_RD hD) hK hN⟩ rfl rfl hl.1 rfl (lv_room (Nat.le_of_ble_eq_true rfl)) dX6_show_187 ⟨Nat.le_of_ble_eq_true rfl, Nat.le_of_ble_eq_true rfl⟩) hS (fun q _ h => hFc_187 q h) hFc_187 (fun uu tt H1 locs ht hvm hw hB hz1 hk1 hS => ?_)
                obtain ⟨hP, hD⟩ := muE.join (ws' := mG ct a (nI k) (nI t) (rowOf (s2 (pPats v P i) (4 + i) 0 (P i))) v.2 (rowOf v) v.2 (hisI w) (hisF w) (hisI sl) (hisF sl) ik tx R) hP hD (mG_pR) (mG_pR) hk1 hFc_187 ht hB
                generalize H1 = H at hP hS ⊢
                refine lv_iinc (v := nI (i + 1)) (lv' := [(3, .int (nI (i + 1))), (0, .ref (a 0)), (1, .int (nI n))]) hx hb dX6_show_190 hl (k := 2) rfl ((nI_succ i).symm) (by decide) rfl (fun ls hl => ?_)
                refine lv_goto (tgt := 159) hx hb dX6_show_193 (by decide) ?_
                exact ih_159 (i + 1) (by omega) (by omega) _ _ (mG_v (pPats_s v P i) hP) (mG_dn hD) hS ls (lv_sub hl [1, 2, 0] rfl)
        exact loop_159 (nOf v + 1) 0 (Nat.zero_le _) (by omega) _ _ (mG_v (pPats_z v P).symm hP) (mG_dn hD) hS ls (lv_sub hl [1, 2, 0] rfl)
      · have hlt : i < t := nI_nle' (by omega) (by omega) c_11
        refine lv_aload_n hx hb dX6_show_14 rfl (lv_at hl 0 rfl) ?_
        refine va_get (D := D) (ci := 6) (v := .ref (a 10)) (C := RX6) (T := TX6) (N := 13) hx hb hts hiX6 hown hK hP 0 rfl rfl 11 (by decide) w_2 (fun _ h9 => h9) rfl dX6_show_15 ?_
        refine lv_iload_n hx hb dX6_show_18 rfl (lv_at hl 3 rfl) ?_
        refine r_cald hx hb hK hP 10 2 rfl rfl (k := i) (rfl) (by omega) (by decide) dX6_show_19 ?_
        refine lv_bipush (v := 46) hx hb dX6_show_20 (by decide) ?_
        refine lv_icmp_ne (tgt := 29) hx hb dX6_show_22 (by decide) (fun c_22 => ?_) (fun c_22 => ?_)
        · refine lv_iconst (v := 0) hx hb dX6_show_29 (by decide) ?_
          refine lv_istore (lv' := [(4, .int 0), (0, .ref (a 0)), (1, .int (nI n)), (2, .int q), (3, .int (nI i))]) hx hb dX6_show_30 hl (by decide) rfl (fun ls hl => ?_)
          refine lv_iload hx hb dX6_show_32 (lv_at hl 0 rfl) ?_
          refine lv_if_eq (tgt := 41) hx hb dX6_show_34 (by decide) (fun c_34 => ?_) (fun c_34 => ?_)
          · refine lv_iconst (v := 1) hx hb dX6_show_41 (by decide) ?_
            refine lv_goto (tgt := 46) hx hb dX6_show_42 (by decide) ?_
            refine lv_istore (lv' := [(5, .int 1), (4, .int 0), (0, .ref (a 0)), (1, .int (nI n)), (2, .int q), (3, .int (nI i))]) hx hb dX6_show_46 hl (by decide) rfl (fun ls hl => ?_)
            refine lv_iload hx hb dX6_show_48 (lv_at hl 1 rfl) ?_
            refine lv_if_ne (tgt := 65) hx hb dX6_show_50 (by decide) (fun c_50 => ?_) (fun c_50 => ?_)
            · exact absurd rfl c_50
            · refine lv_aload_n hx hb dX6_show_53 rfl (lv_at hl 2 rfl) ?_
              refine va_get (D := D) (ci := 6) (v := .ref (a 10)) (C := RX6) (T := TX6) (N := 13) hx hb hts hiX6 hown hK hP 0 rfl rfl 11 (by decide) w_2 (fun _ h9 => h9) rfl dX6_show_54 ?_
              refine lv_iload_n hx hb dX6_show_57 rfl (lv_at hl 5 rfl) ?_
              refine r_cald hx hb hK hP 10 2 rfl rfl (k := i) (rfl) (by omega) (by decide) dX6_show_58 ?_
              refine vp_callSi (va_runS (As := [.int (tx i)]) (rest := []) ⟨hx, hb, hml, hown, hts⟩ (k_X6_patternOf l D ct (tx i)) (va_cwS 1 hts gX6_show_X6_patternOf rfl rfl rfl (by decide +kernel) ⟨Nat.le_of_ble_eq_true rfl, Nat.le_of_ble_eq_true rfl⟩) ⟨roP.blind, roP.at pw_nil hK hN⟩ rfl rfl hl.1 rfl (lv_room (Nat.le_of_ble_eq_true rfl)) dX6_show_59 ⟨Nat.le_of_ble_eq_true rfl, Nat.le_of_ble_eq_true rfl⟩).run (fun r_59 h_59 => ?_)
              obtain rfl : r_59 = pPat (tx i) := h_59
              refine lv_if_lt (tgt := 80) hx hb dX6_show_62 (by decide) (fun c_62 => ?_) (fun c_62 => ?_)
              · have he := hq2.symm.trans (sho_c0 hlt c_22 (pPat_neg c_62))
                rw [he] at h4
                exact absurd h4 (nI_4 (by omega))
              · have hpp := pPat_pos c_62
                refine lv_iload hx hb dX6_show_65 (lv_at hl 0 rfl) ?_
                refine lv_if_eq (tgt := 85) hx hb dX6_show_67 (by decide) (fun c_67 => ?_) (fun c_67 => ?_)
                · exact absurd c_67 (by decide)
                · refine lv_iload_n hx hb dX6_show_70 rfl (lv_at hl 3 rfl) ?_
                  refine lv_aload_n hx hb dX6_show_71 rfl (lv_at hl 2 rfl) ?_
                  refine va_get (D := D) (ci := 6) (v := .ref (a 1)) (C := RX6) (T := TX6) (N := 13) hx hb hts hiX6 hown hK hP 0 rfl rfl 0 (by decide) w_3 (fun _ h9 => h9) rfl dX6_show_72 ?_
                  refine lv_iconst (v := 0) hx hb dX6_show_75 (by decide) ?_
                  refine r_iald hx hb hK hP 1 0 rfl rfl (k := 0) (rfl) (by decide) (by decide) dX6_show_76 ?_
                  refine lv_as (y := nI (nOf v)) ((row_0 v (by decide)).trans ok.cnt) ?_
                  refine lv_icmp_ne (tgt := 85) hx hb dX6_show_77 (by decide) (fun c_77 => ?_) (fun c_77 => ?_)
                  · have hlt2 : n < nOf v := Nat.lt_of_le_of_ne hnd (fun z => c_77 (congrArg nI z))
                    refine lv_iload hx hb dX6_show_85 (lv_at hl 0 rfl) ?_
                    refine lv_if_eq (tgt := 122) hx hb dX6_show_87 (by decide) (fun c_87 => ?_) (fun c_87 => ?_)
                    · exact absurd c_87 (by decide)
                    · refine lv_aload_n hx hb dX6_show_90 rfl (lv_at hl 2 rfl) ?_
                      refine va_get (D := D) (ci := 6) (v := .ref (a 11)) (C := RX6) (T := TX6) (N := 13) hx hb hts hiX6 hown hK hP 0 rfl rfl 12 (by decide) w_4 (fun _ h9 => h9) rfl dX6_show_91 ?_
                      refine lv_iload_n hx hb dX6_show_94 rfl (lv_at hl 3 rfl) ?_
                      refine lv_iload hx hb dX6_show_95 (lv_at hl 1 rfl) ?_
                      refine lv_if_eq (tgt := 106) hx hb dX6_show_97 (by decide) (fun c_97 => ?_) (fun c_97 => ?_)
                      · refine lv_aload_n hx hb dX6_show_106 rfl (lv_at hl 2 rfl) ?_
                        refine va_get (D := D) (ci := 6) (v := .ref (a 10)) (C := RX6) (T := TX6) (N := 13) hx hb hts hiX6 hown hK hP 0 rfl rfl 11 (by decide) w_2 (fun _ h9 => h9) rfl dX6_show_107 ?_
                        refine lv_iload_n hx hb dX6_show_110 rfl (lv_at hl 5 rfl) ?_
                        refine r_cald hx hb hK hP 10 2 rfl rfl (k := i) (rfl) (by omega) (by decide) dX6_show_111 ?_
                        refine vp_callSi (va_runS (As := [.int (tx i)]) (rest := [.int (nI n), .ref (a 11)]) ⟨hx, hb, hml, hown, hts⟩ (k_X6_patternOf l D ct (tx i)) (va_cwS 1 hts gX6_show_X6_patternOf rfl rfl rfl (by decide +kernel) ⟨Nat.le_of_ble_eq_true rfl, Nat.le_of_ble_eq_true rfl⟩) ⟨roP.blind, roP.at pw_nil hK hN⟩ rfl rfl hl.1 rfl (lv_room (Nat.le_of_ble_eq_true rfl)) dX6_show_112 ⟨Nat.le_of_ble_eq_true rfl, Nat.le_of_ble_eq_true rfl⟩).run (fun r_112 h_112 => ?_)
                        obtain rfl : r_112 = pPat (tx i) := h_112
                        refine r_iast hx hb hK hP hD hS 11 0 rfl rfl (k := n) (rfl) (by omega) (by decide) dX6_show_115 (fun H locs hP hD hS => ?_)
                        have hP : va_P D vwCl (mG ct a (nI k) (nI t) (rowOf v) v.2 (rowOf u) u.2 (hisI w) (hisF w) (hisI sl) (hisF sl) ik tx (upd R n (pPat (tx i)))) H := hP
                        have hD : va_D A (mG ct a (nI k) (nI t) (rowOf v) v.2 (rowOf u) u.2 (hisI w) (hisF w) (hisI sl) (hisF sl) ik tx (upd R n (pPat (tx i)))) := hD
                        refine lv_iinc (v := nI (n + 1)) (lv' := [(1, .int (nI (n + 1))), (5, .int 1), (4, .int 0), (0, .ref (a 0)), (2, .int q), (3, .int (nI i))]) hx hb dX6_show_116 hl (k := 3) rfl ((nI_succ n).symm) (by decide) rfl (fun ls hl => ?_)
                        refine lv_goto (tgt := 136) hx hb dX6_show_119 (by decide) ?_
                        refine lv_iload hx hb dX6_show_136 (lv_at hl 2 rfl) ?_
                        refine lv_if_ne (tgt := 145) hx hb dX6_show_138 (by decide) (fun c_138 => ?_) (fun c_138 => ?_)
                        · exact absurd rfl c_138
                        · refine lv_iconst (v := 1) hx hb dX6_show_141 (by decide) ?_
                          refine lv_goto (tgt := 146) hx hb dX6_show_142 (by decide) ?_
                          refine lv_istore_n (lv' := [(2, .int 1), (1, .int (nI (n + 1))), (5, .int 1), (4, .int 0), (0, .ref (a 0)), (3, .int (nI i))]) hx hb dX6_show_146 rfl hl (by decide) rfl (fun ls hl => ?_)
                          refine lv_iinc (v := nI (i + 1)) (lv' := [(3, .int (nI (i + 1))), (2, .int 1), (1, .int (nI (n + 1))), (5, .int 1), (4, .int 0), (0, .ref (a 0))]) hx hb dX6_show_147 hl (k := 5) rfl ((nI_succ i).symm) (by decide) rfl (fun ls hl => ?_)
                          refine lv_goto (tgt := 6) hx hb dX6_show_150 (by decide) ?_
                          exact ih_6 (i + 1) (n + 1) 1 _ _ (by omega) (by omega) (by omega) (by omega) (fun _ => Nat.succ_pos n) (fun _ => by rw [Nat.add_sub_cancel]; unfold upd; rw [if_pos rfl]; exact pPat_or hpp) (up_lt _ hRP) (up_z _ hz) ((sho_c2 hlt c_22 hpp (by omega)).symm.trans hq1) ((sho_c2 hlt c_22 hpp (by omega)).symm.trans hq2) _ _ hP (mG_dn hD) hS ls (lv_sub hl [5, 2, 1, 0] rfl)
                      · exact absurd rfl c_97
                  · have hge : nOf v ≤ n := Nat.le_of_eq ((nI_eq (by omega) (by omega)).mp c_77).symm
                    have he := hq2.symm.trans (sho_c1 hlt c_22 hge)
                    rw [he] at h4
                    exact absurd h4 (nI_4 (by omega))
          · exact absurd rfl c_34
        · refine lv_iconst (v := 1) hx hb dX6_show_25 (by decide) ?_
          refine lv_goto (tgt := 30) hx hb dX6_show_26 (by decide) ?_
          refine lv_istore (lv' := [(4, .int 1), (0, .ref (a 0)), (1, .int (nI n)), (2, .int q), (3, .int (nI i))]) hx hb dX6_show_30 hl (by decide) rfl (fun ls hl => ?_)
          refine lv_iload hx hb dX6_show_32 (lv_at hl 0 rfl) ?_
          refine lv_if_eq (tgt := 41) hx hb dX6_show_34 (by decide) (fun c_34 => ?_) (fun c_34 => ?_)
          · exact absurd c_34 (by decide)
          · refine lv_iload_n hx hb dX6_show_37 rfl (lv_at hl 3 rfl) ?_
            refine lv_if_ne (tgt := 45) hx hb dX6_show_38 (by decide) (fun c_38 => ?_) (fun c_38 => ?_)
            · refine lv_iconst (v := 0) hx hb dX6_show_45 (by decide) ?_
              refine lv_istore (lv' := [(5, .int 0), (4, .int 1), (0, .ref (a 0)), (1, .int (nI n)), (2, .int q), (3, .int (nI i))]) hx hb dX6_show_46 hl (by decide) rfl (fun ls hl => ?_)
              refine lv_iload hx hb dX6_show_48 (lv_at hl 1 rfl) ?_
              refine lv_if_ne (tgt := 65) hx hb dX6_show_50 (by decide) (fun c_50 => ?_) (fun c_50 => ?_)
              · refine lv_iload hx hb dX6_show_65 (lv_at hl 0 rfl) ?_
                refine lv_if_eq (tgt := 85) hx hb dX6_show_67 (by decide) (fun c_67 => ?_) (fun c_67 => ?_)
                · refine lv_iload hx hb dX6_show_85 (lv_at hl 0 rfl) ?_
                  refine lv_if_eq (tgt := 122) hx hb dX6_show_87 (by decide) (fun c_87 => ?_) (fun c_87 => ?_)
                  · refine lv_aload_n hx hb dX6_show_122 rfl (lv_at hl 2 rfl) ?_
                    refine va_get (D := D) (ci := 6) (v := .ref (a 11)) (C := RX6) (T := TX6) (N := 13) hx hb hts hiX6 hown hK hP 0 rfl rfl 12 (by decide) w_4 (fun _ h9 => h9) rfl dX6_show_123 ?_
                    refine lv_iload_n hx hb dX6_show_126 rfl (lv_at hl 3 rfl) ?_
                    refine lv_iconst (v := 1) hx hb dX6_show_127 (by decide) ?_
                    refine lv_isub hx hb dX6_show_128 ?_
                    refine lv_as (y := nI (n - 1)) (nI_dec (hq0 c_38)) ?_
                    refine lv_dup2_11 hx hb dX6_show_129 rfl rfl ?_
                    refine r_iald hx hb hK hP 11 0 rfl rfl (k := (n - 1)) (rfl) (by have := hq0 c_38; omega) (by decide) dX6_show_130 ?_
                    refine lv_sipush (v := 128) hx hb dX6_show_131 (by decide) ?_
                    refine lv_iadd hx hb dX6_show_134 ?_
                    refine lv_as (y := R (n - 1) ||| 128) (hor c_38) ?_
                    refine r_iast hx hb hK hP hD hS 11 0 rfl rfl (k := (n - 1)) (rfl) (by have := hq0 c_38; omega) (by decide) dX6_show_135 (fun H locs hP hD hS => ?_)
                    have hP : va_P D vwCl (mG ct a (nI k) (nI t) (rowOf v) v.2 (rowOf u) u.2 (hisI w) (hisF w) (hisI sl) (hisF sl) ik tx (upd R (n - 1) (R (n - 1) ||| 128))) H := hP
                    have hD : va_D A (mG ct a (nI k) (nI t) (rowOf v) v.2 (rowOf u) u.2 (hisI w) (hisF w) (hisI sl) (hisF sl) ik tx (upd R (n - 1) (R (n - 1) ||| 128))) := hD
                    refine lv_iload hx hb dX6_show_136 (lv_at hl 1 rfl) ?_
                    refine lv_if_ne (tgt := 145) hx hb dX6_show_138 (by decide) (fun c_138 => ?_) (fun c_138 => ?_)
                    · refine lv_iconst (v := 0) hx hb dX6_show_145 (by decide) ?_
                      refine lv_istore_n (lv' := [(2, .int 0), (5, .int 0), (4, .int 1), (0, .ref (a 0)), (1, .int (nI n)), (3, .int (nI i))]) hx hb dX6_show_146 rfl hl (by decide) rfl (fun ls hl => ?_)
                      refine lv_iinc (v := nI (i + 1)) (lv' := [(3, .int (nI (i + 1))), (2, .int 0), (5, .int 0), (4, .int 1), (0, .ref (a 0)), (1, .int (nI n))]) hx hb dX6_show_147 hl (k := 5) rfl ((nI_succ i).symm) (by decide) rfl (fun ls hl => ?_)
                      refine lv_goto (tgt := 6) hx hb dX6_show_150 (by decide) ?_
                      exact ih_6 (i + 1) n 0 _ _ (by omega) (by omega) (by omega) hnd (fun z => absurd rfl z) (fun z => absurd rfl z) (up_lt2 (hq0 c_38) hRP) (up_z2 _ (hq0 c_38) hz) ((sho_f2 hlt c_22 c_38).symm.trans hq1) ((sho_f2 hlt c_22 c_38).symm.trans hq2) _ _ hP (mG_dn hD) hS ls (lv_sub hl [4, 5, 1, 0] rfl)
                    · exact absurd c_138 (by decide)
                  · exact absurd rfl c_87
                · exact absurd rfl c_67
              · exact absurd c_50 (by decide)
            · refine lv_iconst (v := 1) hx hb dX6_show_41 (by decide) ?_
              refine lv_goto (tgt := 46) hx hb dX6_show_42 (by decide) ?_
              refine lv_istore (lv' := [(5, .int 1), (4, .int 1), (0, .ref (a 0)), (1, .int (nI n)), (2, .int q), (3, .int (nI i))]) hx hb dX6_show_46 hl (by decide) rfl (fun ls hl => ?_)
              refine lv_iload hx hb dX6_show_48 (lv_at hl 1 rfl) ?_
              refine lv_if_ne (tgt := 65) hx hb dX6_show_50 (by decide) (fun c_50 => ?_) (fun c_50 => ?_)
              · refine lv_iload hx hb dX6_show_65 (lv_at hl 0 rfl) ?_
                refine lv_if_eq (tgt := 85) hx hb dX6_show_67 (by decide) (fun c_67 => ?_) (fun c_67 => ?_)
                · exact absurd c_67 (by decide)
                · refine lv_iload_n hx hb dX6_show_70 rfl (lv_at hl 3 rfl) ?_
                  refine lv_aload_n hx hb dX6_show_71 rfl (lv_at hl 2 rfl) ?_
                  refine va_get (D := D) (ci := 6) (v := .ref (a 1)) (C := RX6) (T := TX6) (N := 13) hx hb hts hiX6 hown hK hP 0 rfl rfl 0 (by decide) w_3 (fun _ h9 => h9) rfl dX6_show_72 ?_
                  refine lv_iconst (v := 0) hx hb dX6_show_75 (by decide) ?_
                  refine r_iald hx hb hK hP 1 0 rfl rfl (k := 0) (rfl) (by decide) (by decide) dX6_show_76 ?_
                  refine lv_as (y := nI (nOf v)) ((row_0 v (by decide)).trans ok.cnt) ?_
                  refine lv_icmp_ne (tgt := 85) hx hb dX6_show_77 (by decide) (fun c_77 => ?_) (fun c_77 => ?_)
                  · have hlt2 : n < nOf v := Nat.lt_of_le_of_ne hnd (fun z => c_77 (congrArg nI z))
                    refine lv_iload hx hb dX6_show_85 (lv_at hl 0 rfl) ?_
                    refine lv_if_eq (tgt := 122) hx hb dX6_show_87 (by decide) (fun c_87 => ?_) (fun c_87 => ?_)
                    · exact absurd c_87 (by decide)
                    · refine lv_aload_n hx hb dX6_show_90 rfl (lv_at hl 2 rfl) ?_
                      refine va_get (D := D) (ci := 6) (v := .ref (a 11)) (C := RX6) (T := TX6) (N := 13) hx hb hts hiX6 hown hK hP 0 rfl rfl 12 (by decide) w_4 (fun _ h9 => h9) rfl dX6_show_91 ?_
                      refine lv_iload_n hx hb dX6_show_94 rfl (lv_at hl 3 rfl) ?_
                      refine lv_iload hx hb dX6_show_95 (lv_at hl 1 rfl) ?_
                      refine lv_if_eq (tgt := 106) hx hb dX6_show_97 (by decide) (fun c_97 => ?_) (fun c_97 => ?_)
                      · exact absurd c_97 (by decide)
                      · refine lv_sipush (v := 128) hx hb dX6_show_100 (by decide) ?_
                        refine lv_goto (tgt := 115) hx hb dX6_show_103 (by decide) ?_
                        refine r_iast hx hb hK hP hD hS 11 0 rfl rfl (k := n) (rfl) (by omega) (by decide) dX6_show_115 (fun H locs hP hD hS => ?_)
                        have hP : va_P D vwCl (mG ct a (nI k) (nI t) (rowOf v) v.2 (rowOf u) u.2 (hisI w) (hisF w) (hisI sl) (hisF sl) ik tx (upd R n 128)) H := hP
                        have hD : va_D A (mG ct a (nI k) (nI t) (rowOf v) v.2 (rowOf u) u.2 (hisI w) (hisF w) (hisI sl) (hisF sl) ik tx (upd R n 128)) := hD
                        refine lv_iinc (v := nI (n + 1)) (lv' := [(1, .int (nI (n + 1))), (5, .int 1), (4, .int 1), (0, .ref (a 0)), (2, .int q), (3, .int (nI i))]) hx hb dX6_show_116 hl (k := 3) rfl ((nI_succ n).symm) (by decide) rfl (fun ls hl => ?_)
                        refine lv_goto (tgt := 136) hx hb dX6_show_119 (by decide) ?_
                        refine lv_iload hx hb dX6_show_136 (lv_at hl 2 rfl) ?_
                        refine lv_if_ne (tgt := 145) hx hb dX6_show_138 (by decide) (fun c_138 => ?_) (fun c_138 => ?_)
                        · refine lv_iconst (v := 0) hx hb dX6_show_145 (by decide) ?_
                          refine lv_istore_n (lv' := [(2, .int 0), (1, .int (nI (n + 1))), (5, .int 1), (4, .int 1), (0, .ref (a 0)), (3, .int (nI i))]) hx hb dX6_show_146 rfl hl (by decide) rfl (fun ls hl => ?_)
                          refine lv_iinc (v := nI (i + 1)) (lv' := [(3, .int (nI (i + 1))), (2, .int 0), (1, .int (nI (n + 1))), (5, .int 1), (4, .int 1), (0, .ref (a 0))]) hx hb dX6_show_147 hl (k := 5) rfl ((nI_succ i).symm) (by decide) rfl (fun ls hl => ?_)
                          refine lv_goto (tgt := 6) hx hb dX6_show_150 (by decide) ?_
                          exact ih_6 (i + 1) (n + 1) 0 _ _ (by omega) (by omega) (by omega) (by omega) (fun z => absurd rfl z) (fun z => absurd rfl z) (up_lt _ hRP) (up_z _ hz) ((sho_f1 hlt c_22 c_38 (by omega)).symm.trans hq1) ((sho_f1 hlt c_22 c_38 (by omega)).symm.trans hq2) _ _ hP (mG_dn hD) hS ls (lv_sub hl [5, 2, 1, 0] rfl)
                        · exact absurd c_138 (by decide)
                  · have hge : nOf v ≤ n := Nat.le_of_eq ((nI_eq (by omega) (by omega)).mp c_77).symm
                    have he := hq2.symm.trans (sho_f0 hlt c_22 c_38 hge)
                    rw [he] at h4
                    exact absurd h4 (nI_4 (by omega))
              · exact absurd c_50 (by decide)
  exact loop_6 (t + 1) 0 0 0 (fun _ => 0) rd (by omega) (by omega) (by omega) (by omega) (fun z => absurd rfl z) (fun z => absurd rfl z) (fun j hj => absurd hj (Nat.not_lt_zero j)) (fun _ _ => rfl) rfl rfl _ _ hP hD hS ls (lv_sub hl [3, 2, 1, 0] rfl)

