set_option maxHeartbeats 4000000 in
set_option maxRecDepth 100000 in
theorem law_loop {p : Program} {e : Env} {s : State} {m : MethodId} {below : List Frame} {meth : Method} {c : Code} (l : Launch) {D : va_G} {ct : Nat → ClassId} {o : Nat → Nat} {ad : Nat → Nat → Nat} {b L : Nat} {xs : Nat → Int32} {Z : Nat → Prop} (C : LF p s m c cL_law 13 #[Value.ref b] wsL_law D ct Z) (hX : va_X b L xs s s.heap) (hbl : b < s.heap.size) (hL : L ≤ 260) (hr : meth.sig.returnType = ret) (hlk : meth.locks = false) (hZs : ∀ q, Z q → s.heap.size ≤ q) :
    ∀ (n e9 : Nat), 37 ≤ e9 + n → e9 ≤ 36 → ∀ (A : AS) (H : Heap) (locs : List Loc), LOk (14000 * e9) A → LH s D ct o ad Z [] A H locs → ∀ ls : Array Slot, lv_has ls 13 [(2, .int (nI e9)), (1, .ref (o 0)), (0, .ref b)] → W p l e room_1 s m #[Value.ref b] below meth c H locs (400 + 2 * e9) (6000 + 128 * e9) (lw_Z below #[Value.ref b] s) (F0 m 10 ls []) := by
  intro n
  induction n with
  | zero => intro e9 h1 h2; omega
  | succ n ih =>
    intro e9 h1 h2 A H locs ok hI ls hl
    obtain ⟨⟨hx, hb, hml, hown, hts⟩, hK, hN, hZ, hA⟩ := id C
    have hbA : ¬ Z b := fun z => absurd (hZs b z) (Nat.not_le.mpr hbl)
    refine lv_iload_n hx hb dL_law_10 rfl (lv_at hl 0 rfl) ?_
    refine lv_bipush (v := 36) hx hb dL_law_11 (by decide) ?_
    refine lv_icmp_ge (tgt := 933) hx hb dL_law_13 (by decide) (fun c_13 => ?_) (fun c_13 => ?_)
    · refine lv_aload_n hx hb dL_law_933 rfl (lv_at hl 1 rfl) ?_
      refine lq_stat C hI (As := [.ref (o 0)]) (rest := []) (r := 1) (mc := 2) (ms := 128) (fun W1 sz hX => kL_ticks l D ct sz o ad hX ok (by omega)) (va_cwS 1 hts gL_law_L_ticks rfl rfl rfl (by decide +kernel) ⟨Nat.le_of_ble_eq_true rfl, Nat.le_of_ble_eq_true rfl⟩) rfl hl.1 rfl (Nat.le_of_ble_eq_true rfl) dL_law_934 ⟨show (400 + 2 * e9) + 2 ≤ 600000 by omega, show (6000 + 128 * e9) + 128 ≤ 7302250 by omega⟩ (rfl) (fun H locs hI => ?_)
      obtain ⟨W1, ⟨A2, hc2, ok2⟩, hP2, hD2, hS2⟩ := hI
      have hI : LH s D ct o ad Z [] A2 H locs := ⟨W1, hc2, hP2, hD2, hS2⟩
      refine bif_eq_f (tgt := 951) hx hb dL_law_937 (by decide) (by decide) ?_
      refine lv_aload_n hx hb dL_law_940 rfl (lv_at hl 1 rfl) ?_
      refine lq_stat C hI (As := [.ref (o 0)]) (rest := []) (r := 1) (mc := 0) (ms := 0) (fun W1 sz hX => kL_errors l D ct sz o ad hX ok2) (va_cwS 1 hts gL_law_L_errors rfl rfl rfl (by decide +kernel) ⟨Nat.le_of_ble_eq_true rfl, Nat.le_of_ble_eq_true rfl⟩) rfl hl.1 rfl (Nat.le_of_ble_eq_true rfl) dL_law_941 ⟨show ((400 + 2 * e9) + 2) ≤ 600000 by omega, show ((6000 + 128 * e9) + 128) ≤ 7302250 by omega⟩ (rfl) (fun H locs hI => ?_)
      have hI := LY.lh hI
      refine bif_eq_f (tgt := 951) hx hb dL_law_944 (by decide) (by decide) ?_
      refine lv_iconst (v := 1) hx hb dL_law_947 (by decide) ?_
      refine lv_goto (tgt := 952) hx hb dL_law_948 (by decide) ?_
      obtain ⟨W9, hC9, hP9, hD9, hS9⟩ := hI
      refine W.widen (k := 600000) (n := 7302250) (by omega) (by omega) ?_
      exact va_forget (fun q9 hq9 => hZs _ (hS9.2.2 q9 hq9)) (W.base (lw_ret (d0 := s.drawn) (Drawn.sameBut.refl _ _) hx hb hr hlk dL_law_952))
    · have he : e9 < 36 := nI_nle' (b := 36) (by decide) (by omega) c_13
      have K9 : ∀ (A2 : AS) (H : Heap) (locs : List Loc), LOk (14000 * e9 + 14000) A2 → LH s D ct o ad Z [] A2 H locs → ∀ ls : Array Slot, lv_has ls 13 [(9, .int 1), (0, .ref b), (1, .ref (o 0)), (2, .int (nI e9))] → W p l e room_1 s m #[Value.ref b] below meth c H locs (400 + 2 * e9 + 2) (6000 + 128 * e9 + 128) (lw_Z below #[Value.ref b] s) (F0 m 906 ls []) := by
        intro A2 H locs ok2 hI ls hl
        refine lv_iload hx hb dL_law_906 (lv_at hl 0 rfl) ?_
        refine bif_eq_f (tgt := 925) hx hb dL_law_908 (by decide) (by decide) ?_
        refine lv_aload_n hx hb dL_law_911 rfl (lv_at hl 2 rfl) ?_
        refine lq_stat C hI (As := [.ref (o 0)]) (rest := []) (r := 1) (mc := 0) (ms := 0) (fun W1 sz hX => kL_digits l D ct sz o ad hX ok2) (va_cwS 1 hts gL_law_L_digits rfl rfl rfl (by decide +kernel) ⟨Nat.le_of_ble_eq_true rfl, Nat.le_of_ble_eq_true rfl⟩) rfl hl.1 rfl (Nat.le_of_ble_eq_true rfl) dL_law_912 ⟨show (400 + 2 * e9 + 2) ≤ 600000 by omega, show (6000 + 128 * e9 + 128) ≤ 7302250 by omega⟩ (rfl) (fun H locs hI => ?_)
        have hI := LY.lh hI
        refine bif_eq_f (tgt := 925) hx hb dL_law_915 (by decide) (by decide) ?_
        refine lv_aload_n hx hb dL_law_918 rfl (lv_at hl 2 rfl) ?_
        refine lq_stat C hI (As := [.ref (o 0)]) (rest := []) (r := 1) (mc := 0) (ms := 0) (fun W1 sz hX => kL_groups l D ct sz o ad hX ok2) (va_cwS 1 hts gL_law_L_groups rfl rfl rfl (by decide +kernel) ⟨Nat.le_of_ble_eq_true rfl, Nat.le_of_ble_eq_true rfl⟩) rfl hl.1 rfl (Nat.le_of_ble_eq_true rfl) dL_law_919 ⟨show (400 + 2 * e9 + 2) ≤ 600000 by omega, show (6000 + 128 * e9 + 128) ≤ 7302250 by omega⟩ (rfl) (fun H locs hI => ?_)
        have hI := LY.lh hI
        refine bif_ne_t (tgt := 927) hx hb dL_law_922 (by decide) (by decide) ?_
        refine lv_iinc (v := nI (e9 + 1)) (lv' := [(2, .int (nI (e9 + 1))), (9, .int 1), (0, .ref b), (1, .ref (o 0))]) hx hb dL_law_927 hl (k := 3) rfl ((nI_succ e9).symm) (by decide) rfl (fun ls hl => ?_)
        refine lv_goto (tgt := 10) hx hb dL_law_930 (by decide) ?_
        refine W.widen (k := 400 + 2 * (e9 + 1)) (n := 6000 + 128 * (e9 + 1)) (by omega) (by omega) ?_
        exact ih (e9 + 1) (by omega) (by omega) A2 _ _ (ok2.mono (by omega) (by omega)) hI ls (lv_sub hl [0, 3, 2] rfl)
      refine lv_aload_n hx hb dL_law_16 rfl (lv_at hl 2 rfl) ?_
      refine lv_iconst (v := 2) hx hb dL_law_17 (by decide) ?_
      refine lv_iload_n hx hb dL_law_18 rfl (lv_at hl 0 rfl) ?_
      refine lv_imul hx hb dL_law_19 ?_
      refine lv_as (y := nI (2 * e9)) (pk_mul 2 e9) ?_
      refine lq_cell C hI (L := L) (xs := xs) (k := (2 * e9)) hX hbl hbA (by omega) (by omega) (va_cwS 2 hts gL_law_L_cell rfl rfl rfl (by decide +kernel) ⟨Nat.le_of_ble_eq_true rfl, Nat.le_of_ble_eq_true rfl⟩) hl.1 (Nat.le_of_ble_eq_true rfl) dL_law_20 ⟨show (400 + 2 * e9) ≤ 600000 by omega, show (6000 + 128 * e9) ≤ 7302250 by omega⟩ ?_
      refine lv_istore_n (lv' := [(3, .int (pCell xs L (2 * e9))), (2, .int (nI e9)), (1, .ref (o 0)), (0, .ref b)]) hx hb dL_law_23 rfl hl (by decide) rfl (fun ls hl => ?_)
      refine lv_aload_n hx hb dL_law_24 rfl (lv_at hl 3 rfl) ?_
      refine lv_iconst (v := 2) hx hb dL_law_25 (by decide) ?_
      refine lv_iload_n hx hb dL_law_26 rfl (lv_at hl 1 rfl) ?_
      refine lv_imul hx hb dL_law_27 ?_
      refine lv_as (y := nI (2 * e9)) (pk_mul 2 e9) ?_
      refine lv_iconst (v := 1) hx hb dL_law_28 (by decide) ?_
      refine lv_iadd hx hb dL_law_29 ?_
      refine lv_as (y := nI (2 * e9 + 1)) (nI_1 _) ?_
      refine lq_cell C hI (L := L) (xs := xs) (k := (2 * e9 + 1)) hX hbl hbA (by omega) (by omega) (va_cwS 2 hts gL_law_L_cell rfl rfl rfl (by decide +kernel) ⟨Nat.le_of_ble_eq_true rfl, Nat.le_of_ble_eq_true rfl⟩) hl.1 (Nat.le_of_ble_eq_true rfl) dL_law_30 ⟨show (400 + 2 * e9) ≤ 600000 by omega, show (6000 + 128 * e9) ≤ 7302250 by omega⟩ ?_
      refine lv_istore (lv' := [(4, .int (pCell xs L (2 * e9 + 1))), (3, .int (pCell xs L (2 * e9))), (2, .int (nI e9)), (1, .ref (o 0)), (0, .ref b)]) hx hb dL_law_33 hl (by decide) rfl (fun ls hl => ?_)
      refine lv_iload_n hx hb dL_law_35 rfl (lv_at hl 1 rfl) ?_
      refine lv_bipush (v := 17) hx hb dL_law_36 (by decide) ?_
      refine lq_pure C (As := [.int (pCell xs L (2 * e9)), .int 17]) (rest := []) (r := pLow (pCell xs L (2 * e9)) 17) (kL_low l D ct (pCell xs L (2 * e9)) 17 (by decide)) (va_cwS 2 hts gL_law_L_low rfl rfl rfl (by decide +kernel) ⟨Nat.le_of_ble_eq_true rfl, Nat.le_of_ble_eq_true rfl⟩) rfl hl.1 rfl (Nat.le_of_ble_eq_true rfl) dL_law_38 ⟨show (400 + 2 * e9) ≤ 600000 by omega, show (6000 + 128 * e9) ≤ 7302250 by omega⟩ ?_
      refine lv_istore (lv' := [(5, .int (pLow (pCell xs L (2 * e9)) 17)), (4, .int (pCell xs L (2 * e9 + 1))), (3, .int (pCell xs L (2 * e9))), (2, .int (nI e9)), (1, .ref (o 0)), (0, .ref b)]) hx hb dL_law_41 hl (by decide) rfl (fun ls hl => ?_)
      refine lv_iload_n hx hb dL_law_43 rfl (lv_at hl 2 rfl) ?_
      refine lv_iconst (v := 5) hx hb dL_law_44 (by decide) ?_
      refine lv_ishr hx hb dL_law_45 ?_
      refine lv_istore_n (lv' := [(3, .int ((pCell xs L (2 * e9)) >>> (5 &&& 31))), (5, .int (pLow (pCell xs L (2 * e9)) 17)), (4, .int (pCell xs L (2 * e9 + 1))), (2, .int (nI e9)), (1, .ref (o 0)), (0, .ref b)]) hx hb dL_law_46 rfl hl (by decide) rfl (fun ls hl => ?_)
      refine lv_aload_n hx hb dL_law_47 rfl (lv_at hl 4 rfl) ?_
      refine lv_iconst (v := 1) hx hb dL_law_48 (by decide) ?_
      refine lq_call C hI (As := [.int 1]) (rest := []) (fun W1 sz hX => cx_count l D ct sz o ad hX ok.1 ok.2.2 1) (cwV 1 hts gL_law_X5_count rfl rfl rfl (by decide +kernel) ⟨Nat.le_of_ble_eq_true rfl, Nat.le_of_ble_eq_true rfl⟩) rfl hl.1 rfl (Nat.le_of_ble_eq_true rfl) dL_law_49 ⟨show (400 + 2 * e9) ≤ 600000 by omega, show (6000 + 128 * e9) ≤ 7302250 by omega⟩ (r := nI (nOf (aV A))) (qc_1 ok.inv) (A1 := A) (rfl) (fun H locs hI => ?_)
      refine lv_istore (lv' := [(6, .int (nI (nOf (aV A)))), (3, .int ((pCell xs L (2 * e9)) >>> (5 &&& 31))), (5, .int (pLow (pCell xs L (2 * e9)) 17)), (4, .int (pCell xs L (2 * e9 + 1))), (2, .int (nI e9)), (1, .ref (o 0)), (0, .ref b)]) hx hb dL_law_52 hl (by decide) rfl (fun ls hl => ?_)
      obtain ⟨d, hd, ed⟩ := pLow_N ((pCell xs L (2 * e9)) >>> (5 &&& 31)) (n := nOf (aV A)) (by have := ok.inv.n1; omega) (by have := ok.inv.n8; omega)
      refine lv_iload_n hx hb dL_law_54 rfl (lv_at hl 1 rfl) ?_
      refine lv_iload hx hb dL_law_55 (lv_at hl 0 rfl) ?_
      refine lq_pure C (As := [.int ((pCell xs L (2 * e9)) >>> (5 &&& 31)), .int (nI (nOf (aV A)))]) (rest := []) (r := pLow ((pCell xs L (2 * e9)) >>> (5 &&& 31)) (nI (nOf (aV A)))) (kL_low l D ct ((pCell xs L (2 * e9)) >>> (5 &&& 31)) (nI (nOf (aV A))) (nI_ne0 (by have := ok.inv.n1; omega) (by have := ok.inv.n8; omega))) (va_cwS 2 hts gL_law_L_low rfl rfl rfl (by decide +kernel) ⟨Nat.le_of_ble_eq_true rfl, Nat.le_of_ble_eq_true rfl⟩) rfl hl.1 rfl (Nat.le_of_ble_eq_true rfl) dL_law_57 ⟨show (400 + 2 * e9) ≤ 600000 by omega, show (6000 + 128 * e9) ≤ 7302250 by omega⟩ ?_
      refine lv_as (y := nI d) (ed) ?_
      refine lv_istore (lv' := [(7, .int (nI d)), (6, .int (nI (nOf (aV A)))), (3, .int ((pCell xs L (2 * e9)) >>> (5 &&& 31))), (5, .int (pLow (pCell xs L (2 * e9)) 17)), (4, .int (pCell xs L (2 * e9 + 1))), (2, .int (nI e9)), (1, .ref (o 0)), (0, .ref b)]) hx hb dL_law_60 hl (by decide) rfl (fun ls hl => ?_)
      refine lv_aload_n hx hb dL_law_62 rfl (lv_at hl 6 rfl) ?_
      refine lv_iconst (v := 3) hx hb dL_law_63 (by decide) ?_
      refine lq_call C hI (As := [.int 3]) (rest := []) (fun W1 sz hX => cx_count l D ct sz o ad hX ok.1 ok.2.2 3) (cwV 1 hts gL_law_X5_count rfl rfl rfl (by decide +kernel) ⟨Nat.le_of_ble_eq_true rfl, Nat.le_of_ble_eq_true rfl⟩) rfl hl.1 rfl (Nat.le_of_ble_eq_true rfl) dL_law_64 ⟨show (400 + 2 * e9) ≤ 600000 by omega, show (6000 + 128 * e9) ≤ 7302250 by omega⟩ (r := (aV A).1 0 2) (qc_3) (A1 := A) (rfl) (fun H locs hI => ?_)
      refine lv_istore (lv' := [(8, .int ((aV A).1 0 2)), (7, .int (nI d)), (6, .int (nI (nOf (aV A)))), (3, .int ((pCell xs L (2 * e9)) >>> (5 &&& 31))), (5, .int (pLow (pCell xs L (2 * e9)) 17)), (4, .int (pCell xs L (2 * e9 + 1))), (2, .int (nI e9)), (1, .ref (o 0)), (0, .ref b)]) hx hb dL_law_67 hl (by decide) rfl (fun ls hl => ?_)
      refine lv_iconst (v := 1) hx hb dL_law_69 (by decide) ?_
      refine lv_istore (lv' := [(9, .int 1), (8, .int ((aV A).1 0 2)), (7, .int (nI d)), (6, .int (nI (nOf (aV A)))), (3, .int ((pCell xs L (2 * e9)) >>> (5 &&& 31))), (5, .int (pLow (pCell xs L (2 * e9)) 17)), (4, .int (pCell xs L (2 * e9 + 1))), (2, .int (nI e9)), (1, .ref (o 0)), (0, .ref b)]) hx hb dL_law_70 hl (by decide) rfl (fun ls hl => ?_)
      refine lv_iload hx hb dL_law_72 (lv_at hl 5 rfl) ?_
      refine lv_if_ne (tgt := 142) hx hb dL_law_74 (by decide) (fun c_74 => ?_) (fun c_74 => ?_)
      · refine lv_iload hx hb dL_law_142 (lv_at hl 5 rfl) ?_
        refine lv_iconst (v := 1) hx hb dL_law_144 (by decide) ?_
        refine lv_icmp_ne (tgt := 242) hx hb dL_law_145 (by decide) (fun c_145 => ?_) (fun c_145 => ?_)
        · refine lv_iload hx hb dL_law_242 (lv_at hl 5 rfl) ?_
          refine lv_iconst (v := 2) hx hb dL_law_244 (by decide) ?_
          refine lv_icmp_ne (tgt := 306) hx hb dL_law_245 (by decide) (fun c_245 => ?_) (fun c_245 => ?_)
          · refine lv_iload hx hb dL_law_306 (lv_at hl 5 rfl) ?_
            refine lv_iconst (v := 3) hx hb dL_law_308 (by decide) ?_
            refine lv_icmp_ne (tgt := 372) hx hb dL_law_309 (by decide) (fun c_309 => ?_) (fun c_309 => ?_)
            · refine lv_iload hx hb dL_law_372 (lv_at hl 5 rfl) ?_
              refine lv_bipush (v := 6) hx hb dL_law_374 (by decide) ?_
              refine lv_icmp_ge (tgt := 435) hx hb dL_law_376 (by decide) (fun c_376 => ?_) (fun c_376 => ?_)
              · refine lv_iload hx hb dL_law_435 (lv_at hl 5 rfl) ?_
                refine lv_bipush (v := 6) hx hb dL_law_437 (by decide) ?_
                refine lv_icmp_ne (tgt := 494) hx hb dL_law_439 (by decide) (fun c_439 => ?_) (fun c_439 => ?_)
                · refine lv_iload hx hb dL_law_494 (lv_at hl 5 rfl) ?_
                  refine lv_bipush (v := 7) hx hb dL_law_496 (by decide) ?_
                  refine lv_icmp_ne (tgt := 552) hx hb dL_law_498 (by decide) (fun c_498 => ?_) (fun c_498 => ?_)
                  · refine lv_iload hx hb dL_law_552 (lv_at hl 5 rfl) ?_
                    refine lv_bipush (v := 8) hx hb dL_law_554 (by decide) ?_
                    refine lv_icmp_ne (tgt := 662) hx hb dL_law_556 (by decide) (fun c_556 => ?_) (fun c_556 => ?_)
                    · refine lv_iload hx hb dL_law_662 (lv_at hl 5 rfl) ?_
                      refine lv_bipush (v := 9) hx hb dL_law_664 (by decide) ?_
                      refine lv_icmp_ne (tgt := 725) hx hb dL_law_666 (by decide) (fun c_666 => ?_) (fun c_666 => ?_)
                      · refine lv_iload hx hb dL_law_725 (lv_at hl 5 rfl) ?_
                        refine lv_bipush (v := 10) hx hb dL_law_727 (by decide) ?_
                        refine lv_icmp_ne (tgt := 780) hx hb dL_law_729 (by decide) (fun c_729 => ?_) (fun c_729 => ?_)
                        · refine lv_iload hx hb dL_law_780 (lv_at hl 5 rfl) ?_
                          refine lv_bipush (v := 13) hx hb dL_law_782 (by decide) ?_
                          refine lv_icmp_ge (tgt := 796) hx hb dL_law_784 (by decide) (fun c_784 => ?_) (fun c_784 => ?_)
                          · refine lv_iload hx hb dL_law_796 (lv_at hl 5 rfl) ?_
                            refine lv_bipush (v := 13) hx hb dL_law_798 (by decide) ?_
                            refine lv_icmp_ne (tgt := 838) hx hb dL_law_800 (by decide) (fun c_800 => ?_) (fun c_800 => ?_)
                            · refine lv_iload hx hb dL_law_838 (lv_at hl 5 rfl) ?_
                              refine lv_bipush (v := 14) hx hb dL_law_840 (by decide) ?_
                              refine lv_icmp_ne (tgt := 872) hx hb dL_law_842 (by decide) (fun c_842 => ?_) (fun c_842 => ?_)
                              · refine lv_iload hx hb dL_law_872 (lv_at hl 5 rfl) ?_
                                refine lv_bipush (v := 15) hx hb dL_law_874 (by decide) ?_
                                refine lv_icmp_ne (tgt := 897) hx hb dL_law_876 (by decide) (fun c_876 => ?_) (fun c_876 => ?_)
                                · exact ls_897 l C ok (by omega) hI (by omega) (by omega) hd (lv_sub hl [7, 8, 9, 4, 6, 3, 2, 1] rfl) K9
                                · exact ls_879 l C ok (by omega) hI (by omega) (by omega) hd (lv_sub hl [7, 8, 9, 4, 6, 3, 2, 1] rfl) K9
                              · exact ls_845 l C ok (by omega) hI (by omega) (by omega) hd (lv_sub hl [7, 8, 9, 4, 6, 3, 2, 1] rfl) K9
                            · exact ls_803 l C ok (by omega) hI (by omega) (by omega) hd (lv_sub hl [7, 8, 9, 4, 6, 3, 2, 1] rfl) K9
                          · exact ls_787 l C ok (by omega) hI (by omega) (by omega) hd (lv_sub hl [7, 8, 9, 4, 6, 3, 2, 1] rfl) K9
                        · exact ls_732 l C ok (by omega) hI (by omega) (by omega) hd (lv_sub hl [7, 8, 9, 4, 6, 3, 2, 1] rfl) K9
                      · exact ls_669 l C ok (by omega) hI (by omega) (by omega) hd (lv_sub hl [7, 8, 9, 4, 6, 3, 2, 1] rfl) K9
                    · exact ls_559 l C ok (by omega) hI (by omega) (by omega) hd (lv_sub hl [7, 8, 9, 4, 6, 3, 2, 1] rfl) K9
                  · exact ls_501 l C ok (by omega) hI (by omega) (by omega) hd (lv_sub hl [7, 8, 9, 4, 6, 3, 2, 1] rfl) K9
                · exact ls_442 l C ok (by omega) hI (by omega) (by omega) hd (lv_sub hl [7, 8, 9, 4, 6, 3, 2, 1] rfl) K9
              · exact ls_379 l C ok (by omega) hI (by omega) (by omega) hd (lv_sub hl [7, 8, 9, 4, 6, 3, 2, 1] rfl) K9
            · exact ls_312 l C ok (by omega) hI (by omega) (by omega) hd (lv_sub hl [7, 8, 9, 4, 6, 3, 2, 1] rfl) K9
          · exact ls_248 l C ok (by omega) hI (by omega) (by omega) hd (lv_sub hl [7, 8, 9, 4, 6, 3, 2, 1] rfl) K9
        · exact ls_148 l C ok (by omega) hI (by omega) (by omega) hd (lv_sub hl [7, 8, 9, 4, 6, 3, 2, 1] rfl) K9
      · exact ls_77 l C ok (by omega) hI (by omega) (by omega) hd (lv_sub hl [7, 8, 9, 4, 6, 3, 2, 1] rfl) K9

