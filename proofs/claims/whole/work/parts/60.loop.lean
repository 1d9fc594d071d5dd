/-! the law: its loop -/
theorem lw_test {L i : Nat} (hL : L ≤ 2048) (hi : i ≤ 2048) (h : ¬ Int32.ofNat L - 4 < nI i) : i + 4 ≤ L := by
  have e : Int32.ofNat L = nI L := rfl
  have e4 : (4 : Int32) = nI 4 := rfl
  rw [e, e4] at h
  rcases Nat.lt_or_ge L 4 with q | q
  · have h1 : nI L - nI 4 < 0 := pk_sneg (by omega) q
    exact absurd (Int32.lt_of_lt_of_le h1 (nI_pos' (by omega))) h
  · rw [pk_sub q, nI_ltI (by omega) (by omega)] at h
    omega
set_option maxHeartbeats 1000000 in
set_option maxRecDepth 100000 in
theorem law_loop {p : Program} {e : Env} {s : State} {m : MethodId} {below : List Frame} {meth : Method} {c : Code} (l : Launch) {D : va_G} {ct : Nat → ClassId} {o : Nat → Nat} {ad : Nat → Nat → Nat} {a : Nat → Nat} {b L : Nat} {xs : Nat → Int32} (C : LC p s m meth c b L xs D ct) :
    ∀ (k cnt : Nat), 513 ≤ cnt + k → cnt ≤ 512 → ∀ (H : Heap) (locs : List Loc), LI s D ct o ad a cnt H locs → ∀ ls : Array Slot, lv_has ls 8 [(0, .ref b), (1, .ref (o 0)), (2, .ref (a 0)), (3, .int (nI (4 * cnt)))] → W p l e room_1 s m #[Value.ref b] below meth c H locs 600000 7302250 (lw_Z below #[Value.ref b] s) (F0 m 18 ls []) := by
  intro k
  induction k with
  | zero => intro cnt h1 h2; omega
  | succ k ih =>
    intro cnt h1 h2 H locs hI ls hl
    obtain ⟨hx, hb, hml, hown, hts, hX, hbl, hK, hN, hZ, hr, hlk, hL⟩ := id C
    have hbA : ¬ s.heap.size ≤ b := Nat.not_le.mpr hbl
    obtain ⟨A, B, W1, W2, hA1, hB2, hsim, okA, okB, hP, hD, hS⟩ := id hI
    refine lv_iload_n hx hb dL_law_18 rfl (lv_at hl 3 rfl) ?_
    refine lv_aload_n hx hb dL_law_19 rfl (lv_at hl 0 rfl) ?_
    refine va_slen hx hb hX hbl hbA hS dL_law_20 ?_
    refine lv_iconst (v := 4) hx hb dL_law_21 (by decide) ?_
    refine lv_isub hx hb dL_law_22 ?_
    refine lv_icmp_gt (tgt := 945) hx hb dL_law_23 (by decide) (fun _ => ?_) (fun c9 => ?_)
    · refine lv_iconst (v := 1) hx hb dL_law_945 (by decide) ?_
      exact va_forget hS.2.2 (W.base (lw_ret (d0 := s.drawn) (Drawn.sameBut.refl _ _) hx hb hr hlk dL_law_946))
    · have hi : 4 * cnt + 4 ≤ L := lw_test hL (by omega) c9
      have hc : cnt < 512 := by omega
      have K9 : ∀ (H : Heap) (locs : List Loc), LI s D ct o ad a (cnt + 1) H locs → ∀ ls : Array Slot, lv_has ls 8 [(0, .ref b), (1, .ref (o 0)), (2, .ref (a 0)), (3, .int (nI (4 * cnt)))] → W p l e room_1 s m #[Value.ref b] below meth c H locs 600000 7302250 (lw_Z below #[Value.ref b] s) (F0 m 939 ls []) := by
        intro H locs hI ls hl
        refine lv_iinc (v := nI (4 * (cnt + 1))) (lv' := [(3, .int (nI (4 * (cnt + 1)))), (0, .ref b), (1, .ref (o 0)), (2, .ref (a 0))]) hx hb dL_law_939 hl (k := 3) rfl (by rw [show Int32.ofInt 4 = nI 4 from rfl, nI_add]; rfl) (by decide) rfl (fun ls hl => ?_)
        refine lv_goto (tgt := 18) hx hb dL_law_942 (by decide) ?_
        exact ih (cnt + 1) (by omega) (by omega) H locs hI ls (lv_sub hl [1, 2, 3, 0] rfl)
      refine lv_aload_n hx hb dL_law_26 rfl (lv_at hl 0 rfl) ?_
      refine lv_iload_n hx hb dL_law_27 rfl (lv_at hl 3 rfl) ?_
      refine va_sld hx hb hX hbl hbA hS (r_in (k := 4 * cnt) rfl (by omega) (by omega)) dL_law_28 ?_
      refine lv_bipush (v := 31) hx hb dL_law_29 (by decide) ?_
      refine lv_iand hx hb dL_law_31 ?_
      obtain ⟨j, hj, ej⟩ := pk_andE (xs (nI (4 * cnt)).toNatClampNeg) (m := 31) 5 (by decide)
      refine lv_as (y := nI j) ej ?_
      have hj : j < 32 := hj
      match j, hj with
      | 0, _ =>
        refine lv_tableIn (off := 124) (tgt := 156) hx hb dL_law_32 (by decide) (by decide) (by decide) (by decide) ?_
        exact lc_setDigits l C hi hc hI hl K9
      | 1, _ =>
        refine lv_tableIn (off := 147) (tgt := 179) hx hb dL_law_32 (by decide) (by decide) (by decide) (by decide) ?_
        exact lc_setWidth l C hi hc hI hl K9
      | 2, _ =>
        refine lv_tableIn (off := 180) (tgt := 212) hx hb dL_law_32 (by decide) (by decide) (by decide) (by decide) ?_
        exact lc_setGuard l C hi hc hI hl K9
      | 3, _ =>
        refine lv_tableIn (off := 213) (tgt := 245) hx hb dL_law_32 (by decide) (by decide) (by decide) (by decide) ?_
        exact lc_setBrightness l C hi hc hI hl K9
      | 4, _ =>
        refine lv_tableIn (off := 246) (tgt := 278) hx hb dL_law_32 (by decide) (by decide) (by decide) (by decide) ?_
        exact lc_setPattern l C hi hc hI hl K9
      | 5, _ =>
        refine lv_tableIn (off := 279) (tgt := 311) hx hb dL_law_32 (by decide) (by decide) (by decide) (by decide) ?_
        exact lc_setGroup l C hi hc hI hl K9
      | 6, _ =>
        refine lv_tableIn (off := 312) (tgt := 344) hx hb dL_law_32 (by decide) (by decide) (by decide) (by decide) ?_
        exact lc_setBlink l C hi hc hI hl K9
      | 7, _ =>
        refine lv_tableIn (off := 355) (tgt := 387) hx hb dL_law_32 (by decide) (by decide) (by decide) (by decide) ?_
        exact lc_set l C hi hc hI hl K9
      | 8, _ =>
        refine lv_tableIn (off := 388) (tgt := 420) hx hb dL_law_32 (by decide) (by decide) (by decide) (by decide) ?_
        exact lc_replace l C hi hc hI hl K9
      | 9, _ =>
        refine lv_tableIn (off := 411) (tgt := 443) hx hb dL_law_32 (by decide) (by decide) (by decide) (by decide) ?_
        exact lc_test l C hi hc hI hl K9
      | 10, _ =>
        refine lv_tableIn (off := 434) (tgt := 466) hx hb dL_law_32 (by decide) (by decide) (by decide) (by decide) ?_
        exact lc_pass l C hi hc hI hl K9
      | 11, _ =>
        refine lv_tableIn (off := 457) (tgt := 489) hx hb dL_law_32 (by decide) (by decide) (by decide) (by decide) ?_
        exact lc_passFrames l C hi hc hI hl K9
      | 12, _ =>
        refine lv_tableIn (off := 480) (tgt := 512) hx hb dL_law_32 (by decide) (by decide) (by decide) (by decide) ?_
        exact lc_type l C hi hc hI hl K9
      | 13, _ =>
        refine lv_tableIn (off := 505) (tgt := 537) hx hb dL_law_32 (by decide) (by decide) (by decide) (by decide) ?_
        exact lc_clearText l C hi hc hI hl K9
      | 14, _ =>
        refine lv_tableIn (off := 518) (tgt := 550) hx hb dL_law_32 (by decide) (by decide) (by decide) (by decide) ?_
        exact lc_show l C hi hc hI hl K9
      | 15, _ =>
        refine lv_tableIn (off := 531) (tgt := 563) hx hb dL_law_32 (by decide) (by decide) (by decide) (by decide) ?_
        exact lc_undo l C hi hc hI hl K9
      | 16, _ =>
        refine lv_tableIn (off := 544) (tgt := 576) hx hb dL_law_32 (by decide) (by decide) (by decide) (by decide) ?_
        exact lc_keep l C hi hc hI hl K9
      | 17, _ =>
        refine lv_tableIn (off := 567) (tgt := 599) hx hb dL_law_32 (by decide) (by decide) (by decide) (by decide) ?_
        exact lc_restore l C hi hc hI hl K9
      | 18, _ =>
        refine lv_tableIn (off := 590) (tgt := 622) hx hb dL_law_32 (by decide) (by decide) (by decide) (by decide) ?_
        exact lc_digit l C hi hc hI hl K9
      | 19, _ =>
        refine lv_tableIn (off := 623) (tgt := 655) hx hb dL_law_32 (by decide) (by decide) (by decide) (by decide) ?_
        exact lc_segment l C hi hc hI hl K9
      | 20, _ =>
        refine lv_tableIn (off := 666) (tgt := 698) hx hb dL_law_32 (by decide) (by decide) (by decide) (by decide) ?_
        exact lc_litIn l C hi hc hI hl K9
      | 21, _ =>
        refine lv_tableIn (off := 699) (tgt := 731) hx hb dL_law_32 (by decide) (by decide) (by decide) (by decide) ?_
        exact lc_steadyGlow l C hi hc hI hl K9
      | 22, _ =>
        refine lv_tableIn (off := 722) (tgt := 754) hx hb dL_law_32 (by decide) (by decide) (by decide) (by decide) ?_
        exact lc_current l C hi hc hI hl K9
      | 23, _ =>
        refine lv_tableIn (off := 775) (tgt := 807) hx hb dL_law_32 (by decide) (by decide) (by decide) (by decide) ?_
        exact lc_thousandths l C hi hc hI hl K9
      | 24, _ =>
        refine lv_tableIn (off := 798) (tgt := 830) hx hb dL_law_32 (by decide) (by decide) (by decide) (by decide) ?_
        exact lc_duty l C hi hc hI hl K9
      | 25, _ =>
        refine lv_tableIn (off := 851) (tgt := 883) hx hb dL_law_32 (by decide) (by decide) (by decide) (by decide) ?_
        exact lc_count l C hi hc hI hl K9
      | 26, _ =>
        refine lv_tableIn (off := 874) (tgt := 906) hx hb dL_law_32 (by decide) (by decide) (by decide) (by decide) ?_
        exact lc_group l C hi hc hI hl K9
      | j + 27, hj =>
        refine lv_tableOut (tgt := 939) hx hb dL_law_32 (Or.inr (by rw [nI_toInt (by omega)]; omega)) (by decide) ?_
        exact K9 H locs ⟨A, B, W1, W2, hA1, hB2, hsim, okA.mono (by omega), okB.mono (by omega), hP, hD, hS⟩ ls hl
