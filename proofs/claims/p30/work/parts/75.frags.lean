set_option maxHeartbeats 4000000 in
set_option maxRecDepth 100000 in
theorem ls_77 {p : Program} {e : Env} {s : State} {m : MethodId} {below : List Frame} {meth : Method} {c : Code} (l : Launch) {D : va_G} {ct : Nat → ClassId} {o : Nat → Nat} {ad : Nat → Nat → Nat} {b : Nat} {Q : State → Prop} {Z : Nat → Prop} (C : LF p s m c cL_law 13 #[Value.ref b] wsL_law D ct Z) {A : AS} {bd : Nat} (ok : LOk bd A) (hb14 : bd + 14000 < 2 ^ 20) {H : Heap} {locs : List Loc} (hI : LH s D ct o ad Z [] A H locs) {cs ss e9 d : Nat} {g h : Int32} (hcs : cs + 2 ≤ 600000) (hss : ss + 128 ≤ 7302250) (hd : d < nOf (aV A)) {ls : Array Slot} (hl : lv_has ls 13 [(2, .int (nI e9)), (1, .ref (o 0)), (0, .ref b), (3, .int g), (4, .int h), (6, .int (nI (nOf (aV A)))), (7, .int (nI d)), (8, .int ((aV A).1 0 2))])
    (K : ∀ (A2 : AS) (H : Heap) (locs : List Loc), LOk (bd + 14000) A2 → LH s D ct o ad Z [] A2 H locs → ∀ ls : Array Slot, lv_has ls 13 [(9, .int 1), (0, .ref b), (1, .ref (o 0)), (2, .int (nI e9))] → W p l e room_1 s m #[Value.ref b] below meth c H locs (cs + 2) (ss + 128) Q (F0 m 906 ls [])) : W p l e room_1 s m #[Value.ref b] below meth c H locs cs ss Q (F0 m 77 ls []) := by
  obtain ⟨⟨hx, hb, hml, hown, hts⟩, hK, hN, hZ, hA⟩ := id C
  obtain ⟨k, hk, ek⟩ : ∃ k, k < 8 ∧ pLow h 8 = nI k := pLow_N _ (by decide) (by decide)
  obtain ⟨A2, eA2, er2, hv2, ok2⟩ : ∃ A2 : AS, (f_setDigits A (nI (1 + k))).2 = A2 ∧ (f_setDigits A (nI (1 + k))).1 = nI (nOf (aV A)) ∧ aV A2 = pSD (aV A) (1 + k) ∧ LOk (bd + 7000) A2 := by
    have h9 := q_sD (A := A) (N := 1 + k) (by omega) (by omega)
    exact ⟨_, rfl, congrArg Prod.fst h9, congrArg (fun z : Int32 × AS => aV z.2) h9, l_setDigits ok (by omega)⟩
  have n2 : nOf (aV A2) = 1 + k := by rw [hv2]; exact sD_n (by omega)
  refine lv_iconst (v := 1) hx hb dL_law_77 (by decide) ?_
  refine lv_iload hx hb dL_law_78 (lv_at hl 4 rfl) ?_
  refine lv_bipush (v := 8) hx hb dL_law_80 (by decide) ?_
  refine lq_pure C (As := [.int h, .int 8]) (rest := [.int 1]) (r := pLow h 8) (kL_low l D ct h 8 (by decide)) (va_cwS 2 hts gL_law_L_low rfl rfl rfl (by decide +kernel) ⟨Nat.le_of_ble_eq_true rfl, Nat.le_of_ble_eq_true rfl⟩) rfl hl.1 rfl (Nat.le_of_ble_eq_true rfl) dL_law_82 ⟨show cs ≤ 600000 by omega, show ss ≤ 7302250 by omega⟩ ?_
  refine lv_as (y := nI k) (ek) ?_
  refine lv_iadd hx hb dL_law_85 ?_
  refine lv_as (y := nI (1 + k)) (nI_add 1 k) ?_
  refine lv_istore (lv' := [(10, .int (nI (1 + k))), (2, .int (nI e9)), (1, .ref (o 0)), (0, .ref b), (3, .int g), (4, .int h), (6, .int (nI (nOf (aV A)))), (7, .int (nI d)), (8, .int ((aV A).1 0 2))]) hx hb dL_law_86 hl (by decide) rfl (fun ls hl => ?_)
  refine lv_aload_n hx hb dL_law_88 rfl (lv_at hl 2 rfl) ?_
  refine lv_iload hx hb dL_law_89 (lv_at hl 0 rfl) ?_
  refine lq_call C hI (As := [.int (nI (1 + k))]) (rest := []) (fun W1 sz hX => cx_setDigits l D ct sz o ad hX ok.1 ok.2.2 (nI (1 + k))) (cwV 1 hts gL_law_X5_setDigits rfl rfl rfl (by decide +kernel) ⟨Nat.le_of_ble_eq_true rfl, Nat.le_of_ble_eq_true rfl⟩) rfl hl.1 rfl (Nat.le_of_ble_eq_true rfl) dL_law_91 ⟨show cs ≤ 600000 by omega, show ss ≤ 7302250 by omega⟩ (r := nI (nOf (aV A))) (er2) (A1 := A2) (eA2) (fun H locs hI => ?_)
  refine lv_iload hx hb dL_law_94 (lv_at hl 6 rfl) ?_
  refine bicmp_ne_f (tgt := 136) hx hb dL_law_96 (by decide) (rfl) ?_
  refine lv_aload_n hx hb dL_law_99 rfl (lv_at hl 2 rfl) ?_
  refine lv_iconst (v := 1) hx hb dL_law_100 (by decide) ?_
  refine lq_call C hI (As := [.int 1]) (rest := []) (fun W1 sz hX => cx_count l D ct sz o ad hX ok2.1 ok2.2.2 1) (cwV 1 hts gL_law_X5_count rfl rfl rfl (by decide +kernel) ⟨Nat.le_of_ble_eq_true rfl, Nat.le_of_ble_eq_true rfl⟩) rfl hl.1 rfl (Nat.le_of_ble_eq_true rfl) dL_law_101 ⟨show cs ≤ 600000 by omega, show ss ≤ 7302250 by omega⟩ (r := nI (1 + k)) ((qc_1 ok2.inv).trans (by rw [n2])) (A1 := A2) (rfl) (fun H locs hI => ?_)
  refine lv_iload hx hb dL_law_104 (lv_at hl 0 rfl) ?_
  refine bicmp_ne_f (tgt := 136) hx hb dL_law_106 (by decide) (rfl) ?_
  refine lv_aload_n hx hb dL_law_109 rfl (lv_at hl 2 rfl) ?_
  refine lv_iconst (v := 3) hx hb dL_law_110 (by decide) ?_
  refine lq_call C hI (As := [.int 3]) (rest := []) (fun W1 sz hX => cx_count l D ct sz o ad hX ok2.1 ok2.2.2 3) (cwV 1 hts gL_law_X5_count rfl rfl rfl (by decide +kernel) ⟨Nat.le_of_ble_eq_true rfl, Nat.le_of_ble_eq_true rfl⟩) rfl hl.1 rfl (Nat.le_of_ble_eq_true rfl) dL_law_111 ⟨show cs ≤ 600000 by omega, show ss ≤ 7302250 by omega⟩ (r := (aV A2).1 0 2) (qc_3) (A1 := A2) (rfl) (fun H locs hI => ?_)
  refine lv_iload hx hb dL_law_114 (lv_at hl 8 rfl) ?_
  refine lv_iload hx hb dL_law_116 (lv_at hl 0 rfl) ?_
  refine lv_iload hx hb dL_law_118 (lv_at hl 6 rfl) ?_
  have J_120 : ∀ (x9 : Int32) (H : Heap) (locs : List Loc), LH s D ct o ad Z [] A2 H locs → x9 = (if 1 + k = nOf (aV A) then 0 else 1) → W p l e room_1 s m #[Value.ref b] below meth c H locs cs ss Q (F0 m 128 ls [.int x9, .int ((aV A).1 0 2), .int ((aV A2).1 0 2)]) := by
    intro x9 H locs hI e9
    subst e9
    refine lv_iadd hx hb dL_law_128 ?_
    refine bicmp_ne_f (tgt := 136) hx hb dL_law_129 (by decide) (by rw [hv2]; exact sD_fr) ?_
    refine lv_iconst (v := 1) hx hb dL_law_132 (by decide) ?_
    refine lv_goto (tgt := 137) hx hb dL_law_133 (by decide) ?_
    refine lv_istore (lv' := [(9, .int 1), (10, .int (nI (1 + k))), (2, .int (nI e9)), (1, .ref (o 0)), (0, .ref b), (3, .int g), (4, .int h), (6, .int (nI (nOf (aV A)))), (7, .int (nI d)), (8, .int ((aV A).1 0 2))]) hx hb dL_law_137 hl (by decide) rfl (fun ls hl => ?_)
    refine lv_goto (tgt := 906) hx hb dL_law_139 (by decide) ?_
    refine W.widen (k := cs + 2) (n := ss + 128) (by omega) (by omega) ?_
    exact K A2 _ _ (ok2.mono (by omega) hb14) hI ls (lv_sub hl [0, 4, 3, 2] rfl)
  refine lv_icmp_ne (tgt := 127) hx hb dL_law_120 (by decide) (fun c_120 => ?_) (fun c_120 => ?_)
  · refine lv_iconst (v := 1) hx hb dL_law_127 (by decide) ?_
    exact J_120 _ _ _ hI ((if_neg (fun z => c_120 (by rw [z]))).symm)
  · refine lv_iconst (v := 0) hx hb dL_law_123 (by decide) ?_
    refine lv_goto (tgt := 128) hx hb dL_law_124 (by decide) ?_
    exact J_120 _ _ _ hI ((if_pos ((nI_eq (by omega) (by have := ok.inv.n8; omega)).mp c_120)).symm)

set_option maxHeartbeats 4000000 in
set_option maxRecDepth 100000 in
theorem ls_148 {p : Program} {e : Env} {s : State} {m : MethodId} {below : List Frame} {meth : Method} {c : Code} (l : Launch) {D : va_G} {ct : Nat → ClassId} {o : Nat → Nat} {ad : Nat → Nat → Nat} {b : Nat} {Q : State → Prop} {Z : Nat → Prop} (C : LF p s m c cL_law 13 #[Value.ref b] wsL_law D ct Z) {A : AS} {bd : Nat} (ok : LOk bd A) (hb14 : bd + 14000 < 2 ^ 20) {H : Heap} {locs : List Loc} (hI : LH s D ct o ad Z [] A H locs) {cs ss e9 d : Nat} {g h : Int32} (hcs : cs + 2 ≤ 600000) (hss : ss + 128 ≤ 7302250) (hd : d < nOf (aV A)) {ls : Array Slot} (hl : lv_has ls 13 [(2, .int (nI e9)), (1, .ref (o 0)), (0, .ref b), (3, .int g), (4, .int h), (6, .int (nI (nOf (aV A)))), (7, .int (nI d)), (8, .int ((aV A).1 0 2))])
    (K : ∀ (A2 : AS) (H : Heap) (locs : List Loc), LOk (bd + 14000) A2 → LH s D ct o ad Z [] A2 H locs → ∀ ls : Array Slot, lv_has ls 13 [(9, .int 1), (0, .ref b), (1, .ref (o 0)), (2, .int (nI e9))] → W p l e room_1 s m #[Value.ref b] below meth c H locs (cs + 2) (ss + 128) Q (F0 m 906 ls [])) : W p l e room_1 s m #[Value.ref b] below meth c H locs cs ss Q (F0 m 148 ls []) := by
  obtain ⟨⟨hx, hb, hml, hown, hts⟩, hK, hN, hZ, hA⟩ := id C
  obtain ⟨k, hk, ek⟩ : ∃ k, k < 37 ∧ pLow h 37 = nI k := pLow_N _ (by decide) (by decide)
  obtain ⟨A2, eA2, er2, hv2, ok2⟩ : ∃ A2 : AS, (f_setWidth A (nI d) (nI (4 + k))).2 = A2 ∧ (f_setWidth A (nI d) (nI (4 + k))).1 = pLen (pSW (aV A) d (nI (4 + k))) ∧ aV A2 = pSW (aV A) d (nI (4 + k)) ∧ LOk (bd + 7000) A2 := by
    have h9 := q_sW (A := A) (y := 4 + k) ok.inv hd (by omega) (by omega)
    exact ⟨_, rfl, congrArg Prod.fst h9, congrArg (fun z : Int32 × AS => aV z.2) h9, l_setWidth ok (by omega)⟩
  rw [← hv2] at er2
  have hn2 : nOf (aV A2) = nOf (aV A) := by rw [hv2]; exact sW_n
  have hd2 : d < nOf (aV A2) := by rw [hn2]; exact hd
  refine lv_aload_n hx hb dL_law_148 rfl (lv_at hl 1 rfl) ?_
  refine lv_iload hx hb dL_law_149 (lv_at hl 6 rfl) ?_
  refine lv_iconst (v := 1) hx hb dL_law_151 (by decide) ?_
  refine lq_call C hI (As := [.int (nI d), .int 1]) (rest := []) (fun W1 sz hX => cx_digit l D ct sz o ad hX ok.1 ok.2.2 (nI d) 1) (cwV 2 hts gL_law_X5_digit rfl rfl rfl (by decide +kernel) ⟨Nat.le_of_ble_eq_true rfl, Nat.le_of_ble_eq_true rfl⟩) rfl hl.1 rfl (Nat.le_of_ble_eq_true rfl) dL_law_152 ⟨show cs ≤ 600000 by omega, show ss ≤ 7302250 by omega⟩ (r := (aV A).1 (4 + d) 1) (qd_1 ok.inv hd) (A1 := A) (rfl) (fun H locs hI => ?_)
  refine lv_istore (lv' := [(10, .int ((aV A).1 (4 + d) 1)), (2, .int (nI e9)), (1, .ref (o 0)), (0, .ref b), (3, .int g), (4, .int h), (6, .int (nI (nOf (aV A)))), (7, .int (nI d)), (8, .int ((aV A).1 0 2))]) hx hb dL_law_155 hl (by decide) rfl (fun ls hl => ?_)
  refine lv_iconst (v := 4) hx hb dL_law_157 (by decide) ?_
  refine lv_iload hx hb dL_law_158 (lv_at hl 5 rfl) ?_
  refine lv_bipush (v := 37) hx hb dL_law_160 (by decide) ?_
  refine lq_pure C (As := [.int h, .int 37]) (rest := [.int 4]) (r := pLow h 37) (kL_low l D ct h 37 (by decide)) (va_cwS 2 hts gL_law_L_low rfl rfl rfl (by decide +kernel) ⟨Nat.le_of_ble_eq_true rfl, Nat.le_of_ble_eq_true rfl⟩) rfl hl.1 rfl (Nat.le_of_ble_eq_true rfl) dL_law_162 ⟨show cs ≤ 600000 by omega, show ss ≤ 7302250 by omega⟩ ?_
  refine lv_as (y := nI k) (ek) ?_
  refine lv_iadd hx hb dL_law_165 ?_
  refine lv_as (y := nI (4 + k)) (nI_add 4 k) ?_
  refine lv_istore (lv' := [(11, .int (nI (4 + k))), (10, .int ((aV A).1 (4 + d) 1)), (2, .int (nI e9)), (1, .ref (o 0)), (0, .ref b), (3, .int g), (4, .int h), (6, .int (nI (nOf (aV A)))), (7, .int (nI d)), (8, .int ((aV A).1 0 2))]) hx hb dL_law_166 hl (by decide) rfl (fun ls hl => ?_)
  refine lv_aload_n hx hb dL_law_168 rfl (lv_at hl 3 rfl) ?_
  refine lv_iconst (v := 2) hx hb dL_law_169 (by decide) ?_
  refine lq_call C hI (As := [.int 2]) (rest := []) (fun W1 sz hX => cx_count l D ct sz o ad hX ok.1 ok.2.2 2) (cwV 1 hts gL_law_X5_count rfl rfl rfl (by decide +kernel) ⟨Nat.le_of_ble_eq_true rfl, Nat.le_of_ble_eq_true rfl⟩) rfl hl.1 rfl (Nat.le_of_ble_eq_true rfl) dL_law_170 ⟨show cs ≤ 600000 by omega, show ss ≤ 7302250 by omega⟩ (r := pLen (aV A)) (qc_2) (A1 := A) (rfl) (fun H locs hI => ?_)
  refine lv_iload hx hb dL_law_173 (lv_at hl 1 rfl) ?_
  refine lv_isub hx hb dL_law_175 ?_
  refine lv_iload hx hb dL_law_176 (lv_at hl 0 rfl) ?_
  refine lv_iadd hx hb dL_law_178 ?_
  refine lv_istore (lv' := [(12, .int (((pLen (aV A)) - ((aV A).1 (4 + d) 1)) + (nI (4 + k)))), (11, .int (nI (4 + k))), (10, .int ((aV A).1 (4 + d) 1)), (2, .int (nI e9)), (1, .ref (o 0)), (0, .ref b), (3, .int g), (4, .int h), (6, .int (nI (nOf (aV A)))), (7, .int (nI d)), (8, .int ((aV A).1 0 2))]) hx hb dL_law_179 hl (by decide) rfl (fun ls hl => ?_)
  refine lv_aload_n hx hb dL_law_181 rfl (lv_at hl 4 rfl) ?_
  refine lv_iload hx hb dL_law_182 (lv_at hl 9 rfl) ?_
  refine lv_iload hx hb dL_law_184 (lv_at hl 1 rfl) ?_
  refine lq_call C hI (As := [.int (nI d), .int (nI (4 + k))]) (rest := []) (fun W1 sz hX => cx_setWidth l D ct sz o ad hX ok.1 ok.2.2 (nI d) (nI (4 + k))) (cwV 2 hts gL_law_X5_setWidth rfl rfl rfl (by decide +kernel) ⟨Nat.le_of_ble_eq_true rfl, Nat.le_of_ble_eq_true rfl⟩) rfl hl.1 rfl (Nat.le_of_ble_eq_true rfl) dL_law_186 ⟨show cs ≤ 600000 by omega, show ss ≤ 7302250 by omega⟩ (r := pLen (aV A2)) (er2) (A1 := A2) (eA2) (fun H locs hI => ?_)
  refine lv_iload hx hb dL_law_189 (lv_at hl 0 rfl) ?_
  refine bicmp_ne_f (tgt := 236) hx hb dL_law_191 (by decide) (by rw [hv2]; exact sW_len hd) ?_
  refine lv_aload_n hx hb dL_law_194 rfl (lv_at hl 4 rfl) ?_
  refine lv_iconst (v := 3) hx hb dL_law_195 (by decide) ?_
  refine lq_call C hI (As := [.int 3]) (rest := []) (fun W1 sz hX => cx_count l D ct sz o ad hX ok2.1 ok2.2.2 3) (cwV 1 hts gL_law_X5_count rfl rfl rfl (by decide +kernel) ⟨Nat.le_of_ble_eq_true rfl, Nat.le_of_ble_eq_true rfl⟩) rfl hl.1 rfl (Nat.le_of_ble_eq_true rfl) dL_law_196 ⟨show cs ≤ 600000 by omega, show ss ≤ 7302250 by omega⟩ (r := (aV A2).1 0 2) (qc_3) (A1 := A2) (rfl) (fun H locs hI => ?_)
  refine lv_iload hx hb dL_law_199 (lv_at hl 10 rfl) ?_
  refine lv_iload hx hb dL_law_201 (lv_at hl 1 rfl) ?_
  refine lv_iload hx hb dL_law_203 (lv_at hl 2 rfl) ?_
  have J_205 : ∀ (x9 : Int32) (H : Heap) (locs : List Loc), LH s D ct o ad Z [] A2 H locs → x9 = (if nI (4 + k) = (aV A).1 (4 + d) 1 then 0 else 1) → W p l e room_1 s m #[Value.ref b] below meth c H locs cs ss Q (F0 m 213 ls [.int x9, .int ((aV A).1 0 2), .int ((aV A2).1 0 2)]) := by
    intro x9 H locs hI e9
    subst e9
    refine lv_iadd hx hb dL_law_213 ?_
    refine bicmp_ne_f (tgt := 236) hx hb dL_law_214 (by decide) (by rw [hv2]; exact sW_fr) ?_
    refine lv_iload hx hb dL_law_217 (lv_at hl 1 rfl) ?_
    refine lv_iload hx hb dL_law_219 (lv_at hl 2 rfl) ?_
    refine lv_icmp_eq (tgt := 232) hx hb dL_law_221 (by decide) (fun c_221 => ?_) (fun c_221 => ?_)
    · refine lv_iconst (v := 1) hx hb dL_law_232 (by decide) ?_
      refine lv_goto (tgt := 237) hx hb dL_law_233 (by decide) ?_
      refine lv_istore (lv' := [(9, .int 1), (12, .int (((pLen (aV A)) - ((aV A).1 (4 + d) 1)) + (nI (4 + k)))), (11, .int (nI (4 + k))), (10, .int ((aV A).1 (4 + d) 1)), (2, .int (nI e9)), (1, .ref (o 0)), (0, .ref b), (3, .int g), (4, .int h), (6, .int (nI (nOf (aV A)))), (7, .int (nI d)), (8, .int ((aV A).1 0 2))]) hx hb dL_law_237 hl (by decide) rfl (fun ls hl => ?_)
      refine lv_goto (tgt := 906) hx hb dL_law_239 (by decide) ?_
      refine W.widen (k := cs + 2) (n := ss + 128) (by omega) (by omega) ?_
      exact K A2 _ _ (ok2.mono (by omega) hb14) hI ls (lv_sub hl [0, 6, 5, 4] rfl)
    · refine lv_aload_n hx hb dL_law_224 rfl (lv_at hl 4 rfl) ?_
      refine lv_iconst (v := 4) hx hb dL_law_225 (by decide) ?_
      refine lq_call C hI (As := [.int 4]) (rest := []) (fun W1 sz hX => cx_count l D ct sz o ad hX ok2.1 ok2.2.2 4) (cwV 1 hts gL_law_X5_count rfl rfl rfl (by decide +kernel) ⟨Nat.le_of_ble_eq_true rfl, Nat.le_of_ble_eq_true rfl⟩) rfl hl.1 rfl (Nat.le_of_ble_eq_true rfl) dL_law_226 ⟨show cs ≤ 600000 by omega, show ss ≤ 7302250 by omega⟩ (r := (aV A2).1 0 3) (qc_4) (A1 := A2) (rfl) (fun H locs hI => ?_)
      refine bif_ne_f (tgt := 236) hx hb dL_law_229 (by decide) (by rw [hv2]; exact sW_t c_221) ?_
      refine lv_iconst (v := 1) hx hb dL_law_232 (by decide) ?_
      refine lv_goto (tgt := 237) hx hb dL_law_233 (by decide) ?_
      refine lv_istore (lv' := [(9, .int 1), (12, .int (((pLen (aV A)) - ((aV A).1 (4 + d) 1)) + (nI (4 + k)))), (11, .int (nI (4 + k))), (10, .int ((aV A).1 (4 + d) 1)), (2, .int (nI e9)), (1, .ref (o 0)), (0, .ref b), (3, .int g), (4, .int h), (6, .int (nI (nOf (aV A)))), (7, .int (nI d)), (8, .int ((aV A).1 0 2))]) hx hb dL_law_237 hl (by decide) rfl (fun ls hl => ?_)
      refine lv_goto (tgt := 906) hx hb dL_law_239 (by decide) ?_
      refine W.widen (k := cs + 2) (n := ss + 128) (by omega) (by omega) ?_
      exact K A2 _ _ (ok2.mono (by omega) hb14) hI ls (lv_sub hl [0, 6, 5, 4] rfl)
  refine lv_icmp_ne (tgt := 212) hx hb dL_law_205 (by decide) (fun c_205 => ?_) (fun c_205 => ?_)
  · refine lv_iconst (v := 1) hx hb dL_law_212 (by decide) ?_
    exact J_205 _ _ _ hI ((if_neg c_205).symm)
  · refine lv_iconst (v := 0) hx hb dL_law_208 (by decide) ?_
    refine lv_goto (tgt := 213) hx hb dL_law_209 (by decide) ?_
    exact J_205 _ _ _ hI ((if_pos c_205).symm)

set_option maxHeartbeats 4000000 in
set_option maxRecDepth 100000 in
theorem ls_248 {p : Program} {e : Env} {s : State} {m : MethodId} {below : List Frame} {meth : Method} {c : Code} (l : Launch) {D : va_G} {ct : Nat → ClassId} {o : Nat → Nat} {ad : Nat → Nat → Nat} {b : Nat} {Q : State → Prop} {Z : Nat → Prop} (C : LF p s m c cL_law 13 #[Value.ref b] wsL_law D ct Z) {A : AS} {bd : Nat} (ok : LOk bd A) (hb14 : bd + 14000 < 2 ^ 20) {H : Heap} {locs : List Loc} (hI : LH s D ct o ad Z [] A H locs) {cs ss e9 d : Nat} {g h : Int32} (hcs : cs + 2 ≤ 600000) (hss : ss + 128 ≤ 7302250) (hd : d < nOf (aV A)) {ls : Array Slot} (hl : lv_has ls 13 [(2, .int (nI e9)), (1, .ref (o 0)), (0, .ref b), (3, .int g), (4, .int h), (6, .int (nI (nOf (aV A)))), (7, .int (nI d)), (8, .int ((aV A).1 0 2))])
    (K : ∀ (A2 : AS) (H : Heap) (locs : List Loc), LOk (bd + 14000) A2 → LH s D ct o ad Z [] A2 H locs → ∀ ls : Array Slot, lv_has ls 13 [(9, .int 1), (0, .ref b), (1, .ref (o 0)), (2, .int (nI e9))] → W p l e room_1 s m #[Value.ref b] below meth c H locs (cs + 2) (ss + 128) Q (F0 m 906 ls [])) : W p l e room_1 s m #[Value.ref b] below meth c H locs cs ss Q (F0 m 248 ls []) := by
  obtain ⟨⟨hx, hb, hml, hown, hts⟩, hK, hN, hZ, hA⟩ := id C
  obtain ⟨k, hk, ek⟩ : ∃ k, k < 4 ∧ pLow h 4 = nI k := pLow_N _ (by decide) (by decide)
  obtain ⟨A2, eA2, er2, hv2, ok2⟩ : ∃ A2 : AS, (f_setGuard A (nI d) (nI k)).2 = A2 ∧ (f_setGuard A (nI d) (nI k)).1 = pLP (s2 (aV A) (4 + d) 2 (nI k)) d ∧ aV A2 = s2 (aV A) (4 + d) 2 (nI k) ∧ LOk (bd + 7000) A2 := by
    have h9 := q_sG (A := A) (y := k) ok.inv hd (by omega)
    exact ⟨_, rfl, congrArg Prod.fst h9, congrArg (fun z : Int32 × AS => aV z.2) h9, l_setGuard ok (by omega)⟩
  rw [← hv2] at er2
  have hn2 : nOf (aV A2) = nOf (aV A) := by rw [hv2]; exact s2_n _ (by omega) _ _
  have hd2 : d < nOf (aV A2) := by rw [hn2]; exact hd
  refine lv_aload_n hx hb dL_law_248 rfl (lv_at hl 1 rfl) ?_
  refine lv_iload hx hb dL_law_249 (lv_at hl 6 rfl) ?_
  refine lv_iload hx hb dL_law_251 (lv_at hl 4 rfl) ?_
  refine lv_iconst (v := 4) hx hb dL_law_253 (by decide) ?_
  refine lq_pure C (As := [.int h, .int 4]) (rest := [.int (nI d), .ref (o 0)]) (r := pLow h 4) (kL_low l D ct h 4 (by decide)) (va_cwS 2 hts gL_law_L_low rfl rfl rfl (by decide +kernel) ⟨Nat.le_of_ble_eq_true rfl, Nat.le_of_ble_eq_true rfl⟩) rfl hl.1 rfl (Nat.le_of_ble_eq_true rfl) dL_law_254 ⟨show cs ≤ 600000 by omega, show ss ≤ 7302250 by omega⟩ ?_
  refine lv_as (y := nI k) (ek) ?_
  refine lq_call C hI (As := [.int (nI d), .int (nI k)]) (rest := []) (fun W1 sz hX => cx_setGuard l D ct sz o ad hX ok.1 ok.2.2 (nI d) (nI k)) (cwV 2 hts gL_law_X5_setGuard rfl rfl rfl (by decide +kernel) ⟨Nat.le_of_ble_eq_true rfl, Nat.le_of_ble_eq_true rfl⟩) rfl hl.1 rfl (Nat.le_of_ble_eq_true rfl) dL_law_257 ⟨show cs ≤ 600000 by omega, show ss ≤ 7302250 by omega⟩ (r := pLP (aV A2) d) (er2) (A1 := A2) (eA2) (fun H locs hI => ?_)
  refine lv_aload_n hx hb dL_law_260 rfl (lv_at hl 1 rfl) ?_
  refine lv_iload hx hb dL_law_261 (lv_at hl 6 rfl) ?_
  refine lv_iconst (v := 5) hx hb dL_law_263 (by decide) ?_
  refine lq_call C hI (As := [.int (nI d), .int 5]) (rest := [.int (pLP (aV A2) d)]) (fun W1 sz hX => cx_digit l D ct sz o ad hX ok2.1 ok2.2.2 (nI d) 5) (cwV 2 hts gL_law_X5_digit rfl rfl rfl (by decide +kernel) ⟨Nat.le_of_ble_eq_true rfl, Nat.le_of_ble_eq_true rfl⟩) rfl hl.1 rfl (Nat.le_of_ble_eq_true rfl) dL_law_264 ⟨show cs ≤ 600000 by omega, show ss ≤ 7302250 by omega⟩ (r := pLP (aV A2) d) (qd_5 ok2.inv hd2) (A1 := A2) (rfl) (fun H locs hI => ?_)
  refine bicmp_ne_f (tgt := 300) hx hb dL_law_267 (by decide) (rfl) ?_
  refine lv_aload_n hx hb dL_law_270 rfl (lv_at hl 1 rfl) ?_
  refine lv_iload hx hb dL_law_271 (lv_at hl 6 rfl) ?_
  refine lv_iconst (v := 2) hx hb dL_law_273 (by decide) ?_
  refine lq_call C hI (As := [.int (nI d), .int 2]) (rest := []) (fun W1 sz hX => cx_digit l D ct sz o ad hX ok2.1 ok2.2.2 (nI d) 2) (cwV 2 hts gL_law_X5_digit rfl rfl rfl (by decide +kernel) ⟨Nat.le_of_ble_eq_true rfl, Nat.le_of_ble_eq_true rfl⟩) rfl hl.1 rfl (Nat.le_of_ble_eq_true rfl) dL_law_274 ⟨show cs ≤ 600000 by omega, show ss ≤ 7302250 by omega⟩ (r := (aV A2).1 (4 + d) 2) (qd_2 ok2.inv hd2) (A1 := A2) (rfl) (fun H locs hI => ?_)
  refine lv_iload hx hb dL_law_277 (lv_at hl 4 rfl) ?_
  refine lv_iconst (v := 4) hx hb dL_law_279 (by decide) ?_
  refine lq_pure C (As := [.int h, .int 4]) (rest := [.int ((aV A2).1 (4 + d) 2)]) (r := pLow h 4) (kL_low l D ct h 4 (by decide)) (va_cwS 2 hts gL_law_L_low rfl rfl rfl (by decide +kernel) ⟨Nat.le_of_ble_eq_true rfl, Nat.le_of_ble_eq_true rfl⟩) rfl hl.1 rfl (Nat.le_of_ble_eq_true rfl) dL_law_280 ⟨show cs ≤ 600000 by omega, show ss ≤ 7302250 by omega⟩ ?_
  refine lv_as (y := nI k) (ek) ?_
  refine bicmp_ne_f (tgt := 300) hx hb dL_law_283 (by decide) (by rw [hv2, s2_at, if_pos ⟨rfl, rfl⟩]) ?_
  refine lv_aload_n hx hb dL_law_286 rfl (lv_at hl 1 rfl) ?_
  refine lv_iconst (v := 3) hx hb dL_law_287 (by decide) ?_
  refine lq_call C hI (As := [.int 3]) (rest := []) (fun W1 sz hX => cx_count l D ct sz o ad hX ok2.1 ok2.2.2 3) (cwV 1 hts gL_law_X5_count rfl rfl rfl (by decide +kernel) ⟨Nat.le_of_ble_eq_true rfl, Nat.le_of_ble_eq_true rfl⟩) rfl hl.1 rfl (Nat.le_of_ble_eq_true rfl) dL_law_288 ⟨show cs ≤ 600000 by omega, show ss ≤ 7302250 by omega⟩ (r := (aV A2).1 0 2) (qc_3) (A1 := A2) (rfl) (fun H locs hI => ?_)
  refine lv_iload hx hb dL_law_291 (lv_at hl 7 rfl) ?_
  refine bicmp_ne_f (tgt := 300) hx hb dL_law_293 (by decide) (by rw [hv2, s2_at, if_neg (by omega)]) ?_
  refine lv_iconst (v := 1) hx hb dL_law_296 (by decide) ?_
  refine lv_goto (tgt := 301) hx hb dL_law_297 (by decide) ?_
  refine lv_istore (lv' := [(9, .int 1), (2, .int (nI e9)), (1, .ref (o 0)), (0, .ref b), (3, .int g), (4, .int h), (6, .int (nI (nOf (aV A)))), (7, .int (nI d)), (8, .int ((aV A).1 0 2))]) hx hb dL_law_301 hl (by decide) rfl (fun ls hl => ?_)
  refine lv_goto (tgt := 906) hx hb dL_law_303 (by decide) ?_
  refine W.widen (k := cs + 2) (n := ss + 128) (by omega) (by omega) ?_
  exact K A2 _ _ (ok2.mono (by omega) hb14) hI ls (lv_sub hl [0, 3, 2, 1] rfl)

set_option maxHeartbeats 4000000 in
set_option maxRecDepth 100000 in
theorem ls_312 {p : Program} {e : Env} {s : State} {m : MethodId} {below : List Frame} {meth : Method} {c : Code} (l : Launch) {D : va_G} {ct : Nat → ClassId} {o : Nat → Nat} {ad : Nat → Nat → Nat} {b : Nat} {Q : State → Prop} {Z : Nat → Prop} (C : LF p s m c cL_law 13 #[Value.ref b] wsL_law D ct Z) {A : AS} {bd : Nat} (ok : LOk bd A) (hb14 : bd + 14000 < 2 ^ 20) {H : Heap} {locs : List Loc} (hI : LH s D ct o ad Z [] A H locs) {cs ss e9 d : Nat} {g h : Int32} (hcs : cs + 2 ≤ 600000) (hss : ss + 128 ≤ 7302250) (hd : d < nOf (aV A)) {ls : Array Slot} (hl : lv_has ls 13 [(2, .int (nI e9)), (1, .ref (o 0)), (0, .ref b), (3, .int g), (4, .int h), (6, .int (nI (nOf (aV A)))), (7, .int (nI d)), (8, .int ((aV A).1 0 2))])
    (K : ∀ (A2 : AS) (H : Heap) (locs : List Loc), LOk (bd + 14000) A2 → LH s D ct o ad Z [] A2 H locs → ∀ ls : Array Slot, lv_has ls 13 [(9, .int 1), (0, .ref b), (1, .ref (o 0)), (2, .int (nI e9))] → W p l e room_1 s m #[Value.ref b] below meth c H locs (cs + 2) (ss + 128) Q (F0 m 906 ls [])) : W p l e room_1 s m #[Value.ref b] below meth c H locs cs ss Q (F0 m 312 ls []) := by
  obtain ⟨⟨hx, hb, hml, hown, hts⟩, hK, hN, hZ, hA⟩ := id C
  obtain ⟨k, hk, ek⟩ : ∃ k, k < 16 ∧ pLow h 16 = nI k := pLow_N _ (by decide) (by decide)
  obtain ⟨A2, eA2, er2, hv2, ok2⟩ : ∃ A2 : AS, (f_setBrightness A (nI d) (nI k)).2 = A2 ∧ (f_setBrightness A (nI d) (nI k)).1 = pLP (s2 (aV A) (4 + d) 3 (nI k)) d ∧ aV A2 = s2 (aV A) (4 + d) 3 (nI k) ∧ LOk (bd + 7000) A2 := by
    have h9 := q_sB (A := A) (y := k) ok.inv hd (by omega)
    exact ⟨_, rfl, congrArg Prod.fst h9, congrArg (fun z : Int32 × AS => aV z.2) h9, l_setBrightness ok (by omega)⟩
  rw [← hv2] at er2
  have hn2 : nOf (aV A2) = nOf (aV A) := by rw [hv2]; exact s2_n _ (by omega) _ _
  have hd2 : d < nOf (aV A2) := by rw [hn2]; exact hd
  refine lv_aload_n hx hb dL_law_312 rfl (lv_at hl 1 rfl) ?_
  refine lv_iload hx hb dL_law_313 (lv_at hl 6 rfl) ?_
  refine lv_iload hx hb dL_law_315 (lv_at hl 4 rfl) ?_
  refine lv_bipush (v := 16) hx hb dL_law_317 (by decide) ?_
  refine lq_pure C (As := [.int h, .int 16]) (rest := [.int (nI d), .ref (o 0)]) (r := pLow h 16) (kL_low l D ct h 16 (by decide)) (va_cwS 2 hts gL_law_L_low rfl rfl rfl (by decide +kernel) ⟨Nat.le_of_ble_eq_true rfl, Nat.le_of_ble_eq_true rfl⟩) rfl hl.1 rfl (Nat.le_of_ble_eq_true rfl) dL_law_319 ⟨show cs ≤ 600000 by omega, show ss ≤ 7302250 by omega⟩ ?_
  refine lv_as (y := nI k) (ek) ?_
  refine lq_call C hI (As := [.int (nI d), .int (nI k)]) (rest := []) (fun W1 sz hX => cx_setBrightness l D ct sz o ad hX ok.1 ok.2.2 (nI d) (nI k)) (cwV 2 hts gL_law_X5_setBrightness rfl rfl rfl (by decide +kernel) ⟨Nat.le_of_ble_eq_true rfl, Nat.le_of_ble_eq_true rfl⟩) rfl hl.1 rfl (Nat.le_of_ble_eq_true rfl) dL_law_322 ⟨show cs ≤ 600000 by omega, show ss ≤ 7302250 by omega⟩ (r := pLP (aV A2) d) (er2) (A1 := A2) (eA2) (fun H locs hI => ?_)
  refine lv_aload_n hx hb dL_law_325 rfl (lv_at hl 1 rfl) ?_
  refine lv_iload hx hb dL_law_326 (lv_at hl 6 rfl) ?_
  refine lv_iconst (v := 5) hx hb dL_law_328 (by decide) ?_
  refine lq_call C hI (As := [.int (nI d), .int 5]) (rest := [.int (pLP (aV A2) d)]) (fun W1 sz hX => cx_digit l D ct sz o ad hX ok2.1 ok2.2.2 (nI d) 5) (cwV 2 hts gL_law_X5_digit rfl rfl rfl (by decide +kernel) ⟨Nat.le_of_ble_eq_true rfl, Nat.le_of_ble_eq_true rfl⟩) rfl hl.1 rfl (Nat.le_of_ble_eq_true rfl) dL_law_329 ⟨show cs ≤ 600000 by omega, show ss ≤ 7302250 by omega⟩ (r := pLP (aV A2) d) (qd_5 ok2.inv hd2) (A1 := A2) (rfl) (fun H locs hI => ?_)
  refine bicmp_ne_f (tgt := 366) hx hb dL_law_332 (by decide) (rfl) ?_
  refine lv_aload_n hx hb dL_law_335 rfl (lv_at hl 1 rfl) ?_
  refine lv_iload hx hb dL_law_336 (lv_at hl 6 rfl) ?_
  refine lv_iconst (v := 3) hx hb dL_law_338 (by decide) ?_
  refine lq_call C hI (As := [.int (nI d), .int 3]) (rest := []) (fun W1 sz hX => cx_digit l D ct sz o ad hX ok2.1 ok2.2.2 (nI d) 3) (cwV 2 hts gL_law_X5_digit rfl rfl rfl (by decide +kernel) ⟨Nat.le_of_ble_eq_true rfl, Nat.le_of_ble_eq_true rfl⟩) rfl hl.1 rfl (Nat.le_of_ble_eq_true rfl) dL_law_339 ⟨show cs ≤ 600000 by omega, show ss ≤ 7302250 by omega⟩ (r := (aV A2).1 (4 + d) 3) (qd_3 ok2.inv hd2) (A1 := A2) (rfl) (fun H locs hI => ?_)
  refine lv_iload hx hb dL_law_342 (lv_at hl 4 rfl) ?_
  refine lv_bipush (v := 16) hx hb dL_law_344 (by decide) ?_
  refine lq_pure C (As := [.int h, .int 16]) (rest := [.int ((aV A2).1 (4 + d) 3)]) (r := pLow h 16) (kL_low l D ct h 16 (by decide)) (va_cwS 2 hts gL_law_L_low rfl rfl rfl (by decide +kernel) ⟨Nat.le_of_ble_eq_true rfl, Nat.le_of_ble_eq_true rfl⟩) rfl hl.1 rfl (Nat.le_of_ble_eq_true rfl) dL_law_346 ⟨show cs ≤ 600000 by omega, show ss ≤ 7302250 by omega⟩ ?_
  refine lv_as (y := nI k) (ek) ?_
  refine bicmp_ne_f (tgt := 366) hx hb dL_law_349 (by decide) (by rw [hv2, s2_at, if_pos ⟨rfl, rfl⟩]) ?_
  refine lv_aload_n hx hb dL_law_352 rfl (lv_at hl 1 rfl) ?_
  refine lv_iconst (v := 3) hx hb dL_law_353 (by decide) ?_
  refine lq_call C hI (As := [.int 3]) (rest := []) (fun W1 sz hX => cx_count l D ct sz o ad hX ok2.1 ok2.2.2 3) (cwV 1 hts gL_law_X5_count rfl rfl rfl (by decide +kernel) ⟨Nat.le_of_ble_eq_true rfl, Nat.le_of_ble_eq_true rfl⟩) rfl hl.1 rfl (Nat.le_of_ble_eq_true rfl) dL_law_354 ⟨show cs ≤ 600000 by omega, show ss ≤ 7302250 by omega⟩ (r := (aV A2).1 0 2) (qc_3) (A1 := A2) (rfl) (fun H locs hI => ?_)
  refine lv_iload hx hb dL_law_357 (lv_at hl 7 rfl) ?_
  refine bicmp_ne_f (tgt := 366) hx hb dL_law_359 (by decide) (by rw [hv2, s2_at, if_neg (by omega)]) ?_
  refine lv_iconst (v := 1) hx hb dL_law_362 (by decide) ?_
  refine lv_goto (tgt := 367) hx hb dL_law_363 (by decide) ?_
  refine lv_istore (lv' := [(9, .int 1), (2, .int (nI e9)), (1, .ref (o 0)), (0, .ref b), (3, .int g), (4, .int h), (6, .int (nI (nOf (aV A)))), (7, .int (nI d)), (8, .int ((aV A).1 0 2))]) hx hb dL_law_367 hl (by decide) rfl (fun ls hl => ?_)
  refine lv_goto (tgt := 906) hx hb dL_law_369 (by decide) ?_
  refine W.widen (k := cs + 2) (n := ss + 128) (by omega) (by omega) ?_
  exact K A2 _ _ (ok2.mono (by omega) hb14) hI ls (lv_sub hl [0, 3, 2, 1] rfl)

set_option maxHeartbeats 4000000 in
set_option maxRecDepth 100000 in
theorem ls_379 {p : Program} {e : Env} {s : State} {m : MethodId} {below : List Frame} {meth : Method} {c : Code} (l : Launch) {D : va_G} {ct : Nat → ClassId} {o : Nat → Nat} {ad : Nat → Nat → Nat} {b : Nat} {Q : State → Prop} {Z : Nat → Prop} (C : LF p s m c cL_law 13 #[Value.ref b] wsL_law D ct Z) {A : AS} {bd : Nat} (ok : LOk bd A) (hb14 : bd + 14000 < 2 ^ 20) {H : Heap} {locs : List Loc} (hI : LH s D ct o ad Z [] A H locs) {cs ss e9 d : Nat} {g h : Int32} (hcs : cs + 2 ≤ 600000) (hss : ss + 128 ≤ 7302250) (hd : d < nOf (aV A)) {ls : Array Slot} (hl : lv_has ls 13 [(2, .int (nI e9)), (1, .ref (o 0)), (0, .ref b), (3, .int g), (4, .int h), (6, .int (nI (nOf (aV A)))), (7, .int (nI d)), (8, .int ((aV A).1 0 2))])
    (K : ∀ (A2 : AS) (H : Heap) (locs : List Loc), LOk (bd + 14000) A2 → LH s D ct o ad Z [] A2 H locs → ∀ ls : Array Slot, lv_has ls 13 [(9, .int 1), (0, .ref b), (1, .ref (o 0)), (2, .int (nI e9))] → W p l e room_1 s m #[Value.ref b] below meth c H locs (cs + 2) (ss + 128) Q (F0 m 906 ls [])) : W p l e room_1 s m #[Value.ref b] below meth c H locs cs ss Q (F0 m 379 ls []) := by
  obtain ⟨⟨hx, hb, hml, hown, hts⟩, hK, hN, hZ, hA⟩ := id C
  obtain ⟨k, hk, ek⟩ : ∃ k, k < 256 ∧ pLow h 256 = nI k := pLow_N _ (by decide) (by decide)
  obtain ⟨A2, eA2, er2, hv2, ok2⟩ : ∃ A2 : AS, (f_setPattern A (nI d) (nI k)).2 = A2 ∧ (f_setPattern A (nI d) (nI k)).1 = (aV A).1 (4 + d) 0 ∧ aV A2 = s2 (aV A) (4 + d) 0 (nI k) ∧ LOk (bd + 7000) A2 := by
    have h9 := q_sP (A := A) (y := k) ok.inv hd (by omega)
    exact ⟨_, rfl, congrArg Prod.fst h9, congrArg (fun z : Int32 × AS => aV z.2) h9, l_setPattern ok (by omega)⟩
  have hn2 : nOf (aV A2) = nOf (aV A) := by rw [hv2]; exact s2_n _ (by omega) _ _
  have hd2 : d < nOf (aV A2) := by rw [hn2]; exact hd
  refine lv_aload_n hx hb dL_law_379 rfl (lv_at hl 1 rfl) ?_
  refine lv_iload hx hb dL_law_380 (lv_at hl 6 rfl) ?_
  refine lv_iconst (v := 0) hx hb dL_law_382 (by decide) ?_
  refine lq_call C hI (As := [.int (nI d), .int 0]) (rest := []) (fun W1 sz hX => cx_digit l D ct sz o ad hX ok.1 ok.2.2 (nI d) 0) (cwV 2 hts gL_law_X5_digit rfl rfl rfl (by decide +kernel) ⟨Nat.le_of_ble_eq_true rfl, Nat.le_of_ble_eq_true rfl⟩) rfl hl.1 rfl (Nat.le_of_ble_eq_true rfl) dL_law_383 ⟨show cs ≤ 600000 by omega, show ss ≤ 7302250 by omega⟩ (r := (aV A).1 (4 + d) 0) (qd_0 ok.inv hd) (A1 := A) (rfl) (fun H locs hI => ?_)
  refine lv_istore (lv' := [(10, .int ((aV A).1 (4 + d) 0)), (2, .int (nI e9)), (1, .ref (o 0)), (0, .ref b), (3, .int g), (4, .int h), (6, .int (nI (nOf (aV A)))), (7, .int (nI d)), (8, .int ((aV A).1 0 2))]) hx hb dL_law_386 hl (by decide) rfl (fun ls hl => ?_)
  refine lv_aload_n hx hb dL_law_388 rfl (lv_at hl 2 rfl) ?_
  refine lv_iload hx hb dL_law_389 (lv_at hl 7 rfl) ?_
  refine lv_iload hx hb dL_law_391 (lv_at hl 5 rfl) ?_
  refine lv_sipush (v := 256) hx hb dL_law_393 (by decide) ?_
  refine lq_pure C (As := [.int h, .int 256]) (rest := [.int (nI d), .ref (o 0)]) (r := pLow h 256) (kL_low l D ct h 256 (by decide)) (va_cwS 2 hts gL_law_L_low rfl rfl rfl (by decide +kernel) ⟨Nat.le_of_ble_eq_true rfl, Nat.le_of_ble_eq_true rfl⟩) rfl hl.1 rfl (Nat.le_of_ble_eq_true rfl) dL_law_396 ⟨show cs ≤ 600000 by omega, show ss ≤ 7302250 by omega⟩ ?_
  refine lv_as (y := nI k) (ek) ?_
  refine lq_call C hI (As := [.int (nI d), .int (nI k)]) (rest := []) (fun W1 sz hX => cx_setPattern l D ct sz o ad hX ok.1 ok.2.2 (nI d) (nI k)) (cwV 2 hts gL_law_X5_setPattern rfl rfl rfl (by decide +kernel) ⟨Nat.le_of_ble_eq_true rfl, Nat.le_of_ble_eq_true rfl⟩) rfl hl.1 rfl (Nat.le_of_ble_eq_true rfl) dL_law_399 ⟨show cs ≤ 600000 by omega, show ss ≤ 7302250 by omega⟩ (r := (aV A).1 (4 + d) 0) (er2) (A1 := A2) (eA2) (fun H locs hI => ?_)
  refine lv_iload hx hb dL_law_402 (lv_at hl 0 rfl) ?_
  refine bicmp_ne_f (tgt := 429) hx hb dL_law_404 (by decide) (rfl) ?_
  refine lv_aload_n hx hb dL_law_407 rfl (lv_at hl 2 rfl) ?_
  refine lv_iload hx hb dL_law_408 (lv_at hl 7 rfl) ?_
  refine lv_iconst (v := 0) hx hb dL_law_410 (by decide) ?_
  refine lq_call C hI (As := [.int (nI d), .int 0]) (rest := []) (fun W1 sz hX => cx_digit l D ct sz o ad hX ok2.1 ok2.2.2 (nI d) 0) (cwV 2 hts gL_law_X5_digit rfl rfl rfl (by decide +kernel) ⟨Nat.le_of_ble_eq_true rfl, Nat.le_of_ble_eq_true rfl⟩) rfl hl.1 rfl (Nat.le_of_ble_eq_true rfl) dL_law_411 ⟨show cs ≤ 600000 by omega, show ss ≤ 7302250 by omega⟩ (r := (aV A2).1 (4 + d) 0) (qd_0 ok2.inv hd2) (A1 := A2) (rfl) (fun H locs hI => ?_)
  refine lv_iload hx hb dL_law_414 (lv_at hl 5 rfl) ?_
  refine lv_sipush (v := 256) hx hb dL_law_416 (by decide) ?_
  refine lq_pure C (As := [.int h, .int 256]) (rest := [.int ((aV A2).1 (4 + d) 0)]) (r := pLow h 256) (kL_low l D ct h 256 (by decide)) (va_cwS 2 hts gL_law_L_low rfl rfl rfl (by decide +kernel) ⟨Nat.le_of_ble_eq_true rfl, Nat.le_of_ble_eq_true rfl⟩) rfl hl.1 rfl (Nat.le_of_ble_eq_true rfl) dL_law_419 ⟨show cs ≤ 600000 by omega, show ss ≤ 7302250 by omega⟩ ?_
  refine lv_as (y := nI k) (ek) ?_
  refine bicmp_ne_f (tgt := 429) hx hb dL_law_422 (by decide) (by rw [hv2, s2_at, if_pos ⟨rfl, rfl⟩]) ?_
  refine lv_iconst (v := 1) hx hb dL_law_425 (by decide) ?_
  refine lv_goto (tgt := 430) hx hb dL_law_426 (by decide) ?_
  refine lv_istore (lv' := [(9, .int 1), (10, .int ((aV A).1 (4 + d) 0)), (2, .int (nI e9)), (1, .ref (o 0)), (0, .ref b), (3, .int g), (4, .int h), (6, .int (nI (nOf (aV A)))), (7, .int (nI d)), (8, .int ((aV A).1 0 2))]) hx hb dL_law_430 hl (by decide) rfl (fun ls hl => ?_)
  refine lv_goto (tgt := 906) hx hb dL_law_432 (by decide) ?_
  refine W.widen (k := cs + 2) (n := ss + 128) (by omega) (by omega) ?_
  exact K A2 _ _ (ok2.mono (by omega) hb14) hI ls (lv_sub hl [0, 4, 3, 2] rfl)

set_option maxHeartbeats 4000000 in
set_option maxRecDepth 100000 in
theorem ls_442 {p : Program} {e : Env} {s : State} {m : MethodId} {below : List Frame} {meth : Method} {c : Code} (l : Launch) {D : va_G} {ct : Nat → ClassId} {o : Nat → Nat} {ad : Nat → Nat → Nat} {b : Nat} {Q : State → Prop} {Z : Nat → Prop} (C : LF p s m c cL_law 13 #[Value.ref b] wsL_law D ct Z) {A : AS} {bd : Nat} (ok : LOk bd A) (hb14 : bd + 14000 < 2 ^ 20) {H : Heap} {locs : List Loc} (hI : LH s D ct o ad Z [] A H locs) {cs ss e9 d : Nat} {g h : Int32} (hcs : cs + 2 ≤ 600000) (hss : ss + 128 ≤ 7302250) (hd : d < nOf (aV A)) {ls : Array Slot} (hl : lv_has ls 13 [(2, .int (nI e9)), (1, .ref (o 0)), (0, .ref b), (3, .int g), (4, .int h), (6, .int (nI (nOf (aV A)))), (7, .int (nI d)), (8, .int ((aV A).1 0 2))])
    (K : ∀ (A2 : AS) (H : Heap) (locs : List Loc), LOk (bd + 14000) A2 → LH s D ct o ad Z [] A2 H locs → ∀ ls : Array Slot, lv_has ls 13 [(9, .int 1), (0, .ref b), (1, .ref (o 0)), (2, .int (nI e9))] → W p l e room_1 s m #[Value.ref b] below meth c H locs (cs + 2) (ss + 128) Q (F0 m 906 ls [])) : W p l e room_1 s m #[Value.ref b] below meth c H locs cs ss Q (F0 m 442 ls []) := by
  obtain ⟨⟨hx, hb, hml, hown, hts⟩, hK, hN, hZ, hA⟩ := id C
  obtain ⟨k, hk, ek⟩ : ∃ k, k < 4 ∧ pLow h 4 = nI k := pLow_N _ (by decide) (by decide)
  obtain ⟨A2, eA2, er2, hv2, ok2⟩ : ∃ A2 : AS, (f_setGroup A (nI d) (nI k)).2 = A2 ∧ (f_setGroup A (nI d) (nI k)).1 = (aV A).1 (4 + d) 4 ∧ aV A2 = s2 (aV A) (4 + d) 4 (nI k) ∧ LOk (bd + 7000) A2 := by
    have h9 := q_sR (A := A) (y := k) ok.inv hd (by omega)
    exact ⟨_, rfl, congrArg Prod.fst h9, congrArg (fun z : Int32 × AS => aV z.2) h9, l_setGroup ok (by omega)⟩
  have hn2 : nOf (aV A2) = nOf (aV A) := by rw [hv2]; exact s2_n _ (by omega) _ _
  have hd2 : d < nOf (aV A2) := by rw [hn2]; exact hd
  refine lv_aload_n hx hb dL_law_442 rfl (lv_at hl 1 rfl) ?_
  refine lv_iload hx hb dL_law_443 (lv_at hl 6 rfl) ?_
  refine lv_iconst (v := 4) hx hb dL_law_445 (by decide) ?_
  refine lq_call C hI (As := [.int (nI d), .int 4]) (rest := []) (fun W1 sz hX => cx_digit l D ct sz o ad hX ok.1 ok.2.2 (nI d) 4) (cwV 2 hts gL_law_X5_digit rfl rfl rfl (by decide +kernel) ⟨Nat.le_of_ble_eq_true rfl, Nat.le_of_ble_eq_true rfl⟩) rfl hl.1 rfl (Nat.le_of_ble_eq_true rfl) dL_law_446 ⟨show cs ≤ 600000 by omega, show ss ≤ 7302250 by omega⟩ (r := (aV A).1 (4 + d) 4) (qd_4 ok.inv hd) (A1 := A) (rfl) (fun H locs hI => ?_)
  refine lv_istore (lv' := [(10, .int ((aV A).1 (4 + d) 4)), (2, .int (nI e9)), (1, .ref (o 0)), (0, .ref b), (3, .int g), (4, .int h), (6, .int (nI (nOf (aV A)))), (7, .int (nI d)), (8, .int ((aV A).1 0 2))]) hx hb dL_law_449 hl (by decide) rfl (fun ls hl => ?_)
  refine lv_aload_n hx hb dL_law_451 rfl (lv_at hl 2 rfl) ?_
  refine lv_iload hx hb dL_law_452 (lv_at hl 7 rfl) ?_
  refine lv_iload hx hb dL_law_454 (lv_at hl 5 rfl) ?_
  refine lv_iconst (v := 4) hx hb dL_law_456 (by decide) ?_
  refine lq_pure C (As := [.int h, .int 4]) (rest := [.int (nI d), .ref (o 0)]) (r := pLow h 4) (kL_low l D ct h 4 (by decide)) (va_cwS 2 hts gL_law_L_low rfl rfl rfl (by decide +kernel) ⟨Nat.le_of_ble_eq_true rfl, Nat.le_of_ble_eq_true rfl⟩) rfl hl.1 rfl (Nat.le_of_ble_eq_true rfl) dL_law_457 ⟨show cs ≤ 600000 by omega, show ss ≤ 7302250 by omega⟩ ?_
  refine lv_as (y := nI k) (ek) ?_
  refine lq_call C hI (As := [.int (nI d), .int (nI k)]) (rest := []) (fun W1 sz hX => cx_setGroup l D ct sz o ad hX ok.1 ok.2.2 (nI d) (nI k)) (cwV 2 hts gL_law_X5_setGroup rfl rfl rfl (by decide +kernel) ⟨Nat.le_of_ble_eq_true rfl, Nat.le_of_ble_eq_true rfl⟩) rfl hl.1 rfl (Nat.le_of_ble_eq_true rfl) dL_law_460 ⟨show cs ≤ 600000 by omega, show ss ≤ 7302250 by omega⟩ (r := (aV A).1 (4 + d) 4) (er2) (A1 := A2) (eA2) (fun H locs hI => ?_)
  refine lv_iload hx hb dL_law_463 (lv_at hl 0 rfl) ?_
  refine bicmp_ne_f (tgt := 488) hx hb dL_law_465 (by decide) (rfl) ?_
  refine lv_aload_n hx hb dL_law_468 rfl (lv_at hl 2 rfl) ?_
  refine lv_iload hx hb dL_law_469 (lv_at hl 7 rfl) ?_
  refine lv_iconst (v := 4) hx hb dL_law_471 (by decide) ?_
  refine lq_call C hI (As := [.int (nI d), .int 4]) (rest := []) (fun W1 sz hX => cx_digit l D ct sz o ad hX ok2.1 ok2.2.2 (nI d) 4) (cwV 2 hts gL_law_X5_digit rfl rfl rfl (by decide +kernel) ⟨Nat.le_of_ble_eq_true rfl, Nat.le_of_ble_eq_true rfl⟩) rfl hl.1 rfl (Nat.le_of_ble_eq_true rfl) dL_law_472 ⟨show cs ≤ 600000 by omega, show ss ≤ 7302250 by omega⟩ (r := (aV A2).1 (4 + d) 4) (qd_4 ok2.inv hd2) (A1 := A2) (rfl) (fun H locs hI => ?_)
  refine lv_iload hx hb dL_law_475 (lv_at hl 5 rfl) ?_
  refine lv_iconst (v := 4) hx hb dL_law_477 (by decide) ?_
  refine lq_pure C (As := [.int h, .int 4]) (rest := [.int ((aV A2).1 (4 + d) 4)]) (r := pLow h 4) (kL_low l D ct h 4 (by decide)) (va_cwS 2 hts gL_law_L_low rfl rfl rfl (by decide +kernel) ⟨Nat.le_of_ble_eq_true rfl, Nat.le_of_ble_eq_true rfl⟩) rfl hl.1 rfl (Nat.le_of_ble_eq_true rfl) dL_law_478 ⟨show cs ≤ 600000 by omega, show ss ≤ 7302250 by omega⟩ ?_
  refine lv_as (y := nI k) (ek) ?_
  refine bicmp_ne_f (tgt := 488) hx hb dL_law_481 (by decide) (by rw [hv2, s2_at, if_pos ⟨rfl, rfl⟩]) ?_
  refine lv_iconst (v := 1) hx hb dL_law_484 (by decide) ?_
  refine lv_goto (tgt := 489) hx hb dL_law_485 (by decide) ?_
  refine lv_istore (lv' := [(9, .int 1), (10, .int ((aV A).1 (4 + d) 4)), (2, .int (nI e9)), (1, .ref (o 0)), (0, .ref b), (3, .int g), (4, .int h), (6, .int (nI (nOf (aV A)))), (7, .int (nI d)), (8, .int ((aV A).1 0 2))]) hx hb dL_law_489 hl (by decide) rfl (fun ls hl => ?_)
  refine lv_goto (tgt := 906) hx hb dL_law_491 (by decide) ?_
  refine W.widen (k := cs + 2) (n := ss + 128) (by omega) (by omega) ?_
  exact K A2 _ _ (ok2.mono (by omega) hb14) hI ls (lv_sub hl [0, 4, 3, 2] rfl)

set_option maxHeartbeats 4000000 in
set_option maxRecDepth 100000 in
theorem ls_501 {p : Program} {e : Env} {s : State} {m : MethodId} {below : List Frame} {meth : Method} {c : Code} (l : Launch) {D : va_G} {ct : Nat → ClassId} {o : Nat → Nat} {ad : Nat → Nat → Nat} {b : Nat} {Q : State → Prop} {Z : Nat → Prop} (C : LF p s m c cL_law 13 #[Value.ref b] wsL_law D ct Z) {A : AS} {bd : Nat} (ok : LOk bd A) (hb14 : bd + 14000 < 2 ^ 20) {H : Heap} {locs : List Loc} (hI : LH s D ct o ad Z [] A H locs) {cs ss e9 d : Nat} {g h : Int32} (hcs : cs + 2 ≤ 600000) (hss : ss + 128 ≤ 7302250) (hd : d < nOf (aV A)) {ls : Array Slot} (hl : lv_has ls 13 [(2, .int (nI e9)), (1, .ref (o 0)), (0, .ref b), (3, .int g), (4, .int h), (6, .int (nI (nOf (aV A)))), (7, .int (nI d)), (8, .int ((aV A).1 0 2))])
    (K : ∀ (A2 : AS) (H : Heap) (locs : List Loc), LOk (bd + 14000) A2 → LH s D ct o ad Z [] A2 H locs → ∀ ls : Array Slot, lv_has ls 13 [(9, .int 1), (0, .ref b), (1, .ref (o 0)), (2, .int (nI e9))] → W p l e room_1 s m #[Value.ref b] below meth c H locs (cs + 2) (ss + 128) Q (F0 m 906 ls [])) : W p l e room_1 s m #[Value.ref b] below meth c H locs cs ss Q (F0 m 501 ls []) := by
  obtain ⟨⟨hx, hb, hml, hown, hts⟩, hK, hN, hZ, hA⟩ := id C
  obtain ⟨k3, hk3, ek3⟩ : ∃ k3, k3 < 3 ∧ pLow g 3 = nI k3 := pLow_N _ (by decide) (by decide)
  obtain ⟨k, hk, ek⟩ : ∃ k, k < 4 ∧ pLow h 4 = nI k := pLow_N _ (by decide) (by decide)
  obtain ⟨k2, hk2, ek2⟩ : ∃ k2, k2 < 4 ∧ pLow (h >>> (3 &&& 31)) 4 = nI k2 := pLow_N _ (by decide) (by decide)
  obtain ⟨A2, eA2, er2, hv2, ok2⟩ : ∃ A2 : AS, (f_setBlink A (nI (1 + k3)) (nI (1 + k)) (nI k2)).2 = A2 ∧ (f_setBlink A (nI (1 + k3)) (nI (1 + k)) (nI k2)).1 = pDin (s2 (s2 (aV A) 1 (1 + k3) (nI (1 + k))) 2 (1 + k3) (nI k2)) (nI (1 + k3)) (nOf (aV A)) ∧ aV A2 = s2 (s2 (aV A) 1 (1 + k3) (nI (1 + k))) 2 (1 + k3) (nI k2) ∧ LOk (bd + 7000) A2 := by
    have h9 := q_bl (A := A) (q := 1 + k3) (y := 1 + k) (z := k2) (by omega) (by omega) (by omega) (by omega) (by omega)
    exact ⟨_, rfl, congrArg Prod.fst h9, congrArg (fun z : Int32 × AS => aV z.2) h9, l_setBlink ok (by omega)⟩
  rw [← hv2] at er2
  have hn2 : nOf (aV A2) = nOf (aV A) := by rw [hv2]; exact (s2_n _ (by decide) _ _).trans (s2_n _ (by decide) _ _)
  have hd2 : d < nOf (aV A2) := by rw [hn2]; exact hd
  refine lv_iconst (v := 1) hx hb dL_law_501 (by decide) ?_
  refine lv_iload_n hx hb dL_law_502 rfl (lv_at hl 3 rfl) ?_
  refine lv_iconst (v := 3) hx hb dL_law_503 (by decide) ?_
  refine lq_pure C (As := [.int g, .int 3]) (rest := [.int 1]) (r := pLow g 3) (kL_low l D ct g 3 (by decide)) (va_cwS 2 hts gL_law_L_low rfl rfl rfl (by decide +kernel) ⟨Nat.le_of_ble_eq_true rfl, Nat.le_of_ble_eq_true rfl⟩) rfl hl.1 rfl (Nat.le_of_ble_eq_true rfl) dL_law_504 ⟨show cs ≤ 600000 by omega, show ss ≤ 7302250 by omega⟩ ?_
  refine lv_as (y := nI k3) (ek3) ?_
  refine lv_iadd hx hb dL_law_507 ?_
  refine lv_as (y := nI (1 + k3)) (nI_add 1 k3) ?_
  refine lv_istore (lv' := [(10, .int (nI (1 + k3))), (2, .int (nI e9)), (1, .ref (o 0)), (0, .ref b), (3, .int g), (4, .int h), (6, .int (nI (nOf (aV A)))), (7, .int (nI d)), (8, .int ((aV A).1 0 2))]) hx hb dL_law_508 hl (by decide) rfl (fun ls hl => ?_)
  refine lv_aload_n hx hb dL_law_510 rfl (lv_at hl 2 rfl) ?_
  refine lv_iload hx hb dL_law_511 (lv_at hl 0 rfl) ?_
  refine lv_iconst (v := 1) hx hb dL_law_513 (by decide) ?_
  refine lv_iload hx hb dL_law_514 (lv_at hl 5 rfl) ?_
  refine lv_iconst (v := 4) hx hb dL_law_516 (by decide) ?_
  refine lq_pure C (As := [.int h, .int 4]) (rest := [.int 1, .int (nI (1 + k3)), .ref (o 0)]) (r := pLow h 4) (kL_low l D ct h 4 (by decide)) (va_cwS 2 hts gL_law_L_low rfl rfl rfl (by decide +kernel) ⟨Nat.le_of_ble_eq_true rfl, Nat.le_of_ble_eq_true rfl⟩) rfl hl.1 rfl (Nat.le_of_ble_eq_true rfl) dL_law_517 ⟨show cs ≤ 600000 by omega, show ss ≤ 7302250 by omega⟩ ?_
  refine lv_as (y := nI k) (ek) ?_
  refine lv_iadd hx hb dL_law_520 ?_
  refine lv_as (y := nI (1 + k)) (nI_add 1 k) ?_
  refine lv_iload hx hb dL_law_521 (lv_at hl 5 rfl) ?_
  refine lv_iconst (v := 3) hx hb dL_law_523 (by decide) ?_
  refine lv_ishr hx hb dL_law_524 ?_
  refine lv_iconst (v := 4) hx hb dL_law_525 (by decide) ?_
  refine lq_pure C (As := [.int (h >>> (3 &&& 31)), .int 4]) (rest := [.int (nI (1 + k)), .int (nI (1 + k3)), .ref (o 0)]) (r := pLow (h >>> (3 &&& 31)) 4) (kL_low l D ct (h >>> (3 &&& 31)) 4 (by decide)) (va_cwS 2 hts gL_law_L_low rfl rfl rfl (by decide +kernel) ⟨Nat.le_of_ble_eq_true rfl, Nat.le_of_ble_eq_true rfl⟩) rfl hl.1 rfl (Nat.le_of_ble_eq_true rfl) dL_law_526 ⟨show cs ≤ 600000 by omega, show ss ≤ 7302250 by omega⟩ ?_
  refine lv_as (y := nI k2) (ek2) ?_
  refine lq_call C hI (As := [.int (nI (1 + k3)), .int (nI (1 + k)), .int (nI k2)]) (rest := []) (fun W1 sz hX => cx_setBlink l D ct sz o ad hX ok.1 ok.2.2 (nI (1 + k3)) (nI (1 + k)) (nI k2)) (cwV 3 hts gL_law_X5_setBlink rfl rfl rfl (by decide +kernel) ⟨Nat.le_of_ble_eq_true rfl, Nat.le_of_ble_eq_true rfl⟩) rfl hl.1 rfl (Nat.le_of_ble_eq_true rfl) dL_law_529 ⟨show cs ≤ 600000 by omega, show ss ≤ 7302250 by omega⟩ (r := pDin (aV A2) (nI (1 + k3)) (nOf (aV A))) (er2) (A1 := A2) (eA2) (fun H locs hI => ?_)
  refine lv_aload_n hx hb dL_law_532 rfl (lv_at hl 2 rfl) ?_
  refine lv_iload hx hb dL_law_533 (lv_at hl 0 rfl) ?_
  refine lv_iconst (v := 3) hx hb dL_law_535 (by decide) ?_
  refine lq_call C hI (As := [.int (nI (1 + k3)), .int 3]) (rest := [.int (pDin (aV A2) (nI (1 + k3)) (nOf (aV A)))]) (fun W1 sz hX => cx_group l D ct sz o ad hX ok2.1 ok2.2.2 (nI (1 + k3)) 3) (cwV 2 hts gL_law_X5_group rfl rfl rfl (by decide +kernel) ⟨Nat.le_of_ble_eq_true rfl, Nat.le_of_ble_eq_true rfl⟩) rfl hl.1 rfl (Nat.le_of_ble_eq_true rfl) dL_law_536 ⟨show cs ≤ 600000 by omega, show ss ≤ 7302250 by omega⟩ (r := pDin (aV A2) (nI (1 + k3)) (nOf (aV A2))) (qg_3 (by omega)) (A1 := A2) (rfl) (fun H locs hI => ?_)
  refine bicmp_ne_f (tgt := 546) hx hb dL_law_539 (by decide) (by rw [hn2]) ?_
  refine lv_iconst (v := 1) hx hb dL_law_542 (by decide) ?_
  refine lv_goto (tgt := 547) hx hb dL_law_543 (by decide) ?_
  refine lv_istore (lv' := [(9, .int 1), (10, .int (nI (1 + k3))), (2, .int (nI e9)), (1, .ref (o 0)), (0, .ref b), (3, .int g), (4, .int h), (6, .int (nI (nOf (aV A)))), (7, .int (nI d)), (8, .int ((aV A).1 0 2))]) hx hb dL_law_547 hl (by decide) rfl (fun ls hl => ?_)
  refine lv_goto (tgt := 906) hx hb dL_law_549 (by decide) ?_
  refine W.widen (k := cs + 2) (n := ss + 128) (by omega) (by omega) ?_
  exact K A2 _ _ (ok2.mono (by omega) hb14) hI ls (lv_sub hl [0, 4, 3, 2] rfl)

set_option maxHeartbeats 4000000 in
set_option maxRecDepth 100000 in
theorem ls_559 {p : Program} {e : Env} {s : State} {m : MethodId} {below : List Frame} {meth : Method} {c : Code} (l : Launch) {D : va_G} {ct : Nat → ClassId} {o : Nat → Nat} {ad : Nat → Nat → Nat} {b : Nat} {Q : State → Prop} {Z : Nat → Prop} (C : LF p s m c cL_law 13 #[Value.ref b] wsL_law D ct Z) {A : AS} {bd : Nat} (ok : LOk bd A) (hb14 : bd + 14000 < 2 ^ 20) {H : Heap} {locs : List Loc} (hI : LH s D ct o ad Z [] A H locs) {cs ss e9 d : Nat} {g h : Int32} (hcs : cs + 2 ≤ 600000) (hss : ss + 128 ≤ 7302250) (hd : d < nOf (aV A)) {ls : Array Slot} (hl : lv_has ls 13 [(2, .int (nI e9)), (1, .ref (o 0)), (0, .ref b), (3, .int g), (4, .int h), (6, .int (nI (nOf (aV A)))), (7, .int (nI d)), (8, .int ((aV A).1 0 2))])
    (K : ∀ (A2 : AS) (H : Heap) (locs : List Loc), LOk (bd + 14000) A2 → LH s D ct o ad Z [] A2 H locs → ∀ ls : Array Slot, lv_has ls 13 [(9, .int 1), (0, .ref b), (1, .ref (o 0)), (2, .int (nI e9))] → W p l e room_1 s m #[Value.ref b] below meth c H locs (cs + 2) (ss + 128) Q (F0 m 906 ls [])) : W p l e room_1 s m #[Value.ref b] below meth c H locs cs ss Q (F0 m 559 ls []) := by
  obtain ⟨⟨hx, hb, hml, hown, hts⟩, hK, hN, hZ, hA⟩ := id C
  obtain ⟨k3, hk3, ek3⟩ : ∃ k3, k3 < 3 ∧ pLow g 3 = nI k3 := pLow_N _ (by decide) (by decide)
  obtain ⟨A2, eA2, er2, hv2, ok2⟩ : ∃ A2 : AS, (f_set A (nI k3) (toV h k3)).2 = A2 ∧ (f_set A (nI k3) (toV h k3)).1 = (aV A).1 3 k3 ∧ aV A2 = s2 (aV A) 3 k3 (toV h k3) ∧ LOk (bd + 7000) A2 := by
    have h9 := q_set (A := A) (x := toV h k3) hk3 (toV_in hk3)
    exact ⟨_, rfl, congrArg Prod.fst h9, congrArg (fun z : Int32 × AS => aV z.2) h9, l_set ok (by omega)⟩
  have hn2 : nOf (aV A2) = nOf (aV A) := by rw [hv2]; exact s2_n _ (by decide) _ _
  have hd2 : d < nOf (aV A2) := by rw [hn2]; exact hd
  refine lv_iload_n hx hb dL_law_559 rfl (lv_at hl 3 rfl) ?_
  refine lv_iconst (v := 3) hx hb dL_law_560 (by decide) ?_
  refine lq_pure C (As := [.int g, .int 3]) (rest := []) (r := pLow g 3) (kL_low l D ct g 3 (by decide)) (va_cwS 2 hts gL_law_L_low rfl rfl rfl (by decide +kernel) ⟨Nat.le_of_ble_eq_true rfl, Nat.le_of_ble_eq_true rfl⟩) rfl hl.1 rfl (Nat.le_of_ble_eq_true rfl) dL_law_561 ⟨show cs ≤ 600000 by omega, show ss ≤ 7302250 by omega⟩ ?_
  refine lv_as (y := nI k3) (ek3) ?_
  refine lv_istore (lv' := [(10, .int (nI k3)), (2, .int (nI e9)), (1, .ref (o 0)), (0, .ref b), (3, .int g), (4, .int h), (6, .int (nI (nOf (aV A)))), (7, .int (nI d)), (8, .int ((aV A).1 0 2))]) hx hb dL_law_564 hl (by decide) rfl (fun ls hl => ?_)
  refine lv_aload_n hx hb dL_law_566 rfl (lv_at hl 2 rfl) ?_
  refine lv_bipush (v := 9) hx hb dL_law_567 (by decide) ?_
  refine lv_iload hx hb dL_law_569 (lv_at hl 0 rfl) ?_
  refine lv_iadd hx hb dL_law_571 ?_
  refine lv_as (y := nI (9 + k3)) (nI_add 9 k3) ?_
  refine lq_call C hI (As := [.int (nI (9 + k3))]) (rest := []) (fun W1 sz hX => cx_count l D ct sz o ad hX ok.1 ok.2.2 (nI (9 + k3))) (cwV 1 hts gL_law_X5_count rfl rfl rfl (by decide +kernel) ⟨Nat.le_of_ble_eq_true rfl, Nat.le_of_ble_eq_true rfl⟩) rfl hl.1 rfl (Nat.le_of_ble_eq_true rfl) dL_law_572 ⟨show cs ≤ 600000 by omega, show ss ≤ 7302250 by omega⟩ (r := (aV A).1 3 k3) (qc_s hk3) (A1 := A) (rfl) (fun H locs hI => ?_)
  refine lv_istore (lv' := [(11, .int ((aV A).1 3 k3)), (10, .int (nI k3)), (2, .int (nI e9)), (1, .ref (o 0)), (0, .ref b), (3, .int g), (4, .int h), (6, .int (nI (nOf (aV A)))), (7, .int (nI d)), (8, .int ((aV A).1 0 2))]) hx hb dL_law_575 hl (by decide) rfl (fun ls hl => ?_)
  refine lv_iload hx hb dL_law_577 (lv_at hl 1 rfl) ?_
  have J_579 : ∀ (x9 : Int32) (H : Heap) (locs : List Loc), LH s D ct o ad Z [] A H locs → x9 = toV h k3 → W p l e room_1 s m #[Value.ref b] below meth c H locs cs ss Q (F0 m 623 ls [.int x9]) := by
    intro x9 H locs hI e9
    subst e9
    refine lv_istore (lv' := [(12, .int (toV h k3)), (11, .int ((aV A).1 3 k3)), (10, .int (nI k3)), (2, .int (nI e9)), (1, .ref (o 0)), (0, .ref b), (3, .int g), (4, .int h), (6, .int (nI (nOf (aV A)))), (7, .int (nI d)), (8, .int ((aV A).1 0 2))]) hx hb dL_law_623 hl (by decide) rfl (fun ls hl => ?_)
    refine lv_aload_n hx hb dL_law_625 rfl (lv_at hl 4 rfl) ?_
    refine lv_iload hx hb dL_law_626 (lv_at hl 2 rfl) ?_
    refine lv_iload hx hb dL_law_628 (lv_at hl 0 rfl) ?_
    refine lq_call C hI (As := [.int (nI k3), .int (toV h k3)]) (rest := []) (fun W1 sz hX => cx_set l D ct sz o ad hX ok.1 ok.2.2 (nI k3) (toV h k3)) (cwV 2 hts gL_law_X5_set rfl rfl rfl (by decide +kernel) ⟨Nat.le_of_ble_eq_true rfl, Nat.le_of_ble_eq_true rfl⟩) rfl hl.1 rfl (Nat.le_of_ble_eq_true rfl) dL_law_630 ⟨show cs ≤ 600000 by omega, show ss ≤ 7302250 by omega⟩ (r := (aV A).1 3 k3) (er2) (A1 := A2) (eA2) (fun H locs hI => ?_)
    refine lv_iload hx hb dL_law_633 (lv_at hl 1 rfl) ?_
    refine bicmp_ne_f (tgt := 656) hx hb dL_law_635 (by decide) (rfl) ?_
    refine lv_aload_n hx hb dL_law_638 rfl (lv_at hl 4 rfl) ?_
    refine lv_bipush (v := 9) hx hb dL_law_639 (by decide) ?_
    refine lv_iload hx hb dL_law_641 (lv_at hl 2 rfl) ?_
    refine lv_iadd hx hb dL_law_643 ?_
    refine lv_as (y := nI (9 + k3)) (nI_add 9 k3) ?_
    refine lq_call C hI (As := [.int (nI (9 + k3))]) (rest := []) (fun W1 sz hX => cx_count l D ct sz o ad hX ok2.1 ok2.2.2 (nI (9 + k3))) (cwV 1 hts gL_law_X5_count rfl rfl rfl (by decide +kernel) ⟨Nat.le_of_ble_eq_true rfl, Nat.le_of_ble_eq_true rfl⟩) rfl hl.1 rfl (Nat.le_of_ble_eq_true rfl) dL_law_644 ⟨show cs ≤ 600000 by omega, show ss ≤ 7302250 by omega⟩ (r := (aV A2).1 3 k3) (qc_s hk3) (A1 := A2) (rfl) (fun H locs hI => ?_)
    refine lv_iload hx hb dL_law_647 (lv_at hl 0 rfl) ?_
    refine bicmp_ne_f (tgt := 656) hx hb dL_law_649 (by decide) (by rw [hv2, s2_at, if_pos ⟨rfl, rfl⟩]) ?_
    refine lv_iconst (v := 1) hx hb dL_law_652 (by decide) ?_
    refine lv_goto (tgt := 657) hx hb dL_law_653 (by decide) ?_
    refine lv_istore (lv' := [(9, .int 1), (12, .int (toV h k3)), (11, .int ((aV A).1 3 k3)), (10, .int (nI k3)), (2, .int (nI e9)), (1, .ref (o 0)), (0, .ref b), (3, .int g), (4, .int h), (6, .int (nI (nOf (aV A)))), (7, .int (nI d)), (8, .int ((aV A).1 0 2))]) hx hb dL_law_657 hl (by decide) rfl (fun ls hl => ?_)
    refine lv_goto (tgt := 906) hx hb dL_law_659 (by decide) ?_
    refine W.widen (k := cs + 2) (n := ss + 128) (by omega) (by omega) ?_
    exact K A2 _ _ (ok2.mono (by omega) hb14) hI ls (lv_sub hl [0, 6, 5, 4] rfl)
  refine lv_if_ne (tgt := 594) hx hb dL_law_579 (by decide) (fun c_579 => ?_) (fun c_579 => ?_)
  · refine lv_iload hx hb dL_law_594 (lv_at hl 1 rfl) ?_
    refine lv_iconst (v := 1) hx hb dL_law_596 (by decide) ?_
    refine lv_icmp_ne (tgt := 613) hx hb dL_law_597 (by decide) (fun c_597 => ?_) (fun c_597 => ?_)
    · refine lv_iconst (v := 1) hx hb dL_law_613 (by decide) ?_
      refine lv_iload hx hb dL_law_614 (lv_at hl 6 rfl) ?_
      refine lv_sipush (v := 300) hx hb dL_law_616 (by decide) ?_
      refine lq_pure C (As := [.int h, .int 300]) (rest := [.int 1]) (r := pLow h 300) (kL_low l D ct h 300 (by decide)) (va_cwS 2 hts gL_law_L_low rfl rfl rfl (by decide +kernel) ⟨Nat.le_of_ble_eq_true rfl, Nat.le_of_ble_eq_true rfl⟩) rfl hl.1 rfl (Nat.le_of_ble_eq_true rfl) dL_law_619 ⟨show cs ≤ 600000 by omega, show ss ≤ 7302250 by omega⟩ ?_
      refine lv_iadd hx hb dL_law_622 ?_
      exact J_579 _ _ _ hI (toV_2 h hk3 c_579 c_597)
    · refine lv_iconst (v := 1) hx hb dL_law_600 (by decide) ?_
      refine lv_iload hx hb dL_law_601 (lv_at hl 6 rfl) ?_
      refine lv_sipush (v := 1000) hx hb dL_law_603 (by decide) ?_
      refine lq_pure C (As := [.int h, .int 1000]) (rest := [.int 1]) (r := pLow h 1000) (kL_low l D ct h 1000 (by decide)) (va_cwS 2 hts gL_law_L_low rfl rfl rfl (by decide +kernel) ⟨Nat.le_of_ble_eq_true rfl, Nat.le_of_ble_eq_true rfl⟩) rfl hl.1 rfl (Nat.le_of_ble_eq_true rfl) dL_law_606 ⟨show cs ≤ 600000 by omega, show ss ≤ 7302250 by omega⟩ ?_
      refine lv_iadd hx hb dL_law_609 ?_
      refine lv_goto (tgt := 623) hx hb dL_law_610 (by decide) ?_
      exact J_579 _ _ _ hI (toV_1 h hk3 c_597)
  · refine lv_iconst (v := 2) hx hb dL_law_582 (by decide) ?_
    refine lv_iload hx hb dL_law_583 (lv_at hl 6 rfl) ?_
    refine lv_bipush (v := 49) hx hb dL_law_585 (by decide) ?_
    refine lq_pure C (As := [.int h, .int 49]) (rest := [.int 2]) (r := pLow h 49) (kL_low l D ct h 49 (by decide)) (va_cwS 2 hts gL_law_L_low rfl rfl rfl (by decide +kernel) ⟨Nat.le_of_ble_eq_true rfl, Nat.le_of_ble_eq_true rfl⟩) rfl hl.1 rfl (Nat.le_of_ble_eq_true rfl) dL_law_587 ⟨show cs ≤ 600000 by omega, show ss ≤ 7302250 by omega⟩ ?_
    refine lv_iadd hx hb dL_law_590 ?_
    refine lv_goto (tgt := 623) hx hb dL_law_591 (by decide) ?_
    exact J_579 _ _ _ hI (toV_0 h hk3 c_579)

set_option maxHeartbeats 4000000 in
set_option maxRecDepth 100000 in
theorem ls_669 {p : Program} {e : Env} {s : State} {m : MethodId} {below : List Frame} {meth : Method} {c : Code} (l : Launch) {D : va_G} {ct : Nat → ClassId} {o : Nat → Nat} {ad : Nat → Nat → Nat} {b : Nat} {Q : State → Prop} {Z : Nat → Prop} (C : LF p s m c cL_law 13 #[Value.ref b] wsL_law D ct Z) {A : AS} {bd : Nat} (ok : LOk bd A) (hb14 : bd + 14000 < 2 ^ 20) {H : Heap} {locs : List Loc} (hI : LH s D ct o ad Z [] A H locs) {cs ss e9 d : Nat} {g h : Int32} (hcs : cs + 2 ≤ 600000) (hss : ss + 128 ≤ 7302250) (hd : d < nOf (aV A)) {ls : Array Slot} (hl : lv_has ls 13 [(2, .int (nI e9)), (1, .ref (o 0)), (0, .ref b), (3, .int g), (4, .int h), (6, .int (nI (nOf (aV A)))), (7, .int (nI d)), (8, .int ((aV A).1 0 2))])
    (K : ∀ (A2 : AS) (H : Heap) (locs : List Loc), LOk (bd + 14000) A2 → LH s D ct o ad Z [] A2 H locs → ∀ ls : Array Slot, lv_has ls 13 [(9, .int 1), (0, .ref b), (1, .ref (o 0)), (2, .int (nI e9))] → W p l e room_1 s m #[Value.ref b] below meth c H locs (cs + 2) (ss + 128) Q (F0 m 906 ls [])) : W p l e room_1 s m #[Value.ref b] below meth c H locs cs ss Q (F0 m 669 ls []) := by
  obtain ⟨⟨hx, hb, hml, hown, hts⟩, hK, hN, hZ, hA⟩ := id C
  have h8 := ok.inv.n8
  obtain ⟨A2, eA2, er2, hv2, ok2⟩ : ∃ A2 : AS, (f_replace A (nI d)).2 = A2 ∧ (f_replace A (nI d)).1 = pBro ((aV A).1 (4 + d) 6) 8 ∧ aV A2 = pRen (aV A) d ∧ LOk (bd + 7000) A2 := by
    have h9 := q_rep (A := A) ok.inv hd
    exact ⟨_, rfl, congrArg Prod.fst h9, congrArg (fun z : Int32 × AS => aV z.2) h9, l_replace ok (by omega)⟩
  have hn2 : nOf (aV A2) = nOf (aV A) := by rw [hv2]; exact ren_n
  have hd2 : d < nOf (aV A2) := by rw [hn2]; exact hd
  refine lv_aload_n hx hb dL_law_669 rfl (lv_at hl 1 rfl) ?_
  refine lv_iload hx hb dL_law_670 (lv_at hl 6 rfl) ?_
  refine lv_bipush (v := 8) hx hb dL_law_672 (by decide) ?_
  refine lq_call C hI (As := [.int (nI d), .int 8]) (rest := []) (fun W1 sz hX => cx_digit l D ct sz o ad hX ok.1 ok.2.2 (nI d) 8) (cwV 2 hts gL_law_X5_digit rfl rfl rfl (by decide +kernel) ⟨Nat.le_of_ble_eq_true rfl, Nat.le_of_ble_eq_true rfl⟩) rfl hl.1 rfl (Nat.le_of_ble_eq_true rfl) dL_law_674 ⟨show cs ≤ 600000 by omega, show ss ≤ 7302250 by omega⟩ (r := (aV A).1 (4 + d) 6) (qd_8 ok.inv hd) (A1 := A) (rfl) (fun H locs hI => ?_)
  refine lq_pure C (As := [.int ((aV A).1 (4 + d) 6)]) (rest := []) (r := pBro ((aV A).1 (4 + d) 6) 8) (kL_bits l D ct ((aV A).1 (4 + d) 6) (ok.inv.dg hd).2.2.2.2.2) (va_cwS 1 hts gL_law_L_bits rfl rfl rfl (by decide +kernel) ⟨Nat.le_of_ble_eq_true rfl, Nat.le_of_ble_eq_true rfl⟩) rfl hl.1 rfl (Nat.le_of_ble_eq_true rfl) dL_law_677 ⟨show cs ≤ 600000 by omega, show ss ≤ 7302250 by omega⟩ ?_
  refine lv_istore (lv' := [(10, .int (pBro ((aV A).1 (4 + d) 6) 8)), (2, .int (nI e9)), (1, .ref (o 0)), (0, .ref b), (3, .int g), (4, .int h), (6, .int (nI (nOf (aV A)))), (7, .int (nI d)), (8, .int ((aV A).1 0 2))]) hx hb dL_law_680 hl (by decide) rfl (fun ls hl => ?_)
  refine lv_aload_n hx hb dL_law_682 rfl (lv_at hl 2 rfl) ?_
  refine lv_iload hx hb dL_law_683 (lv_at hl 7 rfl) ?_
  refine lq_call C hI (As := [.int (nI d)]) (rest := []) (fun W1 sz hX => cx_replace l D ct sz o ad hX ok.1 ok.2.2 (nI d)) (cwV 1 hts gL_law_X5_replace rfl rfl rfl (by decide +kernel) ⟨Nat.le_of_ble_eq_true rfl, Nat.le_of_ble_eq_true rfl⟩) rfl hl.1 rfl (Nat.le_of_ble_eq_true rfl) dL_law_685 ⟨show cs ≤ 600000 by omega, show ss ≤ 7302250 by omega⟩ (r := pBro ((aV A).1 (4 + d) 6) 8) (er2) (A1 := A2) (eA2) (fun H locs hI => ?_)
  refine lv_iload hx hb dL_law_688 (lv_at hl 0 rfl) ?_
  refine bicmp_ne_f (tgt := 719) hx hb dL_law_690 (by decide) (rfl) ?_
  refine lv_aload_n hx hb dL_law_693 rfl (lv_at hl 2 rfl) ?_
  refine lv_iload hx hb dL_law_694 (lv_at hl 7 rfl) ?_
  refine lv_bipush (v := 8) hx hb dL_law_696 (by decide) ?_
  refine lq_call C hI (As := [.int (nI d), .int 8]) (rest := []) (fun W1 sz hX => cx_digit l D ct sz o ad hX ok2.1 ok2.2.2 (nI d) 8) (cwV 2 hts gL_law_X5_digit rfl rfl rfl (by decide +kernel) ⟨Nat.le_of_ble_eq_true rfl, Nat.le_of_ble_eq_true rfl⟩) rfl hl.1 rfl (Nat.le_of_ble_eq_true rfl) dL_law_698 ⟨show cs ≤ 600000 by omega, show ss ≤ 7302250 by omega⟩ (r := (aV A2).1 (4 + d) 6) (qd_8 ok2.inv hd2) (A1 := A2) (rfl) (fun H locs hI => ?_)
  refine bif_ne_f (tgt := 719) hx hb dL_law_701 (by decide) (by rw [hv2]; exact (ren_0 (by omega)).1) ?_
  refine lv_aload_n hx hb dL_law_704 rfl (lv_at hl 2 rfl) ?_
  refine lv_iload hx hb dL_law_705 (lv_at hl 7 rfl) ?_
  refine lv_bipush (v := 9) hx hb dL_law_707 (by decide) ?_
  refine lq_call C hI (As := [.int (nI d), .int 9]) (rest := []) (fun W1 sz hX => cx_digit l D ct sz o ad hX ok2.1 ok2.2.2 (nI d) 9) (cwV 2 hts gL_law_X5_digit rfl rfl rfl (by decide +kernel) ⟨Nat.le_of_ble_eq_true rfl, Nat.le_of_ble_eq_true rfl⟩) rfl hl.1 rfl (Nat.le_of_ble_eq_true rfl) dL_law_709 ⟨show cs ≤ 600000 by omega, show ss ≤ 7302250 by omega⟩ (r := pSum ((aV A2).1 (12 + d)) 8) (qd_9 ok2.inv hd2) (A1 := A2) (rfl) (fun H locs hI => ?_)
  refine bif_ne_f (tgt := 719) hx hb dL_law_712 (by decide) (by rw [hv2]; exact (ren_0 (by omega)).2) ?_
  refine lv_iconst (v := 1) hx hb dL_law_715 (by decide) ?_
  refine lv_goto (tgt := 720) hx hb dL_law_716 (by decide) ?_
  refine lv_istore (lv' := [(9, .int 1), (10, .int (pBro ((aV A).1 (4 + d) 6) 8)), (2, .int (nI e9)), (1, .ref (o 0)), (0, .ref b), (3, .int g), (4, .int h), (6, .int (nI (nOf (aV A)))), (7, .int (nI d)), (8, .int ((aV A).1 0 2))]) hx hb dL_law_720 hl (by decide) rfl (fun ls hl => ?_)
  refine lv_goto (tgt := 906) hx hb dL_law_722 (by decide) ?_
  refine W.widen (k := cs + 2) (n := ss + 128) (by omega) (by omega) ?_
  exact K A2 _ _ (ok2.mono (by omega) hb14) hI ls (lv_sub hl [0, 4, 3, 2] rfl)

set_option maxHeartbeats 4000000 in
set_option maxRecDepth 100000 in
theorem ls_732 {p : Program} {e : Env} {s : State} {m : MethodId} {below : List Frame} {meth : Method} {c : Code} (l : Launch) {D : va_G} {ct : Nat → ClassId} {o : Nat → Nat} {ad : Nat → Nat → Nat} {b : Nat} {Q : State → Prop} {Z : Nat → Prop} (C : LF p s m c cL_law 13 #[Value.ref b] wsL_law D ct Z) {A : AS} {bd : Nat} (ok : LOk bd A) (hb14 : bd + 14000 < 2 ^ 20) {H : Heap} {locs : List Loc} (hI : LH s D ct o ad Z [] A H locs) {cs ss e9 d : Nat} {g h : Int32} (hcs : cs + 2 ≤ 600000) (hss : ss + 128 ≤ 7302250) (hd : d < nOf (aV A)) {ls : Array Slot} (hl : lv_has ls 13 [(2, .int (nI e9)), (1, .ref (o 0)), (0, .ref b), (3, .int g), (4, .int h), (6, .int (nI (nOf (aV A)))), (7, .int (nI d)), (8, .int ((aV A).1 0 2))])
    (K : ∀ (A2 : AS) (H : Heap) (locs : List Loc), LOk (bd + 14000) A2 → LH s D ct o ad Z [] A2 H locs → ∀ ls : Array Slot, lv_has ls 13 [(9, .int 1), (0, .ref b), (1, .ref (o 0)), (2, .int (nI e9))] → W p l e room_1 s m #[Value.ref b] below meth c H locs (cs + 2) (ss + 128) Q (F0 m 906 ls [])) : W p l e room_1 s m #[Value.ref b] below meth c H locs cs ss Q (F0 m 732 ls []) := by
  obtain ⟨⟨hx, hb, hml, hown, hts⟩, hK, hN, hZ, hA⟩ := id C
  obtain ⟨k, hk, ek⟩ : ∃ k, k < 5 ∧ pLow h 5 = nI k := pLow_N _ (by decide) (by decide)
  obtain ⟨A2, eA2, er2, hv2, ok2⟩ : ∃ A2 : AS, (f_test A (nI k)).2 = A2 ∧ (f_test A (nI k)).1 = (aV A).1 0 4 ∧ aV A2 = sC (aV A) 0 (upd ((aV A).1 0) 4 (nI k)) ∧ LOk (bd + 7000) A2 := by
    have h9 := q_te (A := A) (y := k) (by omega)
    exact ⟨_, rfl, congrArg Prod.fst h9, congrArg (fun z : Int32 × AS => aV z.2) h9, l_test ok (by omega)⟩
  refine lv_aload_n hx hb dL_law_732 rfl (lv_at hl 1 rfl) ?_
  refine lv_bipush (v := 6) hx hb dL_law_733 (by decide) ?_
  refine lq_call C hI (As := [.int 6]) (rest := []) (fun W1 sz hX => cx_count l D ct sz o ad hX ok.1 ok.2.2 6) (cwV 1 hts gL_law_X5_count rfl rfl rfl (by decide +kernel) ⟨Nat.le_of_ble_eq_true rfl, Nat.le_of_ble_eq_true rfl⟩) rfl hl.1 rfl (Nat.le_of_ble_eq_true rfl) dL_law_735 ⟨show cs ≤ 600000 by omega, show ss ≤ 7302250 by omega⟩ (r := (aV A).1 0 4) (qc_6) (A1 := A) (rfl) (fun H locs hI => ?_)
  refine lv_istore (lv' := [(10, .int ((aV A).1 0 4)), (2, .int (nI e9)), (1, .ref (o 0)), (0, .ref b), (3, .int g), (4, .int h), (6, .int (nI (nOf (aV A)))), (7, .int (nI d)), (8, .int ((aV A).1 0 2))]) hx hb dL_law_738 hl (by decide) rfl (fun ls hl => ?_)
  refine lv_aload_n hx hb dL_law_740 rfl (lv_at hl 2 rfl) ?_
  refine lv_iload hx hb dL_law_741 (lv_at hl 5 rfl) ?_
  refine lv_iconst (v := 5) hx hb dL_law_743 (by decide) ?_
  refine lq_pure C (As := [.int h, .int 5]) (rest := [.ref (o 0)]) (r := pLow h 5) (kL_low l D ct h 5 (by decide)) (va_cwS 2 hts gL_law_L_low rfl rfl rfl (by decide +kernel) ⟨Nat.le_of_ble_eq_true rfl, Nat.le_of_ble_eq_true rfl⟩) rfl hl.1 rfl (Nat.le_of_ble_eq_true rfl) dL_law_744 ⟨show cs ≤ 600000 by omega, show ss ≤ 7302250 by omega⟩ ?_
  refine lv_as (y := nI k) (ek) ?_
  refine lq_call C hI (As := [.int (nI k)]) (rest := []) (fun W1 sz hX => cx_test l D ct sz o ad hX ok.1 ok.2.2 (nI k)) (cwV 1 hts gL_law_X5_test rfl rfl rfl (by decide +kernel) ⟨Nat.le_of_ble_eq_true rfl, Nat.le_of_ble_eq_true rfl⟩) rfl hl.1 rfl (Nat.le_of_ble_eq_true rfl) dL_law_747 ⟨show cs ≤ 600000 by omega, show ss ≤ 7302250 by omega⟩ (r := (aV A).1 0 4) (er2) (A1 := A2) (eA2) (fun H locs hI => ?_)
  refine lv_iload hx hb dL_law_750 (lv_at hl 0 rfl) ?_
  refine bicmp_ne_f (tgt := 774) hx hb dL_law_752 (by decide) (rfl) ?_
  refine lv_aload_n hx hb dL_law_755 rfl (lv_at hl 2 rfl) ?_
  refine lv_bipush (v := 6) hx hb dL_law_756 (by decide) ?_
  refine lq_call C hI (As := [.int 6]) (rest := []) (fun W1 sz hX => cx_count l D ct sz o ad hX ok2.1 ok2.2.2 6) (cwV 1 hts gL_law_X5_count rfl rfl rfl (by decide +kernel) ⟨Nat.le_of_ble_eq_true rfl, Nat.le_of_ble_eq_true rfl⟩) rfl hl.1 rfl (Nat.le_of_ble_eq_true rfl) dL_law_758 ⟨show cs ≤ 600000 by omega, show ss ≤ 7302250 by omega⟩ (r := (aV A2).1 0 4) (qc_6) (A1 := A2) (rfl) (fun H locs hI => ?_)
  refine lv_iload hx hb dL_law_761 (lv_at hl 5 rfl) ?_
  refine lv_iconst (v := 5) hx hb dL_law_763 (by decide) ?_
  refine lq_pure C (As := [.int h, .int 5]) (rest := [.int ((aV A2).1 0 4)]) (r := pLow h 5) (kL_low l D ct h 5 (by decide)) (va_cwS 2 hts gL_law_L_low rfl rfl rfl (by decide +kernel) ⟨Nat.le_of_ble_eq_true rfl, Nat.le_of_ble_eq_true rfl⟩) rfl hl.1 rfl (Nat.le_of_ble_eq_true rfl) dL_law_764 ⟨show cs ≤ 600000 by omega, show ss ≤ 7302250 by omega⟩ ?_
  refine lv_as (y := nI k) (ek) ?_
  refine bicmp_ne_f (tgt := 774) hx hb dL_law_767 (by decide) (by rw [hv2, sC_eq]; rfl) ?_
  refine lv_iconst (v := 1) hx hb dL_law_770 (by decide) ?_
  refine lv_goto (tgt := 775) hx hb dL_law_771 (by decide) ?_
  refine lv_istore (lv' := [(9, .int 1), (10, .int ((aV A).1 0 4)), (2, .int (nI e9)), (1, .ref (o 0)), (0, .ref b), (3, .int g), (4, .int h), (6, .int (nI (nOf (aV A)))), (7, .int (nI d)), (8, .int ((aV A).1 0 2))]) hx hb dL_law_775 hl (by decide) rfl (fun ls hl => ?_)
  refine lv_goto (tgt := 906) hx hb dL_law_777 (by decide) ?_
  refine W.widen (k := cs + 2) (n := ss + 128) (by omega) (by omega) ?_
  exact K A2 _ _ (ok2.mono (by omega) hb14) hI ls (lv_sub hl [0, 4, 3, 2] rfl)

set_option maxHeartbeats 4000000 in
set_option maxRecDepth 100000 in
theorem ls_787 {p : Program} {e : Env} {s : State} {m : MethodId} {below : List Frame} {meth : Method} {c : Code} (l : Launch) {D : va_G} {ct : Nat → ClassId} {o : Nat → Nat} {ad : Nat → Nat → Nat} {b : Nat} {Q : State → Prop} {Z : Nat → Prop} (C : LF p s m c cL_law 13 #[Value.ref b] wsL_law D ct Z) {A : AS} {bd : Nat} (ok : LOk bd A) (hb14 : bd + 14000 < 2 ^ 20) {H : Heap} {locs : List Loc} (hI : LH s D ct o ad Z [] A H locs) {cs ss e9 d : Nat} {g h : Int32} (hcs : cs + 2 ≤ 600000) (hss : ss + 128 ≤ 7302250) (hd : d < nOf (aV A)) {ls : Array Slot} (hl : lv_has ls 13 [(2, .int (nI e9)), (1, .ref (o 0)), (0, .ref b), (3, .int g), (4, .int h), (6, .int (nI (nOf (aV A)))), (7, .int (nI d)), (8, .int ((aV A).1 0 2))])
    (K : ∀ (A2 : AS) (H : Heap) (locs : List Loc), LOk (bd + 14000) A2 → LH s D ct o ad Z [] A2 H locs → ∀ ls : Array Slot, lv_has ls 13 [(9, .int 1), (0, .ref b), (1, .ref (o 0)), (2, .int (nI e9))] → W p l e room_1 s m #[Value.ref b] below meth c H locs (cs + 2) (ss + 128) Q (F0 m 906 ls [])) : W p l e room_1 s m #[Value.ref b] below meth c H locs cs ss Q (F0 m 787 ls []) := by
  obtain ⟨⟨hx, hb, hml, hown, hts⟩, hK, hN, hZ, hA⟩ := id C
  refine lv_aload_n hx hb dL_law_787 rfl (lv_at hl 1 rfl) ?_
  refine lq_stat C hI (As := [.ref (o 0)]) (rest := []) (r := 1) (mc := 2) (ms := 128) (fun W1 sz hX => kL_ticks l D ct sz o ad hX ok (by omega)) (va_cwS 1 hts gL_law_L_ticks rfl rfl rfl (by decide +kernel) ⟨Nat.le_of_ble_eq_true rfl, Nat.le_of_ble_eq_true rfl⟩) rfl hl.1 rfl (Nat.le_of_ble_eq_true rfl) dL_law_788 ⟨show cs + 2 ≤ 600000 by omega, show ss + 128 ≤ 7302250 by omega⟩ (rfl) (fun H locs hI => ?_)
  obtain ⟨W1, ⟨A2, hc2, ok2⟩, hP2, hD2, hS2⟩ := hI
  have hI : LH s D ct o ad Z [] A2 H locs := ⟨W1, hc2, hP2, hD2, hS2⟩
  refine lv_istore (lv' := [(9, .int 1), (2, .int (nI e9)), (1, .ref (o 0)), (0, .ref b), (3, .int g), (4, .int h), (6, .int (nI (nOf (aV A)))), (7, .int (nI d)), (8, .int ((aV A).1 0 2))]) hx hb dL_law_791 hl (by decide) rfl (fun ls hl => ?_)
  refine lv_goto (tgt := 906) hx hb dL_law_793 (by decide) ?_
  refine W.widen (k := cs + 2) (n := ss + 128) (by omega) (by omega) ?_
  exact K A2 _ _ (ok2.mono (by omega) hb14) hI ls (lv_sub hl [0, 3, 2, 1] rfl)

set_option maxHeartbeats 4000000 in
set_option maxRecDepth 100000 in
theorem ls_803 {p : Program} {e : Env} {s : State} {m : MethodId} {below : List Frame} {meth : Method} {c : Code} (l : Launch) {D : va_G} {ct : Nat → ClassId} {o : Nat → Nat} {ad : Nat → Nat → Nat} {b : Nat} {Q : State → Prop} {Z : Nat → Prop} (C : LF p s m c cL_law 13 #[Value.ref b] wsL_law D ct Z) {A : AS} {bd : Nat} (ok : LOk bd A) (hb14 : bd + 14000 < 2 ^ 20) {H : Heap} {locs : List Loc} (hI : LH s D ct o ad Z [] A H locs) {cs ss e9 d : Nat} {g h : Int32} (hcs : cs + 2 ≤ 600000) (hss : ss + 128 ≤ 7302250) (hd : d < nOf (aV A)) {ls : Array Slot} (hl : lv_has ls 13 [(2, .int (nI e9)), (1, .ref (o 0)), (0, .ref b), (3, .int g), (4, .int h), (6, .int (nI (nOf (aV A)))), (7, .int (nI d)), (8, .int ((aV A).1 0 2))])
    (K : ∀ (A2 : AS) (H : Heap) (locs : List Loc), LOk (bd + 14000) A2 → LH s D ct o ad Z [] A2 H locs → ∀ ls : Array Slot, lv_has ls 13 [(9, .int 1), (0, .ref b), (1, .ref (o 0)), (2, .int (nI e9))] → W p l e room_1 s m #[Value.ref b] below meth c H locs (cs + 2) (ss + 128) Q (F0 m 906 ls [])) : W p l e room_1 s m #[Value.ref b] below meth c H locs cs ss Q (F0 m 803 ls []) := by
  obtain ⟨⟨hx, hb, hml, hown, hts⟩, hK, hN, hZ, hA⟩ := id C
  obtain ⟨k, hk, ek⟩ : ∃ k, k < 120 ∧ pLow h 120 = nI k := pLow_N _ (by decide) (by decide)
  refine lv_aload_n hx hb dL_law_803 rfl (lv_at hl 1 rfl) ?_
  refine lv_iload hx hb dL_law_804 (lv_at hl 6 rfl) ?_
  refine lv_iload hx hb dL_law_806 (lv_at hl 4 rfl) ?_
  refine lv_bipush (v := 120) hx hb dL_law_808 (by decide) ?_
  refine lq_pure C (As := [.int h, .int 120]) (rest := [.int (nI d), .ref (o 0)]) (r := pLow h 120) (kL_low l D ct h 120 (by decide)) (va_cwS 2 hts gL_law_L_low rfl rfl rfl (by decide +kernel) ⟨Nat.le_of_ble_eq_true rfl, Nat.le_of_ble_eq_true rfl⟩) rfl hl.1 rfl (Nat.le_of_ble_eq_true rfl) dL_law_810 ⟨show cs ≤ 600000 by omega, show ss ≤ 7302250 by omega⟩ ?_
  refine lv_as (y := nI k) (ek) ?_
  refine lq_stat C hI (As := [.ref (o 0), .int (nI d), .int (nI k)]) (rest := []) (r := 1) (mc := 0) (ms := 0) (fun W1 sz hX => kL_ahead l D ct sz o ad hX ok d k hd (by omega) hb14) (va_cwS 3 hts gL_law_L_ahead rfl rfl rfl (by decide +kernel) ⟨Nat.le_of_ble_eq_true rfl, Nat.le_of_ble_eq_true rfl⟩) rfl hl.1 rfl (Nat.le_of_ble_eq_true rfl) dL_law_813 ⟨show cs ≤ 600000 by omega, show ss ≤ 7302250 by omega⟩ (rfl) (fun H locs hI => ?_)
  obtain ⟨W1, ⟨A2, hc2, ok2, n2⟩, hP2, hD2, hS2⟩ := hI
  have hI : LH s D ct o ad Z [] A2 H locs := ⟨W1, hc2, hP2, hD2, hS2⟩
  have hd2 : d < nOf (aV A2) := by rw [n2]; exact hd
  refine bif_eq_f (tgt := 832) hx hb dL_law_816 (by decide) (by decide) ?_
  refine lv_aload_n hx hb dL_law_819 rfl (lv_at hl 1 rfl) ?_
  refine lv_iload hx hb dL_law_820 (lv_at hl 6 rfl) ?_
  refine lq_stat C hI (As := [.ref (o 0), .int (nI d)]) (rest := []) (r := 1) (mc := 0) (ms := 0) (fun W1 sz hX => kL_steady l D ct sz o ad hX ok2 d hd2) (va_cwS 2 hts gL_law_L_steady rfl rfl rfl (by decide +kernel) ⟨Nat.le_of_ble_eq_true rfl, Nat.le_of_ble_eq_true rfl⟩) rfl hl.1 rfl (Nat.le_of_ble_eq_true rfl) dL_law_822 ⟨show cs ≤ 600000 by omega, show ss ≤ 7302250 by omega⟩ (rfl) (fun H locs hI => ?_)
  have hI := LY.lh hI
  refine bif_eq_f (tgt := 832) hx hb dL_law_825 (by decide) (by decide) ?_
  refine lv_iconst (v := 1) hx hb dL_law_828 (by decide) ?_
  refine lv_goto (tgt := 833) hx hb dL_law_829 (by decide) ?_
  refine lv_istore (lv' := [(9, .int 1), (2, .int (nI e9)), (1, .ref (o 0)), (0, .ref b), (3, .int g), (4, .int h), (6, .int (nI (nOf (aV A)))), (7, .int (nI d)), (8, .int ((aV A).1 0 2))]) hx hb dL_law_833 hl (by decide) rfl (fun ls hl => ?_)
  refine lv_goto (tgt := 906) hx hb dL_law_835 (by decide) ?_
  refine W.widen (k := cs + 2) (n := ss + 128) (by omega) (by omega) ?_
  exact K A2 _ _ (ok2.mono (by omega) hb14) hI ls (lv_sub hl [0, 3, 2, 1] rfl)

set_option maxHeartbeats 4000000 in
set_option maxRecDepth 100000 in
theorem ls_845 {p : Program} {e : Env} {s : State} {m : MethodId} {below : List Frame} {meth : Method} {c : Code} (l : Launch) {D : va_G} {ct : Nat → ClassId} {o : Nat → Nat} {ad : Nat → Nat → Nat} {b : Nat} {Q : State → Prop} {Z : Nat → Prop} (C : LF p s m c cL_law 13 #[Value.ref b] wsL_law D ct Z) {A : AS} {bd : Nat} (ok : LOk bd A) (hb14 : bd + 14000 < 2 ^ 20) {H : Heap} {locs : List Loc} (hI : LH s D ct o ad Z [] A H locs) {cs ss e9 d : Nat} {g h : Int32} (hcs : cs + 2 ≤ 600000) (hss : ss + 128 ≤ 7302250) (hd : d < nOf (aV A)) {ls : Array Slot} (hl : lv_has ls 13 [(2, .int (nI e9)), (1, .ref (o 0)), (0, .ref b), (3, .int g), (4, .int h), (6, .int (nI (nOf (aV A)))), (7, .int (nI d)), (8, .int ((aV A).1 0 2))])
    (K : ∀ (A2 : AS) (H : Heap) (locs : List Loc), LOk (bd + 14000) A2 → LH s D ct o ad Z [] A2 H locs → ∀ ls : Array Slot, lv_has ls 13 [(9, .int 1), (0, .ref b), (1, .ref (o 0)), (2, .int (nI e9))] → W p l e room_1 s m #[Value.ref b] below meth c H locs (cs + 2) (ss + 128) Q (F0 m 906 ls [])) : W p l e room_1 s m #[Value.ref b] below meth c H locs cs ss Q (F0 m 845 ls []) := by
  obtain ⟨⟨hx, hb, hml, hown, hts⟩, hK, hN, hZ, hA⟩ := id C
  obtain ⟨k, hk, ek⟩ : ∃ k, k < 200 ∧ pLow h 200 = nI k := pLow_N _ (by decide) (by decide)
  obtain ⟨A2, eA2, er2, hv2, ok2⟩ : ∃ A2 : AS, (f_pass A (nI (1 + k))).2 = A2 ∧ (f_pass A (nI (1 + k))).1 = pTkN (aV A) (1 + k) ∧ aV A2 = pTks (aV A) (1 + k) ∧ LOk (bd + 7000) A2 := by
    have h9 := qpn (A := A) (n := 1 + k) (by omega) (by omega)
    exact ⟨_, rfl, congrArg Prod.fst h9, congrArg (fun z : Int32 × AS => aV z.2) h9, l_pass ok (by omega)⟩
  refine lv_aload_n hx hb dL_law_845 rfl (lv_at hl 1 rfl) ?_
  refine lv_iconst (v := 1) hx hb dL_law_846 (by decide) ?_
  refine lv_iload hx hb dL_law_847 (lv_at hl 4 rfl) ?_
  refine lv_sipush (v := 200) hx hb dL_law_849 (by decide) ?_
  refine lq_pure C (As := [.int h, .int 200]) (rest := [.int 1, .ref (o 0)]) (r := pLow h 200) (kL_low l D ct h 200 (by decide)) (va_cwS 2 hts gL_law_L_low rfl rfl rfl (by decide +kernel) ⟨Nat.le_of_ble_eq_true rfl, Nat.le_of_ble_eq_true rfl⟩) rfl hl.1 rfl (Nat.le_of_ble_eq_true rfl) dL_law_852 ⟨show cs ≤ 600000 by omega, show ss ≤ 7302250 by omega⟩ ?_
  refine lv_as (y := nI k) (ek) ?_
  refine lv_iadd hx hb dL_law_855 ?_
  refine lv_as (y := nI (1 + k)) (nI_add 1 k) ?_
  refine lq_call C hI (As := [.int (nI (1 + k))]) (rest := []) (fun W1 sz hX => cx_pass l D ct sz o ad hX ok.1 ok.2.2 (nI (1 + k))) (cwV 1 hts gL_law_X5_pass rfl rfl rfl (by decide +kernel) ⟨Nat.le_of_ble_eq_true rfl, Nat.le_of_ble_eq_true rfl⟩) rfl hl.1 rfl (Nat.le_of_ble_eq_true rfl) dL_law_856 ⟨show cs ≤ 600000 by omega, show ss ≤ 7302250 by omega⟩ (r := pTkN (aV A) (1 + k)) (er2) (A1 := A2) (eA2) (fun H locs hI => ?_)
  refine bif_lt_f (tgt := 866) hx hb dL_law_859 (by decide) (Int32.not_lt.mpr (pTkN_pos (by omega))) ?_
  refine lv_iconst (v := 1) hx hb dL_law_862 (by decide) ?_
  refine lv_goto (tgt := 867) hx hb dL_law_863 (by decide) ?_
  refine lv_istore (lv' := [(9, .int 1), (2, .int (nI e9)), (1, .ref (o 0)), (0, .ref b), (3, .int g), (4, .int h), (6, .int (nI (nOf (aV A)))), (7, .int (nI d)), (8, .int ((aV A).1 0 2))]) hx hb dL_law_867 hl (by decide) rfl (fun ls hl => ?_)
  refine lv_goto (tgt := 906) hx hb dL_law_869 (by decide) ?_
  refine W.widen (k := cs + 2) (n := ss + 128) (by omega) (by omega) ?_
  exact K A2 _ _ (ok2.mono (by omega) hb14) hI ls (lv_sub hl [0, 3, 2, 1] rfl)

set_option maxHeartbeats 4000000 in
set_option maxRecDepth 100000 in
theorem ls_879 {p : Program} {e : Env} {s : State} {m : MethodId} {below : List Frame} {meth : Method} {c : Code} (l : Launch) {D : va_G} {ct : Nat → ClassId} {o : Nat → Nat} {ad : Nat → Nat → Nat} {b : Nat} {Q : State → Prop} {Z : Nat → Prop} (C : LF p s m c cL_law 13 #[Value.ref b] wsL_law D ct Z) {A : AS} {bd : Nat} (ok : LOk bd A) (hb14 : bd + 14000 < 2 ^ 20) {H : Heap} {locs : List Loc} (hI : LH s D ct o ad Z [] A H locs) {cs ss e9 d : Nat} {g h : Int32} (hcs : cs + 2 ≤ 600000) (hss : ss + 128 ≤ 7302250) (hd : d < nOf (aV A)) {ls : Array Slot} (hl : lv_has ls 13 [(2, .int (nI e9)), (1, .ref (o 0)), (0, .ref b), (3, .int g), (4, .int h), (6, .int (nI (nOf (aV A)))), (7, .int (nI d)), (8, .int ((aV A).1 0 2))])
    (K : ∀ (A2 : AS) (H : Heap) (locs : List Loc), LOk (bd + 14000) A2 → LH s D ct o ad Z [] A2 H locs → ∀ ls : Array Slot, lv_has ls 13 [(9, .int 1), (0, .ref b), (1, .ref (o 0)), (2, .int (nI e9))] → W p l e room_1 s m #[Value.ref b] below meth c H locs (cs + 2) (ss + 128) Q (F0 m 906 ls [])) : W p l e room_1 s m #[Value.ref b] below meth c H locs cs ss Q (F0 m 879 ls []) := by
  obtain ⟨⟨hx, hb, hml, hown, hts⟩, hK, hN, hZ, hA⟩ := id C
  obtain ⟨k, hk, ek⟩ : ∃ k, k < 6 ∧ pLow h 6 = nI k := pLow_N _ (by decide) (by decide)
  refine lv_aload_n hx hb dL_law_879 rfl (lv_at hl 1 rfl) ?_
  refine lv_iconst (v := 1) hx hb dL_law_880 (by decide) ?_
  refine lv_iload hx hb dL_law_881 (lv_at hl 4 rfl) ?_
  refine lv_bipush (v := 6) hx hb dL_law_883 (by decide) ?_
  refine lq_pure C (As := [.int h, .int 6]) (rest := [.int 1, .ref (o 0)]) (r := pLow h 6) (kL_low l D ct h 6 (by decide)) (va_cwS 2 hts gL_law_L_low rfl rfl rfl (by decide +kernel) ⟨Nat.le_of_ble_eq_true rfl, Nat.le_of_ble_eq_true rfl⟩) rfl hl.1 rfl (Nat.le_of_ble_eq_true rfl) dL_law_885 ⟨show cs ≤ 600000 by omega, show ss ≤ 7302250 by omega⟩ ?_
  refine lv_as (y := nI k) (ek) ?_
  refine lv_iadd hx hb dL_law_888 ?_
  refine lv_as (y := nI (1 + k)) (nI_add 1 k) ?_
  refine lq_stat C hI (As := [.ref (o 0), .int (nI (1 + k))]) (rest := []) (r := 1) (mc := 0) (ms := 0) (fun W1 sz hX => kL_frames l D ct sz o ad hX ok (1 + k) (by omega) (by omega) hb14) (va_cwS 2 hts gL_law_L_frames rfl rfl rfl (by decide +kernel) ⟨Nat.le_of_ble_eq_true rfl, Nat.le_of_ble_eq_true rfl⟩) rfl hl.1 rfl (Nat.le_of_ble_eq_true rfl) dL_law_889 ⟨show cs ≤ 600000 by omega, show ss ≤ 7302250 by omega⟩ (rfl) (fun H locs hI => ?_)
  obtain ⟨W1, ⟨A2, hc2, ok2⟩, hP2, hD2, hS2⟩ := hI
  have hI : LH s D ct o ad Z [] A2 H locs := ⟨W1, hc2, hP2, hD2, hS2⟩
  refine lv_istore (lv' := [(9, .int 1), (2, .int (nI e9)), (1, .ref (o 0)), (0, .ref b), (3, .int g), (4, .int h), (6, .int (nI (nOf (aV A)))), (7, .int (nI d)), (8, .int ((aV A).1 0 2))]) hx hb dL_law_892 hl (by decide) rfl (fun ls hl => ?_)
  refine lv_goto (tgt := 906) hx hb dL_law_894 (by decide) ?_
  refine W.widen (k := cs + 2) (n := ss + 128) (by omega) (by omega) ?_
  exact K A2 _ _ (ok2.mono (by omega) hb14) hI ls (lv_sub hl [0, 3, 2, 1] rfl)

set_option maxHeartbeats 4000000 in
set_option maxRecDepth 100000 in
theorem ls_897 {p : Program} {e : Env} {s : State} {m : MethodId} {below : List Frame} {meth : Method} {c : Code} (l : Launch) {D : va_G} {ct : Nat → ClassId} {o : Nat → Nat} {ad : Nat → Nat → Nat} {b : Nat} {Q : State → Prop} {Z : Nat → Prop} (C : LF p s m c cL_law 13 #[Value.ref b] wsL_law D ct Z) {A : AS} {bd : Nat} (ok : LOk bd A) (hb14 : bd + 14000 < 2 ^ 20) {H : Heap} {locs : List Loc} (hI : LH s D ct o ad Z [] A H locs) {cs ss e9 d : Nat} {g h : Int32} (hcs : cs + 2 ≤ 600000) (hss : ss + 128 ≤ 7302250) (hd : d < nOf (aV A)) {ls : Array Slot} (hl : lv_has ls 13 [(2, .int (nI e9)), (1, .ref (o 0)), (0, .ref b), (3, .int g), (4, .int h), (6, .int (nI (nOf (aV A)))), (7, .int (nI d)), (8, .int ((aV A).1 0 2))])
    (K : ∀ (A2 : AS) (H : Heap) (locs : List Loc), LOk (bd + 14000) A2 → LH s D ct o ad Z [] A2 H locs → ∀ ls : Array Slot, lv_has ls 13 [(9, .int 1), (0, .ref b), (1, .ref (o 0)), (2, .int (nI e9))] → W p l e room_1 s m #[Value.ref b] below meth c H locs (cs + 2) (ss + 128) Q (F0 m 906 ls [])) : W p l e room_1 s m #[Value.ref b] below meth c H locs cs ss Q (F0 m 897 ls []) := by
  obtain ⟨⟨hx, hb, hml, hown, hts⟩, hK, hN, hZ, hA⟩ := id C
  refine lv_aload_n hx hb dL_law_897 rfl (lv_at hl 1 rfl) ?_
  refine lv_iload_n hx hb dL_law_898 rfl (lv_at hl 3 rfl) ?_
  refine lv_iload hx hb dL_law_899 (lv_at hl 4 rfl) ?_
  refine lq_stat C hI (As := [.ref (o 0), .int g, .int h]) (rest := []) (r := 1) (mc := 1) (ms := 8) (fun W1 sz hX => kL_shows l D ct sz o ad hX ok g h hb14) (va_cwS 3 hts gL_law_L_shows rfl rfl rfl (by decide +kernel) ⟨Nat.le_of_ble_eq_true rfl, Nat.le_of_ble_eq_true rfl⟩) rfl hl.1 rfl (Nat.le_of_ble_eq_true rfl) dL_law_901 ⟨show cs + 1 ≤ 600000 by omega, show ss + 8 ≤ 7302250 by omega⟩ (rfl) (fun H locs hI => ?_)
  obtain ⟨W1, ⟨A2, hc2, ok2⟩, hP2, hD2, hS2⟩ := hI
  have hI : LH s D ct o ad Z [] A2 H locs := ⟨W1, hc2, hP2, hD2, hS2⟩
  refine lv_istore (lv' := [(9, .int 1), (2, .int (nI e9)), (1, .ref (o 0)), (0, .ref b), (3, .int g), (4, .int h), (6, .int (nI (nOf (aV A)))), (7, .int (nI d)), (8, .int ((aV A).1 0 2))]) hx hb dL_law_904 hl (by decide) rfl (fun ls hl => ?_)
  refine W.widen (k := cs + 2) (n := ss + 128) (by omega) (by omega) ?_
  exact K A2 _ _ (ok2.mono (by omega) hb14) hI ls (lv_sub hl [0, 3, 2, 1] rfl)


