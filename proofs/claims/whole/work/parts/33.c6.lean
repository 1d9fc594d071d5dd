set_option maxHeartbeats 4000000 in
set_option maxRecDepth 100000 in
theorem k_X5_glowOfFrames (l : Launch) (D : va_G) (ct : Nat → ClassId) (L M q : Nat) (hL : 0 < L) (hL2 : L < 2 ^ 30) (hM2 : M < 2 ^ 30) (hq : 0 < q) (hq2 : q < 2 ^ 31) : Met l yX5_glowOfFrames wsX5_glowOfFrames ({ frames := 2, cells := 0, slots := 0, locals := 46 }) (roP D ct ([]) [.int (nI L), .int (nI M), .int (nI q)]) (vp_Si (fun r => r = nI (pSt L M q))) 0 0 noA := by
  refine Met.ofW (cc := cX5_glowOfFrames) (maxL := 7) (ret := (some .int)) (by decide) rfl ?_
  intro p e s m args below meth c s₁ B hml hv
  obtain ⟨rfl, hP, hK, hN⟩ := hv
  have hx := B.exec
  have hb := B.bytes
  have hr := B.returns
  have hts := atoms_spec (ws := wsX5_glowOfFrames) B.pre
  have hown : s.vm.findClass RX5 = some m.cls := findClass_of_methodNamed B.named
  have hlocks := B.notSynchronized
  have hl := lv_entry ([.int (nI L), .int (nI M), .int (nI q)]) (n := 7) (Nat.le_of_ble_eq_true rfl)
  rw [lg_entry_eq]
  generalize (lg_sl ([.int (nI L), .int (nI M), .int (nI q)]) ++ List.replicate (7 - (lg_sl ([.int (nI L), .int (nI M), .int (nI q)])).length) Slot.unset).toArray = ls at hl ⊢
  have hl : lv_has ls 7 [(0, .int (nI L)), (1, .int (nI M)), (2, .int (nI q))] := hl
  refine lv_iconst (v := (-1)) hx hb dX5_glowOfFrames_0 (by decide) ?_
  refine lv_istore_n (lv' := [(3, .int (-1)), (0, .int (nI L)), (1, .int (nI M)), (2, .int (nI q))]) hx hb dX5_glowOfFrames_1 rfl hl (by decide) rfl (fun ls hl => ?_)
  refine lv_iconst (v := 0) hx hb dX5_glowOfFrames_2 (by decide) ?_
  refine lv_istore (lv' := [(4, .int 0), (3, .int (-1)), (0, .int (nI L)), (1, .int (nI M)), (2, .int (nI q))]) hx hb dX5_glowOfFrames_3 hl (by decide) rfl (fun ls hl => ?_)
  refine lv_iconst (v := 0) hx hb dX5_glowOfFrames_5 (by decide) ?_
  refine lv_istore (lv' := [(5, .int 0), (4, .int 0), (3, .int (-1)), (0, .int (nI L)), (1, .int (nI M)), (2, .int (nI q))]) hx hb dX5_glowOfFrames_6 hl (by decide) rfl (fun ls hl => ?_)
  have loop_8 : ∀ (n_8 : Nat) (j g0 : Nat) (b : Int32), (j ≤ 1002) → (1003 ≤ j + n_8) → (g0 ≤ 1000) → (itN bN L g0 = yN L M q j) → ((j = 0 ∧ b = -1) ∨ (0 < j ∧ b = nI (yN L M q (j - 1)))) → (∀ i, i + 1 < j → ¬ yN L M q (i + 1) = yN L M q i) → ∀ (ls : Array Slot), lv_has ls 7 [(0, .int (nI L)), (1, .int (nI M)), (2, .int (nI q)), (3, .int b), (4, .int (nI g0)), (5, .int (nI j))] → W p l e (headSpec wsX5_glowOfFrames ({ frames := 2, cells := 0, slots := 0, locals := 46 })).room s m #[.int (nI L), .int (nI M), .int (nI q)] below meth c s.heap [] 0 0 (MQ below (vp_Si (fun r => r = nI (pSt L M q))) #[.int (nI L), .int (nI M), .int (nI q)] s 0 0 (noA)) (F0 m 8 ls []) := by
    intro n_8
    induction n_8 with
    | zero =>
      intro j g0 b hj hn hg0 hg hbb hnf
      exact absurd hn (by omega)
    | succ n_8 ih_8 =>
      intro j g0 b hj hn hg0 hg hbb hnf ls hl
      refine lv_iload hx hb dX5_glowOfFrames_8 (lv_at hl 5 rfl) ?_
      refine lv_sipush (v := 1002) hx hb dX5_glowOfFrames_10 (by decide) ?_
      refine lv_icmp_ge (tgt := 79) hx hb dX5_glowOfFrames_13 (by decide) (fun c_13 => ?_) (fun c_13 => ?_)
      · exact absurd (nI_le' (b := 1002) (a := j) (by decide) (by omega) c_13) (fun z => nfix hq hL (k := j - 1) (fun i hi => hnf i (by omega)) (by omega))
      · have hj2 : j < 1002 := nI_nle' (b := 1002) (by decide) (by omega) c_13
        refine lv_iconst (v := 0) hx hb dX5_glowOfFrames_16 (by decide) ?_
        refine lv_istore (lv' := [(6, .int 0), (0, .int (nI L)), (1, .int (nI M)), (2, .int (nI q)), (3, .int b), (4, .int (nI g0)), (5, .int (nI j))]) hx hb dX5_glowOfFrames_17 hl (by decide) rfl (fun ls hl => ?_)
        have loop_19 : ∀ (n_19 : Nat) (i : Nat), (i ≤ L) → (L + 1 ≤ i + n_19) → ∀ (ls : Array Slot), lv_has ls 7 [(0, .int (nI L)), (1, .int (nI M)), (2, .int (nI q)), (3, .int b), (4, .int (nI (itN bN i g0))), (5, .int (nI j)), (6, .int (nI i))] → W p l e (headSpec wsX5_glowOfFrames ({ frames := 2, cells := 0, slots := 0, locals := 46 })).room s m #[.int (nI L), .int (nI M), .int (nI q)] below meth c s.heap [] 0 0 (MQ below (vp_Si (fun r => r = nI (pSt L M q))) #[.int (nI L), .int (nI M), .int (nI q)] s 0 0 (noA)) (F0 m 19 ls []) := by
          intro n_19
          induction n_19 with
          | zero =>
            intro i hi9 hn9
            exact absurd hn9 (by omega)
          | succ n_19 ih_19 =>
            intro i hi9 hn9 ls hl
            refine lv_iload hx hb dX5_glowOfFrames_19 (lv_at hl 6 rfl) ?_
            refine lv_iload_n hx hb dX5_glowOfFrames_21 rfl (lv_at hl 0 rfl) ?_
            refine lv_icmp_ge (tgt := 38) hx hb dX5_glowOfFrames_22 (by decide) (fun c_22 => ?_) (fun c_22 => ?_)
            · have hge : L ≤ i := nI_le' (by omega) (by omega) c_22
              have hiL : i = L := by omega
              rw [hiL, hg] at hl
              refine lv_iload hx hb dX5_glowOfFrames_38 (lv_at hl 4 rfl) ?_
              refine lv_iload_n hx hb dX5_glowOfFrames_40 rfl (lv_at hl 3 rfl) ?_
              refine lv_icmp_ne (tgt := 47) hx hb dX5_glowOfFrames_41 (by decide) (fun c_41 => ?_) (fun c_41 => ?_)
              · have hnf2 : ∀ i, i + 1 < j + 1 → ¬ yN L M q (i + 1) = yN L M q i := by
                  intro i hi z
                  by_cases hij : i + 1 < j
                  · exact hnf i hij z
                  · rcases hbb with ⟨h1, h2⟩ | ⟨h1, h2⟩
                    · omega
                    · rw [show i = j - 1 by omega, show j - 1 + 1 = j by omega] at z
                      exact c_41 (by rw [h2, z])
                refine lv_iload hx hb dX5_glowOfFrames_47 (lv_at hl 4 rfl) ?_
                refine lv_istore_n (lv' := [(3, .int (nI (yN L M q (j)))), (0, .int (nI L)), (1, .int (nI M)), (2, .int (nI q)), (4, .int (nI (yN L M q (j)))), (5, .int (nI j)), (6, .int (nI L))]) hx hb dX5_glowOfFrames_49 rfl hl (by decide) rfl (fun ls hl => ?_)
                refine lv_iconst (v := 0) hx hb dX5_glowOfFrames_50 (by decide) ?_
                refine lv_istore (lv' := [(6, .int 0), (3, .int (nI (yN L M q (j)))), (0, .int (nI L)), (1, .int (nI M)), (2, .int (nI q)), (4, .int (nI (yN L M q (j)))), (5, .int (nI j))]) hx hb dX5_glowOfFrames_51 hl (by decide) rfl (fun ls hl => ?_)
                have loop_53 : ∀ (n_53 : Nat) (i : Nat), (i ≤ M) → (M + 1 ≤ i + n_53) → ∀ (ls : Array Slot), lv_has ls 7 [(0, .int (nI L)), (1, .int (nI M)), (2, .int (nI q)), (3, .int (nI (yN L M q j))), (4, .int (nI (itN (dN q) i (yN L M q (j))))), (5, .int (nI j)), (6, .int (nI i))] → W p l e (headSpec wsX5_glowOfFrames ({ frames := 2, cells := 0, slots := 0, locals := 46 })).room s m #[.int (nI L), .int (nI M), .int (nI q)] below meth c s.heap [] 0 0 (MQ below (vp_Si (fun r => r = nI (pSt L M q))) #[.int (nI L), .int (nI M), .int (nI q)] s 0 0 (noA)) (F0 m 53 ls []) := by
                  intro n_53
                  induction n_53 with
                  | zero =>
                    intro i hi9 hn9
                    exact absurd hn9 (by omega)
                  | succ n_53 ih_53 =>
                    intro i hi9 hn9 ls hl
                    refine lv_iload hx hb dX5_glowOfFrames_53 (lv_at hl 6 rfl) ?_
                    refine lv_iload_n hx hb dX5_glowOfFrames_55 rfl (lv_at hl 1 rfl) ?_
                    refine lv_icmp_ge (tgt := 73) hx hb dX5_glowOfFrames_56 (by decide) (fun c_56 => ?_) (fun c_56 => ?_)
                    · have hge : M ≤ i := nI_le' (by omega) (by omega) c_56
                      have hiM : i = M := by omega
                      rw [hiM] at hl
                      refine lv_iinc (v := nI (j + 1)) (lv' := [(5, .int (nI (j + 1))), (0, .int (nI L)), (1, .int (nI M)), (2, .int (nI q)), (3, .int (nI (yN L M q j))), (4, .int (nI (itN (dN q) M (yN L M q (j))))), (6, .int (nI M))]) hx hb dX5_glowOfFrames_73 hl (k := 5) rfl ((nI_succ j).symm) (by decide) rfl (fun ls hl => ?_)
                      refine lv_goto (tgt := 8) hx hb dX5_glowOfFrames_76 (by decide) ?_
                      exact ih_8 (j + 1) (itN (dN q) M (yN L M q j)) (nI (yN L M q j)) (by omega) (by omega) (Nat.le_trans (itD_le q M) (yN_le L M q j)) rfl (Or.inr ⟨Nat.succ_pos j, rfl⟩) hnf2 ls (lv_sub hl [1, 2, 3, 4, 5, 0] rfl)
                    · have hlt : i < M := nI_nle' (by omega) (by omega) c_56
                      refine lv_iload hx hb dX5_glowOfFrames_59 (lv_at hl 4 rfl) ?_
                      refine lv_iload_n hx hb dX5_glowOfFrames_61 rfl (lv_at hl 2 rfl) ?_
                      refine vp_callSi (va_runS (As := [.int (nI (itN (dN q) i (yN L M q (j)))), .int (nI q)]) (rest := []) ⟨hx, hb, hml, hown, hts⟩ (k_X5_glowUnlit l D ct (nI (itN (dN q) i (yN L M q j))) (nI q) (nI_lt hq hq2)) (va_cwS 2 hts gX5_glowOfFrames_X5_glowUnlit rfl rfl rfl (by decide +kernel) ⟨Nat.le_of_ble_eq_true rfl, Nat.le_of_ble_eq_true rfl⟩) ⟨roP.blind, roP.at pw_nil hK hN⟩ rfl rfl hl.1 rfl (lv_room (Nat.le_of_ble_eq_true rfl)) dX5_glowOfFrames_62 ⟨Nat.le_of_ble_eq_true rfl, Nat.le_of_ble_eq_true rfl⟩).run (fun r_62 h_62 => ?_)
                      obtain rfl : r_62 = (pDar (nI (itN (dN q) i (yN L M q j))) (nI q)) := h_62
                      refine lv_as (y := nI (itN (dN q) (i + 1) (yN L M q j))) (pDar_N (Nat.le_trans (itD_le q i) (yN_le L M q j)) hq hq2) ?_
                      refine lv_istore (lv' := [(4, .int (nI (itN (dN q) (i + 1) (yN L M q j)))), (0, .int (nI L)), (1, .int (nI M)), (2, .int (nI q)), (3, .int (nI (yN L M q j))), (5, .int (nI j)), (6, .int (nI i))]) hx hb dX5_glowOfFrames_65 hl (by decide) rfl (fun ls hl => ?_)
                      refine lv_iinc (v := nI (i + 1)) (lv' := [(6, .int (nI (i + 1))), (4, .int (nI (itN (dN q) (i + 1) (yN L M q j)))), (0, .int (nI L)), (1, .int (nI M)), (2, .int (nI q)), (3, .int (nI (yN L M q j))), (5, .int (nI j))]) hx hb dX5_glowOfFrames_67 hl (k := 6) rfl ((nI_succ i).symm) (by decide) rfl (fun ls hl => ?_)
                      refine lv_goto (tgt := 53) hx hb dX5_glowOfFrames_70 (by decide) ?_
                      exact ih_53 (i + 1) (by omega) (by omega) ls (lv_sub hl [2, 3, 4, 5, 1, 6, 0] rfl)
                exact loop_53 (M + 1) 0 (Nat.zero_le _) (by omega) ls (lv_sub hl [2, 3, 4, 1, 5, 6, 0] rfl)
              · have hfx : 0 < j ∧ yN L M q j = yN L M q (j - 1) := by
                  rcases hbb with ⟨h1, h2⟩ | ⟨h1, h2⟩
                  · rw [h2] at c_41; exact absurd c_41 (nI_m1 (by have := yN_le L M q j; omega))
                  · rw [h2] at c_41; exact ⟨h1, (nI_eq (by have := yN_le L M q j; omega) (by have := yN_le L M q (j - 1); omega)).mp c_41⟩
                refine lv_iload hx hb dX5_glowOfFrames_44 (lv_at hl 4 rfl) ?_
                exact W.iret (v := (nI (yN L M q (j)))) hx hb hr (fun tt ht hW => ⟨(nI (yN L M q (j))), rfl, by
                  obtain ⟨h1, h2⟩ := hfx
                  have h3 := pSt_of hq hL (k := j - 1) (fun i hi => hnf i (by omega)) (by rw [show j - 1 + 1 = j by omega]; exact h2)
                  rw [h2, h3], ht⟩) (fun q hq => absurd hq List.not_mem_nil) dX5_glowOfFrames_46
            · have hlt : i < L := nI_nle' (by omega) (by omega) c_22
              refine lv_iload hx hb dX5_glowOfFrames_25 (lv_at hl 4 rfl) ?_
              refine vp_callSi (va_runS (As := [.int (nI (itN bN i g0))]) (rest := []) ⟨hx, hb, hml, hown, hts⟩ (k_X5_glowLit l D ct (nI (itN bN i g0))) (va_cwS 1 hts gX5_glowOfFrames_X5_glowLit rfl rfl rfl (by decide +kernel) ⟨Nat.le_of_ble_eq_true rfl, Nat.le_of_ble_eq_true rfl⟩) ⟨roP.blind, roP.at pw_nil hK hN⟩ rfl rfl hl.1 rfl (lv_room (Nat.le_of_ble_eq_true rfl)) dX5_glowOfFrames_27 ⟨Nat.le_of_ble_eq_true rfl, Nat.le_of_ble_eq_true rfl⟩).run (fun r_27 h_27 => ?_)
              obtain rfl : r_27 = (pBri (nI (itN bN i g0))) := h_27
              refine lv_as (y := nI (itN bN (i + 1) g0)) (pBri_N (itB_le hg0 i)) ?_
              refine lv_istore (lv' := [(4, .int (nI (itN bN (i + 1) g0))), (0, .int (nI L)), (1, .int (nI M)), (2, .int (nI q)), (3, .int b), (5, .int (nI j)), (6, .int (nI i))]) hx hb dX5_glowOfFrames_30 hl (by decide) rfl (fun ls hl => ?_)
              refine lv_iinc (v := nI (i + 1)) (lv' := [(6, .int (nI (i + 1))), (4, .int (nI (itN bN (i + 1) g0))), (0, .int (nI L)), (1, .int (nI M)), (2, .int (nI q)), (3, .int b), (5, .int (nI j))]) hx hb dX5_glowOfFrames_32 hl (k := 6) rfl ((nI_succ i).symm) (by decide) rfl (fun ls hl => ?_)
              refine lv_goto (tgt := 19) hx hb dX5_glowOfFrames_35 (by decide) ?_
              exact ih_19 (i + 1) (by omega) (by omega) ls (lv_sub hl [2, 3, 4, 5, 1, 6, 0] rfl)
        exact loop_19 (L + 1) 0 (Nat.zero_le _) (by omega) ls (lv_sub hl [1, 2, 3, 4, 5, 6, 0] rfl)
  exact loop_8 (1003) 0 0 (-1) (by omega) (by omega) (by decide) rfl (Or.inl ⟨rfl, rfl⟩) (fun i hi => absurd hi (by omega)) ls (lv_sub hl [3, 4, 5, 2, 1, 0] rfl)

set_option maxHeartbeats 4000000 in
set_option maxRecDepth 100000 in
theorem k_X6_steadyGlow_ok (l : Launch) (D : va_G) (ct : Nat → ClassId) (a : Nat → Nat) (v u : SV) (w sl : Nat → SV) (k t : Nat) (hk : k ≤ 5) (ik tx rd : Nat → Int32) (ok : Inv v) (d : Nat) (hd : d < nOf v) (L M q : Nat) (hLP : pLP v d = nI L) (hMP : pLen v - pLP v d = nI M) (hqd : v.1 3 0 = nI q) (hL2 : L < 2 ^ 30) (hM2 : M < 2 ^ 30) (hq : 0 < q) (hq2 : q < 2 ^ 31) : Met l yX6_steadyGlow wsX6_steadyGlow ({ frames := 3, cells := 0, slots := 0, locals := 65 }) (roP D ct (mG ct a (nI k) (nI t) (rowOf v) v.2 (rowOf u) u.2 (hisI w) (hisF w) (hisI sl) (hisF sl) ik tx rd) [.ref (a 0), .int (nI d)]) (vp_Si (fun r => r = if L = 0 then 0 else nI (pSt L M q))) 0 0 noA := by
  refine Met.ofW (cc := cX6_steadyGlow) (maxL := 8) (ret := (some .int)) (by decide) rfl ?_
  intro p e s m args below meth c s₁ B hml hv
  obtain ⟨rfl, hP, hK, hN⟩ := hv
  have hx := B.exec
  have hb := B.bytes
  have hr := B.returns
  have hts := atoms_spec (ws := wsX6_steadyGlow) B.pre
  have hown : s.vm.findClass RX6 = some m.cls := findClass_of_methodNamed B.named
  have hlocks := B.notSynchronized
  have hl := lv_entry ([.ref (a 0), .int (nI d)]) (n := 8) (Nat.le_of_ble_eq_true rfl)
  rw [lg_entry_eq]
  generalize (lg_sl ([.ref (a 0), .int (nI d)]) ++ List.replicate (8 - (lg_sl ([.ref (a 0), .int (nI d)])).length) Slot.unset).toArray = ls at hl ⊢
  have hl : lv_has ls 8 [(0, .ref (a 0)), (1, .int (nI d))] := hl
  have hd8 : d < 8 := Nat.lt_of_lt_of_le hd ok.n8
  have hvd := vD_of ok hd
  refine lv_aload_n hx hb dX6_steadyGlow_0 rfl (lv_at hl 0 rfl) ?_
  refine lv_iload_n hx hb dX6_steadyGlow_1 rfl (lv_at hl 1 rfl) ?_
  refine vp_callSi (va_runV (As := [.int (nI d)]) (rest := []) ⟨hx, hb, hml, hown, hts⟩ (k_X6_noDigit l D ct (a 0) (a 1) (mTl a (nI k) (nI t)) v (nI d)) (cwV 1 hts gX6_steadyGlow_X6_noDigit rfl rfl rfl (by decide +kernel) ⟨Nat.le_of_ble_eq_true rfl, Nat.le_of_ble_eq_true rfl⟩) ⟨roP.blind, va_recv hK (mG_R hP) (ci := 6) (q0 := 0) rfl rfl, roP.at (mG_R hP) hK hN⟩ rfl rfl hl.1 rfl (lv_room (Nat.le_of_ble_eq_true rfl)) dX6_steadyGlow_2 ⟨Nat.le_of_ble_eq_true rfl, Nat.le_of_ble_eq_true rfl⟩).run (fun r_2 h_2 => ?_)
  obtain rfl : r_2 = if vD v (nI d) then 0 else 1 := h_2
  refine lv_if_eq (tgt := 10) hx hb dX6_steadyGlow_5 (by decide) (fun c_5 => ?_) (fun c_5 => ?_)
  · refine lv_aload_n hx hb dX6_steadyGlow_10 rfl (lv_at hl 0 rfl) ?_
    refine lv_iload_n hx hb dX6_steadyGlow_11 rfl (lv_at hl 1 rfl) ?_
    refine vp_callSi (va_runV (As := [.int (nI d)]) (rest := []) ⟨hx, hb, hml, hown, hts⟩ (k_X6_litPart l D ct (a 0) (a 1) (mTl a (nI k) (nI t)) v d hd8) (cwV 1 hts gX6_steadyGlow_X6_litPart rfl rfl rfl (by decide +kernel) ⟨Nat.le_of_ble_eq_true rfl, Nat.le_of_ble_eq_true rfl⟩) ⟨roP.blind, va_recv hK (mG_R hP) (ci := 6) (q0 := 0) rfl rfl, roP.at (mG_R hP) hK hN⟩ rfl rfl hl.1 rfl (lv_room (Nat.le_of_ble_eq_true rfl)) dX6_steadyGlow_12 ⟨Nat.le_of_ble_eq_true rfl, Nat.le_of_ble_eq_true rfl⟩).run (fun r_12 h_12 => ?_)
    obtain rfl : r_12 = pLP v d := h_12
    refine lv_as (y := nI L) (hLP) ?_
    refine lv_istore_n (lv' := [(2, .int (nI L)), (0, .ref (a 0)), (1, .int (nI d))]) hx hb dX6_steadyGlow_15 rfl hl (by decide) rfl (fun ls hl => ?_)
    refine lv_aload_n hx hb dX6_steadyGlow_16 rfl (lv_at hl 1 rfl) ?_
    refine vp_callSi (va_runV (As := []) (rest := []) ⟨hx, hb, hml, hown, hts⟩ (k_X6_frameLength l D ct (a 0) (a 1) (mTl a (nI k) (nI t)) v ok.n8 ok.cnt) (cwV 0 hts gX6_steadyGlow_X6_frameLength rfl rfl rfl (by decide +kernel) ⟨Nat.le_of_ble_eq_true rfl, Nat.le_of_ble_eq_true rfl⟩) ⟨roP.blind, va_recv hK (mG_R hP) (ci := 6) (q0 := 0) rfl rfl, roP.at (mG_R hP) hK hN⟩ rfl rfl hl.1 rfl (lv_room (Nat.le_of_ble_eq_true rfl)) dX6_steadyGlow_17 ⟨Nat.le_of_ble_eq_true rfl, Nat.le_of_ble_eq_true rfl⟩).run (fun r_17 h_17 => ?_)
    obtain rfl : r_17 = pLen v := h_17
    refine lv_iload_n hx hb dX6_steadyGlow_20 rfl (lv_at hl 0 rfl) ?_
    refine lv_isub hx hb dX6_steadyGlow_21 ?_
    refine lv_as (y := nI M) ((by rw [← hLP]; exact hMP)) ?_
    refine lv_istore_n (lv' := [(3, .int (nI M)), (2, .int (nI L)), (0, .ref (a 0)), (1, .int (nI d))]) hx hb dX6_steadyGlow_22 rfl hl (by decide) rfl (fun ls hl => ?_)
    refine lv_bipush (v := (-4)) hx hb dX6_steadyGlow_23 (by decide) ?_
    refine lv_istore (lv' := [(4, .int (-4)), (3, .int (nI M)), (2, .int (nI L)), (0, .ref (a 0)), (1, .int (nI d))]) hx hb dX6_steadyGlow_25 hl (by decide) rfl (fun ls hl => ?_)
    refine lv_iconst (v := 0) hx hb dX6_steadyGlow_27 (by decide) ?_
    refine lv_istore (lv' := [(5, .int 0), (4, .int (-4)), (3, .int (nI M)), (2, .int (nI L)), (0, .ref (a 0)), (1, .int (nI d))]) hx hb dX6_steadyGlow_28 hl (by decide) rfl (fun ls hl => ?_)
    refine lv_iconst (v := 0) hx hb dX6_steadyGlow_30 (by decide) ?_
    refine lv_istore (lv' := [(6, .int 0), (5, .int 0), (4, .int (-4)), (3, .int (nI M)), (2, .int (nI L)), (0, .ref (a 0)), (1, .int (nI d))]) hx hb dX6_steadyGlow_31 hl (by decide) rfl (fun ls hl => ?_)
    have loop_33 : ∀ (n_33 : Nat) (j g0 : Nat) (its b : Int32), (1010 ≤ j + n_33) → (j ≤ 1005) → (g0 ≤ 1000) → (itN bN L g0 = yN L M q j) → ((j = 0 ∧ its = 0 ∧ b = -4) ∨ (0 < j ∧ its = nI (yN L M q (j - 1)) ∧ ((j = 1 ∧ b = -4) ∨ (1 < j ∧ b = nI (yN L M q (j - 2)))))) → (∀ i, i + 2 < j → ¬ yN L M q (i + 1) = yN L M q i) → (0 < j → 0 < L) → ∀ (ls : Array Slot), lv_has ls 8 [(0, .ref (a 0)), (2, .int (nI L)), (3, .int (nI M)), (4, .int b), (5, .int its), (6, .int (nI g0))] → W p l e (headSpec wsX6_steadyGlow ({ frames := 3, cells := 0, slots := 0, locals := 65 })).room s m #[.ref (a 0), .int (nI d)] below meth c s.heap [] 0 0 (MQ below (vp_Si (fun r => r = if L = 0 then 0 else nI (pSt L M q))) #[.ref (a 0), .int (nI d)] s 0 0 (noA)) (F0 m 33 ls []) := by
      intro n_33
      induction n_33 with
      | zero =>
        intro j g0 its b hn hj hg0 hg hs hnf hLj
        exact absurd hn (by omega)
      | succ n_33 ih_33 =>
        intro j g0 its b hn hj hg0 hg hs hnf hLj ls hl
        refine lv_iload_n hx hb dX6_steadyGlow_33 rfl (lv_at hl 1 rfl) ?_
        refine lv_if_le (tgt := 110) hx hb dX6_steadyGlow_34 (by decide) (fun c_34 => ?_) (fun c_34 => ?_)
        · have hL : L = 0 := Nat.eq_zero_of_not_pos (fun z => absurd ((nI_leI (a := L) (b := 0) (by omega) (by decide)).mp c_34) (by omega))
          refine lv_iload hx hb dX6_steadyGlow_110 (lv_at hl 4 rfl) ?_
          exact W.iret (v := its) hx hb hr (fun tt ht hW => ⟨its, rfl, by
            rw [if_pos hL]
            rcases hs with ⟨h1, h2, h3⟩ | ⟨h1, h2, h3⟩
            · exact h2
            · exact absurd (hLj h1) (by omega), ht⟩) (fun q hq => absurd hq List.not_mem_nil) dX6_steadyGlow_112
        · have hL : 0 < L := Nat.pos_of_ne_zero (fun z => c_34 (by rw [z]; decide))
          refine lv_iload hx hb dX6_steadyGlow_37 (lv_at hl 4 rfl) ?_
          refine lv_iload hx hb dX6_steadyGlow_39 (lv_at hl 3 rfl) ?_
          refine lv_icmp_eq (tgt := 110) hx hb dX6_steadyGlow_41 (by decide) (fun c_41 => ?_) (fun c_41 => ?_)
          · refine lv_iload hx hb dX6_steadyGlow_110 (lv_at hl 4 rfl) ?_
            exact W.iret (v := its) hx hb hr (fun tt ht hW => ⟨its, rfl, by
              rcases hs with ⟨h1, h2, h3⟩ | ⟨h1, h2, h3⟩
              · rw [h2, h3] at c_41; exact absurd c_41 (by decide)
              · have hb4 := yN_le L M q (j - 1)
                rcases h3 with ⟨h4, h5⟩ | ⟨h4, h5⟩
                · rw [h2, h5] at c_41; exact absurd c_41 (nI_4 (by omega))
                · rw [h2, h5] at c_41
                  have hb5 := yN_le L M q (j - 2)
                  have e := (nI_eq (by omega) (by omega)).mp c_41
                  rw [if_neg (by omega), h2, e]
                  rw [pSt_of hq hL (k := j - 2) (fun i hi => hnf i (by omega)) (by rw [show j - 2 + 1 = j - 1 by omega]; exact e)], ht⟩) (fun q hq => absurd hq List.not_mem_nil) dX6_steadyGlow_112
          · have hnf2 : ∀ i, i + 1 < j → ¬ yN L M q (i + 1) = yN L M q i := by
              intro i hi z
              by_cases hij : i + 2 < j
              · exact hnf i hij z
              · rcases hs with ⟨h1, h2, h3⟩ | ⟨h1, h2, h3⟩
                · omega
                · rcases h3 with ⟨h4, h5⟩ | ⟨h4, h5⟩
                  · omega
                  · rw [show i = j - 2 by omega, show j - 2 + 1 = j - 1 by omega] at z
                    exact c_41 (by rw [h2, h5, z])
            have hj2 : j + 1 ≤ 1005 := Nat.le_of_not_lt (fun z => nfix hq hL (k := j - 1) (fun i hi => hnf2 i (by omega)) (by omega))
            refine lv_iload hx hb dX6_steadyGlow_44 (lv_at hl 4 rfl) ?_
            have cut_56 : ∀ (b2 : Int32), ((b2 = -4 ∧ j = 0) ∨ (0 < j ∧ b2 = nI (yN L M q (j - 1)))) → ∀ (ls : Array Slot), lv_has ls 8 [(0, .ref (a 0)), (2, .int (nI L)), (3, .int (nI M)), (6, .int (nI g0))] → W p l e (headSpec wsX6_steadyGlow ({ frames := 3, cells := 0, slots := 0, locals := 65 })).room s m #[.ref (a 0), .int (nI d)] below meth c s.heap [] 0 0 (MQ below (vp_Si (fun r => r = if L = 0 then 0 else nI (pSt L M q))) #[.ref (a 0), .int (nI d)] s 0 0 (noA)) (F0 m 56 ls [.int b2]) := by
              intro b2 hb2 ls hl
              have hs2 : (j + 1 = 0 ∧ nI (yN L M q j) = 0 ∧ b2 = -4) ∨ (0 < j + 1 ∧ nI (yN L M q j) = nI (yN L M q (j + 1 - 1)) ∧ ((j + 1 = 1 ∧ b2 = -4) ∨ (1 < j + 1 ∧ b2 = nI (yN L M q (j + 1 - 2))))) := by
                refine Or.inr ⟨Nat.succ_pos j, by rw [Nat.add_sub_cancel], ?_⟩
                rcases hb2 with ⟨h1, h2⟩ | ⟨h1, h2⟩
                · exact Or.inl ⟨by omega, h1⟩
                · exact Or.inr ⟨by omega, by rw [h2, show j + 1 - 2 = j - 1 by omega]⟩
              refine lv_istore (lv' := [(4, .int b2), (0, .ref (a 0)), (2, .int (nI L)), (3, .int (nI M)), (6, .int (nI g0))]) hx hb dX6_steadyGlow_56 hl (by decide) rfl (fun ls hl => ?_)
              refine lv_iconst (v := 0) hx hb dX6_steadyGlow_58 (by decide) ?_
              refine lv_istore (lv' := [(7, .int 0), (4, .int b2), (0, .ref (a 0)), (2, .int (nI L)), (3, .int (nI M)), (6, .int (nI g0))]) hx hb dX6_steadyGlow_59 hl (by decide) rfl (fun ls hl => ?_)
              have loop_61 : ∀ (n_61 : Nat) (i : Nat), (i ≤ L) → (L + 1 ≤ i + n_61) → ∀ (ls : Array Slot), lv_has ls 8 [(0, .ref (a 0)), (2, .int (nI L)), (3, .int (nI M)), (4, .int b2), (6, .int (nI (itN bN i g0))), (7, .int (nI i))] → W p l e (headSpec wsX6_steadyGlow ({ frames := 3, cells := 0, slots := 0, locals := 65 })).room s m #[.ref (a 0), .int (nI d)] below meth c s.heap [] 0 0 (MQ below (vp_Si (fun r => r = if L = 0 then 0 else nI (pSt L M q))) #[.ref (a 0), .int (nI d)] s 0 0 (noA)) (F0 m 61 ls []) := by
                intro n_61
                induction n_61 with
                | zero =>
                  intro i hi9 hn9
                  exact absurd hn9 (by omega)
                | succ n_61 ih_61 =>
                  intro i hi9 hn9 ls hl
                  refine lv_iload hx hb dX6_steadyGlow_61 (lv_at hl 5 rfl) ?_
                  refine lv_iload_n hx hb dX6_steadyGlow_63 rfl (lv_at hl 1 rfl) ?_
                  refine lv_icmp_ge (tgt := 80) hx hb dX6_steadyGlow_64 (by decide) (fun c_64 => ?_) (fun c_64 => ?_)
                  · have hge : L ≤ i := nI_le' (by omega) (by omega) c_64
                    have hiL : i = L := by omega
                    rw [hiL, hg] at hl
                    refine lv_iload hx hb dX6_steadyGlow_80 (lv_at hl 4 rfl) ?_
                    refine lv_istore (lv' := [(5, .int (nI (yN L M q (j)))), (0, .ref (a 0)), (2, .int (nI L)), (3, .int (nI M)), (4, .int b2), (6, .int (nI (yN L M q (j)))), (7, .int (nI L))]) hx hb dX6_steadyGlow_82 hl (by decide) rfl (fun ls hl => ?_)
                    refine lv_iconst (v := 0) hx hb dX6_steadyGlow_84 (by decide) ?_
                    refine lv_istore (lv' := [(7, .int 0), (5, .int (nI (yN L M q (j)))), (0, .ref (a 0)), (2, .int (nI L)), (3, .int (nI M)), (4, .int b2), (6, .int (nI (yN L M q (j))))]) hx hb dX6_steadyGlow_85 hl (by decide) rfl (fun ls hl => ?_)
                    have loop_87 : ∀ (n_87 : Nat) (i : Nat), (i ≤ M) → (M + 1 ≤ i + n_87) → ∀ (ls : Array Slot), lv_has ls 8 [(0, .ref (a 0)), (2, .int (nI L)), (3, .int (nI M)), (4, .int b2), (5, .int (nI (yN L M q (j)))), (6, .int (nI (itN (dN q) i (yN L M q (j))))), (7, .int (nI i))] → W p l e (headSpec wsX6_steadyGlow ({ frames := 3, cells := 0, slots := 0, locals := 65 })).room s m #[.ref (a 0), .int (nI d)] below meth c s.heap [] 0 0 (MQ below (vp_Si (fun r => r = if L = 0 then 0 else nI (pSt L M q))) #[.ref (a 0), .int (nI d)] s 0 0 (noA)) (F0 m 87 ls []) := by
                      intro n_87
                      induction n_87 with
                      | zero =>
                        intro i hi9 hn9
                        exact absurd hn9 (by omega)
                      | succ n_87 ih_87 =>
                        intro i hi9 hn9 ls hl
                        refine lv_iload hx hb dX6_steadyGlow_87 (lv_at hl 6 rfl) ?_
                        refine lv_iload_n hx hb dX6_steadyGlow_89 rfl (lv_at hl 2 rfl) ?_
                        refine lv_icmp_ge (tgt := 107) hx hb dX6_steadyGlow_90 (by decide) (fun c_90 => ?_) (fun c_90 => ?_)
                        · have hge : M ≤ i := nI_le' (by omega) (by omega) c_90
                          have hiM : i = M := by omega
                          rw [hiM] at hl
                          refine lv_goto (tgt := 33) hx hb dX6_steadyGlow_107 (by decide) ?_
                          exact ih_33 (j + 1) (itN (dN q) M (yN L M q j)) _ _ (by omega) hj2 (Nat.le_trans (itD_le q M) (yN_le L M q j)) rfl hs2 (fun i hi => hnf2 i (by omega)) (fun _ => hL) ls (lv_sub hl [0, 1, 2, 3, 4, 5] rfl)
                        · have hlt : i < M := nI_nle' (by omega) (by omega) c_90
                          refine lv_aload_n hx hb dX6_steadyGlow_93 rfl (lv_at hl 0 rfl) ?_
                          refine lv_iload hx hb dX6_steadyGlow_94 (lv_at hl 5 rfl) ?_
                          refine vp_callSi (va_runV (As := [.int (nI (itN (dN q) i (yN L M q (j))))]) (rest := []) ⟨hx, hb, hml, hown, hts⟩ (k_X6_darker l D ct (a 0) (a 1) (mTl a (nI k) (nI t)) v (nI (itN (dN q) i (yN L M q j))) ok.dec) (cwV 1 hts gX6_steadyGlow_X6_darker rfl rfl rfl (by decide +kernel) ⟨Nat.le_of_ble_eq_true rfl, Nat.le_of_ble_eq_true rfl⟩) ⟨roP.blind, va_recv hK (mG_R hP) (ci := 6) (q0 := 0) rfl rfl, roP.at (mG_R hP) hK hN⟩ rfl rfl hl.1 rfl (lv_room (Nat.le_of_ble_eq_true rfl)) dX6_steadyGlow_96 ⟨Nat.le_of_ble_eq_true rfl, Nat.le_of_ble_eq_true rfl⟩).run (fun r_96 h_96 => ?_)
                          obtain rfl : r_96 = (pDar (nI (itN (dN q) i (yN L M q j))) (v.1 3 0)) := h_96
                          refine lv_as (y := nI (itN (dN q) (i + 1) (yN L M q j))) ((by rw [hqd]; exact pDar_N (Nat.le_trans (itD_le q i) (yN_le L M q j)) hq hq2)) ?_
                          refine lv_istore (lv' := [(6, .int (nI (itN (dN q) (i + 1) (yN L M q j)))), (0, .ref (a 0)), (2, .int (nI L)), (3, .int (nI M)), (4, .int b2), (5, .int (nI (yN L M q (j)))), (7, .int (nI i))]) hx hb dX6_steadyGlow_99 hl (by decide) rfl (fun ls hl => ?_)
                          refine lv_iinc (v := nI (i + 1)) (lv' := [(7, .int (nI (i + 1))), (6, .int (nI (itN (dN q) (i + 1) (yN L M q j)))), (0, .ref (a 0)), (2, .int (nI L)), (3, .int (nI M)), (4, .int b2), (5, .int (nI (yN L M q (j))))]) hx hb dX6_steadyGlow_101 hl (k := 6) rfl ((nI_succ i).symm) (by decide) rfl (fun ls hl => ?_)
                          refine lv_goto (tgt := 87) hx hb dX6_steadyGlow_104 (by decide) ?_
                          exact ih_87 (i + 1) (by omega) (by omega) ls (lv_sub hl [2, 3, 4, 5, 6, 1, 0] rfl)
                    exact loop_87 (M + 1) 0 (Nat.zero_le _) (by omega) ls (lv_sub hl [2, 3, 4, 5, 1, 6, 0] rfl)
                  · have hlt : i < L := nI_nle' (by omega) (by omega) c_64
                    refine lv_iload hx hb dX6_steadyGlow_67 (lv_at hl 4 rfl) ?_
                    refine vp_callSi (va_runS (As := [.int (nI (itN bN i g0))]) (rest := []) ⟨hx, hb, hml, hown, hts⟩ (k_X6_brighter l D ct (nI (itN bN i g0))) (va_cwS 1 hts gX6_steadyGlow_X6_brighter rfl rfl rfl (by decide +kernel) ⟨Nat.le_of_ble_eq_true rfl, Nat.le_of_ble_eq_true rfl⟩) ⟨roP.blind, roP.at pw_nil hK hN⟩ rfl rfl hl.1 rfl (lv_room (Nat.le_of_ble_eq_true rfl)) dX6_steadyGlow_69 ⟨Nat.le_of_ble_eq_true rfl, Nat.le_of_ble_eq_true rfl⟩).run (fun r_69 h_69 => ?_)
                    obtain rfl : r_69 = (pBri (nI (itN bN i g0))) := h_69
                    refine lv_as (y := nI (itN bN (i + 1) g0)) (pBri_N (itB_le hg0 i)) ?_
                    refine lv_istore (lv' := [(6, .int (nI (itN bN (i + 1) g0))), (0, .ref (a 0)), (2, .int (nI L)), (3, .int (nI M)), (4, .int b2), (7, .int (nI i))]) hx hb dX6_steadyGlow_72 hl (by decide) rfl (fun ls hl => ?_)
                    refine lv_iinc (v := nI (i + 1)) (lv' := [(7, .int (nI (i + 1))), (6, .int (nI (itN bN (i + 1) g0))), (0, .ref (a 0)), (2, .int (nI L)), (3, .int (nI M)), (4, .int b2)]) hx hb dX6_steadyGlow_74 hl (k := 5) rfl ((nI_succ i).symm) (by decide) rfl (fun ls hl => ?_)
                    refine lv_goto (tgt := 61) hx hb dX6_steadyGlow_77 (by decide) ?_
                    exact ih_61 (i + 1) (by omega) (by omega) ls (lv_sub hl [2, 3, 4, 5, 1, 0] rfl)
              exact loop_61 (L + 1) 0 (Nat.zero_le _) (by omega) ls (lv_sub hl [2, 3, 4, 1, 5, 0] rfl)
            refine lv_if_ne (tgt := 54) hx hb dX6_steadyGlow_46 (by decide) (fun c_46 => ?_) (fun c_46 => ?_)
            · have hb2 : (its = -4 ∧ j = 0) ∨ (0 < j ∧ its = nI (yN L M q (j - 1))) := by
                rcases hs with ⟨h1, h2, h3⟩ | ⟨h1, h2, h3⟩
                · exact absurd h2 c_46
                · exact Or.inr ⟨h1, h2⟩
              refine lv_iload hx hb dX6_steadyGlow_54 (lv_at hl 4 rfl) ?_
              exact cut_56 _ hb2 ls (lv_sub hl [0, 1, 2, 5] rfl)
            · have hb2 : ((-4 : Int32) = -4 ∧ j = 0) ∨ (0 < j ∧ (-4 : Int32) = nI (yN L M q (j - 1))) := by
                rcases hs with ⟨h1, h2, h3⟩ | ⟨h1, h2, h3⟩
                · exact Or.inl ⟨rfl, h1⟩
                · rw [h2] at c_46; exact absurd c_46 (nI_ne0 (by have := yN_1 (M := M) (q := q) hL (j - 1); omega) (by have := yN_le L M q (j - 1); omega))
              refine lv_bipush (v := (-4)) hx hb dX6_steadyGlow_49 (by decide) ?_
              refine lv_goto (tgt := 56) hx hb dX6_steadyGlow_51 (by decide) ?_
              exact cut_56 _ hb2 ls (lv_sub hl [0, 1, 2, 5] rfl)
    exact loop_33 (1010) 0 0 0 (-4) (by omega) (by omega) (by decide) rfl (Or.inl ⟨rfl, rfl, rfl⟩) (fun i hi => absurd hi (by omega)) (fun h => absurd h (Nat.lt_irrefl 0)) ls (lv_sub hl [5, 4, 3, 2, 1, 0] rfl)
  · exact absurd (if_pos hvd) c_5

