set_option maxHeartbeats 4000000 in
set_option maxRecDepth 100000 in
theorem k_X5_glowOfFrames (l : Launch) (D : va_G) (ct : Nat → ClassId) (L M q : Nat) (hL : 0 < L) (hL2 : L < 2 ^ 30) (hM2 : M < 2 ^ 30) (hq : 0 < q) (hq2 : q < 2 ^ 31) : Met l yX5_glowOfFrames wsX5_glowOfFrames ({ frames := 2, cells := 0, slots := 0, locals := 46 }) (roP D ct ([]) [.int (nI L), .int (nI M), .int (nI q)]) (vp_Si (fun r => r = nI (pSt L M q))) 0 0 noA := by
  refine Met.ofW (cc := cX5_glowOfFrames) (maxL := 7) (ret := (some .int)) (by decide) rfl ?_
  intro p e s m args below meth c s₁ B hml hv
  obtain ⟨rfl, hP, hK, hN⟩ := hv
  have hx := B.exec
  have hb := B.bytes
  have hr := B.returns
  have hts := atoms_spec (ws := wsX5_glowOfFrames) B.pre
  have hown : s.vm.findClass RX5 = some m.cls := findClass_of_methodNamed B.named
  have hlocks := B.notSynchronized
  have hl := lv_entry ([.int (nI L), .int (nI M), .int (nI q)]) (n := 7) (Nat.le_of_ble_eq_true rfl)
  rw [lg_entry_eq]
  generalize (lg_sl ([.int (nI L), .int (nI M), .int (nI q)]) ++ List.replicate (7 - (lg_sl ([.int (nI L), .int (nI M), .int (nI q)])).length) Slot.unset).toArray = ls at hl ⊢
  have hl : lv_has ls 7 [(0, .int (nI L)), (1, .int (nI M)), (2, .int (nI q))] := hl
  refine lv_iconst (v := (-1)) hx hb dX5_glowOfFrames_0 (by decide) ?_
  refine lv_istore_n (lv' := [(3, .int (-1)), (0, .int (nI L)), (1, .int (nI M)), (2, .int (nI q))]) hx hb dX5_glowOfFrames_1 rfl hl (by decide) rfl (fun ls hl => ?_)
  refine lv_iconst (v := 0) hx hb dX5_glowOfFrames_2 (by decide) ?_
  refine lv_istore (lv' := [(4, .int 0), (3, .int (-1)), (0, .int (nI L)), (1, .int (nI M)), (2, .int (nI q))]) hx hb dX5_glowOfFrames_3 hl (by decide) rfl (fun ls hl => ?_)
  refine lv_iconst (v := 0) hx hb dX5_glowOfFrames_5 (by decide) ?_
  refine lv_istore (lv' := [(5, .int 0), (4, .int 0), (3, .int (-1)), (0, .int (nI L)), (1, .int (nI M)), (2, .int (nI q))]) hx hb dX5_glowOfFrames_6 hl (by decide) rfl (fun ls hl => ?_)
  have loop_8 : ∀ (n_8 : Nat) (j g0 : Nat) (b : Int32), (j ≤ 1002) → (1003 ≤ j + n_8) → (g0 ≤ 1000) → (itN bN L g0 = yN L M q j) → ((j = 0 ∧ b = -1) ∨ (0 < j ∧ b = nI (yN L M q (j - 1)))) → (∀ i, i + 1 < j → ¬ yN L M q (i + 1) = yN L M q i) → ∀ (ls : Array Slot), lv_has ls 7 [(0, .int (nI L)), (1, .int (nI M)), (2, .int (nI q)), (3, .int b), (4, .int (nI g0)), (5, .int (nI j))] → W p l e (headSpec wsX5_glowOfFrames ({ frames := 2, cells := 0, slots := 0, locals := 46 })).room s m #[.int (nI L), .int (nI M), .int (nI q)] below meth c s.heap [] 0 0 (MQ below (vp_Si (fun r => r = nI (pSt L M q))) #[.int (nI L), .int (nI M), .int (nI q)] s 0 0 (noA)) (F0 m 8 ls []) := by
    intro n_8
    induction n_8 with
    | zero =>
      intro j g0 b hj hn hg0 hg hbb hnf
      exact absurd hn (by omega)
    | succ n_8 ih_8 =>
      intro j g0 b hj hn hg0 hg hbb hnf ls hl
      refine lv_iload hx hb dX5_glowOfFrames_8 (lv_at hl 5 rfl) ?_
      refine lv_sipush (v := 1002) hx hb dX5_glowOfFrames_10 (by decide) ?_
      refine lv_icmp_ge (tgt := 79) hx hb dX5_glowOfFrames_13 (by decide) (fun c_13 => ?_) (fun c_13 => ?_)
      · exact absurd (nI_le' (b := 1002) (a := j) (by decide) (by omega) c_13) (fun z => nfix hq hL (k := j - 1) (fun i hi => hnf i (by omega)) (by omega))
      · have hj2 : j < 1002 := nI_nle' (b := 1002) (by decide) (by omega) c_13
        refine lv_iconst (v := 0) hx hb dX5_glowOfFrames_16 (by decide) ?_
        refine lv_istore (lv' := [(6, .int 0), (0, .int (nI L)), (1, .int (nI M)), (2, .int (nI q)), (3, .int b), (4, .int (nI g0)), (5, .int (nI j))]) hx hb dX5_glowOfFrames_17 hl (by decide) rfl (fun ls hl => ?_)
        have loop_19 : ∀ (n_19 : Nat) (i : Nat), (i ≤ L) → (L + 1 ≤ i + n_19) → ∀ (ls : Array Slot), lv_has ls 7 [(0, .int (nI L)), (1, .int (nI M)), (2, .int (nI q)), (3, .int b), (4, .int (nI (itN bN i g0))), (5, .int (nI j)), (6, .int (nI i))] → W p l e (headSpec wsX5_glowOfFrames ({ frames := 2, cells := 0, slots := 0, locals := 46 })).room s m #[.int (nI L), .int (nI M), .int (nI q)] below meth c s.heap [] 0 0 (MQ below (vp_Si (fun r => r = nI (pSt L M q))) #[.int (nI L), .int (nI M), .int (nI q)] s 0 0 (noA)) (F0 m 19 ls []) := by
          intro n_19
          induction n_19 with
          | zero =>
            intro i hi9 hn9
            exact absurd hn9 (by omega)
          | succ n_19 ih_19 =>
            intro i hi9 hn9 ls hl
            refine lv_iload hx hb dX5_glowOfFrames_19 (lv_at hl 6 rfl) ?_
            refine lv_iload_n hx hb dX5_glowOfFrames_21 rfl (lv_at hl 0 rfl) ?_
            refine lv_icmp_ge (tgt := 38) hx hb dX5_glowOfFrames_22 (by decide) (fun c_22 => ?_) (fun c_22 => ?_)
            · have hge : L ≤ i := nI_le' (by omega) (by omega) c_22
              have hiL : i = L := by omega
              rw [hiL, hg] at hl
              refine lv_iload hx hb dX5_glowOfFrames_38 (lv_at hl 4 rfl) ?_
              refine lv_iload_n hx hb dX5_glowOfFrames_40 rfl (lv_at hl 3 rfl) ?_
              refine lv_icmp_ne (tgt := 47) hx hb dX5_glowOfFrames_41 (by decide) (fun c_41 => ?_) (fun c_41 => ?_)
              · have hnf2 : ∀ i, i + 1 < j + 1 → ¬ yN L M q (i + 1) = yN L M q i := by
                  intro i hi z
                  by_cases hij : i + 1 < j
                  · exact hnf i hij z
                  · rcases hbb with ⟨h1, h2⟩ | ⟨h1, h2⟩
                    · omega
                    · rw [show i = j - 1 by omega, show j - 1 + 1 = j by omega] at z
                      exact c_41 (by rw [h2, z])
                refine lv_iload hx hb dX5_glowOfFrames_47 (lv_at hl 4 rfl) ?_
                refine lv_istore_n (lv' := [(3, .int (nI (yN L M q (j)))), (0, .int (nI L)), (1, .int (nI M)), (2, .int (nI q)), (4, .int (nI (yN L M q (j)))), (5, .int (nI j)), (6, .int (nI L))]) hx hb dX5_glowOfFrames_49 rfl hl (by decide) rfl (fun ls hl => ?_)
                refine lv_iconst (v := 0) hx hb dX5_glowOfFrames_50 (by decide) ?_
                refine lv_istore (lv' := [(6, .int 0), (3, .int (nI (yN L M q (j)))), (0, .int (nI L)), (1, .int (nI M)), (2, .int (nI q)), (4, .int (nI (yN L M q (j)))), (5, .int (nI j))]) hx hb dX5_glowOfFrames_51 hl (by decide) rfl (fun ls hl => ?_)
                have loop_53 : ∀ (n_53 : Nat) (i : Nat), (i ≤ M) → (M + 1 ≤ i + n_53) → ∀ (ls : Array Slot), lv_has ls 7 [(0, .int (nI L)), (1, .int (nI M)), (2, .int (nI q)), (3, .int (nI (yN L M q j))), (4, .int (nI (itN (dN q) i (yN L M q (j))))), (5, .int (nI j)), (6, .int (nI i))] → W p l e (headSpec wsX5_glowOfFrames ({ frames := 2, cells := 0, slots := 0, locals := 46 })).room s m #[.int (nI L), .int (nI M), .int (nI q)] below meth c s.heap [] 0 0 (MQ below (vp_Si (fun r => r = nI (pSt L M q))) #[.int (nI L), .int (nI M), .int (nI q)] s 0 0 (noA)) (F0 m 53 ls []) := by
                  intro n_53
                  induction n_53 with
                  | zero =>
                    intro i hi9 hn9
                    exact absurd hn9 (by omega)
                  | succ n_53 ih_53 =>
                    intro i hi9 hn9 ls hl
                    refine lv_iload hx hb dX5_glowOfFrames_53 (lv_at hl 6 rfl) ?_
                    refine lv_iload_n hx hb dX5_glowOfFrames_55 rfl (lv_at hl 1 rfl) ?_
                    refine lv_icmp_ge (tgt := 73) hx hb dX5_glowOfFrames_56 (by decide) (fun c_56 => ?_) (fun c_56 => ?_)
                    · have hge : M ≤ i := nI_le' (by omega) (by omega) c_56
                      have hiM : i = M := by omega
                      rw [hiM] at hl
                      refine lv_iinc (v := nI (j + 1)) (lv' := [(5, .int (nI (j + 1))), (0, .int (nI L)), (1, .int (nI M)), (2, .int (nI q)), (3, .int (nI (yN L M q j))), (4, .int (nI (itN (dN q) M (yN L M q (j))))), (6, .int (nI M))]) hx hb dX5_glowOfFrames_73 hl (k := 5) rfl ((nI_succ j).symm) (by decide) rfl (fun ls hl => ?_)
                      refine lv_goto (tgt := 8) hx hb dX5_glowOfFrames_76 (by decide) ?_
                      exact ih_8 (j + 1) (itN (dN q) M (yN L M q j)) (nI (yN L M q j)) (by omega) (by omega) (Nat.le_trans (itD_le q M) (yN_le L M q j)) rfl (Or.inr ⟨Nat.succ_pos j, rfl⟩) hnf2 ls (lv_sub hl [1, 2, 3, 4, 5, 0] rfl)
                    · have hlt : i < M := nI_nle' (by omega) (by omega) c_56
                      refine lv_iload hx hb dX5_glowOfFrames_59 (lv_at hl 4 rfl) ?_
                      refine lv_iload_n hx hb dX5_glowOfFrames_61 rfl (lv_at hl 2 rfl) ?_
                      refine vp_callSi (va_runS (As := [.int (nI (itN (dN q) i (yN L M q (j)))), .int (nI q)]) (rest := []) ⟨hx, hb, hml, hown, hts⟩ (k_X5_glowUnlit l D ct (nI (itN (dN q) i (yN L M q j))) (nI q) (nI_lt hq hq2)) (va_cwS 2 hts gX5_glowOfFrames_X5_glowUnlit rfl rfl rfl (by decide +kernel) ⟨Nat.le_of_ble_eq_true rfl, Nat.le_of_ble_eq_true rfl⟩) ⟨roP.blind, roP.at pw_nil hK hN⟩ rfl rfl hl.1 rfl (lv_room (Nat.le_of_ble_eq_true rfl)) dX5_glowOfFrames_62 ⟨Nat.le_of_ble_eq_true rfl, Nat.le_of_ble_eq_true rfl⟩).run (fun r_62 h_62 => ?_)
                      obtain rfl : r_62 = (pDar (nI (itN (dN q) i (yN L M q j))) (nI q)) := h_62
                      refine lv_as (y := nI (itN (dN q) (i + 1) (yN L M q j))) (pDar_N (Nat.le_trans (itD_le q i) (yN_le L M q j)) hq hq2) ?_
                      refine lv_istore (lv' := [(4, .int (nI (itN (dN q) (i + 1) (yN L M q j)))), (0, .int (nI L)), (1, .int (nI M)), (2, .int (nI q)), (3, .int (nI (yN L M q j))), (5, .int (nI j)), (6, .int (nI i))]) hx hb dX5_glowOfFrames_65 hl (by decide) rfl (fun ls hl => ?_)
                      refine lv_iinc (v := nI (i + 1)) (lv' := [(6, .int (nI (i + 1))), (4, .int (nI (itN (dN q) (i + 1) (yN L M q j)))), (0, .int (nI L)), (1, .int (nI M)), (2, .int (nI q)), (3, .int (nI (yN L M q j))), (5, .int (nI j))]) hx hb dX5_glowOfFrames_67 hl (k := 6) rfl ((nI_succ i).symm) (by decide) rfl (fun ls hl => ?_)
                      refine lv_goto (tgt := 53) hx hb dX5_glowOfFrames_70 (by decide) ?_
                      exact ih_53 (i + 1) (by omega) (by omega) ls (lv_sub hl [2, 3, 4, 5, 1, 6, 0] rfl)
                exact loop_53 (M + 1) 0 (Nat.zero_le _) (by omega) ls (lv_sub hl [2, 3, 4, 1, 5, 6, 0] rfl)
              · have hfx : 0 < j ∧ yN L M q j = yN L M q (j - 1) := by
                  rcases hbb with ⟨h1, h2⟩ | ⟨h1, h2⟩
                  · rw [h2] at c_41; exact absurd c_41 (nI_m1 (by have := yN_le L M q j; omega))
                  · rw [h2] at c_41; exact ⟨h1, (nI_eq (by have := yN_le L M q j; omega) (by have := yN_le L M q (j - 1); omega)).mp c_41⟩
                refine lv_iload hx hb dX5_glowOfFrames_44 (lv_at hl 4 rfl) ?_
                exact W.iret (v := (nI (yN L M q (j)))) hx hb hr (fun tt ht hW => ⟨(nI (yN L M q (j))), rfl, by
                  obtain ⟨h1, h2⟩ := hfx
                  have h3 := pSt_of hq hL (k := j - 1) (fun i hi => hnf i (by omega)) (by rw [show j - 1 + 1 = j by omega]; exact h2)
                  rw [h2, h3], ht⟩) (fun q hq => absurd hq List.not_mem_nil) dX5_glowOfFrames_46
            · have hlt : i < L := nI_nle' (by omega) (by omega) c_22
              refine lv_iload hx hb dX5_glowOfFrames_25 (lv_at hl 4 rfl) ?_
              refine vp_callSi (va_runS (As := [.int (nI (itN bN i g0))]) (rest := []) ⟨hx, hb, hml, hown, hts⟩ (k_X5_glowLit l D ct (nI (itN bN i g0))) (va_cwS 1 hts gX5_glowOfFrames_X5_glowLit rfl rfl rfl (by decide +kernel) ⟨Nat.le_of_ble_eq_true rfl, Nat.le_of_ble_eq_true rfl⟩) ⟨roP.blind, roP.at pw_nil hK hN⟩ rfl rfl hl.1 rfl (lv_room (Nat.le_of_ble_eq_true rfl)) dX5_glowOfFrames_27 ⟨Nat.le_of_ble_eq_true rfl, Nat.le_of_ble_eq_true rfl⟩).run (fun r_27 h_27 => ?_)
              obtain rfl : r_27 = (pBri (nI (itN bN i g0))) := h_27
              refine lv_as (y := nI (itN bN (i + 1) g0)) (pBri_N (itB_le hg0 i)) ?_
              refine lv_istore (lv' := [(4, .int (nI (itN bN (i + 1) g0))), (0, .int (nI L)), (1, .int (nI M)), (2, .int (nI q)), (3, .int b), (5, .int (nI j)), (6, .int (nI i))]) hx hb dX5_glowOfFrames_30 hl (by decide) rfl (fun ls hl => ?_)
              refine lv_iinc (v := nI (i + 1)) (lv' := [(6, .int (nI (i + 1))), (4, .int (nI (itN bN (i + 1) g0))), (0, .int (nI L)), (1, .int (nI M)), (2, .int (nI q)), (3, .int b), (5, .int (nI j))]) hx hb dX5_glowOfFrames_32 hl (k := 6) rfl ((nI_succ i).symm) (by decide) rfl (fun ls hl => ?_)
              refine lv_goto (tgt := 19) hx hb dX5_glowOfFrames_35 (by decide) ?_
              exact ih_19 (i + 1) (by omega) (by omega) ls (lv_sub hl [2, 3, 4, 5, 1, 6, 0] rfl)
        exact loop_19 (L + 1) 0 (Nat.zero_le _) (by omega) ls (lv_sub hl [1, 2, 3, 4, 5, 6, 0] rfl)
  exact loop_8 (1003) 0 0 (-1) (by omega) (by omega) (by decide) rfl (Or.inl ⟨rfl, rfl⟩) (fun i hi => absurd hi (by omega)) ls (lv_sub hl [3, 4, 5, 2, 1, 0] rfl)
