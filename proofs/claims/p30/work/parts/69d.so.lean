/-! the acts of the law, each with good arguments -/
section SO
variable {A : AS} {b N d k q y z : Nat} {v : SV} {x h : Int32}
theorem q_sD (h1 : 1 ≤ N) (h8 : N ≤ 8) : f_setDigits A (nI N) = (nI (nOf (aV A)), aRec A (pSD (aV A) N)) := by
  show (if pIn (nI N) 1 8 = 0 then ((-2 : Int32), A) else (nI (nOf (aV A)), aRec A (pSD (aV A) (cl (nI N))))) = _
  rw [if_neg (show ¬ pIn (nI N) 1 8 = 0 from pin1 (lo := 1) (hi := 8) h1 h8 (by decide)), cl_of (by omega) rfl]
theorem sD_n (h8 : N ≤ 8) : nOf (pSD v N) = N := by
  unfold pSD
  split
  · exact pCnt_n v (by omega)
  · have e : nOf (pEnd (pCnt v N)) = nOf (pCnt v N) := rfl
    rw [e]; exact pCnt_n v (by omega)
theorem sD_fr : (pSD v N).1 0 2 = v.1 0 2 + (if N = nOf v then 0 else 1) := by
  have e0 : (pCnt v N).1 0 2 = v.1 0 2 := by
    rw [show (pCnt v N).1 0 = upd ((pNews v (nOf v) (N - nOf v)).1 0) 0 (nI N) from sC_eq _ 0 _, show upd ((pNews v (nOf v) (N - nOf v)).1 0) 0 (nI N) 2 = (pNews v (nOf v) (N - nOf v)).1 0 2 from rfl, pNews_lo v _ (by decide)]
  unfold pSD
  by_cases q : nOf v = N
  · rw [if_pos q, if_pos q.symm, e0]; exact (Int32.add_zero _).symm
  · rw [if_neg q, if_neg (fun y => q y.symm), (pEnd_0 _).2.1, e0]
theorem sW_n : nOf (pSW v d x) = nOf v := by
  unfold pSW
  split
  · exact s2_n v (by omega) _ _
  · have e : nOf (pEnd (s2 v (4 + d) 1 x)) = nOf (s2 v (4 + d) 1 x) := rfl
    rw [e]; exact s2_n v (by omega) _ _
theorem i_sw (a w y z : Int32) : a - w + y + z = a + z - w + y := by
  rw [Int32.sub_eq_add_neg, Int32.sub_eq_add_neg]; ac_rfl
theorem i_sw0 (a w y : Int32) : a + y = a + w - w + y := by
  rw [Int32.add_sub_cancel]
theorem sW_beg : ∀ n, pBeg (s2 v (4 + d) 1 x) n = if d < n then pBeg v n - v.1 (4 + d) 1 + x else pBeg v n := by
  intro n
  induction n with
  | zero => rw [if_neg (by omega)]; rfl
  | succ n ih =>
    show pBeg (s2 v (4 + d) 1 x) n + (s2 v (4 + d) 1 x).1 (4 + n) 1 = (if d < n + 1 then pBeg v n + v.1 (4 + n) 1 - v.1 (4 + d) 1 + x else pBeg v n + v.1 (4 + n) 1)
    rw [ih, s2_at]
    by_cases z : n = d
    · subst z
      rw [if_neg (show ¬ n < n by omega), if_pos ⟨rfl, rfl⟩, if_pos (show n < n + 1 by omega)]
      exact i_sw0 _ _ _
    · rw [if_neg (show ¬ (4 + n = 4 + d ∧ 1 = 1) by omega)]
      by_cases z2 : d < n
      · rw [if_pos z2, if_pos (show d < n + 1 by omega)]; exact i_sw _ _ _ _
      · rw [if_neg z2, if_neg (show ¬ d < n + 1 by omega)]
theorem sW_len (hd : d < nOf v) : pLen (pSW v d x) = pLen v - v.1 (4 + d) 1 + x := by
  have e : pLen (pSW v d x) = pBeg (s2 v (4 + d) 1 x) (nOf v) := by
    unfold pLen
    rw [sW_n]
    unfold pSW
    split
    · rfl
    · exact pBeg_congr _ (fun d' _ => by rw [pEnd_at (by omega)])
  rw [e, sW_beg, if_pos hd]
  rfl
theorem sW_fr : (pSW v d x).1 0 2 = v.1 0 2 + (if x = v.1 (4 + d) 1 then 0 else 1) := by
  have e0 : (s2 v (4 + d) 1 x).1 0 2 = v.1 0 2 := by rw [s2_at, if_neg (by omega)]
  unfold pSW
  by_cases q : v.1 (4 + d) 1 = x
  · rw [if_pos q, if_pos q.symm, e0]; exact (Int32.add_zero _).symm
  · rw [if_neg q, if_neg (fun y => q y.symm), (pEnd_0 _).2.1, e0]
theorem sW_t (h : ¬ x = v.1 (4 + d) 1) : (pSW v d x).1 0 3 = 0 := by
  unfold pSW
  rw [if_neg (fun y => h y.symm)]
  exact (pEnd_0 _).2.2.1
theorem q_sW (ok : Inv (aV A)) (hd : d < nOf (aV A)) (h1 : 4 ≤ y) (h2 : y ≤ 40) : f_setWidth A (nI d) (nI y) = (pLen (pSW (aV A) d (nI y)), aRec A (pSW (aV A) d (nI y))) := by
  have h8 := ok.n8
  show (if vD (aV A) (nI d) then (if pIn (nI y) 4 40 = 0 then ((-2 : Int32), A) else (pLen (pSW (aV A) (cl (nI d)) (nI y)), aRec A (pSW (aV A) (cl (nI d)) (nI y)))) else (-1, A)) = _
  rw [if_pos (vD_of ok hd), if_neg (show ¬ pIn (nI y) 4 40 = 0 from pin1 (lo := 4) (hi := 40) h1 h2 (by decide)), cl_of (by omega) rfl]
theorem q_sG (ok : Inv (aV A)) (hd : d < nOf (aV A)) (h2 : y ≤ 3) : f_setGuard A (nI d) (nI y) = (pLP (s2 (aV A) (4 + d) 2 (nI y)) d, aRec A (s2 (aV A) (4 + d) 2 (nI y))) := by
  have h8 := ok.n8
  show (if vD (aV A) (nI d) then (if pIn (nI y) 0 3 = 0 then ((-2 : Int32), A) else (pLP (s2 (aV A) (4 + cl (nI d)) 2 (nI y)) (cl (nI d)), aRec A (s2 (aV A) (4 + cl (nI d)) 2 (nI y)))) else (-1, A)) = _
  rw [if_pos (vD_of ok hd), if_neg (show ¬ pIn (nI y) 0 3 = 0 from pin1 (lo := 0) (hi := 3) (by omega) h2 (by decide)), cl_of (by omega) rfl]
theorem q_sB (ok : Inv (aV A)) (hd : d < nOf (aV A)) (h2 : y ≤ 15) : f_setBrightness A (nI d) (nI y) = (pLP (s2 (aV A) (4 + d) 3 (nI y)) d, aRec A (s2 (aV A) (4 + d) 3 (nI y))) := by
  have h8 := ok.n8
  show (if vD (aV A) (nI d) then (if pIn (nI y) 0 15 = 0 then ((-2 : Int32), A) else (pLP (s2 (aV A) (4 + cl (nI d)) 3 (nI y)) (cl (nI d)), aRec A (s2 (aV A) (4 + cl (nI d)) 3 (nI y)))) else (-1, A)) = _
  rw [if_pos (vD_of ok hd), if_neg (show ¬ pIn (nI y) 0 15 = 0 from pin1 (lo := 0) (hi := 15) (by omega) h2 (by decide)), cl_of (by omega) rfl]
theorem q_sP (ok : Inv (aV A)) (hd : d < nOf (aV A)) (h2 : y ≤ 255) : f_setPattern A (nI d) (nI y) = ((aV A).1 (4 + d) 0, aRec A (s2 (aV A) (4 + d) 0 (nI y))) := by
  have h8 := ok.n8
  show (if vD (aV A) (nI d) then (if pIn (nI y) 0 255 = 0 then ((-2 : Int32), A) else ((aV A).1 (4 + cl (nI d)) 0, aRec A (s2 (aV A) (4 + cl (nI d)) 0 (nI y)))) else (-1, A)) = _
  rw [if_pos (vD_of ok hd), if_neg (show ¬ pIn (nI y) 0 255 = 0 from pin1 (lo := 0) (hi := 255) (by omega) h2 (by decide)), cl_of (by omega) rfl]
theorem q_sR (ok : Inv (aV A)) (hd : d < nOf (aV A)) (h2 : y ≤ 3) : f_setGroup A (nI d) (nI y) = ((aV A).1 (4 + d) 4, aRec A (s2 (aV A) (4 + d) 4 (nI y))) := by
  have h8 := ok.n8
  show (if vD (aV A) (nI d) then (if pIn (nI y) 0 3 = 0 then ((-1 : Int32), A) else ((aV A).1 (4 + cl (nI d)) 4, aRec A (s2 (aV A) (4 + cl (nI d)) 4 (nI y)))) else (-1, A)) = _
  rw [if_pos (vD_of ok hd), if_neg (show ¬ pIn (nI y) 0 3 = 0 from pin1 (lo := 0) (hi := 3) (by omega) h2 (by decide)), cl_of (by omega) rfl]
theorem q_rep (ok : Inv (aV A)) (hd : d < nOf (aV A)) : f_replace A (nI d) = (pBro ((aV A).1 (4 + d) 6) 8, aRec A (pRen (aV A) d)) := by
  have h8 := ok.n8
  show (if vD (aV A) (nI d) then (pBro ((aV A).1 (4 + cl (nI d)) 6) 8, aRec A (pRen (aV A) (cl (nI d)))) else (-1, A)) = _
  rw [if_pos (vD_of ok hd), cl_of (by omega) rfl]
theorem q_te (h2 : y ≤ 50) : f_test A (nI y) = ((aV A).1 0 4, aRec A (sC (aV A) 0 (upd ((aV A).1 0) 4 (nI y)))) :=
  if_neg (show ¬ pIn (nI y) 0 50 = 0 from pin1 (lo := 0) (hi := 50) (by omega) h2 (by decide))
theorem q_bl (h1 : 1 ≤ q) (h3 : q ≤ 3) (y1 : 1 ≤ y) (y5 : y ≤ 50) (z5 : z ≤ 50) : f_setBlink A (nI q) (nI y) (nI z) = (pDin (s2 (s2 (aV A) 1 q (nI y)) 2 q (nI z)) (nI q) (nOf (aV A)), aRec A (s2 (s2 (aV A) 1 q (nI y)) 2 q (nI z))) := by
  show (if pIn (nI q) 1 3 = 0 then ((-1 : Int32), A) else (if pIn (nI y) 1 50 = 0 ∨ pIn (nI z) 0 50 = 0 then (-2, A) else (pDin (s2 (s2 (aV A) 1 (cl (nI q)) (nI y)) 2 (cl (nI q)) (nI z)) (nI (cl (nI q))) (nOf (aV A)), aRec A (s2 (s2 (aV A) 1 (cl (nI q)) (nI y)) 2 (cl (nI q)) (nI z))))) = _
  rw [if_neg (show ¬ pIn (nI q) 1 3 = 0 from pin1 (lo := 1) (hi := 3) h1 h3 (by decide)), if_neg (fun w => w.elim (show ¬ pIn (nI y) 1 50 = 0 from pin1 (lo := 1) (hi := 50) y1 y5 (by decide)) (show ¬ pIn (nI z) 0 50 = 0 from pin1 (lo := 0) (hi := 50) (by omega) z5 (by decide))), cl_of (by omega) rfl]
def toV (h : Int32) (k : Nat) : Int32 := if k = 0 then 2 + pLow h 49 else if k = 1 then 1 + pLow h 1000 else 1 + pLow h 300
theorem toV_0 (h : Int32) (hk : k < 3) (c : nI k = 0) : 2 + pLow h 49 = toV h k := by
  have e := nI_z (by omega) c
  subst e; rfl
theorem toV_1 (h : Int32) (hk : k < 3) (c : nI k = 1) : 1 + pLow h 1000 = toV h k := by
  have e := (nI_eq (b := 1) (by omega) (by decide)).mp c
  subst e; rfl
theorem toV_2 (h : Int32) (hk : k < 3) (c0 : ¬ nI k = 0) (c1 : ¬ nI k = 1) : 1 + pLow h 300 = toV h k := by
  have e : k = 2 := by
    match k, hk with
    | 0, _ => exact absurd rfl c0
    | 1, _ => exact absurd rfl c1
    | 2, _ => rfl
  subst e; rfl
theorem toV_in (hk : k < 3) : ¬ pIn (toV h k) (setLo (nI k)) (setHi (nI k)) = 0 := by
  match k, hk with
  | 0, _ =>
    obtain ⟨j, hj, e⟩ := pLow_N h (n := 49) (by decide) (by decide)
    show ¬ pIn (2 + pLow h (nI 49)) 2 50 = 0
    rw [e, show (2 : Int32) + nI j = nI (2 + j) from nI_add 2 j]
    exact pin1 (lo := 2) (hi := 50) (by omega) (by omega) (by decide)
  | 1, _ =>
    obtain ⟨j, hj, e⟩ := pLow_N h (n := 1000) (by decide) (by decide)
    show ¬ pIn (1 + pLow h (nI 1000)) 1 1000 = 0
    rw [e, show (1 : Int32) + nI j = nI (1 + j) from nI_add 1 j]
    exact pin1 (lo := 1) (hi := 1000) (by omega) (by omega) (by decide)
  | 2, _ =>
    obtain ⟨j, hj, e⟩ := pLow_N h (n := 300) (by decide) (by decide)
    show ¬ pIn (1 + pLow h (nI 300)) 1 1000000 = 0
    rw [e, show (1 : Int32) + nI j = nI (1 + j) from nI_add 1 j]
    exact pin1 (lo := 1) (hi := 1000000) (by omega) (by omega) (by decide)
theorem q_set (hk : k < 3) (hx : ¬ pIn x (setLo (nI k)) (setHi (nI k)) = 0) : f_set A (nI k) x = ((aV A).1 3 k, aRec A (s2 (aV A) 3 k x)) := by
  show (if pIn (nI k) 0 2 = 0 then ((-1 : Int32), A) else (if pIn x (setLo (nI k)) (setHi (nI k)) = 0 then (-2, A) else ((aV A).1 3 (cl (nI k)), aRec A (s2 (aV A) 3 (cl (nI k)) x)))) = _
  rw [if_neg (show ¬ pIn (nI k) 0 2 = 0 from pin1 (lo := 0) (hi := 2) (by omega) (by omega) (by decide)), if_neg hx, cl_of (by omega) rfl]
theorem qc_s (hk : k < 3) : (f_count A (nI (9 + k))).1 = (aV A).1 3 k := match k, hk with | 0, _ => rfl | 1, _ => rfl | 2, _ => rfl
theorem pSum_z : ∀ n, pSum (fun _ => 0) n = 0 := by
  intro n
  induction n with
  | zero => rfl
  | succ n ih => show pSum (fun _ => 0) n + 0 = 0; rw [ih]; rfl
theorem ren_0 (hd : d < 8) : (pRen v d).1 (4 + d) 6 = 0 ∧ pSum ((pRen v d).1 (12 + d)) 8 = 0 := by
  obtain ⟨e1, -⟩ := pRen_tri (v := v) hd hd
  rw [if_pos rfl] at e1
  rw [e1, pRen_d v hd hd, s2_at, if_pos ⟨rfl, rfl⟩]
  exact ⟨rfl, pSum_z 8⟩
theorem ren_n : nOf (pRen v d) = nOf v := by unfold nOf; rw [pRen_lo v (by decide)]
end SO
