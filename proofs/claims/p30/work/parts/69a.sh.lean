/-! texts, in the law -/
def aTx (A : AS) (T : Nat) (f : Nat → Int32) : AS := (aV A, aK A, aH A, aS A, aI A, T, f)
/-- what the parser holds behind the first T characters -/
def shR (f : Nat → Int32) (D T i : Nat) (t : Int32) (P : Nat → Int32) : Prop := ∀ f' : Nat → Int32, (∀ j, j < T → f' j = f j) → ∀ m, shO f' D (T + m) 0 0 0 (fun _ => 0) = shO f' D m T i t P
def dgC (g : Int32) (j : Nat) : Int32 := 48 + pLow (g >>> (nI j &&& 31)) 10
section SHR
variable {f P : Nat → Int32} {D T i c : Nat} {t x y : Int32} {A : AS} {b : Nat} {g : Int32}
theorem shR_0 : shR f D 0 0 0 (fun _ => 0) := fun f' _ m => by rw [Nat.zero_add]
theorem shR_c (h : shR f D T i t P) (h46 : ¬ x = 46) (hp : ¬ pPat x = -4) (hi : i < D) : shR (upd f T x) D (T + 1) (i + 1) 1 (upd P i (pPat x)) := by
  intro f' hf m
  have e := h f' (fun j hj => by rw [hf j (by omega)]; exact pk_un (by omega)) (m + 1)
  have ec : f' T = x := by rw [hf T (by omega)]; exact pk_us
  rw [show T + 1 + m = T + (m + 1) by omega, e, shO, ec, if_neg h46, if_neg hp, if_neg (show ¬ D ≤ i by omega)]
theorem shR_p (h : shR f D T i 1 P) : shR (upd f T 46) D (T + 1) i 0 (upd P (i - 1) (P (i - 1) ||| 128)) := by
  intro f' hf m
  have e := h f' (fun j hj => by rw [hf j (by omega)]; exact pk_un (by omega)) (m + 1)
  have ec : f' T = 46 := by rw [hf T (by omega)]; exact pk_us
  rw [show T + 1 + m = T + (m + 1) by omega, e, shO, ec, if_pos rfl, if_neg (by decide)]
theorem shR_cp (h : shR f D T i t P) (h46 : ¬ x = 46) (hp : ¬ pPat x = -4) (hi : i < D) : shR (upd (upd f T x) (T + 1) 46) D (T + 1 + 1) (i + 1) 0 (upd P i (pPat x + 128)) := by
  have h2 := shR_p (shR_c h h46 hp hi)
  have e : upd (upd P i (pPat x)) (i + 1 - 1) (upd P i (pPat x) (i + 1 - 1) ||| 128) = upd P i (pPat x + 128) := by
    rw [show i + 1 - 1 = i by omega, pk_us, pPat_or hp]
    funext j
    unfold upd
    by_cases q : j = i
    · rw [if_pos q, if_pos q]
    · rw [if_neg q, if_neg q, if_neg q]
  rw [e] at h2
  exact h2
theorem shR_end (h : shR f D T i t P) : shO f D T 0 0 0 (fun _ => 0) = (-4, i, P) := h f (fun _ _ => rfl) 0
theorem shR_bad (h : shR f D T i t P) (h46 : ¬ x = 46) (hc : pPat x = -4 ∨ D ≤ i) : shO (upd f T x) D (T + 1) 0 0 0 (fun _ => 0) = (nI T, i, P) := by
  have e := h (upd f T x) (fun j hj => pk_un (by omega)) 1
  rw [e, shO, pk_us, if_neg h46]
  by_cases q : pPat x = -4
  · rw [if_pos q]
  · rw [if_neg q, if_pos (hc.resolve_left q)]
theorem ok_tx (ok : LOk b A) (hT : T ≤ 30) : LOk b (aTx A T f) := ⟨⟨ok.1.1, ok.1.2.1, ok.1.2.2.1, ok.1.2.2.2.1, hT⟩, ok.2⟩
theorem q_cl : f_clearText A = (nI (aT A), aTx A 0 (aF A)) := rfl
theorem q_ty (h : T < 30) : f_type (aTx A T f) x = (nI (T + 1), aTx A (T + 1) (upd f T x)) := if_pos h
theorem q_sh (h : shO f (nOf (aV A)) T 0 0 0 (fun _ => 0) = (-4, i, P)) : f_show (aTx A T f) = (nI i, aRec (aTx A T f) (pPats (aV A) P (nOf (aV A)))) := by
  show (if (shO f (nOf (aV A)) T 0 0 0 (fun _ => 0)).1 = -4 then (nI (shO f (nOf (aV A)) T 0 0 0 (fun _ => 0)).2.1, aRec (aTx A T f) (pPats (aV A) (shO f (nOf (aV A)) T 0 0 0 (fun _ => 0)).2.2 (nOf (aV A)))) else (-100 - (shO f (nOf (aV A)) T 0 0 0 (fun _ => 0)).1, aTx A T f)) = _
  rw [h]
  exact if_pos rfl
theorem q_sh_bad {j : Nat} (h : shO f (nOf (aV A)) T 0 0 0 (fun _ => 0) = (nI j, i, P)) (hj : j < 2 ^ 31) : f_show (aTx A T f) = (-100 - nI j, aTx A T f) := by
  show (if (shO f (nOf (aV A)) T 0 0 0 (fun _ => 0)).1 = -4 then (nI (shO f (nOf (aV A)) T 0 0 0 (fun _ => 0)).2.1, aRec (aTx A T f) (pPats (aV A) (shO f (nOf (aV A)) T 0 0 0 (fun _ => 0)).2.2 (nOf (aV A)))) else (-100 - (shO f (nOf (aV A)) T 0 0 0 (fun _ => 0)).1, aTx A T f)) = _
  rw [h]
  exact if_neg (nI_4 hj)
theorem pPats_at (v : SV) (P : Nat → Int32) : ∀ k, k ≤ 8 → ∀ d, d < 8 → (pPats v P k).1 (4 + d) 0 = if d < k then P d else v.1 (4 + d) 0 := by
  intro k
  induction k with
  | zero => intro _ d _; rw [if_neg (by omega), pPats_z]
  | succ k ih =>
    intro hk d hd
    rw [← pPats_s, s2_at]
    by_cases q : d = k
    · subst q; rw [if_pos ⟨rfl, rfl⟩, if_pos (by omega)]
    · rw [if_neg (by omega), ih (by omega) d hd]
      by_cases z : d < k
      · rw [if_pos z, if_pos (show d < k + 1 by omega)]
      · rw [if_neg z, if_neg (show ¬ d < k + 1 by omega)]
theorem nar_c {q : Nat} (h : q < 65536) : vp_nar .char (nI q) = nI q := by
  unfold vp_nar
  rw [(pk_charN h).1]
theorem pat_46 : ∀ c, c < 10 → ¬ nI (48 + c) = 46 := by decide +kernel
theorem pat_4 : ∀ c, c < 10 → ¬ pPat (nI (48 + c)) = -4 := by decide +kernel
theorem pat_chr : ∀ c, c < 10 → pChr (pPat (nI (48 + c)) &&& 127) = nI (48 + c) ∧ pChr ((pPat (nI (48 + c)) + 128) &&& 127) = nI (48 + c) := by decide +kernel
theorem dig_pat {k : Nat} (hc : c < 10) (hk : k < 10) (h : nI c = nI k) : pPat (nI (48 + k)) = pPat (nI (48 + c)) := by rw [(nI_eq (by omega) (by omega)).mp h]
theorem dig_9 (hc : c < 10) (h0 : ¬ nI c = 0) (h1 : ¬ nI c = 1) (h2 : ¬ nI c = 2) (h3 : ¬ nI c = 3) (h4 : ¬ nI c = 4) (h5 : ¬ nI c = 5) (h6 : ¬ nI c = 6) (h7 : ¬ nI c = 7) (h8 : ¬ nI c = 8) : nI c = nI 9 := by
  match c, hc with
  | 0, _ => exact absurd rfl h0
  | 1, _ => exact absurd rfl h1
  | 2, _ => exact absurd rfl h2
  | 3, _ => exact absurd rfl h3
  | 4, _ => exact absurd rfl h4
  | 5, _ => exact absurd rfl h5
  | 6, _ => exact absurd rfl h6
  | 7, _ => exact absurd rfl h7
  | 8, _ => exact absurd rfl h8
  | 9, _ => rfl
theorem dgC_of (ec : pLow (g >>> (nI i &&& 31)) 10 = nI c) : dgC g i = nI (48 + c) := by
  unfold dgC
  rw [ec]
  exact nI_add 48 c
theorem dig_s {F : Nat → Int32} (h : ∀ j, j < i → pChr (P j &&& 127) = F j) (hx : pChr (x &&& 127) = F i) : ∀ j, j < i + 1 → pChr (upd P i x j &&& 127) = F j := by
  intro j hj
  by_cases q : j = i
  · subst q; rw [pk_us]; exact hx
  · rw [pk_un q]; exact h j (by omega)
theorem dz_s (h : ∀ j, i ≤ j → P j = 0) : ∀ j, i + 1 ≤ j → upd P i x j = 0 := fun j hj => by rw [pk_un (by omega)]; exact h j (by omega)
theorem chr_0 : pChr (0 &&& 127) = 32 := by decide +kernel
theorem sh_eq (x : Int32) : -100 - x = -99 - (x + 1) := by
  rw [Int32.sub_eq_add_neg, Int32.sub_eq_add_neg, Int32.neg_add, Int32.sub_eq_add_neg, ← Int32.add_assoc, Int32.add_comm (-99) (-x), Int32.add_assoc, Int32.add_comm (-100) (-x)]
  rfl
end SHR
theorem i2c_nI {n : Nat} (h : n < 65536) : ((nI n).toUInt32 % 65536).toInt32 = nI n := by
  apply Int32.toBitVec_inj.mp
  apply BitVec.eq_of_toNat_eq
  show ((nI n).toUInt32 % 65536).toNat = (nI n).toBitVec.toNat
  rw [UInt32.toNat_mod]
  show (nI n).toBitVec.toNat % 65536 = (nI n).toBitVec.toNat
  rw [pk_tn (by omega)]
  omega
