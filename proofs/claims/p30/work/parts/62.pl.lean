/-! pure facts for the law's methods -/
theorem ite01 {P : Prop} [Decidable P] (h : (if P then (1 : Int32) else 0) = 0) : ¬ P := fun z => by rw [if_pos z] at h; exact absurd h (by decide)
theorem ite11 {P : Prop} [Decidable P] (h : ¬ (if P then (1 : Int32) else 0) = 0) : P := Decidable.byContradiction (fun z => h (if_neg z))
theorem ite1 {P : Prop} [Decidable P] (h : (if P then (1 : Int32) else 0) = 1) : P := Decidable.byContradiction (fun z => by rw [if_neg z] at h; exact absurd h (by decide))
theorem rg_le {x : Int32} {lo hi h : Nat} (hx : rg x lo hi) (hh : hi < 2 ^ 31) (e : hi ≤ h := by omega) (h2 : h < 2 ^ 31 := by decide) : ¬ nI h < x := by
  obtain ⟨k, k1, k2, rfl⟩ := hx
  exact nI_nlt (by omega) (by omega)
theorem nI_z {g : Nat} (hg : g < 2 ^ 31) (h : nI g = 0) : g = 0 := by
  rcases Nat.eq_zero_or_pos g with z | z
  · exact z
  · exact absurd h (nI_ne0 z hg)
section PL
variable {v : SV} {b d k : Nat}
theorem xu_nn (h : XI b v) (hd : d < nOf v) (hk : k < 8) (hb : b < 2 ^ 20) : ¬ v.1 (20 + d) k < 0 := by
  obtain ⟨-, D, h1, h2, h3⟩ := h.1 d hd
  obtain ⟨u, u1, u2, u3⟩ := h3 k hk
  rw [u2]; exact nI_pos (by omega)
theorem xu_n0 (h : XI b v) (hd : d < nOf v) (hk : k < 8) (e : bit (v.1 (4 + d) 6) k = 1) (hb : b < 2 ^ 20) : ¬ v.1 (20 + d) k = 0 := by
  obtain ⟨-, D, h1, h2, h3⟩ := h.1 d hd
  obtain ⟨u, u1, u2, u3⟩ := h3 k hk
  rw [u2]; exact nI_ne0 (by have := u3 e; omega) (by omega)
theorem xu_le (h : XI b v) (hd : d < nOf v) (hk : k < 8) (hb : b < 2 ^ 20) : v.1 (20 + d) k ≤ v.1 (4 + d) 5 := by
  obtain ⟨-, D, h1, h2, h3⟩ := h.1 d hd
  obtain ⟨u, u1, u2, u3⟩ := h3 k hk
  rw [u2, h2]; exact nI_le u1 (by omega)
theorem xd_sum (h : XI b v) (hd : d < nOf v) (hb : b < 2 ^ 20) : nI (pDrN v d) + v.1 (4 + d) 5 = nI (pDrN v (d + 1)) := by
  obtain ⟨-, D, h1, h2, h3⟩ := h.1 d hd
  show _ = nI (pDrN v d + cl (v.1 (4 + d) 5))
  rw [h2, cl_of (show D < 2 ^ 31 by omega) rfl, nI_add]
theorem xe_sum (h : XI b v) (hb : b < 2 ^ 20) : ¬ v.1 0 5 < nI (pDrN v (nOf v)) := by
  obtain ⟨-, ⟨T, E, h1, h2, h3, h4, h5⟩, -⟩ := h
  rw [h2]; exact nI_nlt h5 (by omega)
theorem xe_time (h : XI b v) (hb : b < 2 ^ 20) : ¬ v.1 0 1 < v.1 0 5 := by
  obtain ⟨-, ⟨T, E, h1, h2, h3, h4, h5⟩, -⟩ := h
  rw [h1, h2]; exact nI_nlt h3 (by omega)
/-- the slots, in whole numbers -/
theorem slots_N (ok : Inv v) : ∃ (t : Nat) (B : Nat → Nat), v.1 0 3 = nI t ∧ (∀ k, k ≤ nOf v → pBeg v k = nI (B k)) ∧ B 0 = 0 ∧ (∀ k, k < nOf v → ∃ w, v.1 (4 + k) 1 = nI w ∧ 4 ≤ w ∧ w ≤ 40 ∧ B (k + 1) = B k + w) ∧ (∀ k, k ≤ nOf v → B k ≤ 320) ∧ t < B (nOf v) := by
  have h8 := ok.n8
  obtain ⟨t, L, e1, e2, h1, h2⟩ := ok.2.2.2.2.2.1
  have hb : ∀ k, k ≤ nOf v → ∃ L, pBeg v k = nI L ∧ 4 * k ≤ L ∧ L ≤ 40 * k := fun k hk => by
    obtain ⟨L, a, b, c, -⟩ := pBeg_rg (v := v) k (by omega) (fun d hd => (ok.dg (by omega)).1)
    exact ⟨L, a, b, c⟩
  refine ⟨t, fun k => (pBeg v k).toNatClampNeg, e1, fun k hk => ?_, ?_, fun k hk => ?_, fun k hk => ?_, ?_⟩
  · obtain ⟨L, a, b, c⟩ := hb k hk
    show pBeg v k = nI (pBeg v k).toNatClampNeg
    rw [a, nI_clamp (by omega)]
  · rfl
  · obtain ⟨w, w1, w2, ew⟩ := (ok.dg hk).1
    obtain ⟨L, a, b, c⟩ := hb k (by omega)
    refine ⟨w, ew, w1, w2, ?_⟩
    show (pBeg v k + v.1 (4 + k) 1).toNatClampNeg = (pBeg v k).toNatClampNeg + w
    rw [a, ew, nI_add, nI_clamp (by omega), nI_clamp (by omega)]
  · obtain ⟨L, a, b, c⟩ := hb k hk
    show (pBeg v k).toNatClampNeg ≤ 320
    rw [a, nI_clamp (by omega)]; omega
  · show t < (pBeg v (nOf v)).toNatClampNeg
    have e3 : pBeg v (nOf v) = nI L := e2
    rw [e3, nI_clamp (by omega)]; exact h1
theorem B_mono {n : Nat} {B : Nat → Nat} (h : ∀ k, k < n → ∃ w : Nat, 4 ≤ w ∧ B (k + 1) = B k + w) : ∀ {i j : Nat}, i ≤ j → j ≤ n → B i ≤ B j := by
  intro i j hij
  induction hij with
  | refl => intro _; exact Nat.le_refl _
  | step hm ih =>
    intro hj
    obtain ⟨w, w1, w2⟩ := h _ (show _ < n by exact hj)
    have := ih (by omega)
    rw [w2]; omega
/-- the slot of the next tick -/
theorem slot_N (ok : Inv v) {t : Nat} {B : Nat → Nat} (e1 : v.1 0 3 = nI t) (eB : ∀ k, k ≤ nOf v → pBeg v k = nI (B k)) (B0 : B 0 = 0) (hw : ∀ k, k < nOf v → ∃ w, v.1 (4 + k) 1 = nI w ∧ 4 ≤ w ∧ w ≤ 40 ∧ B (k + 1) = B k + w) (h320 : ∀ k, k ≤ nOf v → B k ≤ 320) (ht : t < B (nOf v)) : B (pSlot v) ≤ t ∧ t < B (pSlot v + 1) := by
  have h8 := ok.n8
  have t320 := h320 _ (Nat.le_refl _)
  have key : ∀ k i, k = nOf v - i → i < nOf v → B i ≤ t → B (pSlotF v (8 - i) i) ≤ t ∧ t < B (pSlotF v (8 - i) i + 1) := by
    intro k
    induction k with
    | zero => intro i h2 h3; omega
    | succ k ih =>
      intro i h2 h3 h4
      have ei := eB (i + 1) (by omega)
      by_cases q : v.1 0 3 < pBeg v (i + 1)
      · rw [pSlot_exit (by omega) q]
        rw [e1, ei] at q
        exact ⟨h4, nI_lt' (by omega) (by have := h320 (i + 1) (by omega); omega) q⟩
      · rw [pSlot_next (by omega) q]
        rw [e1, ei] at q
        have h5 := nI_nlt' (by omega) (by have := h320 (i + 1) (by omega); omega) q
        by_cases z : i + 1 < nOf v
        · exact ih (i + 1) (by omega) z h5
        · rw [show i + 1 = nOf v by omega] at h5; omega
  exact key (nOf v) 0 (by omega) (by have := ok.n1; omega) (by rw [B0]; exact Nat.zero_le t)
theorem slot_at (ok : Inv v) (hd : d < nOf v) : ∃ (t B w : Nat), v.1 0 3 = nI t ∧ pBeg v d = nI B ∧ v.1 (4 + d) 1 = nI w ∧ t < 320 ∧ B ≤ 320 ∧ w ≤ 40 ∧ (B ≤ t ↔ d ≤ pSlot v) ∧ (pSlot v = d ↔ B ≤ t ∧ t < B + w) := by
  obtain ⟨t, B, e1, eB, B0, hw, h320, ht⟩ := slots_N ok
  obtain ⟨s1, s2⟩ := slot_N ok e1 eB B0 hw h320 ht
  obtain ⟨w, ew, w1, w2, w3⟩ := hw d hd
  have hs := ok.slot
  have hm : ∀ k, k < nOf v → ∃ w : Nat, 4 ≤ w ∧ B (k + 1) = B k + w := fun k hk => by
    obtain ⟨w, -, a, -, c⟩ := hw k hk
    exact ⟨w, a, c⟩
  have h1 : B d ≤ t ↔ d ≤ pSlot v := by
    constructor
    · intro z
      rcases Nat.lt_or_ge (pSlot v) d with y | y
      · have := B_mono hm (show pSlot v + 1 ≤ d from y) (by omega); omega
      · exact y
    · intro z
      have := B_mono hm z (by omega); omega
  have t320 := h320 _ (Nat.le_refl _)
  refine ⟨t, B d, w, e1, eB d (by omega), ew, by omega, h320 d (by omega), w2, h1, ?_⟩
  constructor
  · intro z; rw [z] at s1 s2; exact ⟨s1, by omega⟩
  · rintro ⟨z1, z2⟩
    have a := h1.mp z1
    rcases Nat.lt_or_ge d (pSlot v) with y | y
    · have := B_mono hm (show d + 1 ≤ pSlot v from y) (by omega); omega
    · omega
theorem slot_iff (ok : Inv v) (hd : d < nOf v) : pSlot v = d ↔ ¬ v.1 0 3 - pBeg v d < 0 ∧ ¬ v.1 (4 + d) 1 ≤ v.1 0 3 - pBeg v d := by
  obtain ⟨t, B, w, e1, e2, e3, t1, t2, t3, -, h⟩ := slot_at ok hd
  rw [h, e1, e2, e3]
  constructor
  · rintro ⟨a, c⟩
    rw [pk_sub a]
    exact ⟨nI_pos (by omega), nI_ge (by omega) (by omega)⟩
  · rintro ⟨a, c⟩
    rcases Nat.lt_or_ge t B with z | z
    · exact absurd (pk_sneg (by omega) z) a
    · rw [pk_sub z] at c
      have := nI_nle' (by omega) (by omega) c
      exact ⟨z, by omega⟩
def pNow (v : SV) (d : Nat) : Int32 := if d = 0 then -1 else nI (min (d - 1) (pSlot v))
theorem now_lt (ok : Inv v) (hd : d < nOf v) (c : v.1 0 3 < pBeg v d) : pNow v d = pNow v (d + 1) := by
  obtain ⟨t, B, w, e1, e2, -, t1, t2, -, h, -⟩ := slot_at ok hd
  rw [e1, e2] at c
  have := nI_lt' (by omega) (by omega) c
  have h2 : ¬ d ≤ pSlot v := fun z => by have := h.mpr z; omega
  unfold pNow
  rw [if_neg (by omega), if_neg (by omega)]
  congr 1
  omega
theorem now_ge (ok : Inv v) (hd : d < nOf v) (c : ¬ v.1 0 3 < pBeg v d) : nI d = pNow v (d + 1) := by
  obtain ⟨t, B, w, e1, e2, -, t1, t2, -, h, -⟩ := slot_at ok hd
  rw [e1, e2] at c
  have := h.mp (nI_nlt' (by omega) (by omega) c)
  unfold pNow
  rw [if_neg (by omega)]
  congr 1
  omega
theorem now_end (ok : Inv v) : nI (pSlot v) = pNow v (nOf v) := by
  have := ok.slot
  unfold pNow
  rw [if_neg (by omega)]
  congr 1
  omega
def pAllG (v : SV) : Nat → Int32
  | 0 => 0
  | g + 1 => pAllG v g + pDin v (nI g) (nOf v)
theorem pAllG_4 (ok : Inv v) : pAllG v 4 = nI (nOf v) := by
  have key : ∀ n, n ≤ nOf v → ((0 + pDin v (nI 0) n) + pDin v (nI 1) n + pDin v (nI 2) n) + pDin v (nI 3) n = nI n ∧ ∃ a b c d, pDin v (nI 0) n = nI a ∧ pDin v (nI 1) n = nI b ∧ pDin v (nI 2) n = nI c ∧ pDin v (nI 3) n = nI d ∧ a + b + c + d = n := by
    intro n
    induction n with
    | zero => intro _; exact ⟨rfl, 0, 0, 0, 0, rfl, rfl, rfl, rfl, rfl⟩
    | succ n ih =>
      intro hn
      obtain ⟨-, a, b, c, d, e0, e1, e2, e3, e4⟩ := ih (by omega)
      obtain ⟨g, hg, eg⟩ := ok.gr (show n < nOf v by omega)
      have st : ∀ i, pDin v (nI i) (n + 1) = pDin v (nI i) n + (if v.1 (4 + n) 4 = nI i then 1 else 0) := fun _ => rfl
      have key2 : ∃ a b c d, pDin v (nI 0) (n + 1) = nI a ∧ pDin v (nI 1) (n + 1) = nI b ∧ pDin v (nI 2) (n + 1) = nI c ∧ pDin v (nI 3) (n + 1) = nI d ∧ a + b + c + d = n + 1 := by
        rw [st, st, st, st, e0, e1, e2, e3, eg]
        have hz : ∀ x : Nat, nI x + 0 = nI x := fun x => Int32.add_zero _
        match g, hg with
        | 0, _ => exact ⟨a + 1, b, c, d, nI_1 a, hz b, hz c, hz d, by omega⟩
        | 1, _ => exact ⟨a, b + 1, c, d, hz a, nI_1 b, hz c, hz d, by omega⟩
        | 2, _ => exact ⟨a, b, c + 1, d, hz a, hz b, nI_1 c, hz d, by omega⟩
        | 3, _ => exact ⟨a, b, c, d + 1, hz a, hz b, hz c, nI_1 d, by omega⟩
      refine ⟨?_, key2⟩
      obtain ⟨a', b', c', d', f0, f1, f2, f3, f4⟩ := key2
      rw [f0, f1, f2, f3, show (0 : Int32) = nI 0 from rfl, nI_add, nI_add, nI_add, nI_add, ← f4]
      congr 1
      omega
  exact (key (nOf v) (Nat.le_refl _)).1
theorem gr_cl (ok : Inv v) (hd : d < nOf v) : gOf v d < 4 ∧ v.1 (4 + d) 4 = nI (gOf v d) := by
  obtain ⟨g, hg, eg⟩ := ok.gr hd
  have e : gOf v d = g := by unfold gOf; rw [eg]; exact nI_clamp (by omega)
  rw [e]
  exact ⟨hg, eg⟩
end PL
theorem qg_bad {A : AS} : (f_group A 4 0).1 = -1 := by
  show (if pIn 4 0 3 = 0 then (-1 : Int32) else pGrp (aV A) (cl 4) 0) = -1
  exact if_pos (by decide)
