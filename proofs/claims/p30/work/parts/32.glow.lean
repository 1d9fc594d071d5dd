def bN (g : Nat) : Nat := min 1000 (g + max 1 ((1000 - g) / 4))
def dN (q g : Nat) : Nat := g - g / q - 1
def itN (f : Nat → Nat) : Nat → Nat → Nat
  | 0, g => g
  | k + 1, g => f (itN f k g)
def yN (L M q : Nat) : Nat → Nat
  | 0 => itN bN L 0
  | k + 1 => itN bN L (itN (dN q) M (yN L M q k))
theorem bN_le (g : Nat) : bN g ≤ 1000 := Nat.min_le_left _ _
theorem dN_le (q g : Nat) : dN q g ≤ g := Nat.le_trans (Nat.sub_le _ _) (Nat.sub_le _ _)
theorem bN_mono {a b : Nat} (h : a ≤ b) : bN a ≤ bN b := by unfold bN; omega
theorem dN_mono {q a b : Nat} (hq : 0 < q) (h : a ≤ b) : dN q a ≤ dN q b := by
  obtain ⟨m, rfl⟩ : ∃ m, b = a + m := ⟨b - a, by omega⟩
  unfold dN
  have h1 : (a + m) / q ≤ (a + q * m) / q := Nat.div_le_div_right (Nat.add_le_add_left (Nat.le_mul_of_pos_left m hq) a)
  rw [Nat.add_mul_div_left _ _ hq] at h1
  omega
theorem itN_mono {f : Nat → Nat} (hf : ∀ a b, a ≤ b → f a ≤ f b) {a b : Nat} (h : a ≤ b) : ∀ k, itN f k a ≤ itN f k b := by
  intro k
  induction k with
  | zero => exact h
  | succ k ih => exact hf _ _ ih
theorem itB_le {g : Nat} (h : g ≤ 1000) : ∀ k, itN bN k g ≤ 1000 := by
  intro k
  cases k with
  | zero => exact h
  | succ k => exact bN_le _
theorem itD_le (q : Nat) {g : Nat} : ∀ k, itN (dN q) k g ≤ g := by
  intro k
  induction k with
  | zero => exact Nat.le_refl g
  | succ k ih => exact Nat.le_trans (dN_le _ _) ih
theorem pBri_N {g : Nat} (h : g ≤ 1000) : pBri (nI g) = nI (bN g) := by
  unfold pBri pGain bN
  have e1 : (1000 - nI g) / 4 = nI ((1000 - g) / 4) := by
    rw [show (1000 : Int32) = nI 1000 from rfl, pk_sub h, show (4 : Int32) = nI 4 from rfl, pk_div (by omega) (by decide) (by decide)]
  rw [e1]
  by_cases h1 : 1 ≤ (1000 - g) / 4
  · have q1 : (1 : Int32) ≤ nI ((1000 - g) / 4) := by rw [show (1 : Int32) = nI 1 from rfl, nI_leI (by decide) (by omega)]; exact h1
    rw [if_pos q1, nI_add]
    by_cases h2 : g + (1000 - g) / 4 ≤ 1000
    · have q2 : nI (g + (1000 - g) / 4) ≤ 1000 := by rw [show (1000 : Int32) = nI 1000 from rfl, nI_leI (by omega) (by decide)]; exact h2
      rw [if_pos q2]
      congr 1
      omega
    · omega
  · have q1 : ¬ (1 : Int32) ≤ nI ((1000 - g) / 4) := by rw [show (1 : Int32) = nI 1 from rfl, nI_leI (by decide) (by omega)]; exact h1
    rw [if_neg q1, show (1 : Int32) = nI 1 from rfl, nI_add]
    by_cases h2 : g + 1 ≤ 1000
    · have q2 : nI (g + 1) ≤ 1000 := by rw [show (1000 : Int32) = nI 1000 from rfl, nI_leI (by omega) (by decide)]; exact h2
      rw [if_pos q2]
      congr 1
      omega
    · have q2 : ¬ nI (g + 1) ≤ 1000 := by rw [show (1000 : Int32) = nI 1000 from rfl, nI_leI (by omega) (by decide)]; exact h2
      rw [if_neg q2, show (1000 : Int32) = nI 1000 from rfl]
      congr 1
      omega
theorem pDar_N {g q : Nat} (h : g ≤ 1000) (h0 : 0 < q) (hq : q < 2 ^ 31) : pDar (nI g) (nI q) = nI (dN q g) := by
  unfold pDar dN
  have hd : g / q ≤ g := Nat.div_le_self g q
  rw [pk_div (by omega) h0 hq, pk_sub hd]
  generalize g / q = z at hd ⊢
  by_cases h1 : 1 ≤ g - z
  · rw [show (1 : Int32) = nI 1 from rfl, pk_sub h1]
    have q1 : (0 : Int32) ≤ nI (g - z - 1) := by rw [show (0 : Int32) = nI 0 from rfl, nI_leI (by decide) (by omega)]; exact Nat.zero_le _
    rw [if_pos q1]
  · rw [show g - z = 0 by omega, if_neg (by decide)]
    rfl
theorem yN_le (L M q : Nat) : ∀ k, yN L M q k ≤ 1000 := by
  intro k
  cases k with
  | zero => exact itB_le (by decide) L
  | succ k => exact itB_le (Nat.le_trans (itD_le q M) (yN_le L M q k)) L
theorem yN_up {L M q : Nat} (hq : 0 < q) : ∀ k, yN L M q k ≤ yN L M q (k + 1) := by
  intro k
  induction k with
  | zero => exact itN_mono (fun _ _ h => bN_mono h) (Nat.zero_le _) L
  | succ k ih => exact itN_mono (fun _ _ h => bN_mono h) (itN_mono (fun _ _ h => dN_mono hq h) ih M) L
theorem yN_1 {L M q : Nat} (hL : 0 < L) : ∀ k, 1 ≤ yN L M q k := by
  intro k
  obtain ⟨l, rfl⟩ : ∃ l, L = l + 1 := ⟨L - 1, by omega⟩
  have h : ∀ g, 1 ≤ bN g := fun g => by unfold bN; omega
  cases k with
  | zero => exact h _
  | succ k => exact h _
theorem yN_big {L M q : Nat} (hq : 0 < q) (hL : 0 < L) {k : Nat} (h : ∀ j, j < k → ¬ yN L M q (j + 1) = yN L M q j) : k + 1 ≤ yN L M q k := by
  induction k with
  | zero => exact yN_1 hL 0
  | succ k ih =>
    have h1 := ih (fun j hj => h j (by omega))
    have h2 := yN_up (L := L) (M := M) hq k
    have h3 := h k (by omega)
    omega
theorem yN_st {L M q k : Nat} (h : yN L M q (k + 1) = yN L M q k) : ∀ m, yN L M q (k + m) = yN L M q k := by
  intro m
  induction m with
  | zero => rfl
  | succ m ih =>
    show itN bN L (itN (dN q) M (yN L M q (k + m))) = _
    rw [ih]
    exact h
/-- the answer -/
def pSt (L M q : Nat) : Nat := yN L M q 1000
theorem pSt_of {L M q k : Nat} (hq : 0 < q) (hL : 0 < L) (h : ∀ j, j < k → ¬ yN L M q (j + 1) = yN L M q j) (e : yN L M q (k + 1) = yN L M q k) : yN L M q k = pSt L M q := by
  have h1 := yN_big hq hL h
  have h2 := yN_le L M q k
  have h3 := yN_st e (1000 - k)
  rw [show k + (1000 - k) = 1000 by omega] at h3
  exact h3.symm
theorem nfix {L M q k : Nat} (hq : 0 < q) (hL : 0 < L) (h : ∀ j, j < k → ¬ yN L M q (j + 1) = yN L M q j) (hk : 1000 ≤ k) : False := by
  have h1 := yN_big hq hL h
  have h2 := yN_le L M q k
  omega
theorem nI_m1 {i : Nat} (h : i < 2 ^ 31) : ¬ nI i = -1 := fun z => nI_pos h (by rw [z]; decide)
