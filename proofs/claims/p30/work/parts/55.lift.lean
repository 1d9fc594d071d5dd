theorem lf_cq {l : Launch} {y : MethodName} {ws : List Cond} {rm : Room} {Pc Pc' : Array Value → State → Prop} {Qc Qc' : Array Value → State → Outcome → State → Prop} {mc ms : Nat} {free free' : Addr → Prop} (h : Met l y ws rm Pc Qc mc ms free) (hP : ∀ a U, Pc' a U → Pc a U)
    (hQ : ∀ a st o t, Pc' a st → Qc a st o t → Qc' a st o t) (hf : ∀ q, free q → free' q) : Met l y ws rm Pc' Qc' mc ms free' := by
  intro p e ha hc hk s m args below hfr happ hPc hK
  obtain ⟨n, o, h1, h2, h3, h4, L, h5, h6⟩ := h p e ha hc hk s m args below hfr happ (hP _ _ hPc) hK
  exact ⟨n, o, h1, h2, h3, hQ _ _ _ _ hPc h4, L, h5, fun q hq => hf _ (h6 q hq)⟩
/-- the answer, and a world that holds the value behind the call -/
def mxQ (D : va_G) (ct : Nat → ClassId) (W : va_W) (sz : Nat) (F : Int32 × AS) (X : AS → va_W → Prop) : Array Value → State → Outcome → State → Prop := va_Qi (S := va_W) (fun r u => r = F.1 ∧ X F.2 u) (fun u t => muE D ct W u sz t) (va_A W sz)
section LF
variable {l : Launch} {D : va_G} {ct : Nat → ClassId} {y : MethodName} {ws : List Cond} {rm : Room} {W W' : va_W} {av : List Value} {sz : Nat} {x : Int32} {F : Int32 × AS} {X : AS → va_W → Prop}
theorem muPS.mu {a : Array Value} {U : State} (h : muPS D ct W sz av a U) : muP D ct W sz av a U := ⟨h.1, h.2.2⟩
theorem muP.ro {a : Array Value} {U : State} (h : muP D ct W sz av a U) : roP D ct W av a U := ⟨h.1, h.2.2.1, h.2.2.2.1, h.2.2.2.2.1⟩
theorem muPS.ros {a : Array Value} {U : State} (h : muPS D ct W sz av a U) : roPS D ct W av a U := ⟨h.1, h.2.1.narrow (fun _ z => z.elim), h.2.2.2.1, h.2.2.2.2.1, h.2.2.2.2.2.1⟩
theorem mxQ.ro {a : Array Value} {st : State} {o : Outcome} {t : State} (q : muP D ct W sz av a st) (h : vp_Si (fun r => r = x) a st o t) (e : F.1 = x) (hX : X F.2 W) : mxQ D ct W sz F X a st o t := by
  obtain ⟨r, h1, h2, h3⟩ := h
  refine ⟨⟨r, W, h1, ⟨h2.trans e.symm, hX⟩, ⟨by rw [h3]; exact q.2.2.1, q.2.2.2.2.2.self⟩⟩, ⟨by rw [h3]; exact Nat.le_refl _, fun _ _ _ => by rw [h3]⟩⟩
theorem mxQ.mu {a : Array Value} {st : State} {o : Outcome} {t : State} (h : muI D ct W W' sz (fun r => r = x) a st o t) (e : F.1 = x) (hX : X F.2 W') : mxQ D ct W sz F X a st o t := by
  obtain ⟨⟨r, u, h1, h2, h3⟩, hF⟩ := h
  exact ⟨⟨r, W', h1, ⟨h2.trans e.symm, hX⟩, h3⟩, hF⟩
theorem lf_ro (h : Met l y ws rm (roP D ct W av) (vp_Si (fun r => r = x)) 0 0 noA) (e : F.1 = x) (hX : X F.2 W) : Met l y ws rm (muPS D ct W sz av) (mxQ D ct W sz F X) 0 0 (va_A W sz) :=
  lf_cq h (fun _ _ q => q.mu.ro) (fun _ _ _ _ q z => mxQ.ro q.mu z e hX) (fun _ z => z.elim)
theorem lf_ros (h : Met l y ws rm (roPS D ct W av) (vp_Si (fun r => r = x)) 0 0 noA) (e : F.1 = x) (hX : X F.2 W) : Met l y ws rm (muPS D ct W sz av) (mxQ D ct W sz F X) 0 0 (va_A W sz) :=
  lf_cq h (fun _ _ q => q.ros) (fun _ _ _ _ q z => mxQ.ro q.mu z e hX) (fun _ z => z.elim)
theorem lf_mu (h : Met l y ws rm (muP D ct W sz av) (muI D ct W W' sz (fun r => r = x)) 0 0 (va_A W sz)) (e : F.1 = x) (hX : X F.2 W') : Met l y ws rm (muPS D ct W sz av) (mxQ D ct W sz F X) 0 0 (va_A W sz) :=
  lf_cq h (fun _ _ q => q.mu) (fun _ _ _ _ _ z => mxQ.mu z e hX) (fun _ z => z)
theorem lf_mus (h : Met l y ws rm (muPS D ct W sz av) (muI D ct W W' sz (fun r => r = x)) 0 0 (va_A W sz)) (e : F.1 = x) (hX : X F.2 W') : Met l y ws rm (muPS D ct W sz av) (mxQ D ct W sz F X) 0 0 (va_A W sz) :=
  lf_cq h (fun _ _ q => q) (fun _ _ _ _ _ z => mxQ.mu z e hX) (fun _ z => z)
end LF
/-- the class's world holds the value -/
def CX (ct : Nat → ClassId) (o : Nat → Nat) (ad : Nat → Nat → Nat) (A : AS) (W : va_W) : Prop := ∃ (z : SV) (w : Nat → SV) (n : Nat) (nd : Int32) (g : Nat → Int32),
  W = stW ct (ad 8) (aV A) ++ xR ct o ad z w (nI n) (nI (aK A)) (aS A 0) (aS A 1) (aI A 0) (aI A 1) (nI (aT A)) nd (aF A) g ∧ n < 5 ∧ (∀ i, i < aK A → aH A i = w ((n + 5 - aK A + i) % 5))
/-- the model's world holds the value -/
def MX (ct : Nat → ClassId) (a : Nat → Nat) (A : AS) (W : va_W) : Prop := ∃ (u : SV) (rd : Nat → Int32),
  W = mG ct a (nI (aK A)) (nI (aT A)) (rowOf (aV A)) (aV A).2 (rowOf u) u.2 (hisI (aH A)) (hisF (aH A)) (hisI (aS A)) (hisF (aS A)) (aI A) (aF A) rd
section CXM
variable {ct : Nat → ClassId} {o : Nat → Nat} {ad : Nat → Nat → Nat} {A : AS} {z v v' s0 s1 : SV} {i0 i1 : Int32} {w : Nat → SV} {n k t : Nat} {nd : Int32} {f g : Nat → Int32}
theorem hist_push {h : Nat → SV} (hn : n < 5) (hk : k ≤ 5) (hh : ∀ i, i < k → h i = w ((n + 5 - k + i) % 5)) : ∀ i, i < kPush k → hPush h k v i = va_up w n v ((nxt n + 5 - kPush k + i) % 5) := by
  intro i hi
  rw [hPush_at]
  unfold kPush at hi ⊢
  have hx : nxt n = (n + 1) % 5 := by unfold nxt; split <;> omega
  rw [hx]
  unfold va_up
  by_cases q : k = 5
  · rw [if_pos q] at hi
    rw [if_pos q, if_pos q]
    by_cases c : i = 4
    · rw [if_pos c, if_pos (by omega)]
    · rw [if_neg c, if_pos (by omega), if_neg (by omega), hh _ (by omega)]
      congr 1
      omega
  · rw [if_neg q] at hi
    rw [if_neg q, if_neg q]
    by_cases c : i = k
    · rw [if_pos c, if_pos (by omega)]
    · rw [if_neg c, if_neg (by omega), hh _ (by omega)]
      congr 1
      omega
theorem cx_rec (hn : n < 5) (hk : aK A ≤ 5) (hh : ∀ i, i < aK A → aH A i = w ((n + 5 - aK A + i) % 5)) : CX ct o ad (aRec A v') (stW ct (ad 8) v' ++ xR ct o ad z (va_up w n (aV A)) (nI (nxt n)) (nI (kPush (aK A))) (aS A 0) (aS A 1) (aI A 0) (aI A 1) (nI (aT A)) nd (aF A) g) :=
  ⟨z, va_up w n (aV A), nxt n, nd, g, rfl, nxt_lt hn, hist_push hn hk hh⟩
theorem cx_same (hn : n < 5) (hh : ∀ i, i < aK A → aH A i = w ((n + 5 - aK A + i) % 5)) : CX ct o ad A (stW ct (ad 8) (aV A) ++ xR ct o ad z w (nI n) (nI (aK A)) (aS A 0) (aS A 1) (aI A 0) (aI A 1) (nI (aT A)) nd (aF A) g) :=
  ⟨z, w, n, nd, g, rfl, hn, hh⟩
theorem cx_mk (hn : n < 5) (hh : ∀ i, i < aK A → aH A i = w ((n + 5 - aK A + i) % 5)) (ev : v = aV A) (ek : k = aK A) (e0 : s0 = aS A 0) (e1 : s1 = aS A 1) (e2 : i0 = aI A 0) (e3 : i1 = aI A 1) (et : t = aT A) (ef : f = aF A) : CX ct o ad A (stW ct (ad 8) v ++ xR ct o ad z w (nI n) (nI k) s0 s1 i0 i1 (nI t) nd f g) := by
  subst ev; subst ek; subst e0; subst e1; subst e2; subst e3; subst et; subst ef
  exact cx_same hn hh
variable {a : Nat → Nat} {u : SV} {rd : Nat → Int32}
end CXM
