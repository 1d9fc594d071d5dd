theorem pw_iff {D : va_G} {cl : List vw_C} {ws : va_W} {H : Heap} : va_P D cl ws H ↔ ∀ q ∈ ws, va_at D cl q H := by
  constructor
  · intro h q hq
    obtain ⟨k, hk⟩ := List.getElem?_of_mem hq
    exact h k q hk
  · intro h k q hk
    exact h q (List.mem_of_getElem? hk)
theorem pw_perm {D : va_G} {cl : List vw_C} {ws ws' : va_W} {H : Heap} (p : ws.Perm ws') (h : va_P D cl ws H) : va_P D cl ws' H :=
  pw_iff.mpr (fun q hq => pw_iff.mp h q (p.mem_iff.mpr hq))
theorem pw_left {D : va_G} {cl : List vw_C} {a b : va_W} {H : Heap} (h : va_P D cl (a ++ b) H) : va_P D cl a H :=
  pw_iff.mpr (fun q hq => pw_iff.mp h q (List.mem_append_left _ hq))
theorem pw_right {D : va_G} {cl : List vw_C} {a b : va_W} {H : Heap} (h : va_P D cl (a ++ b) H) : va_P D cl b H :=
  pw_iff.mpr (fun q hq => pw_iff.mp h q (List.mem_append_right _ hq))
theorem pw_cut {D : va_G} {cl : List vw_C} {ws wc wr : va_W} {H : Heap} (p : ws.Perm (wc ++ wr)) (h : va_P D cl ws H) : va_P D cl wc H := pw_left (pw_perm p h)
theorem dw_iff {A : Nat → Prop} {ws : va_W} : va_D A ws ↔ (ws.map Prod.fst).Nodup ∧ ∀ q ∈ ws, A q.1 := by
  constructor
  · rintro ⟨h1, h2⟩
    refine ⟨?_, fun q hq => ?_⟩
    · rw [List.nodup_iff_pairwise_ne, List.pairwise_iff_getElem]
      intro i j hi hj hij he
      rw [List.length_map] at hi hj
      rw [List.getElem_map, List.getElem_map] at he
      have := h1 i j ws[i] ws[j] (List.getElem?_eq_getElem hi) (List.getElem?_eq_getElem hj) he
      omega
    · obtain ⟨k, hk⟩ := List.getElem?_of_mem hq
      exact h2 k q hk
  · rintro ⟨h1, h2⟩
    refine ⟨fun i j p q hi hj hpq => ?_, fun k q hk => h2 q (List.mem_of_getElem? hk)⟩
    have hil : i < ws.length := (List.getElem?_eq_some_iff.mp hi).1
    refine (List.getElem?_inj (l := ws.map Prod.fst) (by rw [List.length_map]; exact hil) h1).mp ?_
    rw [List.getElem?_map, List.getElem?_map, hi, hj]
    show some p.1 = some q.1
    rw [hpq]
theorem dw_perm {A : Nat → Prop} {ws ws' : va_W} (p : ws.Perm ws') (h : va_D A ws) : va_D A ws' := by
  obtain ⟨h1, h2⟩ := dw_iff.mp h
  exact dw_iff.mpr ⟨(p.map Prod.fst).nodup h1, fun q hq => h2 q (p.mem_iff.mpr hq)⟩
theorem dw_congr {A : Nat → Prop} {ws ws' : va_W} (e : ws'.map Prod.fst = ws.map Prod.fst) (h : va_D A ws) : va_D A ws' := by
  obtain ⟨h1, h2⟩ := dw_iff.mp h
  refine dw_iff.mpr ⟨by rw [e]; exact h1, fun q hq => ?_⟩
  have h3 : q.1 ∈ ws'.map Prod.fst := List.mem_map_of_mem hq
  rw [e] at h3
  obtain ⟨q0, h4, h5⟩ := List.mem_map.mp h3
  rw [← h5]
  exact h2 q0 h4
theorem dw_left {A : Nat → Prop} {a b : va_W} (h : va_D A (a ++ b)) : va_D A a := by
  obtain ⟨h1, h2⟩ := dw_iff.mp h
  rw [List.map_append] at h1
  exact dw_iff.mpr ⟨(List.nodup_append.mp h1).1, fun q hq => h2 q (List.mem_append_left _ hq)⟩
theorem dw_cut {A : Nat → Prop} {ws wc wr : va_W} (p : ws.Perm (wc ++ wr)) (h : va_D A ws) : va_D A wc := dw_left (dw_perm p h)
theorem dw_true {A : Nat → Prop} {ws : va_W} (h : va_D A ws) : va_D (fun _ => True) ws := h.weaken (fun _ _ _ _ => trivial)
theorem va_A_mem {ws : va_W} {sz q : Nat} : va_A ws sz q ↔ (∃ e, (q, e) ∈ ws) ∨ sz ≤ q := by
  constructor
  · rintro (⟨k, e, h⟩ | h)
    · exact Or.inl ⟨e, List.mem_of_getElem? h⟩
    · exact Or.inr h
  · rintro (⟨e, h⟩ | h)
    · obtain ⟨k, hk⟩ := List.getElem?_of_mem h
      exact Or.inl ⟨k, e, hk⟩
    · exact Or.inr h
theorem w_free {A0 : Nat → Prop} {ws wc wr : va_W} {H0 H : Heap} {locs : List Loc} (hD : va_D A0 ws) (p : ws.Perm (wc ++ wr)) (hS : va_S A0 H0 H locs) (hA : ∀ q, H0.size ≤ q → A0 q) : ∀ q, va_A wc H.size q → A0 q := by
  intro q hq
  rcases va_A_mem.mp hq with ⟨e, h⟩ | h
  · exact (dw_iff.mp hD).2 (q, e) (p.mem_iff.mpr (List.mem_append_left _ h))
  · exact hA q (Nat.le_trans hS.1 h)
/-- behind a call: ws was wc and wr, the callee made w1 of wc, ws' is w1 and wr -/
theorem w_join {A0 : Nat → Prop} {D : va_G} {cl : List vw_C} {ws wc wr w1 ws' : va_W} {H H1 : Heap} (hP : va_P D cl ws H) (hD : va_D A0 ws) (p : ws.Perm (wc ++ wr)) (p' : ws'.Perm (w1 ++ wr))
    (hk : ∀ q : Nat, q < H.size → ¬ va_A wc H.size q → H1[q]? = H[q]?) (hF : ∀ q, va_A wc H.size q → A0 q) (hP1 : va_P D cl w1 H1) (hD1 : va_D (va_A wc H.size) w1) : va_P D cl ws' H1 ∧ va_D A0 ws' := by
  have hPp := pw_perm p hP
  obtain ⟨n1, n2⟩ := dw_iff.mp (dw_perm p hD)
  rw [List.map_append, List.nodup_append] at n1
  obtain ⟨-, m2, m3⟩ := n1
  have far : ∀ q ∈ wr, q.1 < H.size ∧ ¬ va_A wc H.size q.1 := by
    intro q hq
    have hl : q.1 < H.size := (pw_iff.mp hPp q (List.mem_append_right _ hq)).lt
    refine ⟨hl, fun h => ?_⟩
    rcases va_A_mem.mp h with ⟨e, h⟩ | h
    · exact m3 q.1 (List.mem_map.mpr ⟨(q.1, e), h, rfl⟩) q.1 (List.mem_map_of_mem hq) rfl
    · omega
  obtain ⟨a1, a2⟩ := dw_iff.mp hD1
  constructor
  · refine pw_iff.mpr (fun q hq => ?_)
    rcases List.mem_append.mp (p'.mem_iff.mp hq) with h | h
    · exact pw_iff.mp hP1 q h
    · obtain ⟨g1, g2⟩ := far q h
      exact (pw_iff.mp hPp q (List.mem_append_right _ h)).kept (hk q.1 g1 g2)
  · refine dw_perm p'.symm (dw_iff.mpr ⟨?_, fun q hq => ?_⟩)
    · rw [List.map_append, List.nodup_append]
      refine ⟨a1, m2, fun a ha b hb e => ?_⟩
      obtain ⟨x, hx, rfl⟩ := List.mem_map.mp ha
      obtain ⟨y, hy, rfl⟩ := List.mem_map.mp hb
      exact (far y hy).2 (by rw [← e]; exact a2 x hx)
    · rcases List.mem_append.mp hq with h | h
      · exact hF _ (a2 q h)
      · exact n2 q (List.mem_append_right _ h)
/-! blocks of cells -/
theorem blk_perm (bs : List va_W) (is : List Nat) (h : is.Perm (List.range bs.length)) : bs.flatten.Perm (is.map (fun i => bs.getD i [])).flatten := by
  have e : bs = (List.range bs.length).map (fun i => bs.getD i []) := by
    apply List.ext_getElem?
    intro i
    rw [List.getElem?_map]
    by_cases hi : i < bs.length
    · rw [List.getElem?_range hi, List.getElem?_eq_getElem hi]
      simp [hi]
    · rw [List.getElem?_eq_none (by omega), List.getElem?_eq_none (by simp; omega)]
      rfl
  have p : bs.Perm (is.map (fun i => bs.getD i [])) := by
    refine (List.Perm.of_eq e).trans ?_
    exact (h.map _).symm
  exact p.flatten
/-! the contexts of a contract: arrays' classes, nest mates, worlds -/
abbrev tysOf (ct : Nat → ClassId) : List (ClassId × FieldType) := [(ct 0, .int), (ct 1, .int), (ct 2, .char), (ct 3, .int), (ct 4, .object RX0), (ct 5, .object RX3), (ct 6, .object RX2)]
def nsB (U : State) : Prop :=
  va_Nw (.methodLinkNest RX0 56 yX5_glowUnlit RX5) U ∧ va_Nw (.methodLinkNest RX0 60 yX5_glowLit RX5) U ∧ va_Nw (.methodLinkNest RX3 75 yX5_isWithin RX5) U ∧
  va_Nw (.methodLinkNest RX4 26 yX5_patternOf RX5) U ∧ va_Nw (.methodLinkNest RX5 34 yX4_init RX5) U ∧ va_Nw (.methodLinkNest RX5 39 yX2_init RX5) U
theorem nsB.same {u U : State} (h : u.vm = U.vm) (hn : nsB u) : nsB U := by
  obtain ⟨h1, h2, h3, h4, h5, h6⟩ := hn
  exact ⟨h1.same rfl h, h2.same rfl h, h3.same rfl h, h4.same rfl h, h5.same rfl h, h6.same rfl h⟩
theorem nsB.warm {s U : State} (hW : s.WarmedH U.vm) (hn : nsB s) : nsB U := by
  obtain ⟨h1, h2, h3, h4, h5, h6⟩ := hn
  exact ⟨h1.warmM hW, h2.warmM hW, h3.warmM hW, h4.warmM hW, h5.warmM hW, h6.warmM hW⟩
/-- what a method that changes nothing asks of the heap -/
def roB (D : va_G) (ct : Nat → ClassId) (ws : va_W) (U : State) : Prop := va_P D vwCl ws U.heap ∧ va_K D vwCl (tysOf ct) U ∧ nsB U
def roP (D : va_G) (ct : Nat → ClassId) (ws : va_W) (av : List Value) : Array Value → State → Prop := va_Pc av (roB D ct ws)
theorem roP.blind {D : va_G} {ct : Nat → ClassId} {ws : va_W} {av : List Value} : FrameBlind (roP D ct ws av) := fun _ _ _ _ q => ⟨q.1, q.2.1, va_K.moved (Vm.Alike.refl _) q.2.2.1, nsB.same rfl q.2.2.2⟩
theorem roP.at {D : va_G} {ct : Nat → ClassId} {ws : va_W} {av : List Value} {s : State} {H : Heap} (hP : va_P D vwCl ws H) (hK : va_K D vwCl (tysOf ct) s) (hN : nsB s) : ∀ U : State, U.heap = H → s.WarmedH U.vm → roP D ct ws av av.toArray U :=
  fun _ hU hW => ⟨rfl, by rw [hU]; exact hP, va_K.moved hW.alike hK, hN.warm hW⟩
/-- what a method that changes its world asks -/
def muB (D : va_G) (ct : Nat → ClassId) (ws : va_W) (sz : Nat) (U : State) : Prop := U.heap.size = sz ∧ va_P D vwCl ws U.heap ∧ va_K D vwCl (tysOf ct) U ∧ nsB U ∧ va_D (fun _ => True) ws
def muP (D : va_G) (ct : Nat → ClassId) (ws : va_W) (sz : Nat) (av : List Value) : Array Value → State → Prop := va_Pc av (muB D ct ws sz)
theorem muP.blind {D : va_G} {ct : Nat → ClassId} {ws : va_W} {sz : Nat} {av : List Value} : FrameBlind (muP D ct ws sz av) := fun _ _ _ _ q => ⟨q.1, q.2.1, q.2.2.1, va_K.moved (Vm.Alike.refl _) q.2.2.2.1, nsB.same rfl q.2.2.2.2.1, q.2.2.2.2.2⟩
theorem muP.at {D : va_G} {ct : Nat → ClassId} {ws : va_W} {av : List Value} {s : State} {H : Heap} {A : Nat → Prop} (hP : va_P D vwCl ws H) (hD : va_D A ws) (hK : va_K D vwCl (tysOf ct) s) (hN : nsB s) : ∀ U : State, U.heap = H → s.WarmedH U.vm → muP D ct ws H.size av av.toArray U :=
  fun _ hU hW => ⟨rfl, by rw [hU], by rw [hU]; exact hP, va_K.moved hW.alike hK, hN.warm hW, dw_true hD⟩
/-- what it leaves -/
def muE (D : va_G) (ct : Nat → ClassId) (ws w1 : va_W) (sz : Nat) (t : State) : Prop := va_P D vwCl w1 t.heap ∧ va_D (va_A ws sz) w1
theorem muE.join {A0 : Nat → Prop} {D : va_G} {ct : Nat → ClassId} {ws wc wr w1 ws' : va_W} {H H1 : Heap} {t : State} (hP : va_P D vwCl ws H) (hD : va_D A0 ws) (p : ws.Perm (wc ++ wr)) (p' : ws'.Perm (w1 ++ wr))
    (hk : ∀ q : Nat, q < H.size → ¬ va_A wc H.size q → H1[q]? = H[q]?) (hF : ∀ q, va_A wc H.size q → A0 q) (ht : t.heap = H1) (h : muE D ct wc w1 H.size t) : va_P D vwCl ws' H1 ∧ va_D A0 ws' := by
  obtain ⟨h1, h2⟩ := h
  rw [ht] at h1
  exact w_join hP hD p p' hk hF h1 h2
theorem muE.of {D : va_G} {ct : Nat → ClassId} {ws w1 : va_W} {sz : Nat} {t : State} {H : Heap} (hP : va_P D vwCl w1 H) (hD : va_D (va_A ws sz) w1) (ht : t.heap = H) : muE D ct ws w1 sz t := ⟨by rw [ht]; exact hP, hD⟩
abbrev noA : Nat → Prop := fun _ => False
abbrev muI (D : va_G) (ct : Nat → ClassId) (ws w1 : va_W) (sz : Nat) (post : Int32 → Prop) : Array Value → State → Outcome → State → Prop := va_Qi (S := Unit) (fun r _ => post r) (fun _ t => muE D ct ws w1 sz t) (va_A ws sz)
abbrev muV (D : va_G) (ct : Nat → ClassId) (ws w1 : va_W) (sz : Nat) : Array Value → State → Outcome → State → Prop := va_Qv (S := Unit) (fun _ => True) (fun _ t => muE D ct ws w1 sz t) (va_A ws sz)
