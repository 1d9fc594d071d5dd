theorem gx_a (E S O : va_W) : ((E ++ S) ++ O).Perm ((E ++ O) ++ S) := by
  rw [List.append_assoc, List.append_assoc]
  exact List.Perm.append_left E List.perm_append_comm
theorem gx_p (E S B O : va_W) : ((E ++ O) ++ (S ++ B)).Perm ((O ++ B) ++ (E ++ S)) := by
  have h := blk_perm [E, O, S, B] [1, 3, 0, 2] (show [1, 3, 0, 2].Perm (List.range 4) by decide)
  have e1 : [E, O, S, B].flatten = (E ++ O) ++ (S ++ B) := by simp only [List.flatten_cons, List.flatten_nil, List.append_nil, List.append_assoc]
  have e2 : ([1, 3, 0, 2].map (fun i => [E, O, S, B].getD i [])).flatten = (O ++ B) ++ (E ++ S) := by
    show O ++ (B ++ (E ++ (S ++ []))) = _
    simp only [List.append_nil, List.append_assoc]
  rw [e1, e2] at h
  exact h
theorem xp_new (X N S Q H R T C6 C7 : va_W) : ((X ++ N) ++ ((((([] ++ S) ++ Q) ++ (H ++ R)) ++ T) ++ C6 ++ C7)).Perm (S ++ [X, T, N, H, R, Q, C6, C7].flatten) := by
  have h := blk_perm [X, N, S, Q, H, R, T, C6, C7] [2, 0, 6, 1, 4, 5, 3, 7, 8] (show [2, 0, 6, 1, 4, 5, 3, 7, 8].Perm (List.range 9) by decide)
  have e1 : [X, N, S, Q, H, R, T, C6, C7].flatten = (X ++ N) ++ ((((([] ++ S) ++ Q) ++ (H ++ R)) ++ T) ++ C6 ++ C7) := by simp only [List.flatten_cons, List.flatten_nil, List.append_nil, List.nil_append, List.append_assoc]
  rw [e1] at h
  exact h
theorem rw_cg {ct : Nat → ClassId} {ad b : Nat → Nat → Nat} {w : Nat → SV} (h : ∀ i, i < 5 → ad i = b i) : rwW ct ad w = rwW ct b w := by
  unfold rwW
  rw [List.flatMap_def, List.flatMap_def]
  congr 1
  refine List.map_congr_left (fun i hi => ?_)
  rw [h i (List.mem_range.mp hi)]
section X5OF
variable {D : va_G} {A : Nat → Prop} {ct : Nat → ClassId} {o : Nat → Nat} {ad b : Nat → Nat → Nat} {f : Nat → Option Nat} {H : Heap} {q1 q2 : Nat} {v z s0 s1 : SV} {w : Nat → SV} {T nd : Int32} {tf tg : Nat → Int32}
theorem x5_of (e1 : ad 8 0 = q1) (e2 : ad 5 0 = q2) (hr : ∀ i, i < 5 → ad i = b i) (hf : ∀ j, j < 2 → f j = some (o (5 + j)))
    (hP : va_P D vwCl ([(o 0, .inr (5, [.ref q1, .ref q2, .ref (o 7), .ref (o 4), .ref (o 1)])), (o 4, .inl (ct 6, 2, .inr (.inr (.inr (.inr f))))), (o 5, .inr (2, [.ref (ad 6 0), .int 0])), (o 6, .inr (2, [.ref (ad 7 0), .int 0]))] ++
      ((((((([] : va_W) ++ stW ct (ad 8) v) ++ stW ct (ad 5) z) ++ (hsH ct (o 7) (o 8) b 0 0 ++ rwW ct b w)) ++ txW ct (o 1) (o 2) (o 3) T nd tf tg) ++ stW ct (ad 6) s0) ++ stW ct (ad 7) s1)) H) :
    va_P D vwCl (xW ct o ad v z w 0 0 s0 s1 0 0 T nd tf tg) H := by
  subst e1
  subst e2
  rw [← rw_cg hr] at hP
  have p6 := pw_right hP
  have p7 := pw_right p6
  have p6 := pw_left p6
  have p5 := pw_right p6
  have p6 := pw_left p6
  have p4 := pw_right p6
  have p6 := pw_left p6
  have p3 := pw_right p6
  have p6 := pw_left p6
  have hE : va_P D vwCl (xA o ad ++ xN ct o ad 0 0) H := ceqs.P (ws := [(o 0, .inr (5, [.ref (ad 8 0), .ref (ad 5 0), .ref (o 7), .ref (o 4), .ref (o 1)])), (o 4, .inl (ct 6, 2, .inr (.inr (.inr (.inr f))))), (o 5, .inr (2, [.ref (ad 6 0), .int 0])), (o 6, .inr (2, [.ref (ad 7 0), .int 0]))]) (ws' := xA o ad ++ xN ct o ad 0 0) (show ceqs [_, _, _, _] [_, _, _, _] from ⟨Or.inl rfl, ceq.q hf, Or.inl rfl, Or.inl rfl, trivial⟩) (pw_left hP)
  have hH : va_P D vwCl (hsH ct (o 7) (o 8) ad 0 0) H := ceqs.P (ws := hsH ct (o 7) (o 8) b 0 0) (ws' := hsH ct (o 7) (o 8) ad 0 0) (show ceqs [_, _] [_, _] from ⟨Or.inl rfl, ceq.q (fun j hj => by rw [hr j hj]), trivial⟩) (pw_left p3)
  exact pw_perm (xp_new (xA o ad) (xN ct o ad 0 0) (stW ct (ad 8) v) (stW ct (ad 5) z) (hsH ct (o 7) (o 8) ad 0 0) (rwW ct ad w) (txW ct (o 1) (o 2) (o 3) T nd tf tg) (stW ct (ad 6) s0) (stW ct (ad 7) s1))
    (va_P.app hE (va_P.app (va_P.app (va_P.app (va_P.app p6 (va_P.app hH (pw_right p3))) p4) p5) p7))
theorem x5_ofD (hr : ∀ i, i < 5 → ad i = b i)
    (hD : va_D A ([(o 0, .inr (5, [.ref q1, .ref q2, .ref (o 7), .ref (o 4), .ref (o 1)])), (o 4, .inl (ct 6, 2, .inr (.inr (.inr (.inr f))))), (o 5, .inr (2, [.ref (ad 6 0), .int 0])), (o 6, .inr (2, [.ref (ad 7 0), .int 0]))] ++
      ((((((([] : va_W) ++ stW ct (ad 8) v) ++ stW ct (ad 5) z) ++ (hsH ct (o 7) (o 8) b 0 0 ++ rwW ct b w)) ++ txW ct (o 1) (o 2) (o 3) T nd tf tg) ++ stW ct (ad 6) s0) ++ stW ct (ad 7) s1))) :
    va_D A (xW ct o ad v z w 0 0 s0 s1 0 0 T nd tf tg) := by
  rw [← rw_cg hr] at hD
  refine dw_perm (xp_new (xA o ad) (xN ct o ad 0 0) (stW ct (ad 8) v) (stW ct (ad 5) z) (hsH ct (o 7) (o 8) ad 0 0) (rwW ct ad w) (txW ct (o 1) (o 2) (o 3) T nd tf tg) (stW ct (ad 6) s0) (stW ct (ad 7) s1)) (dw_congr ?_ hD)
  simp only [List.map_append]
  rfl
end X5OF
