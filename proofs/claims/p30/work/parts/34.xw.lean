section XW
def xA (o : Nat → Nat) (ad : Nat → Nat → Nat) : va_W := [(o 0, .inr (5, [.ref (ad 8 0), .ref (ad 5 0), .ref (o 7), .ref (o 4), .ref (o 1)]))]
def xN (ct : Nat → ClassId) (o : Nat → Nat) (ad : Nat → Nat → Nat) (i0 i1 : Int32) : va_W := [(o 4, .inl (ct 6, 2, .inr (.inr (.inr (.inr (fun i => some (o (5 + i)))))))), (o 5, .inr (2, [.ref (ad 6 0), .int i0])), (o 6, .inr (2, [.ref (ad 7 0), .int i1]))]
def xR (ct : Nat → ClassId) (o : Nat → Nat) (ad : Nat → Nat → Nat) (z : SV) (w : Nat → SV) (nx k : Int32) (s0 s1 : SV) (i0 i1 T nd : Int32) (f g : Nat → Int32) : va_W :=
  [xA o ad, txW ct (o 1) (o 2) (o 3) T nd f g, xN ct o ad i0 i1, hsH ct (o 7) (o 8) ad nx k, rwW ct ad w, stW ct (ad 5) z, stW ct (ad 6) s0, stW ct (ad 7) s1].flatten
abbrev xW (ct : Nat → ClassId) (o : Nat → Nat) (ad : Nat → Nat → Nat) (v z : SV) (w : Nat → SV) (nx k : Int32) (s0 s1 : SV) (i0 i1 T nd : Int32) (f g : Nat → Int32) : va_W :=
  stW ct (ad 8) v ++ xR ct o ad z w nx k s0 s1 i0 i1 T nd f g
theorem xb (S : va_W) (bs : List va_W) (is : List Nat) (n : Nat) (hn : bs.length + 1 = n) (h : is.Perm (List.range n)) : (S ++ bs.flatten).Perm ((is.map (fun i => (S :: bs).getD i [])).flatten) := blk_perm (S :: bs) is (by rw [List.length_cons, hn]; exact h)
theorem xp_h (S A T N H R C Q P : va_W) : (S ++ [A, T, N, H, R, C, Q, P].flatten).Perm ((H ++ (R ++ S)) ++ [A, T, N, C, Q, P].flatten) := by
  refine (xb S [A, T, N, H, R, C, Q, P] [4, 5, 0, 1, 2, 3, 6, 7, 8] 9 rfl (by decide)).trans (List.Perm.of_eq ?_)
  show H ++ (R ++ (S ++ (A ++ (T ++ (N ++ (C ++ (Q ++ (P ++ [])))))))) = (H ++ (R ++ S)) ++ (A ++ (T ++ (N ++ (C ++ (Q ++ (P ++ []))))))
  rw [List.append_assoc, List.append_assoc]
theorem xp_c (S A T N H R C Q P : va_W) : (S ++ [A, T, N, H, R, C, Q, P].flatten).Perm ((C ++ S) ++ [A, T, N, H, R, Q, P].flatten) := by
  refine (xb S [A, T, N, H, R, C, Q, P] [6, 0, 1, 2, 3, 4, 5, 7, 8] 9 rfl (by decide)).trans (List.Perm.of_eq ?_)
  show C ++ (S ++ (A ++ (T ++ (N ++ (H ++ (R ++ (Q ++ (P ++ [])))))))) = (C ++ S) ++ (A ++ (T ++ (N ++ (H ++ (R ++ (Q ++ (P ++ [])))))))
  rw [List.append_assoc]
theorem xp_c1 (S A T N H R C Q P : va_W) : (S ++ [A, T, N, H, R, C, Q, P].flatten).Perm (C ++ [S, A, T, N, H, R, Q, P].flatten) :=
  (xb S [A, T, N, H, R, C, Q, P] [6, 0, 1, 2, 3, 4, 5, 7, 8] 9 rfl (by decide))
theorem xp_q (S A T N H R C Q P : va_W) : (S ++ [A, T, N, H, R, C, Q, P].flatten).Perm ((Q ++ S) ++ [A, T, N, H, R, C, P].flatten) := by
  refine (xb S [A, T, N, H, R, C, Q, P] [7, 0, 1, 2, 3, 4, 5, 6, 8] 9 rfl (by decide)).trans (List.Perm.of_eq ?_)
  show Q ++ (S ++ (A ++ (T ++ (N ++ (H ++ (R ++ (C ++ (P ++ [])))))))) = (Q ++ S) ++ (A ++ (T ++ (N ++ (H ++ (R ++ (C ++ (P ++ [])))))))
  rw [List.append_assoc]
theorem xp_p (S A T N H R C Q P : va_W) : (S ++ [A, T, N, H, R, C, Q, P].flatten).Perm ((P ++ S) ++ [A, T, N, H, R, C, Q].flatten) := by
  refine (xb S [A, T, N, H, R, C, Q, P] [8, 0, 1, 2, 3, 4, 5, 6, 7] 9 rfl (by decide)).trans (List.Perm.of_eq ?_)
  show P ++ (S ++ (A ++ (T ++ (N ++ (H ++ (R ++ (C ++ (Q ++ [])))))))) = (P ++ S) ++ (A ++ (T ++ (N ++ (H ++ (R ++ (C ++ (Q ++ [])))))))
  rw [List.append_assoc]
theorem xp_t (S A T N H R C Q P : va_W) : (S ++ [A, T, N, H, R, C, Q, P].flatten).Perm (T ++ [S, A, N, H, R, C, Q, P].flatten) :=
  (xb S [A, T, N, H, R, C, Q, P] [2, 0, 1, 3, 4, 5, 6, 7, 8] 9 rfl (by decide))
theorem xp_s (S A T1 T2 T3 N H R C Q P : va_W) : (S ++ [A, T1, T2, T3, N, H, R, C, Q, P].flatten).Perm ((S ++ T3) ++ [A, T1, T2, N, H, R, C, Q, P].flatten) := by
  refine (xb S [A, T1, T2, T3, N, H, R, C, Q, P] [0, 4, 1, 2, 3, 5, 6, 7, 8, 9, 10] 11 rfl (by decide)).trans (List.Perm.of_eq ?_)
  show S ++ (T3 ++ (A ++ (T1 ++ (T2 ++ (N ++ (H ++ (R ++ (C ++ (Q ++ (P ++ [])))))))))) = (S ++ T3) ++ (A ++ (T1 ++ (T2 ++ (N ++ (H ++ (R ++ (C ++ (Q ++ (P ++ [])))))))))
  rw [List.append_assoc]
variable {D : va_G} {A : Nat → Prop} {H : Heap} {ct : Nat → ClassId} {o : Nat → Nat} {ad : Nat → Nat → Nat} {v z : SV} {w : Nat → SV} {nx k : Int32} {s0 s1 : SV} {i0 i1 T nd : Int32} {f g : Nat → Int32}
def xH (ct : Nat → ClassId) (o : Nat → Nat) (ad : Nat → Nat → Nat) (z : SV) (s0 s1 : SV) (i0 i1 T nd : Int32) (f g : Nat → Int32) : va_W := [xA o ad, txW ct (o 1) (o 2) (o 3) T nd f g, xN ct o ad i0 i1, stW ct (ad 5) z, stW ct (ad 6) s0, stW ct (ad 7) s1].flatten
theorem xw_h : (xW ct o ad v z w nx k s0 s1 i0 i1 T nd f g).Perm (hsW ct (o 7) (o 8) ad nx k w (ad 8) v ++ xH ct o ad z s0 s1 i0 i1 T nd f g) := xp_h _ _ _ _ _ _ _ _ _
def xC (ct : Nat → ClassId) (o : Nat → Nat) (ad : Nat → Nat → Nat) (w : Nat → SV) (nx k : Int32) (s0 s1 : SV) (i0 i1 T nd : Int32) (f g : Nat → Int32) : va_W := [xA o ad, txW ct (o 1) (o 2) (o 3) T nd f g, xN ct o ad i0 i1, hsH ct (o 7) (o 8) ad nx k, rwW ct ad w, stW ct (ad 6) s0, stW ct (ad 7) s1].flatten
theorem xw_c : (xW ct o ad v z w nx k s0 s1 i0 i1 T nd f g).Perm ((stW ct (ad 5) z ++ stW ct (ad 8) v) ++ xC ct o ad w nx k s0 s1 i0 i1 T nd f g) := xp_c _ _ _ _ _ _ _ _ _
def xF (ct : Nat → ClassId) (o : Nat → Nat) (ad : Nat → Nat → Nat) (v : SV) (w : Nat → SV) (nx k : Int32) (s0 s1 : SV) (i0 i1 T nd : Int32) (f g : Nat → Int32) : va_W := [stW ct (ad 8) v, xA o ad, txW ct (o 1) (o 2) (o 3) T nd f g, xN ct o ad i0 i1, hsH ct (o 7) (o 8) ad nx k, rwW ct ad w, stW ct (ad 6) s0, stW ct (ad 7) s1].flatten
theorem xw_f : (xW ct o ad v z w nx k s0 s1 i0 i1 T nd f g).Perm (stW ct (ad 5) z ++ xF ct o ad v w nx k s0 s1 i0 i1 T nd f g) := xp_c1 _ _ _ _ _ _ _ _ _
def xQ (ct : Nat → ClassId) (o : Nat → Nat) (ad : Nat → Nat → Nat) (z : SV) (w : Nat → SV) (nx k : Int32) (s1 : SV) (i0 i1 T nd : Int32) (f g : Nat → Int32) : va_W := [xA o ad, txW ct (o 1) (o 2) (o 3) T nd f g, xN ct o ad i0 i1, hsH ct (o 7) (o 8) ad nx k, rwW ct ad w, stW ct (ad 5) z, stW ct (ad 7) s1].flatten
theorem xw_q : (xW ct o ad v z w nx k s0 s1 i0 i1 T nd f g).Perm ((stW ct (ad 6) s0 ++ stW ct (ad 8) v) ++ xQ ct o ad z w nx k s1 i0 i1 T nd f g) := xp_q _ _ _ _ _ _ _ _ _
def xP (ct : Nat → ClassId) (o : Nat → Nat) (ad : Nat → Nat → Nat) (z : SV) (w : Nat → SV) (nx k : Int32) (s0 : SV) (i0 i1 T nd : Int32) (f g : Nat → Int32) : va_W := [xA o ad, txW ct (o 1) (o 2) (o 3) T nd f g, xN ct o ad i0 i1, hsH ct (o 7) (o 8) ad nx k, rwW ct ad w, stW ct (ad 5) z, stW ct (ad 6) s0].flatten
theorem xw_p : (xW ct o ad v z w nx k s0 s1 i0 i1 T nd f g).Perm ((stW ct (ad 7) s1 ++ stW ct (ad 8) v) ++ xP ct o ad z w nx k s0 i0 i1 T nd f g) := xp_p _ _ _ _ _ _ _ _ _
theorem xw_q2 : (xW ct o ad v z w nx k s0 s1 i0 i1 T nd f g).Perm ((stW ct (ad 8) v ++ stW ct (ad 6) s0) ++ xQ ct o ad z w nx k s1 i0 i1 T nd f g) := xw_q.trans (List.Perm.append_right _ List.perm_append_comm)
theorem xw_p2 : (xW ct o ad v z w nx k s0 s1 i0 i1 T nd f g).Perm ((stW ct (ad 8) v ++ stW ct (ad 7) s1) ++ xP ct o ad z w nx k s0 i0 i1 T nd f g) := xw_p.trans (List.Perm.append_right _ List.perm_append_comm)
def xT (ct : Nat → ClassId) (o : Nat → Nat) (ad : Nat → Nat → Nat) (v z : SV) (w : Nat → SV) (nx k : Int32) (s0 s1 : SV) (i0 i1 : Int32) : va_W := [stW ct (ad 8) v, xA o ad, xN ct o ad i0 i1, hsH ct (o 7) (o 8) ad nx k, rwW ct ad w, stW ct (ad 5) z, stW ct (ad 6) s0, stW ct (ad 7) s1].flatten
theorem xw_t : (xW ct o ad v z w nx k s0 s1 i0 i1 T nd f g).Perm (txW ct (o 1) (o 2) (o 3) T nd f g ++ xT ct o ad v z w nx k s0 s1 i0 i1) := xp_t _ _ _ _ _ _ _ _ _
def xS (ct : Nat → ClassId) (o : Nat → Nat) (ad : Nat → Nat → Nat) (z : SV) (w : Nat → SV) (nx k : Int32) (s0 s1 : SV) (i0 i1 T nd : Int32) (f : Nat → Int32) : va_W := [xA o ad, [(o 1, .inr (4, [.ref (o 2), .int T, .ref (o 3), .int nd]))], [(o 2, .inl (ct 2, 30, .inl f))], xN ct o ad i0 i1, hsH ct (o 7) (o 8) ad nx k, rwW ct ad w, stW ct (ad 5) z, stW ct (ad 6) s0, stW ct (ad 7) s1].flatten
theorem xw_s : (xW ct o ad v z w nx k s0 s1 i0 i1 T nd f g).Perm ((stW ct (ad 8) v ++ [(o 3, .inl (ct 0, 8, .inl g))]) ++ xS ct o ad z w nx k s0 s1 i0 i1 T nd f) :=
  xp_s (stW ct (ad 8) v) (xA o ad) [(o 1, .inr (4, [.ref (o 2), .int T, .ref (o 3), .int nd]))] [(o 2, .inl (ct 2, 30, .inl f))] [(o 3, .inl (ct 0, 8, .inl g))] (xN ct o ad i0 i1) (hsH ct (o 7) (o 8) ad nx k) (rwW ct ad w) (stW ct (ad 5) z) (stW ct (ad 6) s0) (stW ct (ad 7) s1)
theorem xw_get {a : Nat → Nat} {X : va_W} {i : Nat} {q : Nat × va_E} (h : X[i]? = some q) : (stW ct a v ++ X)[29 + i]? = some q := by
  rw [List.getElem?_append_right (by rw [st_len]; omega), st_len, Nat.add_sub_cancel_left]
  exact h
theorem xw_set {a : Nat → Nat} {X : va_W} {i : Nat} {q : Nat × va_E} : (stW ct a v ++ X).set (29 + i) q = stW ct a v ++ X.set i q := by
  rw [List.set_append_right _ _ (by rw [st_len]; omega), st_len, Nat.add_sub_cancel_left]
theorem xw_at {a : Nat → Nat} {X Y : va_W} {i : Nat} {q : Nat × va_E} (e : X.set i q = Y) (hP : va_P D vwCl ((stW ct a v ++ X).set (29 + i) q) H) : va_P D vwCl (stW ct a v ++ Y) H := by
  rw [xw_set, e] at hP
  exact hP
theorem xw_atD {a : Nat → Nat} {X Y : va_W} {i : Nat} {q : Nat × va_E} (e : X.set i q = Y) (hD : va_D A ((stW ct a v ++ X).set (29 + i) q)) : va_D A (stW ct a v ++ Y) := by
  rw [xw_set, e] at hD
  exact hD
theorem xa_perm {a : Nat → Nat} {X : va_W} {d : Nat} (hd : d < 8) : (stW ct a v ++ X).Perm (dgA ct a v d ++ (stR ct a v d ++ X)) := by
  refine ((st_perm hd).append_right X).trans ?_
  rw [List.append_assoc]
theorem xa_permT {a : Nat → Nat} {X : va_W} {d : Nat} (hd : d < 8) (t : F3) : (stW ct a (sTri v d t) ++ X).Perm (dgW ct (a (3 * d + 5)) (a (3 * d + 6)) (a (3 * d + 7)) t.1 t.2.1 t.2.2 ++ (stR ct a v d ++ X)) := by
  refine ((st_permT hd t).append_right X).trans ?_
  rw [List.append_assoc]
end XW
