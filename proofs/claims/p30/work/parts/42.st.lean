theorem arr_extq {cA : ClassId} {n : Nat} {f g : Nat → Option Nat} (h : ∀ j, j < n → f j = g j) : vp_cell cA (n, .inr (.inr (.inr (.inr f)))) = vp_cell cA (n, .inr (.inr (.inr (.inr g)))) := by
  show arrV cA n (fun i => va_rf (f i)) = arrV cA n (fun i => va_rf (g i))
  unfold arrV
  congr 2
  funext j
  show va_rf (f j.val) = va_rf (g j.val)
  rw [h j.val j.isLt]
theorem ceq.q {a : Nat} {cA : ClassId} {n : Nat} {f g : Nat → Option Nat} (h : ∀ j, j < n → f j = g j) : ceq (a, .inl (cA, n, .inr (.inr (.inr (.inr f))))) (a, .inl (cA, n, .inr (.inr (.inr (.inr g))))) := Or.inr ⟨rfl, cA, _, _, rfl, rfl, arr_extq h⟩
def onF (j : Nat) : Int32 := [0, 5, 5, 5].getD j 0
def ctF (j : Nat) : Int32 := [4].getD j 0
/-- all its digits new -/
def sv0 : SV := (fun i => if i = 0 then ctF else if i = 1 then onF else if i = 2 then onF else if i = 3 then fiF else if i < 12 then dFirst else (fun _ => 0), fun _ => 0)
def nwL (ct : Nat → ClassId) (a : Nat → Nat) : va_W := [(a 26, .inr (0, [.int (dFirst 1), .int (dFirst 2), .int (dFirst 3), .int (dFirst 0), .int (dFirst 4), .int (dFirst 5), .int (dFirst 6), .ref (a 27), .ref (a 28)])),
  (a 27, .inl (ct 0, 8, .inl (fun _ => 0))),
  (a 28, .inl (ct 0, 8, .inl (fun _ => 0))),
  (a 23, .inr (0, [.int (dFirst 1), .int (dFirst 2), .int (dFirst 3), .int (dFirst 0), .int (dFirst 4), .int (dFirst 5), .int (dFirst 6), .ref (a 24), .ref (a 25)])),
  (a 24, .inl (ct 0, 8, .inl (fun _ => 0))),
  (a 25, .inl (ct 0, 8, .inl (fun _ => 0))),
  (a 20, .inr (0, [.int (dFirst 1), .int (dFirst 2), .int (dFirst 3), .int (dFirst 0), .int (dFirst 4), .int (dFirst 5), .int (dFirst 6), .ref (a 21), .ref (a 22)])),
  (a 21, .inl (ct 0, 8, .inl (fun _ => 0))),
  (a 22, .inl (ct 0, 8, .inl (fun _ => 0))),
  (a 17, .inr (0, [.int (dFirst 1), .int (dFirst 2), .int (dFirst 3), .int (dFirst 0), .int (dFirst 4), .int (dFirst 5), .int (dFirst 6), .ref (a 18), .ref (a 19)])),
  (a 18, .inl (ct 0, 8, .inl (fun _ => 0))),
  (a 19, .inl (ct 0, 8, .inl (fun _ => 0))),
  (a 14, .inr (0, [.int (dFirst 1), .int (dFirst 2), .int (dFirst 3), .int (dFirst 0), .int (dFirst 4), .int (dFirst 5), .int (dFirst 6), .ref (a 15), .ref (a 16)])),
  (a 15, .inl (ct 0, 8, .inl (fun _ => 0))),
  (a 16, .inl (ct 0, 8, .inl (fun _ => 0))),
  (a 11, .inr (0, [.int (dFirst 1), .int (dFirst 2), .int (dFirst 3), .int (dFirst 0), .int (dFirst 4), .int (dFirst 5), .int (dFirst 6), .ref (a 12), .ref (a 13)])),
  (a 12, .inl (ct 0, 8, .inl (fun _ => 0))),
  (a 13, .inl (ct 0, 8, .inl (fun _ => 0))),
  (a 8, .inr (0, [.int (dFirst 1), .int (dFirst 2), .int (dFirst 3), .int (dFirst 0), .int (dFirst 4), .int (dFirst 5), .int (dFirst 6), .ref (a 9), .ref (a 10)])),
  (a 9, .inl (ct 0, 8, .inl (fun _ => 0))),
  (a 10, .inl (ct 0, 8, .inl (fun _ => 0))),
  (a 5, .inr (0, [.int (dFirst 1), .int (dFirst 2), .int (dFirst 3), .int (dFirst 0), .int (dFirst 4), .int (dFirst 5), .int (dFirst 6), .ref (a 6), .ref (a 7)])),
  (a 6, .inl (ct 0, 8, .inl (fun _ => 0))),
  (a 7, .inl (ct 0, 8, .inl (fun _ => 0))),
  (a 0, .inr (3, [.ref (a 1), .int 4, .ref (a 2), .ref (a 3), .ref (a 4), .int 0, .int 0, .int 0, .int 0, .int 0, .float 0, .float 0, .float 0])),
  (a 1, .inl (ct 4, 8, .inr (.inr (.inr (.inr (va_up (va_up (va_up (va_up (va_up (va_up (va_up (va_up (fun _ => none) 0 (some (a 5))) 1 (some (a 8))) 2 (some (a 11))) 3 (some (a 14))) 4 (some (a 17))) 5 (some (a 20))) 6 (some (a 23))) 7 (some (a 26)))))))),
  (a 2, .inl (ct 0, 4, .inl (upd (upd (upd (upd (fun _ => 0) 0 0) 1 5) 2 5) 3 5))),
  (a 3, .inl (ct 0, 4, .inl (upd (upd (upd (upd (fun _ => 0) 0 0) 1 5) 2 5) 3 5))),
  (a 4, .inl (ct 0, 3, .inl fiF))]
theorem st_new {D : va_G} {ct : Nat → ClassId} {a : Nat → Nat} {H : Heap} (hP : va_P D vwCl (nwL ct a) H) : va_P D vwCl (stW ct a sv0) H := by
  refine pw_iff.mpr (fun q hq => ?_)
  unfold stW at hq
  obtain ⟨j, hj, rfl⟩ := List.mem_map.mp hq
  have hj := List.mem_range.mp hj
  match j, hj with
  | 0, _ => exact hP 24 _ rfl
  | 1, _ => exact ceq.at (ceq.q (fun j hj => match j, hj with | 0, _ => rfl | 1, _ => rfl | 2, _ => rfl | 3, _ => rfl | 4, _ => rfl | 5, _ => rfl | 6, _ => rfl | 7, _ => rfl)) (hP 25 _ rfl)
  | 2, _ => exact ceq.at (ceq.i (f := (upd (upd (upd (upd (fun _ => 0) 0 0) 1 5) 2 5) 3 5)) (fun j hj => match j, hj with | 0, _ => rfl | 1, _ => rfl | 2, _ => rfl | 3, _ => rfl)) (hP 26 _ rfl)
  | 3, _ => exact ceq.at (ceq.i (f := (upd (upd (upd (upd (fun _ => 0) 0 0) 1 5) 2 5) 3 5)) (fun j hj => match j, hj with | 0, _ => rfl | 1, _ => rfl | 2, _ => rfl | 3, _ => rfl)) (hP 27 _ rfl)
  | 4, _ => exact hP 28 _ rfl
  | 5, _ => exact hP 21 _ rfl
  | 6, _ => exact hP 22 _ rfl
  | 7, _ => exact hP 23 _ rfl
  | 8, _ => exact hP 18 _ rfl
  | 9, _ => exact hP 19 _ rfl
  | 10, _ => exact hP 20 _ rfl
  | 11, _ => exact hP 15 _ rfl
  | 12, _ => exact hP 16 _ rfl
  | 13, _ => exact hP 17 _ rfl
  | 14, _ => exact hP 12 _ rfl
  | 15, _ => exact hP 13 _ rfl
  | 16, _ => exact hP 14 _ rfl
  | 17, _ => exact hP 9 _ rfl
  | 18, _ => exact hP 10 _ rfl
  | 19, _ => exact hP 11 _ rfl
  | 20, _ => exact hP 6 _ rfl
  | 21, _ => exact hP 7 _ rfl
  | 22, _ => exact hP 8 _ rfl
  | 23, _ => exact hP 3 _ rfl
  | 24, _ => exact hP 4 _ rfl
  | 25, _ => exact hP 5 _ rfl
  | 26, _ => exact hP 0 _ rfl
  | 27, _ => exact hP 1 _ rfl
  | 28, _ => exact hP 2 _ rfl
  | n + 29, h => exact absurd h (by omega)
theorem nw_perm : ((List.range 29).map (fun j => if j < 24 then 3 * (7 - j / 3) + j % 3 + 5 else j - 24)).Perm (List.range 29) := by decide
theorem st_newD {A : Nat → Prop} {ct : Nat → ClassId} {a : Nat → Nat} (hD : va_D A (nwL ct a)) : va_D A (stW ct a sv0) := by
  have e : (nwL ct a).map Prod.fst = ((List.range 29).map (fun j => if j < 24 then 3 * (7 - j / 3) + j % 3 + 5 else j - 24)).map a := rfl
  have e2 : (stW ct a sv0).map Prod.fst = (List.range 29).map a := by rw [st_fst]
  have p : ((nwL ct a).map Prod.fst).Perm ((stW ct a sv0).map Prod.fst) := by
    rw [e, e2]
    exact nw_perm.map a
  refine dw_iff.mpr ⟨p.nodup_iff.mp (dw_iff.mp hD).1, fun q hq => ?_⟩
  obtain ⟨q', h1, h2⟩ := List.mem_map.mp (p.symm.mem_iff.mp (List.mem_map_of_mem hq))
  rw [← h2]
  exact (dw_iff.mp hD).2 q' h1
theorem x2_of {D : va_G} {x q r : Nat} {b : Value} {X : va_W} {H : Heap} (e : r = q) (hP : va_P D vwCl ([(x, .inr (2, [.ref q, b]))] ++ X) H) : va_P D vwCl ([(x, .inr (2, [.ref r, b]))] ++ X) H := e ▸ hP
theorem x2_ofD {A : Nat → Prop} {x q r : Nat} {b : Value} {X : va_W} (e : r = q) (hD : va_D A ([(x, .inr (2, [.ref q, b]))] ++ X)) : va_D A ([(x, .inr (2, [.ref r, b]))] ++ X) := e ▸ hD
theorem x3_p (X B S : va_W) : (X ++ (B ++ S)).Perm (S ++ (X ++ B)) := by
  rw [← List.append_assoc]
  exact List.perm_append_comm
theorem x3_q (X B S : va_W) : (S ++ (X ++ B)).Perm (X ++ (B ++ S)) := (x3_p X B S).symm
theorem rw_eq (ct : Nat → ClassId) (ad : Nat → Nat → Nat) (w : SV) : rwW ct ad (fun _ => w) = ((((([] ++ stW ct (ad 0) w) ++ stW ct (ad 1) w) ++ stW ct (ad 2) w) ++ stW ct (ad 3) w) ++ stW ct (ad 4) w) := by
  show stW ct (ad 0) w ++ (stW ct (ad 1) w ++ (stW ct (ad 2) w ++ (stW ct (ad 3) w ++ (stW ct (ad 4) w ++ [])))) = _
  simp only [List.nil_append, List.append_nil, List.append_assoc]
theorem x1_of {D : va_G} {ct : Nat → ClassId} {x r : Nat} {ad : Nat → Nat → Nat} {f : Nat → Option Nat} {H : Heap} (e : ∀ j, j < 5 → f j = some (ad j 0))
    (hP : va_P D vwCl ([(x, .inr (1, [.ref r, .int 0, .int 0])), (r, .inl (ct 5, 5, .inr (.inr (.inr (.inr f)))))] ++ ((((([] ++ stW ct (ad 0) sv0) ++ stW ct (ad 1) sv0) ++ stW ct (ad 2) sv0) ++ stW ct (ad 3) sv0) ++ stW ct (ad 4) sv0)) H) : va_P D vwCl (hsH ct x r ad 0 0 ++ rwW ct ad (fun _ => sv0)) H := by
  rw [rw_eq]
  exact va_P.app (ceqs.P (ws := [(x, .inr (1, [.ref r, .int 0, .int 0])), (r, .inl (ct 5, 5, .inr (.inr (.inr (.inr f)))))]) (ws' := hsH ct x r ad 0 0) (show ceqs [(x, .inr (1, [.ref r, .int 0, .int 0])), (r, .inl (ct 5, 5, .inr (.inr (.inr (.inr f)))))] [_, _] from ⟨Or.inl rfl, ceq.q e, trivial⟩) (pw_left hP)) (pw_right hP)
theorem x1_ofD {A : Nat → Prop} {ct : Nat → ClassId} {x r : Nat} {ad : Nat → Nat → Nat} {f : Nat → Option Nat}
    (hD : va_D A ([(x, .inr (1, [.ref r, .int 0, .int 0])), (r, .inl (ct 5, 5, .inr (.inr (.inr (.inr f)))))] ++ ((((([] ++ stW ct (ad 0) sv0) ++ stW ct (ad 1) sv0) ++ stW ct (ad 2) sv0) ++ stW ct (ad 3) sv0) ++ stW ct (ad 4) sv0))) : va_D A (hsH ct x r ad 0 0 ++ rwW ct ad (fun _ => sv0)) := by
  rw [rw_eq]
  refine dw_congr ?_ hD
  rw [List.map_append, List.map_append]
  rfl
