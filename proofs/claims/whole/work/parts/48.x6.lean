/-! the model's new world -/
def z0 : SV := (fun _ _ => 0, fun _ => 0)
/-- the settings alone -/
def mv1 : SV := (fun i => if i = 1 then onF else if i = 2 then onF else if i = 3 then fiF else fun _ => 0, fun _ => 0)
def mv0 : SV := s2 (pNew (pNew (pNew (pNew mv1 0) 1) 2) 3) 0 0 4
theorem z_row (j : Nat) : (0 : Int32) = rowOf z0 j := by
  unfold rowOf
  repeat' split
  all_goals rfl
def miF : Nat → Int32 := upd (upd (upd (upd (upd (upd (upd (upd (upd (fun _ => 0) 6 8) 7 200) 8 100000) 9 5) 12 5) 10 5) 13 5) 11 5) 14 5
theorem mi_row : ∀ j, j < 200 → miF j = rowOf mv1 j := by decide +kernel
theorem mi_P {D : va_G} {ct : Nat → ClassId} {x q : Nat} {e : va_E} {X : va_W} {H : Heap} (hP : va_P D vwCl ((x, e) :: (q, .inl (ct 0, 200, .inl miF)) :: X) H) : va_P D vwCl ((x, e) :: (q, .inl (ct 0, 200, .inl (rowOf mv1))) :: X) H := by
  refine pw_iff.mpr (fun y hy => ?_)
  have h := pw_iff.mp hP
  rcases List.mem_cons.mp hy with rfl | hy
  · exact h _ List.mem_cons_self
  rcases List.mem_cons.mp hy with rfl | hy
  · exact ceq.at (ceq.i mi_row) (h _ (List.mem_cons_of_mem _ List.mem_cons_self))
  · exact h _ (List.mem_cons_of_mem _ (List.mem_cons_of_mem _ hy))
theorem mi_D {A : Nat → Prop} {ct : Nat → ClassId} {x q : Nat} {e : va_E} {X : va_W} {f : Nat → Int32} (hD : va_D A ((x, e) :: (q, .inl (ct 0, 200, .inl f)) :: X)) : va_D A ((x, e) :: (q, .inl (ct 0, 200, .inl (rowOf mv1))) :: X) := by
  refine dw_congr ?_ hD
  rfl
theorem mi_of {D : va_G} {ct : Nat → ClassId} {a : Nat → Nat} {H : Heap} (hP : va_P D vwCl (mG ct a 0 0 (upd (rowOf (pNew (pNew (pNew (pNew mv1 0) 1) 2) 3)) 0 4) (fun _ => 0) (fun _ => 0) (fun _ => 0) (fun _ => 0) (fun _ => 0) (fun _ => 0) (fun _ => 0) (fun _ => 0) (fun _ => 0) (fun _ => 0)) H) :
    va_P D vwCl (mS ct a mv0 z0 (fun _ => z0) (fun _ => z0) 0 0 (fun _ => 0) (fun _ => 0) (fun _ => 0)) H :=
  mG_ext hP (fun j _ => congrFun (row_upd (pNew (pNew (pNew (pNew mv1 0) 1) 2) 3) (i := 0) (j := 0) (Or.inl ⟨rfl, by decide⟩) 4) j) (fun _ _ => rfl) (fun j _ => z_row j) (fun _ _ => rfl) (fun j _ => z_row _) (fun _ _ => rfl) (fun j _ => z_row _) (fun _ _ => rfl) (fun _ _ => rfl) (fun _ _ => rfl) (fun _ _ => rfl)
theorem mi_ofD {A : Nat → Prop} {ct : Nat → ClassId} {a : Nat → Nat} {K T : Int32} {g1 : Nat → Int32} {f2 : Nat → UInt32} {g3 : Nat → Int32} {f4 : Nat → UInt32} {g5 : Nat → Int32} {f6 : Nat → UInt32} {g7 : Nat → Int32} {f8 : Nat → UInt32} {g9 g10 g11 : Nat → Int32} (hD : va_D A (mG ct a K T g1 f2 g3 f4 g5 f6 g7 f8 g9 g10 g11)) :
    va_D A (mS ct a mv0 z0 (fun _ => z0) (fun _ => z0) 0 0 (fun _ => 0) (fun _ => 0) (fun _ => 0)) := mG_dn hD
