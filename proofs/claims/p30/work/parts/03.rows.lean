section MyRows
variable {p : Program} {l : Launch} {e : Env} {R : Room} {s : State} {m : MethodId} {args : Array Value} {below : List Frame} {meth : Method} {c : Code} {H : Heap} {locs : List Loc} {cells slots : Nat} {Q : State → Prop}
variable {cc : ByteArray} {pc : Nat} {ls : Array Slot} {rest : List Value} {D : va_G} {cl : List vw_C} {A : Nat → Prop} {a : Nat} {tys : List (ClassId × FieldType)} {ws : va_W} {H0 : Heap}
theorem lv_as {x y : Int32} (h : x = y) (k : W p l e R s m args below meth c H locs cells slots Q (F0 m pc ls (.int y :: rest))) : W p l e R s m args below meth c H locs cells slots Q (F0 m pc ls (.int x :: rest)) := h ▸ k
theorem lv_asf {x y : UInt32} (h : x = y) (k : W p l e R s m args below meth c H locs cells slots Q (F0 m pc ls (.float y :: rest))) : W p l e R s m args below meth c H locs cells slots Q (F0 m pc ls (.float x :: rest)) := h ▸ k
theorem r_in {k n : Nat} {i : Int32} (hi : i = nI k) (hk : k < n) (hn : n < 2 ^ 31) : vp_in i n := by subst hi; exact vp_in_nI hk (by omega)
theorem r_ix {k n : Nat} {i : Int32} (hi : i = nI k) (hk : k < n) (hn : n < 2 ^ 31) : i.toNatClampNeg = k := by subst hi; exact nI_clamp (by omega)
theorem r_iald (hexec : p.tables.exec = Jvm.exec) (hb : c.code = cc) (hK : va_K D cl tys s) (hP : va_P D cl ws H) (q0 t0 : Nat) {cA : ClassId} {n : Nat} {f : Nat → Int32} (ha : ws[q0]? = some (a, .inl (cA, n, .inl f))) (ht : tys[t0]? = some (cA, .int)) {i : Int32} {k : Nat} (hi : i = nI k) (hk : k < n) (hn : n < 2 ^ 31) (hdg : decode cc pc = .ok (.iaload, 1))
    (kk : W p l e R s m args below meth c H locs cells slots Q (F0 m (pc + 1) ls (.int (f k) :: rest))) : W p l e R s m args below meth c H locs cells slots Q (F0 m pc ls (.int i :: .ref a :: rest)) :=
  va_iald hexec hb hK hP q0 t0 ha ht (r_in hi hk hn) hdg (by rw [r_ix hi hk hn]; exact kk)
theorem r_cald (hexec : p.tables.exec = Jvm.exec) (hb : c.code = cc) (hK : va_K D cl tys s) (hP : va_P D cl ws H) (q0 t0 : Nat) {cA : ClassId} {n : Nat} {f : Nat → Int32} (ha : ws[q0]? = some (a, .inl (cA, n, .inl f))) (ht : tys[t0]? = some (cA, .char)) {i : Int32} {k : Nat} (hi : i = nI k) (hk : k < n) (hn : n < 2 ^ 31) (hdg : decode cc pc = .ok (.caload, 1))
    (kk : W p l e R s m args below meth c H locs cells slots Q (F0 m (pc + 1) ls (.int (f k) :: rest))) : W p l e R s m args below meth c H locs cells slots Q (F0 m pc ls (.int i :: .ref a :: rest)) :=
  va_cald hexec hb hK hP q0 t0 ha ht (r_in hi hk hn) hdg (by rw [r_ix hi hk hn]; exact kk)
theorem r_aldq (hexec : p.tables.exec = Jvm.exec) (hb : c.code = cc) (hK : va_K D cl tys s) (hP : va_P D cl ws H) (q0 t0 : Nat) {cA : ClassId} {C : String} {n : Nat} {f : Nat → Option Nat} (ha : ws[q0]? = some (a, .inl (cA, n, .inr (.inr (.inr (.inr f)))))) (ht : tys[t0]? = some (cA, .object C)) {i : Int32} {k v : Nat} (hi : i = nI k) (hk : k < n) (hn : n < 2 ^ 31) (hv : f k = some v) (hdg : decode cc pc = .ok (.aaload, 1))
    (kk : W p l e R s m args below meth c H locs cells slots Q (F0 m (pc + 1) ls (.ref v :: rest))) : W p l e R s m args below meth c H locs cells slots Q (F0 m pc ls (.int i :: .ref a :: rest)) :=
  va_aldq hexec hb hK hP q0 t0 ha ht (r_in hi hk hn) hdg (by rw [r_ix hi hk hn, hv]; exact kk)
theorem r_iast (hexec : p.tables.exec = Jvm.exec) (hb : c.code = cc) (hK : va_K D cl tys s) (hP : va_P D cl ws H) (hD : va_D A ws) (hS : va_S A H0 H locs) (q0 t0 : Nat) {cA : ClassId} {n : Nat} {f : Nat → Int32} (ha : ws[q0]? = some (a, .inl (cA, n, .inl f))) (ht : tys[t0]? = some (cA, .int)) {i : Int32} {x : Int32} {k : Nat} (hi : i = nI k) (hk : k < n) (hn : n < 2 ^ 31) (hdg : decode cc pc = .ok (.iastore, 1))
    (kk : ∀ (H1 : Heap) (locs1 : List Loc), va_P D cl (ws.set q0 (a, .inl (cA, n, .inl (upd f k x)))) H1 → va_D A (ws.set q0 (a, .inl (cA, n, .inl (upd f k x)))) → va_S A H0 H1 locs1 → W p l e R s m args below meth c H1 locs1 cells slots Q (F0 m (pc + 1) ls rest)) : W p l e R s m args below meth c H locs cells slots Q (F0 m pc ls (.int x :: .int i :: .ref a :: rest)) :=
  va_iast hexec hb hK hP hD hS q0 t0 ha ht (r_in hi hk hn) hdg (by rw [r_ix hi hk hn]; exact kk)
theorem r_cast (hexec : p.tables.exec = Jvm.exec) (hb : c.code = cc) (hK : va_K D cl tys s) (hP : va_P D cl ws H) (hD : va_D A ws) (hS : va_S A H0 H locs) (q0 t0 : Nat) {cA : ClassId} {n : Nat} {f : Nat → Int32} (ha : ws[q0]? = some (a, .inl (cA, n, .inl f))) (ht : tys[t0]? = some (cA, .char)) {i : Int32} {x : Int32} {k : Nat} (hi : i = nI k) (hk : k < n) (hn : n < 2 ^ 31) (hx : vp_nar .char x = x) (hdg : decode cc pc = .ok (.castore, 1))
    (kk : ∀ (H1 : Heap) (locs1 : List Loc), va_P D cl (ws.set q0 (a, .inl (cA, n, .inl (upd f k x)))) H1 → va_D A (ws.set q0 (a, .inl (cA, n, .inl (upd f k x)))) → va_S A H0 H1 locs1 → W p l e R s m args below meth c H1 locs1 cells slots Q (F0 m (pc + 1) ls rest)) : W p l e R s m args below meth c H locs cells slots Q (F0 m pc ls (.int x :: .int i :: .ref a :: rest)) :=
  va_cast hexec hb hK hP hD hS q0 t0 ha ht (r_in hi hk hn) hdg (by rw [r_ix hi hk hn, hx]; exact kk)
end MyRows
/-- an array's cell, with other contents outside its bounds -/
theorem arr_ext {cA : ClassId} {n : Nat} {f g : Nat → Int32} (h : ∀ j, j < n → f j = g j) : vp_cell cA (n, .inl f) = vp_cell cA (n, .inl g) := by
  rw [vp_cell_i, vp_cell_i]
  unfold arrV
  congr 2
  funext j
  show Value.int (f j.val) = Value.int (g j.val)
  rw [h j.val j.isLt]
theorem arr_extf {cA : ClassId} {n : Nat} {f g : Nat → UInt32} (h : ∀ j, j < n → f j = g j) : vp_cell cA (n, .inr (.inr (.inl f))) = vp_cell cA (n, .inr (.inr (.inl g))) := by
  rw [vp_cell_f, vp_cell_f]
  unfold arrV
  congr 2
  funext j
  show Value.float (f j.val) = Value.float (g j.val)
  rw [h j.val j.isLt]
/-- the same cells, told otherwise -/
def ceq (q q' : Nat × va_E) : Prop := q = q' ∨ (q.1 = q'.1 ∧ ∃ (cA : ClassId) (x y : vp_A), q.2 = .inl (cA, x) ∧ q'.2 = .inl (cA, y) ∧ vp_cell cA x = vp_cell cA y)
theorem ceq.at {D : va_G} {cl : List vw_C} {q q' : Nat × va_E} {H : Heap} (h : ceq q q') (hq : va_at D cl q H) : va_at D cl q' H := by
  rcases h with rfl | ⟨h1, cA, x, y, h2, h3, h4⟩
  · exact hq
  · obtain ⟨a, e⟩ := q
    obtain ⟨b, f⟩ := q'
    cases h1
    cases h2
    cases h3
    show H[a]? = some (vp_cell cA y)
    rw [← h4]
    exact hq
theorem ceq.rf (q : Nat × va_E) : ceq q q := Or.inl rfl
theorem ceq.i {a : Nat} {cA : ClassId} {n : Nat} {f g : Nat → Int32} (h : ∀ j, j < n → f j = g j) : ceq (a, .inl (cA, n, .inl f)) (a, .inl (cA, n, .inl g)) := Or.inr ⟨rfl, cA, _, _, rfl, rfl, arr_ext h⟩
theorem ceq.f {a : Nat} {cA : ClassId} {n : Nat} {f g : Nat → UInt32} (h : ∀ j, j < n → f j = g j) : ceq (a, .inl (cA, n, .inr (.inr (.inl f)))) (a, .inl (cA, n, .inr (.inr (.inl g)))) := Or.inr ⟨rfl, cA, _, _, rfl, rfl, arr_extf h⟩
def ceqs : va_W → va_W → Prop
  | [], [] => True
  | q :: l, q' :: l' => ceq q q' ∧ ceqs l l'
  | _, _ => False
theorem ceqs.P {D : va_G} {cl : List vw_C} {H : Heap} : ∀ {ws ws' : va_W}, ceqs ws ws' → va_P D cl ws H → va_P D cl ws' H := by
  intro ws
  induction ws with
  | nil => intro ws' h hP; cases ws' with
    | nil => exact hP
    | cons q l => exact h.elim
  | cons q l ih => intro ws' h hP; cases ws' with
    | nil => exact h.elim
    | cons q' l' =>
      obtain ⟨h1, h2⟩ := h
      have hP := pw_iff.mp hP
      have h3 := pw_iff.mp (ih h2 (pw_iff.mpr (fun x hx => hP x (List.mem_cons_of_mem _ hx))))
      refine pw_iff.mpr (fun x hx => ?_)
      rcases List.mem_cons.mp hx with rfl | hx
      · exact h1.at (hP q List.mem_cons_self)
      · exact h3 x hx
