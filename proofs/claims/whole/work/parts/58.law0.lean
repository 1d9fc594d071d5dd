/-! the law: what its walk stands on -/
theorem f2d_ok {a : UInt32} (h : Jvm.FP.Core.val32 a ≠ .nan) : vf_n64 (FP.f2d a) ∧ Op.cmpValue (FP.dcmp (FP.f2d a) (FP.f2d a)) CmpOp.l = 0 := by
  have hf : Jvm.FP.Core.fIsNaN a = false := (Jvm.FP.Core.notNaN_iff32 a).mpr h
  have e : FP.f2d a = Jvm.FP.Core.f2d a := by
    unfold FP.f2d
    rw [hf]
    rfl
  have hn : Jvm.FP.Core.val64 (Jvm.FP.Core.f2d a) ≠ .nan := by
    rw [Jvm.FP.Core.val64_f2d, Ne, Jvm.FP.Core.round_nan]
    exact h
  rw [e]
  constructor
  · have h1 := (Jvm.FP.Core.ne_nan _).mp hn
    unfold vf_n64
    rw [UInt64.le_iff_toNat_le, UInt64.toNat_and]
    show (Jvm.FP.Core.f2d a).toNat &&& (2 ^ 63 - 1) ≤ 9218868437227405312
    rw [Nat.and_two_pow_sub_one_eq_mod]
    exact h1
  · have h2 : FP.dcmp (Jvm.FP.Core.f2d a) (Jvm.FP.Core.f2d a) = some .eq := Jvm.FP.Core.dcmp_self hn
    rw [h2]
    rfl
theorem cur_nn {A : AS} (ok : Inv (aV A)) (x : Int32) : Jvm.FP.Core.val32 (f_current A x) ≠ .nan := by
  have h := ok.2.2.2.2.2.2.2
  have h0 : Jvm.FP.Core.val32 FP.fconst0 ≠ .nan := ff_0.1.ne_nan
  unfold f_current pFl
  split
  · exact h.1.1.ne_nan
  · split
    · exact h.2.1.1.ne_nan
    · split
      · exact h.2.2
      · exact h0
theorem duty_nn {A : AS} (x : Int32) : Jvm.FP.Core.val32 (f_duty A x) ≠ .nan := by
  have h0 : Jvm.FP.Core.val32 FP.fconst0 ≠ .nan := ff_0.1.ne_nan
  unfold f_duty
  split
  · split
    · exact h0
    · rename_i hy
      exact (Jvm.FP.Core.notNaN_iff32 _).mp (Jvm.FP.Core.fdiv_out (Jvm.FP.Core.i2f_fin _).notNaN (Jvm.FP.Core.i2f_fin _) (fun h => Jvm.FP.Core.i2f_ne_zero hy ((Jvm.FP.Core.zero_bits232 _).mp h)))
  · exact h0
theorem c16 (x : Int32) : vp_nar .char (x.toUInt32 % 65536).toInt32 = (x.toUInt32 % 65536).toInt32 := by
  unfold vp_nar
  rw [pk_nc]
/-- what stays over the law's whole walk -/
def LC (p : Program) (s : State) (m : MethodId) (meth : Method) (c : Code) (b L : Nat) (xs : Nat → Int32) (D : va_G) (ct : Nat → ClassId) : Prop :=
  p.tables.exec = Jvm.exec ∧ c.code = code ∧ c.maxLocals = 8 ∧ s.vm.findClass RL = some m.cls ∧ (∀ w ∈ wsL_law, w.before #[Value.ref b] s = true) ∧ va_X b L xs s s.heap ∧ b < s.heap.size ∧ va_K D vwCl (tysOf ct) s ∧ nsB s ∧ stT (fun q : Nat => s.heap.size ≤ q) s s.heap ∧ meth.sig.returnType = ret ∧ meth.locks = false ∧ L ≤ 2048
/-- what holds ahead of each call: both worlds hold values that agree -/
def LI (s : State) (D : va_G) (ct : Nat → ClassId) (o : Nat → Nat) (ad : Nat → Nat → Nat) (a : Nat → Nat) (cnt : Nat) (H : Heap) (locs : List Loc) : Prop :=
  ∃ (A B : AS) (W1 W2 : va_W), CX ct o ad A W1 ∧ MX ct a B W2 ∧ asim A B ∧ aOk (7000 * cnt) A ∧ aOk (7000 * cnt) B ∧ va_P D vwCl (W1 ++ W2) H ∧ va_D (fun q : Nat => s.heap.size ≤ q) (W1 ++ W2) ∧ va_S (fun q : Nat => s.heap.size ≤ q) s.heap H locs
theorem CX.obj {ct : Nat → ClassId} {o : Nat → Nat} {ad : Nat → Nat → Nat} {A : AS} {W : va_W} (h : CX ct o ad A W) : W[29]? = some (o 0, .inr (5, [.ref (ad 8 0), .ref (ad 5 0), .ref (o 7), .ref (o 4), .ref (o 1)])) := by
  obtain ⟨z, w, n, nd, g, rfl, -⟩ := h
  exact xw_get (i := 0) rfl
theorem MX.obj {ct : Nat → ClassId} {a : Nat → Nat} {A : AS} {W : va_W} (h : MX ct a A W) : ∃ fs, W[0]? = some (a 0, .inr (6, fs)) := by
  obtain ⟨u, rd, rfl⟩ := h
  exact ⟨_, rfl⟩
theorem cx_recv {s : State} {D : va_G} {ct : Nat → ClassId} {o : Nat → Nat} {ad : Nat → Nat → Nat} {A : AS} {W1 W2 : va_W} {H : Heap} (hK : va_K D vwCl (tysOf ct) s) (hP : va_P D vwCl (W1 ++ W2) H) (h : CX ct o ad A W1) : ∃ cell : Cell, H[o 0]? = some cell ∧ cell.vm.isStatics = false ∧ s.vm.findClass RX5 = some cell.cls :=
  va_recv hK (pw_left hP) (ci := 5) (q0 := 29) rfl h.obj
theorem mx_recv {s : State} {D : va_G} {ct : Nat → ClassId} {a : Nat → Nat} {A : AS} {W1 W2 : va_W} {H : Heap} (hK : va_K D vwCl (tysOf ct) s) (hP : va_P D vwCl (W1 ++ W2) H) (h : MX ct a A W2) : ∃ cell : Cell, H[a 0]? = some cell ∧ cell.vm.isStatics = false ∧ s.vm.findClass RX6 = some cell.cls := by
  obtain ⟨fs, he⟩ := h.obj
  exact va_recv hK (pw_right hP) (ci := 6) (q0 := 0) rfl he
/-! the claim's own words -/
/-! THE CLAIM OUT OF ONE WALK OF THE LAW'S BODY. Your part is whole_start (and what it stands on); all else here is the same for every law, but numbers. -/
def R_law : String := "ScannedDigitsLaw"
def lw_P (b : Addr) (xs : List Int32) (args : Array Value) (s : State) : Prop := args = #[.ref b] ∧ s.IntsAt b xs ∧ xs.length ≤ 2048 ∧ (Jvm.Cond.and given_1 narrow_1).before args s = true
/-- what a walk over the start with the record d0 says of its end, said of the start itself -/
theorem lw_closed {s t : State} {o : Outcome} {d0 : Drawn} {L : List Loc} {k n : Nat} (hd0 : s.drawn.sameBut d0 lw_cs) (hv : ∃ v, o = .returned v) (hW : (s.setDrawn d0).WarmedH t.vm) (hs : (s.setDrawn d0).sameButNew ({ t with vm := s.vm } : State) L k n) : State.butDraws s t lw_cs (fun t1 => Framed s o t1 L k n) := by
  have h2 : t.drawn = d0 := congrArg State.drawn hs.1
  refine ⟨⟨hv, hW, State.sameButNew.setDrawn hs s.drawn⟩, ?_, by decide⟩
  rw [h2]
  exact hd0
def lw_Q (_ : Array Value) (s : State) (o : Outcome) (t : State) : Prop := o = .returned (some (.int 1)) ∧ State.butDraws s t lw_cs (fun t1 => Framed s o t1 [] 600000 7302250)
def lw_Z (below : List Frame) (a : Array Value) (s : State) : State → Prop := fun t => ∃ o, t.status = .running ∧ Ended t below o ∧ lw_Q a s o t
/-- the law's own end, with 1 on the stack, nothing written that was there before, its room as the claim has it; d0: the record of draws at this point (at the entry s.drawn: begin with 'refine W.base ?_' and 'have hd0 := Drawn.sameBut.refl s.drawn lw_cs') -/
theorem lw_ret {p : Program} {l : Launch} {e : Env} {s : State} {m : MethodId} {below : List Frame} {meth : Method} {c : Code} {b : Nat} {d0 : Drawn} (hd0 : s.drawn.sameBut d0 lw_cs) (hx : p.tables.exec = Jvm.exec) (hb : c.code = code) (hr : meth.sig.returnType = ret) (hlocks : meth.locks = false) {pc : Nat} {H : Heap} {ls : Array Slot} (hdg : decode code pc = .ok (.ireturn, 1)) : W p l e room_1 (s.setDrawn d0) m #[Value.ref b] below meth c H [] 600000 7302250 (lw_Z below #[Value.ref b] s) (F0 m pc ls [.int 1]) := by
  intro T hT X
  obtain ⟨fs, hret, hrun, hended, hW, hframe⟩ := X.leave (v := some (.int 1)) (hlocks := hlocks) (fun h => by rw [hr] at h; cases h)
  have hmeth' : T.vm.method? m = some meth := X.method'
  refine ⟨T.setFrames fs, ?_, .returned (some (.int 1)), hrun, hended, rfl, lw_closed hd0 ⟨_, rfl⟩ hW hframe⟩
  jvm_step X.here [X.here.top, hx, hb, hdg, hmeth', hr, ret, narrow_b1]
  (try refine ⟨rfl, ?_⟩); (try refine ⟨rfl, ?_⟩)
  first | (intro acts; rw [hret _ acts rfl rfl rfl]) | rw [hret _ _ rfl rfl rfl]
  exact Steps.refl _
/-- what holds at the law's entry: the machine, the code, the tables' words (any of lw_tbl by 'hts w (by decide +kernel)'), the script of L ints xs at the cell b, what the Statement gives of the start (any of its parts by flat_of_before) -/
def lw_At (p : Program) (s : State) (m : MethodId) (meth : Method) (c : Code) (b L : Nat) (xs : Nat → Int32) : Prop :=
  p.tables.exec = Jvm.exec ∧ c.code = code ∧ meth.sig.returnType = ret ∧ c.maxLocals = 8 ∧ s.vm.findClass R_law = some m.cls ∧ (∀ w ∈ lw_tbl, w.before #[Value.ref b] s = true) ∧ va_X b L xs s s.heap ∧ b < s.heap.size ∧ meth.locks = false ∧ (Jvm.Cond.and given_1 narrow_1).before #[Value.ref b] s = true
