section
-- ===== PART A: goes FIRST, ahead of the names: the tables' words, and 'selects' of the private methods out of them =====
/-- a private method of a class that the tables say can be made, by its rows of tables_1 -/
def lw_okq (q : MethodName × Nat) : Prop := (q.1.cls ≠ "java/lang/invoke/MethodHandle" ∧ q.1.cls ≠ "java/lang/invoke/VarHandle") ∧ Cond.instantiable q.1.cls q.2 ∈ tables_1 ∧ Cond.privateMethod q.1 ∈ tables_1 ∧ Cond.instanceMethod q.1 ∈ tables_1
theorem lw_p0 : lw_okq (⟨"UnitRows", "unitsStanding", "()I"⟩, 10) := ⟨⟨by decide +kernel, by decide +kernel⟩, List.mem_of_getElem? (i := 17) (by decide +kernel), List.mem_of_getElem? (i := 132) (by decide +kernel), List.mem_of_getElem? (i := 133) (by decide +kernel)⟩
theorem lw_p1 : lw_okq (⟨"java/lang/Throwable", "fillInStackTrace", "(I)Ljava/lang/Throwable;"⟩, 6) := ⟨⟨by decide +kernel, by decide +kernel⟩, List.mem_of_getElem? (i := 190) (by decide +kernel), List.mem_of_getElem? (i := 188) (by decide +kernel), List.mem_of_getElem? (i := 189) (by decide +kernel)⟩
theorem lw_p2 : lw_okq (⟨"UnitRows", "unitsAt", "(I)I"⟩, 10) := ⟨⟨by decide +kernel, by decide +kernel⟩, List.mem_of_getElem? (i := 17) (by decide +kernel), List.mem_of_getElem? (i := 257) (by decide +kernel), List.mem_of_getElem? (i := 258) (by decide +kernel)⟩
theorem lw_p3 : lw_okq (⟨"UnitRows", "needRows", "(I)V"⟩, 10) := ⟨⟨by decide +kernel, by decide +kernel⟩, List.mem_of_getElem? (i := 17) (by decide +kernel), List.mem_of_getElem? (i := 332) (by decide +kernel), List.mem_of_getElem? (i := 333) (by decide +kernel)⟩
theorem lw_p4 : lw_okq (⟨"UnitRows", "needSpace", "(II)V"⟩, 10) := ⟨⟨by decide +kernel, by decide +kernel⟩, List.mem_of_getElem? (i := 17) (by decide +kernel), List.mem_of_getElem? (i := 341) (by decide +kernel), List.mem_of_getElem? (i := 342) (by decide +kernel)⟩
theorem lw_p5 : lw_okq (⟨"UnitRows", "nextUnit", "()LUnitRows$Unit;"⟩, 10) := ⟨⟨by decide +kernel, by decide +kernel⟩, List.mem_of_getElem? (i := 17) (by decide +kernel), List.mem_of_getElem? (i := 346) (by decide +kernel), List.mem_of_getElem? (i := 347) (by decide +kernel)⟩
theorem lw_p6 : lw_okq (⟨"UnitRows", "addRow", "(LUnitRows$Unit;II)V"⟩, 10) := ⟨⟨by decide +kernel, by decide +kernel⟩, List.mem_of_getElem? (i := 17) (by decide +kernel), List.mem_of_getElem? (i := 363) (by decide +kernel), List.mem_of_getElem? (i := 364) (by decide +kernel)⟩
theorem lw_p7 : lw_okq (⟨"UnitRows", "unitOf", "(I)LUnitRows$Unit;"⟩, 10) := ⟨⟨by decide +kernel, by decide +kernel⟩, List.mem_of_getElem? (i := 17) (by decide +kernel), List.mem_of_getElem? (i := 379) (by decide +kernel), List.mem_of_getElem? (i := 380) (by decide +kernel)⟩
theorem lw_p8 : lw_okq (⟨"UnitRows", "unitsWithin", "(LUnitRows$Unit;)I"⟩, 10) := ⟨⟨by decide +kernel, by decide +kernel⟩, List.mem_of_getElem? (i := 17) (by decide +kernel), List.mem_of_getElem? (i := 389) (by decide +kernel), List.mem_of_getElem? (i := 390) (by decide +kernel)⟩
theorem lw_p9 : lw_okq (⟨"UnitRows", "carry", "(LUnitRows$Unit;I)V"⟩, 10) := ⟨⟨by decide +kernel, by decide +kernel⟩, List.mem_of_getElem? (i := 17) (by decide +kernel), List.mem_of_getElem? (i := 397) (by decide +kernel), List.mem_of_getElem? (i := 398) (by decide +kernel)⟩
theorem lw_p10 : lw_okq (⟨"UnitRows", "canLieIn", "(LUnitRows$Unit;LUnitRows$Unit;)Z"⟩, 10) := ⟨⟨by decide +kernel, by decide +kernel⟩, List.mem_of_getElem? (i := 17) (by decide +kernel), List.mem_of_getElem? (i := 408) (by decide +kernel), List.mem_of_getElem? (i := 409) (by decide +kernel)⟩
theorem lw_p11 : lw_okq (⟨"UnitRows", "levels", "(LUnitRows$Unit;)I"⟩, 10) := ⟨⟨by decide +kernel, by decide +kernel⟩, List.mem_of_getElem? (i := 17) (by decide +kernel), List.mem_of_getElem? (i := 417) (by decide +kernel), List.mem_of_getElem? (i := 418) (by decide +kernel)⟩
theorem lw_p12 : lw_okq (⟨"UnitRows", "isPlain", "(LUnitRows$Unit;)Z"⟩, 10) := ⟨⟨by decide +kernel, by decide +kernel⟩, List.mem_of_getElem? (i := 17) (by decide +kernel), List.mem_of_getElem? (i := 440) (by decide +kernel), List.mem_of_getElem? (i := 441) (by decide +kernel)⟩
theorem lw_p13 : lw_okq (⟨"UnitRows", "canJoin", "(LUnitRows$Unit;LUnitRows$Unit;)Z"⟩, 10) := ⟨⟨by decide +kernel, by decide +kernel⟩, List.mem_of_getElem? (i := 17) (by decide +kernel), List.mem_of_getElem? (i := 452) (by decide +kernel), List.mem_of_getElem? (i := 453) (by decide +kernel)⟩
theorem lw_p14 : lw_okq (⟨"UnitRows", "takeAway", "(LUnitRows$Unit;I)V"⟩, 10) := ⟨⟨by decide +kernel, by decide +kernel⟩, List.mem_of_getElem? (i := 17) (by decide +kernel), List.mem_of_getElem? (i := 461) (by decide +kernel), List.mem_of_getElem? (i := 462) (by decide +kernel)⟩
theorem lw_p15 : lw_okq (⟨"UnitRows", "isSerialInUse", "(J)Z"⟩, 10) := ⟨⟨by decide +kernel, by decide +kernel⟩, List.mem_of_getElem? (i := 17) (by decide +kernel), List.mem_of_getElem? (i := 487) (by decide +kernel), List.mem_of_getElem? (i := 488) (by decide +kernel)⟩
def lw_privs_1 : List (MethodName × Nat) := [(⟨"UnitRows", "unitsStanding", "()I"⟩, 10), (⟨"java/lang/Throwable", "fillInStackTrace", "(I)Ljava/lang/Throwable;"⟩, 6), (⟨"UnitRows", "unitsAt", "(I)I"⟩, 10), (⟨"UnitRows", "needRows", "(I)V"⟩, 10), (⟨"UnitRows", "needSpace", "(II)V"⟩, 10), (⟨"UnitRows", "nextUnit", "()LUnitRows$Unit;"⟩, 10), (⟨"UnitRows", "addRow", "(LUnitRows$Unit;II)V"⟩, 10), (⟨"UnitRows", "unitOf", "(I)LUnitRows$Unit;"⟩, 10), (⟨"UnitRows", "unitsWithin", "(LUnitRows$Unit;)I"⟩, 10), (⟨"UnitRows", "carry", "(LUnitRows$Unit;I)V"⟩, 10), (⟨"UnitRows", "canLieIn", "(LUnitRows$Unit;LUnitRows$Unit;)Z"⟩, 10), (⟨"UnitRows", "levels", "(LUnitRows$Unit;)I"⟩, 10), (⟨"UnitRows", "isPlain", "(LUnitRows$Unit;)Z"⟩, 10), (⟨"UnitRows", "canJoin", "(LUnitRows$Unit;LUnitRows$Unit;)Z"⟩, 10), (⟨"UnitRows", "takeAway", "(LUnitRows$Unit;I)V"⟩, 10), (⟨"UnitRows", "isSerialInUse", "(J)Z"⟩, 10)]
theorem lw_r1 : ∀ q ∈ lw_privs_1, lw_okq q := List.forall_mem_cons.mpr ⟨lw_p0, List.forall_mem_cons.mpr ⟨lw_p1, List.forall_mem_cons.mpr ⟨lw_p2, List.forall_mem_cons.mpr ⟨lw_p3, List.forall_mem_cons.mpr ⟨lw_p4, List.forall_mem_cons.mpr ⟨lw_p5, List.forall_mem_cons.mpr ⟨lw_p6, List.forall_mem_cons.mpr ⟨lw_p7, List.forall_mem_cons.mpr ⟨lw_p8, List.forall_mem_cons.mpr ⟨lw_p9, List.forall_mem_cons.mpr ⟨lw_p10, List.forall_mem_cons.mpr ⟨lw_p11, List.forall_mem_cons.mpr ⟨lw_p12, List.forall_mem_cons.mpr ⟨lw_p13, List.forall_mem_cons.mpr ⟨lw_p14, List.forall_mem_cons.mpr ⟨lw_p15, fun _ h => absurd h List.not_mem_nil⟩⟩⟩⟩⟩⟩⟩⟩⟩⟩⟩⟩⟩⟩⟩⟩
theorem lw_p16 : lw_okq (⟨"UnitRows", "gramsOf", "(I)I"⟩, 10) := ⟨⟨by decide +kernel, by decide +kernel⟩, List.mem_of_getElem? (i := 17) (by decide +kernel), List.mem_of_getElem? (i := 515) (by decide +kernel), List.mem_of_getElem? (i := 516) (by decide +kernel)⟩
theorem lw_p17 : lw_okq (⟨"UnitRowsModel", "standingAt", "(I)I"⟩, 22) := ⟨⟨by decide +kernel, by decide +kernel⟩, List.mem_of_getElem? (i := 614) (by decide +kernel), List.mem_of_getElem? (i := 706) (by decide +kernel), List.mem_of_getElem? (i := 707) (by decide +kernel)⟩
theorem lw_p18 : lw_okq (⟨"UnitRowsModel", "stands", "(I)Z"⟩, 22) := ⟨⟨by decide +kernel, by decide +kernel⟩, List.mem_of_getElem? (i := 614) (by decide +kernel), List.mem_of_getElem? (i := 710) (by decide +kernel), List.mem_of_getElem? (i := 711) (by decide +kernel)⟩
theorem lw_p19 : lw_okq (⟨"UnitRowsModel", "isOver", "(I)Z"⟩, 22) := ⟨⟨by decide +kernel, by decide +kernel⟩, List.mem_of_getElem? (i := 614) (by decide +kernel), List.mem_of_getElem? (i := 729) (by decide +kernel), List.mem_of_getElem? (i := 730) (by decide +kernel)⟩
theorem lw_p20 : lw_okq (⟨"UnitRowsModel", "make", "(IIIIII)I"⟩, 22) := ⟨⟨by decide +kernel, by decide +kernel⟩, List.mem_of_getElem? (i := 614) (by decide +kernel), List.mem_of_getElem? (i := 733) (by decide +kernel), List.mem_of_getElem? (i := 734) (by decide +kernel)⟩
theorem lw_p21 : lw_okq (⟨"UnitRowsModel", "act", "(III)V"⟩, 22) := ⟨⟨by decide +kernel, by decide +kernel⟩, List.mem_of_getElem? (i := 614) (by decide +kernel), List.mem_of_getElem? (i := 737) (by decide +kernel), List.mem_of_getElem? (i := 738) (by decide +kernel)⟩
theorem lw_p22 : lw_okq (⟨"UnitRowsModel", "isUnit", "(I)Z"⟩, 22) := ⟨⟨by decide +kernel, by decide +kernel⟩, List.mem_of_getElem? (i := 614) (by decide +kernel), List.mem_of_getElem? (i := 745) (by decide +kernel), List.mem_of_getElem? (i := 746) (by decide +kernel)⟩
theorem lw_p23 : lw_okq (⟨"UnitRowsModel", "load", "(I)I"⟩, 22) := ⟨⟨by decide +kernel, by decide +kernel⟩, List.mem_of_getElem? (i := 614) (by decide +kernel), List.mem_of_getElem? (i := 749) (by decide +kernel), List.mem_of_getElem? (i := 750) (by decide +kernel)⟩
theorem lw_p24 : lw_okq (⟨"UnitRowsModel", "isIn", "(II)Z"⟩, 22) := ⟨⟨by decide +kernel, by decide +kernel⟩, List.mem_of_getElem? (i := 614) (by decide +kernel), List.mem_of_getElem? (i := 753) (by decide +kernel), List.mem_of_getElem? (i := 754) (by decide +kernel)⟩
theorem lw_p25 : lw_okq (⟨"UnitRowsModel", "depth", "(I)I"⟩, 22) := ⟨⟨by decide +kernel, by decide +kernel⟩, List.mem_of_getElem? (i := 614) (by decide +kernel), List.mem_of_getElem? (i := 761) (by decide +kernel), List.mem_of_getElem? (i := 762) (by decide +kernel)⟩
theorem lw_p26 : lw_okq (⟨"UnitRowsModel", "tall", "(I)I"⟩, 22) := ⟨⟨by decide +kernel, by decide +kernel⟩, List.mem_of_getElem? (i := 614) (by decide +kernel), List.mem_of_getElem? (i := 765) (by decide +kernel), List.mem_of_getElem? (i := 766) (by decide +kernel)⟩
theorem lw_p27 : lw_okq (⟨"UnitRowsModel", "areAlike", "(II)Z"⟩, 22) := ⟨⟨by decide +kernel, by decide +kernel⟩, List.mem_of_getElem? (i := 614) (by decide +kernel), List.mem_of_getElem? (i := 781) (by decide +kernel), List.mem_of_getElem? (i := 782) (by decide +kernel)⟩
theorem lw_p28 : lw_okq (⟨"UnitRowsModel", "leave", "(II)V"⟩, 22) := ⟨⟨by decide +kernel, by decide +kernel⟩, List.mem_of_getElem? (i := 614) (by decide +kernel), List.mem_of_getElem? (i := 785) (by decide +kernel), List.mem_of_getElem? (i := 786) (by decide +kernel)⟩
theorem lw_p29 : lw_okq (⟨"UnitRowsModel", "mayBecome", "(II)Z"⟩, 22) := ⟨⟨by decide +kernel, by decide +kernel⟩, List.mem_of_getElem? (i := 614) (by decide +kernel), List.mem_of_getElem? (i := 794) (by decide +kernel), List.mem_of_getElem? (i := 795) (by decide +kernel)⟩
def lw_privs_2 : List (MethodName × Nat) := [(⟨"UnitRows", "gramsOf", "(I)I"⟩, 10), (⟨"UnitRowsModel", "standingAt", "(I)I"⟩, 22), (⟨"UnitRowsModel", "stands", "(I)Z"⟩, 22), (⟨"UnitRowsModel", "isOver", "(I)Z"⟩, 22), (⟨"UnitRowsModel", "make", "(IIIIII)I"⟩, 22), (⟨"UnitRowsModel", "act", "(III)V"⟩, 22), (⟨"UnitRowsModel", "isUnit", "(I)Z"⟩, 22), (⟨"UnitRowsModel", "load", "(I)I"⟩, 22), (⟨"UnitRowsModel", "isIn", "(II)Z"⟩, 22), (⟨"UnitRowsModel", "depth", "(I)I"⟩, 22), (⟨"UnitRowsModel", "tall", "(I)I"⟩, 22), (⟨"UnitRowsModel", "areAlike", "(II)Z"⟩, 22), (⟨"UnitRowsModel", "leave", "(II)V"⟩, 22), (⟨"UnitRowsModel", "mayBecome", "(II)Z"⟩, 22)]
theorem lw_r2 : ∀ q ∈ lw_privs_2, lw_okq q := List.forall_mem_cons.mpr ⟨lw_p16, List.forall_mem_cons.mpr ⟨lw_p17, List.forall_mem_cons.mpr ⟨lw_p18, List.forall_mem_cons.mpr ⟨lw_p19, List.forall_mem_cons.mpr ⟨lw_p20, List.forall_mem_cons.mpr ⟨lw_p21, List.forall_mem_cons.mpr ⟨lw_p22, List.forall_mem_cons.mpr ⟨lw_p23, List.forall_mem_cons.mpr ⟨lw_p24, List.forall_mem_cons.mpr ⟨lw_p25, List.forall_mem_cons.mpr ⟨lw_p26, List.forall_mem_cons.mpr ⟨lw_p27, List.forall_mem_cons.mpr ⟨lw_p28, List.forall_mem_cons.mpr ⟨lw_p29, fun _ h => absurd h List.not_mem_nil⟩⟩⟩⟩⟩⟩⟩⟩⟩⟩⟩⟩⟩⟩
def lw_privs : List (MethodName × Nat) := lw_privs_1 ++ (lw_privs_2)
def lw_tbl : List Cond := k2_sels lw_privs ++ tables_1
theorem lw_privs_ok : ∀ q ∈ lw_privs, lw_okq q := by
  show ∀ q ∈ lw_privs_1 ++ (lw_privs_2), lw_okq q
  exact List.forall_mem_append.mpr ⟨lw_r1, lw_r2⟩
end
section
/-! a throw that comes up to a frame whose table names classes: the rows ahead name other classes (or lie elsewhere), one row takes it -/
section ZC
/-- the row z is passed by an object of the class 'thrown' -/
def zc_Pass (pl : Platform) (s₀ : State) (d : ClassId) (pc : Nat) (thrown : ClassId) (z : ExceptionTableEntry) : Prop :=
  covers z pc = false ∨ (z.catchType ≠ 0 ∧ ∃ k, s₀.vm.ClassLinks pl d z.catchType k ∧ s₀.vm.assignable thrown k = false)
theorem zc_row {Q : Handler → Pre} {E : CtlPost} {e : Env} {d : Bool} {acts : List Action} {s : State} {f : JFrame} {a : Addr} {x : ExceptionTableEntry} {t : List ExceptionTableEntry} {k : ClassId} {cell : Cell} (hx : covers x f.pc = true) (h0 : x.catchType ≠ 0)
    (hl : s.vm.ClassLinks e.platform f.method.cls x.catchType k) (hcell : s.heap[a]? = some cell) (hobj : ∀ q, cell.vm ≠ .statics q)
    (hk : ∃ q, s.vm.classes[cell.cls]? = some q) (hc : ∃ q, s.vm.classes[k]? = some q) :
    wp (findHandler.go f a (x :: t)) Q E e d acts s ↔ if s.vm.assignable cell.cls k = true then Q (.found x.handlerPc) d acts (s.setVm (s.vm.noted f.method.cls x.catchType (.cls k))) else wp (findHandler.go f a t) Q E e d acts (s.setVm (s.vm.noted f.method.cls x.catchType (.cls k))) := by
  simp only [covers] at hx
  obtain ⟨ha, ht⟩ := (resolveClass_links e.toSetting hl).op (op := VmOp.resolveClass f.method.cls x.catchType) rfl
  have hal : s.vm.Alike (s.vm.noted f.method.cls x.catchType (.cls k)) := (Vm.Alike.refl s.vm).noted _ _ _
  obtain ⟨k1, hk1⟩ := hk
  obtain ⟨k2, hk2⟩ := hc
  obtain ⟨k1', hk1', -⟩ := hal.2.2 _ _ hk1
  obtain ⟨k2', hk2', -⟩ := hal.2.2 _ _ hk2
  have hasg : (s.vm.noted f.method.cls x.catchType (.cls k)).assignable cell.cls k = s.vm.assignable cell.cls k := hal.assignable ..
  by_cases hb : s.vm.assignable cell.cls k = true
  · rw [hb] at hasg
    simp [findHandler.go, hx, h0, ha, ht, hcell, hobj, hk1', hk2', hasg, hb, VmOp.dirties, VmOp.acts]
  · have hb' : s.vm.assignable cell.cls k = false := by simpa using hb
    rw [hb'] at hasg
    simp [findHandler.go, hx, h0, ha, ht, hcell, hobj, hk1', hk2', hasg, hb', VmOp.dirties, VmOp.acts]
theorem zc_search {e : Env} {s₀ : State} {f : JFrame} {a : Addr} {cell : Cell} (hobj : ∀ k, cell.vm ≠ .statics k) (hk0 : ∃ k, s₀.vm.classes[cell.cls]? = some k)
    (x : ExceptionTableEntry) (suf : List ExceptionTableEntry) (hx : covers x f.pc = true) (hx0 : x.catchType ≠ 0) {kx : ClassId} (hlx : s₀.vm.ClassLinks e.platform f.method.cls x.catchType kx) (hfx : s₀.vm.assignable cell.cls kx = true) :
    ∀ (pre : List ExceptionTableEntry) (S : State), s₀.WarmedH S.vm → S.heap[a]? = some cell → (∀ z ∈ pre, zc_Pass e.platform s₀ f.method.cls f.pc cell.cls z) →
      ∃ vm', s₀.WarmedH vm' ∧ ∀ (Q : Handler → Pre) (E : CtlPost) (d : Bool) (acts : List Action), wp (findHandler.go f a (pre ++ x :: suf)) Q E e d acts S ↔ Q (.found x.handlerPc) d acts (S.setVm vm') := by
  obtain ⟨k0, hk0⟩ := hk0
  intro pre
  induction pre with
  | nil =>
    intro S hW hcell _
    obtain ⟨k0', hk0', -⟩ := hW.alike.2.2 _ _ hk0
    obtain ⟨dk, _, _, kt, hd, _, _, _, _, hkt, _, hopen⟩ := hlx.here
    obtain ⟨kt', hkt', -⟩ := hW.alike.2.2 _ _ hkt
    refine ⟨_, hW.noted hd hopen (State.rightAt_cls hlx), fun Q E d acts => ?_⟩
    rw [List.nil_append, zc_row hx hx0 (hW.classLinks hlx) hcell hobj ⟨k0', hk0'⟩ ⟨kt', hkt'⟩, if_pos (by rw [hW.alike.assignable]; exact hfx)]
  | cons z zs ih =>
    intro S hW hcell hpass
    obtain ⟨k0', hk0', -⟩ := hW.alike.2.2 _ _ hk0
    have hrest : ∀ w ∈ zs, zc_Pass e.platform s₀ f.method.cls f.pc cell.cls w := fun w hw => hpass w (List.mem_cons_of_mem _ hw)
    by_cases hcov : covers z f.pc = true
    · rcases hpass z List.mem_cons_self with h | ⟨h0, kz, hl, hno⟩
      · rw [h] at hcov; cases hcov
      · obtain ⟨dk, _, _, kt, hd, _, _, _, _, hkt, _, hopen⟩ := hl.here
        obtain ⟨kt', hkt', -⟩ := hW.alike.2.2 _ _ hkt
        obtain ⟨vm', hW', hq⟩ := ih (S.setVm (S.vm.noted f.method.cls z.catchType (.cls kz))) (hW.noted hd hopen (State.rightAt_cls hl)) hcell hrest
        refine ⟨vm', hW', fun Q E d acts => ?_⟩
        rw [List.cons_append, zc_row hcov h0 (hW.classLinks hl) hcell hobj ⟨k0', hk0'⟩ ⟨kt', hkt'⟩, if_neg (by rw [hW.alike.assignable, hno]; decide)]
        exact hq Q E d acts
    · obtain ⟨vm', hW', hq⟩ := ih S hW hcell hrest
      refine ⟨vm', hW', fun Q E d acts => ?_⟩
      rw [List.cons_append, Jvm.W.findHandler_go_skip (by simpa using hcov)]
      exact hq Q E d acts
theorem zc_frames (u : State) (vm' : Vm) (F G : List Frame) : ((u.setFrames F).setVm vm').setFrames G = (u.setVm vm').setFrames G := by
  have h1 : (u.setFrames F).setVm vm' = (u.setVm vm').setFrames F := rfl
  rw [h1, State.setFrames_setFrames]
/-- into the handler: the walk goes on at its pc, the reference alone on the stack -/
theorem zc_caught {p : Program} {l : Launch} {e : Env} {R : Room} {s : State} {m : MethodId} {args : Array Value} {below : List Frame} {meth : Method} {c : Code} {T : State} {locs : List Loc} {cells slots : Nat}
    (X : Stand p l e R s m args below meth c T locs cells slots) (a : Addr) {g : JFrame} (hg : g.method = m) {cell : Cell} (hcell : T.heap[a]? = some cell) (hobj : cell.vm.isStatics = false) (hk0 : ∃ k, s.vm.classes[cell.cls]? = some k)
    (pre : List ExceptionTableEntry) (x : ExceptionTableEntry) (suf : List ExceptionTableEntry) (hsplit : c.exceptionTable.toList = pre ++ x :: suf)
    (hpass : ∀ z ∈ pre, zc_Pass e.platform s m.cls g.pc cell.cls z) (hx : covers x g.pc = true) (hx0 : x.catchType ≠ 0) {kx : ClassId} (hlx : s.vm.ClassLinks e.platform m.cls x.catchType kx) (hfx : s.vm.assignable cell.cls kx = true) :
    ∃ vm', Stand p l e R s m args below meth c (T.setVm vm') locs cells slots ∧
      ∀ target, Steps p.tables e below ((T.setVm vm').setTop { g with pc := x.handlerPc, stack := [.ref a] }) target → Steps p.tables e below ((T.setTop g).pushFrame (.throwing a)) target := by
  subst hg
  obtain ⟨vm', hW', hq⟩ := zc_search (e := e) (s₀ := s) (f := g) (a := a) (VmData.ne_statics_of hobj) hk0 x suf hx hx0 hlx hfx pre ((T.setTop g).pushFrame (.throwing a)) X.warmed hcell hpass
  have hfind : ∀ (Q : Handler → Pre) (E : CtlPost) (d : Bool) (acts : List Action), wp (findHandler g a) Q E e d acts ((T.setTop g).pushFrame (.throwing a)) ↔ Q (.found x.handlerPc) d acts (((T.setTop g).pushFrame (.throwing a)).setVm vm') := by
    intro Q E d acts
    have hm9 : ((T.setTop g).pushFrame (.throwing a)).vm.method? g.method = some meth := X.method'
    rw [Jvm.W.findHandler_eq hm9 X.code, hsplit]
    exact hq Q E d acts
  refine ⟨vm', X.noted hW', fun target hrest => ?_⟩
  have h := X.here
  obtain ⟨hgo, hw⟩ := h.throwing a
  refine Steps.head hgo hw ?_
  have hstep : (stepThrowing e ((T.setTop g).pushFrame (.throwing a)) a (.java g :: T.frames.tail)).Is ((((T.setTop g).pushFrame (.throwing a)).setVm vm').setFrames (.java { g with pc := x.handlerPc, stack := [.ref a] } :: T.frames.tail)) [] := by
    simp only [stepThrowing, searchFrame, vmDo]
    generalize hr : Sem.go _ e false [] _ = res
    obtain ⟨as, rfl, ha⟩ := Sem.eq_ok_of hr (a := Handler.found x.handlerPc) (s' := ((T.setTop g).pushFrame (.throwing a)).setVm vm') (acts' := []) (by simp [hfind _ _ _ _])
    exact ⟨rfl, ha⟩
  rw [stepThread_throwing (frames_entered h.top _), hstep.1]
  obtain ⟨g₀, hg⟩ := Option.isSome_iff_exists.mp h.top
  obtain ⟨r, hr⟩ := State.topJava?_eq_some.mp hg
  have hr' : (T.setVm vm').frames = .java g₀ :: r := hr
  rw [State.setTop_of_frames _ hr'] at hrest
  rw [hr, List.tail_cons, State.pushFrame, zc_frames, State.setTop_of_frames _ hr, zc_frames]
  exact hrest
end ZC
end
section
/-! ===== BEGIN words of one list among another's, by their places ===== -/
theorem goodIn_r {big : List Cond} (ws : List Cond) (ps : List Nat) (hp : ws = ps.filterMap (fun i => big[i]?)) (h : ws.all goodWord = true) : GoodIn big ws := by
  intro w hw
  have h1 := List.all_eq_true.mp h w hw
  rw [hp] at hw
  obtain ⟨i, -, hi⟩ := List.mem_filterMap.mp hw
  have hm : w ∈ big := by first | exact List.mem_of_getElem? hi | exact List.getElem?_mem hi
  exact ⟨hm, good_of_word h1⟩
theorem goodIn_app {big a b : List Cond} (ha : GoodIn big a) (hb : GoodIn big b) : GoodIn big (a ++ b) := fun w h => (List.mem_append.mp h).elim (ha w) (hb w)
theorem goodIn_ca {big a b : List Cond} {c : Cond} (ha : GoodIn big (c :: a)) (hb : GoodIn big b) : GoodIn big (c :: (a ++ b)) := fun w h => (List.mem_cons.mp h).elim (fun e => ha w (List.mem_cons.mpr (Or.inl e))) (fun h => (List.mem_append.mp h).elim (fun h => ha w (List.mem_cons.mpr (Or.inr h))) (hb w))
theorem goodIn_sub {big ws : List Cond} (hm : ∀ w ∈ ws, w ∈ big) (h : ws.all goodWord = true) : GoodIn big ws := fun w hw => ⟨hm w hw, good_of_word (List.all_eq_true.mp h w hw)⟩
/-! ===== END ===== -/

/-! ===== BEGIN exceptions that leave a method, and their catching by the caller (launches without stack traces) ===== -/
section VXA
/-! The laws vx_back, vx_callV, vx_callS, vx_callSW, vx_throw0, vx_throwS follow proofs of the library, with one case more: JvmDerived/Free/Laws.lean (Back.of_free), Shelf42/LK1.lean (callV, callS), Shelf/KitTraced.lean (throwNew0V, throwNewS). -/
/-- where a method has thrown q: the class by its name, the cell, what was written, the world -/
def vx_T (XC : String → State → State → Prop) (st : State) (q : Addr) (t : State) (mc ms : Nat) (free : Addr → Prop) : Prop :=
  ∃ (E : String) (ce : Cell) (L : List Loc), XC E st t ∧ t.heap[q]? = some ce ∧ ce.vm = .none ∧ st.vm.findClass E = some ce.cls ∧ st.WarmedH t.vm ∧ st.sameButNew ({ t with vm := st.vm } : State) L mc ms ∧ ∀ z ∈ L, free z.base
def vx_Q (Qc : Array Value → State → Outcome → State → Prop) (XC : String → State → State → Prop) (mc ms : Nat) (free : Addr → Prop) : Array Value → State → Outcome → State → Prop := fun a st o t =>
  (Qc a st o t ∧ ∃ L, FrameEnd st o t L mc ms ∧ ∀ q ∈ L, free q.base) ∨ ∃ q, o = .threw q ∧ vx_T XC st q t mc ms free
/-- a callee that returns or throws -/
def vx_Met (l : Launch) (y : MethodName) (ws : List Cond) (rm : Room) (Pc : Array Value → State → Prop) (Qc : Array Value → State → Outcome → State → Prop) (XC : String → State → State → Prop) (mc ms : Nat) (free : Addr → Prop) : Prop :=
  MetFree l y (headSpec ws rm) Pc (fun _ _ _ _ _ => True) (vx_Q Qc XC mc ms free)
def vx_Post (XC : String → State → State → Prop) (mc ms : Nat) (free : Addr → Prop) : Pt → Array Value → Addr → Pt → Prop := fun A a q B =>
  ∃ (g : JFrame) (mk : MethodId) (t : State) (L : List Loc) (E : String) (ce : Cell), B.U.heap = t.heap ∧ B.U.vm = t.vm ∧ XC E (A.U.calling g mk a) t ∧ t.heap[q]? = some ce ∧ ce.vm = .none ∧ A.U.vm.findClass E = some ce.cls ∧ B.locs = A.locs ++ L ∧ (∀ z ∈ L, free z.base) ∧ B.cells = A.cells + mc ∧ B.slots = A.slots + ms
def vx_Back (l : Launch) (R : Room) (p : Program) (e : Env) (below : List Frame) (s : State) (sargs : Array Value) (y : MethodName) (len W9 : Nat)
    (Pre : Pt → Array Value → Prop) (Post : Pt → Array Value → Option Value → Pt → Prop) (PostX : Pt → Array Value → Addr → Pt → Prop) : Prop :=
  ∀ (m : MethodId) (meth : Method) (c : Code) (A : Pt) (g : JFrame) (ig : Instr) (mk : MethodId) (a : Array Value),
    Stand p l e R s m sargs below meth c A.U A.locs A.cells A.slots → g.method = m → g.locals.size = c.maxLocals → decode c.code g.pc = .ok (ig, len) →
    2 * g.monitorRoom + (g.stack.map fun v => v.category).sum ≤ W9 → A.U.methodNamed? y = some mk → Pre A a →
    (∃ (v : Option Value) (B : Pt), Stand p l e R s m sargs below meth c B.U B.locs B.cells B.slots ∧ Post A a v B ∧
      Steps p.tables e below (doInvoke e (A.U.setTop g) [] mk a).1 (B.U.setTop { g with pc := g.pc + len, stack := v.toList ++ g.stack })) ∨
    (∃ (q : Addr) (B : Pt), Stand p l e R s m sargs below meth c B.U B.locs B.cells B.slots ∧ PostX A a q B ∧
      Steps p.tables e below (doInvoke e (A.U.setTop g) [] mk a).1 ((B.U.setTop g).pushFrame (.throwing q)))
section Payer
variable {l : Launch} {R : Room} {p : Program} {e : Env} {below : List Frame} {s : State} {sargs : Array Value} {y : MethodName} {len W9 : Nat}
theorem vx_back {ws : List Cond} {rm : Room} {Pc : Array Value → State → Prop} {Qc : Array Value → State → Outcome → State → Prop} {XC : String → State → State → Prop} {mc ms : Nat} {free : Addr → Prop} {bytes : ByteArray} {maxL : Nat} {ret : Option FieldType}
    (hM : vx_Met l y ws rm Pc Qc XC mc ms free) (hblind : FrameBlind Pc) (hrc : rm.cells = mc) (hrs : rm.slots = ms)
    (hframes : rm.frames + 1 ≤ R.frames) (hlocals : W9 + (maxL + 11) + rm.locals ≤ R.locals)
    (hws : ∀ w ∈ ws, ∀ a' U, s.WarmedH U.vm → w.before a' U = true) (hcode : Cond.code y bytes maxL ret ∈ ws) (hinit : ∀ a' U, s.WarmedH U.vm → (Cond.initialized y.cls).before a' U = true) :
    vx_Back l R p e below s sargs y len W9 (PreOf R mc ms Pc) (PostOf Qc mc ms free) (vx_Post XC mc ms free) := by
  intro m meth c A g ig mk a X hg hsize hdg hW hn hp
  have h1 : (headSpec ws rm).pre.before a A.U = true := atoms_intro fun w hw => hws w hw _ _ X.warmed
  have h2 : (Cond.code y bytes maxL ret).before a A.U = true := hws _ hcode _ _ X.warmed
  have h3 : (Cond.initialized y.cls).before a A.U = true := hinit _ _ X.warmed
  have h4 : A.cells + (headSpec ws rm).room.cells ≤ R.cells := by rw [show (headSpec ws rm).room.cells = mc from hrc]; exact hp.1
  have h5 : A.slots + (headSpec ws rm).room.slots ≤ R.slots := by rw [show (headSpec ws rm).room.slots = ms from hrs]; exact hp.2.1
  have hPc : Pc a (A.U.calling g mk a) := hblind _ _ _ _ hp.2.2
  obtain ⟨U, Ls, c0, s0⟩ := A
  dsimp only [Pt.U, Pt.locs, Pt.cells, Pt.slots] at h1 h2 h3 h4 h5 X hn hPc ⊢
  obtain ⟨methY, cY, hmY, hcY, -, hlY, -, -, -, -⟩ := Cond.code_spec hn h2
  obtain ⟨kY, hkY, -⟩ := className_of_methodNamed hn
  have hinitY : kY.init = .initialized := Cond.initialized_spec (findClass_of_methodNamed hn) hkY h3
  have h : At U g.method c below := by rw [hg]; exact X.here
  have hlocals9 : W9 + (maxL + 11) + (headSpec ws rm).room.locals ≤ R.locals := hlocals
  have happ : (headSpec ws rm).appliesLoose y e.platform (U.calling g mk a) = true :=
    Spec.appliesLoose_calling (g := g) h hdg hn hkY hinitY
      (X.room_calling (g := g) (R' := (headSpec ws rm).room) hsize hmY hcY hframes (by rw [hlY]; omega) h4 h5) h1
  obtain ⟨mid, hmid⟩ := h.above
  have hfr : (U.setTop g).frames = (.java g :: mid) ++ below := by rw [State.frames_setTop' g h.top, hmid]; rfl
  obtain ⟨o, s₂, hsteps, -, hend, hq⟩ := Steps.callFree hM p X.admits X.cas X.clock (acts := []) hfr happ hPc trivial
  have hq' : vx_Q Qc XC mc ms free a (U.calling g mk a) o s₂ := hq
  rw [State.frames_setTop' g h.top] at hend
  obtain ⟨g₀, hg0⟩ := Option.isSome_iff_exists.mp h.top
  obtain ⟨r, hr⟩ := State.topJava?_eq_some.mp hg0
  have hr' : (({ U with heap := s₂.heap, slotsUsed := s₂.slotsUsed } : State).setVm s₂.vm).frames = .java g₀ :: r := hr
  rcases hq' with ⟨hqc, L, hfe, hL⟩ | ⟨q, rfl, E, ce, L, hx, hce, hcv, hcl, hW₂, hsm, hL⟩
  · obtain ⟨⟨v, rfl⟩, hW₂, e2, q2, q3, q4, q5, q6⟩ := id hfe
    have e3 : s₂ = ({ (U.calling g mk a).setFrames s₂.frames with heap := s₂.heap, slotsUsed := s₂.slotsUsed } : State).setVm s₂.vm := by
      have : s₂ = ({ s₂ with vm := (U.calling g mk a).vm } : State).setVm s₂.vm := rfl
      rw [e2] at this
      exact this
    obtain ⟨c₂, i₂, len₂, hc₂, hd₂, hf₂⟩ := hend
    have hW' : U.WarmedH s₂.vm := hW₂
    have hcc : c₂ = c := by
      have h1 : s₂.code? g.method = U.code? g.method := by
        rw [State.code?_eq, State.code?_eq, hW'.alike.method?]
      exact Option.some.inj (hc₂.symm.trans (h1.trans h.code))
    subst hcc
    have hlen : len₂ = len := by rw [hdg] at hd₂; cases hd₂; rfl
    subst hlen
    have hs₂ : s₂ = (({ U with heap := s₂.heap, slotsUsed := s₂.slotsUsed } : State).setVm s₂.vm).setTop { g with pc := g.pc + len₂, stack := v.toList ++ g.stack } := by
      refine e3.trans ?_
      rw [hf₂, State.calling_eq h.top, State.setFrames_setFrames, State.setTop_of_frames _ hr', hr]
      rfl
    have hsame : U.sameButNew ({ U with heap := s₂.heap, slotsUsed := s₂.slotsUsed } : State) L mc ms := by
      refine ⟨?_, q2, q3, q4, q5, q6⟩
      obtain ⟨t, ht, -⟩ := State.frames_cons hr
      show ({ U with heap := s₂.heap, slotsUsed := s₂.slotsUsed } : State) = { U.setFrames U.frames with heap := s₂.heap, slotsUsed := s₂.slotsUsed }
      rw [State.setFrames_self ht]
    subst hg
    refine Or.inl ⟨v, ⟨(({ U with heap := s₂.heap, slotsUsed := s₂.slotsUsed } : State).setVm s₂.vm), Ls ++ L, c0 + mc, s0 + ms⟩,
      ⟨X.admits, X.cas, X.clock, X.frames, X.room, X.hears, X.method, X.code, (X.here.setHeapUsed s₂.heap s₂.slotsUsed).setVm hW'.alike, X.tail, State.WarmedH.trans X.warmed hW', X.limits, X.bytes, X.same.trans (hsame.setVm s.vm)⟩,
      ⟨g, mk, s₂, L, rfl, rfl, hqc, rfl, hL, rfl, rfl⟩, ?_⟩
    show Steps p.tables e below _ ((({ U with heap := s₂.heap, slotsUsed := s₂.slotsUsed } : State).setVm s₂.vm).setTop { g with pc := g.pc + len₂, stack := v.toList ++ g.stack })
    rw [← hs₂]
    exact hsteps
  · obtain ⟨e2, q2, q3, q4, q5, q6⟩ := id hsm
    have e3 : s₂ = ({ (U.calling g mk a).setFrames s₂.frames with heap := s₂.heap, slotsUsed := s₂.slotsUsed } : State).setVm s₂.vm := by
      have : s₂ = ({ s₂ with vm := (U.calling g mk a).vm } : State).setVm s₂.vm := rfl
      rw [e2] at this
      exact this
    have hf₂ : s₂.frames = .throwing q :: .java g :: U.frames.tail := hend
    have hW' : U.WarmedH s₂.vm := hW₂
    have hs₂ : s₂ = ((({ U with heap := s₂.heap, slotsUsed := s₂.slotsUsed } : State).setVm s₂.vm).setTop g).pushFrame (.throwing q) := by
      refine e3.trans ?_
      rw [hf₂, State.calling_eq h.top, State.setFrames_setFrames, State.pushFrame, State.frames_setTop _ hr', State.setTop_of_frames _ hr', State.setFrames_setFrames, hr]
      rfl
    have hsame : U.sameButNew ({ U with heap := s₂.heap, slotsUsed := s₂.slotsUsed } : State) L mc ms := by
      refine ⟨?_, q2, q3, q4, q5, q6⟩
      obtain ⟨t, ht, -⟩ := State.frames_cons hr
      show ({ U with heap := s₂.heap, slotsUsed := s₂.slotsUsed } : State) = { U.setFrames U.frames with heap := s₂.heap, slotsUsed := s₂.slotsUsed }
      rw [State.setFrames_self ht]
    subst hg
    refine Or.inr ⟨q, ⟨(({ U with heap := s₂.heap, slotsUsed := s₂.slotsUsed } : State).setVm s₂.vm), Ls ++ L, c0 + mc, s0 + ms⟩,
      ⟨X.admits, X.cas, X.clock, X.frames, X.room, X.hears, X.method, X.code, (X.here.setHeapUsed s₂.heap s₂.slotsUsed).setVm hW'.alike, X.tail, State.WarmedH.trans X.warmed hW', X.limits, X.bytes, X.same.trans (hsame.setVm s.vm)⟩,
      ⟨g, mk, s₂, L, E, ce, rfl, rfl, hx, hce, hcv, hcl, rfl, hL, rfl, rfl⟩, ?_⟩
    show Steps p.tables e below _ (((({ U with heap := s₂.heap, slotsUsed := s₂.slotsUsed } : State).setVm s₂.vm).setTop g).pushFrame (.throwing q))
    rw [← hs₂]
    exact hsteps
end Payer
section Calls
variable {p : Program} {l : Launch} {e : Env} {R : Room} {s : State} {m : MethodId} {args : Array Value} {below : List Frame} {meth : Method} {c : Code} {T : State} {locs : List Loc} {cells slots : Nat}
theorem vx_callV (X : Stand p l e R s m args below meth c T locs cells slots) (hexec : p.tables.exec = Jvm.exec) {own C : String} {index : Nat} {y : MethodName} {bytes : ByteArray} {maxL : Nat} {ret : Option FieldType}
    (hown : s.vm.findClass own = some m.cls) (hlink : (Cond.methodLink own index y).before args s = true) (hinst : (Cond.instanceMethod y).before args s = true) (hsel : (Cond.selects C y y).before args s = true)
    (hcode : (Cond.code y bytes maxL ret).before args s = true) (hy : y.cls ≠ "java/lang/invoke/MethodHandle" ∧ y.cls ≠ "java/lang/invoke/VarHandle")
    {W9 : Nat} {Pre : Pt → Array Value → Prop} {Post : Pt → Array Value → Option Value → Pt → Prop} {PostX : Pt → Array Value → Addr → Pt → Prop} (hK : vx_Back l R p e below s args y 3 W9 Pre Post PostX)
    {b : Addr} {cellB : Cell} (hcell : T.heap[b]? = some cellB) (hobj : cellB.vm.isStatics = false) (hcls : s.vm.findClass C = some cellB.cls)
    {g : JFrame} (hg : g.method = m) (hsize : g.locals.size = c.maxLocals) {argsL rest : List Value} (hlen : ∀ sig, parseMethodDescriptor y.desc = some sig → argsL.length = sig.parameters.length)
    (hstack : g.stack = argsL.reverse ++ .ref b :: rest) (hW : 2 * g.monitorRoom + (rest.map fun v => v.category).sum ≤ W9) (hdg : decode c.code g.pc = .ok (.invokevirtual index, 3))
    (hpre : ∀ vm₁, s.WarmedH vm₁ → Pre ⟨T.setVm vm₁, locs, cells, slots⟩ (Value.ref b :: argsL).toArray) :
    (∃ (v : Option Value) (vm₁ : Vm) (B : Pt), s.WarmedH vm₁ ∧ Stand p l e R s m args below meth c B.U B.locs B.cells B.slots ∧ Post ⟨T.setVm vm₁, locs, cells, slots⟩ (Value.ref b :: argsL).toArray v B ∧
      ∀ target, Steps p.tables e below (B.U.setTop { g with pc := g.pc + 3, stack := v.toList ++ rest }) target → Steps p.tables e below (T.setTop g) target) ∨
    (∃ (q : Addr) (vm₁ : Vm) (B : Pt), s.WarmedH vm₁ ∧ Stand p l e R s m args below meth c B.U B.locs B.cells B.slots ∧ PostX ⟨T.setVm vm₁, locs, cells, slots⟩ (Value.ref b :: argsL).toArray q B ∧
      Steps p.tables e below (T.setTop g) ((B.U.setTop { g with stack := rest }).pushFrame (.throwing q))) := by
  obtain ⟨mk, methM, hnamed, hmethM, hstM, habM⟩ := Cond.instanceMethod_spec hinst
  obtain ⟨methM', cM, hmethM', -, -, -, -, -, -, hsigM⟩ := Cond.code_spec hnamed hcode
  cases hmethM.symm.trans hmethM'
  obtain ⟨c2, r2, m2, q1, q2, q3, q4, kP, hkP, hkPi⟩ := Cond.selects_spec hsel
  cases hcls.symm.trans q1
  cases (State.methodFound?_of_named hnamed hy).symm.trans q2
  cases hnamed.symm.trans q3
  have hselP : selectMethod e.platform s.vm cellB.cls mk = .method mk := by rw [Launch.admits_selectMethod X.admits]; exact q4
  obtain ⟨vm₁, X₁, hstep₁⟩ := X.invokevirtual hexec hown hlink hnamed hmethM hstM hkP hkPi hy (a := b) (cell := cellB) hcell
    (fun z h => by rw [h] at hobj; cases hobj) hselP hmethM habM hkP hkPi (g := g) hg (argsL := argsL) (rest := rest) (hlen _ hsigM) hstack hdg
  rcases hK m meth c ⟨T.setVm vm₁, locs, cells, slots⟩ { g with stack := rest } (.invokevirtual index) mk (Value.ref b :: argsL).toArray X₁ hg hsize hdg hW (X₁.named hnamed) (hpre vm₁ X₁.warmed) with ⟨v, B, X', hpost, hsteps⟩ | ⟨q, B, X', hpost, hsteps⟩
  · exact Or.inl ⟨v, vm₁, B, X₁.warmed, X', hpost, fun target h => hstep₁ _ fun acts => by rw [doInvoke_state]; exact hsteps.trans h⟩
  · exact Or.inr ⟨q, vm₁, B, X₁.warmed, X', hpost, hstep₁ _ fun acts => by rw [doInvoke_state]; exact hsteps⟩
theorem vx_callS (X : Stand p l e R s m args below meth c T locs cells slots) (hexec : p.tables.exec = Jvm.exec) {own : String} {index : Nat} {y : MethodName} {bytes : ByteArray} {maxL : Nat} {ret : Option FieldType}
    (hown : s.vm.findClass own = some m.cls) (hlink : (Cond.methodLink own index y).before args s = true) (hstat : (Cond.static y).before args s = true) (hinit : (Cond.initialized y.cls).before args s = true)
    (hcode : (Cond.code y bytes maxL ret).before args s = true) (hy : y.cls ≠ "java/lang/invoke/MethodHandle" ∧ y.cls ≠ "java/lang/invoke/VarHandle")
    {W9 : Nat} {Pre : Pt → Array Value → Prop} {Post : Pt → Array Value → Option Value → Pt → Prop} {PostX : Pt → Array Value → Addr → Pt → Prop} (hK : vx_Back l R p e below s args y 3 W9 Pre Post PostX)
    {g : JFrame} (hg : g.method = m) (hsize : g.locals.size = c.maxLocals) {argsL rest : List Value} (hlen : ∀ sig, parseMethodDescriptor y.desc = some sig → argsL.length = sig.parameters.length)
    (hstack : g.stack = argsL.reverse ++ rest) (hW : 2 * g.monitorRoom + (rest.map fun v => v.category).sum ≤ W9) (hdg : decode c.code g.pc = .ok (.invokestatic index, 3))
    (hpre : ∀ vm₁, s.WarmedH vm₁ → Pre ⟨T.setVm vm₁, locs, cells, slots⟩ argsL.toArray) :
    (∃ (v : Option Value) (vm₁ : Vm) (B : Pt), s.WarmedH vm₁ ∧ Stand p l e R s m args below meth c B.U B.locs B.cells B.slots ∧ Post ⟨T.setVm vm₁, locs, cells, slots⟩ argsL.toArray v B ∧
      ∀ target, Steps p.tables e below (B.U.setTop { g with pc := g.pc + 3, stack := v.toList ++ rest }) target → Steps p.tables e below (T.setTop g) target) ∨
    (∃ (q : Addr) (vm₁ : Vm) (B : Pt), s.WarmedH vm₁ ∧ Stand p l e R s m args below meth c B.U B.locs B.cells B.slots ∧ PostX ⟨T.setVm vm₁, locs, cells, slots⟩ argsL.toArray q B ∧
      Steps p.tables e below (T.setTop g) ((B.U.setTop { g with stack := rest }).pushFrame (.throwing q))) := by
  obtain ⟨mk, hnamed⟩ := Cond.code_named hcode
  obtain ⟨methM, cM, hmethM, -, -, -, -, -, -, hsigM⟩ := Cond.code_spec hnamed hcode
  have hstatic : methM.isStatic = true := Cond.static_spec hnamed hmethM hstat
  obtain ⟨kP, hkP, -⟩ := className_of_methodNamed hnamed
  have hinitP : kP.init = .initialized := Cond.initialized_spec (findClass_of_methodNamed hnamed) hkP hinit
  obtain ⟨vm₁, X₁, hstep₁⟩ := X.invokestatic hexec hown hlink hnamed hmethM hstatic hkP hinitP hy (g := g) hg (argsL := argsL) (rest := rest) (hlen _ hsigM) hstack hdg
  rcases hK m meth c ⟨T.setVm vm₁, locs, cells, slots⟩ { g with stack := rest } (.invokestatic index) mk argsL.toArray X₁ hg hsize hdg hW (X₁.named hnamed) (hpre vm₁ X₁.warmed) with ⟨v, B, X', hpost, hsteps⟩ | ⟨q, B, X', hpost, hsteps⟩
  · exact Or.inl ⟨v, vm₁, B, X₁.warmed, X', hpost, fun target h => hstep₁ _ fun acts => by rw [doInvoke_state]; exact hsteps.trans h⟩
  · exact Or.inr ⟨q, vm₁, B, X₁.warmed, X', hpost, hstep₁ _ fun acts => by rw [doInvoke_state]; exact hsteps⟩
end Calls
theorem vx_cls {s : State} {T : State} {vm₁ : Vm} {E : String} {k : ClassId} (hW : s.WarmedH vm₁) (h : (T.setVm vm₁).vm.findClass E = some k) : s.vm.findClass E = some k := by
  have h1 : vm₁.findClass E = some k := h
  rw [hW.alike.findClass] at h1
  exact h1
/-- the method's frame g, with q thrown over it -/
def vx_W (p : Program) (l : Launch) (e : Env) (R : Room) (s : State) (m : MethodId) (args : Array Value) (below : List Frame) (meth : Method) (c : Code) (H : Heap) (locs : List Loc) (cells slots : Nat) (Q : State → Prop) (g : JFrame) (q : Addr) : Prop :=
  ∀ T : State, T.heap = H → Stand p l e R s m args below meth c T locs cells slots → ∃ t, Steps p.tables e below ((T.setTop g).pushFrame (.throwing q)) t ∧ Q t
def vx_Run (p : Program) (l : Launch) (e : Env) (R : Room) (s : State) (m : MethodId) (args : Array Value) (below : List Frame) (meth : Method) (c : Code) (H : Heap) (locs : List Loc) (cells slots mc ms : Nat) (g : JFrame) (rest : List Value) (Qa : State → Outcome → State → Prop) (XC : String → State → State → Prop) (free : Addr → Prop) : Prop :=
  ∀ T : State, T.heap = H → Stand p l e R s m args below meth c T locs cells slots →
    (∃ (v : Option Value) (st₀ t T' : State) (L : List Loc), st₀.heap = H ∧ Stand p l e R s m args below meth c T' (locs ++ L) (cells + mc) (slots + ms) ∧ (∀ q ∈ L, free q.base) ∧ T'.heap = t.heap ∧ T'.vm = t.vm ∧ Qa st₀ (.returned v) t ∧
      Goes p e below T g T' { g with pc := g.pc + 3, stack := v.toList ++ rest }) ∨
    (∃ (q : Addr) (st₀ t T' : State) (L : List Loc) (E : String) (ce : Cell), st₀.heap = H ∧ Stand p l e R s m args below meth c T' (locs ++ L) (cells + mc) (slots + ms) ∧ (∀ z ∈ L, free z.base) ∧ T'.heap = t.heap ∧ T'.vm = t.vm ∧ XC E st₀ t ∧ t.heap[q]? = some ce ∧ ce.vm = .none ∧ s.vm.findClass E = some ce.cls ∧
      Steps p.tables e below (T.setTop g) ((T'.setTop { g with stack := rest }).pushFrame (.throwing q)))
def vx_X {S : Type} (px : S → Prop) (B : String → S → State → Prop) (A : Nat → Prop) : String → State → State → Prop := fun E st t => ∃ u : S, px u ∧ B E u t ∧ va_F A st t
section Runs
variable {p : Program} {l : Launch} {e : Env} {R : Room} {s : State} {m : MethodId} {args : Array Value} {below : List Frame} {meth : Method} {c : Code} {H : Heap} {locs : List Loc} {cells slots : Nat}
variable {y : MethodName} {bytes cc : ByteArray} {maxL nL mc ms n index : Nat} {ret : Option FieldType} {ws : List Cond} {rm : Room} {Pc : Array Value → State → Prop} {Qc : Array Value → State → Outcome → State → Prop} {XC : String → State → State → Prop} {free : Addr → Prop} {Ts : List Cond} {own C : String} {b : Addr} {As rest : List Value} {g : JFrame}
theorem vx_callBack (cb : CallB R s args own index y bytes maxL ret ws rm mc ms n) (hM : vx_Met l y ws rm Pc Qc XC mc ms free) (hbl : FrameBlind Pc) : vx_Back l R p e below s args y 3 8 (PreOf R mc ms Pc) (PostOf Qc mc ms free) (vx_Post XC mc ms free) := by
  obtain ⟨hrc, hrs, hfr, hlo, hws, hcw, -, hini, -⟩ := cb
  exact vx_back (bytes := bytes) (maxL := maxL) (ret := ret) hM hbl hrc hrs hfr hlo hws hcw (fun a' U hW => word_at hW (Or.inl (by first | rfl | simp [Cond.onTables, Cond.keeps, Cond.steady])) hini)
theorem vx_runV (S : CallFix p m c cc nL s args Ts own) (hM : vx_Met l y ws rm Pc Qc XC mc ms free) (cw : CallW R s args own C index y bytes maxL ret ws rm mc ms n) (hp : PreV s H C b Pc As)
    (hg : g.method = m) (hn : As.length = n) (hsize : g.locals.size = nL) (hstack : g.stack = As.reverse ++ .ref b :: rest) (hW : 2 * g.monitorRoom + (rest.map fun v => v.category).sum ≤ 8) (hdg : decode cc g.pc = .ok (.invokevirtual index, 3)) (hf : cells + mc ≤ R.cells ∧ slots + ms ≤ R.slots) :
    vx_Run p l e R s m args below meth c H locs cells slots mc ms g rest (Qc (Value.ref b :: As).toArray) XC free := by
  have hK : vx_Back l R p e below s args y 3 8 (PreOf R mc ms Pc) (PostOf Qc mc ms free) (vx_Post XC mc ms free) := vx_callBack cw.1 hM hp.1
  obtain ⟨⟨-, -, -, -, -, -, hcode, -, hy, hlen, hl⟩, hin, hse⟩ := cw
  obtain ⟨hx, hb, hml, ho, -⟩ := S
  obtain ⟨-, ⟨cellB, hcB, hoB, hclB⟩, hPc⟩ := hp
  intro T hT X
  rcases vx_callV X hx (C := C) (bytes := bytes) (maxL := maxL) (ret := ret) ho hl hin hse hcode hy hK (by rw [hT]; exact hcB) hoB hclB hg (hsize.trans hml.symm) (argsL := As) (rest := rest) (fun sig h => hn.trans (hlen sig h)) hstack hW (by rw [hb]; exact hdg)
    (fun vm₁ hW₁ => ⟨hf.1, hf.2, hPc (T.setVm vm₁) hT hW₁⟩) with ⟨v, vm₁, ⟨U', l2, c2, s2⟩, hW₁, X', ⟨g', mk, t, L, e1, e2, hq, h1, hL, h2, h3⟩, st⟩ | ⟨q, vm₁, ⟨U', l2, c2, s2⟩, hW₁, X', ⟨g', mk, t, L, E, ce, e1, e2, hq, hce, hcv, hcl, h1, hL, h2, h3⟩, st⟩
  · dsimp only [Pt.U, Pt.locs, Pt.cells, Pt.slots] at X' e1 e2 h1 h2 h3 st
    subst h1; subst h2; subst h3
    exact Or.inl ⟨v, (T.setVm vm₁).calling g' mk (Value.ref b :: As).toArray, t, U', L, hT, X', hL, e1, e2, hq, st⟩
  · dsimp only [Pt.U, Pt.locs, Pt.cells, Pt.slots] at X' e1 e2 h1 h2 h3 st hcl
    subst h1; subst h2; subst h3
    exact Or.inr ⟨q, (T.setVm vm₁).calling g' mk (Value.ref b :: As).toArray, t, U', L, E, ce, hT, X', hL, e1, e2, hq, hce, hcv, vx_cls hW₁ hcl, st⟩
theorem vx_runS (S : CallFix p m c cc nL s args Ts own) (hM : vx_Met l y ws rm Pc Qc XC mc ms free) (cw : CallB R s args own index y bytes maxL ret ws rm mc ms n ∧ (Cond.static y).before args s = true) (hp : PreS s H Pc As)
    (hg : g.method = m) (hn : As.length = n) (hsize : g.locals.size = nL) (hstack : g.stack = As.reverse ++ rest) (hW : 2 * g.monitorRoom + (rest.map fun v => v.category).sum ≤ 8) (hdg : decode cc g.pc = .ok (.invokestatic index, 3)) (hf : cells + mc ≤ R.cells ∧ slots + ms ≤ R.slots) :
    vx_Run p l e R s m args below meth c H locs cells slots mc ms g rest (Qc As.toArray) XC free := by
  have hK : vx_Back l R p e below s args y 3 8 (PreOf R mc ms Pc) (PostOf Qc mc ms free) (vx_Post XC mc ms free) := vx_callBack cw.1 hM hp.1
  obtain ⟨⟨-, -, -, -, -, -, hcode, hini, hy, hlen, hl⟩, hstt⟩ := cw
  obtain ⟨hx, hb, hml, ho, -⟩ := S
  intro T hT X
  rcases vx_callS X hx (bytes := bytes) (maxL := maxL) (ret := ret) ho hl hstt hini hcode hy hK hg (hsize.trans hml.symm) (argsL := As) (rest := rest) (fun sig h => hn.trans (hlen sig h)) hstack hW (by rw [hb]; exact hdg)
    (fun vm₁ hW₁ => ⟨hf.1, hf.2, hp.2 (T.setVm vm₁) hT hW₁⟩) with ⟨v, vm₁, ⟨U', l2, c2, s2⟩, hW₁, X', ⟨g', mk, t, L, e1, e2, hq, h1, hL, h2, h3⟩, st⟩ | ⟨q, vm₁, ⟨U', l2, c2, s2⟩, hW₁, X', ⟨g', mk, t, L, E, ce, e1, e2, hq, hce, hcv, hcl, h1, hL, h2, h3⟩, st⟩
  · dsimp only [Pt.U, Pt.locs, Pt.cells, Pt.slots] at X' e1 e2 h1 h2 h3 st
    subst h1; subst h2; subst h3
    exact Or.inl ⟨v, (T.setVm vm₁).calling g' mk As.toArray, t, U', L, hT, X', hL, e1, e2, hq, st⟩
  · dsimp only [Pt.U, Pt.locs, Pt.cells, Pt.slots] at X' e1 e2 h1 h2 h3 st hcl
    subst h1; subst h2; subst h3
    exact Or.inr ⟨q, (T.setVm vm₁).calling g' mk As.toArray, t, U', L, E, ce, hT, X', hL, e1, e2, hq, hce, hcv, vx_cls hW₁ hcl, st⟩
end Runs
section Rows
variable {p : Program} {l : Launch} {e : Env} {R : Room} {s : State} {m : MethodId} {args : Array Value} {below : List Frame} {meth : Method} {c : Code} {H : Heap} {locs : List Loc} {cells slots : Nat} {Q : State → Prop}
variable {mc ms : Nat} {free : Addr → Prop} {A0 A1 : Nat → Prop} {H0 : Heap} {a : Array Value} {pc : Nat} {ls : Array Slot} {st0 rest : List Value}
theorem vx_keep {st₀ t T' : State} {L : List Loc} (h0 : st₀.heap = H) (e1 : T'.heap = t.heap) (hS : va_S A0 H0 H locs) (hA : ∀ q, q < H.size → A1 q → A0 q) (hf : ∀ q, free q → A0 q) (hL : ∀ q ∈ L, free q.base) (hF : va_F A1 st₀ t) :
    H.size ≤ T'.heap.size ∧ (∀ q : Nat, q < H.size → ¬ A1 q → T'.heap[q]? = H[q]?) ∧ va_S A0 H0 T'.heap (locs ++ L) := by
  obtain ⟨hz, hk⟩ := hF
  rw [h0] at hz hk
  exact ⟨by rw [e1]; exact hz, fun q h1 h2 => by rw [e1]; exact hk q h1 h2,
    ⟨Nat.le_trans hS.1 (by rw [e1]; exact hz), fun q h1 h2 => by rw [e1, hk q (Nat.lt_of_lt_of_le h1 hS.1) (fun z => h2 (hA q (Nat.lt_of_lt_of_le h1 hS.1) z))]; exact hS.2.1 q h1 h2, fun q hq => by
      rcases List.mem_append.mp hq with h | h
      · exact hS.2.2 q h
      · exact hf _ (hL q h)⟩⟩
theorem vx_calli {S SX : Type} {post : Int32 → S → Prop} {px : SX → Prop} {B : S → State → Prop} {BX : String → SX → State → Prop} {AX : Nat → Prop} (hr : vx_Run p l e R s m args below meth c H locs cells slots mc ms (F0 m pc ls st0) rest (va_Qi post B A1 a) (vx_X px BX AX) free) (hS : va_S A0 H0 H locs) (hA : ∀ q, q < H.size → A1 q → A0 q) (hf : ∀ q, free q → A0 q) (hAX : ∀ q, q < H.size → AX q → A0 q)
    (kx : ∀ (E : String) (ce : Cell) (q9 : Addr) (u : SX) (t : State) (H1 : Heap) (locs1 : List Loc), t.heap = H1 → s.vm.Alike t.vm → px u → BX E u t → H.size ≤ H1.size → (∀ q : Nat, q < H.size → ¬ AX q → H1[q]? = H[q]?) → va_S A0 H0 H1 locs1 → H1[q9]? = some ce → ce.vm = .none → s.vm.findClass E = some ce.cls → vx_W p l e R s m args below meth c H1 locs1 (cells + mc) (slots + ms) Q (F0 m pc ls rest) q9)
    (kk : ∀ (r : Int32) (u : S) (t : State) (H1 : Heap) (locs1 : List Loc), t.heap = H1 → s.vm.Alike t.vm → post r u → B u t → H.size ≤ H1.size → (∀ q : Nat, q < H.size → ¬ A1 q → H1[q]? = H[q]?) → va_S A0 H0 H1 locs1 → W p l e R s m args below meth c H1 locs1 (cells + mc) (slots + ms) Q (F0 m (pc + 3) ls (.int r :: rest))) : W p l e R s m args below meth c H locs cells slots Q (F0 m pc ls st0) := by
  intro T hT X
  rcases hr T hT X with ⟨v, st₀, t, T', L, h0, X', hL, e1, e2, ⟨⟨r, u, hv, hp, hb⟩, hF⟩, st⟩ | ⟨q, st₀, t, T', L, E, ce, h0, X', hL, e1, e2, ⟨u, hp, hb, hF⟩, hce, hcv, hcl, st⟩
  · cases hv
    obtain ⟨k1, k2, k3⟩ := vx_keep h0 e1 hS hA hf hL hF
    obtain ⟨t2, a1, b1⟩ := kk r u t T'.heap (locs ++ L) e1.symm (by rw [← e2]; exact X'.warmed.alike) hp hb k1 k2 k3 T' rfl X'
    exact ⟨t2, st t2 a1, b1⟩
  · obtain ⟨k1, k2, k3⟩ := vx_keep h0 e1 hS hAX hf hL hF
    obtain ⟨t2, a1, b1⟩ := kx E ce q u t T'.heap (locs ++ L) e1.symm (by rw [← e2]; exact X'.warmed.alike) hp hb k1 k2 k3 (by rw [e1]; exact hce) hcv hcl T' rfl X'
    exact ⟨t2, st.trans a1, b1⟩
theorem vx_calll {S SX : Type} {post : Int64 → S → Prop} {px : SX → Prop} {B : S → State → Prop} {BX : String → SX → State → Prop} {AX : Nat → Prop} (hr : vx_Run p l e R s m args below meth c H locs cells slots mc ms (F0 m pc ls st0) rest (va_Ql post B A1 a) (vx_X px BX AX) free) (hS : va_S A0 H0 H locs) (hA : ∀ q, q < H.size → A1 q → A0 q) (hf : ∀ q, free q → A0 q) (hAX : ∀ q, q < H.size → AX q → A0 q)
    (kx : ∀ (E : String) (ce : Cell) (q9 : Addr) (u : SX) (t : State) (H1 : Heap) (locs1 : List Loc), t.heap = H1 → s.vm.Alike t.vm → px u → BX E u t → H.size ≤ H1.size → (∀ q : Nat, q < H.size → ¬ AX q → H1[q]? = H[q]?) → va_S A0 H0 H1 locs1 → H1[q9]? = some ce → ce.vm = .none → s.vm.findClass E = some ce.cls → vx_W p l e R s m args below meth c H1 locs1 (cells + mc) (slots + ms) Q (F0 m pc ls rest) q9)
    (kk : ∀ (r : Int64) (u : S) (t : State) (H1 : Heap) (locs1 : List Loc), t.heap = H1 → s.vm.Alike t.vm → post r u → B u t → H.size ≤ H1.size → (∀ q : Nat, q < H.size → ¬ A1 q → H1[q]? = H[q]?) → va_S A0 H0 H1 locs1 → W p l e R s m args below meth c H1 locs1 (cells + mc) (slots + ms) Q (F0 m (pc + 3) ls (.long r :: rest))) : W p l e R s m args below meth c H locs cells slots Q (F0 m pc ls st0) := by
  intro T hT X
  rcases hr T hT X with ⟨v, st₀, t, T', L, h0, X', hL, e1, e2, ⟨⟨r, u, hv, hp, hb⟩, hF⟩, st⟩ | ⟨q, st₀, t, T', L, E, ce, h0, X', hL, e1, e2, ⟨u, hp, hb, hF⟩, hce, hcv, hcl, st⟩
  · cases hv
    obtain ⟨k1, k2, k3⟩ := vx_keep h0 e1 hS hA hf hL hF
    obtain ⟨t2, a1, b1⟩ := kk r u t T'.heap (locs ++ L) e1.symm (by rw [← e2]; exact X'.warmed.alike) hp hb k1 k2 k3 T' rfl X'
    exact ⟨t2, st t2 a1, b1⟩
  · obtain ⟨k1, k2, k3⟩ := vx_keep h0 e1 hS hAX hf hL hF
    obtain ⟨t2, a1, b1⟩ := kx E ce q u t T'.heap (locs ++ L) e1.symm (by rw [← e2]; exact X'.warmed.alike) hp hb k1 k2 k3 (by rw [e1]; exact hce) hcv hcl T' rfl X'
    exact ⟨t2, st.trans a1, b1⟩
theorem vx_callf {S SX : Type} {post : UInt32 → S → Prop} {px : SX → Prop} {B : S → State → Prop} {BX : String → SX → State → Prop} {AX : Nat → Prop} (hr : vx_Run p l e R s m args below meth c H locs cells slots mc ms (F0 m pc ls st0) rest (va_Qf post B A1 a) (vx_X px BX AX) free) (hS : va_S A0 H0 H locs) (hA : ∀ q, q < H.size → A1 q → A0 q) (hf : ∀ q, free q → A0 q) (hAX : ∀ q, q < H.size → AX q → A0 q)
    (kx : ∀ (E : String) (ce : Cell) (q9 : Addr) (u : SX) (t : State) (H1 : Heap) (locs1 : List Loc), t.heap = H1 → s.vm.Alike t.vm → px u → BX E u t → H.size ≤ H1.size → (∀ q : Nat, q < H.size → ¬ AX q → H1[q]? = H[q]?) → va_S A0 H0 H1 locs1 → H1[q9]? = some ce → ce.vm = .none → s.vm.findClass E = some ce.cls → vx_W p l e R s m args below meth c H1 locs1 (cells + mc) (slots + ms) Q (F0 m pc ls rest) q9)
    (kk : ∀ (r : UInt32) (u : S) (t : State) (H1 : Heap) (locs1 : List Loc), t.heap = H1 → s.vm.Alike t.vm → post r u → B u t → H.size ≤ H1.size → (∀ q : Nat, q < H.size → ¬ A1 q → H1[q]? = H[q]?) → va_S A0 H0 H1 locs1 → W p l e R s m args below meth c H1 locs1 (cells + mc) (slots + ms) Q (F0 m (pc + 3) ls (.float r :: rest))) : W p l e R s m args below meth c H locs cells slots Q (F0 m pc ls st0) := by
  intro T hT X
  rcases hr T hT X with ⟨v, st₀, t, T', L, h0, X', hL, e1, e2, ⟨⟨r, u, hv, hp, hb⟩, hF⟩, st⟩ | ⟨q, st₀, t, T', L, E, ce, h0, X', hL, e1, e2, ⟨u, hp, hb, hF⟩, hce, hcv, hcl, st⟩
  · cases hv
    obtain ⟨k1, k2, k3⟩ := vx_keep h0 e1 hS hA hf hL hF
    obtain ⟨t2, a1, b1⟩ := kk r u t T'.heap (locs ++ L) e1.symm (by rw [← e2]; exact X'.warmed.alike) hp hb k1 k2 k3 T' rfl X'
    exact ⟨t2, st t2 a1, b1⟩
  · obtain ⟨k1, k2, k3⟩ := vx_keep h0 e1 hS hAX hf hL hF
    obtain ⟨t2, a1, b1⟩ := kx E ce q u t T'.heap (locs ++ L) e1.symm (by rw [← e2]; exact X'.warmed.alike) hp hb k1 k2 k3 (by rw [e1]; exact hce) hcv hcl T' rfl X'
    exact ⟨t2, st.trans a1, b1⟩
theorem vx_calld {S SX : Type} {post : UInt64 → S → Prop} {px : SX → Prop} {B : S → State → Prop} {BX : String → SX → State → Prop} {AX : Nat → Prop} (hr : vx_Run p l e R s m args below meth c H locs cells slots mc ms (F0 m pc ls st0) rest (va_Qd post B A1 a) (vx_X px BX AX) free) (hS : va_S A0 H0 H locs) (hA : ∀ q, q < H.size → A1 q → A0 q) (hf : ∀ q, free q → A0 q) (hAX : ∀ q, q < H.size → AX q → A0 q)
    (kx : ∀ (E : String) (ce : Cell) (q9 : Addr) (u : SX) (t : State) (H1 : Heap) (locs1 : List Loc), t.heap = H1 → s.vm.Alike t.vm → px u → BX E u t → H.size ≤ H1.size → (∀ q : Nat, q < H.size → ¬ AX q → H1[q]? = H[q]?) → va_S A0 H0 H1 locs1 → H1[q9]? = some ce → ce.vm = .none → s.vm.findClass E = some ce.cls → vx_W p l e R s m args below meth c H1 locs1 (cells + mc) (slots + ms) Q (F0 m pc ls rest) q9)
    (kk : ∀ (r : UInt64) (u : S) (t : State) (H1 : Heap) (locs1 : List Loc), t.heap = H1 → s.vm.Alike t.vm → post r u → B u t → H.size ≤ H1.size → (∀ q : Nat, q < H.size → ¬ A1 q → H1[q]? = H[q]?) → va_S A0 H0 H1 locs1 → W p l e R s m args below meth c H1 locs1 (cells + mc) (slots + ms) Q (F0 m (pc + 3) ls (.double r :: rest))) : W p l e R s m args below meth c H locs cells slots Q (F0 m pc ls st0) := by
  intro T hT X
  rcases hr T hT X with ⟨v, st₀, t, T', L, h0, X', hL, e1, e2, ⟨⟨r, u, hv, hp, hb⟩, hF⟩, st⟩ | ⟨q, st₀, t, T', L, E, ce, h0, X', hL, e1, e2, ⟨u, hp, hb, hF⟩, hce, hcv, hcl, st⟩
  · cases hv
    obtain ⟨k1, k2, k3⟩ := vx_keep h0 e1 hS hA hf hL hF
    obtain ⟨t2, a1, b1⟩ := kk r u t T'.heap (locs ++ L) e1.symm (by rw [← e2]; exact X'.warmed.alike) hp hb k1 k2 k3 T' rfl X'
    exact ⟨t2, st t2 a1, b1⟩
  · obtain ⟨k1, k2, k3⟩ := vx_keep h0 e1 hS hAX hf hL hF
    obtain ⟨t2, a1, b1⟩ := kx E ce q u t T'.heap (locs ++ L) e1.symm (by rw [← e2]; exact X'.warmed.alike) hp hb k1 k2 k3 (by rw [e1]; exact hce) hcv hcl T' rfl X'
    exact ⟨t2, st.trans a1, b1⟩
theorem vx_callv {S SX : Type} {post : S → Prop} {px : SX → Prop} {B : S → State → Prop} {BX : String → SX → State → Prop} {AX : Nat → Prop} (hr : vx_Run p l e R s m args below meth c H locs cells slots mc ms (F0 m pc ls st0) rest (va_Qv post B A1 a) (vx_X px BX AX) free) (hS : va_S A0 H0 H locs) (hA : ∀ q, q < H.size → A1 q → A0 q) (hf : ∀ q, free q → A0 q) (hAX : ∀ q, q < H.size → AX q → A0 q)
    (kx : ∀ (E : String) (ce : Cell) (q9 : Addr) (u : SX) (t : State) (H1 : Heap) (locs1 : List Loc), t.heap = H1 → s.vm.Alike t.vm → px u → BX E u t → H.size ≤ H1.size → (∀ q : Nat, q < H.size → ¬ AX q → H1[q]? = H[q]?) → va_S A0 H0 H1 locs1 → H1[q9]? = some ce → ce.vm = .none → s.vm.findClass E = some ce.cls → vx_W p l e R s m args below meth c H1 locs1 (cells + mc) (slots + ms) Q (F0 m pc ls rest) q9)
    (kk : ∀ (u : S) (t : State) (H1 : Heap) (locs1 : List Loc), t.heap = H1 → s.vm.Alike t.vm → post u → B u t → H.size ≤ H1.size → (∀ q : Nat, q < H.size → ¬ A1 q → H1[q]? = H[q]?) → va_S A0 H0 H1 locs1 → W p l e R s m args below meth c H1 locs1 (cells + mc) (slots + ms) Q (F0 m (pc + 3) ls (rest))) : W p l e R s m args below meth c H locs cells slots Q (F0 m pc ls st0) := by
  intro T hT X
  rcases hr T hT X with ⟨v, st₀, t, T', L, h0, X', hL, e1, e2, ⟨⟨u, hv, hp, hb⟩, hF⟩, st⟩ | ⟨q, st₀, t, T', L, E, ce, h0, X', hL, e1, e2, ⟨u, hp, hb, hF⟩, hce, hcv, hcl, st⟩
  · cases hv
    obtain ⟨k1, k2, k3⟩ := vx_keep h0 e1 hS hA hf hL hF
    obtain ⟨t2, a1, b1⟩ := kk u t T'.heap (locs ++ L) e1.symm (by rw [← e2]; exact X'.warmed.alike) hp hb k1 k2 k3 T' rfl X'
    exact ⟨t2, st t2 a1, b1⟩
  · obtain ⟨k1, k2, k3⟩ := vx_keep h0 e1 hS hAX hf hL hF
    obtain ⟨t2, a1, b1⟩ := kx E ce q u t T'.heap (locs ++ L) e1.symm (by rw [← e2]; exact X'.warmed.alike) hp hb k1 k2 k3 (by rw [e1]; exact hce) hcv hcl T' rfl X'
    exact ⟨t2, st.trans a1, b1⟩
/-- caught by the row x of this method's table; the rows ahead don't take it -/
theorem vx_catch {own name : String} {E : String} {ce : Cell} {q : Addr} (hown : s.vm.findClass own = some m.cls) (pre : List ExceptionTableEntry) (x : ExceptionTableEntry) (suf : List ExceptionTableEntry) (hsplit : c.exceptionTable.toList = pre ++ x :: suf)
    (hpass : ∀ z ∈ pre, covers z pc = false ∨ (z.catchType ≠ 0 ∧ ∃ nm : String, (Cond.classLink own z.catchType nm).before args s = true ∧ va_Nc E nm s)) (hx : covers x pc = true) (h0 : x.catchType ≠ 0)
    (hlink : (Cond.classLink own x.catchType name).before args s = true) (hcast : (Cond.castable E name).before args s = true) (hcell : H[q]? = some ce) (hv : ce.vm = .none) (hcl : s.vm.findClass E = some ce.cls)
    (kk : W p l e R s m args below meth c H locs cells slots Q (F0 m x.handlerPc ls [.ref q])) : vx_W p l e R s m args below meth c H locs cells slots Q (F0 m pc ls rest) q := by
  intro T hT X
  have hpl : e.platform.magicAccessors = ({} : Platform).magicAccessors := by rw [X.admits.platform]
  obtain ⟨c3, c4, hc3, hc4, hasg⟩ := Cond.castable_spec hcast
  cases Option.some.inj (hc3.symm.trans hcl)
  obtain ⟨c5, hc5, hcl5⟩ := Cond.classLink_spec hown hlink e.platform hpl
  cases Option.some.inj (hc4.symm.trans hc5)
  obtain ⟨vm', X', st⟩ := zc_caught X q (g := F0 m pc ls rest) rfl (by rw [hT]; exact hcell) (by rw [hv]; rfl) (by obtain ⟨k9, h9, -⟩ := Vm.findClass_spec hcl; exact ⟨k9, h9⟩) pre x suf hsplit
    (fun z hz => by
      rcases hpass z hz with h | ⟨hz0, nm, hl1, hn1⟩
      · exact Or.inl h
      · obtain ⟨c6, hc6, hcl6⟩ := Cond.classLink_spec hown hl1 e.platform hpl
        obtain ⟨a8, b8, h1, h2, h3⟩ := hn1
        cases Option.some.inj (h1.symm.trans hcl)
        cases Option.some.inj (h2.symm.trans hc6)
        exact Or.inr ⟨hz0, _, hcl6, h3⟩) hx h0 hcl5 hasg
  obtain ⟨t, a1, b1⟩ := kk (T.setVm vm') hT X'
  exact ⟨t, st _ a1, b1⟩
end Rows
section Ends
variable {p : Program} {l : Launch} {e : Env} {R : Room} {s : State} {m : MethodId} {args : Array Value} {below : List Frame} {meth : Method} {c : Code} {H : Heap} {locs : List Loc} {cells slots : Nat} {Q : State → Prop}
variable {mc ms : Nat} {free : Addr → Prop} {A0 A1 : Nat → Prop} {H0 : Heap} {a : Array Value} {ls : Array Slot} {st0 rest : List Value}
variable {Qc : Array Value → State → Outcome → State → Prop} {XC : String → State → State → Prop}
/-- what a body that may throw owes at its end -/
def vx_MQ (below : List Frame) (Qc : Array Value → State → Outcome → State → Prop) (XC : String → State → State → Prop) (a : Array Value) (s : State) (mc ms : Nat) (free : Addr → Prop) : State → Prop := fun t =>
  ∃ o, t.status = .running ∧ Ended t below o ∧ vx_Q Qc XC mc ms free a s o t
theorem vx_ret {g : JFrame} {mc ms : Nat} (k : W p l e R s m args below meth c H locs cells slots (MQ below Qc args s mc ms free) g) : W p l e R s m args below meth c H locs cells slots (vx_MQ below Qc XC args s mc ms free) g := by
  intro T hT X
  obtain ⟨t, a1, o, b1, b2, b3, b4⟩ := k T hT X
  exact ⟨t, a1, o, b1, b2, Or.inl ⟨b3, b4⟩⟩
/-- not caught here: it goes on to the caller -/
theorem vx_widen {g : JFrame} {q : Addr} {k n : Nat} (h1 : cells ≤ k) (h2 : slots ≤ n) (kk : vx_W p l e R s m args below meth c H locs k n Q g q) : vx_W p l e R s m args below meth c H locs cells slots Q g q := fun T hT X => kk T hT (stand_widen X h1 h2)
theorem vx_out {pc : Nat} {E : String} {ce : Cell} {q : Addr} {mc ms : Nat} (hout : ∀ x ∈ c.exceptionTable.toList, covers x pc = false) (hlocks : meth.locks = false) (hcell : H[q]? = some ce) (hv : ce.vm = .none) (hcl : s.vm.findClass E = some ce.cls)
    (hx : ∀ t : State, t.heap = H → s.vm.Alike t.vm → XC E s t) (hf : ∀ z ∈ locs, free z.base) (hc : cells ≤ mc) (hs : slots ≤ ms) :
    vx_W p l e R s m args below meth c H locs cells slots (vx_MQ below Qc XC args s mc ms free) (F0 m pc ls rest) q := by
  intro T hT X
  obtain ⟨st1, hrun, hend, hW, hsm⟩ := X.leaveThrown q (g := F0 m pc ls rest) rfl rfl rfl hout hlocks
  have hcell9 : (T.setFrames (.throwing q :: below)).heap[q]? = some ce := by
    show T.heap[q]? = some ce
    rw [hT]; exact hcell
  exact ⟨_, st1, .threw q, hrun, hend, Or.inr ⟨q, rfl, E, ce, locs, hx _ hT hW.alike, hcell9, hv, hcl, hW, hsm.mono hc hs, hf⟩⟩
theorem vx_frame {U : State} {k n : Nat} (h : s.sameButNew ({ U with vm := s.vm } : State) locs k n) : s.heap.size ≤ U.heap.size ∧ ∀ q : Nat, q < s.heap.size → (∀ z ∈ locs, z.base ≠ q) → U.heap[q]? = s.heap[q]? := by
  obtain ⟨-, h2, -, -, -, h6⟩ := h
  refine ⟨h2, fun q hq hz => ?_⟩
  obtain ⟨c9, e1, e2, e3, e4⟩ := h6 q _ (Array.getElem?_eq_getElem hq)
  have hs : c9.slots = (s.heap[q]).slots := Array.ext_getElem? fun i => e4 i fun hm => hz _ hm rfl
  have h9 : c9 = s.heap[q] := by
    rw [hs] at e2
    exact e2
  have e5 : U.heap[q]? = some c9 := e1
  rw [e5, h9, Array.getElem?_eq_getElem hq]
/-- the words of a throw but the four that speak of the heap -/
def vx_no (w : Cond) : Bool := decide (w ≠ .isRef (.static Bundle.tN "UNASSIGNED_STACK" Bundle.steD)) && decide (w ≠ .isRef (.static Bundle.tN "SUPPRESSED_SENTINEL" Bundle.listD)) && decide (w ≠ .laysStatic Bundle.tN "UNASSIGNED_STACK" Bundle.steD) && decide (w ≠ .laysStatic Bundle.tN "SUPPRESSED_SENTINEL" Bundle.listD)
def vx_at0 (own : String) (ic : Nat) (X : String) (names : List String) : List Cond := (Bundle.ownAtoms0 own ic X names).filter vx_no
def vx_atS (own : String) (ic : Nat) (X : String) (names : List String) : List Cond := (Bundle.ownAtoms own ic X names).filter vx_no
/-- a word that the tables alone decide, or a good one -/
def vx_ot (w : Cond) : Bool := w.onTables || goodWord w
theorem vx_ot_at {args a' : Array Value} {s U : State} {w : Cond} (hW : s.WarmedH U.vm) (hvm : s.vm = U.vm) (hg : vx_ot w = true) (h : w.before args s = true) : w.before a' U = true := by
  simp only [vx_ot, Bool.or_eq_true] at hg
  rcases hg with hg | hg
  · exact va_tabs hg hvm h
  · exact word_at hW (good_of_word hg) h
/-- a list's words: the good ones out of the method's own list, the others by premises of their own -/
theorem vx_hat {args : Array Value} {s : State} {L B : List Cond} (h1 : ∀ w ∈ L.filter goodWord, w.before args s = true) (h2 : ∀ w ∈ L.filter (fun w => !goodWord w), w ∈ B) (h3 : ∀ w ∈ B, w.before args s = true) : ∀ w ∈ L, w.before args s = true := by
  intro w hw
  by_cases g : goodWord w = true
  · exact h1 w (List.mem_filter.mpr ⟨hw, g⟩)
  · refine h3 w (h2 w (List.mem_filter.mpr ⟨hw, ?_⟩))
    show (!goodWord w) = true
    cases hgw : goodWord w
    · rfl
    · exact absurd hgw g
theorem vx_c {args : Array Value} {s : State} {w : Cond} {B : List Cond} (h : w.before args s = true) (t : ∀ w ∈ B, w.before args s = true) : ∀ w' ∈ w :: B, w'.before args s = true := fun w' h' => (List.mem_cons.mp h').elim (fun e => by rw [e]; exact h) (t w')
theorem vx_n {args : Array Value} {s : State} : ∀ w ∈ ([] : List Cond), w.before args s = true := fun _ h => nomatch h
theorem vx_own {args : Array Value} {s : State} {L : List Cond} (h1 : ∀ w ∈ L.filter vx_no, w.before args s = true)
    (hU : (Cond.isRef (.static Bundle.tN "UNASSIGNED_STACK" Bundle.steD)).before args s = true) (hN : (Cond.isRef (.static Bundle.tN "SUPPRESSED_SENTINEL" Bundle.listD)).before args s = true)
    (lU : (Cond.laysStatic Bundle.tN "UNASSIGNED_STACK" Bundle.steD).before args s = true) (lN : (Cond.laysStatic Bundle.tN "SUPPRESSED_SENTINEL" Bundle.listD).before args s = true) : ∀ w ∈ L, w.before args s = true := by
  intro w hw
  by_cases e1 : w = .isRef (.static Bundle.tN "UNASSIGNED_STACK" Bundle.steD)
  · rw [e1]; exact hU
  · by_cases e2 : w = .isRef (.static Bundle.tN "SUPPRESSED_SENTINEL" Bundle.listD)
    · rw [e2]; exact hN
    · by_cases e3 : w = .laysStatic Bundle.tN "UNASSIGNED_STACK" Bundle.steD
      · rw [e3]; exact lU
      · by_cases e4 : w = .laysStatic Bundle.tN "SUPPRESSED_SENTINEL" Bundle.listD
        · rw [e4]; exact lN
        · exact h1 w (List.mem_filter.mpr ⟨hw, by unfold vx_no; rw [decide_eq_true e1, decide_eq_true e2, decide_eq_true e3, decide_eq_true e4]; rfl⟩)
/-- where a static field lies, its class's statics cell in H -/
def vx_L (C n d : String) (A : Nat → Prop) (U : State) (H : Heap) : Prop := ∃ (c : ClassId) (k : Class) (i : Nat) (f : Field) (a : Nat) (cell : Cell), U.vm.findClass C = some c ∧ U.fieldFound? C n d = some (c, k, i, f) ∧ f.isStatic = true ∧ k.statics = some a ∧ H[a]? = some cell ∧ cell.vm.isStatics = true ∧ cell.cls = c ∧ f.slot < cell.slots.size ∧ k.staticTypes[f.slot]? = some f.type ∧ ¬ A a
theorem vx_L.moved {C n d : String} {A : Nat → Prop} {u U : State} {H : Heap} (hvm : u.vm.Alike U.vm) (h : vx_L C n d A u H) : vx_L C n d A U H := by
  obtain ⟨c, k, i, f, a, cell, h1, h2, h3, h4, h5, h6, h7, h8, h9, h10⟩ := h
  obtain ⟨k', hi', he⟩ := State.fieldFound?_setVm hvm h2
  exact ⟨c, k', i, f, a, cell, by rw [hvm.findClass]; exact h1, hi', h3, by rw [he]; exact h4, h5, h6, h7, h8, by rw [he]; exact h9, h10⟩
theorem vx_L.kept {C n d : String} {A : Nat → Prop} {U : State} {H H1 : Heap} (h : vx_L C n d A U H) (hq : ∀ a : Nat, a < H.size → ¬ A a → H1[a]? = H[a]?) : vx_L C n d A U H1 := by
  obtain ⟨c, k, i, f, a, cell, h1, h2, h3, h4, h5, h6, h7, h8, h9, h10⟩ := h
  exact ⟨c, k, i, f, a, cell, h1, h2, h3, h4, by rw [hq a (Array.getElem?_eq_some_iff.mp h5).1 h10]; exact h5, h6, h7, h8, h9, h10⟩
theorem vx_L.narrow {C n d : String} {A B : Nat → Prop} {U : State} {H : Heap} (h : vx_L C n d A U H) (hAB : ∀ q, B q → A q) : vx_L C n d B U H := by
  obtain ⟨c, k, i, f, a, cell, h1, h2, h3, h4, h5, h6, h7, h8, h9, h10⟩ := h
  exact ⟨c, k, i, f, a, cell, h1, h2, h3, h4, h5, h6, h7, h8, h9, fun z => h10 (hAB _ z)⟩
theorem vx_L.word {C n d : String} {A : Nat → Prop} {s : State} {args : Array Value} (h : vx_L C n d A s s.heap) : (Cond.laysStatic C n d).before args s = true := by
  obtain ⟨c, k, i, f, a, cell, h1, h2, h3, h4, h5, h6, h7, h8, h9, -⟩ := h
  show (Cond.laysStatic C n d).holds args s none s [] = true
  exact Cond.laysStatic_of h1 h2 h3 h4 h5 h6 h7 h8 h9
/-- .. and what it holds: null or some reference -/
def vx_Zq (C n d : String) (A : Nat → Prop) (U : State) (H : Heap) : Prop := va_Zq C n d A U H ∧ vx_L C n d A U H
theorem vx_Zq.moved {C n d : String} {A : Nat → Prop} {u U : State} {H : Heap} (hvm : u.vm.Alike U.vm) (h : vx_Zq C n d A u H) : vx_Zq C n d A U H := ⟨va_Zq.moved hvm h.1, vx_L.moved hvm h.2⟩
theorem vx_Zq.kept {C n d : String} {A : Nat → Prop} {U : State} {H H1 : Heap} (h : vx_Zq C n d A U H) (hq : ∀ a : Nat, a < H.size → ¬ A a → H1[a]? = H[a]?) : vx_Zq C n d A U H1 := ⟨va_Zq.kept h.1 hq, vx_L.kept h.2 hq⟩
theorem vx_Zq.narrow {C n d : String} {A B : Nat → Prop} {U : State} {H : Heap} (h : vx_Zq C n d A U H) (hAB : ∀ q, B q → A q) : vx_Zq C n d B U H := ⟨va_Zq.narrow h.1 hAB, vx_L.narrow h.2 hAB⟩
theorem vx_Zqof {args : Array Value} {s : State} {C n d : String} {A : Nat → Prop} (hl : (Cond.laysStatic C n d).before args s = true) (hini : (Cond.initialized C).before args s = true) (h : (Cond.isRef (.static C n d)).before args s = true) (hA : ∀ a : Nat, a < s.heap.size → ¬ A a) : vx_Zq C n d A s s.heap := by
  refine ⟨va_Zqof hl hini h hA, ?_⟩
  obtain ⟨c, k, i, f, a, cell, h1, h2, h3, h4, h5, h6, h7, h8, h9⟩ := Cond.laysStatic_spec hl
  exact ⟨c, k, i, f, a, cell, h1, h2, h3, h4, h5, h6, h7, h8, h9, hA a (Array.getElem?_eq_some_iff.mp h5).1⟩
theorem vx_isRef {C n d : String} {v : Value} {A : Nat → Prop} {s : State} {args : Array Value} (h : va_Z C n d v A s s.heap) (hv : v.isRef = true) : (Cond.isRef (.static C n d)).before args s = true := by
  obtain ⟨cf, kf, fi, f, a, cell, h1, h2, h3, h4, h5, h6, h7, -⟩ := h
  have he : (Term.static C n d).eval args s none [] s = some v := by
    simp [Term.eval, State.fieldNamed?, h1, h2, h4, h5, h6, h7]
  simp only [Cond.before, Cond.holds, Cond.value, he]
  cases v <;> simp_all [Value.isRef]
theorem vx_isRefq {C n d : String} {A : Nat → Prop} {s : State} {args : Array Value} (h : va_Zq C n d A s s.heap) : (Cond.isRef (.static C n d)).before args s = true := by
  rcases h with h | ⟨t, h⟩
  · exact vx_isRef h rfl
  · exact vx_isRef h rfl
/-- the same frame, seen from here: as if the method were called anew in this heap -/
theorem vx_rebase {T : State} (X : Stand p l e R s m args below meth c T locs cells slots) {R' : Room} (hf : R'.frames ≤ R.frames) (hl : R'.locals ≤ R.locals) (hc : cells + R'.cells ≤ R.cells) (hs : slots + R'.slots ≤ R.slots) :
    Stand p l e R' ((T.setVm s.vm).setFrames (.invoking m args :: below)) m args below meth c T [] 0 0 := by
  have htop : (T.setVm s.vm).topJava?.isSome := X.here.top
  have hF : ((T.setVm s.vm).setFrames (.invoking m args :: below)).frames = .invoking m args :: below := State.frames_setFrames _ (State.cur_lt_of_top htop)
  obtain ⟨g₀, hg0⟩ := Option.isSome_iff_exists.mp htop
  obtain ⟨r, hr⟩ := State.topJava?_eq_some.mp hg0
  have hl9 : e.platform.stackLimits (T.setVm s.vm).me = e.platform.stackLimits s.me := X.limits
  have hb9 : (T.setVm s.vm).me.stackBytes = s.me.stackBytes := X.bytes
  refine ⟨X.admits, X.cas, X.clock, hF, ?_, X.hears, X.method, X.code, X.here, X.tail, X.warmed, ?_, ?_, ?_⟩
  · have h := X.room
    have hU : ((T.setVm s.vm).setFrames (.invoking m args :: below)).localsInUse = s.localsInUse := by
      rw [State.localsInUse_invoking hF (meth := meth) (c := c) X.method X.code, State.localsInUse_invoking X.frames X.method X.code]
    simp only [State.hasRoom, Bool.and_eq_true, decide_eq_true_eq] at h ⊢
    obtain ⟨⟨⟨⟨h1, h2, h3, h4, h5, h6⟩, h7⟩, h8⟩, h9⟩ := h
    rw [X.frames, List.length_cons] at h2 h3
    have q1 := X.heapSize
    have q2 := X.used
    simp only [hF, hU, List.length_cons, State.stackLimits_setFrames, State.stackBytes_setFrames, hl9, hb9]
    refine ⟨⟨⟨⟨by omega, by omega, by omega, by omega, by omega, h6⟩, ?_⟩, ?_⟩, X.book⟩
    · show T.heap.size + R'.cells ≤ e.platform.maxCells
      omega
    · show T.slotsUsed + R'.slots ≤ e.platform.maxSlots
      omega
  · rw [State.stackLimits_setFrames]; rfl
  · rw [State.stackBytes_setFrames]; rfl
  · refine ⟨?_, Nat.le_refl _, Nat.le_refl _, ?_, ?_, fun a c9 h9 => ⟨c9, h9, rfl, rfl, fun _ _ => rfl⟩⟩
    · obtain ⟨t, ht, -⟩ := State.frames_cons hr
      show T.setVm s.vm = { ((T.setVm s.vm).setFrames (.invoking m args :: below)).setFrames (T.setVm s.vm).frames with heap := T.heap, slotsUsed := T.slotsUsed }
      rw [State.setFrames_setFrames, State.setFrames_self ht]
      rfl
    · show T.slotsUsed = T.slotsUsed + ((T.heap.toList.drop T.heap.size).map (·.slots.size)).sum
      rw [List.drop_eq_nil_of_le (Nat.le_of_eq Array.length_toList)]
      rfl
    · show ((T.heap.toList.drop T.heap.size).map (·.slots.size)).sum ≤ 0
      rw [List.drop_eq_nil_of_le (Nat.le_of_eq Array.length_toList)]
      exact Nat.le_refl _
/-- 'throw new E()': new; dup; invokespecial; athrow -/
theorem vx_throw0 {cc : ByteArray} {pc : Nat} (hexec : p.tables.exec = Jvm.exec) (hb : c.code = cc) (hl : l.stackTraces = false) {own cls : String} {names : List String} {ik ic mc ms : Nat} {A : Nat → Prop}
    (hown : s.vm.findClass own = some m.cls) (hcls : Bundle.fit cls = true) (hnames : ∀ n ∈ names, Bundle.fit n = true)
    (hk : (Cond.classLink own ik cls).before args s = true) (hini : (Cond.initialized cls).before args s = true) (hat : ∀ w ∈ vx_at0 own ic cls names, w.before args s = true)
    (hgood : ∀ w ∈ Cond.classLink own ik cls :: Cond.initialized cls :: vx_at0 own ic cls names, vx_ot w = true)
    (hU : vx_Zq Bundle.tN "UNASSIGNED_STACK" Bundle.steD A s s.heap) (hN : vx_Zq Bundle.tN "SUPPRESSED_SENTINEL" Bundle.listD A s s.heap) (hS : va_S A s.heap H locs) (hsize : ls.size = c.maxLocals)
    (d0 : decode cc pc = .ok (.new ik, 3)) (d3 : decode cc (pc + 3) = .ok (.dup, 1)) (d4 : decode cc (pc + 4) = .ok (.invokespecial ic, 3)) (d7 : decode cc (pc + 7) = .ok (.athrow, 1))
    (hout : ∀ x ∈ c.exceptionTable.toList, covers x (pc + 7) = false)
    (hRframes : names.length + 3 < R.frames) (hRlocals : (rest.map fun v => v.category).sum + (13 * (names.length + 1) + 42) ≤ R.locals) (hRcells : cells + 1 ≤ R.cells) (hRslots : slots + 6 ≤ R.slots) (hlocks : meth.locks = false)
    (hx : ∀ t : State, s.vm.Alike t.vm → H.size ≤ t.heap.size → (∀ q : Nat, q < H.size → t.heap[q]? = H[q]?) → XC cls s t)
    (hf : ∀ z ∈ locs, free z.base) (hc : cells + 1 ≤ mc) (hs : slots + 6 ≤ ms) :
    W p l e R s m args below meth c H locs cells slots (vx_MQ below Qc XC args s mc ms free) (F0 m pc ls rest) := by
  intro T hT X
  have htr : e.platform.stackTraces = false := (show e.platform.stackTraces = l.stackTraces by rw [X.admits.platform]).trans hl
  have Y := vx_rebase X (R' := { frames := R.frames, locals := R.locals, cells := 1, slots := 6 }) (Nat.le_refl _) (Nat.le_refl _) hRcells hRslots
  obtain ⟨s', hA⟩ : ∃ z, z = (T.setVm s.vm).setFrames (.invoking m args :: below) := ⟨_, rfl⟩
  rw [← hA] at Y
  have hvm : s'.vm = s.vm := by rw [hA]; rfl
  have hhp : s'.heap = H := by rw [hA]; exact hT
  have hW0 : s.WarmedH s'.vm := by rw [hvm]; exact State.WarmedH.refl s
  have hat' : ∀ w ∈ vx_at0 own ic cls names, w.before args s' = true := fun w hw => vx_ot_at hW0 hvm.symm (hgood w (List.mem_cons_of_mem _ (List.mem_cons_of_mem _ hw))) (hat w hw)
  have hk' : (Cond.classLink own ik cls).before args s' = true := vx_ot_at hW0 hvm.symm (hgood _ List.mem_cons_self) hk
  have hini' : (Cond.initialized cls).before args s' = true := vx_ot_at hW0 hvm.symm (hgood _ (List.mem_cons_of_mem _ List.mem_cons_self)) hini
  have hU' : vx_Zq Bundle.tN "UNASSIGNED_STACK" Bundle.steD A s' s'.heap := by rw [hhp]; exact vx_Zq.moved hW0.alike (hU.kept hS.2.1)
  have hN' : vx_Zq Bundle.tN "SUPPRESSED_SENTINEL" Bundle.listD A s' s'.heap := by rw [hhp]; exact vx_Zq.moved hW0.alike (hN.kept hS.2.1)
  have h : ∀ w ∈ Bundle.ownAtoms0 own ic cls names, w.before args s' = true := vx_own hat' (vx_isRefq hU'.1) (vx_isRefq hN'.1) hU'.2.word hN'.2.word
  have hown' : s'.vm.findClass own = some m.cls := by rw [hvm]; exact hown
  have hins : (Cond.instantiable cls 6).before args s' = true := h _ (by simp [Bundle.ownAtoms0])
  obtain ⟨vm₁, cX, kX, hfX, hkX, -, -, X₁, st1⟩ := Y.newCold hexec (own := own) (C := cls) (index := ik) (n := 6) hown' hk' hins hini'
    (g := F0 m pc ls rest) rfl (by rw [hb]; exact d0) (Nat.le_refl _) (Nat.le_refl _)
  generalize hT1 : (T.setVm vm₁).pushCell { cls := cX, slots := kX.instanceTypes.map defaultValue, vm := .none } = T1 at X₁ st1
  have hcat : (Value.ref T.heap.size).category = 1 := rfl
  have hcellA : T1.heap[T.heap.size]? = some (freshCell cX kX) := by rw [← hT1]; exact State.heap_pushCell_size _ _
  have d3' : decode c.code (pc + 3) = .ok (.dup, 1) := by rw [hb]; exact d3
  obtain ⟨U, hsteps, hrun, hend, hW, hsame, ce, hce, hO⟩ := X₁.ctorThrow0 hexec htr (own := own) (cls := cls) (names := names) (ic := ic) hown' hcls hnames h (fun x hx => nomatch hx) hfX hkX hcellA (by rw [hhp, hT]; exact Nat.le_refl _)
    (g := { method := m, pc := pc + 4, locals := ls, stack := .ref T.heap.size :: .ref T.heap.size :: rest, locked := none }) rfl hsize rfl rfl (rest := rest) rfl
    (by rw [hb]; exact d4) (by rw [hb]; exact d7) hout hRframes (by simp only [List.map_cons, List.sum_cons, hcat]; omega) hlocks
  obtain ⟨f1, f2⟩ := vx_frame hsame
  rw [hhp] at f1 f2
  have hWs : s.WarmedH U.vm := State.WarmedH.trans hW0 hW
  have hcl : s.vm.findClass cls = some ce.cls := by
    have h9 := hO.cls
    rw [hvm] at h9
    exact h9
  have hall : s.sameButNew ({ U with vm := s.vm } : State) locs mc ms := by
    subst hA
    obtain ⟨e1, e2⟩ := hsame
    rw [State.setFrames_setFrames] at e1
    have h2 : (T.setVm s.vm).sameButNew ({ U with vm := s.vm } : State) [] (0 + 1) (0 + 6) := ⟨e1, e2⟩
    have h3 := X.same.trans h2
    rw [List.append_nil] at h3
    exact h3.mono hc hs
  refine ⟨U, ?_, .threw T.heap.size, hrun, hend, Or.inr ⟨T.heap.size, rfl, cls, ce, locs, hx U hWs.alike f1 (fun q hq => f2 q hq (fun z hz => nomatch hz)), hce, hO.vm, hcl, hWs, hall, hf⟩⟩
  refine st1 _ ?_
  show Steps p.tables e below (T1.setTop { method := m, pc := pc + 3, locals := ls, stack := .ref T.heap.size :: rest, locked := none }) _
  jvm_step X₁.here [X₁.here.top, hexec, d3', Value.category]
  exact hsteps
/-- 'throw new E("text")': new; dup; ldc; invokespecial; athrow -/
theorem vx_throwS {cc : ByteArray} {pc : Nat} (hexec : p.tables.exec = Jvm.exec) (hb : c.code = cc) (hl : l.stackTraces = false) {own cls text : String} {names : List String} {ik is ic mc ms sa : Nat} {A : Nat → Prop}
    (hown : s.vm.findClass own = some m.cls) (hcls : Bundle.fit cls = true) (hnames : ∀ n ∈ names, Bundle.fit n = true)
    (hk : (Cond.classLink own ik cls).before args s = true) (hini : (Cond.initialized cls).before args s = true) (hstr : vk_R own is text sa s) (hat : ∀ w ∈ vx_atS own ic cls names, w.before args s = true)
    (hgood : ∀ w ∈ Cond.classLink own ik cls :: Cond.initialized cls :: vx_atS own ic cls names, vx_ot w = true)
    (hU : vx_Zq Bundle.tN "UNASSIGNED_STACK" Bundle.steD A s s.heap) (hN : vx_Zq Bundle.tN "SUPPRESSED_SENTINEL" Bundle.listD A s s.heap) (hS : va_S A s.heap H locs) (hsize : ls.size = c.maxLocals)
    (d0 : decode cc pc = .ok (.new ik, 3)) (d3 : decode cc (pc + 3) = .ok (.dup, 1)) (d4 : decode cc (pc + 4) = .ok (.ldc is, 2)) (d6 : decode cc (pc + 6) = .ok (.invokespecial ic, 3)) (d9 : decode cc (pc + 9) = .ok (.athrow, 1))
    (hout : ∀ x ∈ c.exceptionTable.toList, covers x (pc + 9) = false)
    (hRframes : names.length + 3 < R.frames) (hRlocals : (rest.map fun v => v.category).sum + (13 * (names.length + 1) + 43) ≤ R.locals) (hRcells : cells + 1 ≤ R.cells) (hRslots : slots + 6 ≤ R.slots) (hlocks : meth.locks = false)
    (hx : ∀ t : State, s.vm.Alike t.vm → H.size ≤ t.heap.size → (∀ q : Nat, q < H.size → t.heap[q]? = H[q]?) → XC cls s t)
    (hf : ∀ z ∈ locs, free z.base) (hc : cells + 1 ≤ mc) (hs : slots + 6 ≤ ms) :
    W p l e R s m args below meth c H locs cells slots (vx_MQ below Qc XC args s mc ms free) (F0 m pc ls rest) := by
  intro T hT X
  have htr : e.platform.stackTraces = false := (show e.platform.stackTraces = l.stackTraces by rw [X.admits.platform]).trans hl
  have Y := vx_rebase X (R' := { frames := R.frames, locals := R.locals, cells := 1, slots := 6 }) (Nat.le_refl _) (Nat.le_refl _) hRcells hRslots
  obtain ⟨s', hA⟩ : ∃ z, z = (T.setVm s.vm).setFrames (.invoking m args :: below) := ⟨_, rfl⟩
  rw [← hA] at Y
  have hvm : s'.vm = s.vm := by rw [hA]; rfl
  have hhp : s'.heap = H := by rw [hA]; exact hT
  have hW0 : s.WarmedH s'.vm := by rw [hvm]; exact State.WarmedH.refl s
  have hat' : ∀ w ∈ vx_atS own ic cls names, w.before args s' = true := fun w hw => vx_ot_at hW0 hvm.symm (hgood w (List.mem_cons_of_mem _ (List.mem_cons_of_mem _ hw))) (hat w hw)
  have hk' : (Cond.classLink own ik cls).before args s' = true := vx_ot_at hW0 hvm.symm (hgood _ List.mem_cons_self) hk
  have hini' : (Cond.initialized cls).before args s' = true := vx_ot_at hW0 hvm.symm (hgood _ (List.mem_cons_of_mem _ List.mem_cons_self)) hini
  have hU' : vx_Zq Bundle.tN "UNASSIGNED_STACK" Bundle.steD A s' s'.heap := by rw [hhp]; exact vx_Zq.moved hW0.alike (hU.kept hS.2.1)
  have hN' : vx_Zq Bundle.tN "SUPPRESSED_SENTINEL" Bundle.listD A s' s'.heap := by rw [hhp]; exact vx_Zq.moved hW0.alike (hN.kept hS.2.1)
  have h : ∀ w ∈ Bundle.ownAtoms own ic cls names, w.before args s' = true := vx_own hat' (vx_isRefq hU'.1) (vx_isRefq hN'.1) hU'.2.word hN'.2.word
  have hown' : s'.vm.findClass own = some m.cls := by rw [hvm]; exact hown
  have hins : (Cond.instantiable cls 6).before args s' = true := h _ (by simp [Bundle.ownAtoms])
  obtain ⟨vm₁, cX, kX, hfX, hkX, -, -, X₁, st1⟩ := Y.newCold hexec (own := own) (C := cls) (index := ik) (n := 6) hown' hk' hins hini'
    (g := F0 m pc ls rest) rfl (by rw [hb]; exact d0) (Nat.le_refl _) (Nat.le_refl _)
  generalize hT1 : (T.setVm vm₁).pushCell { cls := cX, slots := kX.instanceTypes.map defaultValue, vm := .none } = T1 at X₁ st1
  have hcat : (Value.ref T.heap.size).category = 1 := rfl
  have hcellA : T1.heap[T.heap.size]? = some (freshCell cX kX) := by rw [← hT1]; exact State.heap_pushCell_size _ _
  have d3' : decode c.code (pc + 3) = .ok (.dup, 1) := by rw [hb]; exact d3
  have d4' : decode c.code (pc + 4) = .ok (.ldc is, 2) := by rw [hb]; exact d4
  have hstr' : vk_R own is text sa s' := vk_R.warm hW0 hstr
  obtain ⟨U, hsteps, hrun, hend, hW, hsame, ce, hce, hO⟩ := X₁.ctorThrowS hexec htr (own := own) (cls := cls) (names := names) (ic := ic) hown' hcls hnames h (fun x hx => nomatch hx) hfX hkX hcellA (by rw [hhp, hT]; exact Nat.le_refl _) (msg := .ref sa) rfl
    (g := { method := m, pc := pc + 6, locals := ls, stack := .ref sa :: .ref T.heap.size :: .ref T.heap.size :: rest, locked := none }) rfl hsize rfl rfl (rest := rest) rfl
    (by rw [hb]; exact d6) (by rw [hb]; exact d9) hout hRframes (by simp only [List.map_cons, List.sum_cons, hcat]; omega) hlocks
  obtain ⟨f1, f2⟩ := vx_frame hsame
  rw [hhp] at f1 f2
  have hWs : s.WarmedH U.vm := State.WarmedH.trans hW0 hW
  have hcl : s.vm.findClass cls = some ce.cls := by
    have h9 := hO.cls
    rw [hvm] at h9
    exact h9
  have hall : s.sameButNew ({ U with vm := s.vm } : State) locs mc ms := by
    subst hA
    obtain ⟨e1, e2⟩ := hsame
    rw [State.setFrames_setFrames] at e1
    have h2 : (T.setVm s.vm).sameButNew ({ U with vm := s.vm } : State) [] (0 + 1) (0 + 6) := ⟨e1, e2⟩
    have h3 := X.same.trans h2
    rw [List.append_nil] at h3
    exact h3.mono hc hs
  refine ⟨U, ?_, .threw T.heap.size, hrun, hend, Or.inr ⟨T.heap.size, rfl, cls, ce, locs, hx U hWs.alike f1 (fun q hq => f2 q hq (fun z hz => nomatch hz)), hce, hO.vm, hcl, hWs, hall, hf⟩⟩
  refine st1 _ ?_
  show Steps p.tables e below (T1.setTop { method := m, pc := pc + 3, locals := ls, stack := .ref T.heap.size :: rest, locked := none }) _
  jvm_step X₁.here [X₁.here.top, hexec, d3', Value.category]
  exact X₁.ldcString hexec (own := own) (text := text) (index := is) (a := sa) hown' hstr'.1 hstr'.2
    (g := { method := m, pc := pc + 4, locals := ls, stack := .ref T.heap.size :: .ref T.heap.size :: rest, locked := none }) rfl d4' _ hsteps
/-- 'throw new E("text")', the text by a wide index -/
theorem vx_throwSW {cc : ByteArray} {pc : Nat} (hexec : p.tables.exec = Jvm.exec) (hb : c.code = cc) (hl : l.stackTraces = false) {own cls text : String} {names : List String} {ik is ic mc ms sa : Nat} {A : Nat → Prop}
    (hown : s.vm.findClass own = some m.cls) (hcls : Bundle.fit cls = true) (hnames : ∀ n ∈ names, Bundle.fit n = true)
    (hk : (Cond.classLink own ik cls).before args s = true) (hini : (Cond.initialized cls).before args s = true) (hstr : vk_R own is text sa s) (hat : ∀ w ∈ vx_atS own ic cls names, w.before args s = true)
    (hgood : ∀ w ∈ Cond.classLink own ik cls :: Cond.initialized cls :: vx_atS own ic cls names, vx_ot w = true)
    (hU : vx_Zq Bundle.tN "UNASSIGNED_STACK" Bundle.steD A s s.heap) (hN : vx_Zq Bundle.tN "SUPPRESSED_SENTINEL" Bundle.listD A s s.heap) (hS : va_S A s.heap H locs) (hsize : ls.size = c.maxLocals)
    (d0 : decode cc pc = .ok (.new ik, 3)) (d3 : decode cc (pc + 3) = .ok (.dup, 1)) (d4 : decode cc (pc + 4) = .ok (.ldc_w is, 3)) (d7 : decode cc (pc + 7) = .ok (.invokespecial ic, 3)) (d10 : decode cc (pc + 10) = .ok (.athrow, 1))
    (hout : ∀ x ∈ c.exceptionTable.toList, covers x (pc + 10) = false)
    (hRframes : names.length + 3 < R.frames) (hRlocals : (rest.map fun v => v.category).sum + (13 * (names.length + 1) + 43) ≤ R.locals) (hRcells : cells + 1 ≤ R.cells) (hRslots : slots + 6 ≤ R.slots) (hlocks : meth.locks = false)
    (hx : ∀ t : State, s.vm.Alike t.vm → H.size ≤ t.heap.size → (∀ q : Nat, q < H.size → t.heap[q]? = H[q]?) → XC cls s t)
    (hf : ∀ z ∈ locs, free z.base) (hc : cells + 1 ≤ mc) (hs : slots + 6 ≤ ms) :
    W p l e R s m args below meth c H locs cells slots (vx_MQ below Qc XC args s mc ms free) (F0 m pc ls rest) := by
  intro T hT X
  have htr : e.platform.stackTraces = false := (show e.platform.stackTraces = l.stackTraces by rw [X.admits.platform]).trans hl
  have Y := vx_rebase X (R' := { frames := R.frames, locals := R.locals, cells := 1, slots := 6 }) (Nat.le_refl _) (Nat.le_refl _) hRcells hRslots
  obtain ⟨s', hA⟩ : ∃ z, z = (T.setVm s.vm).setFrames (.invoking m args :: below) := ⟨_, rfl⟩
  rw [← hA] at Y
  have hvm : s'.vm = s.vm := by rw [hA]; rfl
  have hhp : s'.heap = H := by rw [hA]; exact hT
  have hW0 : s.WarmedH s'.vm := by rw [hvm]; exact State.WarmedH.refl s
  have hat' : ∀ w ∈ vx_atS own ic cls names, w.before args s' = true := fun w hw => vx_ot_at hW0 hvm.symm (hgood w (List.mem_cons_of_mem _ (List.mem_cons_of_mem _ hw))) (hat w hw)
  have hk' : (Cond.classLink own ik cls).before args s' = true := vx_ot_at hW0 hvm.symm (hgood _ List.mem_cons_self) hk
  have hini' : (Cond.initialized cls).before args s' = true := vx_ot_at hW0 hvm.symm (hgood _ (List.mem_cons_of_mem _ List.mem_cons_self)) hini
  have hU' : vx_Zq Bundle.tN "UNASSIGNED_STACK" Bundle.steD A s' s'.heap := by rw [hhp]; exact vx_Zq.moved hW0.alike (hU.kept hS.2.1)
  have hN' : vx_Zq Bundle.tN "SUPPRESSED_SENTINEL" Bundle.listD A s' s'.heap := by rw [hhp]; exact vx_Zq.moved hW0.alike (hN.kept hS.2.1)
  have h : ∀ w ∈ Bundle.ownAtoms own ic cls names, w.before args s' = true := vx_own hat' (vx_isRefq hU'.1) (vx_isRefq hN'.1) hU'.2.word hN'.2.word
  have hown' : s'.vm.findClass own = some m.cls := by rw [hvm]; exact hown
  have hins : (Cond.instantiable cls 6).before args s' = true := h _ (by simp [Bundle.ownAtoms])
  obtain ⟨vm₁, cX, kX, hfX, hkX, -, -, X₁, st1⟩ := Y.newCold hexec (own := own) (C := cls) (index := ik) (n := 6) hown' hk' hins hini'
    (g := F0 m pc ls rest) rfl (by rw [hb]; exact d0) (Nat.le_refl _) (Nat.le_refl _)
  generalize hT1 : (T.setVm vm₁).pushCell { cls := cX, slots := kX.instanceTypes.map defaultValue, vm := .none } = T1 at X₁ st1
  have hcat : (Value.ref T.heap.size).category = 1 := rfl
  have hcellA : T1.heap[T.heap.size]? = some (freshCell cX kX) := by rw [← hT1]; exact State.heap_pushCell_size _ _
  have d3' : decode c.code (pc + 3) = .ok (.dup, 1) := by rw [hb]; exact d3
  have d4' : decode c.code (pc + 4) = .ok (.ldc_w is, 3) := by rw [hb]; exact d4
  have hstr' : vk_R own is text sa s' := vk_R.warm hW0 hstr
  obtain ⟨U, hsteps, hrun, hend, hW, hsame, ce, hce, hO⟩ := X₁.ctorThrowS hexec htr (own := own) (cls := cls) (names := names) (ic := ic) hown' hcls hnames h (fun x hx => nomatch hx) hfX hkX hcellA (by rw [hhp, hT]; exact Nat.le_refl _) (msg := .ref sa) rfl
    (g := { method := m, pc := pc + 7, locals := ls, stack := .ref sa :: .ref T.heap.size :: .ref T.heap.size :: rest, locked := none }) rfl hsize rfl rfl (rest := rest) rfl
    (by rw [hb]; exact d7) (by rw [hb]; exact d10) hout hRframes (by simp only [List.map_cons, List.sum_cons, hcat]; omega) hlocks
  obtain ⟨f1, f2⟩ := vx_frame hsame
  rw [hhp] at f1 f2
  have hWs : s.WarmedH U.vm := State.WarmedH.trans hW0 hW
  have hcl : s.vm.findClass cls = some ce.cls := by
    have h9 := hO.cls
    rw [hvm] at h9
    exact h9
  have hall : s.sameButNew ({ U with vm := s.vm } : State) locs mc ms := by
    subst hA
    obtain ⟨e1, e2⟩ := hsame
    rw [State.setFrames_setFrames] at e1
    have h2 : (T.setVm s.vm).sameButNew ({ U with vm := s.vm } : State) [] (0 + 1) (0 + 6) := ⟨e1, e2⟩
    have h3 := X.same.trans h2
    rw [List.append_nil] at h3
    exact h3.mono hc hs
  refine ⟨U, ?_, .threw T.heap.size, hrun, hend, Or.inr ⟨T.heap.size, rfl, cls, ce, locs, hx U hWs.alike f1 (fun q hq => f2 q hq (fun z hz => nomatch hz)), hce, hO.vm, hcl, hWs, hall, hf⟩⟩
  refine st1 _ ?_
  show Steps p.tables e below (T1.setTop { method := m, pc := pc + 3, locals := ls, stack := .ref T.heap.size :: rest, locked := none }) _
  jvm_step X₁.here [X₁.here.top, hexec, d3', Value.category]
  exact X₁.ldcStringW hexec (own := own) (text := text) (index := is) (a := sa) hown' hstr'.1 hstr'.2
    (g := { method := m, pc := pc + 4, locals := ls, stack := .ref T.heap.size :: .ref T.heap.size :: rest, locked := none }) rfl d4' _ hsteps
end Ends
section Bodies
variable {l : Launch}
theorem vx_ofW {y : MethodName} {ws ws' : List Cond} {rm : Room} {Pc : Array Value → State → Prop} {Qc : Array Value → State → Outcome → State → Prop} {XC : String → State → State → Prop} {mc ms : Nat} {free : Addr → Prop} {cc : ByteArray} {maxL : Nat} {ret : Option FieldType}
    (hy : plainName y.cls = true) (hw : ws = Cond.code y cc maxL ret :: ws')
    (body : ∀ p e s m args below meth c s₁, BodyLoose p l y (headSpec ws rm) cc maxL ret e s m args below meth c s₁ → c.maxLocals = maxL → (∀ x ∈ c.exceptionTable.toList, False) → Pc args s →
      W p l e (headSpec ws rm).room s m args below meth c s.heap [] 0 0 (vx_MQ below Qc XC args s mc ms free) (entryFrame m args maxL)) : vx_Met l y ws rm Pc Qc XC mc ms free := by
  refine MetFree.of_bodyS (code := cc) (maxLocals := maxL) (ret := ret) hy ?_ ?_
  · intro args s m h hn
    obtain ⟨meth, c, h1, h2, h3, h4, h5, h6, -, -⟩ := Cond.code_spec hn (atoms_spec (ws := ws) h _ (by rw [hw]; exact List.mem_cons_self))
    exact ⟨meth, c, h1, h2, h3, h4, h5, h6⟩
  · intro p e s m args below meth c s₁ B hml hP _
    have hh0 : s₁.heap = s.heap := by rw [B.state]; rfl
    have ht : ∀ x ∈ c.exceptionTable.toList, False := by
      obtain ⟨meth9, c9, h1, h2, -, -, -, -, h7, -⟩ := Cond.code_spec B.named (atoms_spec (ws := ws) B.pre _ (by rw [hw]; exact List.mem_cons_self))
      cases Option.some.inj (h1.symm.trans B.method)
      cases Option.some.inj (h2.symm.trans (Stand.of_body B).code)
      intro x hx
      rw [Array.isEmpty_iff.mp h7] at hx
      cases hx
    obtain ⟨t, a1, o, b1, b2, b3⟩ := body p e s m args below meth c s₁ B hml ht hP s₁ hh0 (Stand.of_body B)
    exact ⟨t, o, a1, b1, b2, b3⟩
/-- the table of a body with handlers -/
theorem vx_table {p : Program} {x y : MethodName} {S : Spec} {cc bytes : ByteArray} {maxL maxL' : Nat} {ret ret' : Option FieldType} {e : Env} {s s₁ : State} {m : MethodId} {args : Array Value} {below : List Frame} {meth : Method} {c : Code} {hh : List (Nat × Nat × Nat × Nat)}
    (B : BodyLoose p l y S cc maxL ret e s m args below meth c s₁) (h : (Cond.codeWith y bytes maxL' ret' hh).before args s = true) : c.exceptionTable.toList = tableOf hh := by
  obtain ⟨m9, meth9, c9, hn9, h1, h2, -, -, h6, -⟩ := Cond.codeWith_spec h
  cases Option.some.inj (hn9.symm.trans B.named)
  cases Option.some.inj (h1.symm.trans B.method)
  cases Option.some.inj (h2.symm.trans (Stand.of_body B).code)
  rw [← h6, table_eq]
end Bodies
end VXA
/-! ===== END ===== -/
/-! ===== BEGIN a static call of a method with an exception table ===== -/
section VXS
variable {p : Program} {l : Launch} {e : Env} {R : Room} {s : State} {m : MethodId} {args : Array Value} {below : List Frame} {meth : Method} {c : Code} {T : State} {H : Heap} {locs : List Loc} {cells slots : Nat}
abbrev vx_CSW (R : Room) (s : State) (args : Array Value) (own : String) (index : Nat) (y : MethodName) (bytes : ByteArray) (maxL : Nat) (ret : Option FieldType) (hh : List (Nat × Nat × Nat × Nat)) (ws : List Cond) (rm : Room) (mc ms n : Nat) : Prop :=
  (rm.cells = mc ∧ rm.slots = ms ∧ rm.frames + 1 ≤ R.frames ∧ 8 + (maxL + 11) + rm.locals ≤ R.locals ∧ (∀ w ∈ ws, ∀ (a' : Array Value) (U : State), s.WarmedH U.vm → w.before a' U = true) ∧ Cond.codeWith y bytes maxL ret hh ∈ ws) ∧
  (Cond.codeWith y bytes maxL ret hh).before args s = true ∧ (Cond.initialized y.cls).before args s = true ∧ (y.cls ≠ "java/lang/invoke/MethodHandle" ∧ y.cls ≠ "java/lang/invoke/VarHandle") ∧
  (∀ sig, parseMethodDescriptor y.desc = some sig → n = sig.parameters.length) ∧ (Cond.methodLink own index y).before args s = true ∧ (Cond.static y).before args s = true
theorem vx_cwSW {own : String} {index maxL mc ms : Nat} {y : MethodName} {bytes : ByteArray} {ret : Option FieldType} {hh : List (Nat × Nat × Nat × Nat)} {Ts ws ws' : List Cond} {rm : Room} (n : Nat) (ht : ∀ w ∈ Ts, w.before args s = true) (hT : GoodIn Ts (va_wsS own index y ws)) (hw : ws = Cond.codeWith y bytes maxL ret hh :: ws') (hrc : rm.cells = mc) (hrs : rm.slots = ms)
    (hd : y.cls ≠ "java/lang/invoke/MethodHandle" ∧ y.cls ≠ "java/lang/invoke/VarHandle" ∧ (parseMethodDescriptor y.desc).map (fun d => d.parameters.length) = some n) (hR : rm.frames + 1 ≤ R.frames ∧ 8 + (maxL + 11) + rm.locals ≤ R.locals) :
    vx_CSW R s args own index y bytes maxL ret hh ws rm mc ms n := by
  have ok : ∀ w ∈ va_wsS own index y ws, w.before args s = true := fun w h => ht w (hT w h).1
  have hG : GoodIn Ts ws := fun w h => hT w (by unfold va_wsS; exact List.mem_append_right _ h)
  have hc : Cond.codeWith y bytes maxL ret hh ∈ ws := by rw [hw]; exact List.mem_cons_self
  refine ⟨⟨hrc, hrs, hR.1, hR.2, pay_in ht hG, hc⟩, ht _ (hG _ hc).1, ok _ (by simp [va_wsS]), ⟨hd.1, hd.2.1⟩, fun sig h => ?_, ok _ (by simp [va_wsS]), ok _ (by simp [va_wsS])⟩
  have h2 := hd.2.2
  rw [h] at h2
  exact (Option.some.inj h2).symm
theorem vx_callSW (X : Stand p l e R s m args below meth c T locs cells slots) (hexec : p.tables.exec = Jvm.exec) {own : String} {index : Nat} {y : MethodName} {bytes : ByteArray} {maxL : Nat} {ret : Option FieldType} {hh : List (Nat × Nat × Nat × Nat)}
    (hown : s.vm.findClass own = some m.cls) (hlink : (Cond.methodLink own index y).before args s = true) (hstat : (Cond.static y).before args s = true) (hinit : (Cond.initialized y.cls).before args s = true)
    (hcode : (Cond.codeWith y bytes maxL ret hh).before args s = true) (hy : y.cls ≠ "java/lang/invoke/MethodHandle" ∧ y.cls ≠ "java/lang/invoke/VarHandle")
    {W9 : Nat} {Pre : Pt → Array Value → Prop} {Post : Pt → Array Value → Option Value → Pt → Prop} (hK : Back l R p e below s args y 3 W9 Pre Post)
    {g : JFrame} (hg : g.method = m) (hsize : g.locals.size = c.maxLocals) {argsL rest : List Value} (hlen : ∀ sig, parseMethodDescriptor y.desc = some sig → argsL.length = sig.parameters.length)
    (hstack : g.stack = argsL.reverse ++ rest) (hW : 2 * g.monitorRoom + (rest.map fun v => v.category).sum ≤ W9) (hdg : decode c.code g.pc = .ok (.invokestatic index, 3))
    (hpre : ∀ vm₁, s.WarmedH vm₁ → Pre ⟨T.setVm vm₁, locs, cells, slots⟩ argsL.toArray) :
    ∃ (v : Option Value) (vm₁ : Vm) (B : Pt), s.WarmedH vm₁ ∧ Stand p l e R s m args below meth c B.U B.locs B.cells B.slots ∧ Post ⟨T.setVm vm₁, locs, cells, slots⟩ argsL.toArray v B ∧
      ∀ target, Steps p.tables e below (B.U.setTop { g with pc := g.pc + 3, stack := v.toList ++ rest }) target → Steps p.tables e below (T.setTop g) target := by
  obtain ⟨mk, methM, cM, hnamed, hmethM, -, -, -, -, -, -, hsigM⟩ := Cond.codeWith_spec hcode
  have hstatic : methM.isStatic = true := Cond.static_spec hnamed hmethM hstat
  obtain ⟨kP, hkP, -⟩ := className_of_methodNamed hnamed
  have hinitP : kP.init = .initialized := Cond.initialized_spec (findClass_of_methodNamed hnamed) hkP hinit
  obtain ⟨vm₁, X₁, hstep₁⟩ := X.invokestatic hexec hown hlink hnamed hmethM hstatic hkP hinitP hy (g := g) hg (argsL := argsL) (rest := rest) (hlen _ hsigM) hstack hdg
  obtain ⟨v, B, X', hpost, hsteps⟩ := hK m meth c ⟨T.setVm vm₁, locs, cells, slots⟩ { g with stack := rest } (.invokestatic index) mk argsL.toArray X₁ hg hsize hdg hW (X₁.named hnamed) (hpre vm₁ X₁.warmed)
  exact ⟨v, vm₁, B, X₁.warmed, X', hpost, fun target h => hstep₁ _ fun acts => by rw [doInvoke_state]; exact hsteps.trans h⟩
theorem vx_runSW {y : MethodName} {bytes cc : ByteArray} {maxL nL mc ms n index : Nat} {ret : Option FieldType} {hh : List (Nat × Nat × Nat × Nat)} {ws : List Cond} {rm : Room} {Pc : Array Value → State → Prop} {Qc : Array Value → State → Outcome → State → Prop} {free : Addr → Prop} {Ts : List Cond} {own : String} {As rest : List Value} {g : JFrame}
    (S : CallFix p m c cc nL s args Ts own) (hM : Met l y ws rm Pc Qc mc ms free) (cw : vx_CSW R s args own index y bytes maxL ret hh ws rm mc ms n) (hp : PreS s H Pc As)
    (hg : g.method = m) (hn : As.length = n) (hsize : g.locals.size = nL) (hstack : g.stack = As.reverse ++ rest) (hW : 2 * g.monitorRoom + (rest.map fun v => v.category).sum ≤ 8) (hdg : decode cc g.pc = .ok (.invokestatic index, 3)) (hf : cells + mc ≤ R.cells ∧ slots + ms ≤ R.slots) :
    va_Run p l e R s m args below meth c H locs cells slots mc ms g rest (Qc As.toArray) (free) := by
  obtain ⟨⟨hrc, hrs, hfr, hlo, hws, hcw⟩, hcode, hini, hy, hlen, hl, hstt⟩ := cw
  have hK : Back l R p e below s args y 3 8 (PreOf R mc ms Pc) (PostOf Qc mc ms free) := va_backW (hh := hh) (bytes := bytes) (maxL := maxL) (ret := ret) hM hp.1 hrc hrs hfr hlo hws hcw (fun a' U hW => word_at hW (Or.inl (by first | rfl | simp [Cond.onTables, Cond.keeps, Cond.steady])) hini)
  obtain ⟨hx, hb, hml, ho, -⟩ := S
  intro T hT X
  obtain ⟨v, vm₁, ⟨U', l2, c2, s2⟩, hW₁, X', ⟨g', mk, t, L, e1, e2, hq, h1, hL, h2, h3⟩, st⟩ := vx_callSW X hx (hh := hh) (bytes := bytes) (maxL := maxL) (ret := ret) ho hl hstt hini hcode hy hK hg (hsize.trans hml.symm) (argsL := As) (rest := rest) (fun sig h => hn.trans (hlen sig h)) hstack hW (by rw [hb]; exact hdg)
    (fun vm₁ hW₁ => ⟨hf.1, hf.2, hp.2 (T.setVm vm₁) hT hW₁⟩)
  dsimp only [Pt.U, Pt.locs, Pt.cells, Pt.slots] at X' e1 e2 h1 h2 h3 st
  subst h1; subst h2; subst h3
  exact ⟨v, (T.setVm vm₁).calling g' mk As.toArray, t, U', L, hT, X', hL, e1, e2, hq, st⟩
/-- a thing of a world lies in the heap -/
theorem vx_lt {D : va_G} {cl : List vw_C} {ws : va_W} {H1 : Heap} (h : va_P D cl ws H1) {k : Nat} {q : Nat × va_E} (hk : ws[k]? = some q) : q.1 < H1.size := (h k q hk).lt
end VXS
/-! ===== END ===== -/
/-! ===== BEGIN methods with a table of their own: called by a name, returning or throwing ===== -/
section VXH
/-! vx_backW, vx_callVX, vx_callSX, vx_callVW, vx_runVW, vx_runVX, vx_runSX, vx_ofWH follow the same proofs as their sisters above (Free/Laws.lean, Shelf42/LK1.lean); vx_outP calls Shelf42/NT130.lean (outThrough). -/
section
variable {l : Launch} {R : Room} {p : Program} {e : Env} {below : List Frame} {s : State} {sargs : Array Value} {y : MethodName} {len W9 : Nat}
theorem vx_backW {ws : List Cond} {rm : Room} {Pc : Array Value → State → Prop} {Qc : Array Value → State → Outcome → State → Prop} {XC : String → State → State → Prop} {mc ms : Nat} {free : Addr → Prop} {bytes : ByteArray} {maxL : Nat} {ret : Option FieldType} {hh : List (Nat × Nat × Nat × Nat)}
    (hM : vx_Met l y ws rm Pc Qc XC mc ms free) (hblind : FrameBlind Pc) (hrc : rm.cells = mc) (hrs : rm.slots = ms)
    (hframes : rm.frames + 1 ≤ R.frames) (hlocals : W9 + (maxL + 11) + rm.locals ≤ R.locals)
    (hws : ∀ w ∈ ws, ∀ a' U, s.WarmedH U.vm → w.before a' U = true) (hcode : Cond.codeWith y bytes maxL ret hh ∈ ws) (hinit : ∀ a' U, s.WarmedH U.vm → (Cond.initialized y.cls).before a' U = true) :
    vx_Back l R p e below s sargs y len W9 (PreOf R mc ms Pc) (PostOf Qc mc ms free) (vx_Post XC mc ms free) := by
  intro m meth c A g ig mk a X hg hsize hdg hW hn hp
  have h1 : (headSpec ws rm).pre.before a A.U = true := atoms_intro fun w hw => hws w hw _ _ X.warmed
  have h2 : (Cond.codeWith y bytes maxL ret hh).before a A.U = true := hws _ hcode _ _ X.warmed
  have h3 : (Cond.initialized y.cls).before a A.U = true := hinit _ _ X.warmed
  have h4 : A.cells + (headSpec ws rm).room.cells ≤ R.cells := by rw [show (headSpec ws rm).room.cells = mc from hrc]; exact hp.1
  have h5 : A.slots + (headSpec ws rm).room.slots ≤ R.slots := by rw [show (headSpec ws rm).room.slots = ms from hrs]; exact hp.2.1
  have hPc : Pc a (A.U.calling g mk a) := hblind _ _ _ _ hp.2.2
  obtain ⟨U, Ls, c0, s0⟩ := A
  dsimp only [Pt.U, Pt.locs, Pt.cells, Pt.slots] at h1 h2 h3 h4 h5 X hn hPc ⊢
  obtain ⟨m9, methY, cY, hn9, hmY, hcY, -, hlY, -⟩ := Cond.codeWith_spec h2
  cases Option.some.inj (hn9.symm.trans hn)
  obtain ⟨kY, hkY, -⟩ := className_of_methodNamed hn
  have hinitY : kY.init = .initialized := Cond.initialized_spec (findClass_of_methodNamed hn) hkY h3
  have h : At U g.method c below := by rw [hg]; exact X.here
  have hlocals9 : W9 + (maxL + 11) + (headSpec ws rm).room.locals ≤ R.locals := hlocals
  have happ : (headSpec ws rm).appliesLoose y e.platform (U.calling g mk a) = true :=
    Spec.appliesLoose_calling (g := g) h hdg hn hkY hinitY
      (X.room_calling (g := g) (R' := (headSpec ws rm).room) hsize hmY hcY hframes (by rw [hlY]; omega) h4 h5) h1
  obtain ⟨mid, hmid⟩ := h.above
  have hfr : (U.setTop g).frames = (.java g :: mid) ++ below := by rw [State.frames_setTop' g h.top, hmid]; rfl
  obtain ⟨o, s₂, hsteps, -, hend, hq⟩ := Steps.callFree hM p X.admits X.cas X.clock (acts := []) hfr happ hPc trivial
  have hq' : vx_Q Qc XC mc ms free a (U.calling g mk a) o s₂ := hq
  rw [State.frames_setTop' g h.top] at hend
  obtain ⟨g₀, hg0⟩ := Option.isSome_iff_exists.mp h.top
  obtain ⟨r, hr⟩ := State.topJava?_eq_some.mp hg0
  have hr' : (({ U with heap := s₂.heap, slotsUsed := s₂.slotsUsed } : State).setVm s₂.vm).frames = .java g₀ :: r := hr
  rcases hq' with ⟨hqc, L, hfe, hL⟩ | ⟨q, rfl, E, ce, L, hx, hce, hcv, hcl, hW₂, hsm, hL⟩
  · obtain ⟨⟨v, rfl⟩, hW₂, e2, q2, q3, q4, q5, q6⟩ := id hfe
    have e3 : s₂ = ({ (U.calling g mk a).setFrames s₂.frames with heap := s₂.heap, slotsUsed := s₂.slotsUsed } : State).setVm s₂.vm := by
      have : s₂ = ({ s₂ with vm := (U.calling g mk a).vm } : State).setVm s₂.vm := rfl
      rw [e2] at this
      exact this
    obtain ⟨c₂, i₂, len₂, hc₂, hd₂, hf₂⟩ := hend
    have hW' : U.WarmedH s₂.vm := hW₂
    have hcc : c₂ = c := by
      have h1 : s₂.code? g.method = U.code? g.method := by
        rw [State.code?_eq, State.code?_eq, hW'.alike.method?]
      exact Option.some.inj (hc₂.symm.trans (h1.trans h.code))
    subst hcc
    have hlen : len₂ = len := by rw [hdg] at hd₂; cases hd₂; rfl
    subst hlen
    have hs₂ : s₂ = (({ U with heap := s₂.heap, slotsUsed := s₂.slotsUsed } : State).setVm s₂.vm).setTop { g with pc := g.pc + len₂, stack := v.toList ++ g.stack } := by
      refine e3.trans ?_
      rw [hf₂, State.calling_eq h.top, State.setFrames_setFrames, State.setTop_of_frames _ hr', hr]
      rfl
    have hsame : U.sameButNew ({ U with heap := s₂.heap, slotsUsed := s₂.slotsUsed } : State) L mc ms := by
      refine ⟨?_, q2, q3, q4, q5, q6⟩
      obtain ⟨t, ht, -⟩ := State.frames_cons hr
      show ({ U with heap := s₂.heap, slotsUsed := s₂.slotsUsed } : State) = { U.setFrames U.frames with heap := s₂.heap, slotsUsed := s₂.slotsUsed }
      rw [State.setFrames_self ht]
    subst hg
    refine Or.inl ⟨v, ⟨(({ U with heap := s₂.heap, slotsUsed := s₂.slotsUsed } : State).setVm s₂.vm), Ls ++ L, c0 + mc, s0 + ms⟩,
      ⟨X.admits, X.cas, X.clock, X.frames, X.room, X.hears, X.method, X.code, (X.here.setHeapUsed s₂.heap s₂.slotsUsed).setVm hW'.alike, X.tail, State.WarmedH.trans X.warmed hW', X.limits, X.bytes, X.same.trans (hsame.setVm s.vm)⟩,
      ⟨g, mk, s₂, L, rfl, rfl, hqc, rfl, hL, rfl, rfl⟩, ?_⟩
    show Steps p.tables e below _ ((({ U with heap := s₂.heap, slotsUsed := s₂.slotsUsed } : State).setVm s₂.vm).setTop { g with pc := g.pc + len₂, stack := v.toList ++ g.stack })
    rw [← hs₂]
    exact hsteps
  · obtain ⟨e2, q2, q3, q4, q5, q6⟩ := id hsm
    have e3 : s₂ = ({ (U.calling g mk a).setFrames s₂.frames with heap := s₂.heap, slotsUsed := s₂.slotsUsed } : State).setVm s₂.vm := by
      have : s₂ = ({ s₂ with vm := (U.calling g mk a).vm } : State).setVm s₂.vm := rfl
      rw [e2] at this
      exact this
    have hf₂ : s₂.frames = .throwing q :: .java g :: U.frames.tail := hend
    have hW' : U.WarmedH s₂.vm := hW₂
    have hs₂ : s₂ = ((({ U with heap := s₂.heap, slotsUsed := s₂.slotsUsed } : State).setVm s₂.vm).setTop g).pushFrame (.throwing q) := by
      refine e3.trans ?_
      rw [hf₂, State.calling_eq h.top, State.setFrames_setFrames, State.pushFrame, State.frames_setTop _ hr', State.setTop_of_frames _ hr', State.setFrames_setFrames, hr]
      rfl
    have hsame : U.sameButNew ({ U with heap := s₂.heap, slotsUsed := s₂.slotsUsed } : State) L mc ms := by
      refine ⟨?_, q2, q3, q4, q5, q6⟩
      obtain ⟨t, ht, -⟩ := State.frames_cons hr
      show ({ U with heap := s₂.heap, slotsUsed := s₂.slotsUsed } : State) = { U.setFrames U.frames with heap := s₂.heap, slotsUsed := s₂.slotsUsed }
      rw [State.setFrames_self ht]
    subst hg
    refine Or.inr ⟨q, ⟨(({ U with heap := s₂.heap, slotsUsed := s₂.slotsUsed } : State).setVm s₂.vm), Ls ++ L, c0 + mc, s0 + ms⟩,
      ⟨X.admits, X.cas, X.clock, X.frames, X.room, X.hears, X.method, X.code, (X.here.setHeapUsed s₂.heap s₂.slotsUsed).setVm hW'.alike, X.tail, State.WarmedH.trans X.warmed hW', X.limits, X.bytes, X.same.trans (hsame.setVm s.vm)⟩,
      ⟨g, mk, s₂, L, E, ce, rfl, rfl, hx, hce, hcv, hcl, rfl, hL, rfl, rfl⟩, ?_⟩
    show Steps p.tables e below _ (((({ U with heap := s₂.heap, slotsUsed := s₂.slotsUsed } : State).setVm s₂.vm).setTop g).pushFrame (.throwing q))
    rw [← hs₂]
    exact hsteps
end
variable {p : Program} {l : Launch} {e : Env} {R : Room} {s : State} {m : MethodId} {args : Array Value} {below : List Frame} {meth : Method} {c : Code} {T : State} {H : Heap} {locs : List Loc} {cells slots : Nat}
theorem vx_callVX (X : Stand p l e R s m args below meth c T locs cells slots) (hexec : p.tables.exec = Jvm.exec) {own C : String} {index : Nat} {y : MethodName} {bytes : ByteArray} {maxL : Nat} {ret : Option FieldType} {hh : List (Nat × Nat × Nat × Nat)}
    (hown : s.vm.findClass own = some m.cls) (hlink : (Cond.methodLink own index y).before args s = true) (hinst : (Cond.instanceMethod y).before args s = true) (hsel : (Cond.selects C y y).before args s = true)
    (hcode : (Cond.codeWith y bytes maxL ret hh).before args s = true) (hy : y.cls ≠ "java/lang/invoke/MethodHandle" ∧ y.cls ≠ "java/lang/invoke/VarHandle")
    {W9 : Nat} {Pre : Pt → Array Value → Prop} {Post : Pt → Array Value → Option Value → Pt → Prop} {PostX : Pt → Array Value → Addr → Pt → Prop} (hK : vx_Back l R p e below s args y 3 W9 Pre Post PostX)
    {b : Addr} {cellB : Cell} (hcell : T.heap[b]? = some cellB) (hobj : cellB.vm.isStatics = false) (hcls : s.vm.findClass C = some cellB.cls)
    {g : JFrame} (hg : g.method = m) (hsize : g.locals.size = c.maxLocals) {argsL rest : List Value} (hlen : ∀ sig, parseMethodDescriptor y.desc = some sig → argsL.length = sig.parameters.length)
    (hstack : g.stack = argsL.reverse ++ .ref b :: rest) (hW : 2 * g.monitorRoom + (rest.map fun v => v.category).sum ≤ W9) (hdg : decode c.code g.pc = .ok (.invokevirtual index, 3))
    (hpre : ∀ vm₁, s.WarmedH vm₁ → Pre ⟨T.setVm vm₁, locs, cells, slots⟩ (Value.ref b :: argsL).toArray) :
    (∃ (v : Option Value) (vm₁ : Vm) (B : Pt), s.WarmedH vm₁ ∧ Stand p l e R s m args below meth c B.U B.locs B.cells B.slots ∧ Post ⟨T.setVm vm₁, locs, cells, slots⟩ (Value.ref b :: argsL).toArray v B ∧
      ∀ target, Steps p.tables e below (B.U.setTop { g with pc := g.pc + 3, stack := v.toList ++ rest }) target → Steps p.tables e below (T.setTop g) target) ∨
    (∃ (q : Addr) (vm₁ : Vm) (B : Pt), s.WarmedH vm₁ ∧ Stand p l e R s m args below meth c B.U B.locs B.cells B.slots ∧ PostX ⟨T.setVm vm₁, locs, cells, slots⟩ (Value.ref b :: argsL).toArray q B ∧
      Steps p.tables e below (T.setTop g) ((B.U.setTop { g with stack := rest }).pushFrame (.throwing q))) := by
  obtain ⟨mk, methM, hnamed, hmethM, hstM, habM⟩ := Cond.instanceMethod_spec hinst
  obtain ⟨m8, methM', cM, hn8, hmethM', -, -, -, -, -, -, hsigM⟩ := Cond.codeWith_spec hcode
  cases Option.some.inj (hn8.symm.trans hnamed)
  cases hmethM.symm.trans hmethM'
  obtain ⟨c2, r2, m2, q1, q2, q3, q4, kP, hkP, hkPi⟩ := Cond.selects_spec hsel
  cases hcls.symm.trans q1
  cases (State.methodFound?_of_named hnamed hy).symm.trans q2
  cases hnamed.symm.trans q3
  have hselP : selectMethod e.platform s.vm cellB.cls mk = .method mk := by rw [Launch.admits_selectMethod X.admits]; exact q4
  obtain ⟨vm₁, X₁, hstep₁⟩ := X.invokevirtual hexec hown hlink hnamed hmethM hstM hkP hkPi hy (a := b) (cell := cellB) hcell
    (fun z h => by rw [h] at hobj; cases hobj) hselP hmethM habM hkP hkPi (g := g) hg (argsL := argsL) (rest := rest) (hlen _ hsigM) hstack hdg
  rcases hK m meth c ⟨T.setVm vm₁, locs, cells, slots⟩ { g with stack := rest } (.invokevirtual index) mk (Value.ref b :: argsL).toArray X₁ hg hsize hdg hW (X₁.named hnamed) (hpre vm₁ X₁.warmed) with ⟨v, B, X', hpost, hsteps⟩ | ⟨q, B, X', hpost, hsteps⟩
  · exact Or.inl ⟨v, vm₁, B, X₁.warmed, X', hpost, fun target h => hstep₁ _ fun acts => by rw [doInvoke_state]; exact hsteps.trans h⟩
  · exact Or.inr ⟨q, vm₁, B, X₁.warmed, X', hpost, hstep₁ _ fun acts => by rw [doInvoke_state]; exact hsteps⟩
theorem vx_callSX (X : Stand p l e R s m args below meth c T locs cells slots) (hexec : p.tables.exec = Jvm.exec) {own : String} {index : Nat} {y : MethodName} {bytes : ByteArray} {maxL : Nat} {ret : Option FieldType} {hh : List (Nat × Nat × Nat × Nat)}
    (hown : s.vm.findClass own = some m.cls) (hlink : (Cond.methodLink own index y).before args s = true) (hstat : (Cond.static y).before args s = true) (hinit : (Cond.initialized y.cls).before args s = true)
    (hcode : (Cond.codeWith y bytes maxL ret hh).before args s = true) (hy : y.cls ≠ "java/lang/invoke/MethodHandle" ∧ y.cls ≠ "java/lang/invoke/VarHandle")
    {W9 : Nat} {Pre : Pt → Array Value → Prop} {Post : Pt → Array Value → Option Value → Pt → Prop} {PostX : Pt → Array Value → Addr → Pt → Prop} (hK : vx_Back l R p e below s args y 3 W9 Pre Post PostX)
    {g : JFrame} (hg : g.method = m) (hsize : g.locals.size = c.maxLocals) {argsL rest : List Value} (hlen : ∀ sig, parseMethodDescriptor y.desc = some sig → argsL.length = sig.parameters.length)
    (hstack : g.stack = argsL.reverse ++ rest) (hW : 2 * g.monitorRoom + (rest.map fun v => v.category).sum ≤ W9) (hdg : decode c.code g.pc = .ok (.invokestatic index, 3))
    (hpre : ∀ vm₁, s.WarmedH vm₁ → Pre ⟨T.setVm vm₁, locs, cells, slots⟩ argsL.toArray) :
    (∃ (v : Option Value) (vm₁ : Vm) (B : Pt), s.WarmedH vm₁ ∧ Stand p l e R s m args below meth c B.U B.locs B.cells B.slots ∧ Post ⟨T.setVm vm₁, locs, cells, slots⟩ argsL.toArray v B ∧
      ∀ target, Steps p.tables e below (B.U.setTop { g with pc := g.pc + 3, stack := v.toList ++ rest }) target → Steps p.tables e below (T.setTop g) target) ∨
    (∃ (q : Addr) (vm₁ : Vm) (B : Pt), s.WarmedH vm₁ ∧ Stand p l e R s m args below meth c B.U B.locs B.cells B.slots ∧ PostX ⟨T.setVm vm₁, locs, cells, slots⟩ argsL.toArray q B ∧
      Steps p.tables e below (T.setTop g) ((B.U.setTop { g with stack := rest }).pushFrame (.throwing q))) := by
  obtain ⟨mk, methM, cM, hnamed, hmethM, -, -, -, -, -, -, hsigM⟩ := Cond.codeWith_spec hcode
  have hstatic : methM.isStatic = true := Cond.static_spec hnamed hmethM hstat
  obtain ⟨kP, hkP, -⟩ := className_of_methodNamed hnamed
  have hinitP : kP.init = .initialized := Cond.initialized_spec (findClass_of_methodNamed hnamed) hkP hinit
  obtain ⟨vm₁, X₁, hstep₁⟩ := X.invokestatic hexec hown hlink hnamed hmethM hstatic hkP hinitP hy (g := g) hg (argsL := argsL) (rest := rest) (hlen _ hsigM) hstack hdg
  rcases hK m meth c ⟨T.setVm vm₁, locs, cells, slots⟩ { g with stack := rest } (.invokestatic index) mk argsL.toArray X₁ hg hsize hdg hW (X₁.named hnamed) (hpre vm₁ X₁.warmed) with ⟨v, B, X', hpost, hsteps⟩ | ⟨q, B, X', hpost, hsteps⟩
  · exact Or.inl ⟨v, vm₁, B, X₁.warmed, X', hpost, fun target h => hstep₁ _ fun acts => by rw [doInvoke_state]; exact hsteps.trans h⟩
  · exact Or.inr ⟨q, vm₁, B, X₁.warmed, X', hpost, hstep₁ _ fun acts => by rw [doInvoke_state]; exact hsteps⟩
theorem vx_callVW (X : Stand p l e R s m args below meth c T locs cells slots) (hexec : p.tables.exec = Jvm.exec) {own C : String} {index : Nat} {y : MethodName} {bytes : ByteArray} {maxL : Nat} {ret : Option FieldType} {hh : List (Nat × Nat × Nat × Nat)}
    (hown : s.vm.findClass own = some m.cls) (hlink : (Cond.methodLink own index y).before args s = true) (hinst : (Cond.instanceMethod y).before args s = true) (hsel : (Cond.selects C y y).before args s = true)
    (hcode : (Cond.codeWith y bytes maxL ret hh).before args s = true) (hy : y.cls ≠ "java/lang/invoke/MethodHandle" ∧ y.cls ≠ "java/lang/invoke/VarHandle")
    {W9 : Nat} {Pre : Pt → Array Value → Prop} {Post : Pt → Array Value → Option Value → Pt → Prop} (hK : Back l R p e below s args y 3 W9 Pre Post)
    {b : Addr} {cellB : Cell} (hcell : T.heap[b]? = some cellB) (hobj : cellB.vm.isStatics = false) (hcls : s.vm.findClass C = some cellB.cls)
    {g : JFrame} (hg : g.method = m) (hsize : g.locals.size = c.maxLocals) {argsL rest : List Value} (hlen : ∀ sig, parseMethodDescriptor y.desc = some sig → argsL.length = sig.parameters.length)
    (hstack : g.stack = argsL.reverse ++ .ref b :: rest) (hW : 2 * g.monitorRoom + (rest.map fun v => v.category).sum ≤ W9) (hdg : decode c.code g.pc = .ok (.invokevirtual index, 3))
    (hpre : ∀ vm₁, s.WarmedH vm₁ → Pre ⟨T.setVm vm₁, locs, cells, slots⟩ (Value.ref b :: argsL).toArray) :
    ∃ (v : Option Value) (vm₁ : Vm) (B : Pt), s.WarmedH vm₁ ∧ Stand p l e R s m args below meth c B.U B.locs B.cells B.slots ∧ Post ⟨T.setVm vm₁, locs, cells, slots⟩ (Value.ref b :: argsL).toArray v B ∧
      ∀ target, Steps p.tables e below (B.U.setTop { g with pc := g.pc + 3, stack := v.toList ++ rest }) target → Steps p.tables e below (T.setTop g) target := by
  obtain ⟨mk, methM, hnamed, hmethM, hstM, habM⟩ := Cond.instanceMethod_spec hinst
  obtain ⟨m8, methM', cM, hn8, hmethM', -, -, -, -, -, -, hsigM⟩ := Cond.codeWith_spec hcode
  cases Option.some.inj (hn8.symm.trans hnamed)
  cases hmethM.symm.trans hmethM'
  obtain ⟨c2, r2, m2, q1, q2, q3, q4, kP, hkP, hkPi⟩ := Cond.selects_spec hsel
  cases hcls.symm.trans q1
  cases (State.methodFound?_of_named hnamed hy).symm.trans q2
  cases hnamed.symm.trans q3
  have hselP : selectMethod e.platform s.vm cellB.cls mk = .method mk := by rw [Launch.admits_selectMethod X.admits]; exact q4
  obtain ⟨vm₁, X₁, hstep₁⟩ := X.invokevirtual hexec hown hlink hnamed hmethM hstM hkP hkPi hy (a := b) (cell := cellB) hcell
    (fun z h => by rw [h] at hobj; cases hobj) hselP hmethM habM hkP hkPi (g := g) hg (argsL := argsL) (rest := rest) (hlen _ hsigM) hstack hdg
  obtain ⟨v, B, X', hpost, hsteps⟩ := hK m meth c ⟨T.setVm vm₁, locs, cells, slots⟩ { g with stack := rest } (.invokevirtual index) mk (Value.ref b :: argsL).toArray X₁ hg hsize hdg hW (X₁.named hnamed) (hpre vm₁ X₁.warmed)
  exact ⟨v, vm₁, B, X₁.warmed, X', hpost, fun target h => hstep₁ _ fun acts => by rw [doInvoke_state]; exact hsteps.trans h⟩
abbrev vx_CVW (R : Room) (s : State) (args : Array Value) (own C : String) (index : Nat) (y : MethodName) (bytes : ByteArray) (maxL : Nat) (ret : Option FieldType) (hh : List (Nat × Nat × Nat × Nat)) (ws : List Cond) (rm : Room) (mc ms n : Nat) : Prop :=
  (rm.cells = mc ∧ rm.slots = ms ∧ rm.frames + 1 ≤ R.frames ∧ 8 + (maxL + 11) + rm.locals ≤ R.locals ∧ (∀ w ∈ ws, ∀ (a' : Array Value) (U : State), s.WarmedH U.vm → w.before a' U = true) ∧ Cond.codeWith y bytes maxL ret hh ∈ ws) ∧
  (Cond.codeWith y bytes maxL ret hh).before args s = true ∧ (Cond.initialized y.cls).before args s = true ∧ (y.cls ≠ "java/lang/invoke/MethodHandle" ∧ y.cls ≠ "java/lang/invoke/VarHandle") ∧
  (∀ sig, parseMethodDescriptor y.desc = some sig → n = sig.parameters.length) ∧ (Cond.methodLink own index y).before args s = true ∧ (Cond.instanceMethod y).before args s = true ∧ (Cond.selects C y y).before args s = true
theorem vx_cwVW {own C : String} {index maxL mc ms : Nat} {y : MethodName} {bytes : ByteArray} {ret : Option FieldType} {hh : List (Nat × Nat × Nat × Nat)} {Ts ws ws' : List Cond} {rm : Room} (n : Nat) (ht : ∀ w ∈ Ts, w.before args s = true) (hT : GoodIn Ts (wsV own index C y ws)) (hw : ws = Cond.codeWith y bytes maxL ret hh :: ws') (hrc : rm.cells = mc) (hrs : rm.slots = ms)
    (hd : y.cls = C ∧ y.cls ≠ "java/lang/invoke/MethodHandle" ∧ y.cls ≠ "java/lang/invoke/VarHandle" ∧ (parseMethodDescriptor y.desc).map (fun d => d.parameters.length) = some n) (hR : rm.frames + 1 ≤ R.frames ∧ 8 + (maxL + 11) + rm.locals ≤ R.locals) :
    vx_CVW R s args own C index y bytes maxL ret hh ws rm mc ms n := by
  obtain ⟨hC, hd⟩ := hd
  subst hC
  have ok : ∀ w ∈ wsV own index y.cls y ws, w.before args s = true := fun w h => ht w (hT w h).1
  have hG : GoodIn Ts ws := fun w h => hT w (by unfold wsV; exact List.mem_append_right _ h)
  have hc : Cond.codeWith y bytes maxL ret hh ∈ ws := by rw [hw]; exact List.mem_cons_self
  refine ⟨⟨hrc, hrs, hR.1, hR.2, pay_in ht hG, hc⟩, ht _ (hG _ hc).1, ok _ (by simp [wsV]), ⟨hd.1, hd.2.1⟩, fun sig h => ?_, ok _ (by simp [wsV]), ok _ (by simp [wsV]), ok _ (by simp [wsV])⟩
  have h2 := hd.2.2
  rw [h] at h2
  exact (Option.some.inj h2).symm
theorem vx_runVW {y : MethodName} {bytes cc : ByteArray} {maxL nL mc ms n index : Nat} {ret : Option FieldType} {hh : List (Nat × Nat × Nat × Nat)} {ws : List Cond} {rm : Room} {Pc : Array Value → State → Prop} {Qc : Array Value → State → Outcome → State → Prop} {free : Addr → Prop} {Ts : List Cond} {own C : String} {b : Addr} {As rest : List Value} {g : JFrame}
    (S : CallFix p m c cc nL s args Ts own) (hM : Met l y ws rm Pc Qc mc ms free) (cw : vx_CVW R s args own C index y bytes maxL ret hh ws rm mc ms n) (hp : PreV s H C b Pc As)
    (hg : g.method = m) (hn : As.length = n) (hsize : g.locals.size = nL) (hstack : g.stack = As.reverse ++ .ref b :: rest) (hW : 2 * g.monitorRoom + (rest.map fun v => v.category).sum ≤ 8) (hdg : decode cc g.pc = .ok (.invokevirtual index, 3)) (hf : cells + mc ≤ R.cells ∧ slots + ms ≤ R.slots) :
    va_Run p l e R s m args below meth c H locs cells slots mc ms g rest (Qc (Value.ref b :: As).toArray) free := by
  obtain ⟨⟨hrc, hrs, hfr, hlo, hws, hcw⟩, hcode, hini, hy, hlen, hl, hin, hse⟩ := cw
  have hK : Back l R p e below s args y 3 8 (PreOf R mc ms Pc) (PostOf Qc mc ms free) := va_backW (hh := hh) (bytes := bytes) (maxL := maxL) (ret := ret) hM hp.1 hrc hrs hfr hlo hws hcw (fun a' U hW => word_at hW (Or.inl (by first | rfl | simp [Cond.onTables, Cond.keeps, Cond.steady])) hini)
  obtain ⟨hx, hb, hml, ho, -⟩ := S
  obtain ⟨-, ⟨cellB, hcB, hoB, hclB⟩, hPc⟩ := hp
  intro T hT X
  obtain ⟨v, vm₁, ⟨U', l2, c2, s2⟩, hW₁, X', ⟨g', mk, t, L, e1, e2, hq, h1, hL, h2, h3⟩, st⟩ := vx_callVW X hx (C := C) (hh := hh) (bytes := bytes) (maxL := maxL) (ret := ret) ho hl hin hse hcode hy hK (by rw [hT]; exact hcB) hoB hclB hg (hsize.trans hml.symm) (argsL := As) (rest := rest) (fun sig h => hn.trans (hlen sig h)) hstack hW (by rw [hb]; exact hdg)
    (fun vm₁ hW₁ => ⟨hf.1, hf.2, hPc (T.setVm vm₁) hT hW₁⟩)
  dsimp only [Pt.U, Pt.locs, Pt.cells, Pt.slots] at X' e1 e2 h1 h2 h3 st
  subst h1; subst h2; subst h3
  exact ⟨v, (T.setVm vm₁).calling g' mk (Value.ref b :: As).toArray, t, U', L, hT, X', hL, e1, e2, hq, st⟩
section
variable {y : MethodName} {bytes cc : ByteArray} {maxL nL mc ms n index : Nat} {ret : Option FieldType} {ws : List Cond} {rm : Room} {Pc : Array Value → State → Prop} {Qc : Array Value → State → Outcome → State → Prop} {XC : String → State → State → Prop} {free : Addr → Prop} {Ts : List Cond} {own C : String} {b : Addr} {As rest : List Value} {g : JFrame}
theorem vx_runVX {hh : List (Nat × Nat × Nat × Nat)} (S : CallFix p m c cc nL s args Ts own) (hM : vx_Met l y ws rm Pc Qc XC mc ms free) (cw : vx_CVW R s args own C index y bytes maxL ret hh ws rm mc ms n) (hp : PreV s H C b Pc As)
    (hg : g.method = m) (hn : As.length = n) (hsize : g.locals.size = nL) (hstack : g.stack = As.reverse ++ .ref b :: rest) (hW : 2 * g.monitorRoom + (rest.map fun v => v.category).sum ≤ 8) (hdg : decode cc g.pc = .ok (.invokevirtual index, 3)) (hf : cells + mc ≤ R.cells ∧ slots + ms ≤ R.slots) :
    vx_Run p l e R s m args below meth c H locs cells slots mc ms g rest (Qc (Value.ref b :: As).toArray) XC free := by
  obtain ⟨⟨hrc, hrs, hfr, hlo, hws, hcw⟩, hcode, hini, hy, hlen, hl, hin, hse⟩ := cw
  have hK : vx_Back l R p e below s args y 3 8 (PreOf R mc ms Pc) (PostOf Qc mc ms free) (vx_Post XC mc ms free) := vx_backW (hh := hh) (bytes := bytes) (maxL := maxL) (ret := ret) hM hp.1 hrc hrs hfr hlo hws hcw (fun a' U hW => word_at hW (Or.inl (by first | rfl | simp [Cond.onTables, Cond.keeps, Cond.steady])) hini)
  obtain ⟨hx, hb, hml, ho, -⟩ := S
  obtain ⟨-, ⟨cellB, hcB, hoB, hclB⟩, hPc⟩ := hp
  intro T hT X
  rcases vx_callVX X hx (C := C) (hh := hh) (bytes := bytes) (maxL := maxL) (ret := ret) ho hl hin hse hcode hy hK (by rw [hT]; exact hcB) hoB hclB hg (hsize.trans hml.symm) (argsL := As) (rest := rest) (fun sig h => hn.trans (hlen sig h)) hstack hW (by rw [hb]; exact hdg)
    (fun vm₁ hW₁ => ⟨hf.1, hf.2, hPc (T.setVm vm₁) hT hW₁⟩) with ⟨v, vm₁, ⟨U', l2, c2, s2⟩, hW₁, X', ⟨g', mk, t, L, e1, e2, hq, h1, hL, h2, h3⟩, st⟩ | ⟨q, vm₁, ⟨U', l2, c2, s2⟩, hW₁, X', ⟨g', mk, t, L, E, ce, e1, e2, hq, hce, hcv, hcl, h1, hL, h2, h3⟩, st⟩
  · dsimp only [Pt.U, Pt.locs, Pt.cells, Pt.slots] at X' e1 e2 h1 h2 h3 st
    subst h1; subst h2; subst h3
    exact Or.inl ⟨v, (T.setVm vm₁).calling g' mk (Value.ref b :: As).toArray, t, U', L, hT, X', hL, e1, e2, hq, st⟩
  · dsimp only [Pt.U, Pt.locs, Pt.cells, Pt.slots] at X' e1 e2 h1 h2 h3 st hcl
    subst h1; subst h2; subst h3
    exact Or.inr ⟨q, (T.setVm vm₁).calling g' mk (Value.ref b :: As).toArray, t, U', L, E, ce, hT, X', hL, e1, e2, hq, hce, hcv, vx_cls hW₁ hcl, st⟩
theorem vx_runSX {hh : List (Nat × Nat × Nat × Nat)} (S : CallFix p m c cc nL s args Ts own) (hM : vx_Met l y ws rm Pc Qc XC mc ms free) (cw : vx_CSW R s args own index y bytes maxL ret hh ws rm mc ms n) (hp : PreS s H Pc As)
    (hg : g.method = m) (hn : As.length = n) (hsize : g.locals.size = nL) (hstack : g.stack = As.reverse ++ rest) (hW : 2 * g.monitorRoom + (rest.map fun v => v.category).sum ≤ 8) (hdg : decode cc g.pc = .ok (.invokestatic index, 3)) (hf : cells + mc ≤ R.cells ∧ slots + ms ≤ R.slots) :
    vx_Run p l e R s m args below meth c H locs cells slots mc ms g rest (Qc As.toArray) XC free := by
  obtain ⟨⟨hrc, hrs, hfr, hlo, hws, hcw⟩, hcode, hini, hy, hlen, hl, hstt⟩ := cw
  have hK : vx_Back l R p e below s args y 3 8 (PreOf R mc ms Pc) (PostOf Qc mc ms free) (vx_Post XC mc ms free) := vx_backW (hh := hh) (bytes := bytes) (maxL := maxL) (ret := ret) hM hp.1 hrc hrs hfr hlo hws hcw (fun a' U hW => word_at hW (Or.inl (by first | rfl | simp [Cond.onTables, Cond.keeps, Cond.steady])) hini)
  obtain ⟨hx, hb, hml, ho, -⟩ := S
  intro T hT X
  rcases vx_callSX X hx (hh := hh) (bytes := bytes) (maxL := maxL) (ret := ret) ho hl hstt hini hcode hy hK hg (hsize.trans hml.symm) (argsL := As) (rest := rest) (fun sig h => hn.trans (hlen sig h)) hstack hW (by rw [hb]; exact hdg)
    (fun vm₁ hW₁ => ⟨hf.1, hf.2, hp.2 (T.setVm vm₁) hT hW₁⟩) with ⟨v, vm₁, ⟨U', l2, c2, s2⟩, hW₁, X', ⟨g', mk, t, L, e1, e2, hq, h1, hL, h2, h3⟩, st⟩ | ⟨q, vm₁, ⟨U', l2, c2, s2⟩, hW₁, X', ⟨g', mk, t, L, E, ce, e1, e2, hq, hce, hcv, hcl, h1, hL, h2, h3⟩, st⟩
  · dsimp only [Pt.U, Pt.locs, Pt.cells, Pt.slots] at X' e1 e2 h1 h2 h3 st
    subst h1; subst h2; subst h3
    exact Or.inl ⟨v, (T.setVm vm₁).calling g' mk As.toArray, t, U', L, hT, X', hL, e1, e2, hq, st⟩
  · dsimp only [Pt.U, Pt.locs, Pt.cells, Pt.slots] at X' e1 e2 h1 h2 h3 st hcl
    subst h1; subst h2; subst h3
    exact Or.inr ⟨q, (T.setVm vm₁).calling g' mk As.toArray, t, U', L, E, ce, hT, X', hL, e1, e2, hq, hce, hcv, vx_cls hW₁ hcl, st⟩
end
end VXH
theorem vx_ofWH {l : Launch} {y : MethodName} {ws ws' : List Cond} {rm : Room} {Pc : Array Value → State → Prop} {Qc : Array Value → State → Outcome → State → Prop} {XC : String → State → State → Prop} {mc ms : Nat} {free : Addr → Prop} {cc : ByteArray} {maxL : Nat} {ret : Option FieldType} {hh : List (Nat × Nat × Nat × Nat)}
    (hy : plainName y.cls = true) (hw : ws = Cond.codeWith y cc maxL ret hh :: ws')
    (body : ∀ p e s m args below meth c s₁, BodyLoose p l y (headSpec ws rm) cc maxL ret e s m args below meth c s₁ → c.maxLocals = maxL → Pc args s →
      W p l e (headSpec ws rm).room s m args below meth c s.heap [] 0 0 (vx_MQ below Qc XC args s mc ms free) (entryFrame m args maxL)) : vx_Met l y ws rm Pc Qc XC mc ms free := by
  refine MetFree.of_bodyS (code := cc) (maxLocals := maxL) (ret := ret) hy ?_ ?_
  · intro args s m h hn
    obtain ⟨m9, meth, c, hn9, h1, h2, h3, h4, -, h5, h6, -⟩ := Cond.codeWith_spec (atoms_spec (ws := ws) h _ (by rw [hw]; exact List.mem_cons_self))
    cases hn.symm.trans hn9
    exact ⟨meth, c, h1, h2, h3, h4, h5, h6⟩
  · intro p e s m args below meth c s₁ B hml hP _
    have hh0 : s₁.heap = s.heap := by rw [B.state]; rfl
    obtain ⟨t, a1, o, b1, b2, b3⟩ := body p e s m args below meth c s₁ B hml hP s₁ hh0 (Stand.of_body B)
    exact ⟨t, o, a1, b1, b2, b3⟩
/-! ===== END ===== -/
end
section
/-! 'throw new E("text")' for an E whose constructor calls its parent's by any entry j of its pool (the library's own law takes entry 7 alone: NoSuchElementException's is 13) -/
section ZTH
def zt_chain (X : String) (names : List String) (j : Nat) (bt : ByteArray) : List Cond := match names with
  | [] => Bundle.passSAtoms X Bundle.tN j bt
  | Y :: r => Bundle.passSAtoms X Y j bt ++ Bundle.chainSAtoms Y r
def zt_all (own : String) (ic : Nat) (X : String) (names : List String) (j : Nat) (bt : ByteArray) : List Cond :=
  Bundle.throwableAtoms ++ Bundle.throwableSAtoms ++ zt_chain X names j bt ++
  [.methodLink own ic (Bundle.initS X), .instantiable X 6, .castable X X, .selects X Bundle.tFill0 Bundle.tFill0, .selects X Bundle.tFill Bundle.tFill,
   .lays X Bundle.tN "cause" "Ljava/lang/Throwable;", .lays X Bundle.tN "stackTrace" Bundle.steD, .lays X Bundle.tN "suppressedExceptions" Bundle.listD, .lays X Bundle.tN "detailMessage" "Ljava/lang/String;",
   .isRef (.static Bundle.tN "UNASSIGNED_STACK" Bundle.steD), .isRef (.static Bundle.tN "SUPPRESSED_SENTINEL" Bundle.listD),
   .fieldLink Bundle.tN 198 Bundle.tN "backtrace" "Ljava/lang/Object;", .lays Bundle.tN Bundle.tN "backtrace" "Ljava/lang/Object;", .lays X Bundle.tN "backtrace" "Ljava/lang/Object;"]
/-- the words but the four that speak of the heap -/
def zt_at (own : String) (ic : Nat) (X : String) (names : List String) (j : Nat) (bt : ByteArray) : List Cond := (zt_all own ic X names j bt).filter vx_no
def zt_by (bt : ByteArray) (j : Nat) : Prop := decode bt 0 = .ok (.aload_n 0, 1) ∧ decode bt 1 = .ok (.aload_n 1, 1) ∧ decode bt 2 = .ok (.invokespecial j, 3) ∧ decode bt 5 = .ok (.return_, 1)
theorem zt_links {args : Array Value} {s : State} {pl : Platform} (hpl : pl.magicAccessors = ({} : Platform).magicAccessors) {top : MethodId} (htop : s.methodNamed? (Bundle.initS Bundle.tN) = some top)
    (names : List String) (X : String) (hX : Bundle.fit X = true) (hn : ∀ n ∈ names, Bundle.fit n = true) {j : Nat} {bt : ByteArray} (hbt : zt_by bt j) (h : ∀ c ∈ zt_chain X names j bt, c.before args s = true) :
    ∃ (P1 : PassC) (Ps : List PassC), Ps.length = names.length ∧ P1.LinksS pl s ∧ (∀ P, P ∈ Ps → P.LinksS pl s) ∧ s.methodNamed? (Bundle.initS X) = some P1.m ∧
      P1.sup = firstOf top (Ps.map (·.toPassT)) ∧ PassesOn top (Ps.map (·.toPassT)) := by
  obtain ⟨b0, b1, b2, b5⟩ := hbt
  cases names with
  | nil =>
    obtain ⟨P, L, hm, hs⟩ := PassC.ofS_atoms (args := args) (s := s) hpl (X := X) (Y := Bundle.tN) (Bundle.fit_spec hX).1 (by decide) b0 b1 b2 b5 h
    exact ⟨P, [], rfl, L, (fun _ hP => by cases hP), hm, Option.some.inj (hs.symm.trans htop), trivial⟩
  | cons Y r =>
    obtain ⟨P, L, hm, hs⟩ := PassC.ofS_atoms (args := args) (s := s) hpl (X := X) (Y := Y) (Bundle.fit_spec hX).1 (Bundle.fit_spec (hn Y List.mem_cons_self)).2 b0 b1 b2 b5 (fun c hc => h c (by simp only [zt_chain, List.mem_append]; exact Or.inl hc))
    obtain ⟨P', Ps, hlen, L', hL, hm', hsup, hpass⟩ := Bundle.chainS (args := args) hpl htop r Y (hn Y List.mem_cons_self) (fun n hn' => hn n (List.mem_cons_of_mem _ hn')) (fun c hc => h c (by simp only [zt_chain, List.mem_append]; exact Or.inr hc))
    refine ⟨P, P' :: Ps, by simp [hlen], L, ?_, hm, Option.some.inj (hs.symm.trans hm'), hsup, hpass⟩
    intro Q hQ
    rcases List.mem_cons.mp hQ with rfl | hQ
    · exact L'
    · exact hL Q hQ
variable {p : Program} {l : Launch} {e : Env} {R : Room} {s : State} {m : MethodId} {args : Array Value} {below : List Frame} {meth : Method} {c : Code} {locs : List Loc} {cells slots : Nat}
set_option maxHeartbeats 2000000 in
/-- the constructor and the throw: the invocation ends with the object thrown -/
theorem zt_ctor {W9 : State} (X : Stand p l e R s m args below meth c W9 locs cells slots) (hexec : p.tables.exec = Jvm.exec) (htr : e.platform.stackTraces = false) {own cls : String} {names : List String} {ic j : Nat} {bt : ByteArray} (hbt : zt_by bt j)
    (hown : s.vm.findClass own = some m.cls) (hcls : Bundle.fit cls = true) (hnames : ∀ n ∈ names, Bundle.fit n = true) (h : ∀ a ∈ zt_all own ic cls names j bt, a.before args s = true)
    (hlocs : ∀ x ∈ locs, ∀ cell, s.heap[x.base]? = some cell → cell.vm.isStatics = false)
    {a : Addr} {cX : ClassId} {kX : Class} (hfoundX : s.vm.findClass cls = some cX) (hkX : s.vm.classes[cX]? = some kX) (hcell : W9.heap[a]? = some (freshCell cX kX)) (hnew : s.heap.size ≤ a)
    {msg : Value} (hmsg : msg.isRef = true)
    {g : JFrame} (hg : g.method = m) (hsize : g.locals.size = c.maxLocals) (hlocked : g.locked = none) (hentered : g.entered = []) {rest : List Value} (hstack : g.stack = msg :: .ref a :: .ref a :: rest)
    (hd6 : decode c.code g.pc = .ok (.invokespecial ic, 3)) (hd9 : decode c.code (g.pc + 3) = .ok (.athrow, 1)) (hout : ∀ x ∈ c.exceptionTable.toList, covers x (g.pc + 3) = false)
    (hRframes : names.length + 3 < R.frames) (hRlocals : 2 * g.monitorRoom + ((Value.ref a :: rest).map fun v => v.category).sum + (13 * (names.length + 1) + 42) ≤ R.locals) (hlocks : meth.locks = false) :
    ∃ U : State, Steps p.tables e below (W9.setTop g) U ∧ U.status = .running ∧ Ended U below (.threw a) ∧ s.WarmedH U.vm ∧ s.sameButNew ({ U with vm := s.vm } : State) locs cells slots ∧
      ∃ ce : Cell, U.heap[a]? = some ce ∧ ce.vm = .none ∧ s.vm.findClass cls = some ce.cls := by
  have howns : e.platform.frameOwnsMonitors = true := by rw [X.admits.platform]
  have hfin : e.platform.finalization = false := by rw [X.admits.platform]
  have hpl : e.platform.magicAccessors = ({} : Platform).magicAccessors := by rw [X.admits.platform]
  have a' : ∀ x, x ∈ zt_all own ic cls names j bt → x.holds args s none s [] = true := fun x hx => h x hx
  have i1 : ∀ x ∈ Bundle.throwableAtoms, x ∈ zt_all own ic cls names j bt := fun x hx => by simp [zt_all, hx]
  have i2 : ∀ x ∈ Bundle.throwableSAtoms, x ∈ zt_all own ic cls names j bt := fun x hx => by simp [zt_all, hx]
  have i3 : ∀ x ∈ zt_chain cls names j bt, x ∈ zt_all own ic cls names j bt := fun x hx => by simp [zt_all, hx]
  obtain ⟨T, Z0, L, -, Y⟩ := ThrowableC.of_atoms (args := args) howns hfin hpl (fun x hx => h x (i1 x hx))
  obtain ⟨Z, M, LZ, LM, hnZ⟩ := Init0T.ofS_atoms (args := args) hpl L Y (fun x hx => h x (i2 x hx))
  obtain ⟨P1, Ps, hlen, L1, hL, hP1m, hlink1, hlink⟩ := zt_links (args := args) hpl hnZ names cls hcls hnames hbt (fun x hx => h x (i3 x hx))
  have hfound : s.vm.findClass cls = some P1.m.cls := findClass_of_methodNamed hP1m
  cases Option.some.inj (hfoundX.symm.trans hfound)
  obtain ⟨c1, kX', hc1, hk, hord, -, -, hn6⟩ := Cond.instantiable_spec (a' (.instantiable cls 6) (by simp [zt_all]))
  cases Option.some.inj (hc1.symm.trans hfound)
  cases Option.some.inj (hkX.symm.trans hk)
  have hsel0 : selectMethod e.platform s.vm P1.m.cls T.fill0 = .method T.fill0 := by
    obtain ⟨c2, r2, m2, q1, q2, q3, q4, -⟩ := Cond.selects_spec (a' (.selects cls Bundle.tFill0 Bundle.tFill0) (by simp [zt_all]))
    cases Option.some.inj (q1.symm.trans hfound)
    cases Option.some.inj (q2.symm.trans (State.methodFound?_of_named Y.fill0 (by decide)))
    cases Option.some.inj (q3.symm.trans Y.fill0)
    rw [Launch.admits_selectMethod X.admits]; exact q4
  have hselF : selectMethod e.platform s.vm P1.m.cls T.fill = .method T.fill := by
    obtain ⟨c2, r2, m2, q1, q2, q3, q4, -⟩ := Cond.selects_spec (a' (.selects cls Bundle.tFill Bundle.tFill) (by simp [zt_all]))
    cases Option.some.inj (q1.symm.trans hfound)
    cases Option.some.inj (q2.symm.trans (State.methodFound?_of_named Y.fill (by decide)))
    cases Option.some.inj (q3.symm.trans Y.fill)
    rw [Launch.admits_selectMethod X.admits]; exact q4
  obtain ⟨cellS0, hcS0, hiss⟩ := Y.statics
  obtain ⟨u0, hu0⟩ := Cond.staticRefV Y.unassigned L.unassignedStatic L.statics hcS0 hiss (a' (.isRef (.static Bundle.tN "UNASSIGNED_STACK" Bundle.steD)) (by simp [zt_all]))
  obtain ⟨sen, hsen⟩ := Cond.staticRefV Y.sentinel L.sentinelStatic L.statics hcS0 hiss (a' (.isRef (.static Bundle.tN "SUPPRESSED_SENTINEL" Bundle.listD)) (by simp [zt_all]))
  obtain ⟨ci198, i198, fB, hk198, hg198, ha198, hsB, -, hnB, htB, hffB⟩ := Cond.ownField (t := .object "java/lang/Object") Y.found L.cls (by decide +kernel) (a' (.fieldLink Bundle.tN 198 Bundle.tN "backtrace" "Ljava/lang/Object;") (by simp [zt_all])) (a' (.lays Bundle.tN Bundle.tN "backtrace" "Ljava/lang/Object;") (by simp [zt_all])) e.platform hpl
  obtain ⟨cellS, hcS', heS, -, hkeep⟩ := X.same.2.2.2.2.2 T.aS cellS0 hcS0
  have hcellS : W9.heap[T.aS]? = some cellS := hcS'
  have hout' : ∀ i, (⟨T.aS, i⟩ : Loc) ∉ locs := fun i hmem => by
    have := hlocs _ hmem cellS0 hcS0
    rw [hiss] at this; cases this
  have hknownS : cellS.vm ≠ .unknown := by
    rw [heS]; intro hu
    rw [show cellS0.vm = .unknown from hu] at hiss
    cases hiss
  have hneS : T.aS ≠ a := Nat.ne_of_lt (Nat.lt_of_lt_of_le (Array.getElem?_eq_some_iff.mp hcS0).1 hnew)
  obtain ⟨iM, hffM⟩ := Y.msg
  obtain ⟨tyC, dC, hdC, hdnC⟩ := Cond.laysAt hfound hk Y.cause (a' (.lays cls Bundle.tN "cause" "Ljava/lang/Throwable;") (by simp [zt_all]))
  obtain ⟨tyS, dS, hdS, hdnS⟩ := Cond.laysAt hfound hk Y.stack (a' (.lays cls Bundle.tN "stackTrace" Bundle.steD) (by simp [zt_all]))
  obtain ⟨tyP, dP, hdP, hdnP⟩ := Cond.laysAt hfound hk Y.supp (a' (.lays cls Bundle.tN "suppressedExceptions" Bundle.listD) (by simp [zt_all]))
  obtain ⟨tyM, dM, hdM, hdnM⟩ := Cond.laysAt hfound hk hffM (a' (.lays cls Bundle.tN "detailMessage" "Ljava/lang/String;") (by simp [zt_all]))
  obtain ⟨tyB, dB, hdB, hdnB⟩ := Cond.laysAt hfound hk hffB (a' (.lays cls Bundle.tN "backtrace" "Ljava/lang/Object;") (by simp [zt_all]))
  have bC := Cond.laysApart hdB hdC hdnB hdnC (by rw [hnB, Y.causeName]; decide)
  have bS := Cond.laysApart hdB hdS hdnB hdnS (by rw [hnB, Y.stackName]; decide)
  have bP := Cond.laysApart hdB hdP hdnB hdnP (by rw [hnB, Y.suppName]; decide)
  have hskip : SkipFacts T e.platform s (fun u => u) u0 ((preparedCellV T.toThrowableT (freshCell P1.m.cls kX) a u0 sen).withEntry W9.cur) :=
    ⟨{ ci198 := ci198, i198 := i198, fBack := fB }, ⟨hk198, hg198, ha198, hsB⟩, by
      have := fresh_default (c := P1.m.cls) tyB
      rw [htB] at this
      simpa [preparedCellV, Cell.setSlot, Cell.withEntry, Array.getElem?_setIfInBounds, bC, bS, bP, bC.symm, bS.symm, bP.symm, defaultValue] using this, fun _ _ => rfl⟩
  have hinX : (Cond.instanceMethod (Bundle.initS cls)).before args s = true := h _ (i3 _ (by cases names <;> simp [zt_chain, Bundle.passSAtoms]))
  have hcoX : (Cond.code (Bundle.initS cls) bt 2 none).before args s = true := h _ (i3 _ (by cases names <;> simp [zt_chain, Bundle.passSAtoms]))
  obtain ⟨tm, methC, cdC, kC, vm₁, hnC, -, -, -, -, -, -, -, hW₁, st1⟩ := Steps.initColdS (tb := p.tables) (e := e) (below := below) (s := s) (U := W9) X.here hexec X.warmed hpl hown (t := Bundle.initS cls) rfl rfl (Bundle.fit_spec hcls).2
    (a' (.methodLink own ic (Bundle.initS cls)) (by simp [zt_all])) hinX (bytes := bt) (maxL := 2) hcoX
    (f := g) hg (a := a) (msg := msg) (rest := .ref a :: rest) hstack hd6
  cases Option.some.inj (hnC.symm.trans hP1m)
  have X₁ := X.noted hW₁
  obtain ⟨vm₂, X₂, st2⟩ := X₁.ctorMessageOffV hexec (g := { g with stack := .ref a :: rest }) hg hsize T L Z LZ M LM (P1 :: Ps)
    (fun P hP => by rcases List.mem_cons.mp hP with rfl | hP; exact L1; exact hL P hP) ⟨hlink1, hlink⟩ (u0 := u0) (sen := sen) (self := a) hmsg (cell := freshCell P1.m.cls kX) (cellS := cellS)
    hcell (fun _ => by simp) (by simp) rfl rfl hsel0 hselF hcellS hneS hknownS (by rw [hkeep _ (hout' _)]; exact hu0) (by rw [hkeep _ (hout' _)]; exact hsen)
    (Takes.of_laid hk hord tyC (by rw [Y.causeType]; rfl)) (Takes.of_laid hk hord tyS (by rw [Y.stackType]; exact fits_refV_array _ u0)) (Takes.of_laid hk hord tyP (by rw [Y.suppType]; exact fits_refV_object _ sen))
    (Takes.of_laid hk hord tyM (by rw [Y.msgType]; exact fits_refV_object _ ⟨msg, hmsg⟩)) Y.objLocals hskip htr [] hd6
    (by simp only [List.length_cons, hlen]; omega) (by simp only [List.length_cons, hlen]; exact hRlocals)
  obtain ⟨hwalk, hrun, hended, hWU, hsame⟩ := X₂.athrowLeaves hexec (g := { g with stack := .ref a :: rest, pc := g.pc + 3 }) hg hlocked hentered hout (a := a) (rest := rest) rfl hd9
  have hlt : a < ((W9.setVm vm₁).setVm vm₂).heap.size := (Array.getElem?_eq_some_iff.mp hcell).1
  have hU := heapAt_setCell_self (s := (W9.setVm vm₁).setVm vm₂) (plainBareV T.toThrowableT (freshCell P1.m.cls kX) a u0 sen msg) hlt
  refine ⟨_, st1 _ (fun acts => ?_), hrun, hended, hWU, hsame.weaken (fun y hy hlt' => ?_) (Nat.le_refl _) (Nat.le_refl _), _, hU, rfl, hfound⟩
  · rw [doInvoke_state]
    exact st2 _ hwalk
  · rcases List.mem_append.mp hy with h1 | h1
    · exact h1
    · exfalso
      have hb : y.base = a := by
        simp only [List.mem_cons, List.not_mem_nil, or_false] at h1
        rcases h1 with rfl | rfl | rfl | rfl | rfl <;> rfl
      rw [hb] at hlt'
      exact Nat.not_lt.mpr hnew hlt'
variable {H : Heap} {ls : Array Slot} {rest : List Value} {free : Addr → Prop} {Qc : Array Value → State → Outcome → State → Prop} {XC : String → State → State → Prop}
/-- 'new; dup; ldc (or ldc_w, of length ll); invokespecial; athrow' -/
theorem zt_throw {cc : ByteArray} {pc ll : Nat} (hexec : p.tables.exec = Jvm.exec) (hb : c.code = cc) (hl : l.stackTraces = false) {own cls text : String} {names : List String} {ik is ic j mc ms sa : Nat} {bt : ByteArray} {A : Nat → Prop} (hbt : zt_by bt j)
    (hown : s.vm.findClass own = some m.cls) (hcls : Bundle.fit cls = true) (hnames : ∀ n ∈ names, Bundle.fit n = true)
    (hk : (Cond.classLink own ik cls).before args s = true) (hini : (Cond.initialized cls).before args s = true) (hstr : vk_R own is text sa s) (hat : ∀ w ∈ zt_at own ic cls names j bt, w.before args s = true)
    (hgood : ∀ w ∈ Cond.classLink own ik cls :: Cond.initialized cls :: zt_at own ic cls names j bt, vx_ot w = true)
    (hU : vx_Zq Bundle.tN "UNASSIGNED_STACK" Bundle.steD A s s.heap) (hN : vx_Zq Bundle.tN "SUPPRESSED_SENTINEL" Bundle.listD A s s.heap) (hS : va_S A s.heap H locs) (hsize : ls.size = c.maxLocals)
    (d0 : decode cc pc = .ok (.new ik, 3)) (d3 : decode cc (pc + 3) = .ok (.dup, 1)) (d4 : (ll = 2 ∧ decode cc (pc + 4) = .ok (.ldc is, 2)) ∨ (ll = 3 ∧ decode cc (pc + 4) = .ok (.ldc_w is, 3))) (d6 : decode cc (pc + 4 + ll) = .ok (.invokespecial ic, 3)) (d9 : decode cc (pc + 4 + ll + 3) = .ok (.athrow, 1))
    (hout : ∀ x ∈ c.exceptionTable.toList, covers x (pc + 4 + ll + 3) = false)
    (hRframes : names.length + 3 < R.frames) (hRlocals : (rest.map fun v => v.category).sum + (13 * (names.length + 1) + 43) ≤ R.locals) (hRcells : cells + 1 ≤ R.cells) (hRslots : slots + 6 ≤ R.slots) (hlocks : meth.locks = false)
    (hx : ∀ t : State, s.vm.Alike t.vm → t.heap.size = H.size + 1 → (∀ q : Nat, q < H.size → t.heap[q]? = H[q]?) → (∃ ce : Cell, t.heap[H.size]? = some ce ∧ ce.vm = .none) → XC cls s t)
    (hf : ∀ z ∈ locs, free z.base) (hc : cells + 1 ≤ mc) (hs : slots + 6 ≤ ms) :
    W p l e R s m args below meth c H locs cells slots (vx_MQ below Qc XC args s mc ms free) (F0 m pc ls rest) := by
  intro T hT X
  have htr : e.platform.stackTraces = false := (show e.platform.stackTraces = l.stackTraces by rw [X.admits.platform]).trans hl
  have Y := vx_rebase X (R' := { frames := R.frames, locals := R.locals, cells := 1, slots := 6 }) (Nat.le_refl _) (Nat.le_refl _) hRcells hRslots
  obtain ⟨s', hA⟩ : ∃ z, z = (T.setVm s.vm).setFrames (.invoking m args :: below) := ⟨_, rfl⟩
  rw [← hA] at Y
  have hvm : s'.vm = s.vm := by rw [hA]; rfl
  have hhp : s'.heap = H := by rw [hA]; exact hT
  have hW0 : s.WarmedH s'.vm := by rw [hvm]; exact State.WarmedH.refl s
  have hat' : ∀ w ∈ zt_at own ic cls names j bt, w.before args s' = true := fun w hw => vx_ot_at hW0 hvm.symm (hgood w (List.mem_cons_of_mem _ (List.mem_cons_of_mem _ hw))) (hat w hw)
  have hk' : (Cond.classLink own ik cls).before args s' = true := vx_ot_at hW0 hvm.symm (hgood _ List.mem_cons_self) hk
  have hini' : (Cond.initialized cls).before args s' = true := vx_ot_at hW0 hvm.symm (hgood _ (List.mem_cons_of_mem _ List.mem_cons_self)) hini
  have hU' : vx_Zq Bundle.tN "UNASSIGNED_STACK" Bundle.steD A s' s'.heap := by rw [hhp]; exact vx_Zq.moved hW0.alike (hU.kept hS.2.1)
  have hN' : vx_Zq Bundle.tN "SUPPRESSED_SENTINEL" Bundle.listD A s' s'.heap := by rw [hhp]; exact vx_Zq.moved hW0.alike (hN.kept hS.2.1)
  have h : ∀ w ∈ zt_all own ic cls names j bt, w.before args s' = true := vx_own hat' (vx_isRefq hU'.1) (vx_isRefq hN'.1) hU'.2.word hN'.2.word
  have hown' : s'.vm.findClass own = some m.cls := by rw [hvm]; exact hown
  have hins : (Cond.instantiable cls 6).before args s' = true := h _ (by simp [zt_all])
  obtain ⟨vm₁, cX, kX, hfX, hkX, -, -, X₁, st1⟩ := Y.newCold hexec (own := own) (C := cls) (index := ik) (n := 6) hown' hk' hins hini'
    (g := F0 m pc ls rest) rfl (by rw [hb]; exact d0) (Nat.le_refl _) (Nat.le_refl _)
  generalize hT1 : (T.setVm vm₁).pushCell { cls := cX, slots := kX.instanceTypes.map defaultValue, vm := .none } = T1 at X₁ st1
  have hcat : (Value.ref T.heap.size).category = 1 := rfl
  have hcellA : T1.heap[T.heap.size]? = some (freshCell cX kX) := by rw [← hT1]; exact State.heap_pushCell_size _ _
  have d3' : decode c.code (pc + 3) = .ok (.dup, 1) := by rw [hb]; exact d3
  have hstr' : vk_R own is text sa s' := vk_R.warm hW0 hstr
  obtain ⟨U, hsteps, hrun, hend, hW, hsame, ce, hce, hcv, hcc⟩ := zt_ctor X₁ hexec htr hbt (own := own) (cls := cls) (names := names) (ic := ic) hown' hcls hnames h (fun x hx => nomatch hx) hfX hkX hcellA (by rw [hhp, hT]; exact Nat.le_refl _) (msg := .ref sa) rfl
    (g := { method := m, pc := pc + 4 + ll, locals := ls, stack := .ref sa :: .ref T.heap.size :: .ref T.heap.size :: rest, locked := none }) rfl hsize rfl rfl (rest := rest) rfl
    (by rw [hb]; exact d6) (by rw [hb]; exact d9) hout hRframes (by simp only [List.map_cons, List.sum_cons, hcat]; omega) hlocks
  obtain ⟨f1, f2⟩ := vx_frame hsame
  have f3 : U.heap.size ≤ s'.heap.size + (0 + 1) := hsame.2.2.1
  rw [hhp] at f1 f2 f3
  have f4 : H.size < U.heap.size := by rw [← hT]; exact (Array.getElem?_eq_some_iff.mp hce).1
  have hWs : s.WarmedH U.vm := State.WarmedH.trans hW0 hW
  have hcl : s.vm.findClass cls = some ce.cls := by rw [hvm] at hcc; exact hcc
  have hall : s.sameButNew ({ U with vm := s.vm } : State) locs mc ms := by
    subst hA
    obtain ⟨e1, e2⟩ := hsame
    rw [State.setFrames_setFrames] at e1
    have h2 : (T.setVm s.vm).sameButNew ({ U with vm := s.vm } : State) [] (0 + 1) (0 + 6) := ⟨e1, e2⟩
    have h3 := X.same.trans h2
    rw [List.append_nil] at h3
    exact h3.mono hc hs
  refine ⟨U, ?_, .threw T.heap.size, hrun, hend, Or.inr ⟨T.heap.size, rfl, cls, ce, locs, hx U hWs.alike (by omega) (fun q hq => f2 q hq (fun z hz => nomatch hz)) ⟨ce, by rw [← hT]; exact hce, hcv⟩, hce, hcv, hcl, hWs, hall, hf⟩⟩
  refine st1 _ ?_
  show Steps p.tables e below (T1.setTop { method := m, pc := pc + 3, locals := ls, stack := .ref T.heap.size :: rest, locked := none }) _
  jvm_step X₁.here [X₁.here.top, hexec, d3', Value.category]
  rcases d4 with ⟨rfl, d4⟩ | ⟨rfl, d4⟩
  · exact X₁.ldcString hexec (own := own) (text := text) (index := is) (a := sa) hown' hstr'.1 hstr'.2
      (g := { method := m, pc := pc + 4, locals := ls, stack := .ref T.heap.size :: .ref T.heap.size :: rest, locked := none }) rfl (by rw [hb]; exact d4) _ hsteps
  · exact X₁.ldcStringW hexec (own := own) (text := text) (index := is) (a := sa) hown' hstr'.1 hstr'.2
      (g := { method := m, pc := pc + 4, locals := ls, stack := .ref T.heap.size :: .ref T.heap.size :: rest, locked := none }) rfl (by rw [hb]; exact d4) _ hsteps
end ZTH
end
section
/-! the tables of the program, by wip/gen.py out of the printed names -/
def RX0 : String := "UnitRows$History"
def TX0 : u_T := fun k => match k with
  | 0 => ("UnitRows$History", "units", "[I", true)
  | 1 => ("UnitRows$History", "kinds", "[I", true)
  | 2 => ("UnitRows$History", "days", "[I", true)
  | 3 => ("UnitRows$History", "numbers", "[I", true)
  | _ => ("UnitRows$History", "size", "I", false)
def tyX0 : Nat → FieldType := fun k => match k with
  | 0 => .array .int
  | 1 => .array .int
  | 2 => .array .int
  | 3 => .array .int
  | _ => .int
abbrev wsX00 : List Cond := u_ws RX0 TX0 5
theorem nmX0 : ∀ a, a < 5 → ∀ b, b < 5 → a ≠ b → (TX0 a).2.1 ≠ (TX0 b).2.1 := by decide +kernel
theorem tyX0_ok : ∀ k, k < 5 → parseFieldDescriptor (TX0 k).2.2.1 = some (tyX0 k) := by decide +kernel
abbrev cX0_init : ByteArray := prog_2_method_1_code
def yX0_init : MethodName := ⟨RX0, "<init>", "()V"⟩
abbrev cX0_clear : ByteArray := prog_2_method_2_code
def yX0_clear : MethodName := ⟨RX0, "clear", "()V"⟩
abbrev cX0_hasRoom : ByteArray := prog_2_method_3_code
def yX0_hasRoom : MethodName := ⟨RX0, "hasRoom", "(I)Z"⟩
abbrev cX0_add : ByteArray := prog_2_method_4_code
def yX0_add : MethodName := ⟨RX0, "add", "(IIII)V"⟩
abbrev cX0_seek : ByteArray := prog_2_method_5_code
def yX0_seek : MethodName := ⟨RX0, "seek", "(II)I"⟩
abbrev cX0_read : ByteArray := prog_2_method_6_code
def yX0_read : MethodName := ⟨RX0, "read", "(II)I"⟩
def RX1 : String := "UnitRows$Unit"
def TX1 : u_T := fun k => match k with
  | 0 => ("UnitRows$Unit", "number", "I", true)
  | 1 => ("UnitRows$Unit", "lot", "I", false)
  | 2 => ("UnitRows$Unit", "good", "I", false)
  | 3 => ("UnitRows$Unit", "last", "I", false)
  | 4 => ("UnitRows$Unit", "owner", "I", false)
  | 5 => ("UnitRows$Unit", "pieces", "I", false)
  | 6 => ("UnitRows$Unit", "state", "I", false)
  | 7 => ("UnitRows$Unit", "place", "I", false)
  | 8 => ("UnitRows$Unit", "container", "LUnitRows$Unit;", false)
  | _ => ("UnitRows$Unit", "serial", "J", false)
def tyX1 : Nat → FieldType := fun k => match k with
  | 0 => .int
  | 1 => .int
  | 2 => .int
  | 3 => .int
  | 4 => .int
  | 5 => .int
  | 6 => .int
  | 7 => .int
  | 8 => .object "UnitRows$Unit"
  | _ => .long
abbrev wsX10 : List Cond := u_ws RX1 TX1 10
theorem nmX1 : ∀ a, a < 10 → ∀ b, b < 10 → a ≠ b → (TX1 a).2.1 ≠ (TX1 b).2.1 := by decide +kernel
theorem tyX1_ok : ∀ k, k < 10 → parseFieldDescriptor (TX1 k).2.2.1 = some (tyX1 k) := by decide +kernel
abbrev cX1_init : ByteArray := prog_3_method_1_code
def yX1_init : MethodName := ⟨RX1, "<init>", "(I)V"⟩
abbrev cX1_be : ByteArray := prog_3_method_2_code
def yX1_be : MethodName := ⟨RX1, "be", "(IIIII)V"⟩
abbrev cX1_stand : ByteArray := prog_3_method_3_code
def yX1_stand : MethodName := ⟨RX1, "stand", "(IILUnitRows$Unit;)V"⟩
abbrev cX1_stands : ByteArray := prog_3_method_4_code
def yX1_stands : MethodName := ⟨RX1, "stands", "()Z"⟩
abbrev cX1_isOver : ByteArray := prog_3_method_5_code
def yX1_isOver : MethodName := ⟨RX1, "isOver", "(I)Z"⟩
abbrev cX1_expire : ByteArray := prog_3_method_6_code
def yX1_expire : MethodName := ⟨RX1, "expire", "(I)Z"⟩
abbrev cX1_canBecome : ByteArray := prog_3_method_7_code
def yX1_canBecome : MethodName := ⟨RX1, "canBecome", "(II)Z"⟩
abbrev cX1_depth : ByteArray := prog_3_method_8_code
def yX1_depth : MethodName := ⟨RX1, "depth", "()I"⟩
abbrev cX1_liesWithin : ByteArray := prog_3_method_9_code
def yX1_liesWithin : MethodName := ⟨RX1, "liesWithin", "(LUnitRows$Unit;)Z"⟩
abbrev cX1_matches : ByteArray := prog_3_method_10_code
def yX1_matches : MethodName := ⟨RX1, "matches", "(III)Z"⟩
abbrev cX1_isLike : ByteArray := prog_3_method_11_code
def yX1_isLike : MethodName := ⟨RX1, "isLike", "(LUnitRows$Unit;)Z"⟩
abbrev cX1_pack : ByteArray := prog_3_method_12_code
def yX1_pack : MethodName := ⟨RX1, "pack", "()J"⟩
def RX2 : String := "UnitRows"
def TX2 : u_T := fun k => match k with
  | 0 => ("UnitRows", "most", "[I", true)
  | 1 => ("UnitRows", "grams", "[I", true)
  | 2 => ("UnitRows", "lotGood", "[I", true)
  | 3 => ("UnitRows", "lotLast", "[I", true)
  | 4 => ("UnitRows", "units", "[LUnitRows$Unit;", true)
  | 5 => ("UnitRows", "history", "LUnitRows$History;", true)
  | 6 => ("UnitRows", "lots", "I", false)
  | 7 => ("UnitRows", "made", "I", false)
  | 8 => ("UnitRows", "room", "I", false)
  | _ => ("UnitRows", "today", "I", false)
def tyX2 : Nat → FieldType := fun k => match k with
  | 0 => .array .int
  | 1 => .array .int
  | 2 => .array .int
  | 3 => .array .int
  | 4 => .array (.object "UnitRows$Unit")
  | 5 => .object "UnitRows$History"
  | 6 => .int
  | 7 => .int
  | 8 => .int
  | _ => .int
abbrev wsX20 : List Cond := u_ws RX2 TX2 10
theorem nmX2 : ∀ a, a < 10 → ∀ b, b < 10 → a ≠ b → (TX2 a).2.1 ≠ (TX2 b).2.1 := by decide +kernel
theorem tyX2_ok : ∀ k, k < 10 → parseFieldDescriptor (TX2 k).2.2.1 = some (tyX2 k) := by decide +kernel
abbrev cX2_init : ByteArray := prog_1_method_1_code
def yX2_init : MethodName := ⟨RX2, "<init>", "()V"⟩
abbrev cX2_rows : ByteArray := prog_1_method_2_code
def yX2_rows : MethodName := ⟨RX2, "rows", "(I)V"⟩
abbrev cX2_place : ByteArray := prog_1_method_3_code
def yX2_place : MethodName := ⟨RX2, "place", "(II)V"⟩
abbrev cX2_good : ByteArray := prog_1_method_4_code
def yX2_good : MethodName := ⟨RX2, "good", "(II)V"⟩
abbrev cX2_lot : ByteArray := prog_1_method_5_code
def yX2_lot : MethodName := ⟨RX2, "lot", "(II)I"⟩
abbrev cX2_unit : ByteArray := prog_1_method_6_code
def yX2_unit : MethodName := ⟨RX2, "unit", "(IIII)I"⟩
abbrev cX2_move : ByteArray := prog_1_method_7_code
def yX2_move : MethodName := ⟨RX2, "move", "(II)V"⟩
abbrev cX2_into : ByteArray := prog_1_method_8_code
def yX2_into : MethodName := ⟨RX2, "into", "(II)V"⟩
abbrev cX2_out : ByteArray := prog_1_method_9_code
def yX2_out : MethodName := ⟨RX2, "out", "(I)V"⟩
abbrev cX2_split : ByteArray := prog_1_method_10_code
def yX2_split : MethodName := ⟨RX2, "split", "(II)I"⟩
abbrev cX2_join : ByteArray := prog_1_method_11_code
def yX2_join : MethodName := ⟨RX2, "join", "(II)V"⟩
abbrev cX2_state : ByteArray := prog_1_method_12_code
def yX2_state : MethodName := ⟨RX2, "state", "(II)V"⟩
abbrev cX2_serial : ByteArray := prog_1_method_13_code
def yX2_serial : MethodName := ⟨RX2, "serial", "(IJ)V"⟩
abbrev cX2_lost : ByteArray := prog_1_method_14_code
def yX2_lost : MethodName := ⟨RX2, "lost", "(II)V"⟩
abbrev cX2_found : ByteArray := prog_1_method_15_code
def yX2_found : MethodName := ⟨RX2, "found", "(II)V"⟩
abbrev cX2_weigh : ByteArray := prog_1_method_16_code
def yX2_weigh : MethodName := ⟨RX2, "weigh", "(II)I"⟩
abbrev cX2_day : ByteArray := prog_1_method_17_code
def yX2_day : MethodName := ⟨RX2, "day", "(I)I"⟩
abbrev cX2_at : ByteArray := prog_1_method_18_code
def yX2_at : MethodName := ⟨RX2, "at", "(II)I"⟩
abbrev cX2_find : ByteArray := prog_1_method_19_code
def yX2_find : MethodName := ⟨RX2, "find", "(IIII)I"⟩
abbrev cX2_sum : ByteArray := prog_1_method_20_code
def yX2_sum : MethodName := ⟨RX2, "sum", "(II)J"⟩
abbrev cX2_row : ByteArray := prog_1_method_21_code
def yX2_row : MethodName := ⟨RX2, "row", "(III)I"⟩
abbrev cX2_told : ByteArray := prog_1_method_22_code
def yX2_told : MethodName := ⟨RX2, "told", "(II)I"⟩
abbrev cX2_packed : ByteArray := prog_1_method_23_code
def yX2_packed : MethodName := ⟨RX2, "packed", "(I)J"⟩
abbrev cX2_count : ByteArray := prog_1_method_24_code
def yX2_count : MethodName := ⟨RX2, "count", "(I)I"⟩
abbrev cX2_isWithin : ByteArray := prog_1_method_25_code
def yX2_isWithin : MethodName := ⟨RX2, "isWithin", "(III)Z"⟩
abbrev cX2_checkRange : ByteArray := prog_1_method_26_code
def yX2_checkRange : MethodName := ⟨RX2, "checkRange", "(III)V"⟩
abbrev cX2_checkPlace : ByteArray := prog_1_method_27_code
def yX2_checkPlace : MethodName := ⟨RX2, "checkPlace", "(I)V"⟩
abbrev cX2_checkStands : ByteArray := prog_1_method_28_code
def yX2_checkStands : MethodName := ⟨RX2, "checkStands", "(LUnitRows$Unit;)V"⟩
abbrev cX2_unitOf : ByteArray := prog_1_method_29_code
def yX2_unitOf : MethodName := ⟨RX2, "unitOf", "(I)LUnitRows$Unit;"⟩
abbrev cX2_needRows : ByteArray := prog_1_method_30_code
def yX2_needRows : MethodName := ⟨RX2, "needRows", "(I)V"⟩
abbrev cX2_needSpace : ByteArray := prog_1_method_31_code
def yX2_needSpace : MethodName := ⟨RX2, "needSpace", "(II)V"⟩
abbrev cX2_nextUnit : ByteArray := prog_1_method_32_code
def yX2_nextUnit : MethodName := ⟨RX2, "nextUnit", "()LUnitRows$Unit;"⟩
abbrev cX2_addRow : ByteArray := prog_1_method_33_code
def yX2_addRow : MethodName := ⟨RX2, "addRow", "(LUnitRows$Unit;II)V"⟩
abbrev cX2_gramsOf : ByteArray := prog_1_method_34_code
def yX2_gramsOf : MethodName := ⟨RX2, "gramsOf", "(I)I"⟩
abbrev cX2_unitsAt : ByteArray := prog_1_method_35_code
def yX2_unitsAt : MethodName := ⟨RX2, "unitsAt", "(I)I"⟩
abbrev cX2_unitsStanding : ByteArray := prog_1_method_36_code
def yX2_unitsStanding : MethodName := ⟨RX2, "unitsStanding", "()I"⟩
abbrev cX2_unitsWithin : ByteArray := prog_1_method_37_code
def yX2_unitsWithin : MethodName := ⟨RX2, "unitsWithin", "(LUnitRows$Unit;)I"⟩
abbrev cX2_levels : ByteArray := prog_1_method_38_code
def yX2_levels : MethodName := ⟨RX2, "levels", "(LUnitRows$Unit;)I"⟩
abbrev cX2_carry : ByteArray := prog_1_method_39_code
def yX2_carry : MethodName := ⟨RX2, "carry", "(LUnitRows$Unit;I)V"⟩
abbrev cX2_takeAway : ByteArray := prog_1_method_40_code
def yX2_takeAway : MethodName := ⟨RX2, "takeAway", "(LUnitRows$Unit;I)V"⟩
abbrev cX2_canLieIn : ByteArray := prog_1_method_41_code
def yX2_canLieIn : MethodName := ⟨RX2, "canLieIn", "(LUnitRows$Unit;LUnitRows$Unit;)Z"⟩
abbrev cX2_canJoin : ByteArray := prog_1_method_42_code
def yX2_canJoin : MethodName := ⟨RX2, "canJoin", "(LUnitRows$Unit;LUnitRows$Unit;)Z"⟩
abbrev cX2_isPlain : ByteArray := prog_1_method_43_code
def yX2_isPlain : MethodName := ⟨RX2, "isPlain", "(LUnitRows$Unit;)Z"⟩
abbrev cX2_isSerialInUse : ByteArray := prog_1_method_44_code
def yX2_isSerialInUse : MethodName := ⟨RX2, "isSerialInUse", "(J)Z"⟩
def RX3 : String := "UnitRowsModel"
def TX3 : u_T := fun k => match k with
  | 0 => ("UnitRowsModel", "code", "I", false)
  | 1 => ("UnitRowsModel", "day", "I", false)
  | 2 => ("UnitRowsModel", "most", "[I", true)
  | 3 => ("UnitRowsModel", "grams", "[I", true)
  | 4 => ("UnitRowsModel", "lots", "I", false)
  | 5 => ("UnitRowsModel", "lotGood", "[I", true)
  | 6 => ("UnitRowsModel", "lotLast", "[I", true)
  | 7 => ("UnitRowsModel", "room", "I", false)
  | 8 => ("UnitRowsModel", "units", "I", false)
  | 9 => ("UnitRowsModel", "lot", "[I", true)
  | 10 => ("UnitRowsModel", "owner", "[I", true)
  | 11 => ("UnitRowsModel", "pieces", "[I", true)
  | 12 => ("UnitRowsModel", "state", "[I", true)
  | 13 => ("UnitRowsModel", "place", "[I", true)
  | 14 => ("UnitRowsModel", "holder", "[I", true)
  | 15 => ("UnitRowsModel", "serials", "[J", true)
  | 16 => ("UnitRowsModel", "acts", "I", false)
  | 17 => ("UnitRowsModel", "actUnit", "[I", true)
  | 18 => ("UnitRowsModel", "actKind", "[I", true)
  | 19 => ("UnitRowsModel", "actDay", "[I", true)
  | 20 => ("UnitRowsModel", "actNumber", "[I", true)
  | _ => ("UnitRowsModel", "goes", "[Z", true)
def tyX3 : Nat → FieldType := fun k => match k with
  | 0 => .int
  | 1 => .int
  | 2 => .array .int
  | 3 => .array .int
  | 4 => .int
  | 5 => .array .int
  | 6 => .array .int
  | 7 => .int
  | 8 => .int
  | 9 => .array .int
  | 10 => .array .int
  | 11 => .array .int
  | 12 => .array .int
  | 13 => .array .int
  | 14 => .array .int
  | 15 => .array .long
  | 16 => .int
  | 17 => .array .int
  | 18 => .array .int
  | 19 => .array .int
  | 20 => .array .int
  | _ => .array .boolean
abbrev wsX30 : List Cond := u_ws RX3 TX3 22
theorem nmX3 : ∀ a, a < 22 → ∀ b, b < 22 → a ≠ b → (TX3 a).2.1 ≠ (TX3 b).2.1 := by decide +kernel
theorem tyX3_ok : ∀ k, k < 22 → parseFieldDescriptor (TX3 k).2.2.1 = some (tyX3 k) := by decide +kernel
abbrev cX3_init : ByteArray := prog_5_method_1_code
def yX3_init : MethodName := ⟨RX3, "<init>", "()V"⟩
abbrev cX3_thrown : ByteArray := prog_5_method_2_code
def yX3_thrown : MethodName := ⟨RX3, "thrown", "()I"⟩
abbrev cX3_in : ByteArray := prog_5_method_3_code
def yX3_in : MethodName := ⟨RX3, "in", "(JJJ)Z"⟩
abbrev cX3_isUnit : ByteArray := prog_5_method_4_code
def yX3_isUnit : MethodName := ⟨RX3, "isUnit", "(I)Z"⟩
abbrev cX3_stands : ByteArray := prog_5_method_5_code
def yX3_stands : MethodName := ⟨RX3, "stands", "(I)Z"⟩
abbrev cX3_rows : ByteArray := prog_5_method_6_code
def yX3_rows : MethodName := ⟨RX3, "rows", "(I)V"⟩
abbrev cX3_standingAt : ByteArray := prog_5_method_7_code
def yX3_standingAt : MethodName := ⟨RX3, "standingAt", "(I)I"⟩
abbrev cX3_place : ByteArray := prog_5_method_8_code
def yX3_place : MethodName := ⟨RX3, "place", "(II)V"⟩
abbrev cX3_good : ByteArray := prog_5_method_9_code
def yX3_good : MethodName := ⟨RX3, "good", "(II)V"⟩
abbrev cX3_lot : ByteArray := prog_5_method_10_code
def yX3_lot : MethodName := ⟨RX3, "lot", "(II)I"⟩
abbrev cX3_isOver : ByteArray := prog_5_method_11_code
def yX3_isOver : MethodName := ⟨RX3, "isOver", "(I)Z"⟩
abbrev cX3_act : ByteArray := prog_5_method_12_code
def yX3_act : MethodName := ⟨RX3, "act", "(III)V"⟩
abbrev cX3_make : ByteArray := prog_5_method_13_code
def yX3_make : MethodName := ⟨RX3, "make", "(IIIIII)I"⟩
abbrev cX3_unit : ByteArray := prog_5_method_14_code
def yX3_unit : MethodName := ⟨RX3, "unit", "(IIII)I"⟩
abbrev cX3_isIn : ByteArray := prog_5_method_15_code
def yX3_isIn : MethodName := ⟨RX3, "isIn", "(II)Z"⟩
abbrev cX3_load : ByteArray := prog_5_method_16_code
def yX3_load : MethodName := ⟨RX3, "load", "(I)I"⟩
abbrev cX3_depth : ByteArray := prog_5_method_17_code
def yX3_depth : MethodName := ⟨RX3, "depth", "(I)I"⟩
abbrev cX3_move : ByteArray := prog_5_method_18_code
def yX3_move : MethodName := ⟨RX3, "move", "(II)V"⟩
abbrev cX3_tall : ByteArray := prog_5_method_19_code
def yX3_tall : MethodName := ⟨RX3, "tall", "(I)I"⟩
abbrev cX3_into : ByteArray := prog_5_method_20_code
def yX3_into : MethodName := ⟨RX3, "into", "(II)V"⟩
abbrev cX3_out : ByteArray := prog_5_method_21_code
def yX3_out : MethodName := ⟨RX3, "out", "(I)V"⟩
abbrev cX3_split : ByteArray := prog_5_method_22_code
def yX3_split : MethodName := ⟨RX3, "split", "(II)I"⟩
abbrev cX3_areAlike : ByteArray := prog_5_method_23_code
def yX3_areAlike : MethodName := ⟨RX3, "areAlike", "(II)Z"⟩
abbrev cX3_join : ByteArray := prog_5_method_24_code
def yX3_join : MethodName := ⟨RX3, "join", "(II)V"⟩
abbrev cX3_leave : ByteArray := prog_5_method_25_code
def yX3_leave : MethodName := ⟨RX3, "leave", "(II)V"⟩
abbrev cX3_mayBecome : ByteArray := prog_5_method_26_code
def yX3_mayBecome : MethodName := ⟨RX3, "mayBecome", "(II)Z"⟩
abbrev cX3_state : ByteArray := prog_5_method_27_code
def yX3_state : MethodName := ⟨RX3, "state", "(II)V"⟩
abbrev cX3_serial : ByteArray := prog_5_method_28_code
def yX3_serial : MethodName := ⟨RX3, "serial", "(IJ)V"⟩
abbrev cX3_lost : ByteArray := prog_5_method_29_code
def yX3_lost : MethodName := ⟨RX3, "lost", "(II)V"⟩
abbrev cX3_found : ByteArray := prog_5_method_30_code
def yX3_found : MethodName := ⟨RX3, "found", "(II)V"⟩
abbrev cX3_weigh : ByteArray := prog_5_method_31_code
def yX3_weigh : MethodName := ⟨RX3, "weigh", "(II)I"⟩
abbrev cX3_day : ByteArray := prog_5_method_32_code
def yX3_day : MethodName := ⟨RX3, "day", "(I)I"⟩
abbrev cX3_at : ByteArray := prog_5_method_33_code
def yX3_at : MethodName := ⟨RX3, "at", "(II)I"⟩
abbrev cX3_find : ByteArray := prog_5_method_34_code
def yX3_find : MethodName := ⟨RX3, "find", "(IIII)I"⟩
abbrev cX3_sum : ByteArray := prog_5_method_35_code
def yX3_sum : MethodName := ⟨RX3, "sum", "(II)J"⟩
abbrev cX3_row : ByteArray := prog_5_method_36_code
def yX3_row : MethodName := ⟨RX3, "row", "(III)I"⟩
abbrev cX3_told : ByteArray := prog_5_method_37_code
def yX3_told : MethodName := ⟨RX3, "told", "(II)I"⟩
abbrev cX3_packed : ByteArray := prog_5_method_38_code
def yX3_packed : MethodName := ⟨RX3, "packed", "(I)J"⟩
abbrev cX3_count : ByteArray := prog_5_method_39_code
def yX3_count : MethodName := ⟨RX3, "count", "(I)I"⟩
def RL : String := "UnitRowsLaw"
abbrev cL_rows : ByteArray := method_3_code
def yL_rows : MethodName := ⟨RL, "rows", "(LUnitRows;I)I"⟩
abbrev cL_place : ByteArray := method_4_code
def yL_place : MethodName := ⟨RL, "place", "(LUnitRows;II)I"⟩
abbrev cL_good : ByteArray := method_5_code
def yL_good : MethodName := ⟨RL, "good", "(LUnitRows;II)I"⟩
abbrev cL_lot : ByteArray := method_6_code
def yL_lot : MethodName := ⟨RL, "lot", "(LUnitRows;II[J)I"⟩
abbrev cL_unit : ByteArray := method_7_code
def yL_unit : MethodName := ⟨RL, "unit", "(LUnitRows;IIII[J)I"⟩
abbrev cL_move : ByteArray := method_8_code
def yL_move : MethodName := ⟨RL, "move", "(LUnitRows;II)I"⟩
abbrev cL_into : ByteArray := method_9_code
def yL_into : MethodName := ⟨RL, "into", "(LUnitRows;II)I"⟩
abbrev cL_out : ByteArray := method_10_code
def yL_out : MethodName := ⟨RL, "out", "(LUnitRows;I)I"⟩
abbrev cL_split : ByteArray := method_11_code
def yL_split : MethodName := ⟨RL, "split", "(LUnitRows;II[J)I"⟩
abbrev cL_join : ByteArray := method_12_code
def yL_join : MethodName := ⟨RL, "join", "(LUnitRows;II)I"⟩
abbrev cL_state : ByteArray := method_13_code
def yL_state : MethodName := ⟨RL, "state", "(LUnitRows;II)I"⟩
abbrev cL_serial : ByteArray := method_14_code
def yL_serial : MethodName := ⟨RL, "serial", "(LUnitRows;IJ)I"⟩
abbrev cL_lost : ByteArray := method_15_code
def yL_lost : MethodName := ⟨RL, "lost", "(LUnitRows;II)I"⟩
abbrev cL_found : ByteArray := method_16_code
def yL_found : MethodName := ⟨RL, "found", "(LUnitRows;II)I"⟩
abbrev cL_weigh : ByteArray := method_17_code
def yL_weigh : MethodName := ⟨RL, "weigh", "(LUnitRows;II[J)I"⟩
abbrev cL_day : ByteArray := method_18_code
def yL_day : MethodName := ⟨RL, "day", "(LUnitRows;I[J)I"⟩
abbrev cL_at : ByteArray := method_19_code
def yL_at : MethodName := ⟨RL, "at", "(LUnitRows;II[J)I"⟩
abbrev cL_find : ByteArray := method_20_code
def yL_find : MethodName := ⟨RL, "find", "(LUnitRows;IIII[J)I"⟩
abbrev cL_sum : ByteArray := method_21_code
def yL_sum : MethodName := ⟨RL, "sum", "(LUnitRows;II[J)I"⟩
abbrev cL_row : ByteArray := method_22_code
def yL_row : MethodName := ⟨RL, "row", "(LUnitRows;III[J)I"⟩
abbrev cL_told : ByteArray := method_23_code
def yL_told : MethodName := ⟨RL, "told", "(LUnitRows;II[J)I"⟩
abbrev cL_packed : ByteArray := method_24_code
def yL_packed : MethodName := ⟨RL, "packed", "(LUnitRows;I[J)I"⟩
abbrev cL_law : ByteArray := code
def yL_law : MethodName := ⟨RL, "law", "([I)Z"⟩
def zT_X0_init : List (Nat × Instr × Nat) := [(0, .aload_n 0, 1), (1, .invokespecial 3, 3), (4, .aload_n 0, 1), (5, .sipush 400, 3), (8, .newarray .int, 2), (10, .putfield 9, 3), (13, .aload_n 0, 1), (14, .sipush 400, 3), (17, .newarray .int, 2), (19, .putfield 15, 3), (22, .aload_n 0, 1), (23, .sipush 400, 3), (26, .newarray .int, 2), (28, .putfield 18, 3), (31, .aload_n 0, 1), (32, .sipush 400, 3), (35, .newarray .int, 2), (37, .putfield 21, 3), (40, .aload_n 0, 1), (41, .iconst 0, 1), (42, .putfield 24, 3), (45, .return_, 1)]
def zT_X0_clear : List (Nat × Instr × Nat) := [(0, .aload_n 0, 1), (1, .iconst 0, 1), (2, .putfield 24, 3), (5, .return_, 1)]
def zT_X0_hasRoom : List (Nat × Instr × Nat) := [(0, .aload_n 0, 1), (1, .getfield 24, 3), (4, .iload_n 1, 1), (5, .iadd, 1), (6, .sipush 400, 3), (9, .if_icmp .gt 7, 3), (12, .iconst 1, 1), (13, .goto 4, 3), (16, .iconst 0, 1), (17, .ireturn, 1)]
def zT_X0_add : List (Nat × Instr × Nat) := [(0, .aload_n 0, 1), (1, .iconst 1, 1), (2, .invokevirtual 28, 3), (5, .ifCond .eq 54, 3), (8, .aload_n 0, 1), (9, .getfield 9, 3), (12, .aload_n 0, 1), (13, .getfield 24, 3), (16, .iload_n 1, 1), (17, .iastore, 1), (18, .aload_n 0, 1), (19, .getfield 15, 3), (22, .aload_n 0, 1), (23, .getfield 24, 3), (26, .iload_n 2, 1), (27, .iastore, 1), (28, .aload_n 0, 1), (29, .getfield 18, 3), (32, .aload_n 0, 1), (33, .getfield 24, 3), (36, .iload_n 3, 1), (37, .iastore, 1), (38, .aload_n 0, 1), (39, .getfield 21, 3), (42, .aload_n 0, 1), (43, .getfield 24, 3), (46, .iload 4, 2), (48, .iastore, 1), (49, .aload_n 0, 1), (50, .dup, 1), (51, .getfield 24, 3), (54, .iconst 1, 1), (55, .iadd, 1), (56, .putfield 24, 3), (59, .return_, 1)]
def zT_X0_seek : List (Nat × Instr × Nat) := [(0, .iconst 0, 1), (1, .istore_n 3, 1), (2, .iconst 0, 1), (3, .istore 4, 2), (5, .iload 4, 2), (7, .aload_n 0, 1), (8, .getfield 24, 3), (11, .if_icmp .ge 31, 3), (14, .aload_n 0, 1), (15, .getfield 9, 3), (18, .iload 4, 2), (20, .iaload, 1), (21, .iload_n 1, 1), (22, .if_icmp .ne 14, 3), (25, .iload_n 3, 1), (26, .iload_n 2, 1), (27, .if_icmp .ne 6, 3), (30, .iload 4, 2), (32, .ireturn, 1), (33, .iinc 3 1, 3), (36, .iinc 4 1, 3), (39, .goto (-34), 3), (42, .iconst (-1), 1), (43, .ireturn, 1)]
def zT_X0_read : List (Nat × Instr × Nat) := [(0, .iload_n 1, 1), (1, .iconst 0, 1), (2, .aload_n 0, 1), (3, .getfield 24, 3), (6, .iconst 1, 1), (7, .isub, 1), (8, .invokestatic 32, 3), (11, .ifCond .ne 5, 3), (14, .iconst (-1), 1), (15, .ireturn, 1), (16, .iload_n 2, 1), (17, .ifCond .ne 12, 3), (20, .aload_n 0, 1), (21, .getfield 15, 3), (24, .iload_n 1, 1), (25, .iaload, 1), (26, .goto 23, 3), (29, .iload_n 2, 1), (30, .iconst 1, 1), (31, .if_icmp .ne 12, 3), (34, .aload_n 0, 1), (35, .getfield 18, 3), (38, .iload_n 1, 1), (39, .iaload, 1), (40, .goto 9, 3), (43, .aload_n 0, 1), (44, .getfield 21, 3), (47, .iload_n 1, 1), (48, .iaload, 1), (49, .ireturn, 1)]
def zT_X1_init : List (Nat × Instr × Nat) := [(0, .aload_n 0, 1), (1, .invokespecial 3, 3), (4, .aload_n 0, 1), (5, .iload_n 1, 1), (6, .putfield 9, 3), (9, .return_, 1)]
def zT_X1_be : List (Nat × Instr × Nat) := [(0, .aload_n 0, 1), (1, .iload_n 1, 1), (2, .putfield 15, 3), (5, .aload_n 0, 1), (6, .iload_n 2, 1), (7, .putfield 18, 3), (10, .aload_n 0, 1), (11, .iload_n 3, 1), (12, .putfield 21, 3), (15, .aload_n 0, 1), (16, .iload 4, 2), (18, .putfield 24, 3), (21, .aload_n 0, 1), (22, .iload 5, 2), (24, .putfield 27, 3), (27, .aload_n 0, 1), (28, .lconst 0, 1), (29, .putfield 30, 3), (32, .return_, 1)]
def zT_X1_stand : List (Nat × Instr × Nat) := [(0, .aload_n 0, 1), (1, .iload_n 1, 1), (2, .putfield 34, 3), (5, .aload_n 0, 1), (6, .iload_n 2, 1), (7, .putfield 37, 3), (10, .aload_n 0, 1), (11, .aload_n 3, 1), (12, .putfield 40, 3), (15, .return_, 1)]
def zT_X1_stands : List (Nat × Instr × Nat) := [(0, .aload_n 0, 1), (1, .getfield 34, 3), (4, .iconst 4, 1), (5, .if_icmp .eq 15, 3), (8, .aload_n 0, 1), (9, .getfield 34, 3), (12, .iconst 5, 1), (13, .if_icmp .eq 7, 3), (16, .iconst 1, 1), (17, .goto 4, 3), (20, .iconst 0, 1), (21, .ireturn, 1)]
def zT_X1_isOver : List (Nat × Instr × Nat) := [(0, .iload_n 1, 1), (1, .aload_n 0, 1), (2, .getfield 21, 3), (5, .if_icmp .le 7, 3), (8, .iconst 1, 1), (9, .goto 4, 3), (12, .iconst 0, 1), (13, .ireturn, 1)]
def zT_X1_expire : List (Nat × Instr × Nat) := [(0, .aload_n 0, 1), (1, .getfield 34, 3), (4, .ifCond .eq 11, 3), (7, .aload_n 0, 1), (8, .getfield 34, 3), (11, .iconst 1, 1), (12, .if_icmp .ne 15, 3), (15, .aload_n 0, 1), (16, .iload_n 1, 1), (17, .invokevirtual 44, 3), (20, .ifCond .eq 7, 3), (23, .iconst 1, 1), (24, .goto 4, 3), (27, .iconst 0, 1), (28, .istore_n 2, 1), (29, .iload_n 2, 1), (30, .ifCond .eq 8, 3), (33, .aload_n 0, 1), (34, .iconst 3, 1), (35, .putfield 34, 3), (38, .iload_n 2, 1), (39, .ireturn, 1)]
def zT_X1_canBecome : List (Nat × Instr × Nat) := [(0, .iload_n 1, 1), (1, .iconst 5, 1), (2, .if_icmp .ne 8, 3), (5, .aload_n 0, 1), (6, .invokevirtual 48, 3), (9, .ireturn, 1), (10, .iload_n 1, 1), (11, .ifCond .eq 8, 3), (14, .iload_n 1, 1), (15, .iconst 1, 1), (16, .if_icmp .ne 13, 3), (19, .aload_n 0, 1), (20, .iload_n 2, 1), (21, .invokevirtual 44, 3), (24, .ifCond .eq 5, 3), (27, .iconst 0, 1), (28, .ireturn, 1), (29, .aload_n 0, 1), (30, .getfield 34, 3), (33, .tableswitch 69 0 2 #[27, 43, 58], 27), (60, .iload_n 1, 1), (61, .iconst 1, 1), (62, .if_icmp .eq 8, 3), (65, .iload_n 1, 1), (66, .iconst 2, 1), (67, .if_icmp .ne 7, 3), (70, .iconst 1, 1), (71, .goto 4, 3), (74, .iconst 0, 1), (75, .ireturn, 1), (76, .iload_n 1, 1), (77, .ifCond .eq 8, 3), (80, .iload_n 1, 1), (81, .iconst 2, 1), (82, .if_icmp .ne 7, 3), (85, .iconst 1, 1), (86, .goto 4, 3), (89, .iconst 0, 1), (90, .ireturn, 1), (91, .iload_n 1, 1), (92, .iconst 1, 1), (93, .if_icmp .ne 7, 3), (96, .iconst 1, 1), (97, .goto 4, 3), (100, .iconst 0, 1), (101, .ireturn, 1), (102, .iconst 0, 1), (103, .ireturn, 1)]
def zT_X1_depth : List (Nat × Instr × Nat) := [(0, .aload_n 0, 1), (1, .invokevirtual 48, 3), (4, .ifCond .ne 5, 3), (7, .iconst 0, 1), (8, .ireturn, 1), (9, .iconst 1, 1), (10, .istore_n 1, 1), (11, .aload_n 0, 1), (12, .getfield 40, 3), (15, .astore_n 2, 1), (16, .aload_n 2, 1), (17, .ifnull 19, 3), (20, .iload_n 1, 1), (21, .iconst 5, 1), (22, .if_icmp .ge 14, 3), (25, .iinc 1 1, 3), (28, .aload_n 2, 1), (29, .getfield 40, 3), (32, .astore_n 2, 1), (33, .goto (-17), 3), (36, .iload_n 1, 1), (37, .ireturn, 1)]
def zT_X1_liesWithin : List (Nat × Instr × Nat) := [(0, .aload_n 0, 1), (1, .getfield 40, 3), (4, .astore_n 2, 1), (5, .iconst 1, 1), (6, .istore_n 3, 1), (7, .aload_n 2, 1), (8, .ifnull 26, 3), (11, .iload_n 3, 1), (12, .iconst 5, 1), (13, .if_icmp .ge 21, 3), (16, .aload_n 2, 1), (17, .aload_n 1, 1), (18, .if_acmp .ne 5, 3), (21, .iconst 1, 1), (22, .ireturn, 1), (23, .aload_n 2, 1), (24, .getfield 40, 3), (27, .astore_n 2, 1), (28, .iinc 3 1, 3), (31, .goto (-24), 3), (34, .iconst 0, 1), (35, .ireturn, 1)]
def zT_X1_matches : List (Nat × Instr × Nat) := [(0, .iload_n 1, 1), (1, .iconst (-1), 1), (2, .if_icmp .eq 11, 3), (5, .iload_n 1, 1), (6, .aload_n 0, 1), (7, .getfield 15, 3), (10, .if_icmp .ne 33, 3), (13, .iload_n 2, 1), (14, .iconst (-1), 1), (15, .if_icmp .eq 11, 3), (18, .iload_n 2, 1), (19, .aload_n 0, 1), (20, .getfield 24, 3), (23, .if_icmp .ne 20, 3), (26, .iload_n 3, 1), (27, .iconst (-1), 1), (28, .if_icmp .eq 11, 3), (31, .iload_n 3, 1), (32, .aload_n 0, 1), (33, .getfield 34, 3), (36, .if_icmp .ne 7, 3), (39, .iconst 1, 1), (40, .goto 4, 3), (43, .iconst 0, 1), (44, .ireturn, 1)]
def zT_X1_isLike : List (Nat × Instr × Nat) := [(0, .aload_n 0, 1), (1, .getfield 15, 3), (4, .aload_n 1, 1), (5, .getfield 15, 3), (8, .if_icmp .ne 51, 3), (11, .aload_n 0, 1), (12, .getfield 24, 3), (15, .aload_n 1, 1), (16, .getfield 24, 3), (19, .if_icmp .ne 40, 3), (22, .aload_n 0, 1), (23, .getfield 34, 3), (26, .aload_n 1, 1), (27, .getfield 34, 3), (30, .if_icmp .ne 29, 3), (33, .aload_n 0, 1), (34, .getfield 37, 3), (37, .aload_n 1, 1), (38, .getfield 37, 3), (41, .if_icmp .ne 18, 3), (44, .aload_n 0, 1), (45, .getfield 40, 3), (48, .aload_n 1, 1), (49, .getfield 40, 3), (52, .if_acmp .ne 7, 3), (55, .iconst 1, 1), (56, .goto 4, 3), (59, .iconst 0, 1), (60, .ireturn, 1)]
def zT_X1_pack : List (Nat × Instr × Nat) := [(0, .aload_n 0, 1), (1, .getfield 15, 3), (4, .aload_n 0, 1), (5, .getfield 24, 3), (8, .iconst 4, 1), (9, .ishl, 1), (10, .ior, 1), (11, .aload_n 0, 1), (12, .getfield 27, 3), (15, .iconst 1, 1), (16, .isub, 1), (17, .bipush 7, 2), (19, .ishl, 1), (20, .ior, 1), (21, .aload_n 0, 1), (22, .getfield 34, 3), (25, .bipush 17, 2), (27, .ishl, 1), (28, .ior, 1), (29, .i2l, 1), (30, .lstore_n 1, 1), (31, .lload_n 1, 1), (32, .aload_n 0, 1), (33, .getfield 30, 3), (36, .bipush 20, 2), (38, .lshl, 1), (39, .lor, 1), (40, .lreturn, 1)]
def zT_X2_init : List (Nat × Instr × Nat) := [(0, .aload_n 0, 1), (1, .invokespecial 1, 3), (4, .aload_n 0, 1), (5, .bipush 16, 2), (7, .newarray .int, 2), (9, .putfield 9, 3), (12, .aload_n 0, 1), (13, .bipush 8, 2), (15, .newarray .int, 2), (17, .putfield 13, 3), (20, .aload_n 0, 1), (21, .bipush 16, 2), (23, .newarray .int, 2), (25, .putfield 16, 3), (28, .aload_n 0, 1), (29, .bipush 16, 2), (31, .newarray .int, 2), (33, .putfield 19, 3), (36, .aload_n 0, 1), (37, .bipush 64, 2), (39, .anewarray 22, 3), (42, .putfield 24, 3), (45, .aload_n 0, 1), (46, .new 28, 3), (49, .dup, 1), (50, .invokespecial 30, 3), (53, .putfield 31, 3), (56, .aload_n 0, 1), (57, .iconst 0, 1), (58, .putfield 35, 3), (61, .aload_n 0, 1), (62, .iconst 0, 1), (63, .putfield 39, 3), (66, .aload_n 0, 1), (67, .bipush 64, 2), (69, .putfield 42, 3), (72, .aload_n 0, 1), (73, .iconst 0, 1), (74, .putfield 45, 3), (77, .iconst 0, 1), (78, .istore_n 1, 1), (79, .iload_n 1, 1), (80, .bipush 16, 2), (82, .if_icmp .ge 17, 3), (85, .aload_n 0, 1), (86, .getfield 9, 3), (89, .iload_n 1, 1), (90, .bipush 20, 2), (92, .iastore, 1), (93, .iinc 1 1, 3), (96, .goto (-17), 3), (99, .iconst 0, 1), (100, .istore_n 1, 1), (101, .iload_n 1, 1), (102, .bipush 8, 2), (104, .if_icmp .ge 17, 3), (107, .aload_n 0, 1), (108, .getfield 13, 3), (111, .iload_n 1, 1), (112, .bipush 100, 2), (114, .iastore, 1), (115, .iinc 1 1, 3), (118, .goto (-17), 3), (121, .iconst 0, 1), (122, .istore_n 1, 1), (123, .iload_n 1, 1), (124, .bipush 64, 2), (126, .if_icmp .ge 23, 3), (129, .aload_n 0, 1), (130, .getfield 24, 3), (133, .iload_n 1, 1), (134, .new 22, 3), (137, .dup, 1), (138, .iload_n 1, 1), (139, .invokespecial 48, 3), (142, .aastore, 1), (143, .iinc 1 1, 3), (146, .goto (-23), 3), (149, .return_, 1)]
def zT_X2_rows : List (Nat × Instr × Nat) := [(0, .iload_n 1, 1), (1, .ifCond .ge 13, 3), (4, .new 51, 3), (7, .dup, 1), (8, .ldc 53, 2), (10, .invokespecial 55, 3), (13, .athrow, 1), (14, .iload_n 1, 1), (15, .iconst 0, 1), (16, .bipush 64, 2), (18, .invokestatic 58, 3), (21, .aload_n 0, 1), (22, .iconst 0, 1), (23, .putfield 39, 3), (26, .aload_n 0, 1), (27, .iload_n 1, 1), (28, .putfield 42, 3), (31, .aload_n 0, 1), (32, .getfield 31, 3), (35, .invokevirtual 62, 3), (38, .return_, 1)]
def zT_X2_place : List (Nat × Instr × Nat) := [(0, .iload_n 1, 1), (1, .invokestatic 65, 3), (4, .iload_n 2, 1), (5, .iconst 0, 1), (6, .bipush 64, 2), (8, .invokestatic 58, 3), (11, .aload_n 0, 1), (12, .iload_n 1, 1), (13, .invokevirtual 68, 3), (16, .iload_n 2, 1), (17, .if_icmp .le 13, 3), (20, .new 72, 3), (23, .dup, 1), (24, .ldc 74, 2), (26, .invokespecial 76, 3), (29, .athrow, 1), (30, .aload_n 0, 1), (31, .getfield 9, 3), (34, .iload_n 1, 1), (35, .iload_n 2, 1), (36, .iastore, 1), (37, .return_, 1)]
def zT_X2_good : List (Nat × Instr × Nat) := [(0, .iload_n 1, 1), (1, .iconst 0, 1), (2, .bipush 7, 2), (4, .invokestatic 58, 3), (7, .iload_n 2, 1), (8, .iconst 1, 1), (9, .sipush 30000, 3), (12, .invokestatic 58, 3), (15, .aload_n 0, 1), (16, .getfield 13, 3), (19, .iload_n 1, 1), (20, .iload_n 2, 1), (21, .iastore, 1), (22, .return_, 1)]
def zT_X2_lot : List (Nat × Instr × Nat) := [(0, .iload_n 1, 1), (1, .iconst 0, 1), (2, .bipush 7, 2), (4, .invokestatic 58, 3), (7, .iload_n 2, 1), (8, .iconst 0, 1), (9, .sipush 1000, 3), (12, .invokestatic 58, 3), (15, .aload_n 0, 1), (16, .getfield 35, 3), (19, .bipush 16, 2), (21, .if_icmp .lt 13, 3), (24, .new 77, 3), (27, .dup, 1), (28, .ldc 79, 2), (30, .invokespecial 81, 3), (33, .athrow, 1), (34, .aload_n 0, 1), (35, .getfield 35, 3), (38, .istore_n 3, 1), (39, .aload_n 0, 1), (40, .getfield 16, 3), (43, .iload_n 3, 1), (44, .iload_n 1, 1), (45, .iastore, 1), (46, .aload_n 0, 1), (47, .getfield 19, 3), (50, .iload_n 3, 1), (51, .iload_n 2, 1), (52, .iastore, 1), (53, .aload_n 0, 1), (54, .iload_n 3, 1), (55, .iconst 1, 1), (56, .iadd, 1), (57, .putfield 35, 3), (60, .iload_n 3, 1), (61, .ireturn, 1)]
def zT_X2_unit : List (Nat × Instr × Nat) := [(0, .iload_n 1, 1), (1, .iconst 0, 1), (2, .aload_n 0, 1), (3, .getfield 35, 3), (6, .iconst 1, 1), (7, .isub, 1), (8, .invokestatic 82, 3), (11, .ifCond .ne 13, 3), (14, .new 86, 3), (17, .dup, 1), (18, .ldc 88, 2), (20, .invokespecial 90, 3), (23, .athrow, 1), (24, .iload_n 2, 1), (25, .invokestatic 65, 3), (28, .iload_n 3, 1), (29, .iconst 0, 1), (30, .bipush 7, 2), (32, .invokestatic 58, 3), (35, .iload 4, 2), (37, .iconst 1, 1), (38, .sipush 1000, 3), (41, .invokestatic 58, 3), (44, .aload_n 0, 1), (45, .iconst 1, 1), (46, .invokevirtual 91, 3), (49, .aload_n 0, 1), (50, .iload_n 2, 1), (51, .iconst 1, 1), (52, .invokevirtual 94, 3), (55, .aload_n 0, 1), (56, .invokevirtual 98, 3), (59, .astore 5, 2), (61, .aload 5, 2), (63, .iload_n 1, 1), (64, .aload_n 0, 1), (65, .getfield 16, 3), (68, .iload_n 1, 1), (69, .iaload, 1), (70, .aload_n 0, 1), (71, .getfield 19, 3), (74, .iload_n 1, 1), (75, .iaload, 1), (76, .iload_n 3, 1), (77, .iload 4, 2), (79, .invokevirtual 102, 3), (82, .aload 5, 2), (84, .aload 5, 2), (86, .aload_n 0, 1), (87, .getfield 45, 3), (90, .invokevirtual 106, 3), (93, .ifCond .eq 7, 3), (96, .iconst 3, 1), (97, .goto 4, 3), (100, .iconst 0, 1), (101, .iload_n 2, 1), (102, .aconst_null, 1), (103, .invokevirtual 110, 3), (106, .aload_n 0, 1), (107, .aload 5, 2), (109, .iconst 1, 1), (110, .iload_n 2, 1), (111, .invokevirtual 114, 3), (114, .aload 5, 2), (116, .getfield 118, 3), (119, .ireturn, 1)]
def zT_X2_move : List (Nat × Instr × Nat) := [(0, .aload_n 0, 1), (1, .iload_n 1, 1), (2, .invokevirtual 121, 3), (5, .astore_n 3, 1), (6, .iload_n 2, 1), (7, .invokestatic 65, 3), (10, .aload_n 3, 1), (11, .invokestatic 125, 3), (14, .aload_n 3, 1), (15, .getfield 129, 3), (18, .iload_n 2, 1), (19, .if_icmp .ne 20, 3), (22, .aload_n 3, 1), (23, .getfield 132, 3), (26, .ifnonnull 13, 3), (29, .new 72, 3), (32, .dup, 1), (33, .ldc 136, 2), (35, .invokespecial 76, 3), (38, .athrow, 1), (39, .aload_n 0, 1), (40, .iconst 1, 1), (41, .invokevirtual 91, 3), (44, .aload_n 3, 1), (45, .getfield 129, 3), (48, .iload_n 2, 1), (49, .if_icmp .eq 15, 3), (52, .aload_n 0, 1), (53, .iload_n 2, 1), (54, .iconst 1, 1), (55, .aload_n 0, 1), (56, .aload_n 3, 1), (57, .invokevirtual 138, 3), (60, .iadd, 1), (61, .invokevirtual 94, 3), (64, .aload_n 3, 1), (65, .aconst_null, 1), (66, .putfield 132, 3), (69, .aload_n 0, 1), (70, .aload_n 3, 1), (71, .iload_n 2, 1), (72, .invokevirtual 142, 3), (75, .aload_n 0, 1), (76, .aload_n 3, 1), (77, .iconst 2, 1), (78, .iload_n 2, 1), (79, .invokevirtual 114, 3), (82, .return_, 1)]
def zT_X2_into : List (Nat × Instr × Nat) := [(0, .aload_n 0, 1), (1, .iload_n 1, 1), (2, .invokevirtual 121, 3), (5, .astore_n 3, 1), (6, .aload_n 0, 1), (7, .iload_n 2, 1), (8, .invokevirtual 121, 3), (11, .astore 4, 2), (13, .aload_n 0, 1), (14, .aload_n 3, 1), (15, .aload 4, 2), (17, .invokevirtual 146, 3), (20, .ifCond .ne 13, 3), (23, .new 72, 3), (26, .dup, 1), (27, .ldc 150, 2), (29, .invokespecial 76, 3), (32, .athrow, 1), (33, .aload_n 0, 1), (34, .iconst 1, 1), (35, .invokevirtual 91, 3), (38, .aload_n 3, 1), (39, .aload 4, 2), (41, .putfield 132, 3), (44, .aload_n 0, 1), (45, .aload_n 3, 1), (46, .iconst 3, 1), (47, .aload 4, 2), (49, .getfield 118, 3), (52, .invokevirtual 114, 3), (55, .return_, 1)]
def zT_X2_out : List (Nat × Instr × Nat) := [(0, .aload_n 0, 1), (1, .iload_n 1, 1), (2, .invokevirtual 121, 3), (5, .astore_n 2, 1), (6, .aload_n 2, 1), (7, .getfield 132, 3), (10, .ifnonnull 13, 3), (13, .new 72, 3), (16, .dup, 1), (17, .ldc 152, 2), (19, .invokespecial 76, 3), (22, .athrow, 1), (23, .aload_n 0, 1), (24, .iconst 1, 1), (25, .invokevirtual 91, 3), (28, .aload_n 2, 1), (29, .aconst_null, 1), (30, .putfield 132, 3), (33, .aload_n 0, 1), (34, .aload_n 2, 1), (35, .iconst 4, 1), (36, .aload_n 2, 1), (37, .getfield 129, 3), (40, .invokevirtual 114, 3), (43, .return_, 1)]
def zT_X2_split : List (Nat × Instr × Nat) := [(0, .aload_n 0, 1), (1, .iload_n 1, 1), (2, .invokevirtual 121, 3), (5, .astore_n 3, 1), (6, .iload_n 2, 1), (7, .iconst 1, 1), (8, .aload_n 3, 1), (9, .getfield 154, 3), (12, .iconst 1, 1), (13, .isub, 1), (14, .invokestatic 58, 3), (17, .aload_n 3, 1), (18, .invokestatic 125, 3), (21, .aload_n 0, 1), (22, .aload_n 3, 1), (23, .invokevirtual 157, 3), (26, .ifCond .ne 13, 3), (29, .new 72, 3), (32, .dup, 1), (33, .ldc 161, 2), (35, .invokespecial 76, 3), (38, .athrow, 1), (39, .aload_n 0, 1), (40, .iconst 2, 1), (41, .invokevirtual 91, 3), (44, .aload_n 0, 1), (45, .aload_n 3, 1), (46, .getfield 129, 3), (49, .iconst 1, 1), (50, .invokevirtual 94, 3), (53, .aload_n 0, 1), (54, .invokevirtual 98, 3), (57, .astore 4, 2), (59, .aload 4, 2), (61, .aload_n 3, 1), (62, .getfield 163, 3), (65, .aload_n 3, 1), (66, .getfield 166, 3), (69, .aload_n 3, 1), (70, .getfield 169, 3), (73, .aload_n 3, 1), (74, .getfield 172, 3), (77, .iload_n 2, 1), (78, .invokevirtual 102, 3), (81, .aload 4, 2), (83, .aload_n 3, 1), (84, .getfield 175, 3), (87, .aload_n 3, 1), (88, .getfield 129, 3), (91, .aload_n 3, 1), (92, .getfield 132, 3), (95, .invokevirtual 110, 3), (98, .aload_n 3, 1), (99, .dup, 1), (100, .getfield 154, 3), (103, .iload_n 2, 1), (104, .isub, 1), (105, .putfield 154, 3), (108, .aload_n 0, 1), (109, .aload_n 3, 1), (110, .iconst 5, 1), (111, .aload 4, 2), (113, .getfield 118, 3), (116, .invokevirtual 114, 3), (119, .aload_n 0, 1), (120, .aload 4, 2), (122, .iconst 1, 1), (123, .aload 4, 2), (125, .getfield 129, 3), (128, .invokevirtual 114, 3), (131, .aload 4, 2), (133, .getfield 118, 3), (136, .ireturn, 1)]
def zT_X2_join : List (Nat × Instr × Nat) := [(0, .aload_n 0, 1), (1, .iload_n 1, 1), (2, .invokevirtual 121, 3), (5, .astore_n 3, 1), (6, .aload_n 0, 1), (7, .iload_n 2, 1), (8, .invokevirtual 121, 3), (11, .astore 4, 2), (13, .aload_n 0, 1), (14, .aload_n 3, 1), (15, .aload 4, 2), (17, .invokevirtual 178, 3), (20, .ifCond .ne 13, 3), (23, .new 72, 3), (26, .dup, 1), (27, .ldc 181, 2), (29, .invokespecial 76, 3), (32, .athrow, 1), (33, .aload_n 0, 1), (34, .iconst 2, 1), (35, .invokevirtual 91, 3), (38, .aload_n 3, 1), (39, .dup, 1), (40, .getfield 154, 3), (43, .aload 4, 2), (45, .getfield 154, 3), (48, .iadd, 1), (49, .putfield 154, 3), (52, .aload_n 0, 1), (53, .aload 4, 2), (55, .iconst 5, 1), (56, .invokevirtual 183, 3), (59, .aload_n 0, 1), (60, .aload_n 3, 1), (61, .bipush 6, 2), (63, .aload 4, 2), (65, .getfield 118, 3), (68, .invokevirtual 114, 3), (71, .aload_n 0, 1), (72, .aload 4, 2), (74, .bipush 6, 2), (76, .aload_n 3, 1), (77, .getfield 118, 3), (80, .invokevirtual 114, 3), (83, .return_, 1)]
def zT_X2_state : List (Nat × Instr × Nat) := [(0, .aload_n 0, 1), (1, .iload_n 1, 1), (2, .invokevirtual 121, 3), (5, .astore_n 3, 1), (6, .iload_n 2, 1), (7, .iconst 0, 1), (8, .iconst 5, 1), (9, .invokestatic 58, 3), (12, .aload_n 3, 1), (13, .iload_n 2, 1), (14, .aload_n 0, 1), (15, .getfield 45, 3), (18, .invokevirtual 186, 3), (21, .ifCond .ne 13, 3), (24, .new 72, 3), (27, .dup, 1), (28, .ldc 190, 2), (30, .invokespecial 76, 3), (33, .athrow, 1), (34, .aload_n 0, 1), (35, .iconst 1, 1), (36, .invokevirtual 91, 3), (39, .iload_n 2, 1), (40, .iconst 5, 1), (41, .if_icmp .ne 12, 3), (44, .aload_n 0, 1), (45, .aload_n 3, 1), (46, .iconst 5, 1), (47, .invokevirtual 183, 3), (50, .goto 8, 3), (53, .aload_n 3, 1), (54, .iload_n 2, 1), (55, .putfield 175, 3), (58, .aload_n 0, 1), (59, .aload_n 3, 1), (60, .bipush 7, 2), (62, .iload_n 2, 1), (63, .invokevirtual 114, 3), (66, .return_, 1)]
def zT_X2_serial : List (Nat × Instr × Nat) := [(0, .aload_n 0, 1), (1, .iload_n 1, 1), (2, .invokevirtual 121, 3), (5, .astore 4, 2), (7, .lload_n 2, 1), (8, .lconst 1, 1), (9, .lcmp, 1), (10, .ifCond .lt 11, 3), (13, .lload_n 2, 1), (14, .ldc2_w 192, 3), (17, .lcmp, 1), (18, .ifCond .le 13, 3), (21, .new 194, 3), (24, .dup, 1), (25, .ldc 196, 2), (27, .invokespecial 198, 3), (30, .athrow, 1), (31, .aload 4, 2), (33, .invokestatic 125, 3), (36, .aload 4, 2), (38, .getfield 154, 3), (41, .iconst 1, 1), (42, .if_icmp .gt 21, 3), (45, .aload 4, 2), (47, .getfield 199, 3), (50, .lconst 0, 1), (51, .lcmp, 1), (52, .ifCond .ne 11, 3), (55, .aload_n 0, 1), (56, .lload_n 2, 1), (57, .invokevirtual 203, 3), (60, .ifCond .eq 13, 3), (63, .new 72, 3), (66, .dup, 1), (67, .ldc 207, 2), (69, .invokespecial 76, 3), (72, .athrow, 1), (73, .aload_n 0, 1), (74, .iconst 1, 1), (75, .invokevirtual 91, 3), (78, .aload 4, 2), (80, .lload_n 2, 1), (81, .putfield 199, 3), (84, .aload_n 0, 1), (85, .aload 4, 2), (87, .bipush 8, 2), (89, .iconst 0, 1), (90, .invokevirtual 114, 3), (93, .return_, 1)]
def zT_X2_lost : List (Nat × Instr × Nat) := [(0, .aload_n 0, 1), (1, .iload_n 1, 1), (2, .invokevirtual 121, 3), (5, .astore_n 3, 1), (6, .iload_n 2, 1), (7, .iconst 1, 1), (8, .bipush 9, 2), (10, .invokestatic 58, 3), (13, .aload_n 3, 1), (14, .invokestatic 125, 3), (17, .aload_n 0, 1), (18, .iconst 1, 1), (19, .invokevirtual 91, 3), (22, .aload_n 0, 1), (23, .aload_n 3, 1), (24, .iconst 4, 1), (25, .invokevirtual 183, 3), (28, .aload_n 0, 1), (29, .aload_n 3, 1), (30, .bipush 9, 2), (32, .iload_n 2, 1), (33, .invokevirtual 114, 3), (36, .return_, 1)]
def zT_X2_found : List (Nat × Instr × Nat) := [(0, .aload_n 0, 1), (1, .iload_n 1, 1), (2, .invokevirtual 121, 3), (5, .astore_n 3, 1), (6, .iload_n 2, 1), (7, .invokestatic 65, 3), (10, .aload_n 3, 1), (11, .getfield 175, 3), (14, .iconst 4, 1), (15, .if_icmp .eq 13, 3), (18, .new 72, 3), (21, .dup, 1), (22, .ldc 209, 2), (24, .invokespecial 76, 3), (27, .athrow, 1), (28, .aload_n 0, 1), (29, .iconst 1, 1), (30, .invokevirtual 91, 3), (33, .aload_n 0, 1), (34, .iload_n 2, 1), (35, .iconst 1, 1), (36, .invokevirtual 94, 3), (39, .aload_n 3, 1), (40, .aload_n 3, 1), (41, .aload_n 0, 1), (42, .getfield 45, 3), (45, .invokevirtual 106, 3), (48, .ifCond .eq 7, 3), (51, .iconst 3, 1), (52, .goto 4, 3), (55, .iconst 1, 1), (56, .iload_n 2, 1), (57, .aconst_null, 1), (58, .invokevirtual 110, 3), (61, .aload_n 0, 1), (62, .aload_n 3, 1), (63, .bipush 10, 2), (65, .iload_n 2, 1), (66, .invokevirtual 114, 3), (69, .return_, 1)]
def zT_X2_weigh : List (Nat × Instr × Nat) := [(0, .aload_n 0, 1), (1, .iload_n 1, 1), (2, .invokevirtual 121, 3), (5, .astore_n 3, 1), (6, .iload_n 2, 1), (7, .iconst 1, 1), (8, .ldc 211, 2), (10, .invokestatic 58, 3), (13, .aload_n 3, 1), (14, .invokestatic 125, 3), (17, .aload_n 0, 1), (18, .iconst 1, 1), (19, .invokevirtual 91, 3), (22, .aload_n 0, 1), (23, .aload_n 3, 1), (24, .bipush 11, 2), (26, .iload_n 2, 1), (27, .invokevirtual 114, 3), (30, .iload_n 2, 1), (31, .aload_n 3, 1), (32, .getfield 154, 3), (35, .aload_n 0, 1), (36, .aload_n 3, 1), (37, .getfield 166, 3), (40, .invokevirtual 212, 3), (43, .imul, 1), (44, .isub, 1), (45, .ireturn, 1)]
def zT_X2_day : List (Nat × Instr × Nat) := [(0, .iload_n 1, 1), (1, .aload_n 0, 1), (2, .getfield 45, 3), (5, .sipush 1000, 3), (8, .invokestatic 58, 3), (11, .aload_n 0, 1), (12, .iload_n 1, 1), (13, .putfield 45, 3), (16, .iconst 0, 1), (17, .istore_n 2, 1), (18, .iconst 0, 1), (19, .istore_n 3, 1), (20, .iload_n 3, 1), (21, .aload_n 0, 1), (22, .getfield 39, 3), (25, .if_icmp .ge 25, 3), (28, .aload_n 0, 1), (29, .getfield 24, 3), (32, .iload_n 3, 1), (33, .aaload, 1), (34, .iload_n 1, 1), (35, .invokevirtual 215, 3), (38, .ifCond .eq 6, 3), (41, .iinc 2 1, 3), (44, .iinc 3 1, 3), (47, .goto (-27), 3), (50, .iload_n 2, 1), (51, .ireturn, 1)]
def zT_X2_at : List (Nat × Instr × Nat) := [(0, .iload_n 1, 1), (1, .invokestatic 65, 3), (4, .iconst 0, 1), (5, .istore_n 3, 1), (6, .iconst 0, 1), (7, .istore 4, 2), (9, .iload 4, 2), (11, .aload_n 0, 1), (12, .getfield 39, 3), (15, .if_icmp .ge 46, 3), (18, .aload_n 0, 1), (19, .getfield 24, 3), (22, .iload 4, 2), (24, .aaload, 1), (25, .astore 5, 2), (27, .aload 5, 2), (29, .getfield 129, 3), (32, .iload_n 1, 1), (33, .if_icmp .ne 22, 3), (36, .aload 5, 2), (38, .getfield 132, 3), (41, .ifnonnull 14, 3), (44, .iload_n 3, 1), (45, .iload_n 2, 1), (46, .if_icmp .ne 6, 3), (49, .iload 4, 2), (51, .ireturn, 1), (52, .iinc 3 1, 3), (55, .iinc 4 1, 3), (58, .goto (-49), 3), (61, .new 218, 3), (64, .dup, 1), (65, .ldc 220, 2), (67, .invokespecial 222, 3), (70, .athrow, 1)]
def zT_X2_find : List (Nat × Instr × Nat) := [(0, .iload 4, 2), (2, .ifCond .ge 13, 3), (5, .new 194, 3), (8, .dup, 1), (9, .ldc 223, 2), (11, .invokespecial 198, 3), (14, .athrow, 1), (15, .iconst 0, 1), (16, .istore 5, 2), (18, .iconst 0, 1), (19, .istore 6, 2), (21, .iload 6, 2), (23, .aload_n 0, 1), (24, .getfield 39, 3), (27, .if_icmp .ge 38, 3), (30, .aload_n 0, 1), (31, .getfield 24, 3), (34, .iload 6, 2), (36, .aaload, 1), (37, .iload_n 1, 1), (38, .iload_n 2, 1), (39, .iload_n 3, 1), (40, .invokevirtual 225, 3), (43, .ifCond .eq 16, 3), (46, .iload 5, 2), (48, .iload 4, 2), (50, .if_icmp .ne 6, 3), (53, .iload 6, 2), (55, .ireturn, 1), (56, .iinc 5 1, 3), (59, .iinc 6 1, 3), (62, .goto (-41), 3), (65, .iconst (-1), 1), (66, .ireturn, 1)]
def zT_X2_sum : List (Nat × Instr × Nat) := [(0, .iload_n 1, 1), (1, .iconst 0, 1), (2, .bipush 7, 2), (4, .invokestatic 58, 3), (7, .iload_n 2, 1), (8, .invokestatic 65, 3), (11, .lconst 0, 1), (12, .lstore_n 3, 1), (13, .iconst 0, 1), (14, .istore 5, 2), (16, .iload 5, 2), (18, .aload_n 0, 1), (19, .getfield 39, 3), (22, .if_icmp .ge 53, 3), (25, .aload_n 0, 1), (26, .getfield 24, 3), (29, .iload 5, 2), (31, .aaload, 1), (32, .astore 6, 2), (34, .aload 6, 2), (36, .getfield 166, 3), (39, .iload_n 1, 1), (40, .if_icmp .ne 29, 3), (43, .aload 6, 2), (45, .getfield 129, 3), (48, .iload_n 2, 1), (49, .if_icmp .ne 20, 3), (52, .aload 6, 2), (54, .getfield 175, 3), (57, .ifCond .ne 12, 3), (60, .lload_n 3, 1), (61, .aload 6, 2), (63, .getfield 154, 3), (66, .i2l, 1), (67, .ladd, 1), (68, .lstore_n 3, 1), (69, .iinc 5 1, 3), (72, .goto (-56), 3), (75, .lload_n 3, 1), (76, .lreturn, 1)]
def zT_X2_row : List (Nat × Instr × Nat) := [(0, .aload_n 0, 1), (1, .getfield 31, 3), (4, .aload_n 0, 1), (5, .iload_n 1, 1), (6, .invokevirtual 121, 3), (9, .getfield 118, 3), (12, .iload_n 2, 1), (13, .invokevirtual 228, 3), (16, .istore 4, 2), (18, .iload 4, 2), (20, .iconst (-1), 1), (21, .if_icmp .ne 13, 3), (24, .new 86, 3), (27, .dup, 1), (28, .ldc 232, 2), (30, .invokespecial 90, 3), (33, .athrow, 1), (34, .iload_n 3, 1), (35, .iconst 0, 1), (36, .iconst 2, 1), (37, .invokestatic 58, 3), (40, .aload_n 0, 1), (41, .getfield 31, 3), (44, .iload 4, 2), (46, .iload_n 3, 1), (47, .invokevirtual 234, 3), (50, .ireturn, 1)]
def zT_X2_told : List (Nat × Instr × Nat) := [(0, .aload_n 0, 1), (1, .iload_n 1, 1), (2, .invokevirtual 121, 3), (5, .astore_n 3, 1), (6, .iload_n 2, 1), (7, .tableswitch 100 0 7 #[45, 50, 55, 74, 79, 84, 89, 94], 45), (52, .aload_n 3, 1), (53, .getfield 175, 3), (56, .ireturn, 1), (57, .aload_n 3, 1), (58, .getfield 129, 3), (61, .ireturn, 1), (62, .aload_n 3, 1), (63, .getfield 132, 3), (66, .ifnonnull 7, 3), (69, .iconst (-1), 1), (70, .goto 10, 3), (73, .aload_n 3, 1), (74, .getfield 132, 3), (77, .getfield 118, 3), (80, .ireturn, 1), (81, .aload_n 3, 1), (82, .getfield 154, 3), (85, .ireturn, 1), (86, .aload_n 3, 1), (87, .getfield 163, 3), (90, .ireturn, 1), (91, .aload_n 3, 1), (92, .getfield 172, 3), (95, .ireturn, 1), (96, .aload_n 3, 1), (97, .invokevirtual 237, 3), (100, .ireturn, 1), (101, .aload_n 0, 1), (102, .aload_n 3, 1), (103, .invokevirtual 138, 3), (106, .ireturn, 1), (107, .new 194, 3), (110, .dup, 1), (111, .ldc 241, 2), (113, .invokespecial 198, 3), (116, .athrow, 1)]
def zT_X2_packed : List (Nat × Instr × Nat) := [(0, .aload_n 0, 1), (1, .iload_n 1, 1), (2, .invokevirtual 121, 3), (5, .invokevirtual 243, 3), (8, .lreturn, 1)]
def zT_X2_count : List (Nat × Instr × Nat) := [(0, .iload_n 1, 1), (1, .tableswitch 63 0 4 #[35, 40, 45, 50, 58], 35), (36, .aload_n 0, 1), (37, .getfield 39, 3), (40, .ireturn, 1), (41, .aload_n 0, 1), (42, .invokevirtual 247, 3), (45, .ireturn, 1), (46, .aload_n 0, 1), (47, .getfield 35, 3), (50, .ireturn, 1), (51, .aload_n 0, 1), (52, .getfield 31, 3), (55, .getfield 250, 3), (58, .ireturn, 1), (59, .aload_n 0, 1), (60, .getfield 45, 3), (63, .ireturn, 1), (64, .iconst (-1), 1), (65, .ireturn, 1)]
def zT_X2_isWithin : List (Nat × Instr × Nat) := [(0, .iload_n 0, 1), (1, .iload_n 1, 1), (2, .if_icmp .lt 12, 3), (5, .iload_n 0, 1), (6, .iload_n 2, 1), (7, .if_icmp .gt 7, 3), (10, .iconst 1, 1), (11, .goto 4, 3), (14, .iconst 0, 1), (15, .ireturn, 1)]
def zT_X2_checkRange : List (Nat × Instr × Nat) := [(0, .iload_n 0, 1), (1, .iload_n 1, 1), (2, .iload_n 2, 1), (3, .invokestatic 82, 3), (6, .ifCond .ne 13, 3), (9, .new 194, 3), (12, .dup, 1), (13, .ldc 253, 2), (15, .invokespecial 198, 3), (18, .athrow, 1), (19, .return_, 1)]
def zT_X2_checkPlace : List (Nat × Instr × Nat) := [(0, .iload_n 0, 1), (1, .iconst 0, 1), (2, .bipush 15, 2), (4, .invokestatic 58, 3), (7, .return_, 1)]
def zT_X2_checkStands : List (Nat × Instr × Nat) := [(0, .aload_n 0, 1), (1, .invokevirtual 255, 3), (4, .ifCond .ne 14, 3), (7, .new 72, 3), (10, .dup, 1), (11, .ldc_w 259, 3), (14, .invokespecial 76, 3), (17, .athrow, 1), (18, .return_, 1)]
def zT_X2_unitOf : List (Nat × Instr × Nat) := [(0, .iload_n 1, 1), (1, .iconst 0, 1), (2, .aload_n 0, 1), (3, .getfield 39, 3), (6, .iconst 1, 1), (7, .isub, 1), (8, .invokestatic 82, 3), (11, .ifCond .ne 14, 3), (14, .new 86, 3), (17, .dup, 1), (18, .ldc_w 261, 3), (21, .invokespecial 90, 3), (24, .athrow, 1), (25, .aload_n 0, 1), (26, .getfield 24, 3), (29, .iload_n 1, 1), (30, .aaload, 1), (31, .areturn, 1)]
def zT_X2_needRows : List (Nat × Instr × Nat) := [(0, .aload_n 0, 1), (1, .getfield 31, 3), (4, .iload_n 1, 1), (5, .invokevirtual 263, 3), (8, .ifCond .ne 14, 3), (11, .new 77, 3), (14, .dup, 1), (15, .ldc_w 266, 3), (18, .invokespecial 81, 3), (21, .athrow, 1), (22, .return_, 1)]
def zT_X2_needSpace : List (Nat × Instr × Nat) := [(0, .iload_n 1, 1), (1, .iconst 0, 1), (2, .bipush 15, 2), (4, .invokestatic 82, 3), (7, .ifCond .eq 19, 3), (10, .aload_n 0, 1), (11, .iload_n 1, 1), (12, .invokevirtual 68, 3), (15, .iload_n 2, 1), (16, .iadd, 1), (17, .aload_n 0, 1), (18, .getfield 9, 3), (21, .iload_n 1, 1), (22, .iaload, 1), (23, .if_icmp .le 14, 3), (26, .new 77, 3), (29, .dup, 1), (30, .ldc_w 268, 3), (33, .invokespecial 81, 3), (36, .athrow, 1), (37, .return_, 1)]
def zT_X2_nextUnit : List (Nat × Instr × Nat) := [(0, .aload_n 0, 1), (1, .getfield 39, 3), (4, .aload_n 0, 1), (5, .getfield 42, 3), (8, .if_icmp .ge 12, 3), (11, .aload_n 0, 1), (12, .getfield 39, 3), (15, .bipush 64, 2), (17, .if_icmp .lt 14, 3), (20, .new 77, 3), (23, .dup, 1), (24, .ldc_w 270, 3), (27, .invokespecial 81, 3), (30, .athrow, 1), (31, .aload_n 0, 1), (32, .getfield 24, 3), (35, .aload_n 0, 1), (36, .getfield 39, 3), (39, .aaload, 1), (40, .astore_n 1, 1), (41, .aload_n 0, 1), (42, .dup, 1), (43, .getfield 39, 3), (46, .iconst 1, 1), (47, .iadd, 1), (48, .putfield 39, 3), (51, .aload_n 1, 1), (52, .areturn, 1)]
def zT_X2_addRow : List (Nat × Instr × Nat) := [(0, .aload_n 0, 1), (1, .getfield 31, 3), (4, .aload_n 1, 1), (5, .getfield 118, 3), (8, .iload_n 2, 1), (9, .aload_n 0, 1), (10, .getfield 45, 3), (13, .iload_n 3, 1), (14, .invokevirtual 272, 3), (17, .return_, 1)]
def zT_X2_gramsOf : List (Nat × Instr × Nat) := [(0, .iload_n 1, 1), (1, .iconst 0, 1), (2, .bipush 7, 2), (4, .invokestatic 82, 3), (7, .ifCond .eq 12, 3), (10, .aload_n 0, 1), (11, .getfield 13, 3), (14, .iload_n 1, 1), (15, .iaload, 1), (16, .goto 4, 3), (19, .iconst 0, 1), (20, .ireturn, 1)]
def zT_X2_unitsAt : List (Nat × Instr × Nat) := [(0, .iconst 0, 1), (1, .istore_n 2, 1), (2, .iconst 0, 1), (3, .istore_n 3, 1), (4, .iload_n 3, 1), (5, .aload_n 0, 1), (6, .getfield 39, 3), (9, .if_icmp .ge 25, 3), (12, .aload_n 0, 1), (13, .getfield 24, 3), (16, .iload_n 3, 1), (17, .aaload, 1), (18, .getfield 129, 3), (21, .iload_n 1, 1), (22, .if_icmp .ne 6, 3), (25, .iinc 2 1, 3), (28, .iinc 3 1, 3), (31, .goto (-27), 3), (34, .iload_n 2, 1), (35, .ireturn, 1)]
def zT_X2_unitsStanding : List (Nat × Instr × Nat) := [(0, .iconst 0, 1), (1, .istore_n 1, 1), (2, .iconst 0, 1), (3, .istore_n 2, 1), (4, .iload_n 2, 1), (5, .aload_n 0, 1), (6, .getfield 39, 3), (9, .if_icmp .ge 24, 3), (12, .aload_n 0, 1), (13, .getfield 24, 3), (16, .iload_n 2, 1), (17, .aaload, 1), (18, .invokevirtual 255, 3), (21, .ifCond .eq 6, 3), (24, .iinc 1 1, 3), (27, .iinc 2 1, 3), (30, .goto (-26), 3), (33, .iload_n 1, 1), (34, .ireturn, 1)]
def zT_X2_unitsWithin : List (Nat × Instr × Nat) := [(0, .iconst 0, 1), (1, .istore_n 2, 1), (2, .iconst 0, 1), (3, .istore_n 3, 1), (4, .iload_n 3, 1), (5, .aload_n 0, 1), (6, .getfield 39, 3), (9, .if_icmp .ge 25, 3), (12, .aload_n 0, 1), (13, .getfield 24, 3), (16, .iload_n 3, 1), (17, .aaload, 1), (18, .aload_n 1, 1), (19, .invokevirtual 276, 3), (22, .ifCond .eq 6, 3), (25, .iinc 2 1, 3), (28, .iinc 3 1, 3), (31, .goto (-27), 3), (34, .iload_n 2, 1), (35, .ireturn, 1)]
def zT_X2_levels : List (Nat × Instr × Nat) := [(0, .aload_n 1, 1), (1, .invokevirtual 237, 3), (4, .istore_n 2, 1), (5, .iconst 0, 1), (6, .istore_n 3, 1), (7, .iload_n 3, 1), (8, .aload_n 0, 1), (9, .getfield 39, 3), (12, .if_icmp .ge 36, 3), (15, .aload_n 0, 1), (16, .getfield 24, 3), (19, .iload_n 3, 1), (20, .aaload, 1), (21, .aload_n 1, 1), (22, .invokevirtual 276, 3), (25, .ifCond .eq 17, 3), (28, .iload_n 2, 1), (29, .aload_n 0, 1), (30, .getfield 24, 3), (33, .iload_n 3, 1), (34, .aaload, 1), (35, .invokevirtual 237, 3), (38, .invokestatic 279, 3), (41, .istore_n 2, 1), (42, .iinc 3 1, 3), (45, .goto (-38), 3), (48, .iload_n 2, 1), (49, .aload_n 1, 1), (50, .invokevirtual 237, 3), (53, .isub, 1), (54, .iconst 1, 1), (55, .iadd, 1), (56, .ireturn, 1)]
def zT_X2_carry : List (Nat × Instr × Nat) := [(0, .iconst 0, 1), (1, .istore_n 3, 1), (2, .iload_n 3, 1), (3, .aload_n 0, 1), (4, .getfield 39, 3), (7, .if_icmp .ge 42, 3), (10, .aload_n 0, 1), (11, .getfield 24, 3), (14, .iload_n 3, 1), (15, .aaload, 1), (16, .aload_n 1, 1), (17, .if_acmp .eq 16, 3), (20, .aload_n 0, 1), (21, .getfield 24, 3), (24, .iload_n 3, 1), (25, .aaload, 1), (26, .aload_n 1, 1), (27, .invokevirtual 276, 3), (30, .ifCond .eq 13, 3), (33, .aload_n 0, 1), (34, .getfield 24, 3), (37, .iload_n 3, 1), (38, .aaload, 1), (39, .iload_n 2, 1), (40, .putfield 129, 3), (43, .iinc 3 1, 3), (46, .goto (-44), 3), (49, .return_, 1)]
def zT_X2_takeAway : List (Nat × Instr × Nat) := [(0, .iconst 0, 1), (1, .istore_n 3, 1), (2, .iload_n 3, 1), (3, .aload_n 0, 1), (4, .getfield 39, 3), (7, .if_icmp .ge 52, 3), (10, .aload_n 0, 1), (11, .getfield 24, 3), (14, .iload_n 3, 1), (15, .aaload, 1), (16, .aload_n 1, 1), (17, .if_acmp .eq 16, 3), (20, .aload_n 0, 1), (21, .getfield 24, 3), (24, .iload_n 3, 1), (25, .aaload, 1), (26, .aload_n 1, 1), (27, .invokevirtual 276, 3), (30, .ifCond .eq 23, 3), (33, .aload_n 0, 1), (34, .getfield 24, 3), (37, .iload_n 3, 1), (38, .aaload, 1), (39, .iload_n 2, 1), (40, .putfield 175, 3), (43, .aload_n 0, 1), (44, .getfield 24, 3), (47, .iload_n 3, 1), (48, .aaload, 1), (49, .iconst (-1), 1), (50, .putfield 129, 3), (53, .iinc 3 1, 3), (56, .goto (-54), 3), (59, .iconst 0, 1), (60, .istore_n 3, 1), (61, .iload_n 3, 1), (62, .aload_n 0, 1), (63, .getfield 39, 3), (66, .if_icmp .ge 31, 3), (69, .aload_n 0, 1), (70, .getfield 24, 3), (73, .iload_n 3, 1), (74, .aaload, 1), (75, .invokevirtual 255, 3), (78, .ifCond .ne 13, 3), (81, .aload_n 0, 1), (82, .getfield 24, 3), (85, .iload_n 3, 1), (86, .aaload, 1), (87, .aconst_null, 1), (88, .putfield 132, 3), (91, .iinc 3 1, 3), (94, .goto (-33), 3), (97, .return_, 1)]
def zT_X2_canLieIn : List (Nat × Instr × Nat) := [(0, .aload_n 1, 1), (1, .invokevirtual 255, 3), (4, .ifCond .eq 60, 3), (7, .aload_n 2, 1), (8, .invokevirtual 255, 3), (11, .ifCond .eq 53, 3), (14, .aload_n 1, 1), (15, .getfield 129, 3), (18, .aload_n 2, 1), (19, .getfield 129, 3), (22, .if_icmp .ne 42, 3), (25, .aload_n 1, 1), (26, .getfield 132, 3), (29, .aload_n 2, 1), (30, .if_acmp .eq 34, 3), (33, .aload_n 1, 1), (34, .aload_n 2, 1), (35, .if_acmp .eq 29, 3), (38, .aload_n 2, 1), (39, .aload_n 1, 1), (40, .invokevirtual 276, 3), (43, .ifCond .ne 21, 3), (46, .aload_n 2, 1), (47, .invokevirtual 237, 3), (50, .aload_n 0, 1), (51, .aload_n 1, 1), (52, .invokevirtual 284, 3), (55, .iadd, 1), (56, .iconst 5, 1), (57, .if_icmp .gt 7, 3), (60, .iconst 1, 1), (61, .goto 4, 3), (64, .iconst 0, 1), (65, .ireturn, 1)]
def zT_X2_canJoin : List (Nat × Instr × Nat) := [(0, .aload_n 1, 1), (1, .aload_n 2, 1), (2, .if_acmp .eq 60, 3), (5, .aload_n 1, 1), (6, .invokevirtual 255, 3), (9, .ifCond .eq 53, 3), (12, .aload_n 2, 1), (13, .invokevirtual 255, 3), (16, .ifCond .eq 46, 3), (19, .aload_n 1, 1), (20, .aload_n 2, 1), (21, .invokevirtual 287, 3), (24, .ifCond .eq 38, 3), (27, .aload_n 0, 1), (28, .aload_n 1, 1), (29, .invokevirtual 157, 3), (32, .ifCond .eq 30, 3), (35, .aload_n 0, 1), (36, .aload_n 2, 1), (37, .invokevirtual 157, 3), (40, .ifCond .eq 22, 3), (43, .aload_n 1, 1), (44, .getfield 154, 3), (47, .aload_n 2, 1), (48, .getfield 154, 3), (51, .iadd, 1), (52, .sipush 1000, 3), (55, .if_icmp .gt 7, 3), (58, .iconst 1, 1), (59, .goto 4, 3), (62, .iconst 0, 1), (63, .ireturn, 1)]
def zT_X2_isPlain : List (Nat × Instr × Nat) := [(0, .aload_n 1, 1), (1, .getfield 199, 3), (4, .lconst 0, 1), (5, .lcmp, 1), (6, .ifCond .ne 15, 3), (9, .aload_n 0, 1), (10, .aload_n 1, 1), (11, .invokevirtual 138, 3), (14, .ifCond .ne 7, 3), (17, .iconst 1, 1), (18, .goto 4, 3), (21, .iconst 0, 1), (22, .ireturn, 1)]
def zT_X2_isSerialInUse : List (Nat × Instr × Nat) := [(0, .iconst 0, 1), (1, .istore_n 3, 1), (2, .iload_n 3, 1), (3, .aload_n 0, 1), (4, .getfield 39, 3), (7, .if_icmp .ge 38, 3), (10, .aload_n 0, 1), (11, .getfield 24, 3), (14, .iload_n 3, 1), (15, .aaload, 1), (16, .getfield 199, 3), (19, .lload_n 1, 1), (20, .lcmp, 1), (21, .ifCond .ne 18, 3), (24, .aload_n 0, 1), (25, .getfield 24, 3), (28, .iload_n 3, 1), (29, .aaload, 1), (30, .getfield 175, 3), (33, .iconst 5, 1), (34, .if_icmp .eq 5, 3), (37, .iconst 1, 1), (38, .ireturn, 1), (39, .iinc 3 1, 3), (42, .goto (-40), 3), (45, .iconst 0, 1), (46, .ireturn, 1)]
def zT_X3_init : List (Nat × Instr × Nat) := [(0, .aload_n 0, 1), (1, .invokespecial 1, 3), (4, .aload_n 0, 1), (5, .bipush 16, 2), (7, .newarray .int, 2), (9, .putfield 7, 3), (12, .aload_n 0, 1), (13, .bipush 8, 2), (15, .newarray .int, 2), (17, .putfield 13, 3), (20, .aload_n 0, 1), (21, .bipush 16, 2), (23, .newarray .int, 2), (25, .putfield 16, 3), (28, .aload_n 0, 1), (29, .bipush 16, 2), (31, .newarray .int, 2), (33, .putfield 19, 3), (36, .aload_n 0, 1), (37, .bipush 64, 2), (39, .putfield 22, 3), (42, .aload_n 0, 1), (43, .bipush 64, 2), (45, .newarray .int, 2), (47, .putfield 26, 3), (50, .aload_n 0, 1), (51, .bipush 64, 2), (53, .newarray .int, 2), (55, .putfield 29, 3), (58, .aload_n 0, 1), (59, .bipush 64, 2), (61, .newarray .int, 2), (63, .putfield 32, 3), (66, .aload_n 0, 1), (67, .bipush 64, 2), (69, .newarray .int, 2), (71, .putfield 35, 3), (74, .aload_n 0, 1), (75, .bipush 64, 2), (77, .newarray .int, 2), (79, .putfield 38, 3), (82, .aload_n 0, 1), (83, .bipush 64, 2), (85, .newarray .int, 2), (87, .putfield 41, 3), (90, .aload_n 0, 1), (91, .bipush 64, 2), (93, .newarray .long, 2), (95, .putfield 44, 3), (98, .aload_n 0, 1), (99, .sipush 400, 3), (102, .newarray .int, 2), (104, .putfield 48, 3), (107, .aload_n 0, 1), (108, .sipush 400, 3), (111, .newarray .int, 2), (113, .putfield 51, 3), (116, .aload_n 0, 1), (117, .sipush 400, 3), (120, .newarray .int, 2), (122, .putfield 54, 3), (125, .aload_n 0, 1), (126, .sipush 400, 3), (129, .newarray .int, 2), (131, .putfield 57, 3), (134, .aload_n 0, 1), (135, .bipush 64, 2), (137, .newarray .boolean, 2), (139, .putfield 60, 3), (142, .iconst 0, 1), (143, .istore_n 1, 1), (144, .iload_n 1, 1), (145, .bipush 16, 2), (147, .if_icmp .ge 17, 3), (150, .aload_n 0, 1), (151, .getfield 7, 3), (154, .iload_n 1, 1), (155, .bipush 20, 2), (157, .iastore, 1), (158, .iinc 1 1, 3), (161, .goto (-17), 3), (164, .iconst 0, 1), (165, .istore_n 1, 1), (166, .iload_n 1, 1), (167, .bipush 8, 2), (169, .if_icmp .ge 17, 3), (172, .aload_n 0, 1), (173, .getfield 13, 3), (176, .iload_n 1, 1), (177, .bipush 100, 2), (179, .iastore, 1), (180, .iinc 1 1, 3), (183, .goto (-17), 3), (186, .return_, 1)]
def zT_X3_thrown : List (Nat × Instr × Nat) := [(0, .aload_n 0, 1), (1, .getfield 64, 3), (4, .ireturn, 1)]
def zT_X3_in : List (Nat × Instr × Nat) := [(0, .lload_n 0, 1), (1, .lload_n 2, 1), (2, .lcmp, 1), (3, .ifCond .lt 14, 3), (6, .lload_n 0, 1), (7, .lload 4, 2), (9, .lcmp, 1), (10, .ifCond .gt 7, 3), (13, .iconst 1, 1), (14, .goto 4, 3), (17, .iconst 0, 1), (18, .ireturn, 1)]
def zT_X3_isUnit : List (Nat × Instr × Nat) := [(0, .iload_n 1, 1), (1, .i2l, 1), (2, .lconst 0, 1), (3, .aload_n 0, 1), (4, .getfield 67, 3), (7, .iconst 1, 1), (8, .isub, 1), (9, .i2l, 1), (10, .invokestatic 70, 3), (13, .ireturn, 1)]
def zT_X3_stands : List (Nat × Instr × Nat) := [(0, .aload_n 0, 1), (1, .getfield 35, 3), (4, .iload_n 1, 1), (5, .iaload, 1), (6, .iconst 4, 1), (7, .if_icmp .eq 17, 3), (10, .aload_n 0, 1), (11, .getfield 35, 3), (14, .iload_n 1, 1), (15, .iaload, 1), (16, .iconst 5, 1), (17, .if_icmp .eq 7, 3), (20, .iconst 1, 1), (21, .goto 4, 3), (24, .iconst 0, 1), (25, .ireturn, 1)]
def zT_X3_rows : List (Nat × Instr × Nat) := [(0, .aload_n 0, 1), (1, .iload_n 1, 1), (2, .ifCond .ge 7, 3), (5, .iconst 1, 1), (6, .goto 14, 3), (9, .iload_n 1, 1), (10, .bipush 64, 2), (12, .if_icmp .le 7, 3), (15, .iconst 2, 1), (16, .goto 4, 3), (19, .iconst 0, 1), (20, .putfield 64, 3), (23, .aload_n 0, 1), (24, .getfield 64, 3), (27, .ifCond .le 4, 3), (30, .return_, 1), (31, .aload_n 0, 1), (32, .iload_n 1, 1), (33, .putfield 22, 3), (36, .aload_n 0, 1), (37, .iconst 0, 1), (38, .putfield 67, 3), (41, .aload_n 0, 1), (42, .iconst 0, 1), (43, .putfield 74, 3), (46, .return_, 1)]
def zT_X3_standingAt : List (Nat × Instr × Nat) := [(0, .iconst 0, 1), (1, .istore_n 2, 1), (2, .iconst 0, 1), (3, .istore_n 3, 1), (4, .iload_n 3, 1), (5, .aload_n 0, 1), (6, .getfield 67, 3), (9, .if_icmp .ge 35, 3), (12, .iload_n 2, 1), (13, .aload_n 0, 1), (14, .iload_n 3, 1), (15, .invokevirtual 77, 3), (18, .ifCond .eq 17, 3), (21, .aload_n 0, 1), (22, .getfield 38, 3), (25, .iload_n 3, 1), (26, .iaload, 1), (27, .iload_n 1, 1), (28, .if_icmp .ne 7, 3), (31, .iconst 1, 1), (32, .goto 4, 3), (35, .iconst 0, 1), (36, .iadd, 1), (37, .istore_n 2, 1), (38, .iinc 3 1, 3), (41, .goto (-37), 3), (44, .iload_n 2, 1), (45, .ireturn, 1)]
def zT_X3_place : List (Nat × Instr × Nat) := [(0, .aload_n 0, 1), (1, .iload_n 1, 1), (2, .i2l, 1), (3, .lconst 0, 1), (4, .ldc2_w 81, 3), (7, .invokestatic 70, 3), (10, .ifCond .eq 15, 3), (13, .iload_n 2, 1), (14, .i2l, 1), (15, .lconst 0, 1), (16, .ldc2_w 83, 3), (19, .invokestatic 70, 3), (22, .ifCond .ne 7, 3), (25, .iconst 1, 1), (26, .goto 17, 3), (29, .aload_n 0, 1), (30, .iload_n 1, 1), (31, .invokevirtual 85, 3), (34, .iload_n 2, 1), (35, .if_icmp .le 7, 3), (38, .iconst 2, 1), (39, .goto 4, 3), (42, .iconst 0, 1), (43, .putfield 64, 3), (46, .aload_n 0, 1), (47, .getfield 64, 3), (50, .ifCond .ne 10, 3), (53, .aload_n 0, 1), (54, .getfield 7, 3), (57, .iload_n 1, 1), (58, .iload_n 2, 1), (59, .iastore, 1), (60, .return_, 1)]
def zT_X3_good : List (Nat × Instr × Nat) := [(0, .aload_n 0, 1), (1, .iload_n 1, 1), (2, .i2l, 1), (3, .lconst 0, 1), (4, .ldc2_w 89, 3), (7, .invokestatic 70, 3), (10, .ifCond .eq 19, 3), (13, .iload_n 2, 1), (14, .i2l, 1), (15, .lconst 1, 1), (16, .ldc2_w 91, 3), (19, .invokestatic 70, 3), (22, .ifCond .eq 7, 3), (25, .iconst 0, 1), (26, .goto 4, 3), (29, .iconst 1, 1), (30, .putfield 64, 3), (33, .aload_n 0, 1), (34, .getfield 64, 3), (37, .ifCond .ne 10, 3), (40, .aload_n 0, 1), (41, .getfield 13, 3), (44, .iload_n 1, 1), (45, .iload_n 2, 1), (46, .iastore, 1), (47, .return_, 1)]
def zT_X3_lot : List (Nat × Instr × Nat) := [(0, .aload_n 0, 1), (1, .iload_n 1, 1), (2, .i2l, 1), (3, .lconst 0, 1), (4, .ldc2_w 89, 3), (7, .invokestatic 70, 3), (10, .ifCond .eq 15, 3), (13, .iload_n 2, 1), (14, .i2l, 1), (15, .lconst 0, 1), (16, .ldc2_w 93, 3), (19, .invokestatic 70, 3), (22, .ifCond .ne 7, 3), (25, .iconst 1, 1), (26, .goto 17, 3), (29, .aload_n 0, 1), (30, .getfield 95, 3), (33, .bipush 16, 2), (35, .if_icmp .ne 7, 3), (38, .iconst 2, 1), (39, .goto 4, 3), (42, .iconst 0, 1), (43, .putfield 64, 3), (46, .aload_n 0, 1), (47, .getfield 64, 3), (50, .ifCond .le 5, 3), (53, .iconst 0, 1), (54, .ireturn, 1), (55, .aload_n 0, 1), (56, .getfield 16, 3), (59, .aload_n 0, 1), (60, .getfield 95, 3), (63, .iload_n 1, 1), (64, .iastore, 1), (65, .aload_n 0, 1), (66, .getfield 19, 3), (69, .aload_n 0, 1), (70, .getfield 95, 3), (73, .iload_n 2, 1), (74, .iastore, 1), (75, .aload_n 0, 1), (76, .dup, 1), (77, .getfield 95, 3), (80, .iconst 1, 1), (81, .iadd, 1), (82, .putfield 95, 3), (85, .aload_n 0, 1), (86, .getfield 95, 3), (89, .iconst 1, 1), (90, .isub, 1), (91, .ireturn, 1)]
def zT_X3_isOver : List (Nat × Instr × Nat) := [(0, .aload_n 0, 1), (1, .getfield 98, 3), (4, .aload_n 0, 1), (5, .getfield 19, 3), (8, .iload_n 1, 1), (9, .iaload, 1), (10, .if_icmp .le 7, 3), (13, .iconst 1, 1), (14, .goto 4, 3), (17, .iconst 0, 1), (18, .ireturn, 1)]
def zT_X3_act : List (Nat × Instr × Nat) := [(0, .aload_n 0, 1), (1, .getfield 48, 3), (4, .aload_n 0, 1), (5, .getfield 74, 3), (8, .iload_n 1, 1), (9, .iastore, 1), (10, .aload_n 0, 1), (11, .getfield 51, 3), (14, .aload_n 0, 1), (15, .getfield 74, 3), (18, .iload_n 2, 1), (19, .iastore, 1), (20, .aload_n 0, 1), (21, .getfield 54, 3), (24, .aload_n 0, 1), (25, .getfield 74, 3), (28, .aload_n 0, 1), (29, .getfield 98, 3), (32, .iastore, 1), (33, .aload_n 0, 1), (34, .getfield 57, 3), (37, .aload_n 0, 1), (38, .getfield 74, 3), (41, .iload_n 3, 1), (42, .iastore, 1), (43, .aload_n 0, 1), (44, .dup, 1), (45, .getfield 74, 3), (48, .iconst 1, 1), (49, .iadd, 1), (50, .putfield 74, 3), (53, .return_, 1)]
def zT_X3_make : List (Nat × Instr × Nat) := [(0, .aload_n 0, 1), (1, .getfield 67, 3), (4, .istore 7, 2), (6, .aload_n 0, 1), (7, .getfield 26, 3), (10, .iload 7, 2), (12, .iload_n 1, 1), (13, .iastore, 1), (14, .aload_n 0, 1), (15, .getfield 38, 3), (18, .iload 7, 2), (20, .iload_n 2, 1), (21, .iastore, 1), (22, .aload_n 0, 1), (23, .getfield 29, 3), (26, .iload 7, 2), (28, .iload_n 3, 1), (29, .iastore, 1), (30, .aload_n 0, 1), (31, .getfield 32, 3), (34, .iload 7, 2), (36, .iload 4, 2), (38, .iastore, 1), (39, .aload_n 0, 1), (40, .getfield 35, 3), (43, .iload 7, 2), (45, .iload 5, 2), (47, .iastore, 1), (48, .aload_n 0, 1), (49, .getfield 41, 3), (52, .iload 7, 2), (54, .iload 6, 2), (56, .iastore, 1), (57, .aload_n 0, 1), (58, .getfield 44, 3), (61, .iload 7, 2), (63, .lconst 0, 1), (64, .lastore, 1), (65, .aload_n 0, 1), (66, .dup, 1), (67, .getfield 67, 3), (70, .iconst 1, 1), (71, .iadd, 1), (72, .putfield 67, 3), (75, .aload_n 0, 1), (76, .iload 7, 2), (78, .iconst 1, 1), (79, .iload_n 2, 1), (80, .invokevirtual 101, 3), (83, .iload 7, 2), (85, .ireturn, 1)]
def zT_X3_unit : List (Nat × Instr × Nat) := [(0, .aload_n 0, 1), (1, .iload_n 1, 1), (2, .i2l, 1), (3, .lconst 0, 1), (4, .aload_n 0, 1), (5, .getfield 95, 3), (8, .iconst 1, 1), (9, .isub, 1), (10, .i2l, 1), (11, .invokestatic 70, 3), (14, .ifCond .ne 7, 3), (17, .iconst 1, 1), (18, .goto 45, 3), (21, .iload_n 2, 1), (22, .i2l, 1), (23, .lconst 0, 1), (24, .ldc2_w 81, 3), (27, .invokestatic 70, 3), (30, .ifCond .eq 28, 3), (33, .iload_n 3, 1), (34, .i2l, 1), (35, .lconst 0, 1), (36, .ldc2_w 89, 3), (39, .invokestatic 70, 3), (42, .ifCond .eq 16, 3), (45, .iload 4, 2), (47, .i2l, 1), (48, .lconst 1, 1), (49, .ldc2_w 93, 3), (52, .invokestatic 70, 3), (55, .ifCond .ne 7, 3), (58, .iconst 2, 1), (59, .goto 4, 3), (62, .iconst 0, 1), (63, .putfield 64, 3), (66, .aload_n 0, 1), (67, .getfield 64, 3), (70, .ifCond .ne 43, 3), (73, .aload_n 0, 1), (74, .getfield 67, 3), (77, .aload_n 0, 1), (78, .getfield 22, 3), (81, .if_icmp .eq 27, 3), (84, .aload_n 0, 1), (85, .getfield 74, 3), (88, .sipush 400, 3), (91, .if_icmp .eq 17, 3), (94, .aload_n 0, 1), (95, .iload_n 2, 1), (96, .invokevirtual 85, 3), (99, .aload_n 0, 1), (100, .getfield 7, 3), (103, .iload_n 2, 1), (104, .iaload, 1), (105, .if_icmp .ne 8, 3), (108, .aload_n 0, 1), (109, .iconst 3, 1), (110, .putfield 64, 3), (113, .aload_n 0, 1), (114, .getfield 64, 3), (117, .ifCond .le 7, 3), (120, .iconst 0, 1), (121, .goto 26, 3), (124, .aload_n 0, 1), (125, .iload_n 1, 1), (126, .iload_n 2, 1), (127, .iload_n 3, 1), (128, .iload 4, 2), (130, .aload_n 0, 1), (131, .iload_n 1, 1), (132, .invokevirtual 105, 3), (135, .ifCond .eq 7, 3), (138, .iconst 3, 1), (139, .goto 4, 3), (142, .iconst 0, 1), (143, .iconst (-1), 1), (144, .invokevirtual 108, 3), (147, .ireturn, 1)]
def zT_X3_isIn : List (Nat × Instr × Nat) := [(0, .aload_n 0, 1), (1, .getfield 41, 3), (4, .iload_n 1, 1), (5, .iaload, 1), (6, .istore_n 3, 1), (7, .iload_n 3, 1), (8, .iconst (-1), 1), (9, .if_icmp .eq 18, 3), (12, .iload_n 3, 1), (13, .iload_n 2, 1), (14, .if_icmp .eq 13, 3), (17, .aload_n 0, 1), (18, .getfield 41, 3), (21, .iload_n 3, 1), (22, .iaload, 1), (23, .istore_n 3, 1), (24, .goto (-17), 3), (27, .iload_n 3, 1), (28, .iload_n 2, 1), (29, .if_icmp .ne 7, 3), (32, .iconst 1, 1), (33, .goto 4, 3), (36, .iconst 0, 1), (37, .ireturn, 1)]
def zT_X3_load : List (Nat × Instr × Nat) := [(0, .iconst 0, 1), (1, .istore_n 2, 1), (2, .iconst 0, 1), (3, .istore_n 3, 1), (4, .iload_n 3, 1), (5, .aload_n 0, 1), (6, .getfield 67, 3), (9, .if_icmp .ge 31, 3), (12, .iload_n 2, 1), (13, .iload_n 3, 1), (14, .iload_n 1, 1), (15, .if_icmp .eq 16, 3), (18, .aload_n 0, 1), (19, .iload_n 3, 1), (20, .iload_n 1, 1), (21, .invokevirtual 112, 3), (24, .ifCond .eq 7, 3), (27, .iconst 1, 1), (28, .goto 4, 3), (31, .iconst 0, 1), (32, .iadd, 1), (33, .istore_n 2, 1), (34, .iinc 3 1, 3), (37, .goto (-33), 3), (40, .iload_n 2, 1), (41, .ireturn, 1)]
def zT_X3_depth : List (Nat × Instr × Nat) := [(0, .iconst 1, 1), (1, .istore_n 2, 1), (2, .aload_n 0, 1), (3, .getfield 41, 3), (6, .iload_n 1, 1), (7, .iaload, 1), (8, .istore_n 3, 1), (9, .iload_n 3, 1), (10, .iconst (-1), 1), (11, .if_icmp .eq 16, 3), (14, .iinc 2 1, 3), (17, .aload_n 0, 1), (18, .getfield 41, 3), (21, .iload_n 3, 1), (22, .iaload, 1), (23, .istore_n 3, 1), (24, .goto (-15), 3), (27, .iload_n 2, 1), (28, .ireturn, 1)]
def zT_X3_move : List (Nat × Instr × Nat) := [(0, .aload_n 0, 1), (1, .aload_n 0, 1), (2, .iload_n 1, 1), (3, .invokevirtual 116, 3), (6, .ifCond .ne 7, 3), (9, .iconst 1, 1), (10, .goto 20, 3), (13, .iload_n 2, 1), (14, .i2l, 1), (15, .lconst 0, 1), (16, .ldc2_w 81, 3), (19, .invokestatic 70, 3), (22, .ifCond .ne 7, 3), (25, .iconst 2, 1), (26, .goto 4, 3), (29, .iconst 0, 1), (30, .putfield 64, 3), (33, .aload_n 0, 1), (34, .getfield 64, 3), (37, .ifCond .ne 36, 3), (40, .aload_n 0, 1), (41, .iload_n 1, 1), (42, .invokevirtual 77, 3), (45, .ifCond .eq 23, 3), (48, .aload_n 0, 1), (49, .getfield 38, 3), (52, .iload_n 1, 1), (53, .iaload, 1), (54, .iload_n 2, 1), (55, .if_icmp .ne 18, 3), (58, .aload_n 0, 1), (59, .getfield 41, 3), (62, .iload_n 1, 1), (63, .iaload, 1), (64, .iconst (-1), 1), (65, .if_icmp .ne 8, 3), (68, .aload_n 0, 1), (69, .iconst 3, 1), (70, .putfield 64, 3), (73, .aload_n 0, 1), (74, .getfield 64, 3), (77, .ifCond .ne 50, 3), (80, .aload_n 0, 1), (81, .getfield 74, 3), (84, .sipush 400, 3), (87, .if_icmp .eq 35, 3), (90, .aload_n 0, 1), (91, .getfield 38, 3), (94, .iload_n 1, 1), (95, .iaload, 1), (96, .iload_n 2, 1), (97, .if_icmp .eq 30, 3), (100, .aload_n 0, 1), (101, .iload_n 2, 1), (102, .invokevirtual 85, 3), (105, .iconst 1, 1), (106, .iadd, 1), (107, .aload_n 0, 1), (108, .iload_n 1, 1), (109, .invokevirtual 119, 3), (112, .iadd, 1), (113, .aload_n 0, 1), (114, .getfield 7, 3), (117, .iload_n 2, 1), (118, .iaload, 1), (119, .if_icmp .le 8, 3), (122, .aload_n 0, 1), (123, .iconst 4, 1), (124, .putfield 64, 3), (127, .aload_n 0, 1), (128, .getfield 64, 3), (131, .ifCond .le 4, 3), (134, .return_, 1), (135, .iconst 0, 1), (136, .istore_n 3, 1), (137, .iload_n 3, 1), (138, .aload_n 0, 1), (139, .getfield 67, 3), (142, .if_icmp .ge 25, 3), (145, .aload_n 0, 1), (146, .iload_n 3, 1), (147, .iload_n 1, 1), (148, .invokevirtual 112, 3), (151, .ifCond .eq 10, 3), (154, .aload_n 0, 1), (155, .getfield 38, 3), (158, .iload_n 3, 1), (159, .iload_n 2, 1), (160, .iastore, 1), (161, .iinc 3 1, 3), (164, .goto (-27), 3), (167, .aload_n 0, 1), (168, .getfield 38, 3), (171, .iload_n 1, 1), (172, .iload_n 2, 1), (173, .iastore, 1), (174, .aload_n 0, 1), (175, .getfield 41, 3), (178, .iload_n 1, 1), (179, .iconst (-1), 1), (180, .iastore, 1), (181, .aload_n 0, 1), (182, .iload_n 1, 1), (183, .iconst 2, 1), (184, .iload_n 2, 1), (185, .invokevirtual 101, 3), (188, .return_, 1)]
def zT_X3_tall : List (Nat × Instr × Nat) := [(0, .iconst 1, 1), (1, .istore_n 2, 1), (2, .iconst 0, 1), (3, .istore_n 3, 1), (4, .iload_n 3, 1), (5, .aload_n 0, 1), (6, .getfield 67, 3), (9, .if_icmp .ge 49, 3), (12, .aload_n 0, 1), (13, .iload_n 3, 1), (14, .iload_n 1, 1), (15, .invokevirtual 112, 3), (18, .ifCond .eq 34, 3), (21, .aload_n 0, 1), (22, .iload_n 3, 1), (23, .invokevirtual 122, 3), (26, .aload_n 0, 1), (27, .iload_n 1, 1), (28, .invokevirtual 122, 3), (31, .isub, 1), (32, .iconst 1, 1), (33, .iadd, 1), (34, .iload_n 2, 1), (35, .if_icmp .le 17, 3), (38, .aload_n 0, 1), (39, .iload_n 3, 1), (40, .invokevirtual 122, 3), (43, .aload_n 0, 1), (44, .iload_n 1, 1), (45, .invokevirtual 122, 3), (48, .isub, 1), (49, .iconst 1, 1), (50, .iadd, 1), (51, .istore_n 2, 1), (52, .iinc 3 1, 3), (55, .goto (-51), 3), (58, .iload_n 2, 1), (59, .ireturn, 1)]
def zT_X3_into : List (Nat × Instr × Nat) := [(0, .aload_n 0, 1), (1, .aload_n 0, 1), (2, .iload_n 1, 1), (3, .invokevirtual 116, 3), (6, .ifCond .eq 11, 3), (9, .aload_n 0, 1), (10, .iload_n 2, 1), (11, .invokevirtual 116, 3), (14, .ifCond .ne 7, 3), (17, .iconst 1, 1), (18, .goto 4, 3), (21, .iconst 0, 1), (22, .putfield 64, 3), (25, .aload_n 0, 1), (26, .getfield 64, 3), (29, .ifCond .ne 44, 3), (32, .aload_n 0, 1), (33, .iload_n 1, 1), (34, .invokevirtual 77, 3), (37, .ifCond .eq 31, 3), (40, .aload_n 0, 1), (41, .iload_n 2, 1), (42, .invokevirtual 77, 3), (45, .ifCond .eq 23, 3), (48, .aload_n 0, 1), (49, .getfield 38, 3), (52, .iload_n 1, 1), (53, .iaload, 1), (54, .aload_n 0, 1), (55, .getfield 38, 3), (58, .iload_n 2, 1), (59, .iaload, 1), (60, .if_icmp .ne 8, 3), (63, .iload_n 1, 1), (64, .iload_n 2, 1), (65, .if_icmp .ne 8, 3), (68, .aload_n 0, 1), (69, .iconst 2, 1), (70, .putfield 64, 3), (73, .aload_n 0, 1), (74, .getfield 64, 3), (77, .ifCond .ne 42, 3), (80, .aload_n 0, 1), (81, .getfield 41, 3), (84, .iload_n 1, 1), (85, .iaload, 1), (86, .iload_n 2, 1), (87, .if_icmp .eq 27, 3), (90, .aload_n 0, 1), (91, .iload_n 2, 1), (92, .iload_n 1, 1), (93, .invokevirtual 112, 3), (96, .ifCond .ne 18, 3), (99, .aload_n 0, 1), (100, .iload_n 2, 1), (101, .invokevirtual 122, 3), (104, .aload_n 0, 1), (105, .iload_n 1, 1), (106, .invokevirtual 125, 3), (109, .iadd, 1), (110, .iconst 5, 1), (111, .if_icmp .le 8, 3), (114, .aload_n 0, 1), (115, .iconst 2, 1), (116, .putfield 64, 3), (119, .aload_n 0, 1), (120, .getfield 64, 3), (123, .ifCond .ne 18, 3), (126, .aload_n 0, 1), (127, .getfield 74, 3), (130, .sipush 400, 3), (133, .if_icmp .ne 8, 3), (136, .aload_n 0, 1), (137, .iconst 3, 1), (138, .putfield 64, 3), (141, .aload_n 0, 1), (142, .getfield 64, 3), (145, .ifCond .le 4, 3), (148, .return_, 1), (149, .aload_n 0, 1), (150, .getfield 41, 3), (153, .iload_n 1, 1), (154, .iload_n 2, 1), (155, .iastore, 1), (156, .aload_n 0, 1), (157, .iload_n 1, 1), (158, .iconst 3, 1), (159, .iload_n 2, 1), (160, .invokevirtual 101, 3), (163, .return_, 1)]
def zT_X3_out : List (Nat × Instr × Nat) := [(0, .aload_n 0, 1), (1, .aload_n 0, 1), (2, .iload_n 1, 1), (3, .invokevirtual 116, 3), (6, .ifCond .ne 7, 3), (9, .iconst 1, 1), (10, .goto 4, 3), (13, .iconst 0, 1), (14, .putfield 64, 3), (17, .aload_n 0, 1), (18, .getfield 64, 3), (21, .ifCond .ne 36, 3), (24, .aload_n 0, 1), (25, .aload_n 0, 1), (26, .getfield 41, 3), (29, .iload_n 1, 1), (30, .iaload, 1), (31, .iconst (-1), 1), (32, .if_icmp .ne 7, 3), (35, .iconst 2, 1), (36, .goto 18, 3), (39, .aload_n 0, 1), (40, .getfield 74, 3), (43, .sipush 400, 3), (46, .if_icmp .ne 7, 3), (49, .iconst 3, 1), (50, .goto 4, 3), (53, .iconst 0, 1), (54, .putfield 64, 3), (57, .aload_n 0, 1), (58, .getfield 64, 3), (61, .ifCond .le 4, 3), (64, .return_, 1), (65, .aload_n 0, 1), (66, .iload_n 1, 1), (67, .iconst 4, 1), (68, .aload_n 0, 1), (69, .getfield 38, 3), (72, .iload_n 1, 1), (73, .iaload, 1), (74, .invokevirtual 101, 3), (77, .aload_n 0, 1), (78, .getfield 41, 3), (81, .iload_n 1, 1), (82, .iconst (-1), 1), (83, .iastore, 1), (84, .return_, 1)]
def zT_X3_split : List (Nat × Instr × Nat) := [(0, .aload_n 0, 1), (1, .aload_n 0, 1), (2, .iload_n 1, 1), (3, .invokevirtual 116, 3), (6, .ifCond .ne 7, 3), (9, .iconst 1, 1), (10, .goto 4, 3), (13, .iconst 0, 1), (14, .putfield 64, 3), (17, .aload_n 0, 1), (18, .getfield 64, 3), (21, .ifCond .ne 27, 3), (24, .aload_n 0, 1), (25, .iload_n 2, 1), (26, .iconst 1, 1), (27, .if_icmp .lt 13, 3), (30, .iload_n 2, 1), (31, .aload_n 0, 1), (32, .getfield 32, 3), (35, .iload_n 1, 1), (36, .iaload, 1), (37, .if_icmp .lt 7, 3), (40, .iconst 2, 1), (41, .goto 4, 3), (44, .iconst 0, 1), (45, .putfield 64, 3), (48, .aload_n 0, 1), (49, .getfield 64, 3), (52, .ifCond .ne 39, 3), (55, .aload_n 0, 1), (56, .aload_n 0, 1), (57, .iload_n 1, 1), (58, .invokevirtual 77, 3), (61, .ifCond .eq 22, 3), (64, .aload_n 0, 1), (65, .iload_n 1, 1), (66, .invokevirtual 119, 3), (69, .ifCond .gt 14, 3), (72, .aload_n 0, 1), (73, .getfield 44, 3), (76, .iload_n 1, 1), (77, .laload, 1), (78, .lconst 0, 1), (79, .lcmp, 1), (80, .ifCond .le 7, 3), (83, .iconst 3, 1), (84, .goto 4, 3), (87, .iconst 0, 1), (88, .putfield 64, 3), (91, .aload_n 0, 1), (92, .getfield 64, 3), (95, .ifCond .ne 53, 3), (98, .aload_n 0, 1), (99, .getfield 67, 3), (102, .aload_n 0, 1), (103, .getfield 22, 3), (106, .if_icmp .eq 37, 3), (109, .aload_n 0, 1), (110, .getfield 74, 3), (113, .sipush 398, 3), (116, .if_icmp .gt 27, 3), (119, .aload_n 0, 1), (120, .aload_n 0, 1), (121, .getfield 38, 3), (124, .iload_n 1, 1), (125, .iaload, 1), (126, .invokevirtual 85, 3), (129, .aload_n 0, 1), (130, .getfield 7, 3), (133, .aload_n 0, 1), (134, .getfield 38, 3), (137, .iload_n 1, 1), (138, .iaload, 1), (139, .iaload, 1), (140, .if_icmp .ne 8, 3), (143, .aload_n 0, 1), (144, .iconst 4, 1), (145, .putfield 64, 3), (148, .aload_n 0, 1), (149, .getfield 64, 3), (152, .ifCond .le 5, 3), (155, .iconst 0, 1), (156, .ireturn, 1), (157, .aload_n 0, 1), (158, .iload_n 1, 1), (159, .iconst 5, 1), (160, .aload_n 0, 1), (161, .getfield 67, 3), (164, .invokevirtual 101, 3), (167, .aload_n 0, 1), (168, .getfield 32, 3), (171, .iload_n 1, 1), (172, .dup2, 1), (173, .iaload, 1), (174, .iload_n 2, 1), (175, .isub, 1), (176, .iastore, 1), (177, .aload_n 0, 1), (178, .aload_n 0, 1), (179, .getfield 26, 3), (182, .iload_n 1, 1), (183, .iaload, 1), (184, .aload_n 0, 1), (185, .getfield 38, 3), (188, .iload_n 1, 1), (189, .iaload, 1), (190, .aload_n 0, 1), (191, .getfield 29, 3), (194, .iload_n 1, 1), (195, .iaload, 1), (196, .iload_n 2, 1), (197, .aload_n 0, 1), (198, .getfield 35, 3), (201, .iload_n 1, 1), (202, .iaload, 1), (203, .aload_n 0, 1), (204, .getfield 41, 3), (207, .iload_n 1, 1), (208, .iaload, 1), (209, .invokevirtual 108, 3), (212, .ireturn, 1)]
def zT_X3_areAlike : List (Nat × Instr × Nat) := [(0, .aload_n 0, 1), (1, .getfield 26, 3), (4, .iload_n 1, 1), (5, .iaload, 1), (6, .aload_n 0, 1), (7, .getfield 26, 3), (10, .iload_n 2, 1), (11, .iaload, 1), (12, .if_icmp .ne 67, 3), (15, .aload_n 0, 1), (16, .getfield 29, 3), (19, .iload_n 1, 1), (20, .iaload, 1), (21, .aload_n 0, 1), (22, .getfield 29, 3), (25, .iload_n 2, 1), (26, .iaload, 1), (27, .if_icmp .ne 52, 3), (30, .aload_n 0, 1), (31, .getfield 35, 3), (34, .iload_n 1, 1), (35, .iaload, 1), (36, .aload_n 0, 1), (37, .getfield 35, 3), (40, .iload_n 2, 1), (41, .iaload, 1), (42, .if_icmp .ne 37, 3), (45, .aload_n 0, 1), (46, .getfield 38, 3), (49, .iload_n 1, 1), (50, .iaload, 1), (51, .aload_n 0, 1), (52, .getfield 38, 3), (55, .iload_n 2, 1), (56, .iaload, 1), (57, .if_icmp .ne 22, 3), (60, .aload_n 0, 1), (61, .getfield 41, 3), (64, .iload_n 1, 1), (65, .iaload, 1), (66, .aload_n 0, 1), (67, .getfield 41, 3), (70, .iload_n 2, 1), (71, .iaload, 1), (72, .if_icmp .ne 7, 3), (75, .iconst 1, 1), (76, .goto 4, 3), (79, .iconst 0, 1), (80, .ireturn, 1)]
def zT_X3_join : List (Nat × Instr × Nat) := [(0, .aload_n 0, 1), (1, .aload_n 0, 1), (2, .iload_n 1, 1), (3, .invokevirtual 116, 3), (6, .ifCond .eq 11, 3), (9, .aload_n 0, 1), (10, .iload_n 2, 1), (11, .invokevirtual 116, 3), (14, .ifCond .ne 7, 3), (17, .iconst 1, 1), (18, .goto 4, 3), (21, .iconst 0, 1), (22, .putfield 64, 3), (25, .aload_n 0, 1), (26, .getfield 64, 3), (29, .ifCond .ne 38, 3), (32, .iload_n 1, 1), (33, .iload_n 2, 1), (34, .if_icmp .eq 28, 3), (37, .aload_n 0, 1), (38, .iload_n 1, 1), (39, .invokevirtual 77, 3), (42, .ifCond .eq 20, 3), (45, .aload_n 0, 1), (46, .iload_n 2, 1), (47, .invokevirtual 77, 3), (50, .ifCond .eq 12, 3), (53, .aload_n 0, 1), (54, .iload_n 1, 1), (55, .iload_n 2, 1), (56, .invokevirtual 128, 3), (59, .ifCond .ne 8, 3), (62, .aload_n 0, 1), (63, .iconst 2, 1), (64, .putfield 64, 3), (67, .aload_n 0, 1), (68, .getfield 64, 3), (71, .ifCond .ne 65, 3), (74, .aload_n 0, 1), (75, .iload_n 1, 1), (76, .invokevirtual 119, 3), (79, .ifCond .gt 52, 3), (82, .aload_n 0, 1), (83, .iload_n 2, 1), (84, .invokevirtual 119, 3), (87, .ifCond .gt 44, 3), (90, .aload_n 0, 1), (91, .getfield 44, 3), (94, .iload_n 1, 1), (95, .laload, 1), (96, .lconst 0, 1), (97, .lcmp, 1), (98, .ifCond .gt 33, 3), (101, .aload_n 0, 1), (102, .getfield 44, 3), (105, .iload_n 2, 1), (106, .laload, 1), (107, .lconst 0, 1), (108, .lcmp, 1), (109, .ifCond .gt 22, 3), (112, .aload_n 0, 1), (113, .getfield 32, 3), (116, .iload_n 1, 1), (117, .iaload, 1), (118, .aload_n 0, 1), (119, .getfield 32, 3), (122, .iload_n 2, 1), (123, .iaload, 1), (124, .iadd, 1), (125, .sipush 1000, 3), (128, .if_icmp .le 8, 3), (131, .aload_n 0, 1), (132, .iconst 2, 1), (133, .putfield 64, 3), (136, .aload_n 0, 1), (137, .getfield 64, 3), (140, .ifCond .ne 18, 3), (143, .aload_n 0, 1), (144, .getfield 74, 3), (147, .sipush 398, 3), (150, .if_icmp .le 8, 3), (153, .aload_n 0, 1), (154, .iconst 3, 1), (155, .putfield 64, 3), (158, .aload_n 0, 1), (159, .getfield 64, 3), (162, .ifCond .le 4, 3), (165, .return_, 1), (166, .aload_n 0, 1), (167, .getfield 32, 3), (170, .iload_n 1, 1), (171, .dup2, 1), (172, .iaload, 1), (173, .aload_n 0, 1), (174, .getfield 32, 3), (177, .iload_n 2, 1), (178, .iaload, 1), (179, .iadd, 1), (180, .iastore, 1), (181, .aload_n 0, 1), (182, .iload_n 1, 1), (183, .bipush 6, 2), (185, .iload_n 2, 1), (186, .invokevirtual 101, 3), (189, .aload_n 0, 1), (190, .iload_n 2, 1), (191, .bipush 6, 2), (193, .iload_n 1, 1), (194, .invokevirtual 101, 3), (197, .aload_n 0, 1), (198, .iload_n 2, 1), (199, .iconst 5, 1), (200, .invokevirtual 131, 3), (203, .return_, 1)]
def zT_X3_leave : List (Nat × Instr × Nat) := [(0, .iconst 0, 1), (1, .istore_n 3, 1), (2, .iload_n 3, 1), (3, .aload_n 0, 1), (4, .getfield 67, 3), (7, .if_icmp .ge 34, 3), (10, .aload_n 0, 1), (11, .getfield 60, 3), (14, .iload_n 3, 1), (15, .iload_n 3, 1), (16, .iload_n 1, 1), (17, .if_icmp .eq 12, 3), (20, .aload_n 0, 1), (21, .iload_n 3, 1), (22, .iload_n 1, 1), (23, .invokevirtual 112, 3), (26, .ifCond .eq 7, 3), (29, .iconst 1, 1), (30, .goto 4, 3), (33, .iconst 0, 1), (34, .bastore, 1), (35, .iinc 3 1, 3), (38, .goto (-36), 3), (41, .iconst 0, 1), (42, .istore_n 3, 1), (43, .iload_n 3, 1), (44, .aload_n 0, 1), (45, .getfield 67, 3), (48, .if_icmp .ge 42, 3), (51, .aload_n 0, 1), (52, .getfield 60, 3), (55, .iload_n 3, 1), (56, .baload, 1), (57, .ifCond .ne 6, 3), (60, .goto 24, 3), (63, .aload_n 0, 1), (64, .getfield 35, 3), (67, .iload_n 3, 1), (68, .iload_n 2, 1), (69, .iastore, 1), (70, .aload_n 0, 1), (71, .getfield 38, 3), (74, .iload_n 3, 1), (75, .iconst (-1), 1), (76, .iastore, 1), (77, .aload_n 0, 1), (78, .getfield 41, 3), (81, .iload_n 3, 1), (82, .iconst (-1), 1), (83, .iastore, 1), (84, .iinc 3 1, 3), (87, .goto (-44), 3), (90, .return_, 1)]
def zT_X3_mayBecome : List (Nat × Instr × Nat) := [(0, .aload_n 0, 1), (1, .getfield 35, 3), (4, .iload_n 1, 1), (5, .iaload, 1), (6, .istore_n 3, 1), (7, .iload_n 2, 1), (8, .iconst 5, 1), (9, .if_icmp .ne 14, 3), (12, .iload_n 3, 1), (13, .iconst 4, 1), (14, .if_icmp .ge 7, 3), (17, .iconst 1, 1), (18, .goto 4, 3), (21, .iconst 0, 1), (22, .ireturn, 1), (23, .iload_n 2, 1), (24, .ifCond .ne 27, 3), (27, .iload_n 3, 1), (28, .iconst 1, 1), (29, .if_icmp .ne 20, 3), (32, .aload_n 0, 1), (33, .aload_n 0, 1), (34, .getfield 26, 3), (37, .iload_n 1, 1), (38, .iaload, 1), (39, .invokevirtual 105, 3), (42, .ifCond .ne 7, 3), (45, .iconst 1, 1), (46, .goto 4, 3), (49, .iconst 0, 1), (50, .ireturn, 1), (51, .iload_n 2, 1), (52, .iconst 1, 1), (53, .if_icmp .ne 31, 3), (56, .iload_n 3, 1), (57, .ifCond .eq 8, 3), (60, .iload_n 3, 1), (61, .iconst 2, 1), (62, .if_icmp .ne 20, 3), (65, .aload_n 0, 1), (66, .aload_n 0, 1), (67, .getfield 26, 3), (70, .iload_n 1, 1), (71, .iaload, 1), (72, .invokevirtual 105, 3), (75, .ifCond .ne 7, 3), (78, .iconst 1, 1), (79, .goto 4, 3), (82, .iconst 0, 1), (83, .ireturn, 1), (84, .iload_n 2, 1), (85, .iconst 2, 1), (86, .if_icmp .ne 16, 3), (89, .iload_n 3, 1), (90, .ifCond .eq 8, 3), (93, .iload_n 3, 1), (94, .iconst 1, 1), (95, .if_icmp .ne 7, 3), (98, .iconst 1, 1), (99, .goto 4, 3), (102, .iconst 0, 1), (103, .ireturn, 1)]
def zT_X3_state : List (Nat × Instr × Nat) := [(0, .aload_n 0, 1), (1, .aload_n 0, 1), (2, .iload_n 1, 1), (3, .invokevirtual 116, 3), (6, .ifCond .ne 7, 3), (9, .iconst 1, 1), (10, .goto 20, 3), (13, .iload_n 2, 1), (14, .i2l, 1), (15, .lconst 0, 1), (16, .ldc2_w 135, 3), (19, .invokestatic 70, 3), (22, .ifCond .ne 7, 3), (25, .iconst 2, 1), (26, .goto 4, 3), (29, .iconst 0, 1), (30, .putfield 64, 3), (33, .aload_n 0, 1), (34, .getfield 64, 3), (37, .ifCond .ne 35, 3), (40, .aload_n 0, 1), (41, .aload_n 0, 1), (42, .iload_n 1, 1), (43, .iload_n 2, 1), (44, .invokevirtual 137, 3), (47, .ifCond .ne 7, 3), (50, .iconst 3, 1), (51, .goto 18, 3), (54, .aload_n 0, 1), (55, .getfield 74, 3), (58, .sipush 400, 3), (61, .if_icmp .ne 7, 3), (64, .iconst 4, 1), (65, .goto 4, 3), (68, .iconst 0, 1), (69, .putfield 64, 3), (72, .aload_n 0, 1), (73, .getfield 64, 3), (76, .ifCond .le 4, 3), (79, .return_, 1), (80, .aload_n 0, 1), (81, .iload_n 1, 1), (82, .bipush 7, 2), (84, .iload_n 2, 1), (85, .invokevirtual 101, 3), (88, .iload_n 2, 1), (89, .iconst 5, 1), (90, .if_icmp .ne 12, 3), (93, .aload_n 0, 1), (94, .iload_n 1, 1), (95, .iconst 5, 1), (96, .invokevirtual 131, 3), (99, .goto 10, 3), (102, .aload_n 0, 1), (103, .getfield 35, 3), (106, .iload_n 1, 1), (107, .iload_n 2, 1), (108, .iastore, 1), (109, .return_, 1)]
def zT_X3_serial : List (Nat × Instr × Nat) := [(0, .aload_n 0, 1), (1, .aload_n 0, 1), (2, .iload_n 1, 1), (3, .invokevirtual 116, 3), (6, .ifCond .ne 7, 3), (9, .iconst 1, 1), (10, .goto 19, 3), (13, .lload_n 2, 1), (14, .lconst 1, 1), (15, .ldc2_w 140, 3), (18, .invokestatic 70, 3), (21, .ifCond .ne 7, 3), (24, .iconst 2, 1), (25, .goto 4, 3), (28, .iconst 0, 1), (29, .putfield 64, 3), (32, .aload_n 0, 1), (33, .getfield 64, 3), (36, .ifCond .ne 37, 3), (39, .aload_n 0, 1), (40, .iload_n 1, 1), (41, .invokevirtual 77, 3), (44, .ifCond .eq 24, 3), (47, .aload_n 0, 1), (48, .getfield 32, 3), (51, .iload_n 1, 1), (52, .iaload, 1), (53, .iconst 1, 1), (54, .if_icmp .gt 14, 3), (57, .aload_n 0, 1), (58, .getfield 44, 3), (61, .iload_n 1, 1), (62, .laload, 1), (63, .lconst 0, 1), (64, .lcmp, 1), (65, .ifCond .le 8, 3), (68, .aload_n 0, 1), (69, .iconst 3, 1), (70, .putfield 64, 3), (73, .iconst 0, 1), (74, .istore 4, 2), (76, .iload 4, 2), (78, .aload_n 0, 1), (79, .getfield 67, 3), (82, .if_icmp .ge 44, 3), (85, .aload_n 0, 1), (86, .getfield 64, 3), (89, .ifCond .ne 37, 3), (92, .aload_n 0, 1), (93, .getfield 35, 3), (96, .iload 4, 2), (98, .iaload, 1), (99, .iconst 5, 1), (100, .if_icmp .eq 20, 3), (103, .aload_n 0, 1), (104, .getfield 44, 3), (107, .iload 4, 2), (109, .laload, 1), (110, .lload_n 2, 1), (111, .lcmp, 1), (112, .ifCond .ne 8, 3), (115, .aload_n 0, 1), (116, .iconst 3, 1), (117, .putfield 64, 3), (120, .iinc 4 1, 3), (123, .goto (-47), 3), (126, .aload_n 0, 1), (127, .getfield 64, 3), (130, .ifCond .ne 18, 3), (133, .aload_n 0, 1), (134, .getfield 74, 3), (137, .sipush 400, 3), (140, .if_icmp .ne 8, 3), (143, .aload_n 0, 1), (144, .iconst 4, 1), (145, .putfield 64, 3), (148, .aload_n 0, 1), (149, .getfield 64, 3), (152, .ifCond .le 4, 3), (155, .return_, 1), (156, .aload_n 0, 1), (157, .getfield 44, 3), (160, .iload_n 1, 1), (161, .lload_n 2, 1), (162, .lastore, 1), (163, .aload_n 0, 1), (164, .iload_n 1, 1), (165, .bipush 8, 2), (167, .iconst 0, 1), (168, .invokevirtual 101, 3), (171, .return_, 1)]
def zT_X3_lost : List (Nat × Instr × Nat) := [(0, .aload_n 0, 1), (1, .aload_n 0, 1), (2, .iload_n 1, 1), (3, .invokevirtual 116, 3), (6, .ifCond .ne 7, 3), (9, .iconst 1, 1), (10, .goto 20, 3), (13, .iload_n 2, 1), (14, .i2l, 1), (15, .lconst 1, 1), (16, .ldc2_w 142, 3), (19, .invokestatic 70, 3), (22, .ifCond .ne 7, 3), (25, .iconst 2, 1), (26, .goto 4, 3), (29, .iconst 0, 1), (30, .putfield 64, 3), (33, .aload_n 0, 1), (34, .getfield 64, 3), (37, .ifCond .ne 34, 3), (40, .aload_n 0, 1), (41, .aload_n 0, 1), (42, .iload_n 1, 1), (43, .invokevirtual 77, 3), (46, .ifCond .ne 7, 3), (49, .iconst 3, 1), (50, .goto 18, 3), (53, .aload_n 0, 1), (54, .getfield 74, 3), (57, .sipush 400, 3), (60, .if_icmp .ne 7, 3), (63, .iconst 4, 1), (64, .goto 4, 3), (67, .iconst 0, 1), (68, .putfield 64, 3), (71, .aload_n 0, 1), (72, .getfield 64, 3), (75, .ifCond .le 4, 3), (78, .return_, 1), (79, .aload_n 0, 1), (80, .iload_n 1, 1), (81, .bipush 9, 2), (83, .iload_n 2, 1), (84, .invokevirtual 101, 3), (87, .aload_n 0, 1), (88, .iload_n 1, 1), (89, .iconst 4, 1), (90, .invokevirtual 131, 3), (93, .return_, 1)]
def zT_X3_found : List (Nat × Instr × Nat) := [(0, .aload_n 0, 1), (1, .aload_n 0, 1), (2, .iload_n 1, 1), (3, .invokevirtual 116, 3), (6, .ifCond .ne 7, 3), (9, .iconst 1, 1), (10, .goto 20, 3), (13, .iload_n 2, 1), (14, .i2l, 1), (15, .lconst 0, 1), (16, .ldc2_w 81, 3), (19, .invokestatic 70, 3), (22, .ifCond .ne 7, 3), (25, .iconst 2, 1), (26, .goto 4, 3), (29, .iconst 0, 1), (30, .putfield 64, 3), (33, .aload_n 0, 1), (34, .getfield 64, 3), (37, .ifCond .ne 50, 3), (40, .aload_n 0, 1), (41, .aload_n 0, 1), (42, .getfield 35, 3), (45, .iload_n 1, 1), (46, .iaload, 1), (47, .iconst 4, 1), (48, .if_icmp .eq 7, 3), (51, .iconst 3, 1), (52, .goto 32, 3), (55, .aload_n 0, 1), (56, .getfield 74, 3), (59, .sipush 400, 3), (62, .if_icmp .eq 17, 3), (65, .aload_n 0, 1), (66, .iload_n 2, 1), (67, .invokevirtual 85, 3), (70, .aload_n 0, 1), (71, .getfield 7, 3), (74, .iload_n 2, 1), (75, .iaload, 1), (76, .if_icmp .ne 7, 3), (79, .iconst 4, 1), (80, .goto 4, 3), (83, .iconst 0, 1), (84, .putfield 64, 3), (87, .aload_n 0, 1), (88, .getfield 64, 3), (91, .ifCond .le 4, 3), (94, .return_, 1), (95, .aload_n 0, 1), (96, .getfield 35, 3), (99, .iload_n 1, 1), (100, .aload_n 0, 1), (101, .aload_n 0, 1), (102, .getfield 26, 3), (105, .iload_n 1, 1), (106, .iaload, 1), (107, .invokevirtual 105, 3), (110, .ifCond .eq 7, 3), (113, .iconst 3, 1), (114, .goto 4, 3), (117, .iconst 1, 1), (118, .iastore, 1), (119, .aload_n 0, 1), (120, .getfield 38, 3), (123, .iload_n 1, 1), (124, .iload_n 2, 1), (125, .iastore, 1), (126, .aload_n 0, 1), (127, .iload_n 1, 1), (128, .bipush 10, 2), (130, .iload_n 2, 1), (131, .invokevirtual 101, 3), (134, .return_, 1)]
def zT_X3_weigh : List (Nat × Instr × Nat) := [(0, .aload_n 0, 1), (1, .aload_n 0, 1), (2, .iload_n 1, 1), (3, .invokevirtual 116, 3), (6, .ifCond .ne 7, 3), (9, .iconst 1, 1), (10, .goto 20, 3), (13, .iload_n 2, 1), (14, .i2l, 1), (15, .lconst 1, 1), (16, .ldc2_w 144, 3), (19, .invokestatic 70, 3), (22, .ifCond .ne 7, 3), (25, .iconst 2, 1), (26, .goto 4, 3), (29, .iconst 0, 1), (30, .putfield 64, 3), (33, .aload_n 0, 1), (34, .getfield 64, 3), (37, .ifCond .ne 34, 3), (40, .aload_n 0, 1), (41, .aload_n 0, 1), (42, .iload_n 1, 1), (43, .invokevirtual 77, 3), (46, .ifCond .ne 7, 3), (49, .iconst 3, 1), (50, .goto 18, 3), (53, .aload_n 0, 1), (54, .getfield 74, 3), (57, .sipush 400, 3), (60, .if_icmp .ne 7, 3), (63, .iconst 4, 1), (64, .goto 4, 3), (67, .iconst 0, 1), (68, .putfield 64, 3), (71, .aload_n 0, 1), (72, .getfield 64, 3), (75, .ifCond .le 5, 3), (78, .iconst 0, 1), (79, .ireturn, 1), (80, .aload_n 0, 1), (81, .iload_n 1, 1), (82, .bipush 11, 2), (84, .iload_n 2, 1), (85, .invokevirtual 101, 3), (88, .iload_n 2, 1), (89, .aload_n 0, 1), (90, .getfield 32, 3), (93, .iload_n 1, 1), (94, .iaload, 1), (95, .aload_n 0, 1), (96, .getfield 13, 3), (99, .aload_n 0, 1), (100, .getfield 16, 3), (103, .aload_n 0, 1), (104, .getfield 26, 3), (107, .iload_n 1, 1), (108, .iaload, 1), (109, .iaload, 1), (110, .iaload, 1), (111, .imul, 1), (112, .isub, 1), (113, .ireturn, 1)]
def zT_X3_day : List (Nat × Instr × Nat) := [(0, .aload_n 0, 1), (1, .iload_n 1, 1), (2, .aload_n 0, 1), (3, .getfield 98, 3), (6, .if_icmp .lt 10, 3), (9, .iload_n 1, 1), (10, .sipush 1000, 3), (13, .if_icmp .le 7, 3), (16, .iconst 1, 1), (17, .goto 4, 3), (20, .iconst 0, 1), (21, .putfield 64, 3), (24, .aload_n 0, 1), (25, .getfield 64, 3), (28, .ifCond .le 5, 3), (31, .iconst 0, 1), (32, .ireturn, 1), (33, .aload_n 0, 1), (34, .iload_n 1, 1), (35, .putfield 98, 3), (38, .iconst 0, 1), (39, .istore_n 2, 1), (40, .iconst 0, 1), (41, .istore_n 3, 1), (42, .iload_n 3, 1), (43, .aload_n 0, 1), (44, .getfield 67, 3), (47, .if_icmp .ge 45, 3), (50, .aload_n 0, 1), (51, .getfield 35, 3), (54, .iload_n 3, 1), (55, .iaload, 1), (56, .iconst 1, 1), (57, .if_icmp .gt 29, 3), (60, .aload_n 0, 1), (61, .aload_n 0, 1), (62, .getfield 26, 3), (65, .iload_n 3, 1), (66, .iaload, 1), (67, .invokevirtual 105, 3), (70, .ifCond .ne 6, 3), (73, .goto 13, 3), (76, .aload_n 0, 1), (77, .getfield 35, 3), (80, .iload_n 3, 1), (81, .iconst 3, 1), (82, .iastore, 1), (83, .iinc 2 1, 3), (86, .iinc 3 1, 3), (89, .goto (-47), 3), (92, .iload_n 2, 1), (93, .ireturn, 1)]
def zT_X3_at : List (Nat × Instr × Nat) := [(0, .aload_n 0, 1), (1, .iload_n 1, 1), (2, .i2l, 1), (3, .lconst 0, 1), (4, .ldc2_w 81, 3), (7, .invokestatic 70, 3), (10, .ifCond .eq 7, 3), (13, .iconst 0, 1), (14, .goto 4, 3), (17, .iconst 1, 1), (18, .putfield 64, 3), (21, .aload_n 0, 1), (22, .getfield 64, 3), (25, .ifCond .le 5, 3), (28, .iconst 0, 1), (29, .ireturn, 1), (30, .iload_n 2, 1), (31, .istore_n 3, 1), (32, .iconst 0, 1), (33, .istore 4, 2), (35, .iload 4, 2), (37, .aload_n 0, 1), (38, .getfield 67, 3), (41, .if_icmp .ge 53, 3), (44, .aload_n 0, 1), (45, .iload 4, 2), (47, .invokevirtual 77, 3), (50, .ifCond .eq 38, 3), (53, .aload_n 0, 1), (54, .getfield 38, 3), (57, .iload 4, 2), (59, .iaload, 1), (60, .iload_n 1, 1), (61, .if_icmp .ne 27, 3), (64, .aload_n 0, 1), (65, .getfield 41, 3), (68, .iload 4, 2), (70, .iaload, 1), (71, .iconst (-1), 1), (72, .if_icmp .eq 6, 3), (75, .goto 13, 3), (78, .iload_n 3, 1), (79, .ifCond .ne 6, 3), (82, .iload 4, 2), (84, .ireturn, 1), (85, .iinc 3 (-1), 3), (88, .iinc 4 1, 3), (91, .goto (-56), 3), (94, .aload_n 0, 1), (95, .iconst 2, 1), (96, .putfield 64, 3), (99, .iconst 0, 1), (100, .ireturn, 1)]
def zT_X3_find : List (Nat × Instr × Nat) := [(0, .aload_n 0, 1), (1, .iload 4, 2), (3, .ifCond .ge 7, 3), (6, .iconst 1, 1), (7, .goto 4, 3), (10, .iconst 0, 1), (11, .putfield 64, 3), (14, .aload_n 0, 1), (15, .getfield 64, 3), (18, .ifCond .le 5, 3), (21, .iconst 0, 1), (22, .ireturn, 1), (23, .iload 4, 2), (25, .istore 5, 2), (27, .iconst 0, 1), (28, .istore 6, 2), (30, .iload 6, 2), (32, .aload_n 0, 1), (33, .getfield 67, 3), (36, .if_icmp .ge 83, 3), (39, .iload_n 1, 1), (40, .iconst (-1), 1), (41, .if_icmp .eq 14, 3), (44, .aload_n 0, 1), (45, .getfield 26, 3), (48, .iload 6, 2), (50, .iaload, 1), (51, .iload_n 1, 1), (52, .if_icmp .ne 39, 3), (55, .iload_n 2, 1), (56, .iconst (-1), 1), (57, .if_icmp .eq 14, 3), (60, .aload_n 0, 1), (61, .getfield 29, 3), (64, .iload 6, 2), (66, .iaload, 1), (67, .iload_n 2, 1), (68, .if_icmp .ne 23, 3), (71, .iload_n 3, 1), (72, .iconst (-1), 1), (73, .if_icmp .eq 14, 3), (76, .aload_n 0, 1), (77, .getfield 35, 3), (80, .iload 6, 2), (82, .iaload, 1), (83, .iload_n 3, 1), (84, .if_icmp .ne 7, 3), (87, .iconst 1, 1), (88, .goto 4, 3), (91, .iconst 0, 1), (92, .istore 7, 2), (94, .iload 7, 2), (96, .ifCond .ne 6, 3), (99, .goto 14, 3), (102, .iload 5, 2), (104, .ifCond .ne 6, 3), (107, .iload 6, 2), (109, .ireturn, 1), (110, .iinc 5 (-1), 3), (113, .iinc 6 1, 3), (116, .goto (-86), 3), (119, .iconst (-1), 1), (120, .ireturn, 1)]
def zT_X3_sum : List (Nat × Instr × Nat) := [(0, .aload_n 0, 1), (1, .iload_n 1, 1), (2, .i2l, 1), (3, .lconst 0, 1), (4, .ldc2_w 89, 3), (7, .invokestatic 70, 3), (10, .ifCond .eq 19, 3), (13, .iload_n 2, 1), (14, .i2l, 1), (15, .lconst 0, 1), (16, .ldc2_w 81, 3), (19, .invokestatic 70, 3), (22, .ifCond .eq 7, 3), (25, .iconst 0, 1), (26, .goto 4, 3), (29, .iconst 1, 1), (30, .putfield 64, 3), (33, .lconst 0, 1), (34, .lstore_n 3, 1), (35, .iconst 0, 1), (36, .istore 5, 2), (38, .iload 5, 2), (40, .aload_n 0, 1), (41, .getfield 67, 3), (44, .if_icmp .ge 68, 3), (47, .aload_n 0, 1), (48, .getfield 64, 3), (51, .ifCond .ne 61, 3), (54, .lload_n 3, 1), (55, .aload_n 0, 1), (56, .getfield 35, 3), (59, .iload 5, 2), (61, .iaload, 1), (62, .ifCond .ne 41, 3), (65, .aload_n 0, 1), (66, .getfield 38, 3), (69, .iload 5, 2), (71, .iaload, 1), (72, .iload_n 2, 1), (73, .if_icmp .ne 30, 3), (76, .aload_n 0, 1), (77, .getfield 16, 3), (80, .aload_n 0, 1), (81, .getfield 26, 3), (84, .iload 5, 2), (86, .iaload, 1), (87, .iaload, 1), (88, .iload_n 1, 1), (89, .if_icmp .ne 14, 3), (92, .aload_n 0, 1), (93, .getfield 32, 3), (96, .iload 5, 2), (98, .iaload, 1), (99, .i2l, 1), (100, .goto 4, 3), (103, .lconst 0, 1), (104, .ladd, 1), (105, .lstore_n 3, 1), (106, .iinc 5 1, 3), (109, .goto (-71), 3), (112, .lload_n 3, 1), (113, .lreturn, 1)]
def zT_X3_row : List (Nat × Instr × Nat) := [(0, .iconst (-1), 1), (1, .istore 4, 2), (3, .iload_n 2, 1), (4, .istore 5, 2), (6, .iconst 0, 1), (7, .istore 6, 2), (9, .iload 6, 2), (11, .aload_n 0, 1), (12, .getfield 74, 3), (15, .if_icmp .ge 47, 3), (18, .aload_n 0, 1), (19, .iload_n 1, 1), (20, .invokevirtual 116, 3), (23, .ifCond .eq 39, 3), (26, .iload_n 2, 1), (27, .ifCond .lt 35, 3), (30, .aload_n 0, 1), (31, .getfield 48, 3), (34, .iload 6, 2), (36, .iaload, 1), (37, .iload_n 1, 1), (38, .if_icmp .eq 6, 3), (41, .goto 15, 3), (44, .iload 5, 2), (46, .ifCond .ne 7, 3), (49, .iload 6, 2), (51, .istore 4, 2), (53, .iinc 5 (-1), 3), (56, .iinc 6 1, 3), (59, .goto (-50), 3), (62, .aload_n 0, 1), (63, .iload 4, 2), (65, .iconst (-1), 1), (66, .if_icmp .ne 7, 3), (69, .iconst 1, 1), (70, .goto 20, 3), (73, .iload_n 3, 1), (74, .i2l, 1), (75, .lconst 0, 1), (76, .ldc2_w 146, 3), (79, .invokestatic 70, 3), (82, .ifCond .ne 7, 3), (85, .iconst 2, 1), (86, .goto 4, 3), (89, .iconst 0, 1), (90, .putfield 64, 3), (93, .aload_n 0, 1), (94, .getfield 64, 3), (97, .ifCond .le 5, 3), (100, .iconst 0, 1), (101, .ireturn, 1), (102, .iload_n 3, 1), (103, .ifCond .ne 13, 3), (106, .aload_n 0, 1), (107, .getfield 51, 3), (110, .iload 4, 2), (112, .iaload, 1), (113, .goto 25, 3), (116, .iload_n 3, 1), (117, .iconst 1, 1), (118, .if_icmp .ne 13, 3), (121, .aload_n 0, 1), (122, .getfield 54, 3), (125, .iload 4, 2), (127, .iaload, 1), (128, .goto 10, 3), (131, .aload_n 0, 1), (132, .getfield 57, 3), (135, .iload 4, 2), (137, .iaload, 1), (138, .ireturn, 1)]
def zT_X3_told : List (Nat × Instr × Nat) := [(0, .aload_n 0, 1), (1, .aload_n 0, 1), (2, .iload_n 1, 1), (3, .invokevirtual 116, 3), (6, .ifCond .ne 7, 3), (9, .iconst 1, 1), (10, .goto 20, 3), (13, .iload_n 2, 1), (14, .i2l, 1), (15, .lconst 0, 1), (16, .ldc2_w 89, 3), (19, .invokestatic 70, 3), (22, .ifCond .ne 7, 3), (25, .iconst 2, 1), (26, .goto 4, 3), (29, .iconst 0, 1), (30, .putfield 64, 3), (33, .aload_n 0, 1), (34, .getfield 64, 3), (37, .ifCond .le 5, 3), (40, .iconst 0, 1), (41, .ireturn, 1), (42, .iload_n 2, 1), (43, .ifCond .ne 10, 3), (46, .aload_n 0, 1), (47, .getfield 35, 3), (50, .iload_n 1, 1), (51, .iaload, 1), (52, .ireturn, 1), (53, .iload_n 2, 1), (54, .iconst 1, 1), (55, .if_icmp .ne 22, 3), (58, .aload_n 0, 1), (59, .iload_n 1, 1), (60, .invokevirtual 77, 3), (63, .ifCond .eq 12, 3), (66, .aload_n 0, 1), (67, .getfield 38, 3), (70, .iload_n 1, 1), (71, .iaload, 1), (72, .goto 4, 3), (75, .iconst (-1), 1), (76, .ireturn, 1), (77, .iload_n 2, 1), (78, .iconst 2, 1), (79, .if_icmp .ne 10, 3), (82, .aload_n 0, 1), (83, .getfield 41, 3), (86, .iload_n 1, 1), (87, .iaload, 1), (88, .ireturn, 1), (89, .iload_n 2, 1), (90, .iconst 3, 1), (91, .if_icmp .ne 10, 3), (94, .aload_n 0, 1), (95, .getfield 32, 3), (98, .iload_n 1, 1), (99, .iaload, 1), (100, .ireturn, 1), (101, .iload_n 2, 1), (102, .iconst 4, 1), (103, .if_icmp .ne 10, 3), (106, .aload_n 0, 1), (107, .getfield 26, 3), (110, .iload_n 1, 1), (111, .iaload, 1), (112, .ireturn, 1), (113, .iload_n 2, 1), (114, .iconst 5, 1), (115, .if_icmp .ne 10, 3), (118, .aload_n 0, 1), (119, .getfield 29, 3), (122, .iload_n 1, 1), (123, .iaload, 1), (124, .ireturn, 1), (125, .iload_n 2, 1), (126, .bipush 6, 2), (128, .if_icmp .ne 23, 3), (131, .aload_n 0, 1), (132, .iload_n 1, 1), (133, .invokevirtual 77, 3), (136, .ifCond .eq 11, 3), (139, .aload_n 0, 1), (140, .iload_n 1, 1), (141, .invokevirtual 122, 3), (144, .goto 12, 3), (147, .iconst 0, 1), (148, .goto 8, 3), (151, .aload_n 0, 1), (152, .iload_n 1, 1), (153, .invokevirtual 119, 3), (156, .ireturn, 1)]
def zT_X3_packed : List (Nat × Instr × Nat) := [(0, .aload_n 0, 1), (1, .aload_n 0, 1), (2, .iload_n 1, 1), (3, .invokevirtual 116, 3), (6, .ifCond .eq 7, 3), (9, .iconst 0, 1), (10, .goto 4, 3), (13, .iconst 1, 1), (14, .putfield 64, 3), (17, .aload_n 0, 1), (18, .getfield 64, 3), (21, .ifCond .le 5, 3), (24, .lconst 0, 1), (25, .lreturn, 1), (26, .aload_n 0, 1), (27, .getfield 26, 3), (30, .iload_n 1, 1), (31, .iaload, 1), (32, .i2l, 1), (33, .aload_n 0, 1), (34, .getfield 29, 3), (37, .iload_n 1, 1), (38, .iaload, 1), (39, .i2l, 1), (40, .iconst 4, 1), (41, .lshl, 1), (42, .lor, 1), (43, .aload_n 0, 1), (44, .getfield 32, 3), (47, .iload_n 1, 1), (48, .iaload, 1), (49, .iconst 1, 1), (50, .isub, 1), (51, .i2l, 1), (52, .bipush 7, 2), (54, .lshl, 1), (55, .lor, 1), (56, .aload_n 0, 1), (57, .getfield 35, 3), (60, .iload_n 1, 1), (61, .iaload, 1), (62, .i2l, 1), (63, .bipush 17, 2), (65, .lshl, 1), (66, .lor, 1), (67, .aload_n 0, 1), (68, .getfield 44, 3), (71, .iload_n 1, 1), (72, .laload, 1), (73, .bipush 20, 2), (75, .lshl, 1), (76, .lor, 1), (77, .lreturn, 1)]
def zT_X3_count : List (Nat × Instr × Nat) := [(0, .aload_n 0, 1), (1, .iconst 0, 1), (2, .putfield 64, 3), (5, .iload_n 1, 1), (6, .ifCond .ne 8, 3), (9, .aload_n 0, 1), (10, .getfield 67, 3), (13, .ireturn, 1), (14, .iload_n 1, 1), (15, .iconst 2, 1), (16, .if_icmp .ne 8, 3), (19, .aload_n 0, 1), (20, .getfield 95, 3), (23, .ireturn, 1), (24, .iload_n 1, 1), (25, .iconst 3, 1), (26, .if_icmp .ne 8, 3), (29, .aload_n 0, 1), (30, .getfield 74, 3), (33, .ireturn, 1), (34, .iload_n 1, 1), (35, .iconst 4, 1), (36, .if_icmp .ne 8, 3), (39, .aload_n 0, 1), (40, .getfield 98, 3), (43, .ireturn, 1), (44, .iconst 0, 1), (45, .istore_n 2, 1), (46, .iconst 0, 1), (47, .istore_n 3, 1), (48, .iload_n 3, 1), (49, .aload_n 0, 1), (50, .getfield 67, 3), (53, .if_icmp .ge 25, 3), (56, .iload_n 2, 1), (57, .aload_n 0, 1), (58, .iload_n 3, 1), (59, .invokevirtual 77, 3), (62, .ifCond .eq 7, 3), (65, .iconst 1, 1), (66, .goto 4, 3), (69, .iconst 0, 1), (70, .iadd, 1), (71, .istore_n 2, 1), (72, .iinc 3 1, 3), (75, .goto (-27), 3), (78, .iload_n 1, 1), (79, .iconst 1, 1), (80, .if_icmp .ne 7, 3), (83, .iload_n 2, 1), (84, .goto 4, 3), (87, .iconst (-1), 1), (88, .ireturn, 1)]
def zT_L_rows : List (Nat × Instr × Nat) := [(0, .aload_n 0, 1), (1, .iload_n 1, 1), (2, .invokevirtual 7, 3), (5, .goto 9, 3), (8, .astore_n 2, 1), (9, .iconst 1, 1), (10, .ireturn, 1), (11, .astore_n 2, 1), (12, .iconst 2, 1), (13, .ireturn, 1), (14, .iconst 0, 1), (15, .ireturn, 1)]
def zT_L_place : List (Nat × Instr × Nat) := [(0, .aload_n 0, 1), (1, .iload_n 1, 1), (2, .iload_n 2, 1), (3, .invokevirtual 17, 3), (6, .goto 9, 3), (9, .astore_n 3, 1), (10, .iconst 1, 1), (11, .ireturn, 1), (12, .astore_n 3, 1), (13, .iconst 2, 1), (14, .ireturn, 1), (15, .iconst 0, 1), (16, .ireturn, 1)]
def zT_L_good : List (Nat × Instr × Nat) := [(0, .aload_n 0, 1), (1, .iload_n 1, 1), (2, .iload_n 2, 1), (3, .invokevirtual 23, 3), (6, .goto 6, 3), (9, .astore_n 3, 1), (10, .iconst 1, 1), (11, .ireturn, 1), (12, .iconst 0, 1), (13, .ireturn, 1)]
def zT_L_lot : List (Nat × Instr × Nat) := [(0, .aload_n 3, 1), (1, .iconst 0, 1), (2, .aload_n 0, 1), (3, .iload_n 1, 1), (4, .iload_n 2, 1), (5, .invokevirtual 26, 3), (8, .i2l, 1), (9, .lastore, 1), (10, .goto 11, 3), (13, .astore 4, 2), (15, .iconst 1, 1), (16, .ireturn, 1), (17, .astore 4, 2), (19, .iconst 2, 1), (20, .ireturn, 1), (21, .iconst 0, 1), (22, .ireturn, 1)]
def zT_L_unit : List (Nat × Instr × Nat) := [(0, .aload 5, 2), (2, .iconst 0, 1), (3, .aload_n 0, 1), (4, .iload_n 1, 1), (5, .iload_n 2, 1), (6, .iload_n 3, 1), (7, .iload 4, 2), (9, .invokevirtual 32, 3), (12, .i2l, 1), (13, .lastore, 1), (14, .goto 15, 3), (17, .astore 6, 2), (19, .iconst 1, 1), (20, .ireturn, 1), (21, .astore 6, 2), (23, .iconst 2, 1), (24, .ireturn, 1), (25, .astore 6, 2), (27, .iconst 3, 1), (28, .ireturn, 1), (29, .iconst 0, 1), (30, .ireturn, 1)]
def zT_L_move : List (Nat × Instr × Nat) := [(0, .aload_n 0, 1), (1, .iload_n 1, 1), (2, .iload_n 2, 1), (3, .invokevirtual 38, 3), (6, .goto 15, 3), (9, .astore_n 3, 1), (10, .iconst 1, 1), (11, .ireturn, 1), (12, .astore_n 3, 1), (13, .iconst 2, 1), (14, .ireturn, 1), (15, .astore_n 3, 1), (16, .iconst 3, 1), (17, .ireturn, 1), (18, .astore_n 3, 1), (19, .iconst 4, 1), (20, .ireturn, 1), (21, .iconst 0, 1), (22, .ireturn, 1)]
def zT_L_into : List (Nat × Instr × Nat) := [(0, .aload_n 0, 1), (1, .iload_n 1, 1), (2, .iload_n 2, 1), (3, .invokevirtual 41, 3), (6, .goto 12, 3), (9, .astore_n 3, 1), (10, .iconst 1, 1), (11, .ireturn, 1), (12, .astore_n 3, 1), (13, .iconst 2, 1), (14, .ireturn, 1), (15, .astore_n 3, 1), (16, .iconst 3, 1), (17, .ireturn, 1), (18, .iconst 0, 1), (19, .ireturn, 1)]
def zT_L_out : List (Nat × Instr × Nat) := [(0, .aload_n 0, 1), (1, .iload_n 1, 1), (2, .invokevirtual 44, 3), (5, .goto 12, 3), (8, .astore_n 2, 1), (9, .iconst 1, 1), (10, .ireturn, 1), (11, .astore_n 2, 1), (12, .iconst 2, 1), (13, .ireturn, 1), (14, .astore_n 2, 1), (15, .iconst 3, 1), (16, .ireturn, 1), (17, .iconst 0, 1), (18, .ireturn, 1)]
def zT_L_split : List (Nat × Instr × Nat) := [(0, .aload_n 3, 1), (1, .iconst 0, 1), (2, .aload_n 0, 1), (3, .iload_n 1, 1), (4, .iload_n 2, 1), (5, .invokevirtual 47, 3), (8, .i2l, 1), (9, .lastore, 1), (10, .goto 19, 3), (13, .astore 4, 2), (15, .iconst 1, 1), (16, .ireturn, 1), (17, .astore 4, 2), (19, .iconst 2, 1), (20, .ireturn, 1), (21, .astore 4, 2), (23, .iconst 3, 1), (24, .ireturn, 1), (25, .astore 4, 2), (27, .iconst 4, 1), (28, .ireturn, 1), (29, .iconst 0, 1), (30, .ireturn, 1)]
def zT_L_join : List (Nat × Instr × Nat) := [(0, .aload_n 0, 1), (1, .iload_n 1, 1), (2, .iload_n 2, 1), (3, .invokevirtual 50, 3), (6, .goto 12, 3), (9, .astore_n 3, 1), (10, .iconst 1, 1), (11, .ireturn, 1), (12, .astore_n 3, 1), (13, .iconst 2, 1), (14, .ireturn, 1), (15, .astore_n 3, 1), (16, .iconst 3, 1), (17, .ireturn, 1), (18, .iconst 0, 1), (19, .ireturn, 1)]
def zT_L_state : List (Nat × Instr × Nat) := [(0, .aload_n 0, 1), (1, .iload_n 1, 1), (2, .iload_n 2, 1), (3, .invokevirtual 53, 3), (6, .goto 15, 3), (9, .astore_n 3, 1), (10, .iconst 1, 1), (11, .ireturn, 1), (12, .astore_n 3, 1), (13, .iconst 2, 1), (14, .ireturn, 1), (15, .astore_n 3, 1), (16, .iconst 3, 1), (17, .ireturn, 1), (18, .astore_n 3, 1), (19, .iconst 4, 1), (20, .ireturn, 1), (21, .iconst 0, 1), (22, .ireturn, 1)]
def zT_L_serial : List (Nat × Instr × Nat) := [(0, .aload_n 0, 1), (1, .iload_n 1, 1), (2, .lload_n 2, 1), (3, .invokevirtual 56, 3), (6, .goto 19, 3), (9, .astore 4, 2), (11, .iconst 1, 1), (12, .ireturn, 1), (13, .astore 4, 2), (15, .iconst 2, 1), (16, .ireturn, 1), (17, .astore 4, 2), (19, .iconst 3, 1), (20, .ireturn, 1), (21, .astore 4, 2), (23, .iconst 4, 1), (24, .ireturn, 1), (25, .iconst 0, 1), (26, .ireturn, 1)]
def zT_L_lost : List (Nat × Instr × Nat) := [(0, .aload_n 0, 1), (1, .iload_n 1, 1), (2, .iload_n 2, 1), (3, .invokevirtual 60, 3), (6, .goto 15, 3), (9, .astore_n 3, 1), (10, .iconst 1, 1), (11, .ireturn, 1), (12, .astore_n 3, 1), (13, .iconst 2, 1), (14, .ireturn, 1), (15, .astore_n 3, 1), (16, .iconst 3, 1), (17, .ireturn, 1), (18, .astore_n 3, 1), (19, .iconst 4, 1), (20, .ireturn, 1), (21, .iconst 0, 1), (22, .ireturn, 1)]
def zT_L_found : List (Nat × Instr × Nat) := [(0, .aload_n 0, 1), (1, .iload_n 1, 1), (2, .iload_n 2, 1), (3, .invokevirtual 63, 3), (6, .goto 15, 3), (9, .astore_n 3, 1), (10, .iconst 1, 1), (11, .ireturn, 1), (12, .astore_n 3, 1), (13, .iconst 2, 1), (14, .ireturn, 1), (15, .astore_n 3, 1), (16, .iconst 3, 1), (17, .ireturn, 1), (18, .astore_n 3, 1), (19, .iconst 4, 1), (20, .ireturn, 1), (21, .iconst 0, 1), (22, .ireturn, 1)]
def zT_L_weigh : List (Nat × Instr × Nat) := [(0, .aload_n 3, 1), (1, .iconst 0, 1), (2, .aload_n 0, 1), (3, .iload_n 1, 1), (4, .iload_n 2, 1), (5, .invokevirtual 66, 3), (8, .i2l, 1), (9, .lastore, 1), (10, .goto 19, 3), (13, .astore 4, 2), (15, .iconst 1, 1), (16, .ireturn, 1), (17, .astore 4, 2), (19, .iconst 2, 1), (20, .ireturn, 1), (21, .astore 4, 2), (23, .iconst 3, 1), (24, .ireturn, 1), (25, .astore 4, 2), (27, .iconst 4, 1), (28, .ireturn, 1), (29, .iconst 0, 1), (30, .ireturn, 1)]
def zT_L_day : List (Nat × Instr × Nat) := [(0, .aload_n 2, 1), (1, .iconst 0, 1), (2, .aload_n 0, 1), (3, .iload_n 1, 1), (4, .invokevirtual 69, 3), (7, .i2l, 1), (8, .lastore, 1), (9, .goto 6, 3), (12, .astore_n 3, 1), (13, .iconst 1, 1), (14, .ireturn, 1), (15, .iconst 0, 1), (16, .ireturn, 1)]
def zT_L_at : List (Nat × Instr × Nat) := [(0, .aload_n 3, 1), (1, .iconst 0, 1), (2, .aload_n 0, 1), (3, .iload_n 1, 1), (4, .iload_n 2, 1), (5, .invokevirtual 73, 3), (8, .i2l, 1), (9, .lastore, 1), (10, .goto 11, 3), (13, .astore 4, 2), (15, .iconst 1, 1), (16, .ireturn, 1), (17, .astore 4, 2), (19, .iconst 2, 1), (20, .ireturn, 1), (21, .iconst 0, 1), (22, .ireturn, 1)]
def zT_L_find : List (Nat × Instr × Nat) := [(0, .aload 5, 2), (2, .iconst 0, 1), (3, .aload_n 0, 1), (4, .iload_n 1, 1), (5, .iload_n 2, 1), (6, .iload_n 3, 1), (7, .iload 4, 2), (9, .invokevirtual 78, 3), (12, .i2l, 1), (13, .lastore, 1), (14, .goto 7, 3), (17, .astore 6, 2), (19, .iconst 1, 1), (20, .ireturn, 1), (21, .iconst 0, 1), (22, .ireturn, 1)]
def zT_L_sum : List (Nat × Instr × Nat) := [(0, .aload_n 3, 1), (1, .iconst 0, 1), (2, .aload_n 0, 1), (3, .iload_n 1, 1), (4, .iload_n 2, 1), (5, .invokevirtual 81, 3), (8, .lastore, 1), (9, .goto 7, 3), (12, .astore 4, 2), (14, .iconst 1, 1), (15, .ireturn, 1), (16, .iconst 0, 1), (17, .ireturn, 1)]
def zT_L_row : List (Nat × Instr × Nat) := [(0, .aload 4, 2), (2, .iconst 0, 1), (3, .aload_n 0, 1), (4, .iload_n 1, 1), (5, .iload_n 2, 1), (6, .iload_n 3, 1), (7, .invokevirtual 85, 3), (10, .i2l, 1), (11, .lastore, 1), (12, .goto 11, 3), (15, .astore 5, 2), (17, .iconst 1, 1), (18, .ireturn, 1), (19, .astore 5, 2), (21, .iconst 2, 1), (22, .ireturn, 1), (23, .iconst 0, 1), (24, .ireturn, 1)]
def zT_L_told : List (Nat × Instr × Nat) := [(0, .aload_n 3, 1), (1, .iconst 0, 1), (2, .aload_n 0, 1), (3, .iload_n 1, 1), (4, .iload_n 2, 1), (5, .invokevirtual 89, 3), (8, .i2l, 1), (9, .lastore, 1), (10, .goto 11, 3), (13, .astore 4, 2), (15, .iconst 1, 1), (16, .ireturn, 1), (17, .astore 4, 2), (19, .iconst 2, 1), (20, .ireturn, 1), (21, .iconst 0, 1), (22, .ireturn, 1)]
def zT_L_packed : List (Nat × Instr × Nat) := [(0, .aload_n 2, 1), (1, .iconst 0, 1), (2, .aload_n 0, 1), (3, .iload_n 1, 1), (4, .invokevirtual 92, 3), (7, .lastore, 1), (8, .goto 6, 3), (11, .astore_n 3, 1), (12, .iconst 1, 1), (13, .ireturn, 1), (14, .iconst 0, 1), (15, .ireturn, 1)]
def zT_L_law : List (Nat × Instr × Nat) := [(0, .new 8, 3), (3, .dup, 1), (4, .invokespecial 96, 3), (7, .astore_n 1, 1), (8, .new 97, 3), (11, .dup, 1), (12, .invokespecial 99, 3), (15, .astore_n 2, 1), (16, .iconst 1, 1), (17, .newarray .long, 2), (19, .astore_n 3, 1), (20, .iconst 0, 1), (21, .istore 4, 2), (23, .iload 4, 2), (25, .aload_n 0, 1), (26, .arraylength, 1), (27, .iconst 5, 1), (28, .isub, 1), (29, .if_icmp .gt 1464, 3), (32, .aload_n 0, 1), (33, .iload 4, 2), (35, .iaload, 1), (36, .bipush 31, 2), (38, .iand, 1), (39, .tableswitch 1448 0 22 #[105, 141, 189, 237, 305, 397, 445, 493, 529, 597, 645, 693, 773, 821, 869, 937, 993, 1061, 1153, 1220, 1300, 1368, 1423], 105), (144, .aload_n 1, 1), (145, .aload_n 0, 1), (146, .iload 4, 2), (148, .iconst 1, 1), (149, .iadd, 1), (150, .iaload, 1), (151, .invokestatic 100, 3), (154, .istore 5, 2), (156, .aload_n 2, 1), (157, .aload_n 0, 1), (158, .iload 4, 2), (160, .iconst 1, 1), (161, .iadd, 1), (162, .iaload, 1), (163, .invokevirtual 105, 3), (166, .aload_n 2, 1), (167, .invokevirtual 106, 3), (170, .iload 5, 2), (172, .if_icmp .eq 5, 3), (175, .iconst 0, 1), (176, .ireturn, 1), (177, .goto 1310, 3), (180, .aload_n 1, 1), (181, .aload_n 0, 1), (182, .iload 4, 2), (184, .iconst 1, 1), (185, .iadd, 1), (186, .iaload, 1), (187, .aload_n 0, 1), (188, .iload 4, 2), (190, .iconst 2, 1), (191, .iadd, 1), (192, .iaload, 1), (193, .invokestatic 110, 3), (196, .istore 5, 2), (198, .aload_n 2, 1), (199, .aload_n 0, 1), (200, .iload 4, 2), (202, .iconst 1, 1), (203, .iadd, 1), (204, .iaload, 1), (205, .aload_n 0, 1), (206, .iload 4, 2), (208, .iconst 2, 1), (209, .iadd, 1), (210, .iaload, 1), (211, .invokevirtual 113, 3), (214, .aload_n 2, 1), (215, .invokevirtual 106, 3), (218, .iload 5, 2), (220, .if_icmp .eq 5, 3), (223, .iconst 0, 1), (224, .ireturn, 1), (225, .goto 1262, 3), (228, .aload_n 1, 1), (229, .aload_n 0, 1), (230, .iload 4, 2), (232, .iconst 1, 1), (233, .iadd, 1), (234, .iaload, 1), (235, .aload_n 0, 1), (236, .iload 4, 2), (238, .iconst 2, 1), (239, .iadd, 1), (240, .iaload, 1), (241, .invokestatic 114, 3), (244, .istore 5, 2), (246, .aload_n 2, 1), (247, .aload_n 0, 1), (248, .iload 4, 2), (250, .iconst 1, 1), (251, .iadd, 1), (252, .iaload, 1), (253, .aload_n 0, 1), (254, .iload 4, 2), (256, .iconst 2, 1), (257, .iadd, 1), (258, .iaload, 1), (259, .invokevirtual 116, 3), (262, .aload_n 2, 1), (263, .invokevirtual 106, 3), (266, .iload 5, 2), (268, .if_icmp .eq 5, 3), (271, .iconst 0, 1), (272, .ireturn, 1), (273, .goto 1214, 3), (276, .aload_n 1, 1), (277, .aload_n 0, 1), (278, .iload 4, 2), (280, .iconst 1, 1), (281, .iadd, 1), (282, .iaload, 1), (283, .aload_n 0, 1), (284, .iload 4, 2), (286, .iconst 2, 1), (287, .iadd, 1), (288, .iaload, 1), (289, .aload_n 3, 1), (290, .invokestatic 117, 3), (293, .istore 5, 2), (295, .aload_n 2, 1), (296, .aload_n 0, 1), (297, .iload 4, 2), (299, .iconst 1, 1), (300, .iadd, 1), (301, .iaload, 1), (302, .aload_n 0, 1), (303, .iload 4, 2), (305, .iconst 2, 1), (306, .iadd, 1), (307, .iaload, 1), (308, .invokevirtual 120, 3), (311, .istore 6, 2), (313, .aload_n 2, 1), (314, .invokevirtual 106, 3), (317, .iload 5, 2), (319, .if_icmp .eq 5, 3), (322, .iconst 0, 1), (323, .ireturn, 1), (324, .iload 5, 2), (326, .ifCond .ne 15, 3), (329, .aload_n 3, 1), (330, .iconst 0, 1), (331, .laload, 1), (332, .iload 6, 2), (334, .i2l, 1), (335, .lcmp, 1), (336, .ifCond .eq 5, 3), (339, .iconst 0, 1), (340, .ireturn, 1), (341, .goto 1146, 3), (344, .aload_n 1, 1), (345, .aload_n 0, 1), (346, .iload 4, 2), (348, .iconst 1, 1), (349, .iadd, 1), (350, .iaload, 1), (351, .aload_n 0, 1), (352, .iload 4, 2), (354, .iconst 2, 1), (355, .iadd, 1), (356, .iaload, 1), (357, .aload_n 0, 1), (358, .iload 4, 2), (360, .iconst 3, 1), (361, .iadd, 1), (362, .iaload, 1), (363, .aload_n 0, 1), (364, .iload 4, 2), (366, .iconst 4, 1), (367, .iadd, 1), (368, .iaload, 1), (369, .aload_n 3, 1), (370, .invokestatic 121, 3), (373, .istore 5, 2), (375, .aload_n 2, 1), (376, .aload_n 0, 1), (377, .iload 4, 2), (379, .iconst 1, 1), (380, .iadd, 1), (381, .iaload, 1), (382, .aload_n 0, 1), (383, .iload 4, 2), (385, .iconst 2, 1), (386, .iadd, 1), (387, .iaload, 1), (388, .aload_n 0, 1), (389, .iload 4, 2), (391, .iconst 3, 1), (392, .iadd, 1), (393, .iaload, 1), (394, .aload_n 0, 1), (395, .iload 4, 2), (397, .iconst 4, 1), (398, .iadd, 1), (399, .iaload, 1), (400, .invokevirtual 124, 3), (403, .istore 6, 2), (405, .aload_n 2, 1), (406, .invokevirtual 106, 3), (409, .iload 5, 2), (411, .if_icmp .eq 5, 3), (414, .iconst 0, 1), (415, .ireturn, 1), (416, .iload 5, 2), (418, .ifCond .ne 15, 3), (421, .aload_n 3, 1), (422, .iconst 0, 1), (423, .laload, 1), (424, .iload 6, 2), (426, .i2l, 1), (427, .lcmp, 1), (428, .ifCond .eq 5, 3), (431, .iconst 0, 1), (432, .ireturn, 1), (433, .goto 1054, 3), (436, .aload_n 1, 1), (437, .aload_n 0, 1), (438, .iload 4, 2), (440, .iconst 1, 1), (441, .iadd, 1), (442, .iaload, 1), (443, .aload_n 0, 1), (444, .iload 4, 2), (446, .iconst 2, 1), (447, .iadd, 1), (448, .iaload, 1), (449, .invokestatic 125, 3), (452, .istore 5, 2), (454, .aload_n 2, 1), (455, .aload_n 0, 1), (456, .iload 4, 2), (458, .iconst 1, 1), (459, .iadd, 1), (460, .iaload, 1), (461, .aload_n 0, 1), (462, .iload 4, 2), (464, .iconst 2, 1), (465, .iadd, 1), (466, .iaload, 1), (467, .invokevirtual 127, 3), (470, .aload_n 2, 1), (471, .invokevirtual 106, 3), (474, .iload 5, 2), (476, .if_icmp .eq 5, 3), (479, .iconst 0, 1), (480, .ireturn, 1), (481, .goto 1006, 3), (484, .aload_n 1, 1), (485, .aload_n 0, 1), (486, .iload 4, 2), (488, .iconst 1, 1), (489, .iadd, 1), (490, .iaload, 1), (491, .aload_n 0, 1), (492, .iload 4, 2), (494, .iconst 2, 1), (495, .iadd, 1), (496, .iaload, 1), (497, .invokestatic 128, 3), (500, .istore 5, 2), (502, .aload_n 2, 1), (503, .aload_n 0, 1), (504, .iload 4, 2), (506, .iconst 1, 1), (507, .iadd, 1), (508, .iaload, 1), (509, .aload_n 0, 1), (510, .iload 4, 2), (512, .iconst 2, 1), (513, .iadd, 1), (514, .iaload, 1), (515, .invokevirtual 130, 3), (518, .aload_n 2, 1), (519, .invokevirtual 106, 3), (522, .iload 5, 2), (524, .if_icmp .eq 5, 3), (527, .iconst 0, 1), (528, .ireturn, 1), (529, .goto 958, 3), (532, .aload_n 1, 1), (533, .aload_n 0, 1), (534, .iload 4, 2), (536, .iconst 1, 1), (537, .iadd, 1), (538, .iaload, 1), (539, .invokestatic 131, 3), (542, .istore 5, 2), (544, .aload_n 2, 1), (545, .aload_n 0, 1), (546, .iload 4, 2), (548, .iconst 1, 1), (549, .iadd, 1), (550, .iaload, 1), (551, .invokevirtual 133, 3), (554, .aload_n 2, 1), (555, .invokevirtual 106, 3), (558, .iload 5, 2), (560, .if_icmp .eq 5, 3), (563, .iconst 0, 1), (564, .ireturn, 1), (565, .goto 922, 3), (568, .aload_n 1, 1), (569, .aload_n 0, 1), (570, .iload 4, 2), (572, .iconst 1, 1), (573, .iadd, 1), (574, .iaload, 1), (575, .aload_n 0, 1), (576, .iload 4, 2), (578, .iconst 2, 1), (579, .iadd, 1), (580, .iaload, 1), (581, .aload_n 3, 1), (582, .invokestatic 134, 3), (585, .istore 5, 2), (587, .aload_n 2, 1), (588, .aload_n 0, 1), (589, .iload 4, 2), (591, .iconst 1, 1), (592, .iadd, 1), (593, .iaload, 1), (594, .aload_n 0, 1), (595, .iload 4, 2), (597, .iconst 2, 1), (598, .iadd, 1), (599, .iaload, 1), (600, .invokevirtual 136, 3), (603, .istore 6, 2), (605, .aload_n 2, 1), (606, .invokevirtual 106, 3), (609, .iload 5, 2), (611, .if_icmp .eq 5, 3), (614, .iconst 0, 1), (615, .ireturn, 1), (616, .iload 5, 2), (618, .ifCond .ne 15, 3), (621, .aload_n 3, 1), (622, .iconst 0, 1), (623, .laload, 1), (624, .iload 6, 2), (626, .i2l, 1), (627, .lcmp, 1), (628, .ifCond .eq 5, 3), (631, .iconst 0, 1), (632, .ireturn, 1), (633, .goto 854, 3), (636, .aload_n 1, 1), (637, .aload_n 0, 1), (638, .iload 4, 2), (640, .iconst 1, 1), (641, .iadd, 1), (642, .iaload, 1), (643, .aload_n 0, 1), (644, .iload 4, 2), (646, .iconst 2, 1), (647, .iadd, 1), (648, .iaload, 1), (649, .invokestatic 137, 3), (652, .istore 5, 2), (654, .aload_n 2, 1), (655, .aload_n 0, 1), (656, .iload 4, 2), (658, .iconst 1, 1), (659, .iadd, 1), (660, .iaload, 1), (661, .aload_n 0, 1), (662, .iload 4, 2), (664, .iconst 2, 1), (665, .iadd, 1), (666, .iaload, 1), (667, .invokevirtual 139, 3), (670, .aload_n 2, 1), (671, .invokevirtual 106, 3), (674, .iload 5, 2), (676, .if_icmp .eq 5, 3), (679, .iconst 0, 1), (680, .ireturn, 1), (681, .goto 806, 3), (684, .aload_n 1, 1), (685, .aload_n 0, 1), (686, .iload 4, 2), (688, .iconst 1, 1), (689, .iadd, 1), (690, .iaload, 1), (691, .aload_n 0, 1), (692, .iload 4, 2), (694, .iconst 2, 1), (695, .iadd, 1), (696, .iaload, 1), (697, .invokestatic 140, 3), (700, .istore 5, 2), (702, .aload_n 2, 1), (703, .aload_n 0, 1), (704, .iload 4, 2), (706, .iconst 1, 1), (707, .iadd, 1), (708, .iaload, 1), (709, .aload_n 0, 1), (710, .iload 4, 2), (712, .iconst 2, 1), (713, .iadd, 1), (714, .iaload, 1), (715, .invokevirtual 142, 3), (718, .aload_n 2, 1), (719, .invokevirtual 106, 3), (722, .iload 5, 2), (724, .if_icmp .eq 5, 3), (727, .iconst 0, 1), (728, .ireturn, 1), (729, .goto 758, 3), (732, .aload_n 1, 1), (733, .aload_n 0, 1), (734, .iload 4, 2), (736, .iconst 1, 1), (737, .iadd, 1), (738, .iaload, 1), (739, .aload_n 0, 1), (740, .iload 4, 2), (742, .iconst 2, 1), (743, .iadd, 1), (744, .iaload, 1), (745, .i2l, 1), (746, .bipush 32, 2), (748, .lshl, 1), (749, .aload_n 0, 1), (750, .iload 4, 2), (752, .iconst 3, 1), (753, .iadd, 1), (754, .iaload, 1), (755, .i2l, 1), (756, .ldc2_w 143, 3), (759, .land, 1), (760, .lor, 1), (761, .invokestatic 145, 3), (764, .istore 5, 2), (766, .aload_n 2, 1), (767, .aload_n 0, 1), (768, .iload 4, 2), (770, .iconst 1, 1), (771, .iadd, 1), (772, .iaload, 1), (773, .aload_n 0, 1), (774, .iload 4, 2), (776, .iconst 2, 1), (777, .iadd, 1), (778, .iaload, 1), (779, .i2l, 1), (780, .bipush 32, 2), (782, .lshl, 1), (783, .aload_n 0, 1), (784, .iload 4, 2), (786, .iconst 3, 1), (787, .iadd, 1), (788, .iaload, 1), (789, .i2l, 1), (790, .ldc2_w 143, 3), (793, .land, 1), (794, .lor, 1), (795, .invokevirtual 148, 3), (798, .aload_n 2, 1), (799, .invokevirtual 106, 3), (802, .iload 5, 2), (804, .if_icmp .eq 5, 3), (807, .iconst 0, 1), (808, .ireturn, 1), (809, .goto 678, 3), (812, .aload_n 1, 1), (813, .aload_n 0, 1), (814, .iload 4, 2), (816, .iconst 1, 1), (817, .iadd, 1), (818, .iaload, 1), (819, .aload_n 0, 1), (820, .iload 4, 2), (822, .iconst 2, 1), (823, .iadd, 1), (824, .iaload, 1), (825, .invokestatic 149, 3), (828, .istore 5, 2), (830, .aload_n 2, 1), (831, .aload_n 0, 1), (832, .iload 4, 2), (834, .iconst 1, 1), (835, .iadd, 1), (836, .iaload, 1), (837, .aload_n 0, 1), (838, .iload 4, 2), (840, .iconst 2, 1), (841, .iadd, 1), (842, .iaload, 1), (843, .invokevirtual 151, 3), (846, .aload_n 2, 1), (847, .invokevirtual 106, 3), (850, .iload 5, 2), (852, .if_icmp .eq 5, 3), (855, .iconst 0, 1), (856, .ireturn, 1), (857, .goto 630, 3), (860, .aload_n 1, 1), (861, .aload_n 0, 1), (862, .iload 4, 2), (864, .iconst 1, 1), (865, .iadd, 1), (866, .iaload, 1), (867, .aload_n 0, 1), (868, .iload 4, 2), (870, .iconst 2, 1), (871, .iadd, 1), (872, .iaload, 1), (873, .invokestatic 152, 3), (876, .istore 5, 2), (878, .aload_n 2, 1), (879, .aload_n 0, 1), (880, .iload 4, 2), (882, .iconst 1, 1), (883, .iadd, 1), (884, .iaload, 1), (885, .aload_n 0, 1), (886, .iload 4, 2), (888, .iconst 2, 1), (889, .iadd, 1), (890, .iaload, 1), (891, .invokevirtual 154, 3), (894, .aload_n 2, 1), (895, .invokevirtual 106, 3), (898, .iload 5, 2), (900, .if_icmp .eq 5, 3), (903, .iconst 0, 1), (904, .ireturn, 1), (905, .goto 582, 3), (908, .aload_n 1, 1), (909, .aload_n 0, 1), (910, .iload 4, 2), (912, .iconst 1, 1), (913, .iadd, 1), (914, .iaload, 1), (915, .aload_n 0, 1), (916, .iload 4, 2), (918, .iconst 2, 1), (919, .iadd, 1), (920, .iaload, 1), (921, .aload_n 3, 1), (922, .invokestatic 155, 3), (925, .istore 5, 2), (927, .aload_n 2, 1), (928, .aload_n 0, 1), (929, .iload 4, 2), (931, .iconst 1, 1), (932, .iadd, 1), (933, .iaload, 1), (934, .aload_n 0, 1), (935, .iload 4, 2), (937, .iconst 2, 1), (938, .iadd, 1), (939, .iaload, 1), (940, .invokevirtual 157, 3), (943, .istore 6, 2), (945, .aload_n 2, 1), (946, .invokevirtual 106, 3), (949, .iload 5, 2), (951, .if_icmp .eq 5, 3), (954, .iconst 0, 1), (955, .ireturn, 1), (956, .iload 5, 2), (958, .ifCond .ne 15, 3), (961, .aload_n 3, 1), (962, .iconst 0, 1), (963, .laload, 1), (964, .iload 6, 2), (966, .i2l, 1), (967, .lcmp, 1), (968, .ifCond .eq 5, 3), (971, .iconst 0, 1), (972, .ireturn, 1), (973, .goto 514, 3), (976, .aload_n 1, 1), (977, .aload_n 0, 1), (978, .iload 4, 2), (980, .iconst 1, 1), (981, .iadd, 1), (982, .iaload, 1), (983, .aload_n 3, 1), (984, .invokestatic 158, 3), (987, .istore 5, 2), (989, .aload_n 2, 1), (990, .aload_n 0, 1), (991, .iload 4, 2), (993, .iconst 1, 1), (994, .iadd, 1), (995, .iaload, 1), (996, .invokevirtual 161, 3), (999, .istore 6, 2), (1001, .aload_n 2, 1), (1002, .invokevirtual 106, 3), (1005, .iload 5, 2), (1007, .if_icmp .eq 5, 3), (1010, .iconst 0, 1), (1011, .ireturn, 1), (1012, .iload 5, 2), (1014, .ifCond .ne 15, 3), (1017, .aload_n 3, 1), (1018, .iconst 0, 1), (1019, .laload, 1), (1020, .iload 6, 2), (1022, .i2l, 1), (1023, .lcmp, 1), (1024, .ifCond .eq 5, 3), (1027, .iconst 0, 1), (1028, .ireturn, 1), (1029, .goto 458, 3), (1032, .aload_n 1, 1), (1033, .aload_n 0, 1), (1034, .iload 4, 2), (1036, .iconst 1, 1), (1037, .iadd, 1), (1038, .iaload, 1), (1039, .aload_n 0, 1), (1040, .iload 4, 2), (1042, .iconst 2, 1), (1043, .iadd, 1), (1044, .iaload, 1), (1045, .aload_n 3, 1), (1046, .invokestatic 162, 3), (1049, .istore 5, 2), (1051, .aload_n 2, 1), (1052, .aload_n 0, 1), (1053, .iload 4, 2), (1055, .iconst 1, 1), (1056, .iadd, 1), (1057, .iaload, 1), (1058, .aload_n 0, 1), (1059, .iload 4, 2), (1061, .iconst 2, 1), (1062, .iadd, 1), (1063, .iaload, 1), (1064, .invokevirtual 164, 3), (1067, .istore 6, 2), (1069, .aload_n 2, 1), (1070, .invokevirtual 106, 3), (1073, .iload 5, 2), (1075, .if_icmp .eq 5, 3), (1078, .iconst 0, 1), (1079, .ireturn, 1), (1080, .iload 5, 2), (1082, .ifCond .ne 15, 3), (1085, .aload_n 3, 1), (1086, .iconst 0, 1), (1087, .laload, 1), (1088, .iload 6, 2), (1090, .i2l, 1), (1091, .lcmp, 1), (1092, .ifCond .eq 5, 3), (1095, .iconst 0, 1), (1096, .ireturn, 1), (1097, .goto 390, 3), (1100, .aload_n 1, 1), (1101, .aload_n 0, 1), (1102, .iload 4, 2), (1104, .iconst 1, 1), (1105, .iadd, 1), (1106, .iaload, 1), (1107, .aload_n 0, 1), (1108, .iload 4, 2), (1110, .iconst 2, 1), (1111, .iadd, 1), (1112, .iaload, 1), (1113, .aload_n 0, 1), (1114, .iload 4, 2), (1116, .iconst 3, 1), (1117, .iadd, 1), (1118, .iaload, 1), (1119, .aload_n 0, 1), (1120, .iload 4, 2), (1122, .iconst 4, 1), (1123, .iadd, 1), (1124, .iaload, 1), (1125, .aload_n 3, 1), (1126, .invokestatic 165, 3), (1129, .istore 5, 2), (1131, .aload_n 2, 1), (1132, .aload_n 0, 1), (1133, .iload 4, 2), (1135, .iconst 1, 1), (1136, .iadd, 1), (1137, .iaload, 1), (1138, .aload_n 0, 1), (1139, .iload 4, 2), (1141, .iconst 2, 1), (1142, .iadd, 1), (1143, .iaload, 1), (1144, .aload_n 0, 1), (1145, .iload 4, 2), (1147, .iconst 3, 1), (1148, .iadd, 1), (1149, .iaload, 1), (1150, .aload_n 0, 1), (1151, .iload 4, 2), (1153, .iconst 4, 1), (1154, .iadd, 1), (1155, .iaload, 1), (1156, .invokevirtual 167, 3), (1159, .istore 6, 2), (1161, .aload_n 2, 1), (1162, .invokevirtual 106, 3), (1165, .iload 5, 2), (1167, .if_icmp .eq 5, 3), (1170, .iconst 0, 1), (1171, .ireturn, 1), (1172, .iload 5, 2), (1174, .ifCond .ne 15, 3), (1177, .aload_n 3, 1), (1178, .iconst 0, 1), (1179, .laload, 1), (1180, .iload 6, 2), (1182, .i2l, 1), (1183, .lcmp, 1), (1184, .ifCond .eq 5, 3), (1187, .iconst 0, 1), (1188, .ireturn, 1), (1189, .goto 298, 3), (1192, .aload_n 1, 1), (1193, .aload_n 0, 1), (1194, .iload 4, 2), (1196, .iconst 1, 1), (1197, .iadd, 1), (1198, .iaload, 1), (1199, .aload_n 0, 1), (1200, .iload 4, 2), (1202, .iconst 2, 1), (1203, .iadd, 1), (1204, .iaload, 1), (1205, .aload_n 3, 1), (1206, .invokestatic 168, 3), (1209, .istore 5, 2), (1211, .aload_n 2, 1), (1212, .aload_n 0, 1), (1213, .iload 4, 2), (1215, .iconst 1, 1), (1216, .iadd, 1), (1217, .iaload, 1), (1218, .aload_n 0, 1), (1219, .iload 4, 2), (1221, .iconst 2, 1), (1222, .iadd, 1), (1223, .iaload, 1), (1224, .invokevirtual 170, 3), (1227, .lstore 6, 2), (1229, .aload_n 2, 1), (1230, .invokevirtual 106, 3), (1233, .iload 5, 2), (1235, .if_icmp .eq 5, 3), (1238, .iconst 0, 1), (1239, .ireturn, 1), (1240, .iload 5, 2), (1242, .ifCond .ne 14, 3), (1245, .aload_n 3, 1), (1246, .iconst 0, 1), (1247, .laload, 1), (1248, .lload 6, 2), (1250, .lcmp, 1), (1251, .ifCond .eq 5, 3), (1254, .iconst 0, 1), (1255, .ireturn, 1), (1256, .goto 231, 3), (1259, .aload_n 1, 1), (1260, .aload_n 0, 1), (1261, .iload 4, 2), (1263, .iconst 1, 1), (1264, .iadd, 1), (1265, .iaload, 1), (1266, .aload_n 0, 1), (1267, .iload 4, 2), (1269, .iconst 2, 1), (1270, .iadd, 1), (1271, .iaload, 1), (1272, .aload_n 0, 1), (1273, .iload 4, 2), (1275, .iconst 3, 1), (1276, .iadd, 1), (1277, .iaload, 1), (1278, .aload_n 3, 1), (1279, .invokestatic 171, 3), (1282, .istore 5, 2), (1284, .aload_n 2, 1), (1285, .aload_n 0, 1), (1286, .iload 4, 2), (1288, .iconst 1, 1), (1289, .iadd, 1), (1290, .iaload, 1), (1291, .aload_n 0, 1), (1292, .iload 4, 2), (1294, .iconst 2, 1), (1295, .iadd, 1), (1296, .iaload, 1), (1297, .aload_n 0, 1), (1298, .iload 4, 2), (1300, .iconst 3, 1), (1301, .iadd, 1), (1302, .iaload, 1), (1303, .invokevirtual 174, 3), (1306, .istore 6, 2), (1308, .aload_n 2, 1), (1309, .invokevirtual 106, 3), (1312, .iload 5, 2), (1314, .if_icmp .eq 5, 3), (1317, .iconst 0, 1), (1318, .ireturn, 1), (1319, .iload 5, 2), (1321, .ifCond .ne 15, 3), (1324, .aload_n 3, 1), (1325, .iconst 0, 1), (1326, .laload, 1), (1327, .iload 6, 2), (1329, .i2l, 1), (1330, .lcmp, 1), (1331, .ifCond .eq 5, 3), (1334, .iconst 0, 1), (1335, .ireturn, 1), (1336, .goto 151, 3), (1339, .aload_n 1, 1), (1340, .aload_n 0, 1), (1341, .iload 4, 2), (1343, .iconst 1, 1), (1344, .iadd, 1), (1345, .iaload, 1), (1346, .aload_n 0, 1), (1347, .iload 4, 2), (1349, .iconst 2, 1), (1350, .iadd, 1), (1351, .iaload, 1), (1352, .aload_n 3, 1), (1353, .invokestatic 175, 3), (1356, .istore 5, 2), (1358, .aload_n 2, 1), (1359, .aload_n 0, 1), (1360, .iload 4, 2), (1362, .iconst 1, 1), (1363, .iadd, 1), (1364, .iaload, 1), (1365, .aload_n 0, 1), (1366, .iload 4, 2), (1368, .iconst 2, 1), (1369, .iadd, 1), (1370, .iaload, 1), (1371, .invokevirtual 177, 3), (1374, .istore 6, 2), (1376, .aload_n 2, 1), (1377, .invokevirtual 106, 3), (1380, .iload 5, 2), (1382, .if_icmp .eq 5, 3), (1385, .iconst 0, 1), (1386, .ireturn, 1), (1387, .iload 5, 2), (1389, .ifCond .ne 15, 3), (1392, .aload_n 3, 1), (1393, .iconst 0, 1), (1394, .laload, 1), (1395, .iload 6, 2), (1397, .i2l, 1), (1398, .lcmp, 1), (1399, .ifCond .eq 5, 3), (1402, .iconst 0, 1), (1403, .ireturn, 1), (1404, .goto 83, 3), (1407, .aload_n 1, 1), (1408, .aload_n 0, 1), (1409, .iload 4, 2), (1411, .iconst 1, 1), (1412, .iadd, 1), (1413, .iaload, 1), (1414, .aload_n 3, 1), (1415, .invokestatic 178, 3), (1418, .istore 5, 2), (1420, .aload_n 2, 1), (1421, .aload_n 0, 1), (1422, .iload 4, 2), (1424, .iconst 1, 1), (1425, .iadd, 1), (1426, .iaload, 1), (1427, .invokevirtual 180, 3), (1430, .lstore 6, 2), (1432, .aload_n 2, 1), (1433, .invokevirtual 106, 3), (1436, .iload 5, 2), (1438, .if_icmp .eq 5, 3), (1441, .iconst 0, 1), (1442, .ireturn, 1), (1443, .iload 5, 2), (1445, .ifCond .ne 14, 3), (1448, .aload_n 3, 1), (1449, .iconst 0, 1), (1450, .laload, 1), (1451, .lload 6, 2), (1453, .lcmp, 1), (1454, .ifCond .eq 5, 3), (1457, .iconst 0, 1), (1458, .ireturn, 1), (1459, .goto 28, 3), (1462, .aload_n 1, 1), (1463, .aload_n 0, 1), (1464, .iload 4, 2), (1466, .iconst 1, 1), (1467, .iadd, 1), (1468, .iaload, 1), (1469, .invokevirtual 181, 3), (1472, .aload_n 2, 1), (1473, .aload_n 0, 1), (1474, .iload 4, 2), (1476, .iconst 1, 1), (1477, .iadd, 1), (1478, .iaload, 1), (1479, .invokevirtual 184, 3), (1482, .if_icmp .eq 5, 3), (1485, .iconst 0, 1), (1486, .ireturn, 1), (1487, .iinc 4 5, 3), (1490, .goto (-1467), 3), (1493, .iconst 1, 1), (1494, .ireturn, 1)]
/-- a method: its name, bytes, locals, result, handlers, the number of its type, how many values it takes -/
abbrev zM : Type := MethodName × ByteArray × Nat × Option FieldType × List (Nat × Nat × Nat × Nat) × Nat × Nat
def zMs : List zM := [
  (yX0_init, cX0_init, 1, none, [], 0, 1),
  (yX0_clear, cX0_clear, 1, none, [], 0, 1),
  (yX0_hasRoom, cX0_hasRoom, 2, (some .boolean), [], 0, 2),
  (yX0_add, cX0_add, 5, none, [], 0, 5),
  (yX0_seek, cX0_seek, 5, (some .int), [], 0, 3),
  (yX0_read, cX0_read, 3, (some .int), [], 0, 3),
  (yX1_init, cX1_init, 2, none, [], 1, 2),
  (yX1_be, cX1_be, 6, none, [], 1, 6),
  (yX1_stand, cX1_stand, 4, none, [], 1, 4),
  (yX1_stands, cX1_stands, 1, (some .boolean), [], 1, 1),
  (yX1_isOver, cX1_isOver, 2, (some .boolean), [], 1, 2),
  (yX1_expire, cX1_expire, 3, (some .boolean), [], 1, 2),
  (yX1_canBecome, cX1_canBecome, 3, (some .boolean), [], 1, 3),
  (yX1_depth, cX1_depth, 3, (some .int), [], 1, 1),
  (yX1_liesWithin, cX1_liesWithin, 4, (some .boolean), [], 1, 2),
  (yX1_matches, cX1_matches, 4, (some .boolean), [], 1, 4),
  (yX1_isLike, cX1_isLike, 2, (some .boolean), [], 1, 2),
  (yX1_pack, cX1_pack, 3, (some .long), [], 1, 1),
  (yX2_init, cX2_init, 2, none, [], 2, 1),
  (yX2_rows, cX2_rows, 2, none, [], 2, 2),
  (yX2_place, cX2_place, 3, none, [], 2, 3),
  (yX2_good, cX2_good, 3, none, [], 2, 3),
  (yX2_lot, cX2_lot, 4, (some .int), [], 2, 3),
  (yX2_unit, cX2_unit, 6, (some .int), [], 2, 5),
  (yX2_move, cX2_move, 4, none, [], 2, 3),
  (yX2_into, cX2_into, 5, none, [], 2, 3),
  (yX2_out, cX2_out, 3, none, [], 2, 2),
  (yX2_split, cX2_split, 5, (some .int), [], 2, 3),
  (yX2_join, cX2_join, 5, none, [], 2, 3),
  (yX2_state, cX2_state, 4, none, [], 2, 3),
  (yX2_serial, cX2_serial, 5, none, [], 2, 3),
  (yX2_lost, cX2_lost, 4, none, [], 2, 3),
  (yX2_found, cX2_found, 4, none, [], 2, 3),
  (yX2_weigh, cX2_weigh, 4, (some .int), [], 2, 3),
  (yX2_day, cX2_day, 4, (some .int), [], 2, 2),
  (yX2_at, cX2_at, 6, (some .int), [], 2, 3),
  (yX2_find, cX2_find, 7, (some .int), [], 2, 5),
  (yX2_sum, cX2_sum, 7, (some .long), [], 2, 3),
  (yX2_row, cX2_row, 5, (some .int), [], 2, 4),
  (yX2_told, cX2_told, 4, (some .int), [], 2, 3),
  (yX2_packed, cX2_packed, 2, (some .long), [], 2, 2),
  (yX2_count, cX2_count, 2, (some .int), [], 2, 2),
  (yX2_isWithin, cX2_isWithin, 3, (some .boolean), [], 2, 3),
  (yX2_checkRange, cX2_checkRange, 3, none, [], 2, 3),
  (yX2_checkPlace, cX2_checkPlace, 1, none, [], 2, 1),
  (yX2_checkStands, cX2_checkStands, 1, none, [], 2, 1),
  (yX2_unitOf, cX2_unitOf, 2, (some (.object "UnitRows$Unit")), [], 2, 2),
  (yX2_needRows, cX2_needRows, 2, none, [], 2, 2),
  (yX2_needSpace, cX2_needSpace, 3, none, [], 2, 3),
  (yX2_nextUnit, cX2_nextUnit, 2, (some (.object "UnitRows$Unit")), [], 2, 1),
  (yX2_addRow, cX2_addRow, 4, none, [], 2, 4),
  (yX2_gramsOf, cX2_gramsOf, 2, (some .int), [], 2, 2),
  (yX2_unitsAt, cX2_unitsAt, 4, (some .int), [], 2, 2),
  (yX2_unitsStanding, cX2_unitsStanding, 3, (some .int), [], 2, 1),
  (yX2_unitsWithin, cX2_unitsWithin, 4, (some .int), [], 2, 2),
  (yX2_levels, cX2_levels, 4, (some .int), [], 2, 2),
  (yX2_carry, cX2_carry, 4, none, [], 2, 3),
  (yX2_takeAway, cX2_takeAway, 4, none, [], 2, 3),
  (yX2_canLieIn, cX2_canLieIn, 3, (some .boolean), [], 2, 3),
  (yX2_canJoin, cX2_canJoin, 3, (some .boolean), [], 2, 3),
  (yX2_isPlain, cX2_isPlain, 2, (some .boolean), [], 2, 2),
  (yX2_isSerialInUse, cX2_isSerialInUse, 4, (some .boolean), [], 2, 2),
  (yX3_init, cX3_init, 2, none, [], 3, 1),
  (yX3_thrown, cX3_thrown, 1, (some .int), [], 3, 1),
  (yX3_in, cX3_in, 6, (some .boolean), [], 3, 3),
  (yX3_isUnit, cX3_isUnit, 2, (some .boolean), [], 3, 2),
  (yX3_stands, cX3_stands, 2, (some .boolean), [], 3, 2),
  (yX3_rows, cX3_rows, 2, none, [], 3, 2),
  (yX3_standingAt, cX3_standingAt, 4, (some .int), [], 3, 2),
  (yX3_place, cX3_place, 3, none, [], 3, 3),
  (yX3_good, cX3_good, 3, none, [], 3, 3),
  (yX3_lot, cX3_lot, 3, (some .int), [], 3, 3),
  (yX3_isOver, cX3_isOver, 2, (some .boolean), [], 3, 2),
  (yX3_act, cX3_act, 4, none, [], 3, 4),
  (yX3_make, cX3_make, 8, (some .int), [], 3, 7),
  (yX3_unit, cX3_unit, 5, (some .int), [], 3, 5),
  (yX3_isIn, cX3_isIn, 4, (some .boolean), [], 3, 3),
  (yX3_load, cX3_load, 4, (some .int), [], 3, 2),
  (yX3_depth, cX3_depth, 4, (some .int), [], 3, 2),
  (yX3_move, cX3_move, 4, none, [], 3, 3),
  (yX3_tall, cX3_tall, 4, (some .int), [], 3, 2),
  (yX3_into, cX3_into, 3, none, [], 3, 3),
  (yX3_out, cX3_out, 2, none, [], 3, 2),
  (yX3_split, cX3_split, 3, (some .int), [], 3, 3),
  (yX3_areAlike, cX3_areAlike, 3, (some .boolean), [], 3, 3),
  (yX3_join, cX3_join, 3, none, [], 3, 3),
  (yX3_leave, cX3_leave, 4, none, [], 3, 3),
  (yX3_mayBecome, cX3_mayBecome, 4, (some .boolean), [], 3, 3),
  (yX3_state, cX3_state, 3, none, [], 3, 3),
  (yX3_serial, cX3_serial, 5, none, [], 3, 3),
  (yX3_lost, cX3_lost, 3, none, [], 3, 3),
  (yX3_found, cX3_found, 3, none, [], 3, 3),
  (yX3_weigh, cX3_weigh, 3, (some .int), [], 3, 3),
  (yX3_day, cX3_day, 4, (some .int), [], 3, 2),
  (yX3_at, cX3_at, 5, (some .int), [], 3, 3),
  (yX3_find, cX3_find, 8, (some .int), [], 3, 5),
  (yX3_sum, cX3_sum, 6, (some .long), [], 3, 3),
  (yX3_row, cX3_row, 7, (some .int), [], 3, 4),
  (yX3_told, cX3_told, 3, (some .int), [], 3, 3),
  (yX3_packed, cX3_packed, 2, (some .long), [], 3, 2),
  (yX3_count, cX3_count, 4, (some .int), [], 3, 2),
  (yL_rows, cL_rows, 3, (some .int), [(0, 5, 8, 13), (0, 5, 11, 15)], 4, 2),
  (yL_place, cL_place, 4, (some .int), [(0, 6, 9, 15), (0, 6, 12, 21)], 4, 3),
  (yL_good, cL_good, 4, (some .int), [(0, 6, 9, 15)], 4, 3),
  (yL_lot, cL_lot, 5, (some .int), [(0, 10, 13, 15), (0, 10, 17, 30)], 4, 4),
  (yL_unit, cL_unit, 7, (some .int), [(0, 14, 17, 36), (0, 14, 21, 15), (0, 14, 25, 30)], 4, 6),
  (yL_move, cL_move, 4, (some .int), [(0, 6, 9, 36), (0, 6, 12, 15), (0, 6, 15, 21), (0, 6, 18, 30)], 4, 3),
  (yL_into, cL_into, 4, (some .int), [(0, 6, 9, 36), (0, 6, 12, 21), (0, 6, 15, 30)], 4, 3),
  (yL_out, cL_out, 3, (some .int), [(0, 5, 8, 36), (0, 5, 11, 21), (0, 5, 14, 30)], 4, 2),
  (yL_split, cL_split, 5, (some .int), [(0, 10, 13, 36), (0, 10, 17, 15), (0, 10, 21, 21), (0, 10, 25, 30)], 4, 4),
  (yL_join, cL_join, 4, (some .int), [(0, 6, 9, 36), (0, 6, 12, 21), (0, 6, 15, 30)], 4, 3),
  (yL_state, cL_state, 4, (some .int), [(0, 6, 9, 36), (0, 6, 12, 15), (0, 6, 15, 21), (0, 6, 18, 30)], 4, 3),
  (yL_serial, cL_serial, 5, (some .int), [(0, 6, 9, 36), (0, 6, 13, 15), (0, 6, 17, 21), (0, 6, 21, 30)], 4, 3),
  (yL_lost, cL_lost, 4, (some .int), [(0, 6, 9, 36), (0, 6, 12, 15), (0, 6, 15, 21), (0, 6, 18, 30)], 4, 3),
  (yL_found, cL_found, 4, (some .int), [(0, 6, 9, 36), (0, 6, 12, 15), (0, 6, 15, 21), (0, 6, 18, 30)], 4, 3),
  (yL_weigh, cL_weigh, 5, (some .int), [(0, 10, 13, 36), (0, 10, 17, 15), (0, 10, 21, 21), (0, 10, 25, 30)], 4, 4),
  (yL_day, cL_day, 4, (some .int), [(0, 9, 12, 15)], 4, 3),
  (yL_at, cL_at, 5, (some .int), [(0, 10, 13, 15), (0, 10, 17, 76)], 4, 4),
  (yL_find, cL_find, 7, (some .int), [(0, 14, 17, 15)], 4, 6),
  (yL_sum, cL_sum, 5, (some .int), [(0, 9, 12, 15)], 4, 4),
  (yL_row, cL_row, 6, (some .int), [(0, 12, 15, 36), (0, 12, 19, 15)], 4, 5),
  (yL_told, cL_told, 5, (some .int), [(0, 10, 13, 36), (0, 10, 17, 15)], 4, 4),
  (yL_packed, cL_packed, 4, (some .int), [(0, 8, 11, 36)], 4, 3),
  (x, code, 8, (some .boolean), [], 4, 1)]
def zTs : List (List (Nat × Instr × Nat)) := [zT_X0_init, zT_X0_clear, zT_X0_hasRoom, zT_X0_add, zT_X0_seek, zT_X0_read, zT_X1_init, zT_X1_be, zT_X1_stand, zT_X1_stands, zT_X1_isOver, zT_X1_expire, zT_X1_canBecome, zT_X1_depth, zT_X1_liesWithin, zT_X1_matches, zT_X1_isLike, zT_X1_pack, zT_X2_init, zT_X2_rows, zT_X2_place, zT_X2_good, zT_X2_lot, zT_X2_unit, zT_X2_move, zT_X2_into, zT_X2_out, zT_X2_split, zT_X2_join, zT_X2_state, zT_X2_serial, zT_X2_lost, zT_X2_found, zT_X2_weigh, zT_X2_day, zT_X2_at, zT_X2_find, zT_X2_sum, zT_X2_row, zT_X2_told, zT_X2_packed, zT_X2_count, zT_X2_isWithin, zT_X2_checkRange, zT_X2_checkPlace, zT_X2_checkStands, zT_X2_unitOf, zT_X2_needRows, zT_X2_needSpace, zT_X2_nextUnit, zT_X2_addRow, zT_X2_gramsOf, zT_X2_unitsAt, zT_X2_unitsStanding, zT_X2_unitsWithin, zT_X2_levels, zT_X2_carry, zT_X2_takeAway, zT_X2_canLieIn, zT_X2_canJoin, zT_X2_isPlain, zT_X2_isSerialInUse, zT_X3_init, zT_X3_thrown, zT_X3_in, zT_X3_isUnit, zT_X3_stands, zT_X3_rows, zT_X3_standingAt, zT_X3_place, zT_X3_good, zT_X3_lot, zT_X3_isOver, zT_X3_act, zT_X3_make, zT_X3_unit, zT_X3_isIn, zT_X3_load, zT_X3_depth, zT_X3_move, zT_X3_tall, zT_X3_into, zT_X3_out, zT_X3_split, zT_X3_areAlike, zT_X3_join, zT_X3_leave, zT_X3_mayBecome, zT_X3_state, zT_X3_serial, zT_X3_lost, zT_X3_found, zT_X3_weigh, zT_X3_day, zT_X3_at, zT_X3_find, zT_X3_sum, zT_X3_row, zT_X3_told, zT_X3_packed, zT_X3_count, zT_L_rows, zT_L_place, zT_L_good, zT_L_lot, zT_L_unit, zT_L_move, zT_L_into, zT_L_out, zT_L_split, zT_L_join, zT_L_state, zT_L_serial, zT_L_lost, zT_L_found, zT_L_weigh, zT_L_day, zT_L_at, zT_L_find, zT_L_sum, zT_L_row, zT_L_told, zT_L_packed, zT_L_law]
def zP_0 : List (Nat × Nat × Nat × Nat) := [(3, 9, 0, 0), (9, 0, 0, 0), (15, 0, 0, 1), (18, 0, 0, 2), (21, 0, 0, 3), (24, 0, 0, 4), (28, 1, 2, 0), (32, 3, 42, 0)]
def zP_1 : List (Nat × Nat × Nat × Nat) := [(3, 9, 0, 0), (9, 0, 1, 0), (15, 0, 1, 1), (18, 0, 1, 2), (21, 0, 1, 3), (24, 0, 1, 4), (27, 0, 1, 5), (30, 0, 1, 9), (34, 0, 1, 6), (37, 0, 1, 7), (40, 0, 1, 8), (44, 1, 10, 0), (48, 1, 9, 0)]
def zP_2 : List (Nat × Nat × Nat × Nat) := [(1, 9, 0, 0), (9, 0, 2, 0), (13, 0, 2, 1), (16, 0, 2, 2), (19, 0, 2, 3), (22, 6, 1, 0), (24, 0, 2, 4), (28, 6, 0, 0), (30, 5, 0, 0), (31, 0, 2, 5), (35, 0, 2, 6), (39, 0, 2, 7), (42, 0, 2, 8), (45, 0, 2, 9), (48, 4, 6, 0), (51, 7, 0, 0), (55, 8, 0, 0), (58, 2, 43, 0), (62, 1, 1, 0), (65, 2, 44, 0), (68, 1, 52, 0), (72, 7, 2, 0), (76, 8, 2, 0), (77, 7, 3, 0), (81, 8, 3, 0), (82, 2, 42, 0), (86, 7, 4, 0), (90, 8, 4, 0), (91, 1, 47, 0), (94, 1, 48, 0), (98, 1, 49, 0), (102, 1, 7, 0), (106, 1, 10, 0), (110, 1, 8, 0), (114, 1, 50, 0), (118, 0, 1, 0), (121, 1, 46, 0), (125, 2, 45, 0), (129, 0, 1, 7), (132, 0, 1, 8), (138, 1, 54, 0), (142, 1, 56, 0), (146, 1, 58, 0), (154, 0, 1, 5), (157, 1, 60, 0), (163, 0, 1, 1), (166, 0, 1, 2), (169, 0, 1, 3), (172, 0, 1, 4), (175, 0, 1, 6), (178, 1, 59, 0), (183, 1, 57, 0), (186, 1, 12, 0), (194, 7, 1, 0), (198, 8, 1, 0), (199, 0, 1, 9), (203, 1, 61, 0), (212, 1, 51, 0), (215, 1, 11, 0), (218, 7, 5, 0), (222, 8, 5, 0), (225, 1, 15, 0), (228, 1, 4, 0), (234, 1, 5, 0), (237, 1, 13, 0), (243, 1, 17, 0), (247, 1, 53, 0), (250, 0, 0, 4), (255, 1, 9, 0), (263, 1, 2, 0), (272, 1, 3, 0), (276, 1, 14, 0), (279, 10, 0, 0), (284, 1, 55, 0), (287, 1, 16, 0)]
def zP_3 : List (Nat × Nat × Nat × Nat) := [(1, 9, 0, 0), (7, 0, 3, 2), (13, 0, 3, 3), (16, 0, 3, 5), (19, 0, 3, 6), (22, 0, 3, 7), (26, 0, 3, 9), (29, 0, 3, 10), (32, 0, 3, 11), (35, 0, 3, 12), (38, 0, 3, 13), (41, 0, 3, 14), (44, 0, 3, 15), (48, 0, 3, 17), (51, 0, 3, 18), (54, 0, 3, 19), (57, 0, 3, 20), (60, 0, 3, 21), (64, 0, 3, 0), (67, 0, 3, 8), (70, 2, 64, 0), (74, 0, 3, 16), (77, 1, 66, 0), (85, 1, 68, 0), (95, 0, 3, 4), (98, 0, 3, 1), (101, 1, 73, 0), (105, 1, 72, 0), (108, 1, 74, 0), (112, 1, 76, 0), (116, 1, 65, 0), (119, 1, 77, 0), (122, 1, 78, 0), (125, 1, 80, 0), (128, 1, 84, 0), (131, 1, 86, 0), (137, 1, 87, 0)]
def zP_4 : List (Nat × Nat × Nat × Nat) := [(7, 1, 19, 0), (8, 6, 2, 0), (13, 7, 0, 0), (15, 7, 1, 0), (17, 1, 20, 0), (21, 7, 2, 0), (23, 1, 21, 0), (26, 1, 22, 0), (30, 7, 3, 0), (32, 1, 23, 0), (36, 7, 4, 0), (38, 1, 24, 0), (41, 1, 25, 0), (44, 1, 26, 0), (47, 1, 27, 0), (50, 1, 28, 0), (53, 1, 29, 0), (56, 1, 30, 0), (60, 1, 31, 0), (63, 1, 32, 0), (66, 1, 33, 0), (69, 1, 34, 0), (73, 1, 35, 0), (76, 7, 5, 0), (78, 1, 36, 0), (81, 1, 37, 0), (85, 1, 38, 0), (89, 1, 39, 0), (92, 1, 40, 0), (96, 4, 18, 0), (97, 6, 3, 0), (99, 4, 62, 0), (100, 2, 101, 0), (105, 1, 67, 0), (106, 1, 63, 0), (110, 2, 102, 0), (113, 1, 69, 0), (114, 2, 103, 0), (116, 1, 70, 0), (117, 2, 104, 0), (120, 1, 71, 0), (121, 2, 105, 0), (124, 1, 75, 0), (125, 2, 106, 0), (127, 1, 79, 0), (128, 2, 107, 0), (130, 1, 81, 0), (131, 2, 108, 0), (133, 1, 82, 0), (134, 2, 109, 0), (136, 1, 83, 0), (137, 2, 110, 0), (139, 1, 85, 0), (140, 2, 111, 0), (142, 1, 88, 0), (145, 2, 112, 0), (148, 1, 89, 0), (149, 2, 113, 0), (151, 1, 90, 0), (152, 2, 114, 0), (154, 1, 91, 0), (155, 2, 115, 0), (157, 1, 92, 0), (158, 2, 116, 0), (161, 1, 93, 0), (162, 2, 117, 0), (164, 1, 94, 0), (165, 2, 118, 0), (167, 1, 95, 0), (168, 2, 119, 0), (170, 1, 96, 0), (171, 2, 120, 0), (174, 1, 97, 0), (175, 2, 121, 0), (177, 1, 98, 0), (178, 2, 122, 0), (180, 1, 99, 0), (181, 1, 41, 0), (184, 1, 100, 0)]
def zPs : List (List (Nat × Nat × Nat × Nat)) := [zP_0, zP_1, zP_2, zP_3, zP_4]
def zKI : List (Nat × Nat × Int32) := [(2, 211, 100000000)]
def zKL : List (Nat × Nat × Int64) := [(2, 192, 9999999999), (3, 81, 15), (3, 83, 64), (3, 89, 7), (3, 91, 30000), (3, 93, 1000), (3, 135, 5), (3, 140, 9999999999), (3, 142, 9), (3, 144, 100000000), (3, 146, 2), (4, 143, 4294967295)]
def zSt : List (Nat × Nat × String) := [(2, 53, "room for fewer than no units"), (2, 253, "a number outside its range"), (2, 74, "more units stand at the place"), (2, 79, "no room for a lot"), (2, 88, "no such lot"), (2, 266, "no room for rows"), (2, 268, "no room at the place"), (2, 270, "no room for units"), (2, 261, "no such unit"), (2, 259, "the unit is lost or gone"), (2, 136, "the unit is there and lies in nothing"), (2, 150, "the unit can't be put in there"), (2, 152, "the unit lies in nothing"), (2, 161, "something lies in the unit, or it has a serial number"), (2, 181, "the units can't be joined"), (2, 190, "no way leads from its state to this one"), (2, 196, "a serial number outside its range"), (2, 207, "the unit can't have this serial number"), (2, 209, "the unit is not lost"), (2, 220, "not so many units stand at the place itself"), (2, 223, "i is below 0"), (2, 232, "no such row"), (2, 241, "no such what")]
def zEx : List (String × List String) := [("java/lang/NegativeArraySizeException", ["java/lang/RuntimeException", "java/lang/Exception"]), ("java/lang/IllegalArgumentException", ["java/lang/RuntimeException", "java/lang/Exception"]), ("java/lang/IllegalStateException", ["java/lang/RuntimeException", "java/lang/Exception"]), ("java/lang/UnsupportedOperationException", ["java/lang/RuntimeException", "java/lang/Exception"]), ("java/util/NoSuchElementException", ["java/lang/RuntimeException", "java/lang/Exception"]), ("java/lang/ArrayIndexOutOfBoundsException", ["java/lang/IndexOutOfBoundsException", "java/lang/RuntimeException", "java/lang/Exception"])]
def zCn : List String := [RX0, RX1, RX2, RX3, RL]
def zNf : List Nat := [5, 10, 10, 22]
abbrev zCl : List vw_C := [(RX0, TX0, 5), (RX1, TX1, 10), (RX2, TX2, 10), (RX3, TX3, 22)]
end
section
/-! THE SMALL MACHINE: the program's instructions over a heap that is a list (cell k of it lies at the address n0 + k), for the proof's sake.
A cell: its kind (0 ints, 1 longs, 2 booleans, 3 units; 10 + c an object of the type c; 100 + e an exception that was thrown) and its values. References are numbers of cells; retAddr 0 stands for 'not set', 1 for the script, 2 for a caught exception. -/
abbrev zH : Type := List (Nat × List Value)
abbrev zC : Type := Nat × List Value × List Value
def zm (y : Nat) : zM := zMs.getD y (x, code, 0, none, [], 0, 0)
def zname (y : Nat) : MethodName := (zm y).1
def zbyt (y : Nat) : ByteArray := (zm y).2.1
def zmax (y : Nat) : Nat := (zm y).2.2.1
def zret (y : Nat) : Option FieldType := (zm y).2.2.2.1
def zhan (y : Nat) : List (Nat × Nat × Nat × Nat) := (zm y).2.2.2.2.1
def zcls (y : Nat) : Nat := (zm y).2.2.2.2.2.1
def znar (y : Nat) : Nat := (zm y).2.2.2.2.2.2
def zfind : List (Nat × Instr × Nat) → Nat → Option (Instr × Nat)
  | [], _ => none
  | q :: r, pc => bif Nat.beq q.1 pc then some q.2 else zfind r pc
def zat (y pc : Nat) : Option (Instr × Nat) := zfind (zTs.getD y []) pc
def zlook : List (Nat × Nat × Nat × Nat) → Nat → Option (Nat × Nat × Nat)
  | [], _ => none
  | q :: r, i => bif Nat.beq q.1 i then some q.2 else zlook r i
def zpool (y i : Nat) : Option (Nat × Nat × Nat) := zlook (zPs.getD (zcls y) []) i
def zki (l : List (Nat × Nat × Int32)) (c i : Nat) : Option Int32 := match l with
  | [] => none
  | q :: r => bif Nat.beq q.1 c && Nat.beq q.2.1 i then some q.2.2 else zki r c i
def zkl (l : List (Nat × Nat × Int64)) (c i : Nat) : Option Int64 := match l with
  | [] => none
  | q :: r => bif Nat.beq q.1 c && Nat.beq q.2.1 i then some q.2.2 else zkl r c i
def zty (ci k : Nat) : FieldType := match ci with
  | 0 => tyX0 k
  | 1 => tyX1 k
  | 2 => tyX2 k
  | _ => tyX3 k
def zfd (ci k : Nat) : String × String × String × Bool := match ci with
  | 0 => TX0 k
  | 1 => TX1 k
  | 2 => TX2 k
  | _ => TX3 k
def znf (ci : Nat) : Nat := match ci with
  | 0 => 5
  | 1 => 10
  | 2 => 10
  | _ => 22
def zcn (c : Nat) : String := match c with
  | 0 => RX0
  | 1 => RX1
  | 2 => RX2
  | 3 => RX3
  | _ => RL
def zdefs (ci : Nat) : List Value := (List.range (znf ci)).map (fun k => defaultValue (zty ci k))
def zfits : FieldType → Value → Bool
  | .int, .int _ => true
  | .long, .long _ => true
  | .object _, .ref _ => true
  | .object _, .null => true
  | .array _, .ref _ => true
  | .array _, .null => true
  | _, _ => false
def zok : Value → Bool
  | .retAddr _ => false
  | _ => true
/-- a local, 'not set' beyond the end -/
def zg : List Value → Nat → Value
  | [], _ => .retAddr 0
  | v :: _, 0 => v
  | _ :: r, n + 1 => zg r n
def zwide (v : Value) : Bool := Nat.beq v.category 2
def zkill (L : List Value) : Nat → List Value
  | 0 => L
  | j + 1 => bif zwide (zg L j) then L.set j (.retAddr 0) else L
def zset1 (L : List Value) (i : Nat) (v : Value) : List Value := (zkill L i).set i v
def zset2 (L : List Value) (i : Nat) (v : Value) : List Value := ((zkill L i).set i v).set (i + 1) (.retAddr 0)
def zpush (nx : Nat) (L S : List Value) (h : zH) (v : Value) : Option (zC × zH) := some ((nx, L, v :: S), h)
def zldi (nx : Nat) (L S : List Value) (h : zH) (i : Nat) : Option (zC × zH) := match zg L i with
  | .int v => zpush nx L S h (.int v)
  | _ => none
def zldl (nx : Nat) (L S : List Value) (h : zH) (i : Nat) : Option (zC × zH) := match zg L i with
  | .long v => zpush nx L S h (.long v)
  | _ => none
def zlda (nx : Nat) (L S : List Value) (h : zH) (i : Nat) : Option (zC × zH) := match zg L i with
  | .ref k => zpush nx L S h (.ref k)
  | .null => zpush nx L S h .null
  | .retAddr (k + 1) => zpush nx L S h (.retAddr (k + 1))
  | _ => none
def zsti (nx : Nat) (L S : List Value) (h : zH) (i : Nat) : Option (zC × zH) := match S with
  | .int v :: r => bif Nat.blt i L.length then some ((nx, zset1 L i (.int v), r), h) else none
  | _ => none
def zsta (nx : Nat) (L S : List Value) (h : zH) (i : Nat) : Option (zC × zH) := match S with
  | .ref k :: r => bif Nat.blt i L.length then some ((nx, zset1 L i (.ref k), r), h) else none
  | .null :: r => bif Nat.blt i L.length then some ((nx, zset1 L i .null, r), h) else none
  | .retAddr (k + 1) :: r => bif Nat.blt i L.length then some ((nx, zset1 L i (.retAddr (k + 1)), r), h) else none
  | _ => none
def zstl (nx : Nat) (L S : List Value) (h : zH) (i : Nat) : Option (zC × zH) := match S with
  | .long v :: r => bif Nat.blt (i + 1) L.length then some ((nx, zset2 L i (.long v), r), h) else none
  | _ => none
def zii (nx : Nat) (L S : List Value) (h : zH) (f : Int32 → Int32 → Int32) : Option (zC × zH) := match S with
  | .int b :: .int a :: r => zpush nx L r h (.int (f a b))
  | _ => none
def zll (nx : Nat) (L S : List Value) (h : zH) (f : Int64 → Int64 → Int64) : Option (zC × zH) := match S with
  | .long b :: .long a :: r => zpush nx L r h (.long (f a b))
  | _ => none
/-- a jump's aim -/
def zto (pc : Nat) (off : Int) : Nat := ((pc : Int) + off).toNat
def zcond (c : ClassFile.Cond) (a b : Int32) : Prop := match c with
  | .eq => a = b
  | .ne => ¬ a = b
  | .lt => a < b
  | .ge => b ≤ a
  | .gt => b < a
  | .le => a ≤ b
theorem zcond_dec (c : ClassFile.Cond) (a b : Int32) : zcond c a b ∨ ¬ zcond c a b := Classical.em _
def zcb (c : ClassFile.Cond) (a b : Int32) : Bool := match c with
  | .eq => decide (a = b)
  | .ne => !decide (a = b)
  | .lt => decide (a < b)
  | .ge => decide (b ≤ a)
  | .gt => decide (b < a)
  | .le => decide (a ≤ b)
def zreq : Value → Value → Option Bool
  | .ref a, .ref b => some (Nat.beq a b)
  | .null, .null => some true
  | .ref _, .null => some false
  | .null, .ref _ => some false
  | _, _ => none
def znul : Value → Option Bool
  | .ref _ => some false
  | .null => some true
  | _ => none
def zjump (pc nx : Nat) (off : Int) (L S : List Value) (h : zH) (b : Bool) : Option (zC × zH) := some ((bif b then zto pc off else nx, L, S), h)
def zsw (pc : Nat) (dflt lo hi : Int) (offs : Array Int) (v : Int32) : Option Nat := if v.toInt < lo ∨ hi < v.toInt then some (zto pc dflt) else (offs[(v.toInt - lo).toNat]?).map (zto pc)
/-- reads place i of the row at cell a, of the kind t -/
def zrd (nx : Nat) (L S : List Value) (h : zH) (t : Nat) : Option (zC × zH) := match S with
  | .int i :: .ref a :: r => match h[a]? with
    | some q => bif Nat.beq q.1 t then (if i < 0 then none else match q.2[i.toNatClampNeg]? with
      | some v => zpush nx L r h v
      | none => none) else none
    | none => none
  | _ => none
def zwr (nx : Nat) (L : List Value) (h : zH) (t : Nat) (v : Value) (i : Int32) (a : Nat) (r : List Value) : Option (zC × zH) := match h[a]? with
  | some q => bif Nat.beq q.1 t then (if i < 0 then none else if i.toNatClampNeg < q.2.length then some ((nx, L, r), h.set a (q.1, q.2.set i.toNatClampNeg v)) else none) else none
  | none => none
def zkind : ArrayType → Option Nat
  | .int => some 0
  | .long => some 1
  | .boolean => some 2
  | _ => none
def zsim (sL : Nat) (sx : Nat → Int32) (y : Nat) (ins : Instr) (len pc : Nat) (L S : List Value) (h : zH) : Option (zC × zH) := match ins with
  | .iconst n => zpush (pc + len) L S h (.int (Int32.ofInt n))
  | .bipush n => zpush (pc + len) L S h (.int (Int8.ofInt n).toInt32)
  | .sipush n => zpush (pc + len) L S h (.int (Int16.ofInt n).toInt32)
  | .lconst n => zpush (pc + len) L S h (.long (Int64.ofNat (n : Nat)))
  | .aconst_null => zpush (pc + len) L S h .null
  | .ldc i => match zki zKI (zcls y) i with
    | some v => zpush (pc + len) L S h (.int v)
    | none => none
  | .ldc2_w i => match zkl zKL (zcls y) i with
    | some v => zpush (pc + len) L S h (.long v)
    | none => none
  | .iload i => zldi (pc + len) L S h i
  | .iload_n i => zldi (pc + len) L S h i
  | .lload i => zldl (pc + len) L S h i
  | .lload_n i => zldl (pc + len) L S h i
  | .aload i => zlda (pc + len) L S h i
  | .aload_n i => zlda (pc + len) L S h i
  | .istore i => zsti (pc + len) L S h i
  | .istore_n i => zsti (pc + len) L S h i
  | .astore i => zsta (pc + len) L S h i
  | .astore_n i => zsta (pc + len) L S h i
  | .lstore i => zstl (pc + len) L S h i
  | .lstore_n i => zstl (pc + len) L S h i
  | .iinc i n => match zg L i with
    | .int v => bif Nat.blt i L.length then some ((pc + len, zset1 L i (.int (v + Int32.ofInt n)), S), h) else none
    | _ => none
  | .iadd => zii (pc + len) L S h (fun a b => a + b)
  | .isub => zii (pc + len) L S h (fun a b => a - b)
  | .imul => zii (pc + len) L S h (fun a b => a * b)
  | .iand => zii (pc + len) L S h (fun a b => a &&& b)
  | .ior => zii (pc + len) L S h (fun a b => a ||| b)
  | .ishl => zii (pc + len) L S h (fun a b => a <<< (b &&& 31))
  | .ladd => zll (pc + len) L S h (fun a b => a + b)
  | .land => zll (pc + len) L S h (fun a b => a &&& b)
  | .lor => zll (pc + len) L S h (fun a b => a ||| b)
  | .lshl => match S with
    | .int b :: .long a :: r => zpush (pc + len) L r h (.long (a <<< (b.toInt64 &&& 63)))
    | _ => none
  | .i2l => match S with
    | .int a :: r => zpush (pc + len) L r h (.long a.toInt64)
    | _ => none
  | .lcmp => match S with
    | .long b :: .long a :: r => zpush (pc + len) L r h (.int (lg_cmp a b))
    | _ => none
  | .dup => match S with
    | v :: r => bif Nat.beq v.category 1 then some ((pc + len, L, v :: v :: r), h) else none
    | _ => none
  | .dup2 => match S with
    | v :: w :: r => bif Nat.beq v.category 1 && Nat.beq w.category 1 then some ((pc + len, L, v :: w :: v :: w :: r), h) else none
    | _ => none
  | .goto off => zjump pc (pc + len) off L S h true
  | .ifCond c off => match S with
    | .int a :: r => zjump pc (pc + len) off L r h (zcb c a 0)
    | _ => none
  | .if_icmp c off => match S with
    | .int b :: .int a :: r => zjump pc (pc + len) off L r h (zcb c a b)
    | _ => none
  | .if_acmp c off => match S with
    | b :: a :: r => match zreq a b with
      | some q => zjump pc (pc + len) off L r h (match c with | .eq => q | .ne => !q)
      | none => none
    | _ => none
  | .ifnull off => match S with
    | a :: r => match znul a with
      | some q => zjump pc (pc + len) off L r h q
      | none => none
    | _ => none
  | .ifnonnull off => match S with
    | a :: r => match znul a with
      | some q => zjump pc (pc + len) off L r h (!q)
      | none => none
    | _ => none
  | .tableswitch dflt lo hi offs => match S with
    | .int v :: r => match zsw pc dflt lo hi offs v with
      | some t => some ((t, L, r), h)
      | none => none
    | _ => none
  | .getfield i => match zpool y i with
    | some (0, ci, k) => match S with
      | .ref a :: r => match h[a]? with
        | some q => bif Nat.beq q.1 (10 + ci) then (match q.2[k]? with
          | some v => zpush (pc + len) L r h v
          | none => none) else none
        | none => none
      | _ => none
    | _ => none
  | .putfield i => match zpool y i with
    | some (0, ci, k) => match S with
      | v :: .ref a :: r => match h[a]? with
        | some q => bif Nat.beq q.1 (10 + ci) && zfits (zty ci k) v && Nat.blt k q.2.length && (!(zfd ci k).2.2.2 || (Nat.beq (zcls y) ci && decide ((zname y).name = "<init>"))) then some ((pc + len, L, r), h.set a (q.1, q.2.set k v)) else none
        | none => none
      | _ => none
    | _ => none
  | .iaload => match S with
    | .int i :: .retAddr 1 :: r => if i < 0 then none else if i.toNatClampNeg < sL then zpush (pc + len) L r h (.int (sx i.toNatClampNeg)) else none
    | _ => zrd (pc + len) L S h 0
  | .laload => zrd (pc + len) L S h 1
  | .baload => zrd (pc + len) L S h 2
  | .aaload => zrd (pc + len) L S h 3
  | .iastore => match S with
    | .int v :: .int i :: .ref a :: r => zwr (pc + len) L h 0 (.int v) i a r
    | _ => none
  | .lastore => match S with
    | .long v :: .int i :: .ref a :: r => zwr (pc + len) L h 1 (.long v) i a r
    | _ => none
  | .bastore => match S with
    | .int v :: .int i :: .ref a :: r => if v = 0 ∨ v = 1 then zwr (pc + len) L h 2 (.int v) i a r else none
    | _ => none
  | .aastore => match S with
    | .ref v :: .int i :: .ref a :: r => match h[v]? with
      | some q => bif Nat.beq q.1 11 then zwr (pc + len) L h 3 (.ref v) i a r else none
      | none => none
    | _ => none
  | .arraylength => match S with
    | .retAddr 1 :: r => zpush (pc + len) L r h (.int (Int32.ofNat sL))
    | _ => none
  | .newarray t => match zkind t with
    | some k => match S with
      | .int n :: r => if n < 0 then none else if n.toNatClampNeg ≤ 1000 then some ((pc + len, L, .ref h.length :: r), h ++ [(k, List.replicate n.toNatClampNeg (defaultValue (newarray.typeOf t)))]) else none
      | _ => none
    | none => none
  | .anewarray i => match zpool y i with
    | some (6, 1, _) => match S with
      | .int n :: r => if n < 0 then none else if n.toNatClampNeg ≤ 1000 then some ((pc + len, L, .ref h.length :: r), h ++ [(3, List.replicate n.toNatClampNeg .null)]) else none
      | _ => none
    | _ => none
  | .new i => match zpool y i with
    | some (6, ci, _) => bif Nat.blt ci 4 then some ((pc + len, L, .ref h.length :: S), h ++ [(10 + ci, zdefs ci)]) else none
    | _ => none
  | _ => none
/-- which handler takes the exception e -/
def zcatch (y pc e : Nat) : List (Nat × Nat × Nat × Nat) → Option Nat
  | [] => none
  | (a, b, hp, ct) :: r => bif Nat.ble a pc && Nat.blt pc b then (match zpool y ct with
    | some (7, e2, _) => bif Nat.beq e2 e then some hp else zcatch y pc e r
    | _ => none) else zcatch y pc e r
/-- a method's locals at its start -/
def zent (mx : Nat) (As : List Value) : List Value := (As.flatMap fun v => bif zwide v then [v, .retAddr 0] else [v]) ++ List.replicate (mx - (As.flatMap fun v => bif zwide v then [v, .retAddr 0] else [v]).length) (.retAddr 0)
def zwt (S : List Value) : Nat := (S.map fun v => v.category).sum
/-- is 'new; dup; ldc; invokespecial; athrow' of the exception e here, and may this method throw it? -/
def zthrows (d y pc : Nat) (S : List Value) (e : Nat) : Bool := Nat.ble 7 d && Nat.ble (zwt S) 8 && (zhan y).isEmpty && match zat y (pc + 3), zat y (pc + 4) with
  | some (.dup, 1), some (.ldc is, 2) => (zSt.any fun q => Nat.beq q.1 (zcls y) && Nat.beq q.2.1 is) && (match zat y (pc + 6), zat y (pc + 9) with
    | some (.invokespecial ic, 3), some (.athrow, 1) => match zpool y ic with
      | some (8, e2, _) => Nat.beq e2 e
      | _ => false
    | _, _ => false)
  | some (.dup, 1), some (.ldc_w is, 3) => (zSt.any fun q => Nat.beq q.1 (zcls y) && Nat.beq q.2.1 is) && (match zat y (pc + 7), zat y (pc + 10) with
    | some (.invokespecial ic, 3), some (.athrow, 1) => match zpool y ic with
      | some (8, e2, _) => Nat.beq e2 e
      | _ => false
    | _, _ => false)
  | _, _ => false
/-- may the method z be called so: its values, of which the first is an object of its own type (but for a static one), none a script or an exception -/
def zcallok (z : Nat) (stat : Bool) (As rest : List Value) (h : zH) : Bool := Nat.beq As.length (znar z) && As.all zok && Nat.ble (zwt rest) 8 && Nat.ble ((As.flatMap fun v => bif zwide v then [v, Value.retAddr 0] else [v]).length) (zmax z) && (stat || match As with
  | .ref a :: _ => match h[a]? with
    | some q => Nat.beq q.1 (10 + zcls z)
    | none => false
  | _ => false)
/-- how a call goes: the method's number, is it static, may it throw -/
def zcalls (y : Nat) (ins : Instr) : Option (Nat × Bool × Bool) := match ins with
  | .invokevirtual i => match zpool y i with
    | some (1, z, _) => some (z, false, true)
    | _ => none
  | .invokestatic i => match zpool y i with
    | some (2, z, _) => some (z, true, true)
    | some (3, z, _) => some (z, true, false)
    | _ => none
  | .invokespecial i => match zpool y i with
    | some (4, z, _) => some (z, false, false)
    | some (5, z, _) => some (z, false, false)
    | _ => none
  | _ => none
/-- what is called but walked over: Object's constructor, the greater of two -/
def zskip (d y : Nat) (ins : Instr) (pc : Nat) (L S : List Value) (h : zH) : Option (zC × zH) := match ins with
  | .invokespecial i => match zpool y i with
    | some (9, _, _) => match S with
      | .ref _ :: r => bif Nat.ble 1 d && Nat.ble (zwt r) 8 then some ((pc + 3, L, r), h) else none
      | _ => none
    | _ => none
  | .invokestatic i => match zpool y i with
    | some (10, _, _) => match S with
      | .int b :: .int a :: r => bif Nat.ble 1 d && Nat.ble (zwt r) 8 then some ((pc + 3, L, .int (if a < b then b else a) :: r), h) else none
      | _ => none
    | _ => none
  | _ => none
def zends (y : Nat) (ins : Instr) (S : List Value) : Option (Option Value) := match ins with
  | .ireturn => match S, zret y with
    | [.int v], some .int => some (some (.int v))
    | [.int v], some .boolean => if v = 0 ∨ v = 1 then some (some (.int v)) else none
    | _, _ => none
  | .lreturn => match S, zret y with
    | [.long v], some .long => some (some (.long v))
    | _, _ => none
  | .areturn => match S, zret y with
    | [.ref k], some (.object _) => some (some (.ref k))
    | [.null], some (.object _) => some (some .null)
    | _, _ => none
  | .return_ => match S, zret y with
    | [], none => some none
    | _, _ => none
  | _ => none
def zthr (y : Nat) (ins : Instr) : Option Nat := match ins with
  | .new i => match zpool y i with
    | some (7, e, _) => some e
    | _ => none
  | _ => none
def zexec (sL : Nat) (sx : Nat → Int32) : Nat → Nat → Nat → Nat → List Value → List Value → zH → Option (Outcome × zH)
  | 0, _, _, _, _, _, _ => none
  | n + 1, d, y, pc, L, S, h => match zat y pc with
    | none => none
    | some (ins, len) => match zends y ins S with
      | some v => some (.returned v, h)
      | none => match zthr y ins with
        | some e => bif zthrows d y pc S e then some (.threw e, h ++ [(100 + e, [])]) else none
        | none => match zskip d y ins pc L S h with
          | some r => zexec sL sx n d y r.1.1 r.1.2.1 r.1.2.2 r.2
          | none => match zcalls y ins with
            | some (z, stat, mt) => match d with
              | 0 => none
              | d' + 1 => bif zcallok z stat (S.take (znar z)).reverse (S.drop (znar z)) h then (match zexec sL sx n d' z 0 (zent (zmax z) (S.take (znar z)).reverse) [] h with
                | some (.returned v, h1) => zexec sL sx n (d' + 1) y (pc + 3) L (v.toList ++ S.drop (znar z)) h1
                | some (.threw e, h1) => bif mt then (bif (zhan y).isEmpty then some (.threw e, h1) else (match zcatch y pc e (zhan y) with
                  | some hp => bif L.all (fun v => !decide (v = .retAddr 2)) then zexec sL sx n (d' + 1) y hp L [.retAddr 2] h1 else none
                  | none => none)) else none
                | none => none) else none
            | none => match zsim sL sx y ins len pc L S h with
              | some r => zexec sL sx n d y r.1.1 r.1.2.1 r.1.2.2 r.2
              | none => none
end
section
/-! the tables of the program hold against the code and against the Statement's words -/
def zen (e : Nat) : String := (zEx.getD e ("", [])).1
def zes (e : Nat) : List String := (zEx.getD e ("", [])).2
/-- by which entry, and by which bytes, the exception's constructor calls its parent's -/
def zej (e : Nat) : Nat := match e with
  | 4 => 13
  | _ => 7
def zeb (e : Nat) : ByteArray := match e with
  | 4 => prog_17_method_4_code
  | _ => Bundle.six
/-- the length of an instruction that the small machine knows -/
def zlen : Instr → Option Nat
  | .iconst _ | .lconst _ | .aconst_null | .iload_n _ | .lload_n _ | .aload_n _ | .istore_n _ | .astore_n _ | .lstore_n _ => some 1
  | .iadd | .isub | .imul | .iand | .ior | .ishl | .ladd | .land | .lor | .lshl | .i2l | .lcmp | .dup | .dup2 => some 1
  | .iaload | .laload | .baload | .aaload | .iastore | .lastore | .bastore | .aastore | .arraylength => some 1
  | .ireturn | .lreturn | .areturn | .return_ | .athrow => some 1
  | .bipush _ | .ldc _ | .iload _ | .lload _ | .aload _ | .istore _ | .astore _ | .lstore _ | .newarray _ => some 2
  | .sipush _ | .ldc2_w _ | .ldc_w _ | .iinc _ _ | .goto _ | .ifCond _ _ | .if_icmp _ _ | .if_acmp _ _ | .ifnull _ | .ifnonnull _ => some 3
  | .getfield _ | .putfield _ | .invokevirtual _ | .invokestatic _ | .invokespecial _ | .new _ | .anewarray _ => some 3
  | _ => none
def zaim (pc : Nat) : Instr → Bool
  | .goto off | .ifCond _ off | .if_icmp _ off | .if_acmp _ off | .ifnull off | .ifnonnull off => decide (0 ≤ (pc : Int) + off)
  | .tableswitch d _ _ offs => decide (0 ≤ (pc : Int) + d) && offs.toList.all (fun o => decide (0 ≤ (pc : Int) + o))
  | _ => true
def zrow (b : ByteArray) (r : Nat × Instr × Nat) : Bool := decide (decode b r.1 = .ok (r.2.1, r.2.2)) && zaim r.1 r.2.1 && (match zlen r.2.1 with | some k => Nat.beq k r.2.2 | none => true)
/-- a method's own word -/
def zwd (y : Nat) : Cond := bif (zhan y).isEmpty then .code (zname y) (zbyt y) (zmax y) (zret y) else .codeWith (zname y) (zbyt y) (zmax y) (zret y) (zhan y)
def zisX (w : Cond) : Bool := match w with
  | .declares _ => true
  | .castable _ _ => true
  | .methodLinkNest _ _ _ _ => true
  | _ => false
/-- the words that an entry of a type's pool needs -/
def zws (c : Nat) (q : Nat × Nat × Nat × Nat) : List Cond := match q.2.1 with
  | 0 => [.fieldLink (zcn c) q.1 (zfd q.2.2.1 q.2.2.2).1 (zfd q.2.2.1 q.2.2.2).2.1 (zfd q.2.2.1 q.2.2.2).2.2.1]
  | 1 => [.methodLink (zcn c) q.1 (zname q.2.2.1), .instanceMethod (zname q.2.2.1), .selects (zcn (zcls q.2.2.1)) (zname q.2.2.1) (zname q.2.2.1), .initialized (zcn (zcls q.2.2.1)), zwd q.2.2.1]
  | 2 => [.methodLink (zcn c) q.1 (zname q.2.2.1), .static (zname q.2.2.1), .initialized (zcn c), zwd q.2.2.1]
  | 3 => [.methodLinkNest (zcn c) q.1 (zname q.2.2.1) RX2, .static (zname q.2.2.1), .initialized (zcn (zcls q.2.2.1)), zwd q.2.2.1]
  | 4 => [.methodLink (zcn c) q.1 (zname q.2.2.1), .instanceMethod (zname q.2.2.1), .initialized (zcn (zcls q.2.2.1)), zwd q.2.2.1]
  | 5 => [.methodLinkNest (zcn c) q.1 (zname q.2.2.1) RX2, .instanceMethod (zname q.2.2.1), .initialized (zcn (zcls q.2.2.1)), zwd q.2.2.1]
  | 6 => bif Nat.blt q.2.2.1 4 then [.classLink (zcn c) q.1 (zcn q.2.2.1), .instantiable (zcn q.2.2.1) (znf q.2.2.1), .initialized (zcn q.2.2.1)] else []
  | 7 => [.classLink (zcn c) q.1 (zen q.2.2.1), .initialized (zen q.2.2.1), .castable (zen q.2.2.1) (zen q.2.2.1)]
  | 8 => zt_at (zcn c) q.1 (zen q.2.2.1) (zes q.2.2.1) (zej q.2.2.1) (zeb q.2.2.1)
  | 9 => [.methodLink (zcn c) q.1 objectInit, .instanceMethod objectInit, .code objectInit ⟨#[0xb1]⟩ 1 none]
  | _ => [.methodLink (zcn c) q.1 Lib.Math.max.name, .static Lib.Math.max.name, .initialized "java/lang/Math", .code Lib.Math.max.name Lib.Math.max.code 2 (some .int)]
end
section
theorem zr_X0_init : zT_X0_init.all (zrow cX0_init) = true := by decide +kernel
theorem zr_X0_clear : zT_X0_clear.all (zrow cX0_clear) = true := by decide +kernel
theorem zr_X0_hasRoom : zT_X0_hasRoom.all (zrow cX0_hasRoom) = true := by decide +kernel
theorem zr_X0_add : zT_X0_add.all (zrow cX0_add) = true := by decide +kernel
theorem zr_X0_seek : zT_X0_seek.all (zrow cX0_seek) = true := by decide +kernel
theorem zr_X0_read : zT_X0_read.all (zrow cX0_read) = true := by decide +kernel
theorem zr_X1_init : zT_X1_init.all (zrow cX1_init) = true := by decide +kernel
theorem zr_X1_be : zT_X1_be.all (zrow cX1_be) = true := by decide +kernel
theorem zr_X1_stand : zT_X1_stand.all (zrow cX1_stand) = true := by decide +kernel
theorem zr_X1_stands : zT_X1_stands.all (zrow cX1_stands) = true := by decide +kernel
theorem zr_X1_isOver : zT_X1_isOver.all (zrow cX1_isOver) = true := by decide +kernel
theorem zr_X1_expire : zT_X1_expire.all (zrow cX1_expire) = true := by decide +kernel
theorem zr_X1_canBecome : zT_X1_canBecome.all (zrow cX1_canBecome) = true := by decide +kernel
theorem zr_X1_depth : zT_X1_depth.all (zrow cX1_depth) = true := by decide +kernel
theorem zr_X1_liesWithin : zT_X1_liesWithin.all (zrow cX1_liesWithin) = true := by decide +kernel
theorem zr_X1_matches : zT_X1_matches.all (zrow cX1_matches) = true := by decide +kernel
theorem zr_X1_isLike : zT_X1_isLike.all (zrow cX1_isLike) = true := by decide +kernel
theorem zr_X1_pack : zT_X1_pack.all (zrow cX1_pack) = true := by decide +kernel
theorem zr_X2_init : zT_X2_init.all (zrow cX2_init) = true := by decide +kernel
theorem zr_X2_rows : zT_X2_rows.all (zrow cX2_rows) = true := by decide +kernel
theorem zr_X2_place : zT_X2_place.all (zrow cX2_place) = true := by decide +kernel
theorem zr_X2_good : zT_X2_good.all (zrow cX2_good) = true := by decide +kernel
theorem zr_X2_lot : zT_X2_lot.all (zrow cX2_lot) = true := by decide +kernel
theorem zr_X2_unit : zT_X2_unit.all (zrow cX2_unit) = true := by decide +kernel
theorem zr_X2_move : zT_X2_move.all (zrow cX2_move) = true := by decide +kernel
theorem zr_X2_into : zT_X2_into.all (zrow cX2_into) = true := by decide +kernel
theorem zr_X2_out : zT_X2_out.all (zrow cX2_out) = true := by decide +kernel
theorem zr_X2_split : zT_X2_split.all (zrow cX2_split) = true := by decide +kernel
theorem zr_X2_join : zT_X2_join.all (zrow cX2_join) = true := by decide +kernel
theorem zr_X2_state : zT_X2_state.all (zrow cX2_state) = true := by decide +kernel
theorem zr_X2_serial : zT_X2_serial.all (zrow cX2_serial) = true := by decide +kernel
theorem zr_X2_lost : zT_X2_lost.all (zrow cX2_lost) = true := by decide +kernel
theorem zr_X2_found : zT_X2_found.all (zrow cX2_found) = true := by decide +kernel
theorem zr_X2_weigh : zT_X2_weigh.all (zrow cX2_weigh) = true := by decide +kernel
theorem zr_X2_day : zT_X2_day.all (zrow cX2_day) = true := by decide +kernel
theorem zr_X2_at : zT_X2_at.all (zrow cX2_at) = true := by decide +kernel
theorem zr_X2_find : zT_X2_find.all (zrow cX2_find) = true := by decide +kernel
theorem zr_X2_sum : zT_X2_sum.all (zrow cX2_sum) = true := by decide +kernel
theorem zr_X2_row : zT_X2_row.all (zrow cX2_row) = true := by decide +kernel
theorem zr_X2_told : zT_X2_told.all (zrow cX2_told) = true := by decide +kernel
theorem zr_X2_packed : zT_X2_packed.all (zrow cX2_packed) = true := by decide +kernel
theorem zr_X2_count : zT_X2_count.all (zrow cX2_count) = true := by decide +kernel
theorem zr_X2_isWithin : zT_X2_isWithin.all (zrow cX2_isWithin) = true := by decide +kernel
theorem zr_X2_checkRange : zT_X2_checkRange.all (zrow cX2_checkRange) = true := by decide +kernel
theorem zr_X2_checkPlace : zT_X2_checkPlace.all (zrow cX2_checkPlace) = true := by decide +kernel
theorem zr_X2_checkStands : zT_X2_checkStands.all (zrow cX2_checkStands) = true := by decide +kernel
theorem zr_X2_unitOf : zT_X2_unitOf.all (zrow cX2_unitOf) = true := by decide +kernel
theorem zr_X2_needRows : zT_X2_needRows.all (zrow cX2_needRows) = true := by decide +kernel
theorem zr_X2_needSpace : zT_X2_needSpace.all (zrow cX2_needSpace) = true := by decide +kernel
theorem zr_X2_nextUnit : zT_X2_nextUnit.all (zrow cX2_nextUnit) = true := by decide +kernel
theorem zr_X2_addRow : zT_X2_addRow.all (zrow cX2_addRow) = true := by decide +kernel
theorem zr_X2_gramsOf : zT_X2_gramsOf.all (zrow cX2_gramsOf) = true := by decide +kernel
theorem zr_X2_unitsAt : zT_X2_unitsAt.all (zrow cX2_unitsAt) = true := by decide +kernel
theorem zr_X2_unitsStanding : zT_X2_unitsStanding.all (zrow cX2_unitsStanding) = true := by decide +kernel
theorem zr_X2_unitsWithin : zT_X2_unitsWithin.all (zrow cX2_unitsWithin) = true := by decide +kernel
theorem zr_X2_levels : zT_X2_levels.all (zrow cX2_levels) = true := by decide +kernel
theorem zr_X2_carry : zT_X2_carry.all (zrow cX2_carry) = true := by decide +kernel
theorem zr_X2_takeAway : zT_X2_takeAway.all (zrow cX2_takeAway) = true := by decide +kernel
theorem zr_X2_canLieIn : zT_X2_canLieIn.all (zrow cX2_canLieIn) = true := by decide +kernel
theorem zr_X2_canJoin : zT_X2_canJoin.all (zrow cX2_canJoin) = true := by decide +kernel
theorem zr_X2_isPlain : zT_X2_isPlain.all (zrow cX2_isPlain) = true := by decide +kernel
theorem zr_X2_isSerialInUse : zT_X2_isSerialInUse.all (zrow cX2_isSerialInUse) = true := by decide +kernel
end
section
theorem zr_X3_init : zT_X3_init.all (zrow cX3_init) = true := by decide +kernel
theorem zr_X3_thrown : zT_X3_thrown.all (zrow cX3_thrown) = true := by decide +kernel
theorem zr_X3_in : zT_X3_in.all (zrow cX3_in) = true := by decide +kernel
theorem zr_X3_isUnit : zT_X3_isUnit.all (zrow cX3_isUnit) = true := by decide +kernel
theorem zr_X3_stands : zT_X3_stands.all (zrow cX3_stands) = true := by decide +kernel
theorem zr_X3_rows : zT_X3_rows.all (zrow cX3_rows) = true := by decide +kernel
theorem zr_X3_standingAt : zT_X3_standingAt.all (zrow cX3_standingAt) = true := by decide +kernel
theorem zr_X3_place : zT_X3_place.all (zrow cX3_place) = true := by decide +kernel
theorem zr_X3_good : zT_X3_good.all (zrow cX3_good) = true := by decide +kernel
theorem zr_X3_lot : zT_X3_lot.all (zrow cX3_lot) = true := by decide +kernel
theorem zr_X3_isOver : zT_X3_isOver.all (zrow cX3_isOver) = true := by decide +kernel
theorem zr_X3_act : zT_X3_act.all (zrow cX3_act) = true := by decide +kernel
theorem zr_X3_make : zT_X3_make.all (zrow cX3_make) = true := by decide +kernel
theorem zr_X3_unit : zT_X3_unit.all (zrow cX3_unit) = true := by decide +kernel
theorem zr_X3_isIn : zT_X3_isIn.all (zrow cX3_isIn) = true := by decide +kernel
theorem zr_X3_load : zT_X3_load.all (zrow cX3_load) = true := by decide +kernel
theorem zr_X3_depth : zT_X3_depth.all (zrow cX3_depth) = true := by decide +kernel
theorem zr_X3_move : zT_X3_move.all (zrow cX3_move) = true := by decide +kernel
theorem zr_X3_tall : zT_X3_tall.all (zrow cX3_tall) = true := by decide +kernel
theorem zr_X3_into : zT_X3_into.all (zrow cX3_into) = true := by decide +kernel
theorem zr_X3_out : zT_X3_out.all (zrow cX3_out) = true := by decide +kernel
theorem zr_X3_split : zT_X3_split.all (zrow cX3_split) = true := by decide +kernel
theorem zr_X3_areAlike : zT_X3_areAlike.all (zrow cX3_areAlike) = true := by decide +kernel
theorem zr_X3_join : zT_X3_join.all (zrow cX3_join) = true := by decide +kernel
theorem zr_X3_leave : zT_X3_leave.all (zrow cX3_leave) = true := by decide +kernel
theorem zr_X3_mayBecome : zT_X3_mayBecome.all (zrow cX3_mayBecome) = true := by decide +kernel
theorem zr_X3_state : zT_X3_state.all (zrow cX3_state) = true := by decide +kernel
theorem zr_X3_serial : zT_X3_serial.all (zrow cX3_serial) = true := by decide +kernel
theorem zr_X3_lost : zT_X3_lost.all (zrow cX3_lost) = true := by decide +kernel
theorem zr_X3_found : zT_X3_found.all (zrow cX3_found) = true := by decide +kernel
theorem zr_X3_weigh : zT_X3_weigh.all (zrow cX3_weigh) = true := by decide +kernel
theorem zr_X3_day : zT_X3_day.all (zrow cX3_day) = true := by decide +kernel
theorem zr_X3_at : zT_X3_at.all (zrow cX3_at) = true := by decide +kernel
theorem zr_X3_find : zT_X3_find.all (zrow cX3_find) = true := by decide +kernel
theorem zr_X3_sum : zT_X3_sum.all (zrow cX3_sum) = true := by decide +kernel
theorem zr_X3_row : zT_X3_row.all (zrow cX3_row) = true := by decide +kernel
theorem zr_X3_told : zT_X3_told.all (zrow cX3_told) = true := by decide +kernel
theorem zr_X3_packed : zT_X3_packed.all (zrow cX3_packed) = true := by decide +kernel
theorem zr_X3_count : zT_X3_count.all (zrow cX3_count) = true := by decide +kernel
end
section
theorem zr_L_rows : zT_L_rows.all (zrow cL_rows) = true := by decide +kernel
theorem zr_L_place : zT_L_place.all (zrow cL_place) = true := by decide +kernel
theorem zr_L_good : zT_L_good.all (zrow cL_good) = true := by decide +kernel
theorem zr_L_lot : zT_L_lot.all (zrow cL_lot) = true := by decide +kernel
theorem zr_L_unit : zT_L_unit.all (zrow cL_unit) = true := by decide +kernel
theorem zr_L_move : zT_L_move.all (zrow cL_move) = true := by decide +kernel
theorem zr_L_into : zT_L_into.all (zrow cL_into) = true := by decide +kernel
theorem zr_L_out : zT_L_out.all (zrow cL_out) = true := by decide +kernel
theorem zr_L_split : zT_L_split.all (zrow cL_split) = true := by decide +kernel
theorem zr_L_join : zT_L_join.all (zrow cL_join) = true := by decide +kernel
theorem zr_L_state : zT_L_state.all (zrow cL_state) = true := by decide +kernel
theorem zr_L_serial : zT_L_serial.all (zrow cL_serial) = true := by decide +kernel
theorem zr_L_lost : zT_L_lost.all (zrow cL_lost) = true := by decide +kernel
theorem zr_L_found : zT_L_found.all (zrow cL_found) = true := by decide +kernel
theorem zr_L_weigh : zT_L_weigh.all (zrow cL_weigh) = true := by decide +kernel
theorem zr_L_day : zT_L_day.all (zrow cL_day) = true := by decide +kernel
theorem zr_L_at : zT_L_at.all (zrow cL_at) = true := by decide +kernel
theorem zr_L_find : zT_L_find.all (zrow cL_find) = true := by decide +kernel
theorem zr_L_sum : zT_L_sum.all (zrow cL_sum) = true := by decide +kernel
theorem zr_L_row : zT_L_row.all (zrow cL_row) = true := by decide +kernel
theorem zr_L_told : zT_L_told.all (zrow cL_told) = true := by decide +kernel
theorem zr_L_packed : zT_L_packed.all (zrow cL_packed) = true := by decide +kernel
end
section
theorem zr_L_law_0 : ((zT_L_law.drop 0).take 40).all (zrow code) = true := by decide +kernel
theorem zr_L_law_1 : ((zT_L_law.drop 40).take 40).all (zrow code) = true := by decide +kernel
theorem zr_L_law_2 : ((zT_L_law.drop 80).take 40).all (zrow code) = true := by decide +kernel
theorem zr_L_law_3 : ((zT_L_law.drop 120).take 40).all (zrow code) = true := by decide +kernel
theorem zr_L_law_4 : ((zT_L_law.drop 160).take 40).all (zrow code) = true := by decide +kernel
theorem zr_L_law_5 : ((zT_L_law.drop 200).take 40).all (zrow code) = true := by decide +kernel
end
section
theorem zr_L_law_6 : ((zT_L_law.drop 240).take 40).all (zrow code) = true := by decide +kernel
theorem zr_L_law_7 : ((zT_L_law.drop 280).take 40).all (zrow code) = true := by decide +kernel
theorem zr_L_law_8 : ((zT_L_law.drop 320).take 40).all (zrow code) = true := by decide +kernel
theorem zr_L_law_9 : ((zT_L_law.drop 360).take 40).all (zrow code) = true := by decide +kernel
theorem zr_L_law_10 : ((zT_L_law.drop 400).take 40).all (zrow code) = true := by decide +kernel
theorem zr_L_law_11 : ((zT_L_law.drop 440).take 40).all (zrow code) = true := by decide +kernel
end
section
theorem zr_L_law_12 : ((zT_L_law.drop 480).take 40).all (zrow code) = true := by decide +kernel
theorem zr_L_law_13 : ((zT_L_law.drop 520).take 40).all (zrow code) = true := by decide +kernel
theorem zr_L_law_14 : ((zT_L_law.drop 560).take 40).all (zrow code) = true := by decide +kernel
theorem zr_L_law_15 : ((zT_L_law.drop 600).take 40).all (zrow code) = true := by decide +kernel
theorem zr_L_law_16 : ((zT_L_law.drop 640).take 40).all (zrow code) = true := by decide +kernel
theorem zr_L_law_17 : ((zT_L_law.drop 680).take 40).all (zrow code) = true := by decide +kernel
end
section
theorem zr_L_law_18 : ((zT_L_law.drop 720).take 40).all (zrow code) = true := by decide +kernel
theorem zr_L_law_19 : ((zT_L_law.drop 760).take 40).all (zrow code) = true := by decide +kernel
theorem zr_L_law_20 : ((zT_L_law.drop 800).take 40).all (zrow code) = true := by decide +kernel
theorem zr_L_law_21 : ((zT_L_law.drop 840).take 40).all (zrow code) = true := by decide +kernel
theorem zr_L_law_22 : ((zT_L_law.drop 880).take 40).all (zrow code) = true := by decide +kernel
theorem zr_L_law_23 : ((zT_L_law.drop 920).take 40).all (zrow code) = true := by decide +kernel
end
section
theorem zwk_0_3 : ∀ w ∈ zws 0 (3, 9, 0, 0), w ∈ lw_tbl ∧ (goodWord w || zisX w) = true := by decide +kernel
theorem zwk_0_9 : ∀ w ∈ zws 0 (9, 0, 0, 0), w ∈ lw_tbl ∧ (goodWord w || zisX w) = true := by decide +kernel
theorem zwk_0_15 : ∀ w ∈ zws 0 (15, 0, 0, 1), w ∈ lw_tbl ∧ (goodWord w || zisX w) = true := by decide +kernel
theorem zwk_0_18 : ∀ w ∈ zws 0 (18, 0, 0, 2), w ∈ lw_tbl ∧ (goodWord w || zisX w) = true := by decide +kernel
theorem zwk_0_21 : ∀ w ∈ zws 0 (21, 0, 0, 3), w ∈ lw_tbl ∧ (goodWord w || zisX w) = true := by decide +kernel
theorem zwk_0_24 : ∀ w ∈ zws 0 (24, 0, 0, 4), w ∈ lw_tbl ∧ (goodWord w || zisX w) = true := by decide +kernel
theorem zwk_0_28 : ∀ w ∈ zws 0 (28, 1, 2, 0), w ∈ lw_tbl ∧ (goodWord w || zisX w) = true := by decide +kernel
theorem zwk_0_32 : ∀ w ∈ zws 0 (32, 3, 42, 0), w ∈ lw_tbl ∧ (goodWord w || zisX w) = true := by decide +kernel
set_option maxRecDepth 20000 in
theorem zwok_0 : ∀ q ∈ zP_0, ∀ w ∈ zws 0 q, w ∈ lw_tbl ∧ (goodWord w || zisX w) = true := List.forall_mem_cons.mpr ⟨zwk_0_3, List.forall_mem_cons.mpr ⟨zwk_0_9, List.forall_mem_cons.mpr ⟨zwk_0_15, List.forall_mem_cons.mpr ⟨zwk_0_18, List.forall_mem_cons.mpr ⟨zwk_0_21, List.forall_mem_cons.mpr ⟨zwk_0_24, List.forall_mem_cons.mpr ⟨zwk_0_28, List.forall_mem_cons.mpr ⟨zwk_0_32, fun _ h => absurd h List.not_mem_nil⟩⟩⟩⟩⟩⟩⟩⟩
end
section
theorem zwk_1_3 : ∀ w ∈ zws 1 (3, 9, 0, 0), w ∈ lw_tbl ∧ (goodWord w || zisX w) = true := by decide +kernel
theorem zwk_1_9 : ∀ w ∈ zws 1 (9, 0, 1, 0), w ∈ lw_tbl ∧ (goodWord w || zisX w) = true := by decide +kernel
theorem zwk_1_15 : ∀ w ∈ zws 1 (15, 0, 1, 1), w ∈ lw_tbl ∧ (goodWord w || zisX w) = true := by decide +kernel
theorem zwk_1_18 : ∀ w ∈ zws 1 (18, 0, 1, 2), w ∈ lw_tbl ∧ (goodWord w || zisX w) = true := by decide +kernel
theorem zwk_1_21 : ∀ w ∈ zws 1 (21, 0, 1, 3), w ∈ lw_tbl ∧ (goodWord w || zisX w) = true := by decide +kernel
theorem zwk_1_24 : ∀ w ∈ zws 1 (24, 0, 1, 4), w ∈ lw_tbl ∧ (goodWord w || zisX w) = true := by decide +kernel
theorem zwk_1_27 : ∀ w ∈ zws 1 (27, 0, 1, 5), w ∈ lw_tbl ∧ (goodWord w || zisX w) = true := by decide +kernel
theorem zwk_1_30 : ∀ w ∈ zws 1 (30, 0, 1, 9), w ∈ lw_tbl ∧ (goodWord w || zisX w) = true := by decide +kernel
theorem zwk_1_34 : ∀ w ∈ zws 1 (34, 0, 1, 6), w ∈ lw_tbl ∧ (goodWord w || zisX w) = true := by decide +kernel
theorem zwk_1_37 : ∀ w ∈ zws 1 (37, 0, 1, 7), w ∈ lw_tbl ∧ (goodWord w || zisX w) = true := by decide +kernel
theorem zwk_1_40 : ∀ w ∈ zws 1 (40, 0, 1, 8), w ∈ lw_tbl ∧ (goodWord w || zisX w) = true := by decide +kernel
theorem zwk_1_44 : ∀ w ∈ zws 1 (44, 1, 10, 0), w ∈ lw_tbl ∧ (goodWord w || zisX w) = true := by decide +kernel
theorem zwk_1_48 : ∀ w ∈ zws 1 (48, 1, 9, 0), w ∈ lw_tbl ∧ (goodWord w || zisX w) = true := by decide +kernel
set_option maxRecDepth 20000 in
theorem zwok_1 : ∀ q ∈ zP_1, ∀ w ∈ zws 1 q, w ∈ lw_tbl ∧ (goodWord w || zisX w) = true := List.forall_mem_cons.mpr ⟨zwk_1_3, List.forall_mem_cons.mpr ⟨zwk_1_9, List.forall_mem_cons.mpr ⟨zwk_1_15, List.forall_mem_cons.mpr ⟨zwk_1_18, List.forall_mem_cons.mpr ⟨zwk_1_21, List.forall_mem_cons.mpr ⟨zwk_1_24, List.forall_mem_cons.mpr ⟨zwk_1_27, List.forall_mem_cons.mpr ⟨zwk_1_30, List.forall_mem_cons.mpr ⟨zwk_1_34, List.forall_mem_cons.mpr ⟨zwk_1_37, List.forall_mem_cons.mpr ⟨zwk_1_40, List.forall_mem_cons.mpr ⟨zwk_1_44, List.forall_mem_cons.mpr ⟨zwk_1_48, fun _ h => absurd h List.not_mem_nil⟩⟩⟩⟩⟩⟩⟩⟩⟩⟩⟩⟩⟩
end
section
theorem zwk_2_1 : ∀ w ∈ zws 2 (1, 9, 0, 0), w ∈ lw_tbl ∧ (goodWord w || zisX w) = true := by decide +kernel
theorem zwk_2_9 : ∀ w ∈ zws 2 (9, 0, 2, 0), w ∈ lw_tbl ∧ (goodWord w || zisX w) = true := by decide +kernel
theorem zwk_2_13 : ∀ w ∈ zws 2 (13, 0, 2, 1), w ∈ lw_tbl ∧ (goodWord w || zisX w) = true := by decide +kernel
theorem zwk_2_16 : ∀ w ∈ zws 2 (16, 0, 2, 2), w ∈ lw_tbl ∧ (goodWord w || zisX w) = true := by decide +kernel
theorem zwk_2_19 : ∀ w ∈ zws 2 (19, 0, 2, 3), w ∈ lw_tbl ∧ (goodWord w || zisX w) = true := by decide +kernel
theorem zwk_2_22 : ∀ w ∈ zws 2 (22, 6, 1, 0), w ∈ lw_tbl ∧ (goodWord w || zisX w) = true := by decide +kernel
theorem zwk_2_24 : ∀ w ∈ zws 2 (24, 0, 2, 4), w ∈ lw_tbl ∧ (goodWord w || zisX w) = true := by decide +kernel
theorem zwk_2_28 : ∀ w ∈ zws 2 (28, 6, 0, 0), w ∈ lw_tbl ∧ (goodWord w || zisX w) = true := by decide +kernel
theorem zwk_2_30 : ∀ w ∈ zws 2 (30, 5, 0, 0), w ∈ lw_tbl ∧ (goodWord w || zisX w) = true := by decide +kernel
theorem zwk_2_31 : ∀ w ∈ zws 2 (31, 0, 2, 5), w ∈ lw_tbl ∧ (goodWord w || zisX w) = true := by decide +kernel
theorem zwk_2_35 : ∀ w ∈ zws 2 (35, 0, 2, 6), w ∈ lw_tbl ∧ (goodWord w || zisX w) = true := by decide +kernel
theorem zwk_2_39 : ∀ w ∈ zws 2 (39, 0, 2, 7), w ∈ lw_tbl ∧ (goodWord w || zisX w) = true := by decide +kernel
theorem zwk_2_42 : ∀ w ∈ zws 2 (42, 0, 2, 8), w ∈ lw_tbl ∧ (goodWord w || zisX w) = true := by decide +kernel
theorem zwk_2_45 : ∀ w ∈ zws 2 (45, 0, 2, 9), w ∈ lw_tbl ∧ (goodWord w || zisX w) = true := by decide +kernel
theorem zwk_2_48 : ∀ w ∈ zws 2 (48, 4, 6, 0), w ∈ lw_tbl ∧ (goodWord w || zisX w) = true := by decide +kernel
theorem zwk_2_51 : ∀ w ∈ zws 2 (51, 7, 0, 0), w ∈ lw_tbl ∧ (goodWord w || zisX w) = true := by decide +kernel
theorem zwk_2_55 : ∀ w ∈ zws 2 (55, 8, 0, 0), w ∈ lw_tbl ∧ (goodWord w || zisX w) = true := by decide +kernel
theorem zwk_2_58 : ∀ w ∈ zws 2 (58, 2, 43, 0), w ∈ lw_tbl ∧ (goodWord w || zisX w) = true := by decide +kernel
theorem zwk_2_62 : ∀ w ∈ zws 2 (62, 1, 1, 0), w ∈ lw_tbl ∧ (goodWord w || zisX w) = true := by decide +kernel
theorem zwk_2_65 : ∀ w ∈ zws 2 (65, 2, 44, 0), w ∈ lw_tbl ∧ (goodWord w || zisX w) = true := by decide +kernel
theorem zwk_2_68 : ∀ w ∈ zws 2 (68, 1, 52, 0), w ∈ lw_tbl ∧ (goodWord w || zisX w) = true := by decide +kernel
theorem zwk_2_72 : ∀ w ∈ zws 2 (72, 7, 2, 0), w ∈ lw_tbl ∧ (goodWord w || zisX w) = true := by decide +kernel
theorem zwk_2_76 : ∀ w ∈ zws 2 (76, 8, 2, 0), w ∈ lw_tbl ∧ (goodWord w || zisX w) = true := by decide +kernel
theorem zwk_2_77 : ∀ w ∈ zws 2 (77, 7, 3, 0), w ∈ lw_tbl ∧ (goodWord w || zisX w) = true := by decide +kernel
theorem zwk_2_81 : ∀ w ∈ zws 2 (81, 8, 3, 0), w ∈ lw_tbl ∧ (goodWord w || zisX w) = true := by decide +kernel
theorem zwk_2_82 : ∀ w ∈ zws 2 (82, 2, 42, 0), w ∈ lw_tbl ∧ (goodWord w || zisX w) = true := by decide +kernel
theorem zwk_2_86 : ∀ w ∈ zws 2 (86, 7, 4, 0), w ∈ lw_tbl ∧ (goodWord w || zisX w) = true := by decide +kernel
theorem zwk_2_90 : ∀ w ∈ zws 2 (90, 8, 4, 0), w ∈ lw_tbl ∧ (goodWord w || zisX w) = true := by decide +kernel
theorem zwk_2_91 : ∀ w ∈ zws 2 (91, 1, 47, 0), w ∈ lw_tbl ∧ (goodWord w || zisX w) = true := by decide +kernel
theorem zwk_2_94 : ∀ w ∈ zws 2 (94, 1, 48, 0), w ∈ lw_tbl ∧ (goodWord w || zisX w) = true := by decide +kernel
theorem zwk_2_98 : ∀ w ∈ zws 2 (98, 1, 49, 0), w ∈ lw_tbl ∧ (goodWord w || zisX w) = true := by decide +kernel
theorem zwk_2_102 : ∀ w ∈ zws 2 (102, 1, 7, 0), w ∈ lw_tbl ∧ (goodWord w || zisX w) = true := by decide +kernel
theorem zwk_2_106 : ∀ w ∈ zws 2 (106, 1, 10, 0), w ∈ lw_tbl ∧ (goodWord w || zisX w) = true := by decide +kernel
theorem zwk_2_110 : ∀ w ∈ zws 2 (110, 1, 8, 0), w ∈ lw_tbl ∧ (goodWord w || zisX w) = true := by decide +kernel
theorem zwk_2_114 : ∀ w ∈ zws 2 (114, 1, 50, 0), w ∈ lw_tbl ∧ (goodWord w || zisX w) = true := by decide +kernel
theorem zwk_2_118 : ∀ w ∈ zws 2 (118, 0, 1, 0), w ∈ lw_tbl ∧ (goodWord w || zisX w) = true := by decide +kernel
theorem zwk_2_121 : ∀ w ∈ zws 2 (121, 1, 46, 0), w ∈ lw_tbl ∧ (goodWord w || zisX w) = true := by decide +kernel
theorem zwk_2_125 : ∀ w ∈ zws 2 (125, 2, 45, 0), w ∈ lw_tbl ∧ (goodWord w || zisX w) = true := by decide +kernel
theorem zwk_2_129 : ∀ w ∈ zws 2 (129, 0, 1, 7), w ∈ lw_tbl ∧ (goodWord w || zisX w) = true := by decide +kernel
theorem zwk_2_132 : ∀ w ∈ zws 2 (132, 0, 1, 8), w ∈ lw_tbl ∧ (goodWord w || zisX w) = true := by decide +kernel
theorem zwk_2_138 : ∀ w ∈ zws 2 (138, 1, 54, 0), w ∈ lw_tbl ∧ (goodWord w || zisX w) = true := by decide +kernel
theorem zwk_2_142 : ∀ w ∈ zws 2 (142, 1, 56, 0), w ∈ lw_tbl ∧ (goodWord w || zisX w) = true := by decide +kernel
theorem zwk_2_146 : ∀ w ∈ zws 2 (146, 1, 58, 0), w ∈ lw_tbl ∧ (goodWord w || zisX w) = true := by decide +kernel
theorem zwk_2_154 : ∀ w ∈ zws 2 (154, 0, 1, 5), w ∈ lw_tbl ∧ (goodWord w || zisX w) = true := by decide +kernel
theorem zwk_2_157 : ∀ w ∈ zws 2 (157, 1, 60, 0), w ∈ lw_tbl ∧ (goodWord w || zisX w) = true := by decide +kernel
theorem zwk_2_163 : ∀ w ∈ zws 2 (163, 0, 1, 1), w ∈ lw_tbl ∧ (goodWord w || zisX w) = true := by decide +kernel
theorem zwk_2_166 : ∀ w ∈ zws 2 (166, 0, 1, 2), w ∈ lw_tbl ∧ (goodWord w || zisX w) = true := by decide +kernel
theorem zwk_2_169 : ∀ w ∈ zws 2 (169, 0, 1, 3), w ∈ lw_tbl ∧ (goodWord w || zisX w) = true := by decide +kernel
theorem zwk_2_172 : ∀ w ∈ zws 2 (172, 0, 1, 4), w ∈ lw_tbl ∧ (goodWord w || zisX w) = true := by decide +kernel
theorem zwk_2_175 : ∀ w ∈ zws 2 (175, 0, 1, 6), w ∈ lw_tbl ∧ (goodWord w || zisX w) = true := by decide +kernel
theorem zwk_2_178 : ∀ w ∈ zws 2 (178, 1, 59, 0), w ∈ lw_tbl ∧ (goodWord w || zisX w) = true := by decide +kernel
theorem zwk_2_183 : ∀ w ∈ zws 2 (183, 1, 57, 0), w ∈ lw_tbl ∧ (goodWord w || zisX w) = true := by decide +kernel
theorem zwk_2_186 : ∀ w ∈ zws 2 (186, 1, 12, 0), w ∈ lw_tbl ∧ (goodWord w || zisX w) = true := by decide +kernel
theorem zwk_2_194 : ∀ w ∈ zws 2 (194, 7, 1, 0), w ∈ lw_tbl ∧ (goodWord w || zisX w) = true := by decide +kernel
theorem zwk_2_198 : ∀ w ∈ zws 2 (198, 8, 1, 0), w ∈ lw_tbl ∧ (goodWord w || zisX w) = true := by decide +kernel
theorem zwk_2_199 : ∀ w ∈ zws 2 (199, 0, 1, 9), w ∈ lw_tbl ∧ (goodWord w || zisX w) = true := by decide +kernel
theorem zwk_2_203 : ∀ w ∈ zws 2 (203, 1, 61, 0), w ∈ lw_tbl ∧ (goodWord w || zisX w) = true := by decide +kernel
theorem zwk_2_212 : ∀ w ∈ zws 2 (212, 1, 51, 0), w ∈ lw_tbl ∧ (goodWord w || zisX w) = true := by decide +kernel
theorem zwk_2_215 : ∀ w ∈ zws 2 (215, 1, 11, 0), w ∈ lw_tbl ∧ (goodWord w || zisX w) = true := by decide +kernel
theorem zwk_2_218 : ∀ w ∈ zws 2 (218, 7, 5, 0), w ∈ lw_tbl ∧ (goodWord w || zisX w) = true := by decide +kernel
theorem zwk_2_222 : ∀ w ∈ zws 2 (222, 8, 5, 0), w ∈ lw_tbl ∧ (goodWord w || zisX w) = true := by decide +kernel
theorem zwk_2_225 : ∀ w ∈ zws 2 (225, 1, 15, 0), w ∈ lw_tbl ∧ (goodWord w || zisX w) = true := by decide +kernel
theorem zwk_2_228 : ∀ w ∈ zws 2 (228, 1, 4, 0), w ∈ lw_tbl ∧ (goodWord w || zisX w) = true := by decide +kernel
theorem zwk_2_234 : ∀ w ∈ zws 2 (234, 1, 5, 0), w ∈ lw_tbl ∧ (goodWord w || zisX w) = true := by decide +kernel
theorem zwk_2_237 : ∀ w ∈ zws 2 (237, 1, 13, 0), w ∈ lw_tbl ∧ (goodWord w || zisX w) = true := by decide +kernel
theorem zwk_2_243 : ∀ w ∈ zws 2 (243, 1, 17, 0), w ∈ lw_tbl ∧ (goodWord w || zisX w) = true := by decide +kernel
theorem zwk_2_247 : ∀ w ∈ zws 2 (247, 1, 53, 0), w ∈ lw_tbl ∧ (goodWord w || zisX w) = true := by decide +kernel
theorem zwk_2_250 : ∀ w ∈ zws 2 (250, 0, 0, 4), w ∈ lw_tbl ∧ (goodWord w || zisX w) = true := by decide +kernel
theorem zwk_2_255 : ∀ w ∈ zws 2 (255, 1, 9, 0), w ∈ lw_tbl ∧ (goodWord w || zisX w) = true := by decide +kernel
theorem zwk_2_263 : ∀ w ∈ zws 2 (263, 1, 2, 0), w ∈ lw_tbl ∧ (goodWord w || zisX w) = true := by decide +kernel
theorem zwk_2_272 : ∀ w ∈ zws 2 (272, 1, 3, 0), w ∈ lw_tbl ∧ (goodWord w || zisX w) = true := by decide +kernel
theorem zwk_2_276 : ∀ w ∈ zws 2 (276, 1, 14, 0), w ∈ lw_tbl ∧ (goodWord w || zisX w) = true := by decide +kernel
theorem zwk_2_279 : ∀ w ∈ zws 2 (279, 10, 0, 0), w ∈ lw_tbl ∧ (goodWord w || zisX w) = true := by decide +kernel
theorem zwk_2_284 : ∀ w ∈ zws 2 (284, 1, 55, 0), w ∈ lw_tbl ∧ (goodWord w || zisX w) = true := by decide +kernel
theorem zwk_2_287 : ∀ w ∈ zws 2 (287, 1, 16, 0), w ∈ lw_tbl ∧ (goodWord w || zisX w) = true := by decide +kernel
set_option maxRecDepth 20000 in
theorem zwok_2 : ∀ q ∈ zP_2, ∀ w ∈ zws 2 q, w ∈ lw_tbl ∧ (goodWord w || zisX w) = true := List.forall_mem_cons.mpr ⟨zwk_2_1, List.forall_mem_cons.mpr ⟨zwk_2_9, List.forall_mem_cons.mpr ⟨zwk_2_13, List.forall_mem_cons.mpr ⟨zwk_2_16, List.forall_mem_cons.mpr ⟨zwk_2_19, List.forall_mem_cons.mpr ⟨zwk_2_22, List.forall_mem_cons.mpr ⟨zwk_2_24, List.forall_mem_cons.mpr ⟨zwk_2_28, List.forall_mem_cons.mpr ⟨zwk_2_30, List.forall_mem_cons.mpr ⟨zwk_2_31, List.forall_mem_cons.mpr ⟨zwk_2_35, List.forall_mem_cons.mpr ⟨zwk_2_39, List.forall_mem_cons.mpr ⟨zwk_2_42, List.forall_mem_cons.mpr ⟨zwk_2_45, List.forall_mem_cons.mpr ⟨zwk_2_48, List.forall_mem_cons.mpr ⟨zwk_2_51, List.forall_mem_cons.mpr ⟨zwk_2_55, List.forall_mem_cons.mpr ⟨zwk_2_58, List.forall_mem_cons.mpr ⟨zwk_2_62, List.forall_mem_cons.mpr ⟨zwk_2_65, List.forall_mem_cons.mpr ⟨zwk_2_68, List.forall_mem_cons.mpr ⟨zwk_2_72, List.forall_mem_cons.mpr ⟨zwk_2_76, List.forall_mem_cons.mpr ⟨zwk_2_77, List.forall_mem_cons.mpr ⟨zwk_2_81, List.forall_mem_cons.mpr ⟨zwk_2_82, List.forall_mem_cons.mpr ⟨zwk_2_86, List.forall_mem_cons.mpr ⟨zwk_2_90, List.forall_mem_cons.mpr ⟨zwk_2_91, List.forall_mem_cons.mpr ⟨zwk_2_94, List.forall_mem_cons.mpr ⟨zwk_2_98, List.forall_mem_cons.mpr ⟨zwk_2_102, List.forall_mem_cons.mpr ⟨zwk_2_106, List.forall_mem_cons.mpr ⟨zwk_2_110, List.forall_mem_cons.mpr ⟨zwk_2_114, List.forall_mem_cons.mpr ⟨zwk_2_118, List.forall_mem_cons.mpr ⟨zwk_2_121, List.forall_mem_cons.mpr ⟨zwk_2_125, List.forall_mem_cons.mpr ⟨zwk_2_129, List.forall_mem_cons.mpr ⟨zwk_2_132, List.forall_mem_cons.mpr ⟨zwk_2_138, List.forall_mem_cons.mpr ⟨zwk_2_142, List.forall_mem_cons.mpr ⟨zwk_2_146, List.forall_mem_cons.mpr ⟨zwk_2_154, List.forall_mem_cons.mpr ⟨zwk_2_157, List.forall_mem_cons.mpr ⟨zwk_2_163, List.forall_mem_cons.mpr ⟨zwk_2_166, List.forall_mem_cons.mpr ⟨zwk_2_169, List.forall_mem_cons.mpr ⟨zwk_2_172, List.forall_mem_cons.mpr ⟨zwk_2_175, List.forall_mem_cons.mpr ⟨zwk_2_178, List.forall_mem_cons.mpr ⟨zwk_2_183, List.forall_mem_cons.mpr ⟨zwk_2_186, List.forall_mem_cons.mpr ⟨zwk_2_194, List.forall_mem_cons.mpr ⟨zwk_2_198, List.forall_mem_cons.mpr ⟨zwk_2_199, List.forall_mem_cons.mpr ⟨zwk_2_203, List.forall_mem_cons.mpr ⟨zwk_2_212, List.forall_mem_cons.mpr ⟨zwk_2_215, List.forall_mem_cons.mpr ⟨zwk_2_218, List.forall_mem_cons.mpr ⟨zwk_2_222, List.forall_mem_cons.mpr ⟨zwk_2_225, List.forall_mem_cons.mpr ⟨zwk_2_228, List.forall_mem_cons.mpr ⟨zwk_2_234, List.forall_mem_cons.mpr ⟨zwk_2_237, List.forall_mem_cons.mpr ⟨zwk_2_243, List.forall_mem_cons.mpr ⟨zwk_2_247, List.forall_mem_cons.mpr ⟨zwk_2_250, List.forall_mem_cons.mpr ⟨zwk_2_255, List.forall_mem_cons.mpr ⟨zwk_2_263, List.forall_mem_cons.mpr ⟨zwk_2_272, List.forall_mem_cons.mpr ⟨zwk_2_276, List.forall_mem_cons.mpr ⟨zwk_2_279, List.forall_mem_cons.mpr ⟨zwk_2_284, List.forall_mem_cons.mpr ⟨zwk_2_287, fun _ h => absurd h List.not_mem_nil⟩⟩⟩⟩⟩⟩⟩⟩⟩⟩⟩⟩⟩⟩⟩⟩⟩⟩⟩⟩⟩⟩⟩⟩⟩⟩⟩⟩⟩⟩⟩⟩⟩⟩⟩⟩⟩⟩⟩⟩⟩⟩⟩⟩⟩⟩⟩⟩⟩⟩⟩⟩⟩⟩⟩⟩⟩⟩⟩⟩⟩⟩⟩⟩⟩⟩⟩⟩⟩⟩⟩⟩⟩⟩⟩
end
section
theorem zwk_3_1 : ∀ w ∈ zws 3 (1, 9, 0, 0), w ∈ lw_tbl ∧ (goodWord w || zisX w) = true := by decide +kernel
theorem zwk_3_7 : ∀ w ∈ zws 3 (7, 0, 3, 2), w ∈ lw_tbl ∧ (goodWord w || zisX w) = true := by decide +kernel
theorem zwk_3_13 : ∀ w ∈ zws 3 (13, 0, 3, 3), w ∈ lw_tbl ∧ (goodWord w || zisX w) = true := by decide +kernel
theorem zwk_3_16 : ∀ w ∈ zws 3 (16, 0, 3, 5), w ∈ lw_tbl ∧ (goodWord w || zisX w) = true := by decide +kernel
theorem zwk_3_19 : ∀ w ∈ zws 3 (19, 0, 3, 6), w ∈ lw_tbl ∧ (goodWord w || zisX w) = true := by decide +kernel
theorem zwk_3_22 : ∀ w ∈ zws 3 (22, 0, 3, 7), w ∈ lw_tbl ∧ (goodWord w || zisX w) = true := by decide +kernel
theorem zwk_3_26 : ∀ w ∈ zws 3 (26, 0, 3, 9), w ∈ lw_tbl ∧ (goodWord w || zisX w) = true := by decide +kernel
theorem zwk_3_29 : ∀ w ∈ zws 3 (29, 0, 3, 10), w ∈ lw_tbl ∧ (goodWord w || zisX w) = true := by decide +kernel
theorem zwk_3_32 : ∀ w ∈ zws 3 (32, 0, 3, 11), w ∈ lw_tbl ∧ (goodWord w || zisX w) = true := by decide +kernel
theorem zwk_3_35 : ∀ w ∈ zws 3 (35, 0, 3, 12), w ∈ lw_tbl ∧ (goodWord w || zisX w) = true := by decide +kernel
theorem zwk_3_38 : ∀ w ∈ zws 3 (38, 0, 3, 13), w ∈ lw_tbl ∧ (goodWord w || zisX w) = true := by decide +kernel
theorem zwk_3_41 : ∀ w ∈ zws 3 (41, 0, 3, 14), w ∈ lw_tbl ∧ (goodWord w || zisX w) = true := by decide +kernel
theorem zwk_3_44 : ∀ w ∈ zws 3 (44, 0, 3, 15), w ∈ lw_tbl ∧ (goodWord w || zisX w) = true := by decide +kernel
theorem zwk_3_48 : ∀ w ∈ zws 3 (48, 0, 3, 17), w ∈ lw_tbl ∧ (goodWord w || zisX w) = true := by decide +kernel
theorem zwk_3_51 : ∀ w ∈ zws 3 (51, 0, 3, 18), w ∈ lw_tbl ∧ (goodWord w || zisX w) = true := by decide +kernel
theorem zwk_3_54 : ∀ w ∈ zws 3 (54, 0, 3, 19), w ∈ lw_tbl ∧ (goodWord w || zisX w) = true := by decide +kernel
theorem zwk_3_57 : ∀ w ∈ zws 3 (57, 0, 3, 20), w ∈ lw_tbl ∧ (goodWord w || zisX w) = true := by decide +kernel
theorem zwk_3_60 : ∀ w ∈ zws 3 (60, 0, 3, 21), w ∈ lw_tbl ∧ (goodWord w || zisX w) = true := by decide +kernel
theorem zwk_3_64 : ∀ w ∈ zws 3 (64, 0, 3, 0), w ∈ lw_tbl ∧ (goodWord w || zisX w) = true := by decide +kernel
theorem zwk_3_67 : ∀ w ∈ zws 3 (67, 0, 3, 8), w ∈ lw_tbl ∧ (goodWord w || zisX w) = true := by decide +kernel
theorem zwk_3_70 : ∀ w ∈ zws 3 (70, 2, 64, 0), w ∈ lw_tbl ∧ (goodWord w || zisX w) = true := by decide +kernel
theorem zwk_3_74 : ∀ w ∈ zws 3 (74, 0, 3, 16), w ∈ lw_tbl ∧ (goodWord w || zisX w) = true := by decide +kernel
theorem zwk_3_77 : ∀ w ∈ zws 3 (77, 1, 66, 0), w ∈ lw_tbl ∧ (goodWord w || zisX w) = true := by decide +kernel
theorem zwk_3_85 : ∀ w ∈ zws 3 (85, 1, 68, 0), w ∈ lw_tbl ∧ (goodWord w || zisX w) = true := by decide +kernel
theorem zwk_3_95 : ∀ w ∈ zws 3 (95, 0, 3, 4), w ∈ lw_tbl ∧ (goodWord w || zisX w) = true := by decide +kernel
theorem zwk_3_98 : ∀ w ∈ zws 3 (98, 0, 3, 1), w ∈ lw_tbl ∧ (goodWord w || zisX w) = true := by decide +kernel
theorem zwk_3_101 : ∀ w ∈ zws 3 (101, 1, 73, 0), w ∈ lw_tbl ∧ (goodWord w || zisX w) = true := by decide +kernel
theorem zwk_3_105 : ∀ w ∈ zws 3 (105, 1, 72, 0), w ∈ lw_tbl ∧ (goodWord w || zisX w) = true := by decide +kernel
theorem zwk_3_108 : ∀ w ∈ zws 3 (108, 1, 74, 0), w ∈ lw_tbl ∧ (goodWord w || zisX w) = true := by decide +kernel
theorem zwk_3_112 : ∀ w ∈ zws 3 (112, 1, 76, 0), w ∈ lw_tbl ∧ (goodWord w || zisX w) = true := by decide +kernel
theorem zwk_3_116 : ∀ w ∈ zws 3 (116, 1, 65, 0), w ∈ lw_tbl ∧ (goodWord w || zisX w) = true := by decide +kernel
theorem zwk_3_119 : ∀ w ∈ zws 3 (119, 1, 77, 0), w ∈ lw_tbl ∧ (goodWord w || zisX w) = true := by decide +kernel
theorem zwk_3_122 : ∀ w ∈ zws 3 (122, 1, 78, 0), w ∈ lw_tbl ∧ (goodWord w || zisX w) = true := by decide +kernel
theorem zwk_3_125 : ∀ w ∈ zws 3 (125, 1, 80, 0), w ∈ lw_tbl ∧ (goodWord w || zisX w) = true := by decide +kernel
theorem zwk_3_128 : ∀ w ∈ zws 3 (128, 1, 84, 0), w ∈ lw_tbl ∧ (goodWord w || zisX w) = true := by decide +kernel
theorem zwk_3_131 : ∀ w ∈ zws 3 (131, 1, 86, 0), w ∈ lw_tbl ∧ (goodWord w || zisX w) = true := by decide +kernel
theorem zwk_3_137 : ∀ w ∈ zws 3 (137, 1, 87, 0), w ∈ lw_tbl ∧ (goodWord w || zisX w) = true := by decide +kernel
set_option maxRecDepth 20000 in
theorem zwok_3 : ∀ q ∈ zP_3, ∀ w ∈ zws 3 q, w ∈ lw_tbl ∧ (goodWord w || zisX w) = true := List.forall_mem_cons.mpr ⟨zwk_3_1, List.forall_mem_cons.mpr ⟨zwk_3_7, List.forall_mem_cons.mpr ⟨zwk_3_13, List.forall_mem_cons.mpr ⟨zwk_3_16, List.forall_mem_cons.mpr ⟨zwk_3_19, List.forall_mem_cons.mpr ⟨zwk_3_22, List.forall_mem_cons.mpr ⟨zwk_3_26, List.forall_mem_cons.mpr ⟨zwk_3_29, List.forall_mem_cons.mpr ⟨zwk_3_32, List.forall_mem_cons.mpr ⟨zwk_3_35, List.forall_mem_cons.mpr ⟨zwk_3_38, List.forall_mem_cons.mpr ⟨zwk_3_41, List.forall_mem_cons.mpr ⟨zwk_3_44, List.forall_mem_cons.mpr ⟨zwk_3_48, List.forall_mem_cons.mpr ⟨zwk_3_51, List.forall_mem_cons.mpr ⟨zwk_3_54, List.forall_mem_cons.mpr ⟨zwk_3_57, List.forall_mem_cons.mpr ⟨zwk_3_60, List.forall_mem_cons.mpr ⟨zwk_3_64, List.forall_mem_cons.mpr ⟨zwk_3_67, List.forall_mem_cons.mpr ⟨zwk_3_70, List.forall_mem_cons.mpr ⟨zwk_3_74, List.forall_mem_cons.mpr ⟨zwk_3_77, List.forall_mem_cons.mpr ⟨zwk_3_85, List.forall_mem_cons.mpr ⟨zwk_3_95, List.forall_mem_cons.mpr ⟨zwk_3_98, List.forall_mem_cons.mpr ⟨zwk_3_101, List.forall_mem_cons.mpr ⟨zwk_3_105, List.forall_mem_cons.mpr ⟨zwk_3_108, List.forall_mem_cons.mpr ⟨zwk_3_112, List.forall_mem_cons.mpr ⟨zwk_3_116, List.forall_mem_cons.mpr ⟨zwk_3_119, List.forall_mem_cons.mpr ⟨zwk_3_122, List.forall_mem_cons.mpr ⟨zwk_3_125, List.forall_mem_cons.mpr ⟨zwk_3_128, List.forall_mem_cons.mpr ⟨zwk_3_131, List.forall_mem_cons.mpr ⟨zwk_3_137, fun _ h => absurd h List.not_mem_nil⟩⟩⟩⟩⟩⟩⟩⟩⟩⟩⟩⟩⟩⟩⟩⟩⟩⟩⟩⟩⟩⟩⟩⟩⟩⟩⟩⟩⟩⟩⟩⟩⟩⟩⟩⟩⟩
end
section
theorem zwk_4_7 : ∀ w ∈ zws 4 (7, 1, 19, 0), w ∈ lw_tbl ∧ (goodWord w || zisX w) = true := by decide +kernel
theorem zwk_4_8 : ∀ w ∈ zws 4 (8, 6, 2, 0), w ∈ lw_tbl ∧ (goodWord w || zisX w) = true := by decide +kernel
theorem zwk_4_13 : ∀ w ∈ zws 4 (13, 7, 0, 0), w ∈ lw_tbl ∧ (goodWord w || zisX w) = true := by decide +kernel
theorem zwk_4_15 : ∀ w ∈ zws 4 (15, 7, 1, 0), w ∈ lw_tbl ∧ (goodWord w || zisX w) = true := by decide +kernel
theorem zwk_4_17 : ∀ w ∈ zws 4 (17, 1, 20, 0), w ∈ lw_tbl ∧ (goodWord w || zisX w) = true := by decide +kernel
theorem zwk_4_21 : ∀ w ∈ zws 4 (21, 7, 2, 0), w ∈ lw_tbl ∧ (goodWord w || zisX w) = true := by decide +kernel
theorem zwk_4_23 : ∀ w ∈ zws 4 (23, 1, 21, 0), w ∈ lw_tbl ∧ (goodWord w || zisX w) = true := by decide +kernel
theorem zwk_4_26 : ∀ w ∈ zws 4 (26, 1, 22, 0), w ∈ lw_tbl ∧ (goodWord w || zisX w) = true := by decide +kernel
theorem zwk_4_30 : ∀ w ∈ zws 4 (30, 7, 3, 0), w ∈ lw_tbl ∧ (goodWord w || zisX w) = true := by decide +kernel
theorem zwk_4_32 : ∀ w ∈ zws 4 (32, 1, 23, 0), w ∈ lw_tbl ∧ (goodWord w || zisX w) = true := by decide +kernel
theorem zwk_4_36 : ∀ w ∈ zws 4 (36, 7, 4, 0), w ∈ lw_tbl ∧ (goodWord w || zisX w) = true := by decide +kernel
theorem zwk_4_38 : ∀ w ∈ zws 4 (38, 1, 24, 0), w ∈ lw_tbl ∧ (goodWord w || zisX w) = true := by decide +kernel
theorem zwk_4_41 : ∀ w ∈ zws 4 (41, 1, 25, 0), w ∈ lw_tbl ∧ (goodWord w || zisX w) = true := by decide +kernel
theorem zwk_4_44 : ∀ w ∈ zws 4 (44, 1, 26, 0), w ∈ lw_tbl ∧ (goodWord w || zisX w) = true := by decide +kernel
theorem zwk_4_47 : ∀ w ∈ zws 4 (47, 1, 27, 0), w ∈ lw_tbl ∧ (goodWord w || zisX w) = true := by decide +kernel
theorem zwk_4_50 : ∀ w ∈ zws 4 (50, 1, 28, 0), w ∈ lw_tbl ∧ (goodWord w || zisX w) = true := by decide +kernel
theorem zwk_4_53 : ∀ w ∈ zws 4 (53, 1, 29, 0), w ∈ lw_tbl ∧ (goodWord w || zisX w) = true := by decide +kernel
theorem zwk_4_56 : ∀ w ∈ zws 4 (56, 1, 30, 0), w ∈ lw_tbl ∧ (goodWord w || zisX w) = true := by decide +kernel
theorem zwk_4_60 : ∀ w ∈ zws 4 (60, 1, 31, 0), w ∈ lw_tbl ∧ (goodWord w || zisX w) = true := by decide +kernel
theorem zwk_4_63 : ∀ w ∈ zws 4 (63, 1, 32, 0), w ∈ lw_tbl ∧ (goodWord w || zisX w) = true := by decide +kernel
theorem zwk_4_66 : ∀ w ∈ zws 4 (66, 1, 33, 0), w ∈ lw_tbl ∧ (goodWord w || zisX w) = true := by decide +kernel
theorem zwk_4_69 : ∀ w ∈ zws 4 (69, 1, 34, 0), w ∈ lw_tbl ∧ (goodWord w || zisX w) = true := by decide +kernel
theorem zwk_4_73 : ∀ w ∈ zws 4 (73, 1, 35, 0), w ∈ lw_tbl ∧ (goodWord w || zisX w) = true := by decide +kernel
theorem zwk_4_76 : ∀ w ∈ zws 4 (76, 7, 5, 0), w ∈ lw_tbl ∧ (goodWord w || zisX w) = true := by decide +kernel
theorem zwk_4_78 : ∀ w ∈ zws 4 (78, 1, 36, 0), w ∈ lw_tbl ∧ (goodWord w || zisX w) = true := by decide +kernel
theorem zwk_4_81 : ∀ w ∈ zws 4 (81, 1, 37, 0), w ∈ lw_tbl ∧ (goodWord w || zisX w) = true := by decide +kernel
theorem zwk_4_85 : ∀ w ∈ zws 4 (85, 1, 38, 0), w ∈ lw_tbl ∧ (goodWord w || zisX w) = true := by decide +kernel
theorem zwk_4_89 : ∀ w ∈ zws 4 (89, 1, 39, 0), w ∈ lw_tbl ∧ (goodWord w || zisX w) = true := by decide +kernel
theorem zwk_4_92 : ∀ w ∈ zws 4 (92, 1, 40, 0), w ∈ lw_tbl ∧ (goodWord w || zisX w) = true := by decide +kernel
theorem zwk_4_96 : ∀ w ∈ zws 4 (96, 4, 18, 0), w ∈ lw_tbl ∧ (goodWord w || zisX w) = true := by decide +kernel
theorem zwk_4_97 : ∀ w ∈ zws 4 (97, 6, 3, 0), w ∈ lw_tbl ∧ (goodWord w || zisX w) = true := by decide +kernel
theorem zwk_4_99 : ∀ w ∈ zws 4 (99, 4, 62, 0), w ∈ lw_tbl ∧ (goodWord w || zisX w) = true := by decide +kernel
theorem zwk_4_100 : ∀ w ∈ zws 4 (100, 2, 101, 0), w ∈ lw_tbl ∧ (goodWord w || zisX w) = true := by decide +kernel
theorem zwk_4_105 : ∀ w ∈ zws 4 (105, 1, 67, 0), w ∈ lw_tbl ∧ (goodWord w || zisX w) = true := by decide +kernel
theorem zwk_4_106 : ∀ w ∈ zws 4 (106, 1, 63, 0), w ∈ lw_tbl ∧ (goodWord w || zisX w) = true := by decide +kernel
theorem zwk_4_110 : ∀ w ∈ zws 4 (110, 2, 102, 0), w ∈ lw_tbl ∧ (goodWord w || zisX w) = true := by decide +kernel
theorem zwk_4_113 : ∀ w ∈ zws 4 (113, 1, 69, 0), w ∈ lw_tbl ∧ (goodWord w || zisX w) = true := by decide +kernel
theorem zwk_4_114 : ∀ w ∈ zws 4 (114, 2, 103, 0), w ∈ lw_tbl ∧ (goodWord w || zisX w) = true := by decide +kernel
theorem zwk_4_116 : ∀ w ∈ zws 4 (116, 1, 70, 0), w ∈ lw_tbl ∧ (goodWord w || zisX w) = true := by decide +kernel
theorem zwk_4_117 : ∀ w ∈ zws 4 (117, 2, 104, 0), w ∈ lw_tbl ∧ (goodWord w || zisX w) = true := by decide +kernel
theorem zwk_4_120 : ∀ w ∈ zws 4 (120, 1, 71, 0), w ∈ lw_tbl ∧ (goodWord w || zisX w) = true := by decide +kernel
theorem zwk_4_121 : ∀ w ∈ zws 4 (121, 2, 105, 0), w ∈ lw_tbl ∧ (goodWord w || zisX w) = true := by decide +kernel
theorem zwk_4_124 : ∀ w ∈ zws 4 (124, 1, 75, 0), w ∈ lw_tbl ∧ (goodWord w || zisX w) = true := by decide +kernel
theorem zwk_4_125 : ∀ w ∈ zws 4 (125, 2, 106, 0), w ∈ lw_tbl ∧ (goodWord w || zisX w) = true := by decide +kernel
theorem zwk_4_127 : ∀ w ∈ zws 4 (127, 1, 79, 0), w ∈ lw_tbl ∧ (goodWord w || zisX w) = true := by decide +kernel
theorem zwk_4_128 : ∀ w ∈ zws 4 (128, 2, 107, 0), w ∈ lw_tbl ∧ (goodWord w || zisX w) = true := by decide +kernel
theorem zwk_4_130 : ∀ w ∈ zws 4 (130, 1, 81, 0), w ∈ lw_tbl ∧ (goodWord w || zisX w) = true := by decide +kernel
theorem zwk_4_131 : ∀ w ∈ zws 4 (131, 2, 108, 0), w ∈ lw_tbl ∧ (goodWord w || zisX w) = true := by decide +kernel
theorem zwk_4_133 : ∀ w ∈ zws 4 (133, 1, 82, 0), w ∈ lw_tbl ∧ (goodWord w || zisX w) = true := by decide +kernel
theorem zwk_4_134 : ∀ w ∈ zws 4 (134, 2, 109, 0), w ∈ lw_tbl ∧ (goodWord w || zisX w) = true := by decide +kernel
theorem zwk_4_136 : ∀ w ∈ zws 4 (136, 1, 83, 0), w ∈ lw_tbl ∧ (goodWord w || zisX w) = true := by decide +kernel
theorem zwk_4_137 : ∀ w ∈ zws 4 (137, 2, 110, 0), w ∈ lw_tbl ∧ (goodWord w || zisX w) = true := by decide +kernel
theorem zwk_4_139 : ∀ w ∈ zws 4 (139, 1, 85, 0), w ∈ lw_tbl ∧ (goodWord w || zisX w) = true := by decide +kernel
theorem zwk_4_140 : ∀ w ∈ zws 4 (140, 2, 111, 0), w ∈ lw_tbl ∧ (goodWord w || zisX w) = true := by decide +kernel
theorem zwk_4_142 : ∀ w ∈ zws 4 (142, 1, 88, 0), w ∈ lw_tbl ∧ (goodWord w || zisX w) = true := by decide +kernel
theorem zwk_4_145 : ∀ w ∈ zws 4 (145, 2, 112, 0), w ∈ lw_tbl ∧ (goodWord w || zisX w) = true := by decide +kernel
theorem zwk_4_148 : ∀ w ∈ zws 4 (148, 1, 89, 0), w ∈ lw_tbl ∧ (goodWord w || zisX w) = true := by decide +kernel
theorem zwk_4_149 : ∀ w ∈ zws 4 (149, 2, 113, 0), w ∈ lw_tbl ∧ (goodWord w || zisX w) = true := by decide +kernel
theorem zwk_4_151 : ∀ w ∈ zws 4 (151, 1, 90, 0), w ∈ lw_tbl ∧ (goodWord w || zisX w) = true := by decide +kernel
theorem zwk_4_152 : ∀ w ∈ zws 4 (152, 2, 114, 0), w ∈ lw_tbl ∧ (goodWord w || zisX w) = true := by decide +kernel
theorem zwk_4_154 : ∀ w ∈ zws 4 (154, 1, 91, 0), w ∈ lw_tbl ∧ (goodWord w || zisX w) = true := by decide +kernel
theorem zwk_4_155 : ∀ w ∈ zws 4 (155, 2, 115, 0), w ∈ lw_tbl ∧ (goodWord w || zisX w) = true := by decide +kernel
theorem zwk_4_157 : ∀ w ∈ zws 4 (157, 1, 92, 0), w ∈ lw_tbl ∧ (goodWord w || zisX w) = true := by decide +kernel
theorem zwk_4_158 : ∀ w ∈ zws 4 (158, 2, 116, 0), w ∈ lw_tbl ∧ (goodWord w || zisX w) = true := by decide +kernel
theorem zwk_4_161 : ∀ w ∈ zws 4 (161, 1, 93, 0), w ∈ lw_tbl ∧ (goodWord w || zisX w) = true := by decide +kernel
theorem zwk_4_162 : ∀ w ∈ zws 4 (162, 2, 117, 0), w ∈ lw_tbl ∧ (goodWord w || zisX w) = true := by decide +kernel
theorem zwk_4_164 : ∀ w ∈ zws 4 (164, 1, 94, 0), w ∈ lw_tbl ∧ (goodWord w || zisX w) = true := by decide +kernel
theorem zwk_4_165 : ∀ w ∈ zws 4 (165, 2, 118, 0), w ∈ lw_tbl ∧ (goodWord w || zisX w) = true := by decide +kernel
theorem zwk_4_167 : ∀ w ∈ zws 4 (167, 1, 95, 0), w ∈ lw_tbl ∧ (goodWord w || zisX w) = true := by decide +kernel
theorem zwk_4_168 : ∀ w ∈ zws 4 (168, 2, 119, 0), w ∈ lw_tbl ∧ (goodWord w || zisX w) = true := by decide +kernel
theorem zwk_4_170 : ∀ w ∈ zws 4 (170, 1, 96, 0), w ∈ lw_tbl ∧ (goodWord w || zisX w) = true := by decide +kernel
theorem zwk_4_171 : ∀ w ∈ zws 4 (171, 2, 120, 0), w ∈ lw_tbl ∧ (goodWord w || zisX w) = true := by decide +kernel
theorem zwk_4_174 : ∀ w ∈ zws 4 (174, 1, 97, 0), w ∈ lw_tbl ∧ (goodWord w || zisX w) = true := by decide +kernel
theorem zwk_4_175 : ∀ w ∈ zws 4 (175, 2, 121, 0), w ∈ lw_tbl ∧ (goodWord w || zisX w) = true := by decide +kernel
theorem zwk_4_177 : ∀ w ∈ zws 4 (177, 1, 98, 0), w ∈ lw_tbl ∧ (goodWord w || zisX w) = true := by decide +kernel
theorem zwk_4_178 : ∀ w ∈ zws 4 (178, 2, 122, 0), w ∈ lw_tbl ∧ (goodWord w || zisX w) = true := by decide +kernel
theorem zwk_4_180 : ∀ w ∈ zws 4 (180, 1, 99, 0), w ∈ lw_tbl ∧ (goodWord w || zisX w) = true := by decide +kernel
theorem zwk_4_181 : ∀ w ∈ zws 4 (181, 1, 41, 0), w ∈ lw_tbl ∧ (goodWord w || zisX w) = true := by decide +kernel
theorem zwk_4_184 : ∀ w ∈ zws 4 (184, 1, 100, 0), w ∈ lw_tbl ∧ (goodWord w || zisX w) = true := by decide +kernel
set_option maxRecDepth 20000 in
theorem zwok_4 : ∀ q ∈ zP_4, ∀ w ∈ zws 4 q, w ∈ lw_tbl ∧ (goodWord w || zisX w) = true := List.forall_mem_cons.mpr ⟨zwk_4_7, List.forall_mem_cons.mpr ⟨zwk_4_8, List.forall_mem_cons.mpr ⟨zwk_4_13, List.forall_mem_cons.mpr ⟨zwk_4_15, List.forall_mem_cons.mpr ⟨zwk_4_17, List.forall_mem_cons.mpr ⟨zwk_4_21, List.forall_mem_cons.mpr ⟨zwk_4_23, List.forall_mem_cons.mpr ⟨zwk_4_26, List.forall_mem_cons.mpr ⟨zwk_4_30, List.forall_mem_cons.mpr ⟨zwk_4_32, List.forall_mem_cons.mpr ⟨zwk_4_36, List.forall_mem_cons.mpr ⟨zwk_4_38, List.forall_mem_cons.mpr ⟨zwk_4_41, List.forall_mem_cons.mpr ⟨zwk_4_44, List.forall_mem_cons.mpr ⟨zwk_4_47, List.forall_mem_cons.mpr ⟨zwk_4_50, List.forall_mem_cons.mpr ⟨zwk_4_53, List.forall_mem_cons.mpr ⟨zwk_4_56, List.forall_mem_cons.mpr ⟨zwk_4_60, List.forall_mem_cons.mpr ⟨zwk_4_63, List.forall_mem_cons.mpr ⟨zwk_4_66, List.forall_mem_cons.mpr ⟨zwk_4_69, List.forall_mem_cons.mpr ⟨zwk_4_73, List.forall_mem_cons.mpr ⟨zwk_4_76, List.forall_mem_cons.mpr ⟨zwk_4_78, List.forall_mem_cons.mpr ⟨zwk_4_81, List.forall_mem_cons.mpr ⟨zwk_4_85, List.forall_mem_cons.mpr ⟨zwk_4_89, List.forall_mem_cons.mpr ⟨zwk_4_92, List.forall_mem_cons.mpr ⟨zwk_4_96, List.forall_mem_cons.mpr ⟨zwk_4_97, List.forall_mem_cons.mpr ⟨zwk_4_99, List.forall_mem_cons.mpr ⟨zwk_4_100, List.forall_mem_cons.mpr ⟨zwk_4_105, List.forall_mem_cons.mpr ⟨zwk_4_106, List.forall_mem_cons.mpr ⟨zwk_4_110, List.forall_mem_cons.mpr ⟨zwk_4_113, List.forall_mem_cons.mpr ⟨zwk_4_114, List.forall_mem_cons.mpr ⟨zwk_4_116, List.forall_mem_cons.mpr ⟨zwk_4_117, List.forall_mem_cons.mpr ⟨zwk_4_120, List.forall_mem_cons.mpr ⟨zwk_4_121, List.forall_mem_cons.mpr ⟨zwk_4_124, List.forall_mem_cons.mpr ⟨zwk_4_125, List.forall_mem_cons.mpr ⟨zwk_4_127, List.forall_mem_cons.mpr ⟨zwk_4_128, List.forall_mem_cons.mpr ⟨zwk_4_130, List.forall_mem_cons.mpr ⟨zwk_4_131, List.forall_mem_cons.mpr ⟨zwk_4_133, List.forall_mem_cons.mpr ⟨zwk_4_134, List.forall_mem_cons.mpr ⟨zwk_4_136, List.forall_mem_cons.mpr ⟨zwk_4_137, List.forall_mem_cons.mpr ⟨zwk_4_139, List.forall_mem_cons.mpr ⟨zwk_4_140, List.forall_mem_cons.mpr ⟨zwk_4_142, List.forall_mem_cons.mpr ⟨zwk_4_145, List.forall_mem_cons.mpr ⟨zwk_4_148, List.forall_mem_cons.mpr ⟨zwk_4_149, List.forall_mem_cons.mpr ⟨zwk_4_151, List.forall_mem_cons.mpr ⟨zwk_4_152, List.forall_mem_cons.mpr ⟨zwk_4_154, List.forall_mem_cons.mpr ⟨zwk_4_155, List.forall_mem_cons.mpr ⟨zwk_4_157, List.forall_mem_cons.mpr ⟨zwk_4_158, List.forall_mem_cons.mpr ⟨zwk_4_161, List.forall_mem_cons.mpr ⟨zwk_4_162, List.forall_mem_cons.mpr ⟨zwk_4_164, List.forall_mem_cons.mpr ⟨zwk_4_165, List.forall_mem_cons.mpr ⟨zwk_4_167, List.forall_mem_cons.mpr ⟨zwk_4_168, List.forall_mem_cons.mpr ⟨zwk_4_170, List.forall_mem_cons.mpr ⟨zwk_4_171, List.forall_mem_cons.mpr ⟨zwk_4_174, List.forall_mem_cons.mpr ⟨zwk_4_175, List.forall_mem_cons.mpr ⟨zwk_4_177, List.forall_mem_cons.mpr ⟨zwk_4_178, List.forall_mem_cons.mpr ⟨zwk_4_180, List.forall_mem_cons.mpr ⟨zwk_4_181, List.forall_mem_cons.mpr ⟨zwk_4_184, fun _ h => absurd h List.not_mem_nil⟩⟩⟩⟩⟩⟩⟩⟩⟩⟩⟩⟩⟩⟩⟩⟩⟩⟩⟩⟩⟩⟩⟩⟩⟩⟩⟩⟩⟩⟩⟩⟩⟩⟩⟩⟩⟩⟩⟩⟩⟩⟩⟩⟩⟩⟩⟩⟩⟩⟩⟩⟩⟩⟩⟩⟩⟩⟩⟩⟩⟩⟩⟩⟩⟩⟩⟩⟩⟩⟩⟩⟩⟩⟩⟩⟩⟩⟩⟩
end
section
theorem zall_step {α : Type} {l : List α} {f : α → Bool} {k : Nat} (h1 : ((l.drop k).take 40).all f = true) (h2 : (l.drop (k + 40)).all f = true) : (l.drop k).all f = true := by
  rw [← List.take_append_drop 40 (l.drop k), List.all_append, h1, List.drop_drop, h2]
  rfl
set_option maxRecDepth 20000 in
theorem zr_L_law : zT_L_law.all (zrow code) = true := (zall_step (k := 0) zr_L_law_0 (zall_step (k := 40) zr_L_law_1 (zall_step (k := 80) zr_L_law_2 (zall_step (k := 120) zr_L_law_3 (zall_step (k := 160) zr_L_law_4 (zall_step (k := 200) zr_L_law_5 (zall_step (k := 240) zr_L_law_6 (zall_step (k := 280) zr_L_law_7 (zall_step (k := 320) zr_L_law_8 (zall_step (k := 360) zr_L_law_9 (zall_step (k := 400) zr_L_law_10 (zall_step (k := 440) zr_L_law_11 (zall_step (k := 480) zr_L_law_12 (zall_step (k := 520) zr_L_law_13 (zall_step (k := 560) zr_L_law_14 (zall_step (k := 600) zr_L_law_15 (zall_step (k := 640) zr_L_law_16 (zall_step (k := 680) zr_L_law_17 (zall_step (k := 720) zr_L_law_18 (zall_step (k := 760) zr_L_law_19 (zall_step (k := 800) zr_L_law_20 (zall_step (k := 840) zr_L_law_21 (zall_step (k := 880) zr_L_law_22 (zall_step (k := 920) zr_L_law_23 (by decide +kernel)))))))))))))))))))))))))
set_option maxRecDepth 100000 in
theorem zr_all : ∀ q ∈ zMs.zip zTs, q.2.all (zrow q.1.2.1) = true := List.forall_mem_cons.mpr ⟨zr_X0_init, List.forall_mem_cons.mpr ⟨zr_X0_clear, List.forall_mem_cons.mpr ⟨zr_X0_hasRoom, List.forall_mem_cons.mpr ⟨zr_X0_add, List.forall_mem_cons.mpr ⟨zr_X0_seek, List.forall_mem_cons.mpr ⟨zr_X0_read, List.forall_mem_cons.mpr ⟨zr_X1_init, List.forall_mem_cons.mpr ⟨zr_X1_be, List.forall_mem_cons.mpr ⟨zr_X1_stand, List.forall_mem_cons.mpr ⟨zr_X1_stands, List.forall_mem_cons.mpr ⟨zr_X1_isOver, List.forall_mem_cons.mpr ⟨zr_X1_expire, List.forall_mem_cons.mpr ⟨zr_X1_canBecome, List.forall_mem_cons.mpr ⟨zr_X1_depth, List.forall_mem_cons.mpr ⟨zr_X1_liesWithin, List.forall_mem_cons.mpr ⟨zr_X1_matches, List.forall_mem_cons.mpr ⟨zr_X1_isLike, List.forall_mem_cons.mpr ⟨zr_X1_pack, List.forall_mem_cons.mpr ⟨zr_X2_init, List.forall_mem_cons.mpr ⟨zr_X2_rows, List.forall_mem_cons.mpr ⟨zr_X2_place, List.forall_mem_cons.mpr ⟨zr_X2_good, List.forall_mem_cons.mpr ⟨zr_X2_lot, List.forall_mem_cons.mpr ⟨zr_X2_unit, List.forall_mem_cons.mpr ⟨zr_X2_move, List.forall_mem_cons.mpr ⟨zr_X2_into, List.forall_mem_cons.mpr ⟨zr_X2_out, List.forall_mem_cons.mpr ⟨zr_X2_split, List.forall_mem_cons.mpr ⟨zr_X2_join, List.forall_mem_cons.mpr ⟨zr_X2_state, List.forall_mem_cons.mpr ⟨zr_X2_serial, List.forall_mem_cons.mpr ⟨zr_X2_lost, List.forall_mem_cons.mpr ⟨zr_X2_found, List.forall_mem_cons.mpr ⟨zr_X2_weigh, List.forall_mem_cons.mpr ⟨zr_X2_day, List.forall_mem_cons.mpr ⟨zr_X2_at, List.forall_mem_cons.mpr ⟨zr_X2_find, List.forall_mem_cons.mpr ⟨zr_X2_sum, List.forall_mem_cons.mpr ⟨zr_X2_row, List.forall_mem_cons.mpr ⟨zr_X2_told, List.forall_mem_cons.mpr ⟨zr_X2_packed, List.forall_mem_cons.mpr ⟨zr_X2_count, List.forall_mem_cons.mpr ⟨zr_X2_isWithin, List.forall_mem_cons.mpr ⟨zr_X2_checkRange, List.forall_mem_cons.mpr ⟨zr_X2_checkPlace, List.forall_mem_cons.mpr ⟨zr_X2_checkStands, List.forall_mem_cons.mpr ⟨zr_X2_unitOf, List.forall_mem_cons.mpr ⟨zr_X2_needRows, List.forall_mem_cons.mpr ⟨zr_X2_needSpace, List.forall_mem_cons.mpr ⟨zr_X2_nextUnit, List.forall_mem_cons.mpr ⟨zr_X2_addRow, List.forall_mem_cons.mpr ⟨zr_X2_gramsOf, List.forall_mem_cons.mpr ⟨zr_X2_unitsAt, List.forall_mem_cons.mpr ⟨zr_X2_unitsStanding, List.forall_mem_cons.mpr ⟨zr_X2_unitsWithin, List.forall_mem_cons.mpr ⟨zr_X2_levels, List.forall_mem_cons.mpr ⟨zr_X2_carry, List.forall_mem_cons.mpr ⟨zr_X2_takeAway, List.forall_mem_cons.mpr ⟨zr_X2_canLieIn, List.forall_mem_cons.mpr ⟨zr_X2_canJoin, List.forall_mem_cons.mpr ⟨zr_X2_isPlain, List.forall_mem_cons.mpr ⟨zr_X2_isSerialInUse, List.forall_mem_cons.mpr ⟨zr_X3_init, List.forall_mem_cons.mpr ⟨zr_X3_thrown, List.forall_mem_cons.mpr ⟨zr_X3_in, List.forall_mem_cons.mpr ⟨zr_X3_isUnit, List.forall_mem_cons.mpr ⟨zr_X3_stands, List.forall_mem_cons.mpr ⟨zr_X3_rows, List.forall_mem_cons.mpr ⟨zr_X3_standingAt, List.forall_mem_cons.mpr ⟨zr_X3_place, List.forall_mem_cons.mpr ⟨zr_X3_good, List.forall_mem_cons.mpr ⟨zr_X3_lot, List.forall_mem_cons.mpr ⟨zr_X3_isOver, List.forall_mem_cons.mpr ⟨zr_X3_act, List.forall_mem_cons.mpr ⟨zr_X3_make, List.forall_mem_cons.mpr ⟨zr_X3_unit, List.forall_mem_cons.mpr ⟨zr_X3_isIn, List.forall_mem_cons.mpr ⟨zr_X3_load, List.forall_mem_cons.mpr ⟨zr_X3_depth, List.forall_mem_cons.mpr ⟨zr_X3_move, List.forall_mem_cons.mpr ⟨zr_X3_tall, List.forall_mem_cons.mpr ⟨zr_X3_into, List.forall_mem_cons.mpr ⟨zr_X3_out, List.forall_mem_cons.mpr ⟨zr_X3_split, List.forall_mem_cons.mpr ⟨zr_X3_areAlike, List.forall_mem_cons.mpr ⟨zr_X3_join, List.forall_mem_cons.mpr ⟨zr_X3_leave, List.forall_mem_cons.mpr ⟨zr_X3_mayBecome, List.forall_mem_cons.mpr ⟨zr_X3_state, List.forall_mem_cons.mpr ⟨zr_X3_serial, List.forall_mem_cons.mpr ⟨zr_X3_lost, List.forall_mem_cons.mpr ⟨zr_X3_found, List.forall_mem_cons.mpr ⟨zr_X3_weigh, List.forall_mem_cons.mpr ⟨zr_X3_day, List.forall_mem_cons.mpr ⟨zr_X3_at, List.forall_mem_cons.mpr ⟨zr_X3_find, List.forall_mem_cons.mpr ⟨zr_X3_sum, List.forall_mem_cons.mpr ⟨zr_X3_row, List.forall_mem_cons.mpr ⟨zr_X3_told, List.forall_mem_cons.mpr ⟨zr_X3_packed, List.forall_mem_cons.mpr ⟨zr_X3_count, List.forall_mem_cons.mpr ⟨zr_L_rows, List.forall_mem_cons.mpr ⟨zr_L_place, List.forall_mem_cons.mpr ⟨zr_L_good, List.forall_mem_cons.mpr ⟨zr_L_lot, List.forall_mem_cons.mpr ⟨zr_L_unit, List.forall_mem_cons.mpr ⟨zr_L_move, List.forall_mem_cons.mpr ⟨zr_L_into, List.forall_mem_cons.mpr ⟨zr_L_out, List.forall_mem_cons.mpr ⟨zr_L_split, List.forall_mem_cons.mpr ⟨zr_L_join, List.forall_mem_cons.mpr ⟨zr_L_state, List.forall_mem_cons.mpr ⟨zr_L_serial, List.forall_mem_cons.mpr ⟨zr_L_lost, List.forall_mem_cons.mpr ⟨zr_L_found, List.forall_mem_cons.mpr ⟨zr_L_weigh, List.forall_mem_cons.mpr ⟨zr_L_day, List.forall_mem_cons.mpr ⟨zr_L_at, List.forall_mem_cons.mpr ⟨zr_L_find, List.forall_mem_cons.mpr ⟨zr_L_sum, List.forall_mem_cons.mpr ⟨zr_L_row, List.forall_mem_cons.mpr ⟨zr_L_told, List.forall_mem_cons.mpr ⟨zr_L_packed, List.forall_mem_cons.mpr ⟨zr_L_law, fun _ h => absurd h List.not_mem_nil⟩⟩⟩⟩⟩⟩⟩⟩⟩⟩⟩⟩⟩⟩⟩⟩⟩⟩⟩⟩⟩⟩⟩⟩⟩⟩⟩⟩⟩⟩⟩⟩⟩⟩⟩⟩⟩⟩⟩⟩⟩⟩⟩⟩⟩⟩⟩⟩⟩⟩⟩⟩⟩⟩⟩⟩⟩⟩⟩⟩⟩⟩⟩⟩⟩⟩⟩⟩⟩⟩⟩⟩⟩⟩⟩⟩⟩⟩⟩⟩⟩⟩⟩⟩⟩⟩⟩⟩⟩⟩⟩⟩⟩⟩⟩⟩⟩⟩⟩⟩⟩⟩⟩⟩⟩⟩⟩⟩⟩⟩⟩⟩⟩⟩⟩⟩⟩⟩⟩⟩⟩⟩⟩⟩
theorem zlens : zMs.length = 124 ∧ zTs.length = 124 := by decide +kernel
end
section
/-! the small machine's heap and locals against the machine's -/
def zv (n0 : Nat) (ext : Nat → Nat) : Value → Value
  | .ref k => .ref (n0 + k)
  | .retAddr i => .ref (ext i)
  | v => v
def zw (n0 : Nat) (v : Value) : Value := zv n0 (fun _ => 0) v
theorem zv_ok {n0 : Nat} {ext : Nat → Nat} {v : Value} (h : zok v = true) : zv n0 ext v = zw n0 v := by
  cases v <;> first | rfl | (simp [zok] at h)
theorem zv_cat (n0 : Nat) (ext : Nat → Nat) (v : Value) : (zv n0 ext v).category = v.category := by cases v <;> rfl
theorem zv_fits {n0 : Nat} {t : FieldType} {v : Value} (h : zfits t v = true) : zok v = true ∧ narrow t (zw n0 v) = zw n0 v ∧ fits t (zw n0 v) = true := by
  cases t <;> cases v <;> first | (simp [zfits] at h; done) | exact ⟨rfl, rfl, rfl⟩
def zcel (D : va_G) (aC : Nat → ClassId) (n0 : Nat) (q : Nat × List Value) (cell : Cell) : Prop :=
  cell.vm = .none ∧ (∀ v ∈ q.2, zok v = true) ∧ (q.1 < 4 → cell.cls = aC q.1 ∧ cell.slots = (q.2.map (zw n0)).toArray) ∧
  (∀ ci, ci < 4 → q.1 = 10 + ci → cell.cls = D.1 ci ∧ ∀ k, k < znf ci → ∃ v, q.2[k]? = some v ∧ cell.slots[D.2 ci k]? = some (zw n0 v))
def zRep (D : va_G) (aC : Nat → ClassId) (n0 : Nat) (h : zH) (H : Heap) : Prop := H.size = n0 + h.length ∧ ∀ k q, h[k]? = some q → ∃ cell, H[n0 + k]? = some cell ∧ zcel D aC n0 q cell
/-- how many slots the cells take -/
def zsl (h : zH) : Nat := (h.map (fun q => bif Nat.ble 100 q.1 then 6 else q.2.length)).sum
theorem zsl_app (h g : zH) : zsl (h ++ g) = zsl h + zsl g := by simp [zsl]
theorem zRep_set {D : va_G} {aC : Nat → ClassId} {n0 a : Nat} {h : zH} {H H' : Heap} {q q' : Nat × List Value} {cell : Cell} (hR : zRep D aC n0 h H) (ha : h[a]? = some q) (z : H'.size = H.size) (oq : ∀ x, x ≠ n0 + a → H'[x]? = H[x]?) (hc : H'[n0 + a]? = some cell) (hq : zcel D aC n0 q' cell) : zRep D aC n0 (h.set a q') H' := by
  refine ⟨by rw [z, hR.1, List.length_set], fun k r hr => ?_⟩
  by_cases hk : k = a
  · subst hk
    have hlt : k < h.length := (List.getElem?_eq_some_iff.mp ha).1
    rw [List.getElem?_set_self hlt] at hr
    cases hr
    exact ⟨cell, hc, hq⟩
  · rw [List.getElem?_set_ne (Ne.symm hk)] at hr
    obtain ⟨c1, h1, h2⟩ := hR.2 k r hr
    exact ⟨c1, by rw [oq _ (by omega)]; exact h1, h2⟩
theorem zRep_push {D : va_G} {aC : Nat → ClassId} {n0 : Nat} {h : zH} {H H' : Heap} {q : Nat × List Value} {cell : Cell} (hR : zRep D aC n0 h H) (z : H'.size = H.size + 1) (oq : ∀ x, x < H.size → H'[x]? = H[x]?) (hc : H'[H.size]? = some cell) (hq : zcel D aC n0 q cell) : zRep D aC n0 (h ++ [q]) H' := by
  refine ⟨by rw [z, hR.1, List.length_append]; rfl, fun k r hr => ?_⟩
  by_cases hk : k < h.length
  · rw [List.getElem?_append_left hk] at hr
    obtain ⟨c1, h1, h2⟩ := hR.2 k r hr
    exact ⟨c1, by rw [oq _ (by rw [hR.1]; omega)]; exact h1, h2⟩
  · rw [List.getElem?_append_right (by omega)] at hr
    have hz : k - h.length < 1 := (List.getElem?_eq_some_iff.mp hr).1
    have hk0 : k = h.length := by omega
    subst hk0
    rw [Nat.sub_self] at hr
    cases hr
    exact ⟨cell, by rw [← hR.1]; exact hc, hq⟩
theorem zsl_set {h : zH} {a : Nat} {q : Nat × List Value} {vs : List Value} (ha : h[a]? = some q) (hl : vs.length = q.2.length) : zsl (h.set a (q.1, vs)) = zsl h := by
  induction h generalizing a with
  | nil => simp at ha
  | cons r t ih =>
    cases a with
    | zero =>
      simp at ha
      subst ha
      simp [zsl, hl]
    | succ a =>
      simp at ha
      have := ih ha
      simp [zsl] at this ⊢
      omega
/-- the locals -/
def zLs (n0 : Nat) (ext : Nat → Nat) (n : Nat) (L : List Value) (ls : Array Slot) : Prop := ls.size = n ∧ L.length = n ∧ lv_wf ls ∧ ∀ (i : Nat) (v : Value), L[i]? = some v → v ≠ .retAddr 0 → ls[i]? = some (.val (zv n0 ext v))
theorem zg_some {L : List Value} {i : Nat} {v : Value} (h : zg L i = v) (hv : v ≠ .retAddr 0) : L[i]? = some v := by
  induction L generalizing i with
  | nil => exact absurd h.symm hv
  | cons a t ih =>
    cases i with
    | zero => simp only [zg] at h; simp [h]
    | succ i => simp only [zg] at h; simpa using ih h
theorem zLs_at {n0 n : Nat} {ext : Nat → Nat} {L : List Value} {ls : Array Slot} (h : zLs n0 ext n L ls) {i : Nat} {v : Value} (hv : zg L i = v) (hu : v ≠ .retAddr 0) : ls[i]? = some (.val (zv n0 ext v)) := h.2.2.2 i v (zg_some hv hu) hu
/-- the locals as the kit lists them -/
def zpairs (n0 : Nat) (ext : Nat → Nat) (L : List Value) : List (Nat × Value) := (List.range L.length).filterMap fun i => match L[i]? with
  | some v => if v = .retAddr 0 then none else some (i, zv n0 ext v)
  | none => none
theorem zpairs_mem {n0 : Nat} {ext : Nat → Nat} {L : List Value} {i : Nat} {v : Value} (h : L[i]? = some v) (hv : v ≠ .retAddr 0) : (i, zv n0 ext v) ∈ zpairs n0 ext L := by
  refine List.mem_filterMap.mpr ⟨i, List.mem_range.mpr (List.getElem?_eq_some_iff.mp h).1, ?_⟩
  simp [h, hv]
theorem zLs_has {n0 n : Nat} {ext : Nat → Nat} {L : List Value} {ls : Array Slot} (h : zLs n0 ext n L ls) : lv_has ls n (zpairs n0 ext L) := by
  refine ⟨h.1, h.2.2.1, fun q hq => ?_⟩
  obtain ⟨i, -, hi⟩ := List.mem_filterMap.mp hq
  cases hL : L[i]? with
  | none => simp [hL] at hi
  | some v =>
    by_cases hv : v = .retAddr 0
    · simp [hL, hv] at hi
    · simp [hL, hv] at hi
      rw [← hi]
      exact h.2.2.2 i v hL hv
theorem zkill_len (L : List Value) (i : Nat) : (zkill L i).length = L.length := by
  cases i with
  | zero => rfl
  | succ j =>
    simp only [zkill]
    cases zwide (zg L j) <;> simp
theorem zkill_at {L : List Value} {i j : Nat} {v : Value} (h : (zkill L i)[j]? = some v) (hv : v ≠ .retAddr 0) : L[j]? = some v ∧ ¬ (j + 1 = i ∧ v.category = 2) := by
  cases i with
  | zero => exact ⟨h, fun q => by omega⟩
  | succ k =>
    simp only [zkill] at h
    cases hw : zwide (zg L k) with
    | true =>
      rw [hw] at h
      simp only [cond_true] at h
      by_cases hjk : j = k
      · subst hjk
        have hlt : j < (L.set j (.retAddr 0)).length := (List.getElem?_eq_some_iff.mp h).1
        rw [List.getElem?_set_self (by simpa using hlt)] at h
        exact absurd (Option.some.inj h).symm hv
      · rw [List.getElem?_set_ne (Ne.symm hjk)] at h
        exact ⟨h, fun q => by omega⟩
    | false =>
      rw [hw] at h
      simp only [cond_false] at h
      refine ⟨h, fun q => ?_⟩
      have hjk : j = k := by omega
      subst hjk
      have hz : zg L j = v := by
        have : ∀ (M : List Value) (i : Nat), M[i]? = some v → zg M i = v := by
          intro M
          induction M with
          | nil => intro i hi; simp at hi
          | cons a t ih =>
            intro i hi
            cases i with
            | zero => simp at hi; simp [zg, hi]
            | succ i => simp at hi; simp only [zg]; exact ih i hi
        exact this L j h
      rw [hz] at hw
      simp [zwide, q.2] at hw
theorem zLs_set1 {n0 n : Nat} {ext : Nat → Nat} {L : List Value} {ls ls' : Array Slot} (h : zLs n0 ext n L ls) {i : Nat} {v : Value} (hi : i < n) (h' : lv_has ls' n ((i, zv n0 ext v) :: (zpairs n0 ext L).filter (fun q => !(q.1 == i) && !(q.1 + 1 == i && q.2.category == 2)))) : zLs n0 ext n (zset1 L i v) ls' := by
  refine ⟨h'.1, by rw [zset1, List.length_set, zkill_len]; exact h.2.1, h'.2.1, fun j w hj hw => ?_⟩
  by_cases hji : j = i
  · subst hji
    rw [zset1, List.getElem?_set_self (by rw [zkill_len, h.2.1]; exact hi)] at hj
    cases hj
    exact h'.2.2 _ List.mem_cons_self
  · rw [zset1, List.getElem?_set_ne (Ne.symm hji)] at hj
    obtain ⟨h1, h2⟩ := zkill_at hj hw
    refine h'.2.2 (j, zv n0 ext w) (List.mem_cons_of_mem _ (List.mem_filter.mpr ⟨zpairs_mem h1 hw, ?_⟩))
    have h3 : ¬ (j + 1 = i ∧ (zv n0 ext w).category = 2) := by rw [zv_cat]; exact h2
    simp only [Bool.and_eq_true, Bool.not_eq_true', beq_eq_false_iff_ne, Bool.and_eq_false_iff, ne_eq]
    refine ⟨hji, ?_⟩
    by_cases hj1 : j + 1 = i
    · exact Or.inr fun q => h3 ⟨hj1, q⟩
    · exact Or.inl hj1
theorem zLs_set2 {n0 n : Nat} {ext : Nat → Nat} {L : List Value} {ls ls' : Array Slot} (h : zLs n0 ext n L ls) {i : Nat} {v : Value} (hi : i + 1 < n) (h' : lv_has ls' n ((i, zv n0 ext v) :: (zpairs n0 ext L).filter (fun q => !(q.1 == i) && (!(q.1 == i + 1) && !(q.1 + 1 == i && q.2.category == 2))))) : zLs n0 ext n (zset2 L i v) ls' := by
  refine ⟨h'.1, by rw [zset2, List.length_set, List.length_set, zkill_len]; exact h.2.1, h'.2.1, fun j w hj hw => ?_⟩
  by_cases hj1 : j = i + 1
  · subst hj1
    rw [zset2, List.getElem?_set_self (by rw [List.length_set, zkill_len, h.2.1]; exact hi)] at hj
    exact absurd (Option.some.inj hj).symm hw
  · rw [zset2, List.getElem?_set_ne (Ne.symm hj1)] at hj
    by_cases hji : j = i
    · subst hji
      rw [List.getElem?_set_self (by rw [zkill_len, h.2.1]; omega)] at hj
      cases hj
      exact h'.2.2 _ List.mem_cons_self
    · rw [List.getElem?_set_ne (Ne.symm hji)] at hj
      obtain ⟨h1, h2⟩ := zkill_at hj hw
      refine h'.2.2 (j, zv n0 ext w) (List.mem_cons_of_mem _ (List.mem_filter.mpr ⟨zpairs_mem h1 hw, ?_⟩))
      have h3 : ¬ (j + 1 = i ∧ (zv n0 ext w).category = 2) := by rw [zv_cat]; exact h2
      simp only [Bool.and_eq_true, Bool.not_eq_true', beq_eq_false_iff_ne, Bool.and_eq_false_iff, ne_eq]
      refine ⟨hji, hj1, ?_⟩
      by_cases hj2 : j + 1 = i
      · exact Or.inr fun q => h3 ⟨hj2, q⟩
      · exact Or.inl hj2
end
section
/-! one step of the small machine is a step of the machine -/
def zaty : Nat → FieldType
  | 0 => .int
  | 1 => .long
  | 2 => .boolean
  | _ => .object RX1
/-- what the tables say, in the words that stay true from call to call -/
def zK (D : va_G) (aC : Nat → ClassId) (U : State) : Prop :=
  (∀ ci, ci < 4 → u_Kn U (zcn ci) (zfd ci) (znf ci) (D.1 ci) (D.2 ci)) ∧
  (∀ t, t < 4 → U.vm.findClass ("[" ++ (zaty t).toString) = some (aC t) ∧ ∃ (k : Class) (comp : ClassId), U.vm.classes[aC t]? = some k ∧ k.kind = .array comp (zaty t) ∧ (t = 3 → comp = D.1 1)) ∧
  va_AO RX1 U ∧ (∀ w ∈ lw_tbl, zisX w = true → va_Nw w U) ∧ (∀ q ∈ zSt, ∃ a, vk_R (zcn q.1) q.2.1 q.2.2 a U) ∧
  (∀ e1 e2, e1 < 6 → e2 < 6 → e1 ≠ e2 → va_Nc (zen e1) (zen e2) U)
/-- what holds all along a method's walk -/
def zCx (sL : Nat) (sx : Nat → Int32) (b n0 : Nat) (D : va_G) (aC : Nat → ClassId) (p : Program) (R : Room) (s : State) (m : MethodId) (args : Array Value) (meth : Method) (c : Code) (y d : Nat) : Prop :=
  (p.tables.exec = Jvm.exec ∧ c.code = zbyt y ∧ meth.sig.returnType = zret y ∧ c.maxLocals = zmax y ∧ s.vm.findClass (zcn (zcls y)) = some m.cls) ∧
  (∀ w ∈ lw_tbl, goodWord w = true → w.before args s = true) ∧ c.exceptionTable.toList = tableOf (zhan y) ∧ meth.locks = false ∧ meth.name = (zname y).name ∧ (d ≤ R.frames ∧ 29 * d + 88 ≤ R.locals) ∧ zK D aC s ∧
  (vx_Zq Bundle.tN "UNASSIGNED_STACK" Bundle.steD (fun q => n0 ≤ q) s s.heap ∧ vx_Zq Bundle.tN "SUPPRESSED_SENTINEL" Bundle.listD (fun q => n0 ≤ q) s s.heap) ∧ (va_X b sL sx s s.heap ∧ b < n0) ∧ n0 ≤ s.heap.size
/-- from here the machine comes to Q: whatever heap and locals stand for these -/
def zGo (n0 : Nat) (ext : Nat → Nat) (D : va_G) (aC : Nat → ClassId) (p : Program) (l : Launch) (e : Env) (R : Room) (s : State) (m : MethodId) (args : Array Value) (below : List Frame) (meth : Method) (c : Code) (mx F1 F2 M1 M2 : Nat) (Q : State → Prop) (pc : Nat) (L S : List Value) (h : zH) : Prop :=
  ∀ (H : Heap) (locs : List Loc) (cells slots : Nat) (ls : Array Slot), zRep D aC n0 h H → va_S (fun q => n0 ≤ q) s.heap H locs → zLs n0 ext mx L ls → cells + F1 = M1 + h.length → slots + F2 = M2 + zsl h →
    W p l e R s m args below meth c H locs cells slots Q (F0 m pc ls (S.map (zv n0 ext)))
section ZI
variable {sL : Nat} {sx : Nat → Int32} {b n0 : Nat} {ext : Nat → Nat} {D : va_G} {aC : Nat → ClassId} {p : Program} {l : Launch} {e : Env} {R : Room} {s : State} {m : MethodId} {args : Array Value} {below : List Frame} {meth : Method} {c : Code} {y d F1 F2 M1 M2 : Nat} {Q : State → Prop}
theorem zlay_ok : ∀ ci, ci < 4 → ∀ w ∈ u_ws (zcn ci) (zfd ci) (znf ci), w ∈ lw_tbl.filter goodWord := by
  have h0 : ∀ w ∈ u_ws (zcn 0) (zfd 0) (znf 0), w ∈ lw_tbl.filter goodWord := by decide +kernel
  have h1 : ∀ w ∈ u_ws (zcn 1) (zfd 1) (znf 1), w ∈ lw_tbl.filter goodWord := by decide +kernel
  have h2 : ∀ w ∈ u_ws (zcn 2) (zfd 2) (znf 2), w ∈ lw_tbl.filter goodWord := by decide +kernel
  have h3 : ∀ w ∈ u_ws (zcn 3) (zfd 3) (znf 3), w ∈ lw_tbl.filter goodWord := by decide +kernel
  intro ci hci
  rcases (show ci = 0 ∨ ci = 1 ∨ ci = 2 ∨ ci = 3 by omega) with rfl | rfl | rfl | rfl
  · exact h0
  · exact h1
  · exact h2
  · exact h3
theorem zty_ok : ∀ ci, ci < 4 → ∀ k, k < znf ci → parseFieldDescriptor (zfd ci k).2.2.1 = some (zty ci k) := by
  intro ci hci
  rcases (show ci = 0 ∨ ci = 1 ∨ ci = 2 ∨ ci = 3 by omega) with rfl | rfl | rfl | rfl
  · exact tyX0_ok
  · exact tyX1_ok
  · exact tyX2_ok
  · exact tyX3_ok
theorem znm_ok : ∀ ci, ci < 4 → ∀ a, a < znf ci → ∀ b, b < znf ci → a ≠ b → (zfd ci a).2.1 ≠ (zfd ci b).2.1 := by
  intro ci hci
  rcases (show ci = 0 ∨ ci = 1 ∨ ci = 2 ∨ ci = 3 by omega) with rfl | rfl | rfl | rfl
  · exact nmX0
  · exact nmX1
  · exact nmX2
  · exact nmX3
theorem zgood (hw : ∀ w ∈ lw_tbl, goodWord w = true → w.before args s = true) : ∀ w ∈ lw_tbl.filter goodWord, w.before args s = true := fun w h => hw w (List.mem_filter.mp h).1 (List.mem_filter.mp h).2
theorem zdiff (hw : ∀ w ∈ lw_tbl, goodWord w = true → w.before args s = true) (hK : zK D aC s) {ci : Nat} (hci : ci < 4) : ∀ x y, x < znf ci → y < znf ci → x ≠ y → D.2 ci x ≠ D.2 ci y := by
  intro x y hx hy hne
  obtain ⟨hS, -⟩ := hK.1 ci hci
  obtain ⟨_, _, _, fa, hia, ea⟩ := hS x hx
  obtain ⟨_, _, _, fb, hib, eb⟩ := hS y hy
  rw [← ea, ← eb]
  refine u_apart (u_lays (zgood hw) (zlay_ok ci hci) hx) (u_lays (zgood hw) (zlay_ok ci hci) hy) hia hib ?_
  rw [(State.fieldFound?_type hia (zty_ok ci hci x hx)).1, (State.fieldFound?_type hib (zty_ok ci hci y hy)).1]
  exact znm_ok ci hci x hx y hy hne
variable {H : Heap} {locs : List Loc} {cells slots : Nat} {ls : Array Slot} {pc : Nat} {rest : List Value} {cc : ByteArray}
theorem zi_get (hx : p.tables.exec = Jvm.exec) (hb : c.code = cc) (hown : s.vm.findClass (zcn (zcls y)) = some m.cls) (hw : ∀ w ∈ lw_tbl, goodWord w = true → w.before args s = true) (hK : zK D aC s) {h : zH} (hR : zRep D aC n0 h H)
    {ci k i a : Nat} {q : Nat × List Value} {v : Value} (hci : ci < 4) (hk : k < znf ci) (hlink : (Cond.fieldLink (zcn (zcls y)) i (zfd ci k).1 (zfd ci k).2.1 (zfd ci k).2.2.1).before args s = true) (ha : h[a]? = some q) (ht : q.1 = 10 + ci) (hv : q.2[k]? = some v) (hdg : decode cc pc = .ok (.getfield i, 3))
    (kk : W p l e R s m args below meth c H locs cells slots Q (F0 m (pc + 3) ls (zw n0 v :: rest))) : W p l e R s m args below meth c H locs cells slots Q (F0 m pc ls (.ref (n0 + a) :: rest)) := by
  obtain ⟨cell, q1, q2, -, -, q4⟩ := hR.2 a q ha
  obtain ⟨q5, q6⟩ := q4 ci hci ht
  obtain ⟨hS, hfc, kC, hkC, hkind⟩ := hK.1 ci hci
  obtain ⟨cf, kf, fi, f, hi, hsl⟩ := hS k hk
  obtain ⟨v', e1, e2⟩ := q6 k hk
  cases hv.symm.trans e1
  exact W.getf hx hb hown hlink hi (u_facts hfc hkC (u_lays (zgood hw) (zlay_ok ci hci) hk) hi).1 q1 (by rw [q2]; exact fun h => by cases h) (v := zw n0 v) (by rw [hsl]; exact e2) rfl rfl hdg kk
theorem zcel_put (hw : ∀ w ∈ lw_tbl, goodWord w = true → w.before args s = true) (hK : zK D aC s) {ci k : Nat} {q : Nat × List Value} {v : Value} {cell : Cell} (hci : ci < 4) (hk : k < znf ci) (hc : zcel D aC n0 q cell) (ht : q.1 = 10 + ci) (hl : k < q.2.length) (hok : zok v = true) :
    zcel D aC n0 (q.1, q.2.set k v) (cell.setSlot (D.2 ci k) (zw n0 v)) := by
  obtain ⟨h1, h2, h3, h4⟩ := hc
  refine ⟨h1, fun w hw' => ?_, fun h => absurd h (by omega), fun cj hcj ht' => ?_⟩
  · rcases List.mem_or_eq_of_mem_set hw' with h | h
    · exact h2 w h
    · rw [h]; exact hok
  · have hcc : cj = ci := by simp only at ht'; omega
    subst hcc
    obtain ⟨h5, h6⟩ := h4 cj hcj ht
    refine ⟨h5, fun j hj => ?_⟩
    obtain ⟨vk, e1, e2⟩ := h6 k hk
    have hsz : D.2 cj k < cell.slots.size := (Array.getElem?_eq_some_iff.mp e2).1
    by_cases hjk : j = k
    · subst hjk
      exact ⟨v, by simp [hl], by simp [Cell.setSlot, hsz]⟩
    · obtain ⟨vj, f1, f2⟩ := h6 j hj
      refine ⟨vj, by rw [List.getElem?_set_ne (Ne.symm hjk)]; exact f1, ?_⟩
      have hd := zdiff hw hK hcj k j hk hj (Ne.symm hjk)
      simp only [Cell.setSlot]
      rw [Array.getElem?_setIfInBounds_ne hd]
      exact f2
theorem zi_put (hx : p.tables.exec = Jvm.exec) (hb : c.code = cc) (hown : s.vm.findClass (zcn (zcls y)) = some m.cls) (hw : ∀ w ∈ lw_tbl, goodWord w = true → w.before args s = true) (hK : zK D aC s) {h : zH} (hR : zRep D aC n0 h H) (hS0 : va_S (fun q => n0 ≤ q) s.heap H locs) (hname : meth.name = (zname y).name)
    {ci k i a : Nat} {q : Nat × List Value} {v : Value} (hci : ci < 4) (hk : k < znf ci) (hlink : (Cond.fieldLink (zcn (zcls y)) i (zfd ci k).1 (zfd ci k).2.1 (zfd ci k).2.2.1).before args s = true) (ha : h[a]? = some q) (ht : q.1 = 10 + ci) (hl : k < q.2.length) (hf : zfits (zty ci k) v = true)
    (hfin : (zfd ci k).2.2.2 = true → zcls y = ci ∧ (zname y).name = "<init>" ∧ (zfd ci k).1 = zcn ci) (hdg : decode cc pc = .ok (.putfield i, 3))
    (kk : ∀ (H1 : Heap) (locs1 : List Loc), zRep D aC n0 (h.set a (q.1, q.2.set k v)) H1 → va_S (fun q => n0 ≤ q) s.heap H1 locs1 → W p l e R s m args below meth c H1 locs1 cells slots Q (F0 m (pc + 3) ls rest)) : W p l e R s m args below meth c H locs cells slots Q (F0 m pc ls (zw n0 v :: .ref (n0 + a) :: rest)) := by
  obtain ⟨cell, q1, qc⟩ := hR.2 a q ha
  obtain ⟨q2, -, -, q4⟩ := id qc
  obtain ⟨q5, q6⟩ := q4 ci hci ht
  obtain ⟨hS, hfc, kC, hkC, hkind⟩ := hK.1 ci hci
  obtain ⟨cf, kf, fi, f, hi, hsl⟩ := hS k hk
  obtain ⟨v', e1, e2⟩ := q6 k hk
  obtain ⟨hok, hn, hft⟩ := zv_fits (n0 := n0) hf
  have hlay := zgood hw _ (zlay_ok ci hci _ (u_in_lay hk))
  have hst := (u_facts hfc hkC (u_lays (zgood hw) (zlay_ok ci hci) hk) hi).1
  have hd := zty_ok ci hci k hk
  have hlt : f.slot < cell.slots.size := by rw [hsl]; exact (Array.getElem?_eq_some_iff.mp e2).1
  have fin : ∀ (H' : Heap), H'[n0 + a]? = some (cell.setSlot f.slot (zw n0 v)) → H'.size = H.size → (∀ x, x ≠ n0 + a → H'[x]? = H[x]?) → W p l e R s m args below meth c H' (locs ++ [⟨n0 + a, f.slot⟩]) cells slots Q (F0 m (pc + 3) ls rest) := by
    intro H' e3 e4 e5
    refine kk H' _ (zRep_set hR ha e4 e5 e3 ?_) (hS0.put e4 e5 (Nat.le_add_right _ _))
    rw [hsl]
    exact zcel_put hw hK hci hk qc ht hl hok
  by_cases hF : (zfd ci k).2.2.2 = true
  · obtain ⟨g1, g2, g3⟩ := hfin hF
    unfold u_lay at hlay
    rw [if_pos hF] at hlay
    have hcf : m.cls = cf := by
      obtain ⟨_, _, c', _, _, _, -, -, hf', -, -, -, hown2, -⟩ := Cond.laysFinal_spec hlay
      have e1 : c' = cf := by have := hi.symm.trans hf'; simp at this; exact this.1.symm
      rw [g3, ← g1] at hown2
      rw [← e1]; exact Option.some.inj (hown.symm.trans hown2)
    have h6 := u_fits hfc hkC hkind (Or.inr hlay) hi hd hn hft
    exact W.putFinK hx hb hown hlink hi hst hcf (hname.trans g2) (by rw [q5]; exact h6) q1 q2 hlt rfl rfl hdg fin
  · unfold u_lay at hlay
    rw [if_neg hF] at hlay
    have h6 := u_store hfc hkC hkind hlay hi hd hn hft
    exact W.putK hx hb (f := f) ⟨hown, hlink, ⟨_, _, _, hi⟩, hst⟩ (by rw [q5]; exact h6) q1 q2 hlt rfl rfl hdg fin
end ZI
end
section
/-! more of the tables, decided; and how they are read -/
def zmk (z : Nat) (stat : Bool) : Bool := plainName (zname z).cls && decide ((zname z).cls ≠ "java/lang/invoke/MethodHandle") && decide ((zname z).cls ≠ "java/lang/invoke/VarHandle") && decide ((parseMethodDescriptor (zname z).desc).map (fun d => d.parameters.length) = some (bif stat then znar z else znar z - 1)) && Nat.ble (zmax z) 10 && (stat || Nat.ble 1 (znar z)) && decide ((zname z).cls = zcn (zcls z)) && Nat.blt z 123
def zpk (c : Nat) (q : Nat × Nat × Nat × Nat) : Bool := match q.2.1 with
  | 0 => Nat.blt q.2.2.1 4 && Nat.blt q.2.2.2 (znf q.2.2.1) && decide ((zfd q.2.2.1 q.2.2.2).1 = zcn q.2.2.1)
  | 1 => zmk q.2.2.1 false && (zhan q.2.2.1).isEmpty && Nat.blt (zcls q.2.2.1) 4
  | 2 => zmk q.2.2.1 true && Nat.beq (zcls q.2.2.1) c
  | 3 => zmk q.2.2.1 true && (zhan q.2.2.1).isEmpty
  | 4 => zmk q.2.2.1 false && (zhan q.2.2.1).isEmpty && decide ((zname q.2.2.1).name = "<init>") && decide (zret q.2.2.1 = none)
  | 5 => zmk q.2.2.1 false && (zhan q.2.2.1).isEmpty && decide ((zname q.2.2.1).name = "<init>") && decide (zret q.2.2.1 = none)
  | 7 => Nat.blt q.2.2.1 6
  | 8 => Nat.blt q.2.2.1 6 && (zt_at (zcn c) q.1 (zen q.2.2.1) (zes q.2.2.1) (zej q.2.2.1) (zeb q.2.2.1)).all vx_ot
  | _ => true
theorem zpk_0 : ∀ q ∈ zP_0, zpk 0 q = true := by decide +kernel
theorem zpk_1 : ∀ q ∈ zP_1, zpk 1 q = true := by decide +kernel
theorem zpk_2 : ∀ q ∈ zP_2, zpk 2 q = true := by decide +kernel
theorem zpk_3 : ∀ q ∈ zP_3, zpk 3 q = true := by decide +kernel
theorem zpk_4 : ∀ q ∈ zP_4, zpk 4 q = true := by decide +kernel
theorem zex_ok : ∀ e, e < 6 → Bundle.fit (zen e) = true ∧ (∀ n ∈ zes e, Bundle.fit n = true) ∧ (zes e).length ≤ 3 ∧ zt_by (zeb e) (zej e) := by
  have h : ∀ e, e < 6 → Bundle.fit (zen e) = true ∧ (∀ n ∈ zes e, Bundle.fit n = true) ∧ (zes e).length ≤ 3 ∧ (decode (zeb e) 0 = .ok (.aload_n 0, 1) ∧ decode (zeb e) 1 = .ok (.aload_n 1, 1) ∧ decode (zeb e) 2 = .ok (.invokespecial (zej e), 3) ∧ decode (zeb e) 5 = .ok (.return_, 1)) := by decide +kernel
  exact h
theorem zki_in {l : List (Nat × Nat × Int32)} {c i : Nat} {v : Int32} (h : zki l c i = some v) : (c, i, v) ∈ l := by
  induction l with
  | nil => simp [zki] at h
  | cons q r ih =>
    simp only [zki] at h
    cases hb : (Nat.beq q.1 c && Nat.beq q.2.1 i) with
    | true =>
      rw [hb] at h
      simp only [cond_true, Option.some.injEq] at h
      simp only [Bool.and_eq_true] at hb
      obtain ⟨a, b, w⟩ := q
      have h1 := Nat.eq_of_beq_eq_true hb.1
      have h2 := Nat.eq_of_beq_eq_true hb.2
      simp only at h1 h2 h
      subst h1; subst h2; subst h
      exact List.mem_cons_self
    | false =>
      rw [hb] at h
      exact List.mem_cons_of_mem _ (ih h)
theorem zkl_in {l : List (Nat × Nat × Int64)} {c i : Nat} {v : Int64} (h : zkl l c i = some v) : (c, i, v) ∈ l := by
  induction l with
  | nil => simp [zkl] at h
  | cons q r ih =>
    simp only [zkl] at h
    cases hb : (Nat.beq q.1 c && Nat.beq q.2.1 i) with
    | true =>
      rw [hb] at h
      simp only [cond_true, Option.some.injEq] at h
      simp only [Bool.and_eq_true] at hb
      obtain ⟨a, b, w⟩ := q
      have h1 := Nat.eq_of_beq_eq_true hb.1
      have h2 := Nat.eq_of_beq_eq_true hb.2
      simp only at h1 h2 h
      subst h1; subst h2; subst h
      exact List.mem_cons_self
    | false =>
      rw [hb] at h
      exact List.mem_cons_of_mem _ (ih h)
theorem zki_ok : ∀ q ∈ zKI, Cond.constant (zcn q.1) q.2.1 q.2.2 ∈ lw_tbl ∧ goodWord (Cond.constant (zcn q.1) q.2.1 q.2.2) = true := by decide +kernel
theorem zkl_ok : ∀ q ∈ zKL, Cond.constantLong (zcn q.1) q.2.1 q.2.2 ∈ lw_tbl ∧ goodWord (Cond.constantLong (zcn q.1) q.2.1 q.2.2) = true := by decide +kernel
theorem zar_ok : (Cond.arrayClass .int ∈ lw_tbl ∧ Cond.arrayClass .long ∈ lw_tbl) ∧ Cond.arrayClass .boolean ∈ lw_tbl := by decide +kernel
theorem zlook_in {l : List (Nat × Nat × Nat × Nat)} {i : Nat} {r : Nat × Nat × Nat} (h : zlook l i = some r) : (i, r) ∈ l := by
  induction l with
  | nil => simp [zlook] at h
  | cons q t ih =>
    simp only [zlook] at h
    cases hb : Nat.beq q.1 i with
    | true =>
      rw [hb] at h
      simp only [cond_true, Option.some.injEq] at h
      have h1 := Nat.eq_of_beq_eq_true hb
      obtain ⟨a, w⟩ := q
      simp only at h1 h
      subst h1; subst h
      exact List.mem_cons_self
    | false =>
      rw [hb] at h
      exact List.mem_cons_of_mem _ (ih h)
theorem zpool_ok {y i : Nat} {r : Nat × Nat × Nat} (h : zpool y i = some r) : zpk (zcls y) (i, r) = true ∧ ∀ w ∈ zws (zcls y) (i, r), w ∈ lw_tbl ∧ (goodWord w || zisX w) = true := by
  have hin := zlook_in h
  rcases (show zcls y = 0 ∨ zcls y = 1 ∨ zcls y = 2 ∨ zcls y = 3 ∨ zcls y = 4 ∨ 5 ≤ zcls y by omega) with h0 | h0 | h0 | h0 | h0 | h0
  · rw [h0] at hin ⊢; exact ⟨zpk_0 _ hin, zwok_0 _ hin⟩
  · rw [h0] at hin ⊢; exact ⟨zpk_1 _ hin, zwok_1 _ hin⟩
  · rw [h0] at hin ⊢; exact ⟨zpk_2 _ hin, zwok_2 _ hin⟩
  · rw [h0] at hin ⊢; exact ⟨zpk_3 _ hin, zwok_3 _ hin⟩
  · rw [h0] at hin ⊢; exact ⟨zpk_4 _ hin, zwok_4 _ hin⟩
  · have : zPs.getD (zcls y) [] = [] := by
      rw [List.getD_eq_getElem?_getD, List.getElem?_eq_none (by show 5 ≤ _; exact h0)]; rfl
    rw [this] at hin
    cases hin
theorem zfind_in {l : List (Nat × Instr × Nat)} {pc : Nat} {r : Instr × Nat} (h : zfind l pc = some r) : (pc, r) ∈ l := by
  induction l with
  | nil => simp [zfind] at h
  | cons q t ih =>
    simp only [zfind] at h
    cases hb : Nat.beq q.1 pc with
    | true =>
      rw [hb] at h
      simp only [cond_true, Option.some.injEq] at h
      have h1 := Nat.eq_of_beq_eq_true hb
      obtain ⟨a, w⟩ := q
      simp only at h1 h
      subst h1; subst h
      exact List.mem_cons_self
    | false =>
      rw [hb] at h
      exact List.mem_cons_of_mem _ (ih h)
theorem zat_ok {y pc : Nat} {r : Instr × Nat} (h : zat y pc = some r) : decode (zbyt y) pc = .ok r ∧ zaim pc r.1 = true ∧ (match zlen r.1 with | some k => Nat.beq k r.2 | none => true) = true ∧ y < 124 := by
  have hin := zfind_in h
  have hy : y < 124 := by
    rcases Nat.lt_or_ge y 124 with q | q
    · exact q
    · have : zTs.getD y [] = [] := by
        rw [List.getD_eq_getElem?_getD, List.getElem?_eq_none (by rw [zlens.2]; exact q)]; rfl
      rw [this] at hin
      cases hin
  have h1 : zMs[y]? = some (zm y) := by
    rw [zm, List.getD_eq_getElem?_getD, List.getElem?_eq_getElem (by rw [zlens.1]; exact hy)]; rfl
  have h2 : zTs[y]? = some (zTs.getD y []) := by
    rw [List.getD_eq_getElem?_getD, List.getElem?_eq_getElem (by rw [zlens.2]; exact hy)]; rfl
  have h3 : (zm y, zTs.getD y []) ∈ zMs.zip zTs := by
    refine List.mem_of_getElem? (i := y) ?_
    exact List.getElem?_zip_eq_some.mpr ⟨h1, h2⟩
  have h4 := List.all_eq_true.mp (zr_all _ h3) _ hin
  simp only [zrow, Bool.and_eq_true, decide_eq_true_eq] at h4
  exact ⟨h4.1.1, h4.1.2, h4.2, hy⟩
end
section
section ZS
variable {sL : Nat} {sx : Nat → Int32} {b n0 : Nat} {ext : Nat → Nat} {D : va_G} {aC : Nat → ClassId} {p : Program} {l : Launch} {e : Env} {R : Room} {s : State} {m : MethodId} {args : Array Value} {below : List Frame} {meth : Method} {c : Code} {y d F1 F2 M1 M2 : Nat} {Q : State → Prop}
variable {len pc pc' : Nat} {L L' S S' : List Value} {h h' : zH}
theorem zlen_of {len k : Nat} (h : (match (some k : Option Nat) with | some k => Nat.beq k len | none => true) = true) : len = k := (Nat.eq_of_beq_eq_true h).symm
/-- what a step asks of its place in the code -/
def zHere (y pc len : Nat) (ins : Instr) : Prop := decode (zbyt y) pc = .ok (ins, len) ∧ zaim pc ins = true ∧ (match zlen ins with | some k => Nat.beq k len | none => true) = true
theorem ztop {pc : Nat} {off : Int} (h0 : decide (0 ≤ (pc : Int) + off) = true) : (pc : Int) + off = ((zto pc off : Nat) : Int) := by
  rw [zto, Int.toNat_of_nonneg (of_decide_eq_true h0)]
theorem zsome {a a' : Nat} {x x' z z' : List Value} {g g' : zH} (h : (some ((a, x, z), g) : Option (zC × zH)) = some ((a', x', z'), g')) : a = a' ∧ x = x' ∧ z = z' ∧ g = g' := by
  simp only [Option.some.injEq, Prod.mk.injEq] at h
  exact ⟨h.1.1, h.1.2.1, h.1.2.2, h.2⟩
abbrev zG (n0 : Nat) (ext : Nat → Nat) (D : va_G) (aC : Nat → ClassId) (p : Program) (l : Launch) (e : Env) (R : Room) (s : State) (m : MethodId) (args : Array Value) (below : List Frame) (meth : Method) (c : Code) (y F1 F2 M1 M2 : Nat) (Q : State → Prop) (pc : Nat) (L S : List Value) (h : zH) : Prop := zGo n0 ext D aC p l e R s m args below meth c (zmax y) F1 F2 M1 M2 Q pc L S h
theorem zs_iconst (hCx : zCx sL sx b n0 D aC p R s m args meth c y d) {n : Int} (hh : zHere y pc len (.iconst n)) (hs : zsim sL sx y (.iconst n) len pc L S h = some ((pc', L', S'), h'))
    (k : zG n0 ext D aC p l e R s m args below meth c y F1 F2 M1 M2 Q pc' L' S' h') : zG n0 ext D aC p l e R s m args below meth c y F1 F2 M1 M2 Q pc L S h := by
  obtain ⟨⟨hx, hb, hr, hml, hown⟩, hw, -⟩ := id hCx
  obtain ⟨hdg, haim, hlen⟩ := hh
  obtain rfl : len = 1 := zlen_of hlen
  intro H locs cells slots ls hR hS hL hc hz
  simp only [zsim, zpush] at hs
  obtain ⟨rfl, rfl, rfl, rfl⟩ := zsome hs
  exact lv_iconst hx hb hdg rfl (k H locs cells slots ls hR hS hL hc hz)
theorem zs_bipush (hCx : zCx sL sx b n0 D aC p R s m args meth c y d) {n : Int} (hh : zHere y pc len (.bipush n)) (hs : zsim sL sx y (.bipush n) len pc L S h = some ((pc', L', S'), h'))
    (k : zG n0 ext D aC p l e R s m args below meth c y F1 F2 M1 M2 Q pc' L' S' h') : zG n0 ext D aC p l e R s m args below meth c y F1 F2 M1 M2 Q pc L S h := by
  obtain ⟨⟨hx, hb, hr, hml, hown⟩, hw, -⟩ := id hCx
  obtain ⟨hdg, haim, hlen⟩ := hh
  obtain rfl : len = 2 := zlen_of hlen
  intro H locs cells slots ls hR hS hL hc hz
  simp only [zsim, zpush] at hs
  obtain ⟨rfl, rfl, rfl, rfl⟩ := zsome hs
  exact lv_bipush hx hb hdg rfl (k H locs cells slots ls hR hS hL hc hz)
theorem zs_sipush (hCx : zCx sL sx b n0 D aC p R s m args meth c y d) {n : Int} (hh : zHere y pc len (.sipush n)) (hs : zsim sL sx y (.sipush n) len pc L S h = some ((pc', L', S'), h'))
    (k : zG n0 ext D aC p l e R s m args below meth c y F1 F2 M1 M2 Q pc' L' S' h') : zG n0 ext D aC p l e R s m args below meth c y F1 F2 M1 M2 Q pc L S h := by
  obtain ⟨⟨hx, hb, hr, hml, hown⟩, hw, -⟩ := id hCx
  obtain ⟨hdg, haim, hlen⟩ := hh
  obtain rfl : len = 3 := zlen_of hlen
  intro H locs cells slots ls hR hS hL hc hz
  simp only [zsim, zpush] at hs
  obtain ⟨rfl, rfl, rfl, rfl⟩ := zsome hs
  exact lv_sipush hx hb hdg rfl (k H locs cells slots ls hR hS hL hc hz)
theorem zs_lconst (hCx : zCx sL sx b n0 D aC p R s m args meth c y d) {n : Fin 2} (hh : zHere y pc len (.lconst n)) (hs : zsim sL sx y (.lconst n) len pc L S h = some ((pc', L', S'), h'))
    (k : zG n0 ext D aC p l e R s m args below meth c y F1 F2 M1 M2 Q pc' L' S' h') : zG n0 ext D aC p l e R s m args below meth c y F1 F2 M1 M2 Q pc L S h := by
  obtain ⟨⟨hx, hb, hr, hml, hown⟩, hw, -⟩ := id hCx
  obtain ⟨hdg, haim, hlen⟩ := hh
  obtain rfl : len = 1 := zlen_of hlen
  intro H locs cells slots ls hR hS hL hc hz
  simp only [zsim, zpush] at hs
  obtain ⟨rfl, rfl, rfl, rfl⟩ := zsome hs
  exact lv_lconst hx hb hdg rfl (k H locs cells slots ls hR hS hL hc hz)
theorem zs_null (hCx : zCx sL sx b n0 D aC p R s m args meth c y d)  (hh : zHere y pc len (.aconst_null)) (hs : zsim sL sx y (.aconst_null) len pc L S h = some ((pc', L', S'), h'))
    (k : zG n0 ext D aC p l e R s m args below meth c y F1 F2 M1 M2 Q pc' L' S' h') : zG n0 ext D aC p l e R s m args below meth c y F1 F2 M1 M2 Q pc L S h := by
  obtain ⟨⟨hx, hb, hr, hml, hown⟩, hw, -⟩ := id hCx
  obtain ⟨hdg, haim, hlen⟩ := hh
  obtain rfl : len = 1 := zlen_of hlen
  intro H locs cells slots ls hR hS hL hc hz
  simp only [zsim, zpush] at hs
  obtain ⟨rfl, rfl, rfl, rfl⟩ := zsome hs
  exact lv_null hx hb hdg (k H locs cells slots ls hR hS hL hc hz)
theorem zs_ldc (hCx : zCx sL sx b n0 D aC p R s m args meth c y d) {i : Nat} (hh : zHere y pc len (.ldc i)) (hs : zsim sL sx y (.ldc i) len pc L S h = some ((pc', L', S'), h'))
    (k : zG n0 ext D aC p l e R s m args below meth c y F1 F2 M1 M2 Q pc' L' S' h') : zG n0 ext D aC p l e R s m args below meth c y F1 F2 M1 M2 Q pc L S h := by
  obtain ⟨⟨hx, hb, hr, hml, hown⟩, hw, -⟩ := id hCx
  obtain ⟨hdg, haim, hlen⟩ := hh
  obtain rfl : len = 2 := zlen_of hlen
  intro H locs cells slots ls hR hS hL hc hz
  simp only [zsim] at hs
  cases hk : zki zKI (zcls y) i with
  | none => simp [hk] at hs
  | some v =>
    simp only [hk, zpush] at hs
    obtain ⟨rfl, rfl, rfl, rfl⟩ := zsome hs
    obtain ⟨w1, w2⟩ := zki_ok _ (zki_in hk)
    exact lv_ldc hx hb hown (hw _ w1 w2) hdg (k H locs cells slots ls hR hS hL hc hz)
theorem zs_ldc2 (hCx : zCx sL sx b n0 D aC p R s m args meth c y d) {i : Nat} (hh : zHere y pc len (.ldc2_w i)) (hs : zsim sL sx y (.ldc2_w i) len pc L S h = some ((pc', L', S'), h'))
    (k : zG n0 ext D aC p l e R s m args below meth c y F1 F2 M1 M2 Q pc' L' S' h') : zG n0 ext D aC p l e R s m args below meth c y F1 F2 M1 M2 Q pc L S h := by
  obtain ⟨⟨hx, hb, hr, hml, hown⟩, hw, -⟩ := id hCx
  obtain ⟨hdg, haim, hlen⟩ := hh
  obtain rfl : len = 3 := zlen_of hlen
  intro H locs cells slots ls hR hS hL hc hz
  simp only [zsim] at hs
  cases hk : zkl zKL (zcls y) i with
  | none => simp [hk] at hs
  | some v =>
    simp only [hk, zpush] at hs
    obtain ⟨rfl, rfl, rfl, rfl⟩ := zsome hs
    obtain ⟨w1, w2⟩ := zkl_ok _ (zkl_in hk)
    exact lv_ldc2 hx hb hown (hw _ w1 w2) hdg (k H locs cells slots ls hR hS hL hc hz)
theorem zs_iload (hCx : zCx sL sx b n0 D aC p R s m args meth c y d) {i : Nat} (hh : zHere y pc len (.iload i)) (hs : zsim sL sx y (.iload i) len pc L S h = some ((pc', L', S'), h'))
    (k : zG n0 ext D aC p l e R s m args below meth c y F1 F2 M1 M2 Q pc' L' S' h') : zG n0 ext D aC p l e R s m args below meth c y F1 F2 M1 M2 Q pc L S h := by
  obtain ⟨⟨hx, hb, hr, hml, hown⟩, hw, -⟩ := id hCx
  obtain ⟨hdg, haim, hlen⟩ := hh
  obtain rfl : len = 2 := zlen_of hlen
  intro H locs cells slots ls hR hS hL hc hz
  simp only [zsim, zldi] at hs
  cases hg : zg L i with
  | int v =>
    simp only [hg, zpush] at hs
    obtain ⟨rfl, rfl, rfl, rfl⟩ := zsome hs
    exact lv_iload hx hb hdg (zLs_at hL hg (by simp)) (k H locs cells slots ls hR hS hL hc hz)
  | _ => simp [hg] at hs
theorem zs_iload_n (hCx : zCx sL sx b n0 D aC p R s m args meth c y d) {i : Fin 4} (hh : zHere y pc len (.iload_n i)) (hs : zsim sL sx y (.iload_n i) len pc L S h = some ((pc', L', S'), h'))
    (k : zG n0 ext D aC p l e R s m args below meth c y F1 F2 M1 M2 Q pc' L' S' h') : zG n0 ext D aC p l e R s m args below meth c y F1 F2 M1 M2 Q pc L S h := by
  obtain ⟨⟨hx, hb, hr, hml, hown⟩, hw, -⟩ := id hCx
  obtain ⟨hdg, haim, hlen⟩ := hh
  obtain rfl : len = 1 := zlen_of hlen
  intro H locs cells slots ls hR hS hL hc hz
  simp only [zsim, zldi] at hs
  cases hg : zg L i with
  | int v =>
    simp only [hg, zpush] at hs
    obtain ⟨rfl, rfl, rfl, rfl⟩ := zsome hs
    exact lv_iload_n hx hb hdg rfl (zLs_at hL hg (by simp)) (k H locs cells slots ls hR hS hL hc hz)
  | _ => simp [hg] at hs
theorem zs_lload (hCx : zCx sL sx b n0 D aC p R s m args meth c y d) {i : Nat} (hh : zHere y pc len (.lload i)) (hs : zsim sL sx y (.lload i) len pc L S h = some ((pc', L', S'), h'))
    (k : zG n0 ext D aC p l e R s m args below meth c y F1 F2 M1 M2 Q pc' L' S' h') : zG n0 ext D aC p l e R s m args below meth c y F1 F2 M1 M2 Q pc L S h := by
  obtain ⟨⟨hx, hb, hr, hml, hown⟩, hw, -⟩ := id hCx
  obtain ⟨hdg, haim, hlen⟩ := hh
  obtain rfl : len = 2 := zlen_of hlen
  intro H locs cells slots ls hR hS hL hc hz
  simp only [zsim, zldl] at hs
  cases hg : zg L i with
  | long v =>
    simp only [hg, zpush] at hs
    obtain ⟨rfl, rfl, rfl, rfl⟩ := zsome hs
    exact lv_lload hx hb hdg (zLs_at hL hg (by simp)) (k H locs cells slots ls hR hS hL hc hz)
  | _ => simp [hg] at hs
theorem zs_lload_n (hCx : zCx sL sx b n0 D aC p R s m args meth c y d) {i : Fin 4} (hh : zHere y pc len (.lload_n i)) (hs : zsim sL sx y (.lload_n i) len pc L S h = some ((pc', L', S'), h'))
    (k : zG n0 ext D aC p l e R s m args below meth c y F1 F2 M1 M2 Q pc' L' S' h') : zG n0 ext D aC p l e R s m args below meth c y F1 F2 M1 M2 Q pc L S h := by
  obtain ⟨⟨hx, hb, hr, hml, hown⟩, hw, -⟩ := id hCx
  obtain ⟨hdg, haim, hlen⟩ := hh
  obtain rfl : len = 1 := zlen_of hlen
  intro H locs cells slots ls hR hS hL hc hz
  simp only [zsim, zldl] at hs
  cases hg : zg L i with
  | long v =>
    simp only [hg, zpush] at hs
    obtain ⟨rfl, rfl, rfl, rfl⟩ := zsome hs
    exact lv_lload_n hx hb hdg rfl (zLs_at hL hg (by simp)) (k H locs cells slots ls hR hS hL hc hz)
  | _ => simp [hg] at hs
theorem zs_aload (hCx : zCx sL sx b n0 D aC p R s m args meth c y d) {i : Nat} (hh : zHere y pc len (.aload i)) (hs : zsim sL sx y (.aload i) len pc L S h = some ((pc', L', S'), h'))
    (k : zG n0 ext D aC p l e R s m args below meth c y F1 F2 M1 M2 Q pc' L' S' h') : zG n0 ext D aC p l e R s m args below meth c y F1 F2 M1 M2 Q pc L S h := by
  obtain ⟨⟨hx, hb, hr, hml, hown⟩, hw, -⟩ := id hCx
  obtain ⟨hdg, haim, hlen⟩ := hh
  obtain rfl : len = 2 := zlen_of hlen
  intro H locs cells slots ls hR hS hL hc hz
  simp only [zsim, zlda] at hs
  cases hg : zg L i with
  | ref v =>
    simp only [hg, zpush] at hs
    obtain ⟨rfl, rfl, rfl, rfl⟩ := zsome hs
    exact lv_aload hx hb hdg (zLs_at hL hg (by simp)) (k H locs cells slots ls hR hS hL hc hz)
  | null =>
    simp only [hg, zpush] at hs
    obtain ⟨rfl, rfl, rfl, rfl⟩ := zsome hs
    exact lv_aloadN hx hb hdg (zLs_at hL hg (by simp)) (k H locs cells slots ls hR hS hL hc hz)
  | retAddr j =>
    cases j with
    | zero => simp [hg] at hs
    | succ j =>
      simp only [hg, zpush] at hs
      obtain ⟨rfl, rfl, rfl, rfl⟩ := zsome hs
      exact lv_aload hx hb hdg (zLs_at hL hg (by simp)) (k H locs cells slots ls hR hS hL hc hz)
  | _ => simp [hg] at hs
theorem zs_aload_n (hCx : zCx sL sx b n0 D aC p R s m args meth c y d) {i : Fin 4} (hh : zHere y pc len (.aload_n i)) (hs : zsim sL sx y (.aload_n i) len pc L S h = some ((pc', L', S'), h'))
    (k : zG n0 ext D aC p l e R s m args below meth c y F1 F2 M1 M2 Q pc' L' S' h') : zG n0 ext D aC p l e R s m args below meth c y F1 F2 M1 M2 Q pc L S h := by
  obtain ⟨⟨hx, hb, hr, hml, hown⟩, hw, -⟩ := id hCx
  obtain ⟨hdg, haim, hlen⟩ := hh
  obtain rfl : len = 1 := zlen_of hlen
  intro H locs cells slots ls hR hS hL hc hz
  simp only [zsim, zlda] at hs
  cases hg : zg L i with
  | ref v =>
    simp only [hg, zpush] at hs
    obtain ⟨rfl, rfl, rfl, rfl⟩ := zsome hs
    exact lv_aload_n hx hb hdg rfl (zLs_at hL hg (by simp)) (k H locs cells slots ls hR hS hL hc hz)
  | null =>
    simp only [hg, zpush] at hs
    obtain ⟨rfl, rfl, rfl, rfl⟩ := zsome hs
    exact lv_aload_nN hx hb hdg rfl (zLs_at hL hg (by simp)) (k H locs cells slots ls hR hS hL hc hz)
  | retAddr j =>
    cases j with
    | zero => simp [hg] at hs
    | succ j =>
      simp only [hg, zpush] at hs
      obtain ⟨rfl, rfl, rfl, rfl⟩ := zsome hs
      exact lv_aload_n hx hb hdg rfl (zLs_at hL hg (by simp)) (k H locs cells slots ls hR hS hL hc hz)
  | _ => simp [hg] at hs
theorem zs_istore (hCx : zCx sL sx b n0 D aC p R s m args meth c y d) {i : Nat} (hh : zHere y pc len (.istore i)) (hs : zsim sL sx y (.istore i) len pc L S h = some ((pc', L', S'), h'))
    (k : zG n0 ext D aC p l e R s m args below meth c y F1 F2 M1 M2 Q pc' L' S' h') : zG n0 ext D aC p l e R s m args below meth c y F1 F2 M1 M2 Q pc L S h := by
  obtain ⟨⟨hx, hb, hr, hml, hown⟩, hw, -⟩ := id hCx
  obtain ⟨hdg, haim, hlen⟩ := hh
  obtain rfl : len = 2 := zlen_of hlen
  intro H locs cells slots ls hR hS hL hc hz
  simp only [zsim, zsti] at hs
  cases S with
  | nil => simp at hs
  | cons v0 r =>
    cases v0 with
    | int v =>
      simp only [] at hs
      cases hn0 : Nat.blt i L.length with
      | false => simp [hn0] at hs
      | true =>
        simp only [hn0, cond_true] at hs
        obtain ⟨rfl, rfl, rfl, rfl⟩ := zsome hs
        have hn : i < zmax y := by rw [← hL.2.1]; exact Nat.le_of_ble_eq_true hn0
        exact lv_istore hx hb hdg (zLs_has hL) hn rfl (fun ls' h' => k H locs cells slots ls' hR hS (zLs_set1 hL hn h') hc hz)
    | _ => simp at hs
theorem zs_istore_n (hCx : zCx sL sx b n0 D aC p R s m args meth c y d) {i : Fin 4} (hh : zHere y pc len (.istore_n i)) (hs : zsim sL sx y (.istore_n i) len pc L S h = some ((pc', L', S'), h'))
    (k : zG n0 ext D aC p l e R s m args below meth c y F1 F2 M1 M2 Q pc' L' S' h') : zG n0 ext D aC p l e R s m args below meth c y F1 F2 M1 M2 Q pc L S h := by
  obtain ⟨⟨hx, hb, hr, hml, hown⟩, hw, -⟩ := id hCx
  obtain ⟨hdg, haim, hlen⟩ := hh
  obtain rfl : len = 1 := zlen_of hlen
  intro H locs cells slots ls hR hS hL hc hz
  simp only [zsim, zsti] at hs
  cases S with
  | nil => simp at hs
  | cons v0 r =>
    cases v0 with
    | int v =>
      simp only [] at hs
      cases hn0 : Nat.blt (i : Nat) L.length with
      | false => simp [hn0] at hs
      | true =>
        simp only [hn0, cond_true] at hs
        obtain ⟨rfl, rfl, rfl, rfl⟩ := zsome hs
        have hn : (i : Nat) < zmax y := by rw [← hL.2.1]; exact Nat.le_of_ble_eq_true hn0
        exact lv_istore_n hx hb hdg rfl (zLs_has hL) hn rfl (fun ls' h' => k H locs cells slots ls' hR hS (zLs_set1 hL hn h') hc hz)
    | _ => simp at hs
theorem zs_lstore (hCx : zCx sL sx b n0 D aC p R s m args meth c y d) {i : Nat} (hh : zHere y pc len (.lstore i)) (hs : zsim sL sx y (.lstore i) len pc L S h = some ((pc', L', S'), h'))
    (k : zG n0 ext D aC p l e R s m args below meth c y F1 F2 M1 M2 Q pc' L' S' h') : zG n0 ext D aC p l e R s m args below meth c y F1 F2 M1 M2 Q pc L S h := by
  obtain ⟨⟨hx, hb, hr, hml, hown⟩, hw, -⟩ := id hCx
  obtain ⟨hdg, haim, hlen⟩ := hh
  obtain rfl : len = 2 := zlen_of hlen
  intro H locs cells slots ls hR hS hL hc hz
  simp only [zsim, zstl] at hs
  cases S with
  | nil => simp at hs
  | cons v0 r =>
    cases v0 with
    | long v =>
      simp only [] at hs
      cases hn0 : Nat.blt (i + 1) L.length with
      | false => simp [hn0] at hs
      | true =>
        simp only [hn0, cond_true] at hs
        obtain ⟨rfl, rfl, rfl, rfl⟩ := zsome hs
        have hn : (i + 1) < zmax y := by rw [← hL.2.1]; exact Nat.le_of_ble_eq_true hn0
        exact lv_lstore hx hb hdg (zLs_has hL) hn rfl (fun ls' h' => k H locs cells slots ls' hR hS (zLs_set2 hL hn h') hc hz)
    | _ => simp at hs
theorem zs_lstore_n (hCx : zCx sL sx b n0 D aC p R s m args meth c y d) {i : Fin 4} (hh : zHere y pc len (.lstore_n i)) (hs : zsim sL sx y (.lstore_n i) len pc L S h = some ((pc', L', S'), h'))
    (k : zG n0 ext D aC p l e R s m args below meth c y F1 F2 M1 M2 Q pc' L' S' h') : zG n0 ext D aC p l e R s m args below meth c y F1 F2 M1 M2 Q pc L S h := by
  obtain ⟨⟨hx, hb, hr, hml, hown⟩, hw, -⟩ := id hCx
  obtain ⟨hdg, haim, hlen⟩ := hh
  obtain rfl : len = 1 := zlen_of hlen
  intro H locs cells slots ls hR hS hL hc hz
  simp only [zsim, zstl] at hs
  cases S with
  | nil => simp at hs
  | cons v0 r =>
    cases v0 with
    | long v =>
      simp only [] at hs
      cases hn0 : Nat.blt ((i : Nat) + 1) L.length with
      | false => simp [hn0] at hs
      | true =>
        simp only [hn0, cond_true] at hs
        obtain ⟨rfl, rfl, rfl, rfl⟩ := zsome hs
        have hn : ((i : Nat) + 1) < zmax y := by rw [← hL.2.1]; exact Nat.le_of_ble_eq_true hn0
        exact lv_lstore_n hx hb hdg rfl (zLs_has hL) hn rfl (fun ls' h' => k H locs cells slots ls' hR hS (zLs_set2 hL hn h') hc hz)
    | _ => simp at hs
theorem zs_astore (hCx : zCx sL sx b n0 D aC p R s m args meth c y d) {i : Nat} (hh : zHere y pc len (.astore i)) (hs : zsim sL sx y (.astore i) len pc L S h = some ((pc', L', S'), h'))
    (k : zG n0 ext D aC p l e R s m args below meth c y F1 F2 M1 M2 Q pc' L' S' h') : zG n0 ext D aC p l e R s m args below meth c y F1 F2 M1 M2 Q pc L S h := by
  obtain ⟨⟨hx, hb, hr, hml, hown⟩, hw, -⟩ := id hCx
  obtain ⟨hdg, haim, hlen⟩ := hh
  obtain rfl : len = 2 := zlen_of hlen
  intro H locs cells slots ls hR hS hL hc hz
  simp only [zsim, zsta] at hs
  cases S with
  | nil => simp at hs
  | cons v0 r =>
    cases v0 with
    | ref v =>
      simp only [] at hs
      cases hn0 : Nat.blt i L.length with
      | false => simp [hn0] at hs
      | true =>
        simp only [hn0, cond_true] at hs
        obtain ⟨rfl, rfl, rfl, rfl⟩ := zsome hs
        have hn : i < zmax y := by rw [← hL.2.1]; exact Nat.le_of_ble_eq_true hn0
        exact lv_astore hx hb hdg (zLs_has hL) hn rfl (fun ls' h' => k H locs cells slots ls' hR hS (zLs_set1 hL hn h') hc hz)
    | null =>
      simp only [] at hs
      cases hn0 : Nat.blt i L.length with
      | false => simp [hn0] at hs
      | true =>
        simp only [hn0, cond_true] at hs
        obtain ⟨rfl, rfl, rfl, rfl⟩ := zsome hs
        have hn : i < zmax y := by rw [← hL.2.1]; exact Nat.le_of_ble_eq_true hn0
        exact lv_astoreN hx hb hdg (zLs_has hL) hn rfl (fun ls' h' => k H locs cells slots ls' hR hS (zLs_set1 hL hn h') hc hz)
    | retAddr j =>
      cases j with
      | zero => simp at hs
      | succ j =>
        simp only [] at hs
        cases hn0 : Nat.blt i L.length with
        | false => simp [hn0] at hs
        | true =>
          simp only [hn0, cond_true] at hs
          obtain ⟨rfl, rfl, rfl, rfl⟩ := zsome hs
          have hn : i < zmax y := by rw [← hL.2.1]; exact Nat.le_of_ble_eq_true hn0
          exact lv_astore hx hb hdg (x := ext (j + 1)) (zLs_has hL) hn rfl (fun ls' h' => k H locs cells slots ls' hR hS (zLs_set1 hL hn h') hc hz)
    | _ => simp at hs
theorem zs_astore_n (hCx : zCx sL sx b n0 D aC p R s m args meth c y d) {i : Fin 4} (hh : zHere y pc len (.astore_n i)) (hs : zsim sL sx y (.astore_n i) len pc L S h = some ((pc', L', S'), h'))
    (k : zG n0 ext D aC p l e R s m args below meth c y F1 F2 M1 M2 Q pc' L' S' h') : zG n0 ext D aC p l e R s m args below meth c y F1 F2 M1 M2 Q pc L S h := by
  obtain ⟨⟨hx, hb, hr, hml, hown⟩, hw, -⟩ := id hCx
  obtain ⟨hdg, haim, hlen⟩ := hh
  obtain rfl : len = 1 := zlen_of hlen
  intro H locs cells slots ls hR hS hL hc hz
  simp only [zsim, zsta] at hs
  cases S with
  | nil => simp at hs
  | cons v0 r =>
    cases v0 with
    | ref v =>
      simp only [] at hs
      cases hn0 : Nat.blt (i : Nat) L.length with
      | false => simp [hn0] at hs
      | true =>
        simp only [hn0, cond_true] at hs
        obtain ⟨rfl, rfl, rfl, rfl⟩ := zsome hs
        have hn : (i : Nat) < zmax y := by rw [← hL.2.1]; exact Nat.le_of_ble_eq_true hn0
        exact lv_astore_n hx hb hdg rfl (zLs_has hL) hn rfl (fun ls' h' => k H locs cells slots ls' hR hS (zLs_set1 hL hn h') hc hz)
    | null =>
      simp only [] at hs
      cases hn0 : Nat.blt (i : Nat) L.length with
      | false => simp [hn0] at hs
      | true =>
        simp only [hn0, cond_true] at hs
        obtain ⟨rfl, rfl, rfl, rfl⟩ := zsome hs
        have hn : (i : Nat) < zmax y := by rw [← hL.2.1]; exact Nat.le_of_ble_eq_true hn0
        exact lv_astore_nN hx hb hdg rfl (zLs_has hL) hn rfl (fun ls' h' => k H locs cells slots ls' hR hS (zLs_set1 hL hn h') hc hz)
    | retAddr j =>
      cases j with
      | zero => simp at hs
      | succ j =>
        simp only [] at hs
        cases hn0 : Nat.blt (i : Nat) L.length with
        | false => simp [hn0] at hs
        | true =>
          simp only [hn0, cond_true] at hs
          obtain ⟨rfl, rfl, rfl, rfl⟩ := zsome hs
          have hn : (i : Nat) < zmax y := by rw [← hL.2.1]; exact Nat.le_of_ble_eq_true hn0
          exact lv_astore_n hx hb hdg rfl (x := ext (j + 1)) (zLs_has hL) hn rfl (fun ls' h' => k H locs cells slots ls' hR hS (zLs_set1 hL hn h') hc hz)
    | _ => simp at hs
theorem zs_iinc (hCx : zCx sL sx b n0 D aC p R s m args meth c y d) {i : Nat} {n : Int} (hh : zHere y pc len (.iinc i n)) (hs : zsim sL sx y (.iinc i n) len pc L S h = some ((pc', L', S'), h'))
    (k : zG n0 ext D aC p l e R s m args below meth c y F1 F2 M1 M2 Q pc' L' S' h') : zG n0 ext D aC p l e R s m args below meth c y F1 F2 M1 M2 Q pc L S h := by
  obtain ⟨⟨hx, hb, hr, hml, hown⟩, hw, -⟩ := id hCx
  obtain ⟨hdg, haim, hlen⟩ := hh
  obtain rfl : len = 3 := zlen_of hlen
  intro H locs cells slots ls hR hS hL hc hz
  simp only [zsim] at hs
  cases hg : zg L i with
  | int v =>
    simp only [hg] at hs
    cases hn0 : Nat.blt i L.length with
    | false => simp [hn0] at hs
    | true =>
      simp only [hn0, cond_true] at hs
      obtain ⟨rfl, rfl, rfl, rfl⟩ := zsome hs
      have hn : i < zmax y := by rw [← hL.2.1]; exact Nat.le_of_ble_eq_true hn0
      obtain ⟨j, hj⟩ := List.getElem?_of_mem (zpairs_mem (n0 := n0) (ext := ext) (zg_some hg (by simp)) (by simp))
      exact lv_iinc hx hb hdg (zLs_has hL) hj rfl hn rfl (fun ls' h' => k H locs cells slots ls' hR hS (zLs_set1 hL hn h') hc hz)
  | _ => simp [hg] at hs
theorem zs_iadd (hCx : zCx sL sx b n0 D aC p R s m args meth c y d)  (hh : zHere y pc len (.iadd)) (hs : zsim sL sx y (.iadd) len pc L S h = some ((pc', L', S'), h'))
    (k : zG n0 ext D aC p l e R s m args below meth c y F1 F2 M1 M2 Q pc' L' S' h') : zG n0 ext D aC p l e R s m args below meth c y F1 F2 M1 M2 Q pc L S h := by
  obtain ⟨⟨hx, hb, hr, hml, hown⟩, hw, -⟩ := id hCx
  obtain ⟨hdg, haim, hlen⟩ := hh
  obtain rfl : len = 1 := zlen_of hlen
  intro H locs cells slots ls hR hS hL hc hz
  simp only [zsim, zii] at hs
  split at hs
  · try simp only [zpush] at hs
    obtain ⟨rfl, rfl, rfl, rfl⟩ := zsome hs
    exact lv_iadd hx hb hdg (k H locs cells slots ls hR hS hL hc hz)
  · simp at hs
theorem zs_isub (hCx : zCx sL sx b n0 D aC p R s m args meth c y d)  (hh : zHere y pc len (.isub)) (hs : zsim sL sx y (.isub) len pc L S h = some ((pc', L', S'), h'))
    (k : zG n0 ext D aC p l e R s m args below meth c y F1 F2 M1 M2 Q pc' L' S' h') : zG n0 ext D aC p l e R s m args below meth c y F1 F2 M1 M2 Q pc L S h := by
  obtain ⟨⟨hx, hb, hr, hml, hown⟩, hw, -⟩ := id hCx
  obtain ⟨hdg, haim, hlen⟩ := hh
  obtain rfl : len = 1 := zlen_of hlen
  intro H locs cells slots ls hR hS hL hc hz
  simp only [zsim, zii] at hs
  split at hs
  · try simp only [zpush] at hs
    obtain ⟨rfl, rfl, rfl, rfl⟩ := zsome hs
    exact lv_isub hx hb hdg (k H locs cells slots ls hR hS hL hc hz)
  · simp at hs
theorem zs_imul (hCx : zCx sL sx b n0 D aC p R s m args meth c y d)  (hh : zHere y pc len (.imul)) (hs : zsim sL sx y (.imul) len pc L S h = some ((pc', L', S'), h'))
    (k : zG n0 ext D aC p l e R s m args below meth c y F1 F2 M1 M2 Q pc' L' S' h') : zG n0 ext D aC p l e R s m args below meth c y F1 F2 M1 M2 Q pc L S h := by
  obtain ⟨⟨hx, hb, hr, hml, hown⟩, hw, -⟩ := id hCx
  obtain ⟨hdg, haim, hlen⟩ := hh
  obtain rfl : len = 1 := zlen_of hlen
  intro H locs cells slots ls hR hS hL hc hz
  simp only [zsim, zii] at hs
  split at hs
  · try simp only [zpush] at hs
    obtain ⟨rfl, rfl, rfl, rfl⟩ := zsome hs
    exact lv_imul hx hb hdg (k H locs cells slots ls hR hS hL hc hz)
  · simp at hs
theorem zs_iand (hCx : zCx sL sx b n0 D aC p R s m args meth c y d)  (hh : zHere y pc len (.iand)) (hs : zsim sL sx y (.iand) len pc L S h = some ((pc', L', S'), h'))
    (k : zG n0 ext D aC p l e R s m args below meth c y F1 F2 M1 M2 Q pc' L' S' h') : zG n0 ext D aC p l e R s m args below meth c y F1 F2 M1 M2 Q pc L S h := by
  obtain ⟨⟨hx, hb, hr, hml, hown⟩, hw, -⟩ := id hCx
  obtain ⟨hdg, haim, hlen⟩ := hh
  obtain rfl : len = 1 := zlen_of hlen
  intro H locs cells slots ls hR hS hL hc hz
  simp only [zsim, zii] at hs
  split at hs
  · try simp only [zpush] at hs
    obtain ⟨rfl, rfl, rfl, rfl⟩ := zsome hs
    exact lv_iand hx hb hdg (k H locs cells slots ls hR hS hL hc hz)
  · simp at hs
theorem zs_ior (hCx : zCx sL sx b n0 D aC p R s m args meth c y d)  (hh : zHere y pc len (.ior)) (hs : zsim sL sx y (.ior) len pc L S h = some ((pc', L', S'), h'))
    (k : zG n0 ext D aC p l e R s m args below meth c y F1 F2 M1 M2 Q pc' L' S' h') : zG n0 ext D aC p l e R s m args below meth c y F1 F2 M1 M2 Q pc L S h := by
  obtain ⟨⟨hx, hb, hr, hml, hown⟩, hw, -⟩ := id hCx
  obtain ⟨hdg, haim, hlen⟩ := hh
  obtain rfl : len = 1 := zlen_of hlen
  intro H locs cells slots ls hR hS hL hc hz
  simp only [zsim, zii] at hs
  split at hs
  · try simp only [zpush] at hs
    obtain ⟨rfl, rfl, rfl, rfl⟩ := zsome hs
    exact lv_ior hx hb hdg (k H locs cells slots ls hR hS hL hc hz)
  · simp at hs
theorem zs_ishl (hCx : zCx sL sx b n0 D aC p R s m args meth c y d)  (hh : zHere y pc len (.ishl)) (hs : zsim sL sx y (.ishl) len pc L S h = some ((pc', L', S'), h'))
    (k : zG n0 ext D aC p l e R s m args below meth c y F1 F2 M1 M2 Q pc' L' S' h') : zG n0 ext D aC p l e R s m args below meth c y F1 F2 M1 M2 Q pc L S h := by
  obtain ⟨⟨hx, hb, hr, hml, hown⟩, hw, -⟩ := id hCx
  obtain ⟨hdg, haim, hlen⟩ := hh
  obtain rfl : len = 1 := zlen_of hlen
  intro H locs cells slots ls hR hS hL hc hz
  simp only [zsim, zii] at hs
  split at hs
  · try simp only [zpush] at hs
    obtain ⟨rfl, rfl, rfl, rfl⟩ := zsome hs
    exact lv_ishl hx hb hdg (k H locs cells slots ls hR hS hL hc hz)
  · simp at hs
theorem zs_ladd (hCx : zCx sL sx b n0 D aC p R s m args meth c y d)  (hh : zHere y pc len (.ladd)) (hs : zsim sL sx y (.ladd) len pc L S h = some ((pc', L', S'), h'))
    (k : zG n0 ext D aC p l e R s m args below meth c y F1 F2 M1 M2 Q pc' L' S' h') : zG n0 ext D aC p l e R s m args below meth c y F1 F2 M1 M2 Q pc L S h := by
  obtain ⟨⟨hx, hb, hr, hml, hown⟩, hw, -⟩ := id hCx
  obtain ⟨hdg, haim, hlen⟩ := hh
  obtain rfl : len = 1 := zlen_of hlen
  intro H locs cells slots ls hR hS hL hc hz
  simp only [zsim, zll] at hs
  split at hs
  · try simp only [zpush] at hs
    obtain ⟨rfl, rfl, rfl, rfl⟩ := zsome hs
    exact lv_ladd hx hb hdg (k H locs cells slots ls hR hS hL hc hz)
  · simp at hs
theorem zs_land (hCx : zCx sL sx b n0 D aC p R s m args meth c y d)  (hh : zHere y pc len (.land)) (hs : zsim sL sx y (.land) len pc L S h = some ((pc', L', S'), h'))
    (k : zG n0 ext D aC p l e R s m args below meth c y F1 F2 M1 M2 Q pc' L' S' h') : zG n0 ext D aC p l e R s m args below meth c y F1 F2 M1 M2 Q pc L S h := by
  obtain ⟨⟨hx, hb, hr, hml, hown⟩, hw, -⟩ := id hCx
  obtain ⟨hdg, haim, hlen⟩ := hh
  obtain rfl : len = 1 := zlen_of hlen
  intro H locs cells slots ls hR hS hL hc hz
  simp only [zsim, zll] at hs
  split at hs
  · try simp only [zpush] at hs
    obtain ⟨rfl, rfl, rfl, rfl⟩ := zsome hs
    exact lv_land hx hb hdg (k H locs cells slots ls hR hS hL hc hz)
  · simp at hs
theorem zs_lor (hCx : zCx sL sx b n0 D aC p R s m args meth c y d)  (hh : zHere y pc len (.lor)) (hs : zsim sL sx y (.lor) len pc L S h = some ((pc', L', S'), h'))
    (k : zG n0 ext D aC p l e R s m args below meth c y F1 F2 M1 M2 Q pc' L' S' h') : zG n0 ext D aC p l e R s m args below meth c y F1 F2 M1 M2 Q pc L S h := by
  obtain ⟨⟨hx, hb, hr, hml, hown⟩, hw, -⟩ := id hCx
  obtain ⟨hdg, haim, hlen⟩ := hh
  obtain rfl : len = 1 := zlen_of hlen
  intro H locs cells slots ls hR hS hL hc hz
  simp only [zsim, zll] at hs
  split at hs
  · try simp only [zpush] at hs
    obtain ⟨rfl, rfl, rfl, rfl⟩ := zsome hs
    exact lv_lor hx hb hdg (k H locs cells slots ls hR hS hL hc hz)
  · simp at hs
theorem zs_lshl (hCx : zCx sL sx b n0 D aC p R s m args meth c y d)  (hh : zHere y pc len (.lshl)) (hs : zsim sL sx y (.lshl) len pc L S h = some ((pc', L', S'), h'))
    (k : zG n0 ext D aC p l e R s m args below meth c y F1 F2 M1 M2 Q pc' L' S' h') : zG n0 ext D aC p l e R s m args below meth c y F1 F2 M1 M2 Q pc L S h := by
  obtain ⟨⟨hx, hb, hr, hml, hown⟩, hw, -⟩ := id hCx
  obtain ⟨hdg, haim, hlen⟩ := hh
  obtain rfl : len = 1 := zlen_of hlen
  intro H locs cells slots ls hR hS hL hc hz
  simp only [zsim, zpush] at hs
  split at hs
  · try simp only [zpush] at hs
    obtain ⟨rfl, rfl, rfl, rfl⟩ := zsome hs
    exact lv_lshl hx hb hdg rfl (k H locs cells slots ls hR hS hL hc hz)
  · simp at hs
theorem zs_i2l (hCx : zCx sL sx b n0 D aC p R s m args meth c y d)  (hh : zHere y pc len (.i2l)) (hs : zsim sL sx y (.i2l) len pc L S h = some ((pc', L', S'), h'))
    (k : zG n0 ext D aC p l e R s m args below meth c y F1 F2 M1 M2 Q pc' L' S' h') : zG n0 ext D aC p l e R s m args below meth c y F1 F2 M1 M2 Q pc L S h := by
  obtain ⟨⟨hx, hb, hr, hml, hown⟩, hw, -⟩ := id hCx
  obtain ⟨hdg, haim, hlen⟩ := hh
  obtain rfl : len = 1 := zlen_of hlen
  intro H locs cells slots ls hR hS hL hc hz
  simp only [zsim, zpush] at hs
  split at hs
  · try simp only [zpush] at hs
    obtain ⟨rfl, rfl, rfl, rfl⟩ := zsome hs
    exact lv_i2l hx hb hdg rfl (k H locs cells slots ls hR hS hL hc hz)
  · simp at hs
theorem zs_lcmp (hCx : zCx sL sx b n0 D aC p R s m args meth c y d)  (hh : zHere y pc len (.lcmp)) (hs : zsim sL sx y (.lcmp) len pc L S h = some ((pc', L', S'), h'))
    (k : zG n0 ext D aC p l e R s m args below meth c y F1 F2 M1 M2 Q pc' L' S' h') : zG n0 ext D aC p l e R s m args below meth c y F1 F2 M1 M2 Q pc L S h := by
  obtain ⟨⟨hx, hb, hr, hml, hown⟩, hw, -⟩ := id hCx
  obtain ⟨hdg, haim, hlen⟩ := hh
  obtain rfl : len = 1 := zlen_of hlen
  intro H locs cells slots ls hR hS hL hc hz
  simp only [zsim, zpush] at hs
  split at hs
  · try simp only [zpush] at hs
    obtain ⟨rfl, rfl, rfl, rfl⟩ := zsome hs
    exact W.lcmp hx hb hdg (k H locs cells slots ls hR hS hL hc hz)
  · simp at hs
theorem zs_dup (hCx : zCx sL sx b n0 D aC p R s m args meth c y d)  (hh : zHere y pc len (.dup)) (hs : zsim sL sx y (.dup) len pc L S h = some ((pc', L', S'), h'))
    (k : zG n0 ext D aC p l e R s m args below meth c y F1 F2 M1 M2 Q pc' L' S' h') : zG n0 ext D aC p l e R s m args below meth c y F1 F2 M1 M2 Q pc L S h := by
  obtain ⟨⟨hx, hb, hr, hml, hown⟩, hw, -⟩ := id hCx
  obtain ⟨hdg, haim, hlen⟩ := hh
  obtain rfl : len = 1 := zlen_of hlen
  intro H locs cells slots ls hR hS hL hc hz
  simp only [zsim] at hs
  cases S with
  | nil => simp at hs
  | cons v r =>
    cases hv : Nat.beq v.category 1 with
    | false => simp [hv] at hs
    | true =>
      simp only [hv, cond_true] at hs
      obtain ⟨rfl, rfl, rfl, rfl⟩ := zsome hs
      exact lv_dup hx hb hdg (by rw [zv_cat]; exact Nat.eq_of_beq_eq_true hv) (k H locs cells slots ls hR hS hL hc hz)
theorem zs_dup2 (hCx : zCx sL sx b n0 D aC p R s m args meth c y d)  (hh : zHere y pc len (.dup2)) (hs : zsim sL sx y (.dup2) len pc L S h = some ((pc', L', S'), h'))
    (k : zG n0 ext D aC p l e R s m args below meth c y F1 F2 M1 M2 Q pc' L' S' h') : zG n0 ext D aC p l e R s m args below meth c y F1 F2 M1 M2 Q pc L S h := by
  obtain ⟨⟨hx, hb, hr, hml, hown⟩, hw, -⟩ := id hCx
  obtain ⟨hdg, haim, hlen⟩ := hh
  obtain rfl : len = 1 := zlen_of hlen
  intro H locs cells slots ls hR hS hL hc hz
  simp only [zsim] at hs
  cases S with
  | nil => simp at hs
  | cons v r =>
    cases r with
    | nil => simp at hs
    | cons w r =>
      cases hv : (Nat.beq v.category 1 && Nat.beq w.category 1) with
      | false => simp [hv] at hs
      | true =>
        simp only [hv, cond_true] at hs
        obtain ⟨rfl, rfl, rfl, rfl⟩ := zsome hs
        simp only [Bool.and_eq_true] at hv
        exact lv_dup2_11 hx hb hdg (by rw [zv_cat]; exact Nat.eq_of_beq_eq_true hv.1) (by rw [zv_cat]; exact Nat.eq_of_beq_eq_true hv.2) (k H locs cells slots ls hR hS hL hc hz)
theorem zs_goto (hCx : zCx sL sx b n0 D aC p R s m args meth c y d) {off : Int} (hh : zHere y pc len (.goto off)) (hs : zsim sL sx y (.goto off) len pc L S h = some ((pc', L', S'), h'))
    (k : zG n0 ext D aC p l e R s m args below meth c y F1 F2 M1 M2 Q pc' L' S' h') : zG n0 ext D aC p l e R s m args below meth c y F1 F2 M1 M2 Q pc L S h := by
  obtain ⟨⟨hx, hb, hr, hml, hown⟩, hw, -⟩ := id hCx
  obtain ⟨hdg, haim, hlen⟩ := hh
  obtain rfl : len = 3 := zlen_of hlen
  intro H locs cells slots ls hR hS hL hc hz
  simp only [zsim, zjump, cond_true] at hs
  obtain ⟨rfl, rfl, rfl, rfl⟩ := zsome hs
  exact lv_goto hx hb hdg (ztop haim) (k H locs cells slots ls hR hS hL hc hz)
theorem zs_ifc_eq (hCx : zCx sL sx b n0 D aC p R s m args meth c y d) {off : Int} (hh : zHere y pc len (.ifCond .eq off)) (hs : zsim sL sx y (.ifCond .eq off) len pc L S h = some ((pc', L', S'), h'))
    (k : zG n0 ext D aC p l e R s m args below meth c y F1 F2 M1 M2 Q pc' L' S' h') : zG n0 ext D aC p l e R s m args below meth c y F1 F2 M1 M2 Q pc L S h := by
  obtain ⟨⟨hx, hb, hr, hml, hown⟩, hw, -⟩ := id hCx
  obtain ⟨hdg, haim, hlen⟩ := hh
  obtain rfl : len = 3 := zlen_of hlen
  intro H locs cells slots ls hR hS hL hc hz
  simp only [zsim] at hs
  split at hs
  · rename_i a r
    simp only [zjump, zcb] at hs
    obtain ⟨rfl, rfl, rfl, rfl⟩ := zsome hs
    refine lv_if_eq hx hb hdg (ztop haim) (fun q => ?_) (fun q => ?_)
    · have k9 := k H locs cells slots ls hR hS hL hc hz
      simpa [q] using k9
    · have k9 := k H locs cells slots ls hR hS hL hc hz
      simpa [q] using k9
  · simp at hs
theorem zs_ifc_ne (hCx : zCx sL sx b n0 D aC p R s m args meth c y d) {off : Int} (hh : zHere y pc len (.ifCond .ne off)) (hs : zsim sL sx y (.ifCond .ne off) len pc L S h = some ((pc', L', S'), h'))
    (k : zG n0 ext D aC p l e R s m args below meth c y F1 F2 M1 M2 Q pc' L' S' h') : zG n0 ext D aC p l e R s m args below meth c y F1 F2 M1 M2 Q pc L S h := by
  obtain ⟨⟨hx, hb, hr, hml, hown⟩, hw, -⟩ := id hCx
  obtain ⟨hdg, haim, hlen⟩ := hh
  obtain rfl : len = 3 := zlen_of hlen
  intro H locs cells slots ls hR hS hL hc hz
  simp only [zsim] at hs
  split at hs
  · rename_i a r
    simp only [zjump, zcb] at hs
    obtain ⟨rfl, rfl, rfl, rfl⟩ := zsome hs
    refine lv_if_ne hx hb hdg (ztop haim) (fun q => ?_) (fun q => ?_)
    · have k9 := k H locs cells slots ls hR hS hL hc hz
      simpa [q] using k9
    · have k9 := k H locs cells slots ls hR hS hL hc hz
      simpa [q] using k9
  · simp at hs
theorem zs_ifc_lt (hCx : zCx sL sx b n0 D aC p R s m args meth c y d) {off : Int} (hh : zHere y pc len (.ifCond .lt off)) (hs : zsim sL sx y (.ifCond .lt off) len pc L S h = some ((pc', L', S'), h'))
    (k : zG n0 ext D aC p l e R s m args below meth c y F1 F2 M1 M2 Q pc' L' S' h') : zG n0 ext D aC p l e R s m args below meth c y F1 F2 M1 M2 Q pc L S h := by
  obtain ⟨⟨hx, hb, hr, hml, hown⟩, hw, -⟩ := id hCx
  obtain ⟨hdg, haim, hlen⟩ := hh
  obtain rfl : len = 3 := zlen_of hlen
  intro H locs cells slots ls hR hS hL hc hz
  simp only [zsim] at hs
  split at hs
  · rename_i a r
    simp only [zjump, zcb] at hs
    obtain ⟨rfl, rfl, rfl, rfl⟩ := zsome hs
    refine lv_if_lt hx hb hdg (ztop haim) (fun q => ?_) (fun q => ?_)
    · have k9 := k H locs cells slots ls hR hS hL hc hz
      simpa [q] using k9
    · have k9 := k H locs cells slots ls hR hS hL hc hz
      simpa [q] using k9
  · simp at hs
theorem zs_ifc_ge (hCx : zCx sL sx b n0 D aC p R s m args meth c y d) {off : Int} (hh : zHere y pc len (.ifCond .ge off)) (hs : zsim sL sx y (.ifCond .ge off) len pc L S h = some ((pc', L', S'), h'))
    (k : zG n0 ext D aC p l e R s m args below meth c y F1 F2 M1 M2 Q pc' L' S' h') : zG n0 ext D aC p l e R s m args below meth c y F1 F2 M1 M2 Q pc L S h := by
  obtain ⟨⟨hx, hb, hr, hml, hown⟩, hw, -⟩ := id hCx
  obtain ⟨hdg, haim, hlen⟩ := hh
  obtain rfl : len = 3 := zlen_of hlen
  intro H locs cells slots ls hR hS hL hc hz
  simp only [zsim] at hs
  split at hs
  · rename_i a r
    simp only [zjump, zcb] at hs
    obtain ⟨rfl, rfl, rfl, rfl⟩ := zsome hs
    refine lv_if_ge hx hb hdg (ztop haim) (fun q => ?_) (fun q => ?_)
    · have k9 := k H locs cells slots ls hR hS hL hc hz
      simpa [q] using k9
    · have k9 := k H locs cells slots ls hR hS hL hc hz
      simpa [q] using k9
  · simp at hs
theorem zs_ifc_gt (hCx : zCx sL sx b n0 D aC p R s m args meth c y d) {off : Int} (hh : zHere y pc len (.ifCond .gt off)) (hs : zsim sL sx y (.ifCond .gt off) len pc L S h = some ((pc', L', S'), h'))
    (k : zG n0 ext D aC p l e R s m args below meth c y F1 F2 M1 M2 Q pc' L' S' h') : zG n0 ext D aC p l e R s m args below meth c y F1 F2 M1 M2 Q pc L S h := by
  obtain ⟨⟨hx, hb, hr, hml, hown⟩, hw, -⟩ := id hCx
  obtain ⟨hdg, haim, hlen⟩ := hh
  obtain rfl : len = 3 := zlen_of hlen
  intro H locs cells slots ls hR hS hL hc hz
  simp only [zsim] at hs
  split at hs
  · rename_i a r
    simp only [zjump, zcb] at hs
    obtain ⟨rfl, rfl, rfl, rfl⟩ := zsome hs
    refine lv_if_gt hx hb hdg (ztop haim) (fun q => ?_) (fun q => ?_)
    · have k9 := k H locs cells slots ls hR hS hL hc hz
      simpa [q] using k9
    · have k9 := k H locs cells slots ls hR hS hL hc hz
      simpa [q] using k9
  · simp at hs
theorem zs_ifc_le (hCx : zCx sL sx b n0 D aC p R s m args meth c y d) {off : Int} (hh : zHere y pc len (.ifCond .le off)) (hs : zsim sL sx y (.ifCond .le off) len pc L S h = some ((pc', L', S'), h'))
    (k : zG n0 ext D aC p l e R s m args below meth c y F1 F2 M1 M2 Q pc' L' S' h') : zG n0 ext D aC p l e R s m args below meth c y F1 F2 M1 M2 Q pc L S h := by
  obtain ⟨⟨hx, hb, hr, hml, hown⟩, hw, -⟩ := id hCx
  obtain ⟨hdg, haim, hlen⟩ := hh
  obtain rfl : len = 3 := zlen_of hlen
  intro H locs cells slots ls hR hS hL hc hz
  simp only [zsim] at hs
  split at hs
  · rename_i a r
    simp only [zjump, zcb] at hs
    obtain ⟨rfl, rfl, rfl, rfl⟩ := zsome hs
    refine lv_if_le hx hb hdg (ztop haim) (fun q => ?_) (fun q => ?_)
    · have k9 := k H locs cells slots ls hR hS hL hc hz
      simpa [q] using k9
    · have k9 := k H locs cells slots ls hR hS hL hc hz
      simpa [q] using k9
  · simp at hs
theorem zs_icmp_eq (hCx : zCx sL sx b n0 D aC p R s m args meth c y d) {off : Int} (hh : zHere y pc len (.if_icmp .eq off)) (hs : zsim sL sx y (.if_icmp .eq off) len pc L S h = some ((pc', L', S'), h'))
    (k : zG n0 ext D aC p l e R s m args below meth c y F1 F2 M1 M2 Q pc' L' S' h') : zG n0 ext D aC p l e R s m args below meth c y F1 F2 M1 M2 Q pc L S h := by
  obtain ⟨⟨hx, hb, hr, hml, hown⟩, hw, -⟩ := id hCx
  obtain ⟨hdg, haim, hlen⟩ := hh
  obtain rfl : len = 3 := zlen_of hlen
  intro H locs cells slots ls hR hS hL hc hz
  simp only [zsim] at hs
  split at hs
  · rename_i b9 a r
    simp only [zjump, zcb] at hs
    obtain ⟨rfl, rfl, rfl, rfl⟩ := zsome hs
    refine lv_icmp_eq hx hb hdg (ztop haim) (fun q => ?_) (fun q => ?_)
    · have k9 := k H locs cells slots ls hR hS hL hc hz
      simpa [q] using k9
    · have k9 := k H locs cells slots ls hR hS hL hc hz
      simpa [q] using k9
  · simp at hs
theorem zs_icmp_ne (hCx : zCx sL sx b n0 D aC p R s m args meth c y d) {off : Int} (hh : zHere y pc len (.if_icmp .ne off)) (hs : zsim sL sx y (.if_icmp .ne off) len pc L S h = some ((pc', L', S'), h'))
    (k : zG n0 ext D aC p l e R s m args below meth c y F1 F2 M1 M2 Q pc' L' S' h') : zG n0 ext D aC p l e R s m args below meth c y F1 F2 M1 M2 Q pc L S h := by
  obtain ⟨⟨hx, hb, hr, hml, hown⟩, hw, -⟩ := id hCx
  obtain ⟨hdg, haim, hlen⟩ := hh
  obtain rfl : len = 3 := zlen_of hlen
  intro H locs cells slots ls hR hS hL hc hz
  simp only [zsim] at hs
  split at hs
  · rename_i b9 a r
    simp only [zjump, zcb] at hs
    obtain ⟨rfl, rfl, rfl, rfl⟩ := zsome hs
    refine lv_icmp_ne hx hb hdg (ztop haim) (fun q => ?_) (fun q => ?_)
    · have k9 := k H locs cells slots ls hR hS hL hc hz
      simpa [q] using k9
    · have k9 := k H locs cells slots ls hR hS hL hc hz
      simpa [q] using k9
  · simp at hs
theorem zs_icmp_lt (hCx : zCx sL sx b n0 D aC p R s m args meth c y d) {off : Int} (hh : zHere y pc len (.if_icmp .lt off)) (hs : zsim sL sx y (.if_icmp .lt off) len pc L S h = some ((pc', L', S'), h'))
    (k : zG n0 ext D aC p l e R s m args below meth c y F1 F2 M1 M2 Q pc' L' S' h') : zG n0 ext D aC p l e R s m args below meth c y F1 F2 M1 M2 Q pc L S h := by
  obtain ⟨⟨hx, hb, hr, hml, hown⟩, hw, -⟩ := id hCx
  obtain ⟨hdg, haim, hlen⟩ := hh
  obtain rfl : len = 3 := zlen_of hlen
  intro H locs cells slots ls hR hS hL hc hz
  simp only [zsim] at hs
  split at hs
  · rename_i b9 a r
    simp only [zjump, zcb] at hs
    obtain ⟨rfl, rfl, rfl, rfl⟩ := zsome hs
    refine lv_icmp_lt hx hb hdg (ztop haim) (fun q => ?_) (fun q => ?_)
    · have k9 := k H locs cells slots ls hR hS hL hc hz
      simpa [q] using k9
    · have k9 := k H locs cells slots ls hR hS hL hc hz
      simpa [q] using k9
  · simp at hs
theorem zs_icmp_ge (hCx : zCx sL sx b n0 D aC p R s m args meth c y d) {off : Int} (hh : zHere y pc len (.if_icmp .ge off)) (hs : zsim sL sx y (.if_icmp .ge off) len pc L S h = some ((pc', L', S'), h'))
    (k : zG n0 ext D aC p l e R s m args below meth c y F1 F2 M1 M2 Q pc' L' S' h') : zG n0 ext D aC p l e R s m args below meth c y F1 F2 M1 M2 Q pc L S h := by
  obtain ⟨⟨hx, hb, hr, hml, hown⟩, hw, -⟩ := id hCx
  obtain ⟨hdg, haim, hlen⟩ := hh
  obtain rfl : len = 3 := zlen_of hlen
  intro H locs cells slots ls hR hS hL hc hz
  simp only [zsim] at hs
  split at hs
  · rename_i b9 a r
    simp only [zjump, zcb] at hs
    obtain ⟨rfl, rfl, rfl, rfl⟩ := zsome hs
    refine lv_icmp_ge hx hb hdg (ztop haim) (fun q => ?_) (fun q => ?_)
    · have k9 := k H locs cells slots ls hR hS hL hc hz
      simpa [q] using k9
    · have k9 := k H locs cells slots ls hR hS hL hc hz
      simpa [q] using k9
  · simp at hs
theorem zs_icmp_gt (hCx : zCx sL sx b n0 D aC p R s m args meth c y d) {off : Int} (hh : zHere y pc len (.if_icmp .gt off)) (hs : zsim sL sx y (.if_icmp .gt off) len pc L S h = some ((pc', L', S'), h'))
    (k : zG n0 ext D aC p l e R s m args below meth c y F1 F2 M1 M2 Q pc' L' S' h') : zG n0 ext D aC p l e R s m args below meth c y F1 F2 M1 M2 Q pc L S h := by
  obtain ⟨⟨hx, hb, hr, hml, hown⟩, hw, -⟩ := id hCx
  obtain ⟨hdg, haim, hlen⟩ := hh
  obtain rfl : len = 3 := zlen_of hlen
  intro H locs cells slots ls hR hS hL hc hz
  simp only [zsim] at hs
  split at hs
  · rename_i b9 a r
    simp only [zjump, zcb] at hs
    obtain ⟨rfl, rfl, rfl, rfl⟩ := zsome hs
    refine lv_icmp_gt hx hb hdg (ztop haim) (fun q => ?_) (fun q => ?_)
    · have k9 := k H locs cells slots ls hR hS hL hc hz
      simpa [q] using k9
    · have k9 := k H locs cells slots ls hR hS hL hc hz
      simpa [q] using k9
  · simp at hs
theorem zs_icmp_le (hCx : zCx sL sx b n0 D aC p R s m args meth c y d) {off : Int} (hh : zHere y pc len (.if_icmp .le off)) (hs : zsim sL sx y (.if_icmp .le off) len pc L S h = some ((pc', L', S'), h'))
    (k : zG n0 ext D aC p l e R s m args below meth c y F1 F2 M1 M2 Q pc' L' S' h') : zG n0 ext D aC p l e R s m args below meth c y F1 F2 M1 M2 Q pc L S h := by
  obtain ⟨⟨hx, hb, hr, hml, hown⟩, hw, -⟩ := id hCx
  obtain ⟨hdg, haim, hlen⟩ := hh
  obtain rfl : len = 3 := zlen_of hlen
  intro H locs cells slots ls hR hS hL hc hz
  simp only [zsim] at hs
  split at hs
  · rename_i b9 a r
    simp only [zjump, zcb] at hs
    obtain ⟨rfl, rfl, rfl, rfl⟩ := zsome hs
    refine lv_icmp_le hx hb hdg (ztop haim) (fun q => ?_) (fun q => ?_)
    · have k9 := k H locs cells slots ls hR hS hL hc hz
      simpa [q] using k9
    · have k9 := k H locs cells slots ls hR hS hL hc hz
      simpa [q] using k9
  · simp at hs
theorem zs_acmp_eq (hCx : zCx sL sx b n0 D aC p R s m args meth c y d) {off : Int} (hh : zHere y pc len (.if_acmp .eq off)) (hs : zsim sL sx y (.if_acmp .eq off) len pc L S h = some ((pc', L', S'), h'))
    (k : zG n0 ext D aC p l e R s m args below meth c y F1 F2 M1 M2 Q pc' L' S' h') : zG n0 ext D aC p l e R s m args below meth c y F1 F2 M1 M2 Q pc L S h := by
  obtain ⟨⟨hx, hb, hr, hml, hown⟩, hw, -⟩ := id hCx
  obtain ⟨hdg, haim, hlen⟩ := hh
  obtain rfl : len = 3 := zlen_of hlen
  intro H locs cells slots ls hR hS hL hc hz
  simp only [zsim] at hs
  cases S with
  | nil => simp at hs
  | cons b9 r =>
    cases r with
    | nil => simp at hs
    | cons a9 r =>
      have key : ∀ (rx ry : Option Nat) (q : Bool), zv n0 ext a9 = va_rf rx → zv n0 ext b9 = va_rf ry → zreq a9 b9 = some q → (q = true ↔ rx = ry) → W p l e R s m args below meth c H locs cells slots Q (F0 m pc ls ((b9 :: a9 :: r).map (zv n0 ext))) := by
        intro rx ry q h1 h2 h3 h4
        simp only [h3, zjump] at hs
        obtain ⟨rfl, rfl, rfl, rfl⟩ := zsome hs
        have k9 := k H locs cells slots ls hR hS hL hc hz
        simp only [List.map_cons, h1, h2]
        refine lv_acmp_eq hx hb hdg (ztop haim) (fun z => ?_) (fun z => ?_)
        · have hq := h4.mpr z
          simpa [hq] using k9
        · have hq := (show q = false by cases q; rfl; exact absurd (h4.mp rfl) z)
          simpa [hq] using k9
      cases a9 <;> cases b9 <;> first
        | (simp [zreq] at hs; done)
        | exact key (some _) (some _) _ rfl rfl rfl (by simp)
        | exact key none none _ rfl rfl rfl (by simp)
        | exact key (some _) none _ rfl rfl rfl (by simp)
        | exact key none (some _) _ rfl rfl rfl (by simp)
theorem zs_acmp_ne (hCx : zCx sL sx b n0 D aC p R s m args meth c y d) {off : Int} (hh : zHere y pc len (.if_acmp .ne off)) (hs : zsim sL sx y (.if_acmp .ne off) len pc L S h = some ((pc', L', S'), h'))
    (k : zG n0 ext D aC p l e R s m args below meth c y F1 F2 M1 M2 Q pc' L' S' h') : zG n0 ext D aC p l e R s m args below meth c y F1 F2 M1 M2 Q pc L S h := by
  obtain ⟨⟨hx, hb, hr, hml, hown⟩, hw, -⟩ := id hCx
  obtain ⟨hdg, haim, hlen⟩ := hh
  obtain rfl : len = 3 := zlen_of hlen
  intro H locs cells slots ls hR hS hL hc hz
  simp only [zsim] at hs
  cases S with
  | nil => simp at hs
  | cons b9 r =>
    cases r with
    | nil => simp at hs
    | cons a9 r =>
      have key : ∀ (rx ry : Option Nat) (q : Bool), zv n0 ext a9 = va_rf rx → zv n0 ext b9 = va_rf ry → zreq a9 b9 = some q → (q = true ↔ rx = ry) → W p l e R s m args below meth c H locs cells slots Q (F0 m pc ls ((b9 :: a9 :: r).map (zv n0 ext))) := by
        intro rx ry q h1 h2 h3 h4
        simp only [h3, zjump] at hs
        obtain ⟨rfl, rfl, rfl, rfl⟩ := zsome hs
        have k9 := k H locs cells slots ls hR hS hL hc hz
        simp only [List.map_cons, h1, h2]
        refine lv_acmp_ne hx hb hdg (ztop haim) (fun z => ?_) (fun z => ?_)
        · have hq := (show q = false by cases q; rfl; exact absurd (h4.mp rfl) z)
          simpa [hq] using k9
        · have hq := h4.mpr z
          simpa [hq] using k9
      cases a9 <;> cases b9 <;> first
        | (simp [zreq] at hs; done)
        | exact key (some _) (some _) _ rfl rfl rfl (by simp)
        | exact key none none _ rfl rfl rfl (by simp)
        | exact key (some _) none _ rfl rfl rfl (by simp)
        | exact key none (some _) _ rfl rfl rfl (by simp)
theorem zs_ifnull (hCx : zCx sL sx b n0 D aC p R s m args meth c y d) {off : Int} (hh : zHere y pc len (.ifnull off)) (hs : zsim sL sx y (.ifnull off) len pc L S h = some ((pc', L', S'), h'))
    (k : zG n0 ext D aC p l e R s m args below meth c y F1 F2 M1 M2 Q pc' L' S' h') : zG n0 ext D aC p l e R s m args below meth c y F1 F2 M1 M2 Q pc L S h := by
  obtain ⟨⟨hx, hb, hr, hml, hown⟩, hw, -⟩ := id hCx
  obtain ⟨hdg, haim, hlen⟩ := hh
  obtain rfl : len = 3 := zlen_of hlen
  intro H locs cells slots ls hR hS hL hc hz
  simp only [zsim] at hs
  cases S with
  | nil => simp at hs
  | cons a9 r =>
    cases a9 with
    | ref a =>
      simp only [znul, zjump, cond_true, cond_false, Bool.not_false, Bool.not_true] at hs
      obtain ⟨rfl, rfl, rfl, rfl⟩ := zsome hs
      exact lv_ifnull hx hb hdg (k H locs cells slots ls hR hS hL hc hz)
    | null =>
      simp only [znul, zjump, cond_true, cond_false, Bool.not_false, Bool.not_true] at hs
      obtain ⟨rfl, rfl, rfl, rfl⟩ := zsome hs
      exact lv_ifnullN hx hb hdg (ztop haim) (k H locs cells slots ls hR hS hL hc hz)
    | _ => simp [znul] at hs
theorem zs_ifnonnull (hCx : zCx sL sx b n0 D aC p R s m args meth c y d) {off : Int} (hh : zHere y pc len (.ifnonnull off)) (hs : zsim sL sx y (.ifnonnull off) len pc L S h = some ((pc', L', S'), h'))
    (k : zG n0 ext D aC p l e R s m args below meth c y F1 F2 M1 M2 Q pc' L' S' h') : zG n0 ext D aC p l e R s m args below meth c y F1 F2 M1 M2 Q pc L S h := by
  obtain ⟨⟨hx, hb, hr, hml, hown⟩, hw, -⟩ := id hCx
  obtain ⟨hdg, haim, hlen⟩ := hh
  obtain rfl : len = 3 := zlen_of hlen
  intro H locs cells slots ls hR hS hL hc hz
  simp only [zsim] at hs
  cases S with
  | nil => simp at hs
  | cons a9 r =>
    cases a9 with
    | ref a =>
      simp only [znul, zjump, cond_true, cond_false, Bool.not_false, Bool.not_true] at hs
      obtain ⟨rfl, rfl, rfl, rfl⟩ := zsome hs
      exact lv_ifnonnull hx hb hdg (ztop haim) (k H locs cells slots ls hR hS hL hc hz)
    | null =>
      simp only [znul, zjump, cond_true, cond_false, Bool.not_false, Bool.not_true] at hs
      obtain ⟨rfl, rfl, rfl, rfl⟩ := zsome hs
      exact lv_ifnonnullN hx hb hdg (k H locs cells slots ls hR hS hL hc hz)
    | _ => simp [znul] at hs
end ZS
end
section
section ZP
variable {sL : Nat} {sx : Nat → Int32} {b n0 : Nat} {ext : Nat → Nat} {D : va_G} {aC : Nat → ClassId} {p : Program} {l : Launch} {e : Env} {R : Room} {s : State} {m : MethodId} {args : Array Value} {below : List Frame} {meth : Method} {c : Code} {y d F1 F2 M1 M2 : Nat} {Q : State → Prop}
variable {len pc pc' : Nat} {L L' S S' : List Value} {h h' : zH}
/-- a word of the pool's entry that is good -/
theorem zword (hw : ∀ w ∈ lw_tbl, goodWord w = true → w.before args s = true) {i : Nat} {r : Nat × Nat × Nat} (hp : zpool y i = some r) {w : Cond} (hin : w ∈ zws (zcls y) (i, r)) (hX : zisX w = false) : w.before args s = true := by
  obtain ⟨h1, h2⟩ := (zpool_ok hp).2 w hin
  rw [hX, Bool.or_false] at h2
  exact hw w h1 h2
theorem zs_getfield (hCx : zCx sL sx b n0 D aC p R s m args meth c y d) {i : Nat} (hh : zHere y pc len (.getfield i)) (hs : zsim sL sx y (.getfield i) len pc L S h = some ((pc', L', S'), h'))
    (k : zG n0 ext D aC p l e R s m args below meth c y F1 F2 M1 M2 Q pc' L' S' h') : zG n0 ext D aC p l e R s m args below meth c y F1 F2 M1 M2 Q pc L S h := by
  obtain ⟨⟨hx, hb, hr, hml, hown⟩, hw, -, -, -, -, hK, -⟩ := id hCx
  obtain ⟨hdg, haim, hlen⟩ := hh
  obtain rfl : len = 3 := zlen_of hlen
  intro H locs cells slots ls hR hS hL hc hz
  simp only [zsim] at hs
  split at hs
  · rename_i ci k9 hp
    obtain ⟨h1, -⟩ := zpool_ok hp
    simp only [zpk, Bool.and_eq_true] at h1
    have hci : ci < 4 := Nat.le_of_ble_eq_true h1.1.1
    have hk : k9 < znf ci := Nat.le_of_ble_eq_true h1.1.2
    have hl := zword hw hp (w := .fieldLink (zcn (zcls y)) i (zfd ci k9).1 (zfd ci k9).2.1 (zfd ci k9).2.2.1) (by simp [zws]) rfl
    split at hs
    · rename_i a r
      cases ha : h[a]? with
      | none => simp [ha] at hs
      | some q =>
        simp only [ha] at hs
        cases hb9 : Nat.beq q.1 (10 + ci) with
        | false => simp [hb9] at hs
        | true =>
          simp only [hb9, cond_true] at hs
          cases hv : q.2[k9]? with
          | none => simp [hv] at hs
          | some v =>
            simp only [hv, zpush] at hs
            obtain ⟨rfl, rfl, rfl, rfl⟩ := zsome hs
            obtain ⟨cell, -, -, hok, -⟩ := hR.2 a q ha
            have k8 := k H locs cells slots ls hR hS hL hc hz
            simp only [List.map_cons, zv_ok (hok v (List.mem_of_getElem? hv))] at k8
            exact zi_get hx hb hown hw hK hR hci hk hl ha (Nat.eq_of_beq_eq_true hb9) hv hdg k8
    · simp at hs
  · simp at hs
theorem zs_putfield (hCx : zCx sL sx b n0 D aC p R s m args meth c y d) {i : Nat} (hh : zHere y pc len (.putfield i)) (hs : zsim sL sx y (.putfield i) len pc L S h = some ((pc', L', S'), h'))
    (k : zG n0 ext D aC p l e R s m args below meth c y F1 F2 M1 M2 Q pc' L' S' h') : zG n0 ext D aC p l e R s m args below meth c y F1 F2 M1 M2 Q pc L S h := by
  obtain ⟨⟨hx, hb, hr, hml, hown⟩, hw, -, -, hname, -, hK, -⟩ := id hCx
  obtain ⟨hdg, haim, hlen⟩ := hh
  obtain rfl : len = 3 := zlen_of hlen
  intro H locs cells slots ls hR hS hL hc hz
  simp only [zsim] at hs
  split at hs
  · rename_i ci k9 hp
    obtain ⟨h1, -⟩ := zpool_ok hp
    simp only [zpk, Bool.and_eq_true, decide_eq_true_eq] at h1
    have hci : ci < 4 := Nat.le_of_ble_eq_true h1.1.1
    have hk : k9 < znf ci := Nat.le_of_ble_eq_true h1.1.2
    have hl := zword hw hp (w := .fieldLink (zcn (zcls y)) i (zfd ci k9).1 (zfd ci k9).2.1 (zfd ci k9).2.2.1) (by simp [zws]) rfl
    split at hs
    · rename_i v a r
      cases ha : h[a]? with
      | none => simp [ha] at hs
      | some q =>
        simp only [ha] at hs
        cases hb9 : (Nat.beq q.1 (10 + ci) && zfits (zty ci k9) v && Nat.blt k9 q.2.length && (!(zfd ci k9).2.2.2 || (Nat.beq (zcls y) ci && decide ((zname y).name = "<init>")))) with
        | false => simp [hb9] at hs
        | true =>
          simp only [hb9, cond_true] at hs
          obtain ⟨rfl, rfl, rfl, rfl⟩ := zsome hs
          simp only [Bool.and_eq_true, Bool.or_eq_true, Bool.not_eq_true', decide_eq_true_eq] at hb9
          obtain ⟨⟨⟨g1, g2⟩, g3⟩, g4⟩ := hb9
          have hlt : k9 < q.2.length := Nat.le_of_ble_eq_true g3
          have hzs : zsl (h.set a (q.1, q.2.set k9 v)) = zsl h := zsl_set ha (by simp)
          show W p l e R s m args below meth c H locs cells slots Q (F0 m pc ls (zv n0 ext v :: .ref (n0 + a) :: r.map (zv n0 ext)))
          rw [zv_ok (zv_fits (n0 := n0) g2).1]
          refine zi_put hx hb hown hw hK hR hS hname hci hk hl ha (Nat.eq_of_beq_eq_true g1) hlt g2 (fun hF => ?_) hdg (fun H1 locs1 hR1 hS1 => k H1 locs1 cells slots ls hR1 hS1 hL (by simpa using hc) (by rw [hzs]; exact hz))
          rcases g4 with g4 | g4
          · rw [g4] at hF; cases hF
          · exact ⟨Nat.eq_of_beq_eq_true g4.1, g4.2, h1.2⟩
    · simp at hs
  · simp at hs
theorem zaty_arr (hK : zK D aC s) {t : Nat} (ht : t < 4) {q : Nat × List Value} {cell : Cell} (hc : zcel D aC n0 q cell) (hq : q.1 = t) : s.isArrayOf cell (zaty t) ∧ cell.vm ≠ .unknown ∧ cell.slots = (q.2.map (zw n0)).toArray := by
  obtain ⟨h1, -, h3, -⟩ := hc
  obtain ⟨h4, h5⟩ := h3 (by omega)
  obtain ⟨-, kk, comp, h6, h7, -⟩ := hK.2.1 t ht
  refine ⟨⟨fun k hk => (by rw [h1] at hk; cases hk), kk, by rw [h4, hq]; exact h6, comp, h7⟩, fun hk => (by rw [h1] at hk; cases hk), h5⟩
/-- a place of a row -/
theorem zs_read (hCx : zCx sL sx b n0 D aC p R s m args meth c y d) {t : Nat} (ht : t < 4) {ins : Instr} (hdg : decode (zbyt y) pc = .ok (ins, 1))
    (row : ∀ {H : Heap} {locs : List Loc} {cells slots : Nat} {ls : Array Slot} {rest : List Value} {a : Addr} {cell : Cell} {j : Int32} {v : Value}, H[a]? = some cell → s.isArrayOf cell (zaty t) → cell.vm ≠ .unknown → ¬ (j < 0 ∨ cell.slots.size ≤ j.toNatClampNeg) → cell.slots[j.toNatClampNeg]? = some v →
      W p l e R s m args below meth c H locs cells slots Q (F0 m (pc + 1) ls (v :: rest)) → W p l e R s m args below meth c H locs cells slots Q (F0 m pc ls (.int j :: .ref a :: rest)))
    (hs : zrd (pc + 1) L S h t = some ((pc', L', S'), h'))
    (k : zG n0 ext D aC p l e R s m args below meth c y F1 F2 M1 M2 Q pc' L' S' h') : zG n0 ext D aC p l e R s m args below meth c y F1 F2 M1 M2 Q pc L S h := by
  obtain ⟨⟨hx, hb, hr, hml, hown⟩, hw, -, -, -, -, hK, -⟩ := id hCx
  intro H locs cells slots ls hR hS hL hc hz
  simp only [zrd] at hs
  split at hs
  · rename_i i a r
    cases ha : h[a]? with
    | none => simp [ha] at hs
    | some q =>
      simp only [ha] at hs
      cases hb9 : Nat.beq q.1 t with
      | false => simp [hb9] at hs
      | true =>
        simp only [hb9, cond_true] at hs
        by_cases hi : i < 0
        · simp [hi] at hs
        · rw [if_neg hi] at hs
          cases hv : q.2[i.toNatClampNeg]? with
          | none => simp [hv] at hs
          | some v =>
            simp only [hv, zpush] at hs
            obtain ⟨rfl, rfl, rfl, rfl⟩ := zsome hs
            obtain ⟨cell, hcell, hcel⟩ := hR.2 a q ha
            obtain ⟨g1, g2, g3⟩ := zaty_arr hK ht hcel (Nat.eq_of_beq_eq_true hb9)
            have hlt : i.toNatClampNeg < q.2.length := (List.getElem?_eq_some_iff.mp hv).1
            have k8 := k H locs cells slots ls hR hS hL hc hz
            simp only [List.map_cons, zv_ok (hcel.2.1 v (List.mem_of_getElem? hv))] at k8
            exact row hcell g1 g2 (fun q9 => q9.elim hi (fun q9 => by rw [g3] at q9; simp at q9; omega)) (by rw [g3]; simp [hv]) k8
  · simp at hs
theorem zs_iaload (hCx : zCx sL sx b n0 D aC p R s m args meth c y d) (hext : ext 1 = b) (hh : zHere y pc len (.iaload)) (hs : zsim sL sx y (.iaload) len pc L S h = some ((pc', L', S'), h'))
    (k : zG n0 ext D aC p l e R s m args below meth c y F1 F2 M1 M2 Q pc' L' S' h') : zG n0 ext D aC p l e R s m args below meth c y F1 F2 M1 M2 Q pc L S h := by
  obtain ⟨⟨hx, hb, hr, hml, hown⟩, hw, -, -, -, -, hK, -, ⟨hX, hbn⟩, hn0⟩ := id hCx
  obtain ⟨hdg, haim, hlen⟩ := hh
  obtain rfl : len = 1 := zlen_of hlen
  simp only [zsim] at hs
  split at hs
  · rename_i i r
    by_cases hi : i < 0
    · simp [hi] at hs
    · rw [if_neg hi] at hs
      by_cases hlt : i.toNatClampNeg < sL
      · rw [if_pos hlt] at hs
        simp only [zpush] at hs
        obtain ⟨rfl, rfl, rfl, rfl⟩ := zsome hs
        intro H locs cells slots ls hR hS hL hc hz
        show W p l e R s m args below meth c H locs cells slots Q (F0 m pc ls (.int i :: .ref (ext 1) :: r.map (zv n0 ext)))
        rw [hext]
        exact va_sld hx hb hX (Nat.lt_of_lt_of_le hbn hn0) (Nat.not_le.mpr hbn) hS (fun q => q.elim hi (fun q => by omega)) hdg (k H locs cells slots ls hR hS hL hc hz)
      · rw [if_neg hlt] at hs; simp at hs
  · exact zs_read hCx (t := 0) (by omega) hdg (fun h1 h2 h3 h4 h5 kk => W.iald hx hb h1 h2 h3 h4 h5 rfl rfl hdg kk) hs k
theorem zs_laload (hCx : zCx sL sx b n0 D aC p R s m args meth c y d) (hh : zHere y pc len (.laload)) (hs : zsim sL sx y (.laload) len pc L S h = some ((pc', L', S'), h'))
    (k : zG n0 ext D aC p l e R s m args below meth c y F1 F2 M1 M2 Q pc' L' S' h') : zG n0 ext D aC p l e R s m args below meth c y F1 F2 M1 M2 Q pc L S h := by
  obtain ⟨⟨hx, hb, hr, hml, hown⟩, hw, -⟩ := id hCx
  obtain ⟨hdg, haim, hlen⟩ := hh
  obtain rfl : len = 1 := zlen_of hlen
  simp only [zsim] at hs
  exact zs_read hCx (t := 1) (by omega) hdg (fun h1 h2 h3 h4 h5 kk => W.lald hx hb h1 h2 h3 h4 h5 rfl rfl hdg kk) hs k
theorem zs_baload (hCx : zCx sL sx b n0 D aC p R s m args meth c y d) (hh : zHere y pc len (.baload)) (hs : zsim sL sx y (.baload) len pc L S h = some ((pc', L', S'), h'))
    (k : zG n0 ext D aC p l e R s m args below meth c y F1 F2 M1 M2 Q pc' L' S' h') : zG n0 ext D aC p l e R s m args below meth c y F1 F2 M1 M2 Q pc L S h := by
  obtain ⟨⟨hx, hb, hr, hml, hown⟩, hw, -⟩ := id hCx
  obtain ⟨hdg, haim, hlen⟩ := hh
  obtain rfl : len = 1 := zlen_of hlen
  simp only [zsim] at hs
  exact zs_read hCx (t := 2) (by omega) hdg (fun h1 h2 h3 h4 h5 kk => W.zald hx hb h1 h2 h3 h4 h5 rfl rfl hdg kk) hs k
theorem zs_aaload (hCx : zCx sL sx b n0 D aC p R s m args meth c y d) (hh : zHere y pc len (.aaload)) (hs : zsim sL sx y (.aaload) len pc L S h = some ((pc', L', S'), h'))
    (k : zG n0 ext D aC p l e R s m args below meth c y F1 F2 M1 M2 Q pc' L' S' h') : zG n0 ext D aC p l e R s m args below meth c y F1 F2 M1 M2 Q pc L S h := by
  obtain ⟨⟨hx, hb, hr, hml, hown⟩, hw, -⟩ := id hCx
  obtain ⟨hdg, haim, hlen⟩ := hh
  obtain rfl : len = 1 := zlen_of hlen
  simp only [zsim] at hs
  exact zs_read hCx (t := 3) (by omega) hdg (fun h1 h2 h3 h4 h5 kk => W.aald hx hb h1 h2 rfl h3 h4 h5 rfl rfl hdg kk) hs k
theorem zs_arraylength (hCx : zCx sL sx b n0 D aC p R s m args meth c y d) (hext : ext 1 = b) (hh : zHere y pc len (.arraylength)) (hs : zsim sL sx y (.arraylength) len pc L S h = some ((pc', L', S'), h'))
    (k : zG n0 ext D aC p l e R s m args below meth c y F1 F2 M1 M2 Q pc' L' S' h') : zG n0 ext D aC p l e R s m args below meth c y F1 F2 M1 M2 Q pc L S h := by
  obtain ⟨⟨hx, hb, hr, hml, hown⟩, hw, -, -, -, -, hK, -, ⟨hX, hbn⟩, hn0⟩ := id hCx
  obtain ⟨hdg, haim, hlen⟩ := hh
  obtain rfl : len = 1 := zlen_of hlen
  simp only [zsim] at hs
  split at hs
  · rename_i r
    simp only [zpush] at hs
    obtain ⟨rfl, rfl, rfl, rfl⟩ := zsome hs
    intro H locs cells slots ls hR hS hL hc hz
    show W p l e R s m args below meth c H locs cells slots Q (F0 m pc ls (.ref (ext 1) :: r.map (zv n0 ext)))
    rw [hext]
    exact va_slen hx hb hX (Nat.lt_of_lt_of_le hbn hn0) (Nat.not_le.mpr hbn) hS hdg (k H locs cells slots ls hR hS hL hc hz)
  · simp at hs
/-- a place of a row is written -/
theorem zs_write (hCx : zCx sL sx b n0 D aC p R s m args meth c y d) {t : Nat} (ht : t < 4) {v : Value} (hv : zok v = true) {i : Int32} {a : Nat} {r : List Value}
    (row : ∀ {H : Heap} {locs : List Loc} {cells slots : Nat} {ls : Array Slot} {cell : Cell}, H[n0 + a]? = some cell → s.isArrayOf cell (zaty t) → cell.vm ≠ .unknown → cell.vm = .none → ¬ (i < 0 ∨ cell.slots.size ≤ i.toNatClampNeg) → cell.cls = aC t → zRep D aC n0 h H →
      (∀ H' : Heap, H'[n0 + a]? = some (cell.setSlot i.toNatClampNeg (zw n0 v)) → H'.size = H.size → (∀ q, q ≠ n0 + a → H'[q]? = H[q]?) → W p l e R s m args below meth c H' (locs ++ [⟨n0 + a, i.toNatClampNeg⟩]) cells slots Q (F0 m (pc + 1) ls (r.map (zv n0 ext)))) →
      W p l e R s m args below meth c H locs cells slots Q (F0 m pc ls (zw n0 v :: .int i :: .ref (n0 + a) :: r.map (zv n0 ext))))
    (hs : zwr (pc + 1) L h t v i a r = some ((pc', L', S'), h'))
    (k : zG n0 ext D aC p l e R s m args below meth c y F1 F2 M1 M2 Q pc' L' S' h') : zG n0 ext D aC p l e R s m args below meth c y F1 F2 M1 M2 Q pc L (v :: .int i :: .ref a :: r) h := by
  obtain ⟨⟨hx, hb, hr, hml, hown⟩, hw, -, -, -, -, hK, -⟩ := id hCx
  intro H locs cells slots ls hR hS hL hc hz
  simp only [zwr] at hs
  cases ha : h[a]? with
  | none => simp [ha] at hs
  | some q =>
    simp only [ha] at hs
    cases hb9 : Nat.beq q.1 t with
    | false => simp [hb9] at hs
    | true =>
      simp only [hb9, cond_true] at hs
      by_cases hi : i < 0
      · simp [hi] at hs
      · rw [if_neg hi] at hs
        by_cases hlt : i.toNatClampNeg < q.2.length
        · rw [if_pos hlt] at hs
          obtain ⟨rfl, rfl, rfl, rfl⟩ := zsome hs
          obtain ⟨cell, hcell, hcel⟩ := hR.2 a q ha
          have hqt := Nat.eq_of_beq_eq_true hb9
          obtain ⟨g1, g2, g3⟩ := zaty_arr hK ht hcel hqt
          have g4 := hcel.2.2.1 (by omega)
          have hzs : zsl (h.set a (q.1, q.2.set i.toNatClampNeg v)) = zsl h := zsl_set ha (by simp)
          show W p l e R s m args below meth c H locs cells slots Q (F0 m pc ls (zv n0 ext v :: .int i :: .ref (n0 + a) :: r.map (zv n0 ext)))
          rw [zv_ok hv]
          refine row hcell g1 g2 hcel.1 (fun q9 => q9.elim hi (fun q9 => by rw [g3] at q9; simp at q9; omega)) (by rw [← hqt]; exact g4.1) hR (fun H' e1 e2 e3 => ?_)
          refine k H' _ cells slots ls (zRep_set hR ha e2 e3 e1 ?_) (hS.put e2 e3 (Nat.le_add_right _ _)) hL (by simpa using hc) (by rw [hzs]; exact hz)
          refine ⟨hcel.1, fun w hw' => ?_, fun _ => ⟨g4.1, ?_⟩, fun ci hci h9 => absurd h9 (by simp only; omega)⟩
          · rcases List.mem_or_eq_of_mem_set hw' with h9 | h9
            · exact hcel.2.1 w h9
            · rw [h9]; exact hv
          · simp only [Cell.setSlot, g3, List.map_set]
            simp
        · rw [if_neg hlt] at hs; simp at hs
theorem zs_iastore (hCx : zCx sL sx b n0 D aC p R s m args meth c y d) (hh : zHere y pc len (.iastore)) (hs : zsim sL sx y (.iastore) len pc L S h = some ((pc', L', S'), h'))
    (k : zG n0 ext D aC p l e R s m args below meth c y F1 F2 M1 M2 Q pc' L' S' h') : zG n0 ext D aC p l e R s m args below meth c y F1 F2 M1 M2 Q pc L S h := by
  obtain ⟨⟨hx, hb, hr, hml, hown⟩, hw, -⟩ := id hCx
  obtain ⟨hdg, haim, hlen⟩ := hh
  obtain rfl : len = 1 := zlen_of hlen
  simp only [zsim] at hs
  split at hs
  · exact zs_write hCx (t := 0) (by omega) rfl (fun h1 h2 h3 h4 h5 h6 h7 kk => W.iast hx hb h1 h2 h3 h5 rfl rfl hdg kk) hs k
  · simp at hs
theorem zs_lastore (hCx : zCx sL sx b n0 D aC p R s m args meth c y d) (hh : zHere y pc len (.lastore)) (hs : zsim sL sx y (.lastore) len pc L S h = some ((pc', L', S'), h'))
    (k : zG n0 ext D aC p l e R s m args below meth c y F1 F2 M1 M2 Q pc' L' S' h') : zG n0 ext D aC p l e R s m args below meth c y F1 F2 M1 M2 Q pc L S h := by
  obtain ⟨⟨hx, hb, hr, hml, hown⟩, hw, -⟩ := id hCx
  obtain ⟨hdg, haim, hlen⟩ := hh
  obtain rfl : len = 1 := zlen_of hlen
  simp only [zsim] at hs
  split at hs
  · exact zs_write hCx (t := 1) (by omega) rfl (fun h1 h2 h3 h4 h5 h6 h7 kk => W.last hx hb h1 h2 h3 h5 rfl rfl hdg kk) hs k
  · simp at hs
theorem zs_bastore (hCx : zCx sL sx b n0 D aC p R s m args meth c y d) (hh : zHere y pc len (.bastore)) (hs : zsim sL sx y (.bastore) len pc L S h = some ((pc', L', S'), h'))
    (k : zG n0 ext D aC p l e R s m args below meth c y F1 F2 M1 M2 Q pc' L' S' h') : zG n0 ext D aC p l e R s m args below meth c y F1 F2 M1 M2 Q pc L S h := by
  obtain ⟨⟨hx, hb, hr, hml, hown⟩, hw, -⟩ := id hCx
  obtain ⟨hdg, haim, hlen⟩ := hh
  obtain rfl : len = 1 := zlen_of hlen
  simp only [zsim] at hs
  split at hs
  · rename_i v i a r
    by_cases hv : v = 0 ∨ v = 1
    · rw [if_pos hv] at hs
      have hn : narrow .boolean (.int v) = .int v := by rcases hv with rfl | rfl <;> rfl
      exact zs_write hCx (t := 2) (by omega) rfl (fun h1 h2 h3 h4 h5 h6 h7 kk => W.zast hx hb h1 h2 h3 h5 rfl rfl hdg (by rw [hn]; exact kk)) hs k
    · rw [if_neg hv] at hs; simp at hs
  · simp at hs
theorem zs_aastore (hCx : zCx sL sx b n0 D aC p R s m args meth c y d) (hh : zHere y pc len (.aastore)) (hs : zsim sL sx y (.aastore) len pc L S h = some ((pc', L', S'), h'))
    (k : zG n0 ext D aC p l e R s m args below meth c y F1 F2 M1 M2 Q pc' L' S' h') : zG n0 ext D aC p l e R s m args below meth c y F1 F2 M1 M2 Q pc L S h := by
  obtain ⟨⟨hx, hb, hr, hml, hown⟩, hw, -, -, -, -, hK, -⟩ := id hCx
  obtain ⟨hdg, haim, hlen⟩ := hh
  obtain rfl : len = 1 := zlen_of hlen
  simp only [zsim] at hs
  split at hs
  · rename_i v i a r
    cases hq : h[v]? with
    | none => simp [hq] at hs
    | some q =>
      simp only [hq] at hs
      cases hb9 : Nat.beq q.1 11 with
      | false => simp [hb9] at hs
      | true =>
        simp only [hb9, cond_true] at hs
        refine zs_write hCx (t := 3) (by omega) (v := .ref v) rfl (fun h1 h2 h3 h4 h5 h6 h7 kk => ?_) hs k
        obtain ⟨-, kA, comp, a1, a2, a3⟩ := hK.2.1 3 (by omega)
        have hcomp := a3 rfl
        subst hcomp
        obtain ⟨-, hfc, kC, hkC, hkind⟩ := hK.1 1 (by omega)
        obtain ⟨cv, hcv, hcel⟩ := h7.2 v q hq
        obtain ⟨c1, c2⟩ := hcel.2.2.2 1 (by omega) (Nat.eq_of_beq_eq_true hb9)
        exact W.aast hx hb h1 (fun q9 h9 => by rw [h4] at h9; cases h9) h3 (by rw [h6]; exact a1) a2 rfl hkC ⟨fun q9 => h5 (Or.inl q9), Nat.not_le.mp (fun q9 => h5 (Or.inr q9))⟩ hcv (fun q9 h9 => by rw [hcel.1] at h9; cases h9) (by rw [c1]; exact hkC) (by rw [c1]; exact va_assign ⟨hfc, kC, hkC, hkind⟩) rfl rfl hdg kk
  · simp at hs
theorem zs_tableswitch (hCx : zCx sL sx b n0 D aC p R s m args meth c y d) {df lo hi : Int} {offs : Array Int} (hh : zHere y pc len (.tableswitch df lo hi offs)) (hs : zsim sL sx y (.tableswitch df lo hi offs) len pc L S h = some ((pc', L', S'), h'))
    (k : zG n0 ext D aC p l e R s m args below meth c y F1 F2 M1 M2 Q pc' L' S' h') : zG n0 ext D aC p l e R s m args below meth c y F1 F2 M1 M2 Q pc L S h := by
  obtain ⟨⟨hx, hb, hr, hml, hown⟩, hw, -⟩ := id hCx
  obtain ⟨hdg, haim, hlen⟩ := hh
  simp only [zaim, Bool.and_eq_true] at haim
  simp only [zsim] at hs
  split at hs
  · rename_i v r
    simp only [zsw] at hs
    intro H locs cells slots ls hR hS hL hc hz
    by_cases hv : v.toInt < lo ∨ hi < v.toInt
    · simp only [if_pos hv] at hs
      obtain ⟨rfl, rfl, rfl, rfl⟩ := zsome hs
      exact lv_tableOut hx hb hdg hv (ztop haim.1) (k H locs cells slots ls hR hS hL hc hz)
    · simp only [if_neg hv] at hs
      cases ho : offs[(v.toInt - lo).toNat]? with
      | none => simp [ho] at hs
      | some off =>
        simp only [ho, Option.map_some] at hs
        obtain ⟨rfl, rfl, rfl, rfl⟩ := zsome hs
        have h0 := List.all_eq_true.mp haim.2 off (by rw [← Array.getElem?_toList] at ho; exact List.mem_of_getElem? ho)
        exact lv_tableIn hx hb hdg (fun q => hv (Or.inl q)) (fun q => hv (Or.inr q)) ho (ztop h0) (k H locs cells slots ls hR hS hL hc hz)
  · simp at hs
end ZP
end
section
section ZA
variable {sL : Nat} {sx : Nat → Int32} {b n0 : Nat} {ext : Nat → Nat} {D : va_G} {aC : Nat → ClassId} {p : Program} {l : Launch} {e : Env} {R : Room} {s : State} {m : MethodId} {args : Array Value} {below : List Frame} {meth : Method} {c : Code} {y d F1 F2 M1 M2 : Nat} {Q : State → Prop}
variable {len pc pc' : Nat} {L L' S S' : List Value} {h h' : zH}
theorem zdv (n0 : Nat) (t : FieldType) : zw n0 (defaultValue t) = defaultValue t ∧ zok (defaultValue t) = true := by cases t <;> exact ⟨rfl, rfl⟩
theorem zdefs_len (ci : Nat) : (zdefs ci).length = znf ci := by simp [zdefs]
theorem zsl_one (q : Nat × List Value) : zsl [q] = bif Nat.ble 100 q.1 then 6 else q.2.length := by simp [zsl]
theorem zs_new (hCx : zCx sL sx b n0 D aC p R s m args meth c y d) (hM1 : M1 ≤ R.cells) (hM2 : M2 ≤ R.slots) {i : Nat} (hh : zHere y pc len (.new i)) (hs : zsim sL sx y (.new i) len pc L S h = some ((pc', L', S'), h')) (hF1 : h'.length ≤ F1) (hF2 : zsl h' ≤ F2)
    (k : zG n0 ext D aC p l e R s m args below meth c y F1 F2 M1 M2 Q pc' L' S' h') : zG n0 ext D aC p l e R s m args below meth c y F1 F2 M1 M2 Q pc L S h := by
  obtain ⟨⟨hx, hb, hr, hml, hown⟩, hw, -, -, -, -, hK, -⟩ := id hCx
  obtain ⟨hdg, haim, hlen⟩ := hh
  obtain rfl : len = 3 := zlen_of hlen
  intro H locs cells slots ls hR hS hL hc hz
  simp only [zsim] at hs
  split at hs
  · rename_i ci k9 hp
    cases hb9 : Nat.blt ci 4 with
    | false => simp [hb9] at hs
    | true =>
      simp only [hb9, cond_true] at hs
      obtain ⟨rfl, rfl, rfl, rfl⟩ := zsome hs
      have hci : ci < 4 := Nat.le_of_ble_eq_true hb9
      have w1 := zword hw hp (w := .classLink (zcn (zcls y)) i (zcn ci)) (by simp [zws, hb9]) rfl
      have w2 := zword hw hp (w := .instantiable (zcn ci) (znf ci)) (by simp [zws, hb9]) rfl
      have w3 := zword hw hp (w := .initialized (zcn ci)) (by simp [zws, hb9]) rfl
      obtain ⟨hSl, hfc, -⟩ := hK.1 ci hci
      have hz1 : zsl (h ++ [(10 + ci, zdefs ci)]) = zsl h + znf ci := by
        rw [zsl_app, zsl_one]
        have : Nat.ble 100 (10 + ci) = false := by
          cases hq : Nat.ble 100 (10 + ci)
          · rfl
          · have := Nat.le_of_ble_eq_true hq; omega
        rw [this, cond_false, zdefs_len]
      have hl1 : (h ++ [(10 + ci, zdefs ci)]).length = h.length + 1 := by simp
      rw [hz1] at hF2
      rw [hl1] at hF1
      refine W.newcK hx hb hown w1 w2 w3 rfl hdg (by omega) (by omega) hfc rfl (fun H' kC hkC e1 e2 e3 => ?_)
      have k9 := k H' locs (cells + 1) (slots + znf ci) ls (zRep_push hR e2 e3 e1 ?_) ⟨by have := hS.1; omega, fun q h1 h2 => by rw [e3 q (Nat.lt_of_lt_of_le h1 hS.1)]; exact hS.2.1 q h1 h2, hS.2.2⟩ hL (by rw [hl1]; omega) (by rw [hz1]; omega)
      · rw [hR.1]; exact k9
      · refine ⟨rfl, fun v hv => ?_, fun q => absurd q (by simp only; omega), fun cj hcj hq => ?_⟩
        · obtain ⟨j, -, rfl⟩ := List.mem_map.mp hv
          exact (zdv n0 _).2
        · have hcc : cj = ci := by simp only at hq; omega
          subst hcc
          refine ⟨rfl, fun j hj => ⟨defaultValue (zty cj j), by simp [zdefs, hj], ?_⟩⟩
          obtain ⟨cf, kf, fi, fd, hi, he⟩ := hSl j hj
          have h3 := (u_facts hfc hkC (u_lays (zgood hw) (zlay_ok cj hcj) hj) hi).2.2
          rw [(State.fieldFound?_type hi (zty_ok cj hcj j hj)).2] at h3
          rw [← he, (zdv n0 _).1]
          exact k2_blank h3
  · simp at hs
theorem zs_newarray (hCx : zCx sL sx b n0 D aC p R s m args meth c y d) (hM1 : M1 ≤ R.cells) (hM2 : M2 ≤ R.slots) {t : ArrayType} (hh : zHere y pc len (.newarray t)) (hs : zsim sL sx y (.newarray t) len pc L S h = some ((pc', L', S'), h')) (hF1 : h'.length ≤ F1) (hF2 : zsl h' ≤ F2)
    (k : zG n0 ext D aC p l e R s m args below meth c y F1 F2 M1 M2 Q pc' L' S' h') : zG n0 ext D aC p l e R s m args below meth c y F1 F2 M1 M2 Q pc L S h := by
  obtain ⟨⟨hx, hb, hr, hml, hown⟩, hw, -, -, -, -, hK, -⟩ := id hCx
  obtain ⟨hdg, haim, hlen⟩ := hh
  obtain rfl : len = 2 := zlen_of hlen
  intro H locs cells slots ls hR hS hL hc hz
  simp only [zsim] at hs
  have hkd : ∀ tg, zkind t = some tg → tg < 4 ∧ zaty tg = newarray.typeOf t ∧ Cond.arrayClass (newarray.typeOf t) ∈ lw_tbl ∧ componentBytes (newarray.typeOf t) ≤ 8 := by
    intro tg htg
    cases t <;> simp only [zkind, Option.some.injEq, reduceCtorEq] at htg <;> subst htg
    · exact ⟨by omega, rfl, zar_ok.2, by decide⟩
    · exact ⟨by omega, rfl, zar_ok.1.1, by decide⟩
    · exact ⟨by omega, rfl, zar_ok.1.2, by decide⟩
  cases hkk : zkind t with
  | none => simp [hkk] at hs
  | some tg =>
    obtain ⟨ht4, hty, hword, hcb⟩ := hkd tg hkk
    simp only [hkk] at hs
    split at hs
    · rename_i n r
      by_cases hn : n < 0
      · simp [hn] at hs
      · rw [if_neg hn] at hs
        by_cases hn2 : n.toNatClampNeg ≤ 1000
        · rw [if_pos hn2] at hs
          obtain ⟨rfl, rfl, rfl, rfl⟩ := zsome hs
          have hz1 : zsl (h ++ [(tg, List.replicate n.toNatClampNeg (defaultValue (newarray.typeOf t)))]) = zsl h + n.toNatClampNeg := by
            rw [zsl_app, zsl_one]
            have : Nat.ble 100 tg = false := by
              cases hq : Nat.ble 100 tg
              · rfl
              · have := Nat.le_of_ble_eq_true hq; omega
            rw [this, cond_false, List.length_replicate]
          have hl1 : (h ++ [(tg, List.replicate n.toNatClampNeg (defaultValue (newarray.typeOf t)))]).length = h.length + 1 := by simp
          rw [hz1] at hF2
          rw [hl1] at hF1
          have hbytes : n.toNatClampNeg * componentBytes (newarray.typeOf t) ≤ 536870912 := Nat.le_trans (Nat.mul_le_mul hn2 hcb) (by decide)
          refine va_newaK hx hb (hw _ hword rfl) rfl hdg rfl hn rfl hbytes (by omega) (by omega) rfl (fun H' cA e1 e2 e3 hAr hfc => ?_)
          have hcA : cA = aC tg := by
            have := (hK.2.1 tg ht4).1
            rw [hty] at this
            exact Option.some.inj (hfc.symm.trans this)
          have k9 := k H' locs (cells + 1) (slots + n.toNatClampNeg) ls (zRep_push hR e2 e3 e1 ?_) ⟨by have := hS.1; omega, fun q h1 h2 => by rw [e3 q (Nat.lt_of_lt_of_le h1 hS.1)]; exact hS.2.1 q h1 h2, hS.2.2⟩ hL (by rw [hl1]; omega) (by rw [hz1]; omega)
          · rw [hR.1]; exact k9
          · rw [← arrV_new, hcA]
            refine ⟨rfl, fun v hv => ?_, fun _ => ⟨rfl, ?_⟩, fun cj hcj hq => absurd hq (by simp only; omega)⟩
            · rw [List.eq_of_mem_replicate hv]; exact (zdv n0 _).2
            · simp [(zdv n0 (newarray.typeOf t)).1]
        · rw [if_neg hn2] at hs; simp at hs
    · simp at hs
theorem zs_anewarray (hCx : zCx sL sx b n0 D aC p R s m args meth c y d) (hM1 : M1 ≤ R.cells) (hM2 : M2 ≤ R.slots) {i : Nat} (hh : zHere y pc len (.anewarray i)) (hs : zsim sL sx y (.anewarray i) len pc L S h = some ((pc', L', S'), h')) (hF1 : h'.length ≤ F1) (hF2 : zsl h' ≤ F2)
    (k : zG n0 ext D aC p l e R s m args below meth c y F1 F2 M1 M2 Q pc' L' S' h') : zG n0 ext D aC p l e R s m args below meth c y F1 F2 M1 M2 Q pc L S h := by
  obtain ⟨⟨hx, hb, hr, hml, hown⟩, hw, -, -, -, -, hK, -⟩ := id hCx
  obtain ⟨hdg, haim, hlen⟩ := hh
  obtain rfl : len = 3 := zlen_of hlen
  intro H locs cells slots ls hR hS hL hc hz
  simp only [zsim] at hs
  split at hs
  · rename_i k9 hp
    have w1 := zword hw hp (w := .classLink (zcn (zcls y)) i (zcn 1)) (by simp [zws, show Nat.blt 1 4 = true from rfl]) rfl
    split at hs
    · rename_i n r
      by_cases hn : n < 0
      · simp [hn] at hs
      · rw [if_neg hn] at hs
        by_cases hn2 : n.toNatClampNeg ≤ 1000
        · rw [if_pos hn2] at hs
          obtain ⟨rfl, rfl, rfl, rfl⟩ := zsome hs
          have hz1 : zsl (h ++ [(3, List.replicate n.toNatClampNeg Value.null)]) = zsl h + n.toNatClampNeg := by
            rw [zsl_app, zsl_one, show Nat.ble 100 3 = false from rfl, cond_false, List.length_replicate]
          have hl1 : (h ++ [(3, List.replicate n.toNatClampNeg Value.null)]).length = h.length + 1 := by simp
          rw [hz1] at hF2
          rw [hl1] at hF1
          refine W.anew hx hb hown w1 (va_AO.use hK.2.2.1) rfl hdg rfl hn (by omega) (by omega) (by omega) (fun cA kA comp f1 f2 f3 f4 => ?_)
          have hcA : cA = aC 3 := Option.some.inj (f1.symm.trans (hK.2.1 3 (by omega)).1)
          have k9 := k (H.push { cls := cA, slots := Array.replicate n.toNatClampNeg .null, vm := .none }) locs (cells + 1) (slots + n.toNatClampNeg) ls
            (zRep_push hR (Array.size_push ..) (fun x hx9 => by rw [Array.getElem?_push, if_neg (Nat.ne_of_lt hx9)]) (Array.getElem?_push_size ..) ?_)
            ⟨by have := hS.1; rw [Array.size_push]; omega, fun q h1 h2 => by rw [Array.getElem?_push, if_neg (Nat.ne_of_lt (Nat.lt_of_lt_of_le h1 hS.1))]; exact hS.2.1 q h1 h2, hS.2.2⟩ hL (by rw [hl1]; omega) (by rw [hz1]; omega)
          · rw [hR.1]; exact k9
          · rw [hcA]
            refine ⟨rfl, fun v hv => ?_, fun _ => ⟨rfl, ?_⟩, fun cj hcj hq => absurd hq (by simp only; omega)⟩
            · rw [List.eq_of_mem_replicate hv]; rfl
            · simp [zw, zv]
        · rw [if_neg hn2] at hs; simp at hs
    · simp at hs
  · simp at hs
theorem zwt_map (S : List Value) : ((S.map (zv n0 ext)).map fun v => v.category).sum = zwt S := by
  simp only [zwt, List.map_map]
  congr 1
  exact List.map_congr_left (fun v _ => zv_cat n0 ext v)
theorem zs_skip (hCx : zCx sL sx b n0 D aC p R s m args meth c y d) (hM1 : M1 ≤ R.cells) (hM2 : M2 ≤ R.slots) {ins : Instr} (hh : zHere y pc len ins) (hs : zskip d y ins pc L S h = some ((pc', L', S'), h')) (hF1 : h'.length ≤ F1) (hF2 : zsl h' ≤ F2)
    (k : zG n0 ext D aC p l e R s m args below meth c y F1 F2 M1 M2 Q pc' L' S' h') : zG n0 ext D aC p l e R s m args below meth c y F1 F2 M1 M2 Q pc L S h := by
  obtain ⟨⟨hx, hb, hr, hml, hown⟩, hw, -, -, -, ⟨hfr, hlo⟩, hK, -⟩ := id hCx
  obtain ⟨hdg, haim, hlen⟩ := hh
  intro H locs cells slots ls hR hS hL hc hz
  cases ins with
  | invokespecial i =>
    obtain rfl : len = 3 := zlen_of hlen
    simp only [zskip] at hs
    split at hs
    · rename_i k9 k8 hp
      split at hs
      · rename_i a r
        cases hb9 : (Nat.ble 1 d && Nat.ble (zwt r) 8) with
        | false => simp [hb9] at hs
        | true =>
          simp only [hb9, cond_true] at hs
          obtain ⟨rfl, rfl, rfl, rfl⟩ := zsome hs
          simp only [Bool.and_eq_true] at hb9
          have g1 := Nat.le_of_ble_eq_true hb9.1
          have g2 := Nat.le_of_ble_eq_true hb9.2
          have w1 := zword hw hp (w := .methodLink (zcn (zcls y)) i objectInit) (by simp [zws]) rfl
          have w2 := zword hw hp (w := .instanceMethod objectInit) (by simp [zws]) rfl
          have w3 := zword hw hp (w := .code objectInit ⟨#[0xb1]⟩ 1 none) (by simp [zws]) rfl
          exact W.objInit hx hb hown w1 w2 w3 rfl (hL.1.trans hml.symm) rfl hdg (by omega) (by rw [zwt_map]; show 2 * 0 + _ + 12 ≤ _; omega) (k H locs cells slots ls hR hS hL hc hz)
      · simp at hs
    · simp at hs
  | invokestatic i =>
    obtain rfl : len = 3 := zlen_of hlen
    simp only [zskip] at hs
    split at hs
    · rename_i k9 k8 hp
      split at hs
      · rename_i b9 a9 r
        cases hb9 : (Nat.ble 1 d && Nat.ble (zwt r) 8) with
        | false => simp [hb9] at hs
        | true =>
          simp only [hb9, cond_true] at hs
          obtain ⟨rfl, rfl, rfl, rfl⟩ := zsome hs
          simp only [Bool.and_eq_true] at hb9
          have g1 := Nat.le_of_ble_eq_true hb9.1
          have g2 := Nat.le_of_ble_eq_true hb9.2
          have w1 := zword hw hp (w := .methodLink (zcn (zcls y)) i Lib.Math.max.name) (by simp [zws]) rfl
          have w2 := zword hw hp (w := .static Lib.Math.max.name) (by simp [zws]) rfl
          have w3 := zword hw hp (w := .initialized "java/lang/Math") (by simp [zws]) rfl
          have w4 := zword hw hp (w := .code Lib.Math.max.name Lib.Math.max.code 2 (some .int)) (by simp [zws]) rfl
          exact va_mmax hx hb (hml.trans hL.1.symm) hown w1 w2 w3 w4 (by omega) (by rw [zwt_map]; omega) (by omega) (by omega) hdg (k H locs cells slots ls hR hS hL hc hz)
      · simp at hs
    · simp at hs
  | _ => simp [zskip] at hs
end ZA
end
section
/-! a method's end: it returns, or throws -/
def zQc (D : va_G) (aC : Nat → ClassId) (n0 : Nat) (o : Outcome) (hF : zH) : Array Value → State → Outcome → State → Prop := fun _ st o' t =>
  ∃ v : Option Value, o = .returned v ∧ o' = .returned (v.map (zw n0)) ∧ (∀ w, v = some w → zok w = true) ∧ zRep D aC n0 hF t.heap ∧ va_F (fun q => n0 ≤ q) st t
def zXc (D : va_G) (aC : Nat → ClassId) (n0 : Nat) (o : Outcome) (hF : zH) : String → State → State → Prop := fun E st t =>
  ∃ ex : Nat, o = .threw ex ∧ ex < 6 ∧ E = zen ex ∧ zRep D aC n0 hF t.heap ∧ va_F (fun q => n0 ≤ q) st t
/-- what a method's walk comes to -/
abbrev zEnd (D : va_G) (aC : Nat → ClassId) (n0 : Nat) (below : List Frame) (args : Array Value) (s : State) (M1 M2 : Nat) (o : Outcome) (hF : zH) : State → Prop := vx_MQ below (zQc D aC n0 o hF) (zXc D aC n0 o hF) args s M1 M2 (fun q => n0 ≤ q)
section ZE
variable {sL : Nat} {sx : Nat → Int32} {b n0 : Nat} {ext : Nat → Nat} {D : va_G} {aC : Nat → ClassId} {p : Program} {l : Launch} {e : Env} {R : Room} {s : State} {m : MethodId} {args : Array Value} {below : List Frame} {meth : Method} {c : Code} {y d M1 M2 : Nat}
variable {len pc : Nat} {L S : List Value} {h : zH}
theorem zs_ret (hCx : zCx sL sx b n0 D aC p R s m args meth c y d) {ins : Instr} (hh : zHere y pc len ins) {v : Option Value} (hs : zends y ins S = some v) :
    zG n0 ext D aC p l e R s m args below meth c y h.length (zsl h) M1 M2 (zEnd D aC n0 below args s M1 M2 (.returned v) h) pc L S h := by
  obtain ⟨⟨hx, hb, hr, hml, hown⟩, hw, htab, hlocks, -⟩ := id hCx
  obtain ⟨hdg, haim, hlen⟩ := hh
  intro H locs cells slots ls hR hS hL hc hz
  obtain rfl : cells = M1 := by omega
  obtain rfl : slots = M2 := by omega
  have hf : ∀ q ∈ locs, n0 ≤ q.base := hS.2.2
  refine vx_ret ?_
  cases ins with
  | ireturn =>
    obtain rfl : len = 1 := zlen_of hlen
    simp only [zends] at hs
    split at hs
    · rename_i v9 h1
      cases hs
      rw [h1] at hr
      exact W.iret hx hb hr (fun t ht hW => ⟨some (.int v9), rfl, rfl, fun w h9 => by cases h9; rfl, by rw [ht]; exact hR, hS.F ht⟩) hf hdg hlocks
    · rename_i v9 h1
      by_cases hv : v9 = 0 ∨ v9 = 1
      · rw [if_pos hv] at hs
        cases hs
        rw [h1] at hr
        have hn : narrow .boolean (.int v9) = .int v9 := by rcases hv with rfl | rfl <;> rfl
        exact W.zret hx hb hr hn (fun t ht hW => ⟨some (.int v9), rfl, rfl, fun w h9 => by cases h9; rfl, by rw [ht]; exact hR, hS.F ht⟩) hf hdg hlocks
      · rw [if_neg hv] at hs; simp at hs
    · simp at hs
  | lreturn =>
    obtain rfl : len = 1 := zlen_of hlen
    simp only [zends] at hs
    split at hs
    · rename_i v9 h1
      cases hs
      rw [h1] at hr
      exact W.lret hx hb hr (fun t ht hW => ⟨some (.long v9), rfl, rfl, fun w h9 => by cases h9; rfl, by rw [ht]; exact hR, hS.F ht⟩) hf hdg hlocks
    · simp at hs
  | areturn =>
    obtain rfl : len = 1 := zlen_of hlen
    simp only [zends] at hs
    split at hs
    · rename_i v9 t9 h1
      cases hs
      rw [h1] at hr
      exact W.aret hx hb hr (Or.inl ⟨_, rfl⟩) (Or.inr ⟨_, rfl⟩) (fun t ht hW => ⟨some (.ref v9), rfl, rfl, fun w h9 => by cases h9; rfl, by rw [ht]; exact hR, hS.F ht⟩) hf hdg hlocks
    · rename_i t9 h1
      cases hs
      rw [h1] at hr
      exact W.aret hx hb hr (Or.inl ⟨_, rfl⟩) (Or.inl rfl) (fun t ht hW => ⟨some .null, rfl, rfl, fun w h9 => by cases h9; rfl, by rw [ht]; exact hR, hS.F ht⟩) hf hdg hlocks
    · simp at hs
  | return_ =>
    obtain rfl : len = 1 := zlen_of hlen
    simp only [zends] at hs
    split at hs
    · rename_i h1
      cases hs
      rw [h1] at hr
      exact W.vret hx hb hr (fun t ht hW => ⟨none, rfl, rfl, fun w h9 => (by cases h9), by rw [ht]; exact hR, hS.F ht⟩) hf hdg hlocks
    · simp at hs
  | _ => simp [zends] at hs
theorem zstr_ok (hK : zK D aC s) {is cl : Nat} (h : (zSt.any fun q => Nat.beq q.1 cl && Nat.beq q.2.1 is) = true) : ∃ text a, vk_R (zcn cl) is text a s := by
  obtain ⟨q, hq, hq2⟩ := List.any_eq_true.mp h
  simp only [Bool.and_eq_true] at hq2
  obtain ⟨a, ha⟩ := hK.2.2.2.2.1 q hq
  rw [Nat.eq_of_beq_eq_true hq2.1, Nat.eq_of_beq_eq_true hq2.2] at ha
  exact ⟨_, a, ha⟩
theorem zany (hw : ∀ w ∈ lw_tbl, goodWord w = true → w.before args s = true) (hK : zK D aC s) {i : Nat} {r : Nat × Nat × Nat} (hp : zpool y i = some r) {w : Cond} (hin : w ∈ zws (zcls y) (i, r)) : w.before args s = true := by
  obtain ⟨h1, h2⟩ := (zpool_ok hp).2 w hin
  rw [Bool.or_eq_true] at h2
  rcases h2 with h2 | h2
  · exact hw w h1 h2
  · have h3 := hK.2.2.2.1 w h1 h2
    refine va_Nw.use ?_ h3
    cases w <;> first | rfl | (simp [zisX] at h2)
theorem zs_thr (hl : l.stackTraces = false) (hCx : zCx sL sx b n0 D aC p R s m args meth c y d) (hM1 : M1 ≤ R.cells) (hM2 : M2 ≤ R.slots) {ins : Instr} (hh : zHere y pc len ins) {ex : Nat} (hs : zthr y ins = some ex) (ht : zthrows d y pc S ex = true) :
    zG n0 ext D aC p l e R s m args below meth c y (h ++ [(100 + ex, [])]).length (zsl (h ++ [(100 + ex, [])])) M1 M2 (zEnd D aC n0 below args s M1 M2 (.threw ex) (h ++ [(100 + ex, [])])) pc L S h := by
  obtain ⟨⟨hx, hb, hr, hml, hown⟩, hw, htab, hlocks, -, ⟨hfr, hlo⟩, hK, ⟨hU, hN⟩, -⟩ := id hCx
  obtain ⟨hdg, haim, hlen⟩ := hh
  intro H locs cells slots ls hR hS hL hc hz
  have hz1 : zsl (h ++ [(100 + ex, [])]) = zsl h + 6 := by
    rw [zsl_app, zsl_one]
    have : Nat.ble 100 (100 + ex) = true := Nat.ble_eq_true_of_le (by omega)
    rw [this]; rfl
  rw [List.length_append] at hc
  simp only [List.length_cons, List.length_nil] at hc
  rw [hz1] at hz
  cases ins with
  | new ik =>
    obtain rfl : len = 3 := zlen_of hlen
    simp only [zthr] at hs
    split at hs
    · rename_i ex' k9 hp
      cases hs
      obtain ⟨hpk, -⟩ := zpool_ok hp
      have he6 : ex < 6 := Nat.le_of_ble_eq_true hpk
      obtain ⟨x1, x2, x3, x4⟩ := zex_ok ex he6
      have w1 := zany hw hK hp (w := .classLink (zcn (zcls y)) ik (zen ex)) (by simp [zws])
      have w2 := zany hw hK hp (w := .initialized (zen ex)) (by simp [zws])
      simp only [zthrows, Bool.and_eq_true] at ht
      obtain ⟨⟨⟨t1, t2⟩, t3⟩, t4⟩ := ht
      have t1 := Nat.le_of_ble_eq_true t1
      have t2 := Nat.le_of_ble_eq_true t2
      have hhan : c.exceptionTable.toList = [] := by rw [htab, List.isEmpty_iff.mp t3]; rfl
      have main : ∀ (ll is ic : Nat) (k8 : Nat), ((ll = 2 ∧ decode (zbyt y) (pc + 4) = .ok (.ldc is, 2)) ∨ (ll = 3 ∧ decode (zbyt y) (pc + 4) = .ok (.ldc_w is, 3))) → decode (zbyt y) (pc + 3) = .ok (.dup, 1) → decode (zbyt y) (pc + 4 + ll) = .ok (.invokespecial ic, 3) → decode (zbyt y) (pc + 4 + ll + 3) = .ok (.athrow, 1) →
          (zSt.any fun q => Nat.beq q.1 (zcls y) && Nat.beq q.2.1 is) = true → zpool y ic = some (8, ex, k8) → W p l e R s m args below meth c H locs cells slots (zEnd D aC n0 below args s M1 M2 (.threw ex) (h ++ [(100 + ex, [])])) (F0 m pc ls (S.map (zv n0 ext))) := by
        intro ll is ic k8 d4 d3 d6 d9 hst hpc
        obtain ⟨text, sa, hstr⟩ := zstr_ok hK hst
        obtain ⟨hpk2, -⟩ := zpool_ok hpc
        simp only [zpk, Bool.and_eq_true] at hpk2
        have hat : ∀ w ∈ zt_at (zcn (zcls y)) ic (zen ex) (zes ex) (zej ex) (zeb ex), w.before args s = true := fun w h9 => zany hw hK hpc (by simpa [zws] using h9)
        refine zt_throw hx hb hl x4 hown x1 x2 w1 w2 hstr hat ?_ hU hN hS (hL.1.trans hml.symm) hdg d3 d4 d6 d9 (by rw [hhan]; exact fun _ h9 => by cases h9) (by omega) (by rw [zwt_map]; omega) (by omega) (by omega) hlocks ?_ hS.2.2 (by omega) (by omega)
        · intro w h9
          rcases List.mem_cons.mp h9 with rfl | h9
          · rfl
          · rcases List.mem_cons.mp h9 with rfl | h9
            · rfl
            · exact List.all_eq_true.mp hpk2.2 w h9
        · intro t hA hsz hold hnew
          obtain ⟨ce, g1, g2⟩ := hnew
          refine ⟨ex, rfl, he6, rfl, zRep_push hR hsz hold g1 ⟨g2, fun v hv => (by cases hv), fun q => absurd q (by simp only; omega), fun ci hci q => absurd q (by simp only; omega)⟩, by rw [hsz]; have := hS.1; omega, fun q h1 h2 => ?_⟩
          rw [hold q (Nat.lt_of_lt_of_le h1 hS.1)]
          exact hS.2.1 q h1 h2
      cases h3 : zat y (pc + 3) with
      | none => simp [h3] at t4
      | some r3 =>
        cases h4 : zat y (pc + 4) with
        | none => simp [h3, h4] at t4
        | some r4 =>
          rw [h3, h4] at t4
          have o3 := (zat_ok h3).1
          have o4 := (zat_ok h4).1
          split at t4
          · rename_i is e3 e4
            cases e3; cases e4
            rw [Bool.and_eq_true] at t4
            obtain ⟨u1, u2⟩ := t4
            split at u2
            · rename_i ic e6 e9
              split at u2
              · rename_i e2 k8 hpc
                have := Nat.eq_of_beq_eq_true u2
                subst this
                exact main 2 is ic k8 (Or.inl ⟨rfl, o4⟩) o3 (zat_ok e6).1 (zat_ok e9).1 u1 hpc
              · simp at u2
            · simp at u2
          · rename_i is e3 e4
            cases e3; cases e4
            rw [Bool.and_eq_true] at t4
            obtain ⟨u1, u2⟩ := t4
            split at u2
            · rename_i ic e6 e9
              split at u2
              · rename_i e2 k8 hpc
                have := Nat.eq_of_beq_eq_true u2
                subst this
                exact main 3 is ic k8 (Or.inr ⟨rfl, o4⟩) o3 (zat_ok e6).1 (zat_ok e9).1 u1 hpc
              · simp at u2
            · simp at u2
          · simp at t4
    · simp at hs
  | _ => simp [zthr] at hs
end ZE
end
section
/-! calls -/
def zPc (sL : Nat) (sx : Nat → Int32) (b n0 : Nat) (D : va_G) (aC : Nat → ClassId) (As : List Value) (h : zH) : Array Value → State → Prop := fun v U =>
  v = (As.map (zw n0)).toArray ∧ zRep D aC n0 h U.heap ∧ zK D aC U ∧ (vx_Zq Bundle.tN "UNASSIGNED_STACK" Bundle.steD (fun q => n0 ≤ q) U U.heap ∧ vx_Zq Bundle.tN "SUPPRESSED_SENTINEL" Bundle.listD (fun q => n0 ≤ q) U U.heap) ∧ (va_X b sL sx U U.heap ∧ b < n0)
abbrev zRm (d k n : Nat) : Room := { frames := d, cells := k, slots := n, locals := 29 * d + 88 }
abbrev zMt (l : Launch) (sL : Nat) (sx : Nat → Int32) (b n0 : Nat) (D : va_G) (aC : Nat → ClassId) (z d : Nat) (As : List Value) (h : zH) (o : Outcome) (h1 : zH) : Prop :=
  vx_Met l (zname z) (zwd z :: lw_tbl.filter goodWord) (zRm d (h1.length - h.length) (zsl h1 - zsl h)) (zPc sL sx b n0 D aC As h) (zQc D aC n0 o h1) (zXc D aC n0 o h1) (h1.length - h.length) (zsl h1 - zsl h) (fun q => n0 ≤ q)
theorem zcast_moved {a b : String} {u U : State} (hvm : u.vm.Alike U.vm) (h : va_Nw (.castable a b) u) : va_Nw (.castable a b) U := by
  obtain ⟨c1, c2, h1, h2, h3⟩ := Cond.castable_spec h
  simp only [va_Nw, Cond.before, Cond.holds, Cond.value, hvm.findClass, h1, h2, hvm.assignable, h3]
  rfl
theorem zK_warm {D : va_G} {aC : Nat → ClassId} {u U : State} (hW : u.WarmedH U.vm) (h : zK D aC u) : zK D aC U := by
  obtain ⟨h1, h2, h3, h4, h5, h6⟩ := h
  have hvm := hW.alike
  refine ⟨fun ci hci => u_Kn_moved hvm (h1 ci hci), fun t ht => ?_, va_AO.moved hvm h3, fun w hw hX => ?_, fun q hq => ?_, fun e1 e2 a1 a2 a3 => va_Nc.moved hvm (h6 e1 e2 a1 a2 a3)⟩
  · obtain ⟨g1, k, comp, g2, g3, g4⟩ := h2 t ht
    obtain ⟨k', hk', he⟩ := hvm.2.2 _ _ g2
    exact ⟨by rw [hvm.findClass]; exact g1, k', comp, hk', by rw [he]; exact g3, g4⟩
  · have h9 := h4 w hw hX
    cases w <;> first
      | exact va_Nw.warmD hW h9
      | exact va_Nw.warmM hW h9
      | exact zcast_moved hvm h9
      | (simp [zisX] at hX)
  · obtain ⟨a, ha⟩ := h5 q hq
    exact ⟨a, vk_R.warm hW ha⟩
theorem zPc_blind (sL : Nat) (sx : Nat → Int32) (b n0 : Nat) (D : va_G) (aC : Nat → ClassId) (As : List Value) (h : zH) : FrameBlind (zPc sL sx b n0 D aC As h) := by
  intro a U g mk q
  obtain ⟨q1, q2, q3, ⟨q4, q5⟩, q6, q7⟩ := q
  have hW : U.WarmedH (U.calling g mk a).vm := State.WarmedH.refl U
  exact ⟨q1, q2, zK_warm hW q3, ⟨vx_Zq.moved hW.alike q4, vx_Zq.moved hW.alike q5⟩, va_X.moved hW.alike q6, q7⟩
section ZCL
variable {sL : Nat} {sx : Nat → Int32} {b n0 : Nat} {ext : Nat → Nat} {D : va_G} {aC : Nat → ClassId} {p : Program} {l : Launch} {e : Env} {R : Room} {s : State} {m : MethodId} {args : Array Value} {below : List Frame} {meth : Method} {c : Code} {y d F1 F2 M1 M2 : Nat} {Q : State → Prop}
variable {len pc : Nat} {L S As rest : List Value} {h h1 : zH} {o : Outcome} {z : Nat}
/-- from here, with an exception ex over the frame -/
def zGX (n0 : Nat) (ext : Nat → Nat) (D : va_G) (aC : Nat → ClassId) (p : Program) (l : Launch) (e : Env) (R : Room) (s : State) (m : MethodId) (args : Array Value) (below : List Frame) (meth : Method) (c : Code) (y F1 F2 M1 M2 : Nat) (Q : State → Prop) (pc : Nat) (L S : List Value) (h : zH) (ex : Nat) : Prop :=
  ∀ (H : Heap) (locs : List Loc) (cells slots : Nat) (ls : Array Slot) (q : Addr) (ce : Cell), zRep D aC n0 h H → va_S (fun q => n0 ≤ q) s.heap H locs → zLs n0 ext (zmax y) L ls → cells + F1 = M1 + h.length → slots + F2 = M2 + zsl h → ex < 6 → H[q]? = some ce → ce.vm = .none → s.vm.findClass (zen ex) = some ce.cls →
    vx_W p l e R s m args below meth c H locs cells slots Q (F0 m pc ls (S.map (zv n0 ext))) q
theorem zv_list {As : List Value} (h : As.all zok = true) : As.map (zv n0 ext) = As.map (zw n0) := List.map_congr_left fun v hv => zv_ok (List.all_eq_true.mp h v hv)
theorem zpre (hCx : zCx sL sx b n0 D aC p R s m args meth c y d) {H : Heap} {locs : List Loc} (hR : zRep D aC n0 h H) (hS : va_S (fun q => n0 ≤ q) s.heap H locs) : ∀ U : State, U.heap = H → s.WarmedH U.vm → zPc sL sx b n0 D aC As h (As.map (zw n0)).toArray U := by
  obtain ⟨-, -, -, -, -, -, hK, ⟨hU, hN⟩, ⟨hX, hbn⟩, hn0⟩ := hCx
  intro U hUH hW
  refine ⟨rfl, by rw [hUH]; exact hR, zK_warm hW hK, ⟨by rw [hUH]; exact vx_Zq.moved hW.alike (hU.kept hS.2.1), by rw [hUH]; exact vx_Zq.moved hW.alike (hN.kept hS.2.1)⟩, by rw [hUH]; exact va_X.moved hW.alike (hX.kept (hS.2.1 b (Nat.lt_of_lt_of_le hbn hn0) (Nat.not_le.mpr hbn))), hbn⟩
theorem zframe {H : Heap} {locs Lc : List Loc} {st t : State} (hS : va_S (fun q => n0 ≤ q) s.heap H locs) (h0 : st.heap = H) (hF : va_F (fun q => n0 ≤ q) st t) (hL : ∀ q ∈ Lc, n0 ≤ q.base) : va_S (fun q => n0 ≤ q) s.heap t.heap (locs ++ Lc) := by
  obtain ⟨f1, f2⟩ := hF
  rw [h0] at f1 f2
  refine ⟨Nat.le_trans hS.1 f1, fun q a1 a2 => ?_, fun q hq => ?_⟩
  · rw [f2 q (Nat.lt_of_lt_of_le a1 hS.1) a2]; exact hS.2.1 q a1 a2
  · rcases List.mem_append.mp hq with h9 | h9
    · exact hS.2.2 q h9
    · exact hL q h9
theorem zvlist {v9 : Option Value} (hv : ∀ w, v9 = some w → zok w = true) : (v9.map (zw n0)).toList ++ rest.map (zv n0 ext) = (v9.toList ++ rest).map (zv n0 ext) := by
  cases v9 with
  | none => rfl
  | some w => simp [zv_ok (n0 := n0) (ext := ext) (hv w rfl)]
/-- a call that returns or throws goes on -/
theorem zrunX {H : Heap} {locs : List Loc} {cells slots : Nat} {ls : Array Slot} {st0 : List Value} {a9 : Array Value} (hS : va_S (fun q => n0 ≤ q) s.heap H locs) (hL : zLs n0 ext (zmax y) L ls) (hc : cells + F1 = M1 + h.length) (hz : slots + F2 = M2 + zsl h) (hl1 : h.length ≤ h1.length) (hs1 : zsl h ≤ zsl h1)
    (hr : vx_Run p l e R s m args below meth c H locs cells slots (h1.length - h.length) (zsl h1 - zsl h) (F0 m pc ls st0) (rest.map (zv n0 ext)) (zQc D aC n0 o h1 a9) (zXc D aC n0 o h1) (fun q => n0 ≤ q))
    (kret : ∀ v, o = .returned v → (∀ w, v = some w → zok w = true) → zG n0 ext D aC p l e R s m args below meth c y F1 F2 M1 M2 Q (pc + 3) L (v.toList ++ rest) h1)
    (kthr : ∀ ex, o = .threw ex → zGX n0 ext D aC p l e R s m args below meth c y F1 F2 M1 M2 Q pc L rest h1 ex) :
    W p l e R s m args below meth c H locs cells slots Q (F0 m pc ls st0) := by
  intro T hT X
  rcases hr T hT X with ⟨v, st₀, t, T', Lc, h0, X', hL', e1, e2, ⟨v9, g1, g2, g3, g4, g5⟩, st⟩ | ⟨q, st₀, t, T', Lc, E, ce, h0, X', hL', e1, e2, ⟨ex, g1, g2, g3, g4, g5⟩, g6, g7, g8, st⟩
  · cases g2
    have k9 := kret v9 g1 g3 T'.heap (locs ++ Lc) (cells + (h1.length - h.length)) (slots + (zsl h1 - zsl h)) ls (by rw [e1]; exact g4) (by rw [e1]; exact zframe hS h0 g5 hL') hL (by omega) (by omega)
    rw [← zvlist g3] at k9
    obtain ⟨t2, a1, b1⟩ := k9 T' rfl X'
    exact ⟨t2, st t2 a1, b1⟩
  · subst g3
    obtain ⟨t2, a1, b1⟩ := kthr ex g1 T'.heap (locs ++ Lc) (cells + (h1.length - h.length)) (slots + (zsl h1 - zsl h)) ls q ce (by rw [e1]; exact g4) (by rw [e1]; exact zframe hS h0 g5 hL') hL (by omega) (by omega) g2 (by rw [e1]; exact g6) g7 g8 T' rfl X'
    exact ⟨t2, st.trans a1, b1⟩
theorem zrunV {H : Heap} {locs : List Loc} {cells slots : Nat} {ls : Array Slot} {st0 : List Value} {a9 : Array Value} (hS : va_S (fun q => n0 ≤ q) s.heap H locs) (hL : zLs n0 ext (zmax y) L ls) (hc : cells + F1 = M1 + h.length) (hz : slots + F2 = M2 + zsl h) (hl1 : h.length ≤ h1.length) (hs1 : zsl h ≤ zsl h1)
    (hr : va_Run p l e R s m args below meth c H locs cells slots (h1.length - h.length) (zsl h1 - zsl h) (F0 m pc ls st0) (rest.map (zv n0 ext)) (zQc D aC n0 o h1 a9) (fun q => n0 ≤ q))
    (kret : ∀ v, o = .returned v → (∀ w, v = some w → zok w = true) → zG n0 ext D aC p l e R s m args below meth c y F1 F2 M1 M2 Q (pc + 3) L (v.toList ++ rest) h1) :
    W p l e R s m args below meth c H locs cells slots Q (F0 m pc ls st0) := by
  intro T hT X
  obtain ⟨v, st₀, t, T', Lc, h0, X', hL', e1, e2, ⟨v9, g1, g2, g3, g4, g5⟩, st⟩ := hr T hT X
  cases g2
  have k9 := kret v9 g1 g3 T'.heap (locs ++ Lc) (cells + (h1.length - h.length)) (slots + (zsl h1 - zsl h)) ls (by rw [e1]; exact g4) (by rw [e1]; exact zframe hS h0 g5 hL') hL (by omega) (by omega)
  rw [← zvlist g3] at k9
  obtain ⟨t2, a1, b1⟩ := k9 T' rfl X'
  exact ⟨t2, st t2 a1, b1⟩
/-- a contract that can't throw is the kit's plain one -/
theorem zplain {d' : Nat} (hM : zMt l sL sx b n0 D aC z d' As h o h1) (hret : ∃ v, o = .returned v) :
    Met l (zname z) (zwd z :: lw_tbl.filter goodWord) (zRm d' (h1.length - h.length) (zsl h1 - zsl h)) (zPc sL sx b n0 D aC As h) (zQc D aC n0 o h1) (h1.length - h.length) (zsl h1 - zsl h) (fun q => n0 ≤ q) := by
  intro p9 e9 a1 a2 a3 s9 m9 args9 below9 a4 a5 a6 a7
  obtain ⟨n, o9, b1, b2, b3, b4⟩ := hM p9 e9 a1 a2 a3 s9 m9 args9 below9 a4 a5 a6 a7
  refine ⟨n, o9, b1, b2, b3, ?_⟩
  rcases b4 with b4 | ⟨q, -, E, ce, L9, ⟨ex, g1, -⟩, -⟩
  · exact b4
  · obtain ⟨v, hv⟩ := hret
    rw [hv] at g1; cases g1
theorem zfil {w : Cond} (h1 : w ∈ lw_tbl) (h2 : goodWord w = true) : w ∈ lw_tbl.filter goodWord := List.mem_filter.mpr ⟨h1, h2⟩
theorem zpw {i : Nat} {r : Nat × Nat × Nat} (hp : zpool y i = some r) {w : Cond} (hin : w ∈ zws (zcls y) (i, r)) (hX : zisX w = false) : w ∈ lw_tbl.filter goodWord := by
  obtain ⟨g1, g2⟩ := (zpool_ok hp).2 w hin
  rw [hX, Bool.or_false] at g2
  exact zfil g1 g2
theorem zwd_X (z : Nat) : zisX (zwd z) = false := by
  unfold zwd
  cases (zhan z).isEmpty <;> rfl
theorem zgoodIn {ws : List Cond} (h : ∀ w ∈ ws, w ∈ lw_tbl.filter goodWord) : GoodIn (lw_tbl.filter goodWord) ws := fun w hw => ⟨h w hw, good_of_word (List.mem_filter.mp (h w hw)).2⟩
theorem zs_call (hCx : zCx sL sx b n0 D aC p R s m args meth c y (d + 1)) (hM1 : M1 ≤ R.cells) (hM2 : M2 ≤ R.slots) {ins : Instr} (hh : zHere y pc len ins) {stat mt : Bool} (hz9 : zcalls y ins = some (z, stat, mt)) (hok : zcallok z stat As rest h = true) (hSt : S = As.reverse ++ rest)
    (hM : zMt l sL sx b n0 D aC z d As h o h1) (hl1 : h.length ≤ h1.length) (hs1 : zsl h ≤ zsl h1) (hF1 : h1.length ≤ F1) (hF2 : zsl h1 ≤ F2)
    (kret : ∀ v, o = .returned v → (∀ w, v = some w → zok w = true) → zG n0 ext D aC p l e R s m args below meth c y F1 F2 M1 M2 Q (pc + 3) L (v.toList ++ rest) h1)
    (kthr : mt = true → ∀ ex, o = .threw ex → zGX n0 ext D aC p l e R s m args below meth c y F1 F2 M1 M2 Q pc L rest h1 ex) (hmt : mt = false → ∃ v, o = .returned v) :
    zG n0 ext D aC p l e R s m args below meth c y F1 F2 M1 M2 Q pc L S h := by
  obtain ⟨⟨hx, hb, hr, hml, hown⟩, hw, -, -, -, ⟨hfr, hlo⟩, hK, -⟩ := id hCx
  obtain ⟨hdg, haim, hlen⟩ := hh
  intro H locs cells slots ls hR hS hL hc hz
  subst hSt
  simp only [zcallok, Bool.and_eq_true] at hok
  obtain ⟨⟨⟨⟨o1, o2⟩, o3⟩, o4⟩, o5⟩ := hok
  have o1 := Nat.eq_of_beq_eq_true o1
  have o3 := Nat.le_of_ble_eq_true o3
  have hpre := zpre (As := As) hCx hR hS
  have hfix : CallFix p m c (zbyt y) (zmax y) s args (lw_tbl.filter goodWord) (zcn (zcls y)) := ⟨hx, hb, hml, hown, zgood hw⟩
  have hroom : ∀ (g : JFrame), g.monitorRoom = 0 → 2 * g.monitorRoom + ((rest.map (zv n0 ext)).map fun v => v.category).sum ≤ 8 := fun g hg => by rw [hg, zwt_map]; omega
  have hcs : cells + (h1.length - h.length) ≤ R.cells ∧ slots + (zsl h1 - zsl h) ≤ R.slots := ⟨by omega, by omega⟩
  have hmap : (As.reverse ++ rest).map (zv n0 ext) = (As.map (zw n0)).reverse ++ rest.map (zv n0 ext) := by rw [List.map_append, List.map_reverse, zv_list o2]
  have hblind := zPc_blind sL sx b n0 D aC As h
  cases ins with
  | invokevirtual i =>
    obtain rfl : len = 3 := zlen_of hlen
    simp only [zcalls] at hz9
    split at hz9
    · rename_i z' k9 hp
      cases hz9
      obtain ⟨hpk, -⟩ := zpool_ok hp
      simp only [zpk, zmk, Bool.and_eq_true, decide_eq_true_eq, Bool.false_or, cond_false] at hpk
      obtain ⟨⟨⟨⟨⟨⟨⟨⟨⟨m1, m2⟩, m3⟩, m4⟩, m5⟩, m6⟩, m7⟩, m8⟩, hem⟩, hc4⟩ := hpk
      have hc4 : zcls z < 4 := Nat.le_of_ble_eq_true hc4
      have m5 := Nat.le_of_ble_eq_true m5
      have hwd : zwd z = .code (zname z) (zbyt z) (zmax z) (zret z) := by unfold zwd; rw [hem]; rfl
      rw [Bool.false_or] at o5
      cases As with
      | nil => simp at o5
      | cons v0 As' =>
        cases v0 with
        | ref a =>
          simp only at o5
          cases ha : h[a]? with
          | none => simp [ha] at o5
          | some q =>
            simp only [ha] at o5
            obtain ⟨cell, q1, q2⟩ := hR.2 a q ha
            have qc := (q2.2.2.2 (zcls z) hc4 (Nat.eq_of_beq_eq_true o5)).1
            rw [hmap, List.map_cons, List.reverse_cons, List.append_assoc]
            refine zrunX hS hL hc hz hl1 hs1 (vx_runV (As := As'.map (zw n0)) hfix hM (cwV (znar z - 1) (zgood hw) (zgoodIn ?_) (by rw [hwd]) rfl rfl ⟨m7, m2, m3, m4⟩ ⟨by omega, by show 8 + (zmax z + 11) + (29 * d + 88) ≤ _; omega⟩)
              ⟨hblind, ⟨cell, q1, by rw [q2.1]; rfl, by rw [qc]; exact (hK.1 (zcls z) hc4).2.1⟩, hpre⟩ rfl (by rw [List.length_map, ← o1]; rfl) hL.1 rfl (hroom _ rfl) hdg hcs) kret (kthr rfl)
            intro w hw9
            unfold wsV at hw9
            rcases List.mem_append.mp hw9 with h9 | h9
            · simp only [List.mem_cons, List.not_mem_nil, or_false] at h9
              rcases h9 with rfl | rfl | rfl | rfl
              · exact zpw hp (by simp [zws]) rfl
              · exact zpw hp (by simp [zws]) rfl
              · exact zpw hp (by simp [zws]) rfl
              · exact zpw hp (by simp [zws]) rfl
            · rcases List.mem_cons.mp h9 with rfl | h9
              · exact zpw hp (by simp [zws]) (zwd_X z)
              · exact h9
        | _ => simp at o5
    · simp at hz9
  | invokestatic i =>
    obtain rfl : len = 3 := zlen_of hlen
    simp only [zcalls] at hz9
    split at hz9
    · rename_i z' k9 hp
      cases hz9
      obtain ⟨hpk, -⟩ := zpool_ok hp
      simp only [zpk, zmk, Bool.and_eq_true, decide_eq_true_eq, Bool.true_or, cond_true] at hpk
      obtain ⟨⟨⟨⟨⟨⟨⟨⟨m1, m2⟩, m3⟩, m4⟩, m5⟩, m6⟩, m7⟩, m8⟩, hcy⟩ := hpk
      have hcy : zcls z = zcls y := Nat.eq_of_beq_eq_true hcy
      have m5 := Nat.le_of_ble_eq_true m5
      rw [hmap]
      have hin : ∀ w ∈ wsS (zcn (zcls y)) i (zname z) (zwd z :: lw_tbl.filter goodWord), w ∈ lw_tbl.filter goodWord := by
        intro w hw9
        unfold wsS at hw9
        rcases List.mem_append.mp hw9 with h9 | h9
        · simp only [List.mem_cons, List.not_mem_nil, or_false] at h9
          rcases h9 with rfl | rfl | rfl
          · exact zpw hp (by simp [zws]) rfl
          · exact zpw hp (by simp [zws]) rfl
          · exact zpw hp (by simp [zws]) rfl
        · rcases List.mem_cons.mp h9 with rfl | h9
          · exact zpw hp (by simp [zws]) (zwd_X z)
          · exact h9
      cases hem : (zhan z).isEmpty with
      | true =>
        have hwd : zwd z = .code (zname z) (zbyt z) (zmax z) (zret z) := by unfold zwd; rw [hem]; rfl
        exact zrunX hS hL hc hz hl1 hs1 (vx_runS (As := As.map (zw n0)) hfix hM (cwS (znar z) (zgood hw) (zgoodIn hin) (by rw [hwd]) rfl rfl ⟨by rw [m7, hcy], m2, m3, m4⟩ ⟨by omega, by show 8 + (zmax z + 11) + (29 * d + 88) ≤ _; omega⟩)
          ⟨hblind, hpre⟩ rfl (by rw [List.length_map]; exact o1) hL.1 rfl (hroom _ rfl) hdg hcs) kret (kthr rfl)
      | false =>
        have hwd : zwd z = .codeWith (zname z) (zbyt z) (zmax z) (zret z) (zhan z) := by unfold zwd; rw [hem]; rfl
        have hin2 : ∀ w ∈ va_wsS (zcn (zcls y)) i (zname z) (zwd z :: lw_tbl.filter goodWord), w ∈ lw_tbl.filter goodWord := by
          intro w hw9
          unfold va_wsS at hw9
          rcases List.mem_append.mp hw9 with h9 | h9
          · simp only [List.mem_cons, List.not_mem_nil, or_false] at h9
            rcases h9 with rfl | rfl | rfl
            · exact zpw hp (by simp [zws]) rfl
            · exact zpw hp (by simp [zws]) rfl
            · rw [m7, hcy]; exact zpw hp (by simp [zws]) rfl
          · rcases List.mem_cons.mp h9 with rfl | h9
            · exact zpw hp (by simp [zws]) (zwd_X z)
            · exact h9
        exact zrunX hS hL hc hz hl1 hs1 (vx_runSX (As := As.map (zw n0)) hfix hM (vx_cwSW (znar z) (zgood hw) (zgoodIn hin2) (by rw [hwd]) rfl rfl ⟨m2, m3, m4⟩ ⟨by omega, by show 8 + (zmax z + 11) + (29 * d + 88) ≤ _; omega⟩)
          ⟨hblind, hpre⟩ rfl (by rw [List.length_map]; exact o1) hL.1 rfl (hroom _ rfl) hdg hcs) kret (kthr rfl)
    · rename_i z' k9 hp
      cases hz9
      obtain ⟨hpk, -⟩ := zpool_ok hp
      simp only [zpk, zmk, Bool.and_eq_true, decide_eq_true_eq, Bool.true_or, cond_true] at hpk
      obtain ⟨⟨⟨⟨⟨⟨⟨⟨m1, m2⟩, m3⟩, m4⟩, m5⟩, m6⟩, m7⟩, m8⟩, hem⟩ := hpk
      have m5 := Nat.le_of_ble_eq_true m5
      have hwd : zwd z = .code (zname z) (zbyt z) (zmax z) (zret z) := by unfold zwd; rw [hem]; rfl
      rw [hmap]
      have hgi : GoodIn (lw_tbl.filter goodWord) (zwd z :: lw_tbl.filter goodWord) := zgoodIn fun w h9 => by
        rcases List.mem_cons.mp h9 with rfl | h9
        · exact zpw hp (by simp [zws]) (zwd_X z)
        · exact h9
      have hnest : va_Nw (.methodLinkNest (zcn (zcls y)) i (zname z) RX2) s := hK.2.2.2.1 _ ((zpool_ok hp).2 _ (by simp [zws])).1 rfl
      have hini := zgood hw (.initialized (zname z).cls) (by rw [m7]; exact zpw hp (by simp [zws]) rfl)
      have hst := zgood hw (.static (zname z)) (zpw hp (by simp [zws]) rfl)
      exact zrunV hS hL hc hz hl1 hs1 (va_runSN (As := As.map (zw n0)) hfix (zplain hM (hmt rfl)) ⟨va_cnB (znar z) (zgood hw) hgi (by rw [hwd]) rfl rfl hnest hini ⟨m2, m3, m4⟩ ⟨by omega, by show 8 + (zmax z + 11) + (29 * d + 88) ≤ _; omega⟩, hst, trivial⟩
        ⟨hblind, hpre⟩ rfl (by rw [List.length_map]; exact o1) hL.1 rfl (hroom _ rfl) hdg hcs) kret
    · simp at hz9
  | invokespecial i =>
    obtain rfl : len = 3 := zlen_of hlen
    simp only [zcalls] at hz9
    have hcons : ∃ a As', As = .ref a :: As' ∧ stat = false := by
      split at hz9
      · cases hz9
        rw [Bool.false_or] at o5
        cases As with
        | nil => simp at o5
        | cons v0 As' =>
          cases v0 with
          | ref a => exact ⟨a, As', rfl, rfl⟩
          | _ => simp at o5
      · cases hz9
        rw [Bool.false_or] at o5
        cases As with
        | nil => simp at o5
        | cons v0 As' =>
          cases v0 with
          | ref a => exact ⟨a, As', rfl, rfl⟩
          | _ => simp at o5
      · simp at hz9
    obtain ⟨a, As', rfl, rfl⟩ := hcons
    split at hz9
    · rename_i z' k9 hp
      cases hz9
      obtain ⟨hpk, -⟩ := zpool_ok hp
      simp only [zpk, zmk, Bool.and_eq_true, decide_eq_true_eq, Bool.false_or, cond_false] at hpk
      obtain ⟨⟨⟨⟨⟨⟨⟨⟨⟨⟨m1, m2⟩, m3⟩, m4⟩, m5⟩, m6⟩, m7⟩, m8⟩, hem⟩, hnm⟩, hrt⟩ := hpk
      have m5 := Nat.le_of_ble_eq_true m5
      have hwd : zwd z = .code (zname z) (zbyt z) (zmax z) none := by unfold zwd; rw [hem, hrt]; rfl
      rw [hmap, List.map_cons, List.reverse_cons, List.append_assoc]
      have hgi : GoodIn (lw_tbl.filter goodWord) (zwd z :: lw_tbl.filter goodWord) := zgoodIn fun w h9 => by
        rcases List.mem_cons.mp h9 with rfl | h9
        · exact zpw hp (by simp [zws]) (zwd_X z)
        · exact h9
      have hini := zgood hw (.initialized (zname z).cls) (by rw [m7]; exact zpw hp (by simp [zws]) rfl)
      exact zrunV hS hL hc hz hl1 hs1 (va_runI (b := n0 + a) (As := As'.map (zw n0)) hfix (zplain hM (hmt rfl)) (cwI (znar z - 1) (zgood hw) hgi (by rw [hwd]) rfl rfl hini (zgood hw _ (zpw hp (by simp [zws]) rfl)) (zgood hw _ (zpw hp (by simp [zws]) rfl)) hnm ⟨m2, m3, m4⟩ ⟨by omega, by show 8 + (zmax z + 11) + (29 * d + 88) ≤ _; omega⟩)
        ⟨hblind, hpre⟩ rfl (by rw [List.length_map, ← o1]; rfl) hL.1 rfl (hroom _ rfl) hdg hcs) kret
    · rename_i z' k9 hp
      cases hz9
      obtain ⟨hpk, -⟩ := zpool_ok hp
      simp only [zpk, zmk, Bool.and_eq_true, decide_eq_true_eq, Bool.false_or, cond_false] at hpk
      obtain ⟨⟨⟨⟨⟨⟨⟨⟨⟨⟨m1, m2⟩, m3⟩, m4⟩, m5⟩, m6⟩, m7⟩, m8⟩, hem⟩, hnm⟩, hrt⟩ := hpk
      have m5 := Nat.le_of_ble_eq_true m5
      have hwd : zwd z = .code (zname z) (zbyt z) (zmax z) none := by unfold zwd; rw [hem, hrt]; rfl
      rw [hmap, List.map_cons, List.reverse_cons, List.append_assoc]
      have hgi : GoodIn (lw_tbl.filter goodWord) (zwd z :: lw_tbl.filter goodWord) := zgoodIn fun w h9 => by
        rcases List.mem_cons.mp h9 with rfl | h9
        · exact zpw hp (by simp [zws]) (zwd_X z)
        · exact h9
      have hnest : va_Nw (.methodLinkNest (zcn (zcls y)) i (zname z) RX2) s := hK.2.2.2.1 _ ((zpool_ok hp).2 _ (by simp [zws])).1 rfl
      have hini := zgood hw (.initialized (zname z).cls) (by rw [m7]; exact zpw hp (by simp [zws]) rfl)
      exact zrunV hS hL hc hz hl1 hs1 (va_runIN (b := n0 + a) (As := As'.map (zw n0)) hfix (zplain hM (hmt rfl)) ⟨va_cnB (znar z - 1) (zgood hw) hgi (by rw [hwd]) rfl rfl hnest hini ⟨m2, m3, m4⟩ ⟨by omega, by show 8 + (zmax z + 11) + (29 * d + 88) ≤ _; omega⟩, hnm, zgood hw _ (zpw hp (by simp [zws]) rfl)⟩
        ⟨hblind, hpre⟩ rfl (by rw [List.length_map, ← o1]; rfl) hL.1 rfl (hroom _ rfl) hdg hcs) kret
    · simp at hz9
  | _ => simp [zcalls] at hz9
end ZCL
end
section
/-! THE SMALL MACHINE'S RUNS ARE THE MACHINE'S -/
def zGrow (h h' : zH) : Prop := h' = h ∨ (∃ a q vs, h[a]? = some q ∧ vs.length = q.2.length ∧ h' = h.set a (q.1, vs)) ∨ ∃ q, h' = h ++ [q]
theorem zGrow.mono {h h' : zH} (g : zGrow h h') : h.length ≤ h'.length ∧ zsl h ≤ zsl h' := by
  rcases g with rfl | ⟨a, q, vs, h1, h2, rfl⟩ | ⟨q, rfl⟩
  · exact ⟨Nat.le_refl _, Nat.le_refl _⟩
  · exact ⟨by simp, by rw [zsl_set h1 h2]; exact Nat.le_refl _⟩
  · exact ⟨by simp, by rw [zsl_app]; omega⟩
theorem zwr_grow {nx : Nat} {L : List Value} {h : zH} {t : Nat} {v : Value} {i : Int32} {a : Nat} {r : List Value} {q : zC × zH} (hs : zwr nx L h t v i a r = some q) : zGrow h q.2 := by
  simp only [zwr] at hs
  cases ha : h[a]? with
  | none => simp [ha] at hs
  | some q9 =>
    simp only [ha] at hs
    cases hb9 : Nat.beq q9.1 t with
    | false => simp [hb9] at hs
    | true =>
      simp only [hb9, cond_true] at hs
      by_cases hi : i < 0
      · simp [hi] at hs
      · rw [if_neg hi] at hs
        by_cases hlt : i.toNatClampNeg < q9.2.length
        · rw [if_pos hlt] at hs
          cases hs
          exact Or.inr (Or.inl ⟨a, q9, _, ha, by simp, rfl⟩)
        · rw [if_neg hlt] at hs; simp at hs
set_option maxHeartbeats 1000000 in
theorem zsim_grow {sL : Nat} {sx : Nat → Int32} {y : Nat} {ins : Instr} {len pc : Nat} {L S : List Value} {h : zH} {q : zC × zH} (hs : zsim sL sx y ins len pc L S h = some q) : zGrow h q.2 := by
  cases ins with
  | putfield i =>
    simp only [zsim] at hs
    split at hs
    · rename_i ci k9 hp
      split at hs
      · rename_i v a r
        cases ha : h[a]? with
        | none => simp [ha] at hs
        | some q9 =>
          simp only [ha] at hs
          cases hb9 : (Nat.beq q9.1 (10 + ci) && zfits (zty ci k9) v && Nat.blt k9 q9.2.length && (!(zfd ci k9).2.2.2 || (Nat.beq (zcls y) ci && decide ((zname y).name = "<init>")))) with
          | false => simp [hb9] at hs
          | true =>
            simp only [hb9, cond_true] at hs
            cases hs
            exact Or.inr (Or.inl ⟨a, q9, _, ha, by simp, rfl⟩)
      · simp at hs
    · simp at hs
  | iastore => simp only [zsim] at hs; split at hs; exact zwr_grow hs; simp at hs
  | lastore => simp only [zsim] at hs; split at hs; exact zwr_grow hs; simp at hs
  | bastore =>
    simp only [zsim] at hs
    split at hs
    · split at hs
      · exact zwr_grow hs
      · simp at hs
    · simp at hs
  | aastore =>
    simp only [zsim] at hs
    split at hs
    · rename_i v i a r
      cases hq : h[v]? with
      | none => simp [hq] at hs
      | some q9 =>
        simp only [hq] at hs
        cases hb9 : Nat.beq q9.1 11 with
        | false => simp [hb9] at hs
        | true => simp only [hb9, cond_true] at hs; exact zwr_grow hs
    · simp at hs
  | newarray t =>
    simp only [zsim] at hs
    split at hs
    · split at hs
      · split at hs
        · simp at hs
        · split at hs
          · cases hs; exact Or.inr (Or.inr ⟨_, rfl⟩)
          · simp at hs
      · simp at hs
    · simp at hs
  | anewarray i =>
    simp only [zsim] at hs
    split at hs
    · split at hs
      · split at hs
        · simp at hs
        · split at hs
          · cases hs; exact Or.inr (Or.inr ⟨_, rfl⟩)
          · simp at hs
      · simp at hs
    · simp at hs
  | new i =>
    simp only [zsim] at hs
    split at hs
    · rename_i ci k9 hp
      cases hb9 : Nat.blt ci 4 with
      | false => simp [hb9] at hs
      | true =>
        simp only [hb9, cond_true] at hs
        cases hs
        exact Or.inr (Or.inr ⟨_, rfl⟩)
    · simp at hs
  | _ =>
    refine Or.inl ?_
    simp only [zsim, zpush, zldi, zldl, zlda, zsti, zsta, zstl, zii, zll, zjump, zrd, reduceCtorEq, cond_eq_ite] at hs
    try (repeat' split at hs)
    all_goals first | (cases hs; rfl) | (simp at hs; done) | (simp at hs; rw [← hs])
theorem zskip_same {d y : Nat} {ins : Instr} {pc : Nat} {L S : List Value} {h : zH} {q : zC × zH} (hs : zskip d y ins pc L S h = some q) : q.2 = h := by
  cases ins with
  | invokespecial i =>
    simp only [zskip, cond_eq_ite] at hs
    repeat' split at hs
    all_goals first | (cases hs; rfl) | (simp at hs; done)
  | invokestatic i =>
    simp only [zskip, cond_eq_ite] at hs
    repeat' split at hs
    all_goals first | (cases hs; rfl) | (simp at hs; done)
  | _ => simp [zskip] at hs
theorem zexec_mono {sL : Nat} {sx : Nat → Int32} : ∀ (n d y pc : Nat) (L S : List Value) (h : zH) (o : Outcome) (hF : zH), zexec sL sx n d y pc L S h = some (o, hF) → h.length ≤ hF.length ∧ zsl h ≤ zsl hF := by
  intro n
  induction n with
  | zero => intro d y pc L S h o hF hs; simp [zexec] at hs
  | succ n ih =>
    intro d y pc L S h o hF hs
    simp only [zexec] at hs
    cases hat : zat y pc with
    | none => simp [hat] at hs
    | some r0 =>
      obtain ⟨ins, len⟩ := r0
      simp only [hat] at hs
      cases he : zends y ins S with
      | some v =>
        simp only [he, Option.some.injEq, Prod.mk.injEq] at hs
        obtain ⟨rfl, rfl⟩ := hs
        exact ⟨Nat.le_refl _, Nat.le_refl _⟩
      | none =>
        simp only [he] at hs
        cases ht : zthr y ins with
        | some ex =>
          simp only [ht] at hs
          cases hb : zthrows d y pc S ex with
          | false => simp [hb] at hs
          | true =>
            simp only [hb, cond_true, Option.some.injEq, Prod.mk.injEq] at hs
            obtain ⟨rfl, rfl⟩ := hs
            exact (zGrow.mono (Or.inr (Or.inr ⟨_, rfl⟩)))
        | none =>
          simp only [ht] at hs
          cases hk : zskip d y ins pc L S h with
          | some r =>
            simp only [hk] at hs
            have := ih _ _ _ _ _ _ _ _ hs
            rw [zskip_same hk] at this
            exact this
          | none =>
            simp only [hk] at hs
            cases hc : zcalls y ins with
            | some r =>
              obtain ⟨z, stat, mt⟩ := r
              simp only [hc] at hs
              cases d with
              | zero => simp at hs
              | succ d' =>
                simp only at hs
                cases hok : zcallok z stat (S.take (znar z)).reverse (S.drop (znar z)) h with
                | false => simp [hok] at hs
                | true =>
                  simp only [hok, cond_true] at hs
                  cases hx : zexec sL sx n d' z 0 (zent (zmax z) (S.take (znar z)).reverse) [] h with
                  | none => simp [hx] at hs
                  | some r1 =>
                    obtain ⟨o1, h1⟩ := r1
                    simp only [hx] at hs
                    have m1 := ih _ _ _ _ _ _ _ _ hx
                    cases o1 with
                    | returned v =>
                      simp only at hs
                      have m2 := ih _ _ _ _ _ _ _ _ hs
                      omega
                    | threw ex =>
                      simp only at hs
                      cases mt with
                      | false => simp at hs
                      | true =>
                        simp only [cond_true] at hs
                        cases hy : (zhan y).isEmpty with
                        | true =>
                          simp only [hy, cond_true, Option.some.injEq, Prod.mk.injEq] at hs
                          obtain ⟨rfl, rfl⟩ := hs
                          exact m1
                        | false =>
                          simp only [hy, cond_false] at hs
                          cases hca : zcatch y pc ex (zhan y) with
                          | none => simp [hca] at hs
                          | some hp =>
                            simp only [hca] at hs
                            cases hL : L.all (fun v => !decide (v = .retAddr 2)) with
                            | false => simp [hL] at hs
                            | true =>
                              simp only [hL, cond_true] at hs
                              have m2 := ih _ _ _ _ _ _ _ _ hs
                              omega
            | none =>
              simp only [hc] at hs
              cases hsm : zsim sL sx y ins len pc L S h with
              | none => simp [hsm] at hs
              | some r =>
                simp only [hsm] at hs
                have m1 := (zsim_grow hsm).mono
                have m2 := ih _ _ _ _ _ _ _ _ hs
                omega
section ZM
variable {sL : Nat} {sx : Nat → Int32} {b n0 : Nat} {ext : Nat → Nat} {D : va_G} {aC : Nat → ClassId} {p : Program} {l : Launch} {e : Env} {R : Room} {s : State} {m : MethodId} {args : Array Value} {below : List Frame} {meth : Method} {c : Code} {y d F1 F2 M1 M2 : Nat} {Q : State → Prop}
variable {len pc pc' : Nat} {L L' S S' : List Value} {h h' : zH}
theorem zs_sim (hCx : zCx sL sx b n0 D aC p R s m args meth c y d) (hM1 : M1 ≤ R.cells) (hM2 : M2 ≤ R.slots) (hext : ext 1 = b) {ins : Instr} (hh : zHere y pc len ins) (hs : zsim sL sx y ins len pc L S h = some ((pc', L', S'), h')) (hF1 : h'.length ≤ F1) (hF2 : zsl h' ≤ F2)
    (k : zG n0 ext D aC p l e R s m args below meth c y F1 F2 M1 M2 Q pc' L' S' h') : zG n0 ext D aC p l e R s m args below meth c y F1 F2 M1 M2 Q pc L S h := by
  cases ins with
  | iconst n => exact zs_iconst hCx hh hs k
  | bipush n => exact zs_bipush hCx hh hs k
  | sipush n => exact zs_sipush hCx hh hs k
  | lconst n => exact zs_lconst hCx hh hs k
  | aconst_null => exact zs_null hCx hh hs k
  | ldc i => exact zs_ldc hCx hh hs k
  | ldc2_w i => exact zs_ldc2 hCx hh hs k
  | iload i => exact zs_iload hCx hh hs k
  | iload_n i => exact zs_iload_n hCx hh hs k
  | lload i => exact zs_lload hCx hh hs k
  | lload_n i => exact zs_lload_n hCx hh hs k
  | aload i => exact zs_aload hCx hh hs k
  | aload_n i => exact zs_aload_n hCx hh hs k
  | istore i => exact zs_istore hCx hh hs k
  | istore_n i => exact zs_istore_n hCx hh hs k
  | astore i => exact zs_astore hCx hh hs k
  | astore_n i => exact zs_astore_n hCx hh hs k
  | lstore i => exact zs_lstore hCx hh hs k
  | lstore_n i => exact zs_lstore_n hCx hh hs k
  | iinc i n => exact zs_iinc hCx hh hs k
  | iadd => exact zs_iadd hCx hh hs k
  | isub => exact zs_isub hCx hh hs k
  | imul => exact zs_imul hCx hh hs k
  | iand => exact zs_iand hCx hh hs k
  | ior => exact zs_ior hCx hh hs k
  | ishl => exact zs_ishl hCx hh hs k
  | ladd => exact zs_ladd hCx hh hs k
  | land => exact zs_land hCx hh hs k
  | lor => exact zs_lor hCx hh hs k
  | lshl => exact zs_lshl hCx hh hs k
  | i2l => exact zs_i2l hCx hh hs k
  | lcmp => exact zs_lcmp hCx hh hs k
  | dup => exact zs_dup hCx hh hs k
  | dup2 => exact zs_dup2 hCx hh hs k
  | goto off => exact zs_goto hCx hh hs k
  | ifCond cd off =>
    cases cd with
    | eq => exact zs_ifc_eq hCx hh hs k
    | ne => exact zs_ifc_ne hCx hh hs k
    | lt => exact zs_ifc_lt hCx hh hs k
    | ge => exact zs_ifc_ge hCx hh hs k
    | gt => exact zs_ifc_gt hCx hh hs k
    | le => exact zs_ifc_le hCx hh hs k
  | if_icmp cd off =>
    cases cd with
    | eq => exact zs_icmp_eq hCx hh hs k
    | ne => exact zs_icmp_ne hCx hh hs k
    | lt => exact zs_icmp_lt hCx hh hs k
    | ge => exact zs_icmp_ge hCx hh hs k
    | gt => exact zs_icmp_gt hCx hh hs k
    | le => exact zs_icmp_le hCx hh hs k
  | if_acmp cd off =>
    cases cd with
    | eq => exact zs_acmp_eq hCx hh hs k
    | ne => exact zs_acmp_ne hCx hh hs k
  | ifnull off => exact zs_ifnull hCx hh hs k
  | ifnonnull off => exact zs_ifnonnull hCx hh hs k
  | tableswitch df lo hi offs => exact zs_tableswitch hCx hh hs k
  | getfield i => exact zs_getfield hCx hh hs k
  | putfield i => exact zs_putfield hCx hh hs k
  | iaload => exact zs_iaload hCx hext hh hs k
  | laload => exact zs_laload hCx hh hs k
  | baload => exact zs_baload hCx hh hs k
  | aaload => exact zs_aaload hCx hh hs k
  | iastore => exact zs_iastore hCx hh hs k
  | lastore => exact zs_lastore hCx hh hs k
  | bastore => exact zs_bastore hCx hh hs k
  | aastore => exact zs_aastore hCx hh hs k
  | arraylength => exact zs_arraylength hCx hext hh hs k
  | newarray t => exact zs_newarray hCx hM1 hM2 hh hs hF1 hF2 k
  | anewarray i => exact zs_anewarray hCx hM1 hM2 hh hs hF1 hF2 k
  | new i => exact zs_new hCx hM1 hM2 hh hs hF1 hF2 k
  | _ => simp [zsim] at hs
theorem zpz {i : Nat} {r : Nat × Nat × Nat} (hp : zpool y i = some r) : i ≠ 0 := by
  have hin := zlook_in hp
  have h0 : ∀ q ∈ zP_0, q.1 ≠ 0 := by decide +kernel
  have h1 : ∀ q ∈ zP_1, q.1 ≠ 0 := by decide +kernel
  have h2 : ∀ q ∈ zP_2, q.1 ≠ 0 := by decide +kernel
  have h3 : ∀ q ∈ zP_3, q.1 ≠ 0 := by decide +kernel
  have h4 : ∀ q ∈ zP_4, q.1 ≠ 0 := by decide +kernel
  rcases (show zcls y = 0 ∨ zcls y = 1 ∨ zcls y = 2 ∨ zcls y = 3 ∨ zcls y = 4 ∨ 5 ≤ zcls y by omega) with q | q | q | q | q | q
  · rw [q] at hin; exact h0 _ hin
  · rw [q] at hin; exact h1 _ hin
  · rw [q] at hin; exact h2 _ hin
  · rw [q] at hin; exact h3 _ hin
  · rw [q] at hin; exact h4 _ hin
  · have : zPs.getD (zcls y) [] = [] := by
      rw [List.getD_eq_getElem?_getD, List.getElem?_eq_none (by show 5 ≤ _; exact q)]; rfl
    rw [this] at hin
    cases hin
theorem zcatch_split {ex hp : Nat} : ∀ {hh : List (Nat × Nat × Nat × Nat)}, zcatch y pc ex hh = some hp → ∃ pre q suf k, hh = pre ++ q :: suf ∧ covers ⟨q.1, q.2.1, q.2.2.1, q.2.2.2⟩ pc = true ∧ q.2.2.1 = hp ∧ zpool y q.2.2.2 = some (7, ex, k) ∧
    ∀ z ∈ pre, covers ⟨z.1, z.2.1, z.2.2.1, z.2.2.2⟩ pc = false ∨ ∃ e2 k2, zpool y z.2.2.2 = some (7, e2, k2) ∧ ex ≠ e2 := by
  intro hh
  induction hh with
  | nil => intro h9; simp [zcatch] at h9
  | cons z r ih =>
    intro h9
    obtain ⟨a, b9, hp9, ct⟩ := z
    simp only [zcatch] at h9
    have hcov : covers ⟨a, b9, hp9, ct⟩ pc = (Nat.ble a pc && Nat.blt pc b9) := by
      simp only [covers]
      rw [Bool.eq_iff_iff]
      simp [Nat.ble_eq, Nat.blt]
      omega
    cases hb9 : (Nat.ble a pc && Nat.blt pc b9) with
    | false =>
      rw [hb9] at h9
      obtain ⟨pre, q, suf, k, e1, e2, e3, e4, e5⟩ := ih h9
      refine ⟨(a, b9, hp9, ct) :: pre, q, suf, k, by rw [e1]; rfl, e2, e3, e4, fun z hz => ?_⟩
      rcases List.mem_cons.mp hz with rfl | hz
      · exact Or.inl (hcov.trans hb9)
      · exact e5 z hz
    | true =>
      rw [hb9] at h9
      simp only [cond_true] at h9
      split at h9
      · rename_i e2 k2 hpl
        cases hq : Nat.beq e2 ex with
        | true =>
          simp only [hq, cond_true, Option.some.injEq] at h9
          have := Nat.eq_of_beq_eq_true hq
          subst this
          exact ⟨[], (a, b9, hp9, ct), r, k2, rfl, hcov.trans hb9, h9, hpl, fun z hz => by cases hz⟩
        | false =>
          simp only [hq, cond_false] at h9
          obtain ⟨pre, q, suf, k, g1, g2, g3, g4, g5⟩ := ih h9
          refine ⟨(a, b9, hp9, ct) :: pre, q, suf, k, by rw [g1]; rfl, g2, g3, g4, fun z hz => ?_⟩
          rcases List.mem_cons.mp hz with rfl | hz
          · exact Or.inr ⟨e2, k2, hpl, fun h8 => by rw [h8, Nat.beq_refl] at hq; cases hq⟩
          · exact g5 z hz
      · simp at h9
theorem zs_catch (hCx : zCx sL sx b n0 D aC p R s m args meth c y d) {ex hp : Nat} (hca : zcatch y pc ex (zhan y) = some hp) (hL2 : L.all (fun v => !decide (v = .retAddr 2)) = true)
    (k : ∀ ext', ext' 1 = ext 1 → zG n0 ext' D aC p l e R s m args below meth c y F1 F2 M1 M2 Q hp L [.retAddr 2] h) : zGX n0 ext D aC p l e R s m args below meth c y F1 F2 M1 M2 Q pc L S h ex := by
  obtain ⟨⟨hx, hb, hr, hml, hown⟩, hw, htab, -, -, -, hK, -⟩ := id hCx
  intro H locs cells slots ls q ce hR hS hL hc hz hex hce hcv hcl
  obtain ⟨pre, q9, suf, k9, e1, e2, e3, e4, e5⟩ := zcatch_split hca
  have hsplit : c.exceptionTable.toList = tableOf pre ++ (⟨q9.1, q9.2.1, q9.2.2.1, q9.2.2.2⟩ : ExceptionTableEntry) :: tableOf suf := by
    rw [htab, e1]; simp [tableOf]
  refine vx_catch hown (tableOf pre) _ (tableOf suf) hsplit (fun z hz => ?_) e2 (zpz e4) (name := zen ex) (E := zen ex) (zany hw hK e4 (by simp [zws])) (zany hw hK e4 (by simp [zws])) hce hcv hcl ?_
  · obtain ⟨z0, hz0, rfl⟩ := List.mem_map.mp hz
    rcases e5 z0 hz0 with g | ⟨ey, k2, g1, g2⟩
    · exact Or.inl g
    · obtain ⟨hpk, -⟩ := zpool_ok g1
      have hy6 : ey < 6 := Nat.le_of_ble_eq_true hpk
      exact Or.inr ⟨zpz g1, zen ey, zany hw hK g1 (by simp [zws]), hK.2.2.2.2.2 ex ey hex hy6 g2⟩
  · have k8 := k (fun i => if i = 2 then q else ext i) (by simp) H locs cells slots ls hR hS ⟨hL.1, hL.2.1, hL.2.2.1, fun i v hv hu => ?_⟩ hc hz
    · rw [e3] at *
      simpa [zv] using k8
    · have h9 := hL.2.2.2 i v hv hu
      have h2 := List.all_eq_true.mp hL2 v (List.mem_of_getElem? hv)
      have : zv n0 (fun i => if i = 2 then q else ext i) v = zv n0 ext v := by
        cases v <;> try rfl
        rename_i j
        simp only [zv]
        have : j ≠ 2 := fun h8 => by subst h8; simp at h2
        simp [this]
      rw [this]; exact h9
theorem zent_at {As : List Value} : ((As.flatMap fun v => bif zwide v then [v, Value.retAddr 0] else [v]).length = (lg_sl (As.map (zw n0))).length) ∧ ∀ (i : Nat) (v : Value), (As.flatMap fun v => bif zwide v then [v, Value.retAddr 0] else [v])[i]? = some v → v ≠ .retAddr 0 → (lg_sl (As.map (zw n0)))[i]? = some (.val (zw n0 v)) := by
  induction As with
  | nil => exact ⟨rfl, fun i v h => by simp at h⟩
  | cons a t ih =>
    have hcat : (zw n0 a).category = a.category := zv_cat n0 _ a
    cases hw : zwide a with
    | true =>
      have h2 : a.category = 2 := Nat.eq_of_beq_eq_true hw
      have hl : lg_sl ((a :: t).map (zw n0)) = Slot.val (zw n0 a) :: Slot.second :: lg_sl (t.map (zw n0)) := by simp [lg_sl, hcat, h2]
      have hf : ((a :: t).flatMap fun v => bif zwide v then [v, Value.retAddr 0] else [v]) = a :: Value.retAddr 0 :: (t.flatMap fun v => bif zwide v then [v, Value.retAddr 0] else [v]) := by simp [hw]
      rw [hl, hf]
      refine ⟨by simp [ih.1], fun i v h9 hv => ?_⟩
      match i, h9 with
      | 0, h9 => simp at h9; rw [← h9]; rfl
      | 1, h9 => simp at h9; exact absurd h9.symm hv
      | i + 2, h9 => simp at h9 ⊢; exact ih.2 i v (by simpa using h9) hv
    | false =>
      have h2 : ¬ a.category = 2 := fun h9 => by simp [zwide, h9] at hw
      have hl : lg_sl ((a :: t).map (zw n0)) = Slot.val (zw n0 a) :: lg_sl (t.map (zw n0)) := by simp [lg_sl, hcat, h2]
      have hf : ((a :: t).flatMap fun v => bif zwide v then [v, Value.retAddr 0] else [v]) = a :: (t.flatMap fun v => bif zwide v then [v, Value.retAddr 0] else [v]) := by simp [hw]
      rw [hl, hf]
      refine ⟨by simp [ih.1], fun i v h9 hv => ?_⟩
      match i, h9 with
      | 0, h9 => simp at h9; rw [← h9]; rfl
      | i + 1, h9 => simp at h9 ⊢; exact ih.2 i v (by simpa using h9) hv
theorem zLs_entry {mx : Nat} {As : List Value} (hA : As.all zok = true) (hlen : (As.flatMap fun v => bif zwide v then [v, Value.retAddr 0] else [v]).length ≤ mx) :
    zLs n0 ext mx (zent mx As) ((lg_sl (As.map (zw n0)) ++ List.replicate (mx - (lg_sl (As.map (zw n0))).length) Slot.unset).toArray) := by
  obtain ⟨h1, h2⟩ := zent_at (n0 := n0) (As := As)
  have h3 := lv_entry (As.map (zw n0)) (n := mx) (by rw [← h1]; exact hlen)
  refine ⟨h3.1, by simp only [zent, List.length_append, List.length_replicate]; omega, h3.2.1, fun i v hv hu => ?_⟩
  have hok : ∀ w ∈ (As.flatMap fun v => bif zwide v then [v, Value.retAddr 0] else [v]), w ≠ .retAddr 0 → zok w = true := by
    intro w hw9 hn
    obtain ⟨a, ha, hwa⟩ := List.mem_flatMap.mp hw9
    cases hwd : zwide a with
    | true =>
      rw [hwd] at hwa
      simp at hwa
      rcases hwa with rfl | rfl
      · exact List.all_eq_true.mp hA _ ha
      · exact absurd rfl hn
    | false =>
      rw [hwd] at hwa
      simp at hwa
      rw [hwa]; exact List.all_eq_true.mp hA _ ha
  simp only [zent] at hv
  by_cases hi : i < (As.flatMap fun v => bif zwide v then [v, Value.retAddr 0] else [v]).length
  · rw [List.getElem?_append_left hi] at hv
    have h4 := h2 i v hv hu
    rw [zv_ok (hok v (List.mem_of_getElem? hv) hu)]
    rw [List.getElem?_toArray, List.getElem?_append_left (by rw [← h1]; exact hi)]
    exact h4
  · rw [List.getElem?_append_right (by omega)] at hv
    have := List.eq_of_mem_replicate (List.mem_of_getElem? hv)
    exact absurd this hu
end ZM
end
section
/-- what is proved by induction on the steps -/
def zP (l : Launch) (sL : Nat) (sx : Nat → Int32) (n : Nat) : Prop := ∀ (d y pc : Nat) (L S : List Value) (h : zH) (o : Outcome) (hF : zH), zexec sL sx n d y pc L S h = some (o, hF) →
  ∀ (b n0 : Nat) (ext : Nat → Nat) (D : va_G) (aC : Nat → ClassId) (p : Program) (e : Env) (R : Room) (s : State) (m : MethodId) (args : Array Value) (below : List Frame) (meth : Method) (c : Code) (M1 M2 : Nat),
    zCx sL sx b n0 D aC p R s m args meth c y d → M1 ≤ R.cells → M2 ≤ R.slots → ext 1 = b → zG n0 ext D aC p l e R s m args below meth c y hF.length (zsl hF) M1 M2 (zEnd D aC n0 below args s M1 M2 o hF) pc L S h
theorem zmet {l : Launch} {sL : Nat} {sx : Nat → Int32} {n : Nat} (ih : zP l sL sx n) {b n0 : Nat} {D : va_G} {aC : Nat → ClassId} {z d : Nat} {As : List Value} {h h1 : zH} {o : Outcome} (hex : zexec sL sx n d z 0 (zent (zmax z) As) [] h = some (o, h1)) (hA : As.all zok = true)
    (hlen : (As.flatMap fun v => bif zwide v then [v, Value.retAddr 0] else [v]).length ≤ zmax z) (hpn : plainName (zname z).cls = true) (hcn : (zname z).cls = zcn (zcls z)) : zMt l sL sx b n0 D aC z d As h o h1 := by
  obtain ⟨g1, g2⟩ := zexec_mono _ _ _ _ _ _ _ _ _ hex
  have key : ∀ (p : Program) (e : Env) (s : State) (m : MethodId) (args : Array Value) (below : List Frame) (meth : Method) (c : Code) (s₁ : State),
      BodyLoose p l (zname z) (headSpec (zwd z :: lw_tbl.filter goodWord) (zRm d (h1.length - h.length) (zsl h1 - zsl h))) (zbyt z) (zmax z) (zret z) e s m args below meth c s₁ → c.maxLocals = zmax z → c.exceptionTable.toList = tableOf (zhan z) → zPc sL sx b n0 D aC As h args s →
      W p l e (zRm d (h1.length - h.length) (zsl h1 - zsl h)) s m args below meth c s.heap [] 0 0 (zEnd D aC n0 below args s (h1.length - h.length) (zsl h1 - zsl h) o h1) (entryFrame m args (zmax z)) := by
    intro p e s m args below meth c s₁ B hml htab hPc
    obtain ⟨rfl, hR, hK, hUN, hX⟩ := hPc
    have hw : ∀ w ∈ lw_tbl, goodWord w = true → w.before (As.map (zw n0)).toArray s = true := fun w a1 a2 => atoms_spec (ws := zwd z :: lw_tbl.filter goodWord) B.pre w (List.mem_cons_of_mem _ (zfil a1 a2))
    have hown : s.vm.findClass (zcn (zcls z)) = some m.cls := by rw [← hcn]; exact findClass_of_methodNamed B.named
    have hCx : zCx sL sx b n0 D aC p (zRm d (h1.length - h.length) (zsl h1 - zsl h)) s m (As.map (zw n0)).toArray meth c z d :=
      ⟨⟨B.exec, B.bytes, B.returns, hml, hown⟩, hw, htab, B.notSynchronized, (name_of_methodNamed B.named B.method).1, ⟨Nat.le_refl _, Nat.le_refl _⟩, hK, hUN, hX, by rw [hR.1]; omega⟩
    have k9 := ih d z 0 (zent (zmax z) As) [] h o h1 hex b n0 (fun _ => b) D aC p e (zRm d (h1.length - h.length) (zsl h1 - zsl h)) s m (As.map (zw n0)).toArray below meth c (h1.length - h.length) (zsl h1 - zsl h) hCx (Nat.le_refl _) (Nat.le_refl _) rfl
    rw [lg_entry_eq]
    exact k9 s.heap [] 0 0 _ hR va_S.rf (zLs_entry hA hlen) (by omega) (by omega)
  cases hem : (zhan z).isEmpty with
  | true =>
    have hwd : zwd z = .code (zname z) (zbyt z) (zmax z) (zret z) := by unfold zwd; rw [hem]; rfl
    refine vx_ofW (cc := zbyt z) (maxL := zmax z) (ret := zret z) hpn (by rw [hwd]) ?_
    intro p e s m args below meth c s₁ B hml hno hPc
    refine key p e s m args below meth c s₁ B hml ?_ hPc
    rw [List.isEmpty_iff.mp hem]
    exact List.eq_nil_iff_forall_not_mem.mpr hno
  | false =>
    have hwd : zwd z = .codeWith (zname z) (zbyt z) (zmax z) (zret z) (zhan z) := by unfold zwd; rw [hem]; rfl
    refine vx_ofWH (cc := zbyt z) (maxL := zmax z) (ret := zret z) (hh := zhan z) hpn (by rw [hwd]) ?_
    intro p e s m args below meth c s₁ B hml hPc
    refine key p e s m args below meth c s₁ B hml ?_ hPc
    exact vx_table (x := zname z) B (atoms_spec (ws := zwd z :: lw_tbl.filter goodWord) B.pre _ (by rw [hwd]; exact List.mem_cons_self))
theorem zcall_mk {y : Nat} {ins : Instr} {z : Nat} {stat mt : Bool} (h : zcalls y ins = some (z, stat, mt)) : plainName (zname z).cls = true ∧ (zname z).cls = zcn (zcls z) := by
  have key : ∀ st, zmk z st = true → plainName (zname z).cls = true ∧ (zname z).cls = zcn (zcls z) := by
    intro st h9
    simp only [zmk, Bool.and_eq_true, decide_eq_true_eq] at h9
    exact ⟨h9.1.1.1.1.1.1.1, h9.1.2⟩
  cases ins with
  | invokevirtual i =>
    simp only [zcalls] at h
    split at h
    · rename_i z' k9 hp
      cases h
      obtain ⟨hpk, -⟩ := zpool_ok hp
      simp only [zpk, Bool.and_eq_true] at hpk
      exact key _ hpk.1.1
    · simp at h
  | invokestatic i =>
    simp only [zcalls] at h
    split at h
    · rename_i z' k9 hp
      cases h
      obtain ⟨hpk, -⟩ := zpool_ok hp
      simp only [zpk, Bool.and_eq_true] at hpk
      exact key _ hpk.1
    · rename_i z' k9 hp
      cases h
      obtain ⟨hpk, -⟩ := zpool_ok hp
      simp only [zpk, Bool.and_eq_true] at hpk
      exact key _ hpk.1
    · simp at h
  | invokespecial i =>
    simp only [zcalls] at h
    split at h
    · rename_i z' k9 hp
      cases h
      obtain ⟨hpk, -⟩ := zpool_ok hp
      simp only [zpk, Bool.and_eq_true] at hpk
      exact key _ hpk.1.1.1
    · rename_i z' k9 hp
      cases h
      obtain ⟨hpk, -⟩ := zpool_ok hp
      simp only [zpk, Bool.and_eq_true] at hpk
      exact key _ hpk.1.1.1
    · simp at h
  | _ => simp [zcalls] at h
theorem z_sound {l : Launch} (hl : l.stackTraces = false) {sL : Nat} {sx : Nat → Int32} : ∀ n, zP l sL sx n := by
  intro n
  induction n with
  | zero => intro d y pc L S h o hF hs; simp [zexec] at hs
  | succ n ih =>
    intro d y pc L S h o hF hs b n0 ext D aC p e R s m args below meth c M1 M2 hCx hM1 hM2 hext
    have hs0 := hs
    simp only [zexec] at hs
    cases hat : zat y pc with
    | none => simp [hat] at hs
    | some r0 =>
      obtain ⟨ins, len⟩ := r0
      have hh : zHere y pc len ins := ⟨(zat_ok hat).1, (zat_ok hat).2.1, (zat_ok hat).2.2.1⟩
      simp only [hat] at hs
      cases he : zends y ins S with
      | some v =>
        simp only [he, Option.some.injEq, Prod.mk.injEq] at hs
        obtain ⟨rfl, rfl⟩ := hs
        exact zs_ret hCx hh he
      | none =>
        simp only [he] at hs
        cases ht : zthr y ins with
        | some ex =>
          simp only [ht] at hs
          cases hb : zthrows d y pc S ex with
          | false => simp [hb] at hs
          | true =>
            simp only [hb, cond_true, Option.some.injEq, Prod.mk.injEq] at hs
            obtain ⟨rfl, rfl⟩ := hs
            exact zs_thr hl hCx hM1 hM2 hh ht hb
        | none =>
          simp only [ht] at hs
          cases hk : zskip d y ins pc L S h with
          | some r =>
            simp only [hk] at hs
            obtain ⟨⟨pc', L', S'⟩, h'⟩ := r
            have hm := zexec_mono _ _ _ _ _ _ _ _ _ hs
            exact zs_skip hCx hM1 hM2 hh hk hm.1 hm.2 (ih _ _ _ _ _ _ _ _ hs b n0 ext D aC p e R s m args below meth c M1 M2 hCx hM1 hM2 hext)
          | none =>
            simp only [hk] at hs
            cases hc : zcalls y ins with
            | some r =>
              obtain ⟨z, stat, mt⟩ := r
              simp only [hc] at hs
              cases d with
              | zero => simp at hs
              | succ d' =>
                simp only at hs
                cases hok : zcallok z stat (S.take (znar z)).reverse (S.drop (znar z)) h with
                | false => simp [hok] at hs
                | true =>
                  simp only [hok, cond_true] at hs
                  cases hx : zexec sL sx n d' z 0 (zent (zmax z) (S.take (znar z)).reverse) [] h with
                  | none => simp [hx] at hs
                  | some r1 =>
                    obtain ⟨o1, h1⟩ := r1
                    simp only [hx] at hs
                    have m1 := zexec_mono _ _ _ _ _ _ _ _ _ hx
                    obtain ⟨pn, cn⟩ := zcall_mk hc
                    have hok2 := hok
                    simp only [zcallok, Bool.and_eq_true] at hok2
                    have hM : zMt l sL sx b n0 D aC z d' (S.take (znar z)).reverse h o1 h1 := zmet ih hx hok2.1.1.1.2 (Nat.le_of_ble_eq_true hok2.1.2) pn cn
                    have hSt : S = (S.take (znar z)).reverse.reverse ++ S.drop (znar z) := by rw [List.reverse_reverse, List.take_append_drop]
                    have m2 : h1.length ≤ hF.length ∧ zsl h1 ≤ zsl hF := by
                      cases o1 with
                      | returned v => exact zexec_mono _ _ _ _ _ _ _ _ _ hs
                      | threw ex =>
                        simp only at hs
                        cases mt with
                        | false => simp at hs
                        | true =>
                          simp only [cond_true] at hs
                          cases hy : (zhan y).isEmpty with
                          | true =>
                            simp only [hy, cond_true, Option.some.injEq, Prod.mk.injEq] at hs
                            obtain ⟨rfl, rfl⟩ := hs
                            exact ⟨Nat.le_refl _, Nat.le_refl _⟩
                          | false =>
                            simp only [hy, cond_false] at hs
                            cases hca : zcatch y pc ex (zhan y) with
                            | none => simp [hca] at hs
                            | some hp =>
                              simp only [hca] at hs
                              cases hL : L.all (fun v => !decide (v = .retAddr 2)) with
                              | false => simp [hL] at hs
                              | true =>
                                simp only [hL, cond_true] at hs
                                exact zexec_mono _ _ _ _ _ _ _ _ _ hs
                    refine zs_call hCx hM1 hM2 hh hc hok hSt hM m1.1 m1.2 m2.1 m2.2 (fun v ho _ => ?_) (fun hmt ex ho => ?_) (fun hmt => ?_)
                    · subst ho
                      exact ih _ _ _ _ _ _ _ _ hs b n0 ext D aC p e R s m args below meth c M1 M2 hCx hM1 hM2 hext
                    · subst ho; subst hmt
                      simp only [cond_true] at hs
                      cases hy : (zhan y).isEmpty with
                      | true =>
                        simp only [hy, cond_true, Option.some.injEq, Prod.mk.injEq] at hs
                        obtain ⟨rfl, rfl⟩ := hs
                        intro H locs cells slots ls q ce hR hS hL hc9 hz9 hex hce hcv hcl
                        obtain ⟨-, -, htab, hlocks, -⟩ := hCx
                        exact vx_out (by rw [htab, List.isEmpty_iff.mp hy]; exact fun _ h9 => by cases h9) hlocks hce hcv hcl (fun t ht hA => ⟨ex, rfl, hex, rfl, by rw [ht]; exact hR, hS.F ht⟩) hS.2.2 (by omega) (by omega)
                      | false =>
                        simp only [hy, cond_false] at hs
                        cases hca : zcatch y pc ex (zhan y) with
                        | none => simp [hca] at hs
                        | some hp =>
                          simp only [hca] at hs
                          cases hL : L.all (fun v => !decide (v = .retAddr 2)) with
                          | false => simp [hL] at hs
                          | true =>
                            simp only [hL, cond_true] at hs
                            exact zs_catch hCx hca hL (fun ext' he' => ih _ _ _ _ _ _ _ _ hs b n0 ext' D aC p e R s m args below meth c M1 M2 hCx hM1 hM2 (he'.trans hext))
                    · subst hmt
                      cases o1 with
                      | returned v => exact ⟨v, rfl⟩
                      | threw ex => simp at hs
            | none =>
              simp only [hc] at hs
              cases hsm : zsim sL sx y ins len pc L S h with
              | none => simp [hsm] at hs
              | some r =>
                simp only [hsm] at hs
                obtain ⟨⟨pc', L', S'⟩, h'⟩ := r
                have hm := zexec_mono _ _ _ _ _ _ _ _ _ hs
                exact zs_sim hCx hM1 hM2 hext hh hsm hm.1 hm.2 (ih _ _ _ _ _ _ _ _ hs b n0 ext D aC p e R s m args below meth c M1 M2 hCx hM1 hM2 hext)
end
section
/-! THE CLAIM OUT OF ONE WALK OF THE LAW'S BODY. Your part is whole_start (and what it stands on); all else here is the same for every law, but numbers. -/
def R_law : String := "UnitRowsLaw"
def lw_P (b : Addr) (xs : List Int32) (args : Array Value) (s : State) : Prop := args = #[.ref b] ∧ s.IntsAt b xs ∧ xs.length ≤ 2560 ∧ (Jvm.Cond.and given_1 narrow_1).before args s = true
def lw_Q (_ : Array Value) (s : State) (o : Outcome) (t : State) : Prop := o = .returned (some (.int 1)) ∧ Framed s o t [] 601024 7293034
def lw_Z (below : List Frame) (a : Array Value) (s : State) : State → Prop := fun t => ∃ o, t.status = .running ∧ Ended t below o ∧ lw_Q a s o t
/-- the law's own end, with 1 on the stack, nothing written that was there before, its room as the claim has it -/
theorem lw_ret {p : Program} {l : Launch} {e : Env} {s : State} {m : MethodId} {below : List Frame} {meth : Method} {c : Code} {b : Nat} (hx : p.tables.exec = Jvm.exec) (hb : c.code = code) (hr : meth.sig.returnType = ret) (hlocks : meth.locks = false) {pc : Nat} {H : Heap} {ls : Array Slot} (hdg : decode code pc = .ok (.ireturn, 1)) : W p l e room_1 s m #[Value.ref b] below meth c H [] 601024 7293034 (lw_Z below #[Value.ref b] s) (F0 m pc ls [.int 1]) := by
  intro T hT X
  obtain ⟨fs, hret, hrun, hended, hW, hframe⟩ := X.leave (v := some (.int 1)) (hlocks := hlocks) (fun h => by rw [hr] at h; cases h)
  have hmeth' : T.vm.method? m = some meth := X.method'
  refine ⟨T.setFrames fs, ?_, .returned (some (.int 1)), hrun, hended, rfl, ⟨_, rfl⟩, hW, hframe⟩
  jvm_step X.here [X.here.top, hx, hb, hdg, hmeth', hr, ret, narrow_b1]
  (try refine ⟨rfl, ?_⟩); (try refine ⟨rfl, ?_⟩)
  first | (intro acts; rw [hret _ acts rfl rfl rfl]) | rw [hret _ _ rfl rfl rfl]
  exact Steps.refl _
/-- what holds at the law's entry: the machine, the code, the tables' words (any of lw_tbl by 'hts w (by decide +kernel)'), the script of L ints xs at the cell b, what the Statement gives of the start (any of its parts by flat_of_before) -/
def lw_At (p : Program) (s : State) (m : MethodId) (meth : Method) (c : Code) (b L : Nat) (xs : Nat → Int32) : Prop :=
  p.tables.exec = Jvm.exec ∧ c.code = code ∧ meth.sig.returnType = ret ∧ c.maxLocals = 8 ∧ s.vm.findClass R_law = some m.cls ∧ (∀ w ∈ lw_tbl, w.before #[Value.ref b] s = true) ∧ va_X b L xs s s.heap ∧ b < s.heap.size ∧ meth.locks = false ∧ (Jvm.Cond.and given_1 narrow_1).before #[Value.ref b] s = true
/-- what is left of the law: the small machine comes to its end with true on every script, in the room -/
def zPure : Prop := ∀ (L : Nat) (xs : Nat → Int32), L ≤ 2560 → ∃ (n : Nat) (hF : zH), zexec L xs n 12 123 0 (zent 8 [.retAddr 1]) [] [] = some (.returned (some (.int 1)), hF) ∧ hF.length ≤ 601024 ∧ zsl hF ≤ 7293034
theorem zst_in : ∀ q ∈ zSt, (Cond.stringRef (zcn q.1) q.2.1 q.2.2 ∈ lw_tbl) ∧ (Cond.exactly (.string (zcn q.1) q.2.1) "java/lang/String" ∈ flatC (Jvm.Cond.and given_1 narrow_1)) := by decide +kernel
theorem znc_in : ∀ e1, e1 < 6 → ∀ e2, e2 < 6 → e1 ≠ e2 → Cond.not (.castable (zen e1) (zen e2)) ∈ flatC (Jvm.Cond.and given_1 narrow_1) := by decide +kernel
theorem zun_in : Cond.isRef (.static Bundle.tN "UNASSIGNED_STACK" Bundle.steD) ∈ flatC (Jvm.Cond.and given_1 narrow_1) ∧ Cond.isRef (.static Bundle.tN "SUPPRESSED_SENTINEL" Bundle.listD) ∈ flatC (Jvm.Cond.and given_1 narrow_1) := by decide +kernel
theorem zun_w : (Cond.laysStatic Bundle.tN "UNASSIGNED_STACK" Bundle.steD ∈ lw_tbl ∧ Cond.laysStatic Bundle.tN "SUPPRESSED_SENTINEL" Bundle.listD ∈ lw_tbl) ∧ Cond.initialized Bundle.tN ∈ lw_tbl ∧ Cond.arrayOver (.object RX1) ∈ lw_tbl := by decide +kernel
theorem zin_w : ∀ ci, ci < 4 → Cond.instantiable (zcn ci) (znf ci) ∈ lw_tbl := by decide +kernel
theorem zlaw_is : zbyt 123 = code ∧ zret 123 = ret ∧ zmax 123 = 8 ∧ zhan 123 = [] ∧ zcls 123 = 4 ∧ zname 123 = x := ⟨rfl, rfl, rfl, rfl, rfl, rfl⟩
theorem zK_start {args : Array Value} {s : State} (hts : ∀ w ∈ lw_tbl, w.before args s = true) (hgv : (Jvm.Cond.and given_1 narrow_1).before args s = true) : ∃ (D : va_G) (aC : Nat → ClassId), zK D aC s := by
  have hfl := flat_of_before _ hgv
  have hsub : ∀ ci, ci < 4 → ∀ w ∈ u_ws (zcn ci) (zfd ci) (znf ci), w ∈ lw_tbl := fun ci hci w h => (List.mem_filter.mp (zlay_ok ci hci w h)).1
  have hk : ∀ ci, ∃ (cC : ClassId) (iS : Nat → Nat), ci < 4 → u_Kn s (zcn ci) (zfd ci) (znf ci) cC iS := by
    intro ci
    by_cases hci : ci < 4
    · obtain ⟨cC, iS, h⟩ := u_known (n := znf ci) hts (hsub ci hci) (hts _ (zin_w ci hci))
      exact ⟨cC, iS, fun _ => h⟩
    · exact ⟨0, fun _ => 0, fun h => absurd h hci⟩
  obtain ⟨cI, kI, compI, i1, i2, i3⟩ := Cond.arrayClass_spec (hts _ zar_ok.1.1)
  obtain ⟨cJ, kJ, compJ, j1, j2, j3⟩ := Cond.arrayClass_spec (hts _ zar_ok.1.2)
  obtain ⟨cB, kB, compB, b1, b2, b3⟩ := Cond.arrayClass_spec (hts _ zar_ok.2)
  obtain ⟨compU, cU, kU, u1, u2, u3, u4, u5⟩ := Cond.arrayOver_spec (hts _ zun_w.2.2)
  refine ⟨(fun ci => Classical.choose (hk ci), fun ci => Classical.choose (Classical.choose_spec (hk ci))), fun t => match t with | 0 => cI | 1 => cJ | 2 => cB | _ => cU, ?_⟩
  have hKn : ∀ ci, ci < 4 → u_Kn s (zcn ci) (zfd ci) (znf ci) (Classical.choose (hk ci)) (Classical.choose (Classical.choose_spec (hk ci))) := fun ci hci => Classical.choose_spec (Classical.choose_spec (hk ci)) hci
  refine ⟨hKn, fun t ht => ?_, hts _ zun_w.2.2, fun w hw hX => ?_, fun q hq => ?_, fun e1 e2 a1 a2 a3 => va_Nc.of (hfl _ (znc_in e1 a1 e2 a2 a3))⟩
  · rcases (show t = 0 ∨ t = 1 ∨ t = 2 ∨ t = 3 by omega) with rfl | rfl | rfl | rfl
    · exact ⟨i1, kI, compI, i2, i3, fun h => by cases h⟩
    · exact ⟨j1, kJ, compJ, j2, j3, fun h => by cases h⟩
    · exact ⟨b1, kB, compB, b2, b3, fun h => by cases h⟩
    · refine ⟨u5, kU, compU, u3, u4, fun _ => ?_⟩
      exact Option.some.inj (u1.symm.trans (hKn 1 (by omega)).2.1)
  · refine va_Nw.of ?_ (hts w hw)
    cases w <;> first | rfl | (simp [zisX] at hX)
  · obtain ⟨h1, h2⟩ := zst_in q hq
    obtain ⟨a, c, cA, kA, q1, -⟩ := Cond.exactly_spec (args := args) (first := s) (o := none) (s := s) (idx := []) (hfl _ h2)
    exact ⟨a, vk_R.of (hts _ h1) q1⟩
/-- THE LAW, from its entry -/
theorem whole_start (hpure : zPure) {p : Program} {e : Env} {s : State} {m : MethodId} {below : List Frame} {meth : Method} {c : Code} (l : Launch) (hl : l.stackTraces = false) {b L : Nat} {xs : Nat → Int32} (hL : L ≤ 2560) (C0 : lw_At p s m meth c b L xs) (hname : meth.name = x.name) (htab : c.exceptionTable.toList = []) : W p l e room_1 s m #[Value.ref b] below meth c s.heap [] 0 0 (lw_Z below #[Value.ref b] s) (entryFrame m ([Value.ref b] : List Value).toArray 8) := by
  obtain ⟨hx, hb, hr, hml, hown, hts, hX, hbl, hlocks, hgv⟩ := C0
  obtain ⟨D, aC, hK⟩ := zK_start hts hgv
  obtain ⟨n, hF, hex, hF1, hF2⟩ := hpure L xs hL
  have hfl := flat_of_before _ hgv
  have hnA : ∀ a : Nat, a < s.heap.size → ¬ (fun q => s.heap.size ≤ q) a := fun a h h2 => by simp only at h2; omega
  have hU := vx_Zqof (A := fun q => s.heap.size ≤ q) (hts _ zun_w.1.1) (hts _ zun_w.2.1) (hfl _ zun_in.1) hnA
  have hN := vx_Zqof (A := fun q => s.heap.size ≤ q) (hts _ zun_w.1.2) (hts _ zun_w.2.1) (hfl _ zun_in.2) hnA
  obtain ⟨g1, g2, g3, g4, g5, g6⟩ := zlaw_is
  have hCx : zCx L xs b s.heap.size D aC p room_1 s m #[Value.ref b] meth c 123 12 :=
    ⟨⟨hx, by rw [g1]; exact hb, by rw [g2]; exact hr, by rw [g3]; exact hml, by rw [g5]; exact hown⟩, fun w h _ => hts w h, by rw [g4]; exact htab, hlocks, by rw [g6]; exact hname, ⟨Nat.le_refl _, Nat.le_refl _⟩, hK, ⟨hU, hN⟩, ⟨hX, hbl⟩, Nat.le_refl _⟩
  have k9 := z_sound hl n 12 123 0 _ _ _ _ _ hex b s.heap.size (fun _ => b) D aC p e room_1 s m #[Value.ref b] below meth c hF.length (zsl hF) hCx hF1 hF2 rfl
  have hls : zLs s.heap.size (fun _ => b) 8 (zent 8 [.retAddr 1]) ((lg_sl [Value.ref b] ++ List.replicate (8 - (lg_sl [Value.ref b]).length) Slot.unset).toArray) := by
    have h3 := lv_entry [Value.ref b] (n := 8) (Nat.le_of_ble_eq_true rfl)
    refine ⟨h3.1, rfl, h3.2.1, fun i v hv hu => ?_⟩
    match i, hv with
    | 0, hv => cases hv; rfl
    | i + 1, hv =>
      have hz : zent 8 [.retAddr 1] = .retAddr 1 :: List.replicate 7 (.retAddr 0) := rfl
      rw [hz, List.getElem?_cons_succ] at hv
      exact absurd (List.eq_of_mem_replicate (List.mem_of_getElem? hv)) hu
  have k8 := k9 s.heap [] 0 0 _ ⟨by simp, fun k q h => by simp at h⟩ va_S.rf (by rw [g3]; exact hls) (by simp) (by simp [zsl])
  rw [lg_entry_eq]
  intro T hT X
  obtain ⟨t, a1, o, a2, a3, a4⟩ := k8 T hT X
  refine ⟨t, a1, o, a2, a3, ?_⟩
  rcases a4 with ⟨⟨v, c1, c2, -⟩, L9, ⟨⟨v2, f1⟩, f2, f3⟩, f4⟩ | ⟨q, -, E, ce, L9, ⟨ex, c1, -⟩, -⟩
  · cases c1
    refine ⟨c2, ⟨v2, f1⟩, f2, f3.weaken (fun y hy hlt => absurd (f4 y hy) (Nat.not_le.mpr hlt)) hF1 hF2⟩
  · cases c1
set_option maxHeartbeats 4000000 in
theorem lw_walk (hpure : zPure) (l : Launch) (hl : l.stackTraces = false) (b : Addr) (xs : List Int32) : MetFree l x (headSpec (Jvm.Cond.code x code maxLocals ret :: tables_1) room_1) (lw_P b xs) (fun _ _ _ _ _ => True) lw_Q := by
  refine MetFree.of_bodyS (code := code) (maxLocals := maxLocals) (ret := ret) (by decide) ?_ ?_
  · intro args s m h hn
    obtain ⟨meth, c, h1, h2, h3, h4, h5, h6, -, -⟩ := Cond.code_spec hn (atoms_spec (ws := Jvm.Cond.code x code maxLocals ret :: tables_1) h _ List.mem_cons_self)
    exact ⟨meth, c, h1, h2, h3, h4, h5, h6⟩
  · intro p e s m args below meth c s₁ B hml0 hP _
    obtain ⟨rfl, hx, hbd, hgv⟩ := hP
    obtain ⟨scr, harrAt, hlist, hof, hsmall⟩ := hx
    obtain ⟨hcb, hkn, -, -⟩ := State.arrayAt?_spec harrAt
    have hown : s.vm.findClass R_law = some m.cls := findClass_of_methodNamed B.named
    have hts0 : ∀ c ∈ (Jvm.Cond.code x code maxLocals ret :: tables_1), c.before #[Value.ref b] s = true := atoms_spec (ws := Jvm.Cond.code x code maxLocals ret :: tables_1) B.pre
    have hts : ∀ w ∈ lw_tbl, w.before #[Value.ref b] s = true := k2_hts_sels lw_privs (fun w hw => hts0 w (List.mem_cons_of_mem _ hw)) lw_privs_ok
    have hml : c.maxLocals = 8 := B.maxLocals_eq (hts0 _ List.mem_cons_self)
    have X₀ : Stand p l e room_1 s m #[Value.ref b] below meth c s₁ [] 0 0 := Stand.of_body B
    have hh0 : s₁.heap = s.heap := by rw [B.state]; rfl
    have hsz : scr.slots.size = xs.length := by rw [← Array.length_toList, hlist, List.length_map]
    have hval : ∀ j : Nat, j < xs.length → scr.slots[j]? = some (.int (xs.getD j 0)) := fun j hj => by
      rw [← Array.getElem?_toList, hlist]
      simp [hj]
    have hbl : b < s.heap.size := (Array.getElem?_eq_some_iff.mp hcb).1
    have hX : va_X b xs.length (fun j => xs.getD j 0) s s.heap := ⟨scr, hcb, hof, hkn, hsz, hval⟩
    have K : W p l e room_1 s m #[Value.ref b] below meth c s₁.heap [] 0 0 (lw_Z below #[Value.ref b] s) (entryFrame m ([Value.ref b] : List Value).toArray 8) := by
      rw [hh0]
      exact whole_start hpure l hl hbd ⟨B.exec, B.bytes, B.returns, hml, hown, hts, hX, hbl, B.notSynchronized, hgv⟩ (name_of_methodNamed B.named B.method).1 (Array.isEmpty_iff.mp (B.noHandlers (hts0 _ List.mem_cons_self)) ▸ rfl)
    obtain ⟨t, a1, o, b1, b2, b3⟩ := K s₁ rfl X₀
    exact ⟨t, o, a1, b1, b2, b3⟩
theorem lw_pre_spec {args : Array Value} {s : State} (h : (Jvm.Cond.and given_1 narrow_1).before args s = true) (hr : rest_1_c.before args s = true) : ∃ (b : Addr) (xs : List Int32), lw_P b xs args s := by
  have hs := flat_of_before _ h
  have hq := flat_of_before _ hr
  have hc : (Cond.count 1).before args s = true := hs _ (by decide +kernel)
  have harr : (Cond.arrayOf (.arg 0) .int).before args s = true := hs _ (by decide +kernel)
  have hle : (Cond.le (.length (.arg 0)) (.int 2560)).before args s = true := hs _ (by decide +kernel)
  have hlen : (Cond.isInt (.length (.arg 0))).before args s = true := hq _ (by decide +kernel)
  have hall : (Cond.all (.arg 0) (.isInt (.elem (.arg 0) (.index 0)))).before args s = true := hq _ (by decide +kernel)
  obtain ⟨b, xs, hb, hx⟩ := State.ints_of_pre rfl harr hlen hall
  have hsm : xs.length < 2 ^ 31 := hx.choose_spec.2.2.2
  have hev : (Term.length (.arg 0)).eval args s none [] s = some (.int xs.length.toInt32) := hx.length_eval hb
  have hv := Cond.le_ints hev (show (Term.int 2560).eval args s none [] s = some (.int 2560) from rfl)
  have hd : xs.length.toInt32 ≤ 2560 := by
    simpa [Cond.before, Cond.holds, hv] using hle
  have hN : xs.length ≤ 2560 := (Int32.ofNat_le_ofNat hsm (by decide)).mp (show Int32.ofNat xs.length ≤ Int32.ofNat 2560 from hd)
  exact ⟨b, xs, Cond.one_arg hc (show args[0]? = some (.ref b) from hb), hx, hN, h⟩
theorem lw_comes (hpure : zPure) (l : Launch) (hl : l.stackTraces = false) : Comes l x (Jvm.Cond.code x code maxLocals ret :: tables_1) room_1 (fun tb e args s => Calls_1 tb e args s ∧ rest_1 tb e args s ∧ Pre_1 tb e args s)
    (fun _ _ args s o t => lw_Q args s o t) := by
  intro p e ha hc hk s m args below hf hfit hheap happ hpre
  obtain ⟨b, xs, hP⟩ := lw_pre_spec hpre.2.2 hpre.2.1
  obtain ⟨k, o, h1, h2, h3, hQ⟩ := lw_walk hpure l hl b xs p e ha hc hk s m args below hf ((Spec.applies_iff_loose hf).mp happ).1 hP trivial
  exact ⟨k, o, h1, h2, h3, hQ⟩
theorem lw_frame {s t : State} {o : Outcome} {args : Array Value} (h : Framed s o t [] 601024 7293034) :
    Framed s o t (fieldLocs frame_1_writes args s ++ arrayLocs frame_1_arrays args s ++ staticLocs frame_1_statics s) 601024 7293034 := h
theorem lw_limb (hpure : zPure) (L : Cond) (hL : ∀ (args : Array Value) (s t : State), L.after args s (.returned (some (.int 1))) t = true) :
    ArmFor flags0 classFile x code maxLocals ret World_1 tables_1 room_1 Calls_1 rest_1 Pre_1
      (fun tb e a s o t => postC L tb e a s o t ∧ Framed s o t (fieldLocs frame_1_writes a s ++ arrayLocs frame_1_arrays a s ++ staticLocs frame_1_statics s) 601024 7293034) := by
  intro l hfl _ _ p e ha hc hk s m args below hf hfit hheap happ hpre
  obtain ⟨k, o, h1, h2, h3, rfl, hF⟩ := lw_comes hpure l (by unfold Launch.stackTraces; rw [hfl]; decide +kernel) p e ha hc hk s m args below hf hfit hheap happ hpre
  exact ⟨k, _, h1, h2, h3, hL args s _, lw_frame hF⟩
theorem i_vc_open (hpure : zPure) : Claimed_1_1 ∧ Claimed_1_2 := ⟨lw_limb hpure limb_1_1 (fun args s t => by simp [limb_1_1, Cond.after, Cond.holds, Cond.value]), lw_limb hpure limb_1_2 (fun args s t => Cond.after_iff.mpr (by
  first | (rw [show limb_1_2 = Cond.eq .result (.int 1) from rfl, Cond.eq_ints (x := 1) (y := 1) rfl rfl]; simp; done) | (simp [limb_1_2, Cond.value, Term.eval]; done)))⟩
end
section
/-! runs of the small machine, by rules -/
section ZR
variable {sL : Nat} {sx : Nat → Int32}
theorem zexec_up : ∀ (n d y pc : Nat) (L S : List Value) (h : zH) (r : Outcome × zH), zexec sL sx n d y pc L S h = some r → zexec sL sx (n + 1) d y pc L S h = some r := by
  intro n
  induction n with
  | zero => intro d y pc L S h r hs; simp [zexec] at hs
  | succ n ih =>
    intro d y pc L S h r hs
    rw [zexec] at hs ⊢
    cases hat : zat y pc with
    | none => simp [hat] at hs
    | some r0 =>
      obtain ⟨ins, len⟩ := r0
      simp only [hat] at hs ⊢
      cases he : zends y ins S with
      | some v => simp only [he] at hs ⊢; exact hs
      | none =>
        simp only [he] at hs ⊢
        cases ht : zthr y ins with
        | some ex => simp only [ht] at hs ⊢; exact hs
        | none =>
          simp only [ht] at hs ⊢
          cases hk : zskip d y ins pc L S h with
          | some q => simp only [hk] at hs ⊢; exact ih _ _ _ _ _ _ _ hs
          | none =>
            simp only [hk] at hs ⊢
            cases hc : zcalls y ins with
            | some q =>
              obtain ⟨z, stat, mt⟩ := q
              simp only [hc] at hs ⊢
              cases d with
              | zero => simp at hs
              | succ d' =>
                simp only at hs ⊢
                cases hok : zcallok z stat (S.take (znar z)).reverse (S.drop (znar z)) h with
                | false => simp [hok] at hs
                | true =>
                  simp only [hok, cond_true] at hs ⊢
                  cases hx : zexec sL sx n d' z 0 (zent (zmax z) (S.take (znar z)).reverse) [] h with
                  | none => simp [hx] at hs
                  | some r1 =>
                    obtain ⟨o1, h1⟩ := r1
                    rw [ih _ _ _ _ _ _ _ hx]
                    simp only [hx] at hs
                    cases o1 with
                    | returned v => exact ih _ _ _ _ _ _ _ hs
                    | threw ex =>
                      simp only at hs ⊢
                      cases mt with
                      | false => simp at hs
                      | true =>
                        simp only [cond_true] at hs ⊢
                        cases hy : (zhan y).isEmpty with
                        | true => simp only [hy, cond_true] at hs ⊢; exact hs
                        | false =>
                          simp only [hy, cond_false] at hs ⊢
                          cases hca : zcatch y pc ex (zhan y) with
                          | none => simp [hca] at hs
                          | some hp =>
                            simp only [hca] at hs ⊢
                            cases hL : L.all (fun v => !decide (v = .retAddr 2)) with
                            | false => simp [hL] at hs
                            | true => simp only [hL, cond_true] at hs ⊢; exact ih _ _ _ _ _ _ _ hs
            | none =>
              simp only [hc] at hs ⊢
              cases hsm : zsim sL sx y ins len pc L S h with
              | none => simp [hsm] at hs
              | some q => simp only [hsm] at hs ⊢; exact ih _ _ _ _ _ _ _ hs
theorem zexec_le {n n' d y pc : Nat} {L S : List Value} {h : zH} {r : Outcome × zH} (hs : zexec sL sx n d y pc L S h = some r) (hn : n ≤ n') : zexec sL sx n' d y pc L S h = some r := by
  obtain ⟨k, rfl⟩ := Nat.exists_eq_add_of_le hn
  clear hn
  induction k with
  | zero => exact hs
  | succ k ih => exact zexec_up _ _ _ _ _ _ _ _ ih
end ZR
/-- from here the run comes to the end o with the heap hF -/
def zR (sL : Nat) (sx : Nat → Int32) (d y pc : Nat) (L S : List Value) (h : zH) (o : Outcome) (hF : zH) : Prop := ∃ n, zexec sL sx n d y pc L S h = some (o, hF)
/-- a whole method -/
def zMe (sL : Nat) (sx : Nat → Int32) (d z : Nat) (As : List Value) (h : zH) (o : Outcome) (hF : zH) : Prop := zR sL sx d z 0 (zent (zmax z) As) [] h o hF
/-- instructions that touch neither the heap nor another method, and go on -/
def zflat : Instr → Bool
  | .iconst _ | .bipush _ | .sipush _ | .lconst _ | .aconst_null | .ldc _ | .ldc2_w _ | .iload _ | .iload_n _ | .lload _ | .lload_n _ | .aload _ | .aload_n _ => true
  | .istore _ | .istore_n _ | .astore _ | .astore_n _ | .lstore _ | .lstore_n _ | .iinc _ _ => true
  | .iadd | .isub | .imul | .iand | .ior | .ishl | .ladd | .land | .lor | .lshl | .i2l | .lcmp | .dup | .dup2 => true
  | .goto off => decide (0 < off)
  | _ => false
/-- .. and the others that the step function knows -/
def zhard : Instr → Bool
  | .goto _ | .ifCond _ _ | .if_icmp _ _ | .if_acmp _ _ | .ifnull _ | .ifnonnull _ | .tableswitch _ _ _ _ | .getfield _ | .putfield _ => true
  | .iaload | .laload | .baload | .aaload | .iastore | .lastore | .bastore | .aastore | .arraylength | .newarray _ | .anewarray _ => true
  | _ => false
theorem zplain_ins {d y : Nat} {ins : Instr} {pc : Nat} {L S : List Value} {h : zH} (hf : (zflat ins || zhard ins) = true) : zends y ins S = none ∧ zthr y ins = none ∧ zskip d y ins pc L S h = none ∧ zcalls y ins = none := by
  cases ins <;> first | exact ⟨rfl, rfl, rfl, rfl⟩ | (simp [zflat, zhard] at hf)
def zone (sL : Nat) (sx : Nat → Int32) (y pc : Nat) (L S : List Value) (h : zH) : Option (zC × zH) := match zat y pc with
  | some (ins, len) => bif zflat ins then zsim sL sx y ins len pc L S h else none
  | none => none
def zalix : Instr → Option Nat
  | .aload j => some j
  | .aload_n j => some j
  | _ => none
def zasix : Instr → Option Nat
  | .astore j => some j
  | .astore_n j => some j
  | _ => none
section ZRR
variable {sL : Nat} {sx : Nat → Int32} {d y pc pc' : Nat} {L L' S S' : List Value} {h h' hF : zH} {o : Outcome}
theorem zR_1 {ins : Instr} {len : Nat} (hz : zat y pc = some (ins, len)) (hf : (zflat ins || zhard ins) = true) (hs : zsim sL sx y ins len pc L S h = some ((pc', L', S'), h')) (k : zR sL sx d y pc' L' S' h' o hF) : zR sL sx d y pc L S h o hF := by
  obtain ⟨n, hn⟩ := k
  obtain ⟨g1, g2, g3, g4⟩ := zplain_ins (d := d) (y := y) (pc := pc) (L := L) (S := S) (h := h) hf
  exact ⟨n + 1, by rw [zexec]; simp only [hz, g1, g2, g3, g4, hs]; exact hn⟩
theorem zR_s (hz : zone sL sx y pc L S h = some ((pc', L', S'), h')) (k : zR sL sx d y pc' L' S' h' o hF) : zR sL sx d y pc L S h o hF := by
  simp only [zone] at hz
  cases hat : zat y pc with
  | none => simp [hat] at hz
  | some r =>
    obtain ⟨ins, len⟩ := r
    simp only [hat] at hz
    cases hf : zflat ins with
    | false => simp [hf] at hz
    | true =>
      simp only [hf, cond_true] at hz
      exact zR_1 hat (by rw [hf]; rfl) hz k
theorem zR_goto {off : Int} {tgt : Nat} (hz : zat y pc = some (.goto off, 3)) (ht : zto pc off = tgt) (k : zR sL sx d y tgt L S h o hF) : zR sL sx d y pc L S h o hF := by
  subst ht
  exact zR_1 hz (by simp [zhard]) rfl k
theorem zR_ret {ins : Instr} {len : Nat} {v : Option Value} (hz : zat y pc = some (ins, len)) (he : zends y ins S = some v) : zR sL sx d y pc L S h (.returned v) h := ⟨1, by rw [zexec]; simp only [hz, he]⟩
theorem zthrows_le {d' : Nat} {e : Nat} (hd : d ≤ d') (h : zthrows d y pc S e = true) : zthrows d' y pc S e = true := by
  simp only [zthrows, Bool.and_eq_true] at h ⊢
  exact ⟨⟨⟨Nat.ble_eq_true_of_le (Nat.le_trans (Nat.le_of_ble_eq_true h.1.1.1) hd), h.1.1.2⟩, h.1.2⟩, h.2⟩
theorem zR_throw {ik len e : Nat} (hd : 7 ≤ d) (hz : zat y pc = some (.new ik, len)) (ht : zthr y (.new ik) = some e) (hs : zthrows 7 y pc S e = true) : zR sL sx d y pc L S h (.threw e) (h ++ [(100 + e, [])]) :=
  ⟨1, by rw [zexec]; simp only [hz, ht, zthrows_le hd hs, cond_true]; rfl⟩
theorem zR_get {i ci k a : Nat} {fs : List Value} {v : Value} (hz : zat y pc = some (.getfield i, 3)) (hp : zpool y i = some (0, ci, k)) (ha : h[a]? = some (10 + ci, fs)) (hv : fs[k]? = some v) (kk : zR sL sx d y (pc + 3) L (v :: S) h o hF) : zR sL sx d y pc L (.ref a :: S) h o hF :=
  zR_1 hz rfl (by simp only [zsim, hp, ha, Nat.beq_refl, cond_true, hv]; rfl) kk
def zputok (y ci k : Nat) (v : Value) (n : Nat) : Bool := zfits (zty ci k) v && Nat.blt k n && (!(zfd ci k).2.2.2 || (Nat.beq (zcls y) ci && decide ((zname y).name = "<init>")))
theorem zR_put {i ci k a : Nat} {fs : List Value} {v : Value} (hz : zat y pc = some (.putfield i, 3)) (hp : zpool y i = some (0, ci, k)) (ha : h[a]? = some (10 + ci, fs)) (hf : zputok y ci k v fs.length = true) (kk : zR sL sx d y (pc + 3) L S (h.set a (10 + ci, fs.set k v)) o hF) : zR sL sx d y pc L (v :: .ref a :: S) h o hF := by
  simp only [zputok, Bool.and_eq_true] at hf
  exact zR_1 hz rfl (by simp only [zsim, hp, ha, Nat.beq_refl, hf.1.1, hf.1.2, hf.2, Bool.and_self, Bool.true_and, cond_true]) kk
def zints (n : Nat) (f : Nat → Int32) : List Value := (List.range n).map fun j => .int (f j)
def zlongs (n : Nat) (f : Nat → Int64) : List Value := (List.range n).map fun j => .long (f j)
theorem zints_at {n j : Nat} {f : Nat → Int32} (hj : j < n) : (zints n f)[j]? = some (.int (f j)) := by simp [zints, hj]
theorem zlongs_at {n j : Nat} {f : Nat → Int64} (hj : j < n) : (zlongs n f)[j]? = some (.long (f j)) := by simp [zlongs, hj]
theorem zints_len (n : Nat) (f : Nat → Int32) : (zints n f).length = n := by simp [zints]
theorem zlongs_len (n : Nat) (f : Nat → Int64) : (zlongs n f).length = n := by simp [zlongs]
theorem zints_set (n j : Nat) (f : Nat → Int32) (x : Int32) : (zints n f).set j (.int x) = zints n (upd f j x) := by
  refine List.ext_getElem? fun i => ?_
  by_cases hij : j = i
  · subst hij
    by_cases hj : j < n
    · rw [List.getElem?_set_self (by rw [zints_len]; exact hj), zints_at hj]; simp [upd]
    · rw [List.getElem?_eq_none (by rw [List.length_set, zints_len]; omega), List.getElem?_eq_none (by rw [zints_len]; omega)]
  · rw [List.getElem?_set_ne hij]
    by_cases hi : i < n
    · rw [zints_at hi, zints_at hi]; simp [upd, Ne.symm hij]
    · rw [List.getElem?_eq_none (by rw [zints_len]; omega), List.getElem?_eq_none (by rw [zints_len]; omega)]
theorem zlongs_set (n j : Nat) (f : Nat → Int64) (x : Int64) : (zlongs n f).set j (.long x) = zlongs n (vp_updL f j x) := by
  refine List.ext_getElem? fun i => ?_
  by_cases hij : j = i
  · subst hij
    by_cases hj : j < n
    · rw [List.getElem?_set_self (by rw [zlongs_len]; exact hj), zlongs_at hj]; simp [vp_updL]
    · rw [List.getElem?_eq_none (by rw [List.length_set, zlongs_len]; omega), List.getElem?_eq_none (by rw [zlongs_len]; omega)]
  · rw [List.getElem?_set_ne hij]
    by_cases hi : i < n
    · rw [zlongs_at hi, zlongs_at hi]; simp [vp_updL, Ne.symm hij]
    · rw [List.getElem?_eq_none (by rw [zlongs_len]; omega), List.getElem?_eq_none (by rw [zlongs_len]; omega)]
theorem zrd_ok {nx t a j : Nat} {vs : List Value} {v : Value} (ha : h[a]? = some (t, vs)) (hj : j < 2 ^ 31) (hv : vs[j]? = some v) : zrd nx L (.int (nI j) :: .ref a :: S) h t = some ((nx, L, v :: S), h) := by
  simp only [zrd, ha, Nat.beq_refl, cond_true, nI_pos hj, if_false, nI_clamp hj, hv]
  rfl
theorem zR_ild {a j n : Nat} {f : Nat → Int32} (hz : zat y pc = some (.iaload, 1)) (ha : h[a]? = some (0, zints n f)) (hj : j < n) (hn : n < 2 ^ 31) (kk : zR sL sx d y (pc + 1) L (.int (f j) :: S) h o hF) : zR sL sx d y pc L (.int (nI j) :: .ref a :: S) h o hF :=
  zR_1 hz rfl (by simp only [zsim]; exact zrd_ok ha (by omega) (zints_at hj)) kk
theorem zR_lld {a j n : Nat} {f : Nat → Int64} (hz : zat y pc = some (.laload, 1)) (ha : h[a]? = some (1, zlongs n f)) (hj : j < n) (hn : n < 2 ^ 31) (kk : zR sL sx d y (pc + 1) L (.long (f j) :: S) h o hF) : zR sL sx d y pc L (.int (nI j) :: .ref a :: S) h o hF :=
  zR_1 hz rfl (by simp only [zsim]; exact zrd_ok ha (by omega) (zlongs_at hj)) kk
theorem zR_bld {a j n : Nat} {f : Nat → Int32} (hz : zat y pc = some (.baload, 1)) (ha : h[a]? = some (2, zints n f)) (hj : j < n) (hn : n < 2 ^ 31) (kk : zR sL sx d y (pc + 1) L (.int (f j) :: S) h o hF) : zR sL sx d y pc L (.int (nI j) :: .ref a :: S) h o hF :=
  zR_1 hz rfl (by simp only [zsim]; exact zrd_ok ha (by omega) (zints_at hj)) kk
theorem zR_ald {a j : Nat} {vs : List Value} {v : Value} (hz : zat y pc = some (.aaload, 1)) (ha : h[a]? = some (3, vs)) (hj : j < 2 ^ 31) (hv : vs[j]? = some v) (kk : zR sL sx d y (pc + 1) L (v :: S) h o hF) : zR sL sx d y pc L (.int (nI j) :: .ref a :: S) h o hF :=
  zR_1 hz rfl (by simp only [zsim]; exact zrd_ok ha hj hv) kk
theorem zwr_ok {nx t a j : Nat} {vs : List Value} {v : Value} (ha : h[a]? = some (t, vs)) (hj : j < 2 ^ 31) (hl : j < vs.length) : zwr nx L h t v (nI j) a S = some ((nx, L, S), h.set a (t, vs.set j v)) := by
  simp only [zwr, ha, Nat.beq_refl, cond_true, nI_pos hj, if_false, nI_clamp hj, hl, if_true]
theorem zR_ist {a j n : Nat} {f : Nat → Int32} {x : Int32} (hz : zat y pc = some (.iastore, 1)) (ha : h[a]? = some (0, zints n f)) (hj : j < n) (hn : n < 2 ^ 31) (kk : zR sL sx d y (pc + 1) L S (h.set a (0, zints n (upd f j x))) o hF) : zR sL sx d y pc L (.int x :: .int (nI j) :: .ref a :: S) h o hF := by
  rw [← zints_set] at kk
  exact zR_1 hz rfl (by show zwr _ _ _ _ _ _ _ _ = _; exact zwr_ok ha (by omega) (by rw [zints_len]; exact hj)) kk
theorem zR_lst {a j n : Nat} {f : Nat → Int64} {x : Int64} (hz : zat y pc = some (.lastore, 1)) (ha : h[a]? = some (1, zlongs n f)) (hj : j < n) (hn : n < 2 ^ 31) (kk : zR sL sx d y (pc + 1) L S (h.set a (1, zlongs n (vp_updL f j x))) o hF) : zR sL sx d y pc L (.long x :: .int (nI j) :: .ref a :: S) h o hF := by
  rw [← zlongs_set] at kk
  exact zR_1 hz rfl (by show zwr _ _ _ _ _ _ _ _ = _; exact zwr_ok ha (by omega) (by rw [zlongs_len]; exact hj)) kk
theorem zR_bst {a j n : Nat} {f : Nat → Int32} {x : Int32} (hz : zat y pc = some (.bastore, 1)) (ha : h[a]? = some (2, zints n f)) (hj : j < n) (hn : n < 2 ^ 31) (hx : x = 0 ∨ x = 1) (kk : zR sL sx d y (pc + 1) L S (h.set a (2, zints n (upd f j x))) o hF) : zR sL sx d y pc L (.int x :: .int (nI j) :: .ref a :: S) h o hF := by
  rw [← zints_set] at kk
  exact zR_1 hz rfl (by simp only [zsim, if_pos hx]; exact zwr_ok ha (by omega) (by rw [zints_len]; exact hj)) kk
theorem zR_scr {j : Nat} (hz : zat y pc = some (.iaload, 1)) (hj : j < sL) (hn : sL < 2 ^ 31) (kk : zR sL sx d y (pc + 1) L (.int (sx j) :: S) h o hF) : zR sL sx d y pc L (.int (nI j) :: .retAddr 1 :: S) h o hF :=
  zR_1 hz rfl (by simp only [zsim, nI_pos (show j < 2 ^ 31 by omega), if_false, nI_clamp (show j < 2 ^ 31 by omega), hj, if_true]; rfl) kk
theorem zR_len (hz : zat y pc = some (.arraylength, 1)) (kk : zR sL sx d y (pc + 1) L (.int (nI sL) :: S) h o hF) : zR sL sx d y pc L (.retAddr 1 :: S) h o hF := zR_1 hz rfl rfl kk
theorem zR_ifeq {off : Int} {tgt : Nat} {a : Int32} (hz : zat y pc = some (.ifCond .eq off, 3)) (ht : zto pc off = tgt) (kt : a = 0 → zR sL sx d y tgt L S h o hF) (kf : ¬ a = 0 → zR sL sx d y (pc + 3) L S h o hF) : zR sL sx d y pc L (.int a :: S) h o hF := by
  subst ht
  by_cases q : a = 0
  · exact zR_1 hz rfl (by simp [zsim, zjump, zcb, q]) (kt q)
  · exact zR_1 hz rfl (by simp [zsim, zjump, zcb, q]) (kf q)
theorem zR_ifne {off : Int} {tgt : Nat} {a : Int32} (hz : zat y pc = some (.ifCond .ne off, 3)) (ht : zto pc off = tgt) (kt : ¬ a = 0 → zR sL sx d y tgt L S h o hF) (kf : a = 0 → zR sL sx d y (pc + 3) L S h o hF) : zR sL sx d y pc L (.int a :: S) h o hF := by
  subst ht
  by_cases q : a = 0
  · exact zR_1 hz rfl (by simp [zsim, zjump, zcb, q]) (kf q)
  · exact zR_1 hz rfl (by simp [zsim, zjump, zcb, q]) (kt q)
theorem zR_iflt {off : Int} {tgt : Nat} {a : Int32} (hz : zat y pc = some (.ifCond .lt off, 3)) (ht : zto pc off = tgt) (kt : a < 0 → zR sL sx d y tgt L S h o hF) (kf : ¬ a < 0 → zR sL sx d y (pc + 3) L S h o hF) : zR sL sx d y pc L (.int a :: S) h o hF := by
  subst ht
  by_cases q : a < 0
  · exact zR_1 hz rfl (by simp [zsim, zjump, zcb, q]) (kt q)
  · exact zR_1 hz rfl (by simp [zsim, zjump, zcb, q]) (kf q)
theorem zR_ifge {off : Int} {tgt : Nat} {a : Int32} (hz : zat y pc = some (.ifCond .ge off, 3)) (ht : zto pc off = tgt) (kt : 0 ≤ a → zR sL sx d y tgt L S h o hF) (kf : ¬ 0 ≤ a → zR sL sx d y (pc + 3) L S h o hF) : zR sL sx d y pc L (.int a :: S) h o hF := by
  subst ht
  by_cases q : 0 ≤ a
  · exact zR_1 hz rfl (by simp [zsim, zjump, zcb, q]) (kt q)
  · exact zR_1 hz rfl (by simp [zsim, zjump, zcb, q]) (kf q)
theorem zR_ifgt {off : Int} {tgt : Nat} {a : Int32} (hz : zat y pc = some (.ifCond .gt off, 3)) (ht : zto pc off = tgt) (kt : 0 < a → zR sL sx d y tgt L S h o hF) (kf : ¬ 0 < a → zR sL sx d y (pc + 3) L S h o hF) : zR sL sx d y pc L (.int a :: S) h o hF := by
  subst ht
  by_cases q : 0 < a
  · exact zR_1 hz rfl (by simp [zsim, zjump, zcb, q]) (kt q)
  · exact zR_1 hz rfl (by simp [zsim, zjump, zcb, q]) (kf q)
theorem zR_ifle {off : Int} {tgt : Nat} {a : Int32} (hz : zat y pc = some (.ifCond .le off, 3)) (ht : zto pc off = tgt) (kt : a ≤ 0 → zR sL sx d y tgt L S h o hF) (kf : ¬ a ≤ 0 → zR sL sx d y (pc + 3) L S h o hF) : zR sL sx d y pc L (.int a :: S) h o hF := by
  subst ht
  by_cases q : a ≤ 0
  · exact zR_1 hz rfl (by simp [zsim, zjump, zcb, q]) (kt q)
  · exact zR_1 hz rfl (by simp [zsim, zjump, zcb, q]) (kf q)
theorem zR_iceq {off : Int} {tgt : Nat} {a b : Int32} (hz : zat y pc = some (.if_icmp .eq off, 3)) (ht : zto pc off = tgt) (kt : a = b → zR sL sx d y tgt L S h o hF) (kf : ¬ a = b → zR sL sx d y (pc + 3) L S h o hF) : zR sL sx d y pc L (.int b :: .int a :: S) h o hF := by
  subst ht
  by_cases q : a = b
  · exact zR_1 hz rfl (by simp [zsim, zjump, zcb, q]) (kt q)
  · exact zR_1 hz rfl (by simp [zsim, zjump, zcb, q]) (kf q)
theorem zR_icne {off : Int} {tgt : Nat} {a b : Int32} (hz : zat y pc = some (.if_icmp .ne off, 3)) (ht : zto pc off = tgt) (kt : ¬ a = b → zR sL sx d y tgt L S h o hF) (kf : a = b → zR sL sx d y (pc + 3) L S h o hF) : zR sL sx d y pc L (.int b :: .int a :: S) h o hF := by
  subst ht
  by_cases q : a = b
  · exact zR_1 hz rfl (by simp [zsim, zjump, zcb, q]) (kf q)
  · exact zR_1 hz rfl (by simp [zsim, zjump, zcb, q]) (kt q)
theorem zR_iclt {off : Int} {tgt : Nat} {a b : Int32} (hz : zat y pc = some (.if_icmp .lt off, 3)) (ht : zto pc off = tgt) (kt : a < b → zR sL sx d y tgt L S h o hF) (kf : ¬ a < b → zR sL sx d y (pc + 3) L S h o hF) : zR sL sx d y pc L (.int b :: .int a :: S) h o hF := by
  subst ht
  by_cases q : a < b
  · exact zR_1 hz rfl (by simp [zsim, zjump, zcb, q]) (kt q)
  · exact zR_1 hz rfl (by simp [zsim, zjump, zcb, q]) (kf q)
theorem zR_icge {off : Int} {tgt : Nat} {a b : Int32} (hz : zat y pc = some (.if_icmp .ge off, 3)) (ht : zto pc off = tgt) (kt : b ≤ a → zR sL sx d y tgt L S h o hF) (kf : ¬ b ≤ a → zR sL sx d y (pc + 3) L S h o hF) : zR sL sx d y pc L (.int b :: .int a :: S) h o hF := by
  subst ht
  by_cases q : b ≤ a
  · exact zR_1 hz rfl (by simp [zsim, zjump, zcb, q]) (kt q)
  · exact zR_1 hz rfl (by simp [zsim, zjump, zcb, q]) (kf q)
theorem zR_icgt {off : Int} {tgt : Nat} {a b : Int32} (hz : zat y pc = some (.if_icmp .gt off, 3)) (ht : zto pc off = tgt) (kt : b < a → zR sL sx d y tgt L S h o hF) (kf : ¬ b < a → zR sL sx d y (pc + 3) L S h o hF) : zR sL sx d y pc L (.int b :: .int a :: S) h o hF := by
  subst ht
  by_cases q : b < a
  · exact zR_1 hz rfl (by simp [zsim, zjump, zcb, q]) (kt q)
  · exact zR_1 hz rfl (by simp [zsim, zjump, zcb, q]) (kf q)
theorem zR_icle {off : Int} {tgt : Nat} {a b : Int32} (hz : zat y pc = some (.if_icmp .le off, 3)) (ht : zto pc off = tgt) (kt : a ≤ b → zR sL sx d y tgt L S h o hF) (kf : ¬ a ≤ b → zR sL sx d y (pc + 3) L S h o hF) : zR sL sx d y pc L (.int b :: .int a :: S) h o hF := by
  subst ht
  by_cases q : a ≤ b
  · exact zR_1 hz rfl (by simp [zsim, zjump, zcb, q]) (kt q)
  · exact zR_1 hz rfl (by simp [zsim, zjump, zcb, q]) (kf q)
/-- a unit's number, or none -/
def zopt : Option Nat → Value
  | none => .null
  | some k => .ref (k + 11)
theorem zopt_fit (t : String) (c : Option Nat) : zfits (.object t) (zopt c) = true := by cases c <;> rfl
theorem zopt_ok (c : Option Nat) : zok (zopt c) = true := by cases c <;> rfl
theorem zbeq (a b : Nat) : Nat.beq a b = decide (a = b) := by
  by_cases h : a = b
  · subst h; simp
  · cases hq : Nat.beq a b
    · simp [h]
    · exact absurd (Nat.eq_of_beq_eq_true hq) h
theorem zopt_inj {a b : Option Nat} : zopt a = zopt b ↔ a = b := by
  cases a <;> cases b <;> simp [zopt]
theorem zR_aeq {off : Int} {tgt : Nat} {a b : Option Nat} (hz : zat y pc = some (.if_acmp .eq off, 3)) (ht : zto pc off = tgt) (kt : a = b → zR sL sx d y tgt L S h o hF) (kf : ¬ a = b → zR sL sx d y (pc + 3) L S h o hF) : zR sL sx d y pc L (zopt b :: zopt a :: S) h o hF := by
  subst ht
  have hq : zreq (zopt a) (zopt b) = some (decide (a = b)) := by cases a <;> cases b <;> simp [zopt, zreq, zbeq]
  by_cases q : a = b
  · exact zR_1 hz rfl (by simp only [zsim, hq, zjump]; simp [q]) (kt q)
  · exact zR_1 hz rfl (by simp only [zsim, hq, zjump]; simp [q]) (kf q)
theorem zR_ane {off : Int} {tgt : Nat} {a b : Option Nat} (hz : zat y pc = some (.if_acmp .ne off, 3)) (ht : zto pc off = tgt) (kt : ¬ a = b → zR sL sx d y tgt L S h o hF) (kf : a = b → zR sL sx d y (pc + 3) L S h o hF) : zR sL sx d y pc L (zopt b :: zopt a :: S) h o hF := by
  subst ht
  have hq : zreq (zopt a) (zopt b) = some (decide (a = b)) := by cases a <;> cases b <;> simp [zopt, zreq, zbeq]
  by_cases q : a = b
  · exact zR_1 hz rfl (by simp only [zsim, hq, zjump]; simp [q]) (kf q)
  · exact zR_1 hz rfl (by simp only [zsim, hq, zjump]; simp [q]) (kt q)
theorem zR_null {off : Int} {tgt : Nat} {a : Option Nat} (hz : zat y pc = some (.ifnull off, 3)) (ht : zto pc off = tgt) (kt : a = none → zR sL sx d y tgt L S h o hF) (kf : ∀ k, a = some k → zR sL sx d y (pc + 3) L S h o hF) : zR sL sx d y pc L (zopt a :: S) h o hF := by
  subst ht
  cases a with
  | none => exact zR_1 hz rfl (by simp [zsim, zopt, znul, zjump]) (kt rfl)
  | some k => exact zR_1 hz rfl (by simp [zsim, zopt, znul, zjump]) (kf k rfl)
theorem zR_nonnull {off : Int} {tgt : Nat} {a : Option Nat} (hz : zat y pc = some (.ifnonnull off, 3)) (ht : zto pc off = tgt) (kt : ∀ k, a = some k → zR sL sx d y tgt L S h o hF) (kf : a = none → zR sL sx d y (pc + 3) L S h o hF) : zR sL sx d y pc L (zopt a :: S) h o hF := by
  subst ht
  cases a with
  | none => exact zR_1 hz rfl (by simp [zsim, zopt, znul, zjump]) (kf rfl)
  | some k => exact zR_1 hz rfl (by simp [zsim, zopt, znul, zjump]) (kt k rfl)
theorem zR_sw {df lo hi : Int} {offs : Array Int} {len tgt : Nat} {v : Int32} (hz : zat y pc = some (.tableswitch df lo hi offs, len)) (ht : zsw pc df lo hi offs v = some tgt) (k : zR sL sx d y tgt L S h o hF) : zR sL sx d y pc L (.int v :: S) h o hF :=
  zR_1 hz rfl (by simp only [zsim, ht]) k
theorem zcall_ins {d : Nat} {ins : Instr} {r : Nat × Bool × Bool} (h9 : zcalls y ins = some r) : zends y ins S = none ∧ zthr y ins = none ∧ zskip d y ins pc L S h = none := by
  cases ins with
  | invokevirtual i => exact ⟨rfl, rfl, rfl⟩
  | invokestatic i =>
    refine ⟨rfl, rfl, ?_⟩
    simp only [zcalls] at h9
    simp only [zskip]
    cases hp : zpool y i with
    | none => simp [hp] at h9
    | some r =>
      obtain ⟨k1, k2, k3⟩ := r
      by_cases hk : k1 = 10
      · subst hk; simp [hp] at h9
      · split
        · rename_i e1; cases e1; exact absurd rfl hk
        · rfl
  | invokespecial i =>
    refine ⟨rfl, rfl, ?_⟩
    simp only [zcalls] at h9
    simp only [zskip]
    cases hp : zpool y i with
    | none => simp [hp] at h9
    | some r =>
      obtain ⟨k1, k2, k3⟩ := r
      by_cases hk : k1 = 9
      · subst hk; simp [hp] at h9
      · split
        · rename_i e1; cases e1; exact absurd rfl hk
        · rfl
  | _ => simp [zcalls] at h9
/-- what a call asks but the receiver's kind -/
def zchk (z : Nat) (As rest : List Value) : Bool := Nat.beq As.length (znar z) && As.all zok && Nat.ble (zwt rest) 8 && Nat.ble ((As.flatMap fun v => bif zwide v then [v, Value.retAddr 0] else [v]).length) (zmax z)
theorem zcallok_v {z a : Nat} {As rest : List Value} {t : Nat} {vs : List Value} (ha : h[a]? = some (t, vs)) (ht : t = 10 + zcls z) (hc : zchk z (.ref a :: As) rest = true) : zcallok z false (.ref a :: As) rest h = true := by
  subst ht
  simp only [zcallok, ha, Nat.beq_refl, Bool.false_or, Bool.and_true]
  exact hc
theorem zcallok_s {z : Nat} {As rest : List Value} (hc : zchk z As rest = true) : zcallok z true As rest h = true := by
  simp only [zcallok, Bool.true_or, Bool.and_true]
  exact hc
theorem zR_call {ins : Instr} {len z : Nat} {stat mt : Bool} {As rest : List Value} {v : Option Value} {h1 : zH} (hz : zat y pc = some (ins, len)) (hc : zcalls y ins = some (z, stat, mt)) (hA : (S.take (znar z)).reverse = As) (hr : S.drop (znar z) = rest) (hok : zcallok z stat As rest h = true)
    (hM : zMe sL sx d z As h (.returned v) h1) (kk : zR sL sx (d + 1) y (pc + 3) L (v.toList ++ rest) h1 o hF) : zR sL sx (d + 1) y pc L S h o hF := by
  obtain ⟨n1, e1⟩ := hM
  obtain ⟨n2, e2⟩ := kk
  obtain ⟨g1, g2, g3⟩ := zcall_ins (d := d + 1) (pc := pc) (L := L) (S := S) (h := h) hc
  subst hA; subst hr
  refine ⟨max n1 n2 + 1, ?_⟩
  rw [zexec]
  simp only [hz, g1, g2, g3, hc, hok, cond_true, zexec_le e1 (Nat.le_max_left n1 n2)]
  exact zexec_le e2 (Nat.le_max_right n1 n2)
theorem zR_callx {ins : Instr} {len z : Nat} {stat : Bool} {As rest : List Value} {ex : Nat} {h1 : zH} (hz : zat y pc = some (ins, len)) (hc : zcalls y ins = some (z, stat, true)) (hA : (S.take (znar z)).reverse = As) (hr : S.drop (znar z) = rest) (hok : zcallok z stat As rest h = true) (hh : (zhan y).isEmpty = true)
    (hM : zMe sL sx d z As h (.threw ex) h1) : zR sL sx (d + 1) y pc L S h (.threw ex) h1 := by
  obtain ⟨n1, e1⟩ := hM
  obtain ⟨g1, g2, g3⟩ := zcall_ins (d := d + 1) (pc := pc) (L := L) (S := S) (h := h) hc
  subst hA; subst hr
  refine ⟨n1 + 1, ?_⟩
  rw [zexec]
  simp only [hz, g1, g2, g3, hc, hok, cond_true, e1, hh]
theorem zR_callc {ins : Instr} {len z hp : Nat} {stat : Bool} {As rest : List Value} {ex : Nat} {h1 : zH} (hz : zat y pc = some (ins, len)) (hc : zcalls y ins = some (z, stat, true)) (hA : (S.take (znar z)).reverse = As) (hr : S.drop (znar z) = rest) (hok : zcallok z stat As rest h = true) (hh : (zhan y).isEmpty = false) (hca : zcatch y pc ex (zhan y) = some hp) (hL : L.all (fun v => !decide (v = .retAddr 2)) = true)
    (hM : zMe sL sx d z As h (.threw ex) h1) (kk : zR sL sx (d + 1) y hp L [.retAddr 2] h1 o hF) : zR sL sx (d + 1) y pc L S h o hF := by
  obtain ⟨n1, e1⟩ := hM
  obtain ⟨n2, e2⟩ := kk
  obtain ⟨g1, g2, g3⟩ := zcall_ins (d := d + 1) (pc := pc) (L := L) (S := S) (h := h) hc
  subst hA; subst hr
  refine ⟨max n1 n2 + 1, ?_⟩
  rw [zexec]
  simp only [hz, g1, g2, g3, hc, hok, cond_true, zexec_le e1 (Nat.le_max_left n1 n2), hh, cond_false, hca, hL]
  exact zexec_le e2 (Nat.le_max_right n1 n2)
theorem zR_max {i len : Nat} {a b : Int32} {k1 k2 : Nat} (hz : zat y pc = some (.invokestatic i, len)) (hp : zpool y i = some (10, k1, k2)) (hd : 1 ≤ d) (hw : Nat.ble (zwt S) 8 = true) (kk : zR sL sx d y (pc + 3) L (.int (if a < b then b else a) :: S) h o hF) : zR sL sx d y pc L (.int b :: .int a :: S) h o hF := by
  obtain ⟨n2, e2⟩ := kk
  refine ⟨n2 + 1, ?_⟩
  rw [zexec]
  simp only [hz, zends, zthr, zskip, hp, Nat.ble_eq_true_of_le hd, hw, Bool.and_self, cond_true]
  exact e2
theorem zR_obj {i len a : Nat} {k1 k2 : Nat} (hz : zat y pc = some (.invokespecial i, len)) (hp : zpool y i = some (9, k1, k2)) (hd : 1 ≤ d) (hw : Nat.ble (zwt S) 8 = true) (kk : zR sL sx d y (pc + 3) L S h o hF) : zR sL sx d y pc L (.ref a :: S) h o hF := by
  obtain ⟨n2, e2⟩ := kk
  refine ⟨n2 + 1, ?_⟩
  rw [zexec]
  simp only [hz, zends, zthr, zskip, hp, Nat.ble_eq_true_of_le hd, hw, Bool.and_self, cond_true]
  exact e2
theorem zR_alo {ins : Instr} {len i : Nat} {c : Option Nat} (hz : zat y pc = some (ins, len)) (hi : zalix ins = some i) (hl : zg L i = zopt c) (k : zR sL sx d y (pc + len) L (zopt c :: S) h o hF) : zR sL sx d y pc L S h o hF := by
  have key : zlda (pc + len) L S h i = some ((pc + len, L, zopt c :: S), h) := by
    simp only [zlda, hl]
    cases c <;> rfl
  cases ins with
  | aload j => cases hi; exact zR_1 hz rfl (by simp only [zsim]; exact key) k
  | aload_n j => cases hi; exact zR_1 hz rfl (by simp only [zsim]; exact key) k
  | _ => simp [zalix] at hi
theorem zR_aso {ins : Instr} {len i : Nat} {c : Option Nat} (hz : zat y pc = some (ins, len)) (hi : zasix ins = some i) (hl : Nat.blt i L.length = true) (k : zR sL sx d y (pc + len) (zset1 L i (zopt c)) S h o hF) : zR sL sx d y pc L (zopt c :: S) h o hF := by
  have key : zsta (pc + len) L (zopt c :: S) h i = some ((pc + len, zset1 L i (zopt c), S), h) := by
    cases c <;> (simp only [zsta, zopt, hl]; rfl)
  cases ins with
  | astore j => cases hi; exact zR_1 hz rfl (by simp only [zsim]; exact key) k
  | astore_n j => cases hi; exact zR_1 hz rfl (by simp only [zsim]; exact key) k
  | _ => simp [zasix] at hi
end ZRR
end
section
/-! the class's cells: N its numbers (lots, made, room, today, rows), F its rows of numbers (most, grams, lotGood, lotLast; of the history units, kinds, days, numbers), G the units' numbers (lot, good, last, owner, pieces, state, place), K their containers, Z their serials -/
def bI (b : Bool) : Int32 := bif b then 1 else 0
def zun (n : Nat) (g : Nat → Int32) (k : Option Nat) (z : Int64) : List Value := [.int (nI n), .int (g 0), .int (g 1), .int (g 2), .int (g 3), .int (g 4), .int (g 5), .int (g 6), zopt k, .long z]
def zrefs : List Value := (List.range 64).map fun i => .ref (i + 11)
def zcell (N : Nat → Int32) (F G : Nat → Nat → Int32) (K : Nat → Option Nat) (Z : Nat → Int64) (k : Nat) : Nat × List Value := match k with
  | 0 => (12, [.ref 1, .ref 2, .ref 3, .ref 4, .ref 5, .ref 6, .int (N 0), .int (N 1), .int (N 2), .int (N 3)])
  | 1 => (0, zints 16 (F 0))
  | 2 => (0, zints 8 (F 1))
  | 3 => (0, zints 16 (F 2))
  | 4 => (0, zints 16 (F 3))
  | 5 => (3, zrefs)
  | 6 => (10, [.ref 7, .ref 8, .ref 9, .ref 10, .int (N 4)])
  | 7 => (0, zints 400 (F 4))
  | 8 => (0, zints 400 (F 5))
  | 9 => (0, zints 400 (F 6))
  | 10 => (0, zints 400 (F 7))
  | n + 11 => (11, zun n (G n) (K n) (Z n))
def zCs (N : Nat → Int32) (F G : Nat → Nat → Int32) (K : Nat → Option Nat) (Z : Nat → Int64) : zH := (List.range 75).map (zcell N F G K Z)
def updF (F : Nat → Nat → Int32) (a : Nat) (g : Nat → Int32) : Nat → Nat → Int32 := fun b => if b = a then g else F b
def updG (G : Nat → Nat → Int32) (i j : Nat) (v : Int32) : Nat → Nat → Int32 := fun a => if a = i then upd (G a) j v else G a
section ZST
variable {N N' : Nat → Int32} {F F' G G' : Nat → Nat → Int32} {K K' : Nat → Option Nat} {Z Z' : Nat → Int64} {tl : zH}
theorem zCs_len : (zCs N F G K Z).length = 75 := by simp [zCs]
theorem zrd75 {k : Nat} (hk : k < 75) : (zCs N F G K Z ++ tl)[k]? = some (zcell N F G K Z k) := by
  rw [List.getElem?_append_left (by rw [zCs_len]; exact hk)]
  simp [zCs, hk]
theorem zcU {i : Nat} (hi : i < 64) : (zCs N F G K Z ++ tl)[i + 11]? = some (10 + 1, zun i (G i) (K i) (Z i)) := zrd75 (by omega)
theorem zc0 : (zCs N F G K Z ++ tl)[0]? = some (10 + 2, [.ref 1, .ref 2, .ref 3, .ref 4, .ref 5, .ref 6, .int (N 0), .int (N 1), .int (N 2), .int (N 3)]) := zrd75 (k := 0) (by omega)
theorem zc6 : (zCs N F G K Z ++ tl)[6]? = some (10 + 0, [.ref 7, .ref 8, .ref 9, .ref 10, .int (N 4)]) := zrd75 (k := 6) (by omega)
theorem zc5 : (zCs N F G K Z ++ tl)[5]? = some (3, zrefs) := zrd75 (k := 5) (by omega)
theorem zrefs_at {i : Nat} (hi : i < 64) : zrefs[i]? = some (.ref (i + 11)) := by simp [zrefs, hi]
theorem zset75 {k : Nat} {c : Nat × List Value} (hk : k < 75) (h1 : zcell N' F' G' K' Z' k = c) (h2 : ∀ j, j ≠ k → zcell N' F' G' K' Z' j = zcell N F G K Z j) : (zCs N F G K Z ++ tl).set k c = zCs N' F' G' K' Z' ++ tl := by
  refine List.ext_getElem? fun i => ?_
  have hl : (zCs N F G K Z ++ tl).length = 75 + tl.length := by rw [List.length_append, zCs_len]
  by_cases hik : k = i
  · subst hik
    rw [List.getElem?_set_self (by omega), zrd75 hk, h1]
  · rw [List.getElem?_set_ne hik]
    by_cases hi : i < 75
    · rw [zrd75 hi, zrd75 hi, h2 i (Ne.symm hik)]
    · rw [List.getElem?_append_right (by rw [zCs_len]; omega), List.getElem?_append_right (by rw [zCs_len]; omega), zCs_len, zCs_len]
theorem zp_N {j : Nat} {v : Int32} (hj : j < 4) : (zCs N F G K Z ++ tl).set 0 (10 + 2, ([.ref 1, .ref 2, .ref 3, .ref 4, .ref 5, .ref 6, .int (N 0), .int (N 1), .int (N 2), .int (N 3)] : List Value).set (6 + j) (.int v)) = zCs (upd N j v) F G K Z ++ tl := by
  refine zset75 (by omega) ?_ ?_
  · rcases (show j = 0 ∨ j = 1 ∨ j = 2 ∨ j = 3 by omega) with rfl | rfl | rfl | rfl <;> rfl
  · intro i hi
    have h4 : upd N j v 4 = N 4 := by simp [upd]; omega
    rcases i with _ | _ | _ | _ | _ | _ | _ | _ | _ | _ | _ | n
    · exact absurd rfl hi
    all_goals first | rfl | (simp only [zcell, h4])
theorem zp_H {v : Int32} : (zCs N F G K Z ++ tl).set 6 (10 + 0, ([.ref 7, .ref 8, .ref 9, .ref 10, .int (N 4)] : List Value).set 4 (.int v)) = zCs (upd N 4 v) F G K Z ++ tl := by
  refine zset75 (by omega) rfl ?_
  intro i hi
  rcases i with _ | _ | _ | _ | _ | _ | _ | _ | _ | _ | _ | n
  all_goals first | rfl | exact absurd rfl hi
/-- the cell of a row of numbers, and its length -/
def zfa (a : Nat) : Nat := match a with
  | 0 => 1
  | 1 => 2
  | 2 => 3
  | 3 => 4
  | n + 4 => n + 7
def zfl (a : Nat) : Nat := match a with
  | 0 => 16
  | 1 => 8
  | 2 => 16
  | 3 => 16
  | _ + 4 => 400
theorem zcF {a : Nat} (ha : a < 8) : (zCs N F G K Z ++ tl)[zfa a]? = some (0, zints (zfl a) (F a)) := by
  rcases (show a = 0 ∨ a = 1 ∨ a = 2 ∨ a = 3 ∨ a = 4 ∨ a = 5 ∨ a = 6 ∨ a = 7 by omega) with rfl | rfl | rfl | rfl | rfl | rfl | rfl | rfl <;> exact zrd75 (by decide)
theorem zp_F {a : Nat} {g : Nat → Int32} (ha : a < 8) : (zCs N F G K Z ++ tl).set (zfa a) (0, zints (zfl a) g) = zCs N (updF F a g) G K Z ++ tl := by
  rcases (show a = 0 ∨ a = 1 ∨ a = 2 ∨ a = 3 ∨ a = 4 ∨ a = 5 ∨ a = 6 ∨ a = 7 by omega) with rfl | rfl | rfl | rfl | rfl | rfl | rfl | rfl
  all_goals
    refine zset75 (by decide) rfl ?_
    intro i hi
    rcases i with _ | _ | _ | _ | _ | _ | _ | _ | _ | _ | _ | n
    all_goals first | rfl | exact absurd rfl hi
theorem zp_G {i j : Nat} {v : Int32} (hi : i < 64) (hj : j < 7) : (zCs N F G K Z ++ tl).set (i + 11) (10 + 1, (zun i (G i) (K i) (Z i)).set (1 + j) (.int v)) = zCs N F (updG G i j v) K Z ++ tl := by
  refine zset75 (by omega) ?_ ?_
  · have : updG G i j v i = upd (G i) j v := by simp [updG]
    simp only [zcell, this]
    rcases (show j = 0 ∨ j = 1 ∨ j = 2 ∨ j = 3 ∨ j = 4 ∨ j = 5 ∨ j = 6 by omega) with rfl | rfl | rfl | rfl | rfl | rfl | rfl <;> rfl
  · intro k hk
    rcases k with _ | _ | _ | _ | _ | _ | _ | _ | _ | _ | _ | n
    all_goals first | rfl | skip
    have hn : n ≠ i := by omega
    simp only [zcell, updG, hn, if_false]
theorem zp_K {i : Nat} {v : Option Nat} (hi : i < 64) : (zCs N F G K Z ++ tl).set (i + 11) (10 + 1, (zun i (G i) (K i) (Z i)).set 8 (zopt v)) = zCs N F G (va_up K i v) Z ++ tl := by
  refine zset75 (by omega) ?_ ?_
  · simp only [zcell, va_up_self]; rfl
  · intro k hk
    rcases k with _ | _ | _ | _ | _ | _ | _ | _ | _ | _ | _ | n
    all_goals first | rfl | skip
    have hn : n ≠ i := by omega
    simp only [zcell, va_up_ne _ _ hn]
theorem zp_Z {i : Nat} {v : Int64} (hi : i < 64) : (zCs N F G K Z ++ tl).set (i + 11) (10 + 1, (zun i (G i) (K i) (Z i)).set 9 (.long v)) = zCs N F G K (vp_updL Z i v) ++ tl := by
  refine zset75 (by omega) ?_ ?_
  · have : vp_updL Z i v i = v := by simp [vp_updL]
    simp only [zcell, this]; rfl
  · intro k hk
    rcases k with _ | _ | _ | _ | _ | _ | _ | _ | _ | _ | _ | n
    all_goals first | rfl | skip
    have hn : n ≠ i := by omega
    simp only [zcell, vp_updL, hn, if_false]
end ZST
end
section
/-! a unit's own methods, reads -/
def zst (g : Nat → Int32) : Bool := decide (¬ g 5 = 4 ∧ ¬ g 5 = 5)
theorem bI_d (P : Prop) (q : Decidable P) (h : P) : bI (@decide P q) = 1 := by rw [decide_eq_true h]; rfl
theorem bI_n (P : Prop) (q : Decidable P) (h : ¬ P) : bI (@decide P q) = 0 := by rw [decide_eq_false h]; rfl
section ZU
variable {sL : Nat} {sx : Nat → Int32} {d : Nat} {h : zH} {n : Nat} {g : Nat → Int32} {k : Option Nat} {z : Int64}
theorem m_stands (hU : h[n + 11]? = some (10 + 1, zun n g k z)) : zMe sL sx d 9 [.ref (n + 11)] h (.returned (some (.int (bI (zst g))))) h := by
  show zR sL sx d 9 0 [.ref (n + 11)] [] h _ _
  repeat (first | refine zR_s rfl ?_ | refine zR_get rfl rfl hU rfl ?_)
  refine zR_iceq rfl rfl (fun c1 => ?_) (fun c1 => ?_)
  · replace c1 : g 5 = 4 := c1
    repeat (first | refine zR_s rfl ?_ | refine zR_get rfl rfl hU rfl ?_)
    rw [zst, bI_n _ _ (by simp [c1])]
    exact zR_ret rfl rfl
  · replace c1 : ¬ g 5 = 4 := c1
    repeat (first | refine zR_s rfl ?_ | refine zR_get rfl rfl hU rfl ?_)
    refine zR_iceq rfl rfl (fun c2 => ?_) (fun c2 => ?_)
    · replace c2 : g 5 = 5 := c2
      repeat (first | refine zR_s rfl ?_ | refine zR_get rfl rfl hU rfl ?_)
      rw [zst, bI_n _ _ (by simp [c2])]
      exact zR_ret rfl rfl
    · replace c2 : ¬ g 5 = 5 := c2
      repeat (first | refine zR_s rfl ?_ | refine zR_get rfl rfl hU rfl ?_)
      rw [zst, bI_d _ _ ⟨c1, c2⟩]
      exact zR_ret rfl rfl
theorem m_isOver {day : Int32} (hU : h[n + 11]? = some (10 + 1, zun n g k z)) : zMe sL sx d 10 [.ref (n + 11), .int day] h (.returned (some (.int (bI (decide (g 2 < day)))))) h := by
  show zR sL sx d 10 0 [.ref (n + 11), .int day] [] h _ _
  repeat (first | refine zR_s rfl ?_ | refine zR_get rfl rfl hU rfl ?_)
  refine zR_icle rfl rfl (fun c1 => ?_) (fun c1 => ?_)
  · repeat (first | refine zR_s rfl ?_ | refine zR_get rfl rfl hU rfl ?_)
    rw [bI_n _ _ (Int32.not_lt.mpr c1)]
    exact zR_ret rfl rfl
  · repeat (first | refine zR_s rfl ?_ | refine zR_get rfl rfl hU rfl ?_)
    rw [bI_d _ _ (Int32.not_le.mp c1)]
    exact zR_ret rfl rfl
/-- does a number that may be -1 for any fit? -/
def zany1 (w x : Int32) : Bool := decide (w = -1 ∨ w = x)
theorem m_matches {a b c : Int32} (hU : h[n + 11]? = some (10 + 1, zun n g k z)) : zMe sL sx d 15 [.ref (n + 11), .int a, .int b, .int c] h (.returned (some (.int (bI (zany1 a (g 0) && zany1 b (g 3) && zany1 c (g 5)))))) h := by
  show zR sL sx d 15 0 [.ref (n + 11), .int a, .int b, .int c] [] h _ _
  have hno : ∀ (q : Bool), q = false → zR sL sx d 15 43 [.ref (n + 11), .int a, .int b, .int c] [] h (.returned (some (.int (bI q)))) h := by
    intro q hq
    subst hq
    repeat (first | refine zR_s rfl ?_ | refine zR_get rfl rfl hU rfl ?_)
    exact zR_ret rfl rfl
  have h3 : zany1 a (g 0) = true → zany1 b (g 3) = true → zR sL sx d 15 26 [.ref (n + 11), .int a, .int b, .int c] [] h (.returned (some (.int (bI (zany1 a (g 0) && zany1 b (g 3) && zany1 c (g 5)))))) h := by
    intro q1 q2
    have yes : zany1 c (g 5) = true → zR sL sx d 15 39 [.ref (n + 11), .int a, .int b, .int c] [] h (.returned (some (.int (bI (zany1 a (g 0) && zany1 b (g 3) && zany1 c (g 5)))))) h := by
      intro q3
      rw [q1, q2, q3]
      repeat (first | refine zR_s rfl ?_ | refine zR_get rfl rfl hU rfl ?_)
      exact zR_ret rfl rfl
    repeat (first | refine zR_s rfl ?_ | refine zR_get rfl rfl hU rfl ?_)
    refine zR_iceq rfl rfl (fun c1 => ?_) (fun c1 => ?_)
    · exact yes (by simp [zany1]; exact Or.inl c1)
    · repeat (first | refine zR_s rfl ?_ | refine zR_get rfl rfl hU rfl ?_)
      refine zR_icne rfl rfl (fun c2 => ?_) (fun c2 => ?_)
      · exact hno _ (by rw [q1, q2]; simp [zany1]; exact ⟨c1, c2⟩)
      · exact yes (by simp [zany1]; exact Or.inr c2)
  have h2 : zany1 a (g 0) = true → zR sL sx d 15 13 [.ref (n + 11), .int a, .int b, .int c] [] h (.returned (some (.int (bI (zany1 a (g 0) && zany1 b (g 3) && zany1 c (g 5)))))) h := by
    intro q1
    repeat (first | refine zR_s rfl ?_ | refine zR_get rfl rfl hU rfl ?_)
    refine zR_iceq rfl rfl (fun c1 => ?_) (fun c1 => ?_)
    · exact h3 q1 (by simp [zany1]; exact Or.inl c1)
    · repeat (first | refine zR_s rfl ?_ | refine zR_get rfl rfl hU rfl ?_)
      refine zR_icne rfl rfl (fun c2 => ?_) (fun c2 => ?_)
      · exact hno _ (by rw [q1]; simp [zany1]; intro q; rcases q with q | q; exact absurd q c1; exact absurd q c2)
      · exact h3 q1 (by simp [zany1]; exact Or.inr c2)
  repeat (first | refine zR_s rfl ?_ | refine zR_get rfl rfl hU rfl ?_)
  refine zR_iceq rfl rfl (fun c1 => ?_) (fun c1 => ?_)
  · exact h2 (by simp [zany1]; exact Or.inl c1)
  · repeat (first | refine zR_s rfl ?_ | refine zR_get rfl rfl hU rfl ?_)
    refine zR_icne rfl rfl (fun c2 => ?_) (fun c2 => ?_)
    · exact hno _ (by simp [zany1]; intro q; rcases q with q | q; exact absurd q c1; exact absurd q c2)
    · exact h2 (by simp [zany1]; exact Or.inr c2)
end ZU
end
section
/-! further rules: ends by equation, branches on a truth, calls that may throw, loops -/
section ZRM
variable {sL : Nat} {sx : Nat → Int32} {d y pc : Nat} {L S : List Value} {h hF : zH} {o : Outcome}
theorem zR_rete {ins : Instr} {len : Nat} {v : Option Value} (hz : zat y pc = some (ins, len)) (he : zends y ins S = some v) (ho : o = .returned v) (hh : hF = h) : zR sL sx d y pc L S h o hF := by
  subst ho; subst hh; exact zR_ret hz he
theorem zR_retb {len : Nat} {b : Bool} (hz : zat y pc = some (.ireturn, len)) (hr : zret y = some .boolean) (ho : o = .returned (some (.int (bI b)))) (hh : hF = h) : zR sL sx d y pc L [.int (bI b)] h o hF := by
  subst ho; subst hh
  refine zR_ret hz ?_
  simp only [zends, hr]
  cases b <;> rfl
theorem zR_throwe {ik len e : Nat} (hd : 7 ≤ d) (hz : zat y pc = some (.new ik, len)) (ht : zthr y (.new ik) = some e) (hs : zthrows 7 y pc S e = true) (ho : o = .threw e) (hh : hF = h ++ [(100 + e, [])]) : zR sL sx d y pc L S h o hF := by
  subst ho; subst hh; exact zR_throw hd hz ht hs
theorem bI_0 {b : Bool} : bI b = 0 ↔ b = false := by cases b <;> simp [bI]
theorem zR_bf {off : Int} {tgt : Nat} {b : Bool} (hz : zat y pc = some (.ifCond .eq off, 3)) (ht : zto pc off = tgt) (kt : b = false → zR sL sx d y tgt L S h o hF) (kf : b = true → zR sL sx d y (pc + 3) L S h o hF) : zR sL sx d y pc L (.int (bI b) :: S) h o hF :=
  zR_ifeq hz ht (fun c => kt (bI_0.mp c)) (fun c => kf (by cases b; exact absurd rfl c; rfl))
theorem zR_bt {off : Int} {tgt : Nat} {b : Bool} (hz : zat y pc = some (.ifCond .ne off, 3)) (ht : zto pc off = tgt) (kt : b = true → zR sL sx d y tgt L S h o hF) (kf : b = false → zR sL sx d y (pc + 3) L S h o hF) : zR sL sx d y pc L (.int (bI b) :: S) h o hF :=
  zR_ifne hz ht (fun c => kt (by cases b; exact absurd rfl c; rfl)) (fun c => kf (bI_0.mp c))
theorem bI_dt {P : Prop} {q : Decidable P} : bI (@decide P q) = 0 ↔ ¬ P := by rw [bI_0]; simp
theorem zR_df {off : Int} {tgt : Nat} {P : Prop} {q : Decidable P} (hz : zat y pc = some (.ifCond .eq off, 3)) (ht : zto pc off = tgt) (kt : ¬ P → zR sL sx d y tgt L S h o hF) (kf : P → zR sL sx d y (pc + 3) L S h o hF) : zR sL sx d y pc L (.int (bI (@decide P q)) :: S) h o hF :=
  zR_ifeq hz ht (fun c => kt (bI_dt.mp c)) (fun c => kf (Classical.not_not.mp fun q2 => c (bI_dt.mpr q2)))
theorem zR_dt {off : Int} {tgt : Nat} {P : Prop} {q : Decidable P} (hz : zat y pc = some (.ifCond .ne off, 3)) (ht : zto pc off = tgt) (kt : P → zR sL sx d y tgt L S h o hF) (kf : ¬ P → zR sL sx d y (pc + 3) L S h o hF) : zR sL sx d y pc L (.int (bI (@decide P q)) :: S) h o hF :=
  zR_ifne hz ht (fun c => kt (Classical.not_not.mp fun q2 => c (bI_dt.mpr q2))) (fun c => kf (bI_dt.mp c))
theorem zR_mlt {off : Int} {tgt : Nat} {a b : Int32} (hz : zat y pc = some (.if_icmp .lt off, 3)) (ht : zto pc off = tgt) (kt : ¬ b ≤ a → zR sL sx d y tgt L S h o hF) (kf : b ≤ a → zR sL sx d y (pc + 3) L S h o hF) : zR sL sx d y pc L (.int b :: .int a :: S) h o hF := zR_iclt hz ht (fun c => kt (Int32.not_le.mpr c)) (fun c => kf (Int32.not_lt.mp c))
theorem zR_mgt {off : Int} {tgt : Nat} {a b : Int32} (hz : zat y pc = some (.if_icmp .gt off, 3)) (ht : zto pc off = tgt) (kt : ¬ a ≤ b → zR sL sx d y tgt L S h o hF) (kf : a ≤ b → zR sL sx d y (pc + 3) L S h o hF) : zR sL sx d y pc L (.int b :: .int a :: S) h o hF := zR_icgt hz ht (fun c => kt (Int32.not_le.mpr c)) (fun c => kf (Int32.not_lt.mp c))
theorem zR_nlt {off : Int} {tgt : Nat} {a : Int32} (hz : zat y pc = some (.ifCond .lt off, 3)) (ht : zto pc off = tgt) (kt : ¬ 0 ≤ a → zR sL sx d y tgt L S h o hF) (kf : 0 ≤ a → zR sL sx d y (pc + 3) L S h o hF) : zR sL sx d y pc L (.int a :: S) h o hF := zR_iflt hz ht (fun c => kt (Int32.not_le.mpr c)) (fun c => kf (Int32.not_lt.mp c))
theorem zR_ngt {off : Int} {tgt : Nat} {a : Int32} (hz : zat y pc = some (.ifCond .gt off, 3)) (ht : zto pc off = tgt) (kt : ¬ a ≤ 0 → zR sL sx d y tgt L S h o hF) (kf : a ≤ 0 → zR sL sx d y (pc + 3) L S h o hF) : zR sL sx d y pc L (.int a :: S) h o hF := zR_ifgt hz ht (fun c => kt (Int32.not_le.mpr c)) (fun c => kf (Int32.not_lt.mp c))
/-- a constant, as it is written -/
def zcons : Instr → Option Int32
  | .iconst n => some (Int32.ofInt n)
  | .bipush n => some (Int8.ofInt n).toInt32
  | .sipush n => some (Int16.ofInt n).toInt32
  | _ => none
theorem zR_cst {ins : Instr} {len : Nat} {v w : Int32} (hz : zat y pc = some (ins, len)) (hw : zcons ins = some w) (e : w = v) (k : zR sL sx d y (pc + len) L (.int v :: S) h o hF) : zR sL sx d y pc L S h o hF := by
  subst e
  cases ins with
  | iconst n => cases hw; exact zR_1 hz rfl rfl k
  | bipush n => cases hw; exact zR_1 hz rfl rfl k
  | sipush n => cases hw; exact zR_1 hz rfl rfl k
  | _ => simp [zcons] at hw
theorem zR_ldc {i len : Nat} {v : Int32} (hz : zat y pc = some (.ldc i, len)) (hw : zki zKI (zcls y) i = some v) (k : zR sL sx d y (pc + len) L (.int v :: S) h o hF) : zR sL sx d y pc L S h o hF := zR_1 hz rfl (by simp only [zsim, hw]; rfl) k
theorem zR_ldc2 {i len : Nat} {v : Int64} (hz : zat y pc = some (.ldc2_w i, len)) (hw : zkl zKL (zcls y) i = some v) (k : zR sL sx d y (pc + len) L (.long v :: S) h o hF) : zR sL sx d y pc L S h o hF := zR_1 hz rfl (by simp only [zsim, hw]; rfl) k
def zcnl : Instr → Option Int64
  | .lconst n => some (Int64.ofNat (n : Nat))
  | _ => none
theorem zR_lc {ins : Instr} {len : Nat} {v : Int64} (hz : zat y pc = some (ins, len)) (hw : zcnl ins = some v) (k : zR sL sx d y (pc + len) L (.long v :: S) h o hF) : zR sL sx d y pc L S h o hF := by
  cases ins with
  | lconst n => cases hw; exact zR_1 hz rfl rfl k
  | _ => simp [zcnl] at hw
theorem zR_incn {i j len : Nat} (hz : zat y pc = some (.iinc i 1, len)) (hl : zg L i = .int (nI j)) (hb : Nat.blt i L.length = true) (k : zR sL sx d y (pc + len) (zset1 L i (.int (nI (j + 1)))) S h o hF) : zR sL sx d y pc L S h o hF := by
  rw [show nI (j + 1) = nI j + Int32.ofInt 1 from nI_succ j] at k
  exact zR_1 hz rfl (by simp only [zsim, hl, hb]; rfl) k
theorem zR_nul {len : Nat} (hz : zat y pc = some (.aconst_null, len)) (k : zR sL sx d y (pc + len) L (zopt none :: S) h o hF) : zR sL sx d y pc L S h o hF := zR_1 hz rfl rfl k
theorem zR_null1 {off : Int} {tgt : Nat} {a : Option Nat} (hz : zat y pc = some (.ifnull off, 3)) (ht : zto pc off = tgt) (kt : a = none → zR sL sx d y tgt L S h o hF) (kf : ¬ a = none → zR sL sx d y (pc + 3) L S h o hF) : zR sL sx d y pc L (zopt a :: S) h o hF := zR_null hz ht kt (fun k e => kf (by rw [e]; simp))
theorem zR_nonnull1 {off : Int} {tgt : Nat} {a : Option Nat} (hz : zat y pc = some (.ifnonnull off, 3)) (ht : zto pc off = tgt) (kt : ¬ a = none → zR sL sx d y tgt L S h o hF) (kf : a = none → zR sL sx d y (pc + 3) L S h o hF) : zR sL sx d y pc L (zopt a :: S) h o hF := zR_nonnull hz ht (fun k e => kt (by rw [e]; simp)) kf
theorem zR_iadd {len : Nat} {a b : Int32} (hz : zat y pc = some (.iadd, len)) (k : zR sL sx d y (pc + len) L (.int (a + b) :: S) h o hF) : zR sL sx d y pc L (.int b :: .int a :: S) h o hF := zR_1 hz rfl rfl k
theorem zR_isub {len : Nat} {a b : Int32} (hz : zat y pc = some (.isub, len)) (k : zR sL sx d y (pc + len) L (.int (a - b) :: S) h o hF) : zR sL sx d y pc L (.int b :: .int a :: S) h o hF := zR_1 hz rfl rfl k
theorem zR_imul {len : Nat} {a b : Int32} (hz : zat y pc = some (.imul, len)) (k : zR sL sx d y (pc + len) L (.int (a * b) :: S) h o hF) : zR sL sx d y pc L (.int b :: .int a :: S) h o hF := zR_1 hz rfl rfl k
theorem zR_ladd {len : Nat} {a b : Int64} (hz : zat y pc = some (.ladd, len)) (k : zR sL sx d y (pc + len) L (.long (a + b) :: S) h o hF) : zR sL sx d y pc L (.long b :: .long a :: S) h o hF := zR_1 hz rfl rfl k
theorem zR_callt {P : Prop} {ins : Instr} {len z : Nat} {stat : Bool} {As rest : List Value} {v : Option Value} {ex : Nat} {h1 h2 : zH} (hz : zat y pc = some (ins, len)) (hc : zcalls y ins = some (z, stat, true)) (hA : (S.take (znar z)).reverse = As) (hr : S.drop (znar z) = rest) (hok : zcallok z stat As rest h = true) (hh : (zhan y).isEmpty = true)
    (hM : (P → zMe sL sx d z As h (.returned v) h1) ∧ (¬ P → zMe sL sx d z As h (.threw ex) h2)) (kk : P → zR sL sx (d + 1) y (pc + 3) L (v.toList ++ rest) h1 o hF) (ke : ¬ P → o = .threw ex ∧ hF = h2) : zR sL sx (d + 1) y pc L S h o hF := by
  by_cases q : P
  · exact zR_call hz hc hA hr hok (hM.1 q) (kk q)
  · obtain ⟨e1, e2⟩ := ke q
    subst e1; subst e2
    exact zR_callx hz hc hA hr hok hh (hM.2 q)
theorem zR_loop {M : Nat} {Lf : Nat → List Value} {Hf : Nat → zH} {I : Nat → Prop} (fin : I M → zR sL sx d y pc (Lf M) [] (Hf M) o hF) (step : ∀ j, j < M → I j → (I (j + 1) → zR sL sx d y pc (Lf (j + 1)) [] (Hf (j + 1)) o hF) → zR sL sx d y pc (Lf j) [] (Hf j) o hF) : ∀ j, j ≤ M → I j → zR sL sx d y pc (Lf j) [] (Hf j) o hF := by
  have key : ∀ k j, M - j = k → j ≤ M → I j → zR sL sx d y pc (Lf j) [] (Hf j) o hF := by
    intro k
    induction k with
    | zero =>
      intro j e hj hi
      have : j = M := by omega
      subst this
      exact fin hi
    | succ k ih =>
      intro j e hj hi
      exact step j (by omega) hi fun hi2 => ih (j + 1) (by omega) (by omega) hi2
  exact fun j => key _ j rfl
/-- .. from its start -/
theorem zR_loop0 {M : Nat} (Lf : Nat → List Value) (Hf : Nat → zH) (I : Nat → Prop) (hL : L = Lf 0) (hH : h = Hf 0) (h0 : I 0) (fin : I M → zR sL sx d y pc (Lf M) [] (Hf M) o hF) (step : ∀ j, j < M → I j → (I (j + 1) → zR sL sx d y pc (Lf (j + 1)) [] (Hf (j + 1)) o hF) → zR sL sx d y pc (Lf j) [] (Hf j) o hF) : zR sL sx d y pc L [] h o hF := by
  subst hL; subst hH
  exact zR_loop fin step 0 (Nat.zero_le _) h0
end ZRM
theorem nI_inc (j : Nat) : nI j + Int32.ofInt 1 = nI (j + 1) := (nI_succ j).symm
/-- how many below n -/
def zcnt (p : Nat → Bool) : Nat → Nat
  | 0 => 0
  | n + 1 => zcnt p n + (bif p n then 1 else 0)
theorem zcnt_le (p : Nat → Bool) (n : Nat) : zcnt p n ≤ n := by
  induction n with
  | zero => exact Nat.le_refl _
  | succ n ih => simp only [zcnt]; cases p n <;> simp <;> omega
theorem zcnt_t {p : Nat → Bool} {n : Nat} (h : p n = true) : zcnt p (n + 1) = zcnt p n + 1 := by simp [zcnt, h]
theorem zcnt_f {p : Nat → Bool} {n : Nat} (h : p n = false) : zcnt p (n + 1) = zcnt p n := by simp [zcnt, h]
theorem zcnt_congr {p q : Nat → Bool} {n : Nat} (h : ∀ i, i < n → p i = q i) : zcnt p n = zcnt q n := by
  induction n with
  | zero => rfl
  | succ n ih => simp only [zcnt, ih (fun i hi => h i (by omega)), h n (by omega)]
section ZC1
variable {sL : Nat} {sx : Nat → Int32} {d : Nat} {h : zH} {n : Nat} {g : Nat → Int32} {k : Option Nat} {z : Int64}
theorem m_isWithin {a b c : Int32} : zMe sL sx d 42 [.int a, .int b, .int c] h (.returned (some (.int (bI (decide (b ≤ a ∧ a ≤ c)))))) h := by
  show zR sL sx _ 42 0 [.int a, .int b, .int c] [] _ _ _
  refine zR_s rfl ?_
  refine zR_s rfl ?_
  refine zR_mlt rfl rfl (fun c1 => ?_) (fun c1 => ?_)
  · refine zR_cst (v := 0) rfl rfl rfl ?_
    first | refine zR_rete rfl rfl ?_ ?_ | refine zR_retb rfl rfl ?_ ?_
    all_goals (first | rfl | simp [bI, *])
  · refine zR_s rfl ?_
    refine zR_s rfl ?_
    refine zR_mgt rfl rfl (fun c2 => ?_) (fun c2 => ?_)
    · refine zR_cst (v := 0) rfl rfl rfl ?_
      first | refine zR_rete rfl rfl ?_ ?_ | refine zR_retb rfl rfl ?_ ?_
      all_goals (first | rfl | simp [bI, *])
    · refine zR_cst (v := 1) rfl rfl rfl ?_
      refine zR_s rfl ?_
      first | refine zR_rete rfl rfl ?_ ?_ | refine zR_retb rfl rfl ?_ ?_
      all_goals (first | rfl | simp [bI, *])
theorem m_checkRange {a b c : Int32} (hd : 6 ≤ d) : (b ≤ a ∧ a ≤ c → zMe sL sx (d + 1) 43 [.int a, .int b, .int c] h (.returned none) h) ∧ (¬ (b ≤ a ∧ a ≤ c) → zMe sL sx (d + 1) 43 [.int a, .int b, .int c] h (.threw 1) (h ++ [(101, [])])) := by
  constructor <;> intro q
  all_goals
    show zR sL sx _ 43 0 [.int a, .int b, .int c] [] _ _ _
    refine zR_s rfl ?_
    refine zR_s rfl ?_
    refine zR_s rfl ?_
    refine zR_call rfl rfl rfl rfl (zcallok_s rfl) (m_isWithin) ?_
    first | refine zR_dt rfl rfl (fun c1 => ?_) (fun c1 => ?_) | refine zR_bt rfl rfl (fun c1 => ?_) (fun c1 => ?_) | refine zR_ifne rfl rfl (fun c1 => ?_) (fun c1 => ?_)
    · refine zR_rete rfl rfl ?_ ?_
      all_goals (first | rfl | contradiction)
    · refine zR_throwe (by omega) rfl rfl rfl ?_ ?_
      all_goals (first | rfl | contradiction)
end ZC1
end
section
/-! the class's cells: facts and writes as rules -/
section ZCR
variable {sL : Nat} {sx : Nat → Int32} {d y pc : Nat} {L S : List Value} {hF : zH} {o : Outcome}
variable {N : Nat → Int32} {F G : Nat → Nat → Int32} {K : Nat → Option Nat} {Z : Nat → Int64} {tl : zH}
theorem zc1 : (zCs N F G K Z ++ tl)[1]? = some (0, zints 16 (F 0)) := zrd75 (k := 1) (by omega)
theorem zc2 : (zCs N F G K Z ++ tl)[2]? = some (0, zints 8 (F 1)) := zrd75 (k := 2) (by omega)
theorem zc3 : (zCs N F G K Z ++ tl)[3]? = some (0, zints 16 (F 2)) := zrd75 (k := 3) (by omega)
theorem zc4 : (zCs N F G K Z ++ tl)[4]? = some (0, zints 16 (F 3)) := zrd75 (k := 4) (by omega)
theorem zc7 : (zCs N F G K Z ++ tl)[7]? = some (0, zints 400 (F 4)) := zrd75 (k := 7) (by omega)
theorem zc8 : (zCs N F G K Z ++ tl)[8]? = some (0, zints 400 (F 5)) := zrd75 (k := 8) (by omega)
theorem zc9 : (zCs N F G K Z ++ tl)[9]? = some (0, zints 400 (F 6)) := zrd75 (k := 9) (by omega)
theorem zc10 : (zCs N F G K Z ++ tl)[10]? = some (0, zints 400 (F 7)) := zrd75 (k := 10) (by omega)
theorem zR_putN {ix j : Nat} {v : Int32} (hz : zat y pc = some (.putfield ix, 3)) (hp : zpool y ix = some (0, 2, j + 6)) (hj : j < 4) (hf : zputok y 2 (j + 6) (.int v) 10 = true) (kk : zR sL sx d y (pc + 3) L S (zCs (upd N j v) F G K Z ++ tl) o hF) : zR sL sx d y pc L (.int v :: .ref 0 :: S) (zCs N F G K Z ++ tl) o hF := by
  refine zR_put hz hp zc0 hf ?_
  rw [show j + 6 = 6 + j from Nat.add_comm _ _, zp_N hj]
  exact kk
theorem zR_putH {ix : Nat} {v : Int32} (hz : zat y pc = some (.putfield ix, 3)) (hp : zpool y ix = some (0, 0, 4)) (hf : zputok y 0 4 (.int v) 5 = true) (kk : zR sL sx d y (pc + 3) L S (zCs (upd N 4 v) F G K Z ++ tl) o hF) : zR sL sx d y pc L (.int v :: .ref 6 :: S) (zCs N F G K Z ++ tl) o hF := by
  refine zR_put hz hp zc6 hf ?_
  rw [zp_H]
  exact kk
theorem zR_putG {ix i j : Nat} {v : Int32} (hz : zat y pc = some (.putfield ix, 3)) (hp : zpool y ix = some (0, 1, j + 1)) (hi : i < 64) (hj : j < 7) (hf : zputok y 1 (j + 1) (.int v) 10 = true) (kk : zR sL sx d y (pc + 3) L S (zCs N F (updG G i j v) K Z ++ tl) o hF) : zR sL sx d y pc L (.int v :: .ref (i + 11) :: S) (zCs N F G K Z ++ tl) o hF := by
  refine zR_put hz hp (zcU hi) hf ?_
  rw [show j + 1 = 1 + j from Nat.add_comm _ _, zp_G hi hj]
  exact kk
theorem zR_putK {ix i : Nat} {v : Option Nat} (hz : zat y pc = some (.putfield ix, 3)) (hp : zpool y ix = some (0, 1, 8)) (hi : i < 64) (hf : zputok y 1 8 .null 10 = true) (kk : zR sL sx d y (pc + 3) L S (zCs N F G (va_up K i v) Z ++ tl) o hF) : zR sL sx d y pc L (zopt v :: .ref (i + 11) :: S) (zCs N F G K Z ++ tl) o hF := by
  have hf2 : zputok y 1 8 (zopt v) 10 = true := by
    cases v with
    | none => exact hf
    | some k => simp only [zputok] at hf ⊢; exact hf
  refine zR_put hz hp (zcU hi) hf2 ?_
  rw [zp_K hi]
  exact kk
theorem zR_putZ {ix i : Nat} {v : Int64} (hz : zat y pc = some (.putfield ix, 3)) (hp : zpool y ix = some (0, 1, 9)) (hi : i < 64) (hf : zputok y 1 9 (.long v) 10 = true) (kk : zR sL sx d y (pc + 3) L S (zCs N F G K (vp_updL Z i v) ++ tl) o hF) : zR sL sx d y pc L (.long v :: .ref (i + 11) :: S) (zCs N F G K Z ++ tl) o hF := by
  refine zR_put hz hp (zcU hi) hf ?_
  rw [zp_Z hi]
  exact kk
theorem zR_istF (a : Nat) {j : Nat} {x : Int32} (hz : zat y pc = some (.iastore, 1)) (ha : a < 8) (hj : j < zfl a) (kk : zR sL sx d y (pc + 1) L S (zCs N (updF F a (upd (F a) j x)) G K Z ++ tl) o hF) : zR sL sx d y pc L (.int x :: .int (nI j) :: .ref (zfa a) :: S) (zCs N F G K Z ++ tl) o hF := by
  have hl : zfl a < 2 ^ 31 := by rcases (show a = 0 ∨ a = 1 ∨ a = 2 ∨ a = 3 ∨ a = 4 ∨ a = 5 ∨ a = 6 ∨ a = 7 by omega) with rfl | rfl | rfl | rfl | rfl | rfl | rfl | rfl <;> decide
  refine zR_ist hz (zcF ha) hj hl ?_
  rw [zp_F ha]
  exact kk
theorem zR_ildF (a : Nat) {j : Nat} (hz : zat y pc = some (.iaload, 1)) (ha : a < 8) (hj : j < zfl a) (kk : zR sL sx d y (pc + 1) L (.int (F a j) :: S) (zCs N F G K Z ++ tl) o hF) : zR sL sx d y pc L (.int (nI j) :: .ref (zfa a) :: S) (zCs N F G K Z ++ tl) o hF := by
  have hl : zfl a < 2 ^ 31 := by rcases (show a = 0 ∨ a = 1 ∨ a = 2 ∨ a = 3 ∨ a = 4 ∨ a = 5 ∨ a = 6 ∨ a = 7 by omega) with rfl | rfl | rfl | rfl | rfl | rfl | rfl | rfl <;> decide
  exact zR_ild hz (zcF ha) hj hl kk
theorem zR_aldU {j : Nat} (hz : zat y pc = some (.aaload, 1)) (hj : j < 64) (kk : zR sL sx d y (pc + 1) L (.ref (j + 11) :: S) (zCs N F G K Z ++ tl) o hF) : zR sL sx d y pc L (.int (nI j) :: .ref 5 :: S) (zCs N F G K Z ++ tl) o hF :=
  zR_ald hz zc5 (by omega) (zrefs_at hj) kk
end ZCR
end
section
/-! the class's small methods -/
section ZCS
variable {sL : Nat} {sx : Nat → Int32} {d : Nat} {N : Nat → Int32} {F G : Nat → Nat → Int32} {K : Nat → Option Nat} {Z : Nat → Int64} {tl : zH} {M i : Nat}
theorem m_clear : zMe sL sx d 1 [.ref 6] (zCs N F G K Z ++ tl) (.returned none) (zCs (upd N 4 0) F G K Z ++ tl) := by
  show zR sL sx _ 1 0 [.ref 6] [] _ _ _
  refine zR_s rfl ?_
  refine zR_cst (v := 0) rfl rfl rfl ?_
  refine zR_putH rfl rfl rfl ?_
  refine zR_rete rfl rfl ?_ ?_
  all_goals (first | rfl | simp [bI, *])
theorem m_hasRoom {a : Int32} : zMe sL sx d 2 [.ref 6, .int a] (zCs N F G K Z ++ tl) (.returned (some (.int (bI (decide (N 4 + a ≤ 400)))))) (zCs N F G K Z ++ tl) := by
  show zR sL sx _ 2 0 [.ref 6, .int a] [] _ _ _
  refine zR_s rfl ?_
  refine zR_get rfl rfl (zc6) rfl ?_
  refine zR_s rfl ?_
  refine zR_iadd rfl ?_
  refine zR_cst (v := 400) rfl rfl rfl ?_
  refine zR_mgt rfl rfl (fun c1 => ?_) (fun c1 => ?_)
  · refine zR_cst (v := 0) rfl rfl rfl ?_
    first | refine zR_rete rfl rfl ?_ ?_ | refine zR_retb rfl rfl ?_ ?_
    all_goals (first | rfl | simp [bI, *])
  · refine zR_cst (v := 1) rfl rfl rfl ?_
    refine zR_s rfl ?_
    first | refine zR_rete rfl rfl ?_ ?_ | refine zR_retb rfl rfl ?_ ?_
    all_goals (first | rfl | simp [bI, *])
/-- a row more in the history -/
def zadd (F : Nat → Nat → Int32) (A : Nat) (a b c e : Int32) : Nat → Nat → Int32 := updF (updF (updF (updF F 4 (upd (F 4) A a)) 5 (upd (F 5) A b)) 6 (upd (F 6) A c)) 7 (upd (F 7) A e)
theorem m_add {A : Nat} {a b c e : Int32} (hN : N 4 = nI A) (hA : A < 400) : zMe sL sx (d + 1) 3 [.ref 6, .int a, .int b, .int c, .int e] (zCs N F G K Z ++ tl) (.returned none) (zCs (upd N 4 (nI (A + 1))) (zadd F A a b c e) G K Z ++ tl) := by
  show zR sL sx _ 3 0 [.ref 6, .int a, .int b, .int c, .int e] [] _ _ _
  have h1 : N 4 + 1 ≤ 400 := by rw [hN, nI_1]; exact nI_le (b := 400) (by omega) (by omega)
  refine zR_s rfl ?_
  refine zR_cst (v := 1) rfl rfl rfl ?_
  refine zR_call rfl rfl rfl rfl (zcallok_v (zc6) rfl rfl) (m_hasRoom) ?_
  first | refine zR_df rfl rfl (fun c1 => absurd h1 c1) (fun c1 => ?_) | refine zR_bf rfl rfl (fun c1 => absurd h1 c1) (fun c1 => ?_) | refine zR_ifeq rfl rfl (fun c1 => absurd h1 c1) (fun c1 => ?_)
  skip
  rw [show N = upd N 4 (nI A) from by funext q; simp only [upd]; split; rename_i e1; rw [e1, hN]; rfl]
  refine zR_s rfl ?_
  refine zR_get rfl rfl (zc6) rfl ?_
  refine zR_s rfl ?_
  refine zR_get rfl rfl (zc6) rfl ?_
  refine zR_s rfl ?_
  first | refine zR_istF 4 (j := A) rfl (by decide) hA ?_ | refine zR_istF 5 (j := A) rfl (by decide) hA ?_ | refine zR_istF 6 (j := A) rfl (by decide) hA ?_ | refine zR_istF 7 (j := A) rfl (by decide) hA ?_
  refine zR_s rfl ?_
  refine zR_get rfl rfl (zc6) rfl ?_
  refine zR_s rfl ?_
  refine zR_get rfl rfl (zc6) rfl ?_
  refine zR_s rfl ?_
  first | refine zR_istF 4 (j := A) rfl (by decide) hA ?_ | refine zR_istF 5 (j := A) rfl (by decide) hA ?_ | refine zR_istF 6 (j := A) rfl (by decide) hA ?_ | refine zR_istF 7 (j := A) rfl (by decide) hA ?_
  refine zR_s rfl ?_
  refine zR_get rfl rfl (zc6) rfl ?_
  refine zR_s rfl ?_
  refine zR_get rfl rfl (zc6) rfl ?_
  refine zR_s rfl ?_
  first | refine zR_istF 4 (j := A) rfl (by decide) hA ?_ | refine zR_istF 5 (j := A) rfl (by decide) hA ?_ | refine zR_istF 6 (j := A) rfl (by decide) hA ?_ | refine zR_istF 7 (j := A) rfl (by decide) hA ?_
  refine zR_s rfl ?_
  refine zR_get rfl rfl (zc6) rfl ?_
  refine zR_s rfl ?_
  refine zR_get rfl rfl (zc6) rfl ?_
  refine zR_s rfl ?_
  first | refine zR_istF 4 (j := A) rfl (by decide) hA ?_ | refine zR_istF 5 (j := A) rfl (by decide) hA ?_ | refine zR_istF 6 (j := A) rfl (by decide) hA ?_ | refine zR_istF 7 (j := A) rfl (by decide) hA ?_
  refine zR_s rfl ?_
  refine zR_s rfl ?_
  refine zR_get rfl rfl (zc6) rfl ?_
  refine zR_cst (v := 1) rfl rfl rfl ?_
  refine zR_iadd rfl ?_
  refine zR_putH rfl rfl rfl ?_
  skip
  refine zR_rete rfl rfl rfl ?_
  have e1 : upd N 4 (nI (A + 1)) = upd (upd N 4 (nI A)) 4 (upd N 4 (nI A) 4 + 1) := by
    funext q
    simp only [upd, if_pos]
    split
    · rw [nI_1]
    · rfl
  have e2 : upd (upd N 4 (nI A)) 4 (nI (A + 1)) = upd N 4 (nI (A + 1)) := by
    funext q
    simp only [upd]
    split <;> rfl
  rw [e2, e1]
  rfl
theorem m_read {A r : Nat} {w : Int32} (hN : N 4 = nI A) (hA : A ≤ 400) (hr : r < A) : zMe sL sx (d + 1) 5 [.ref 6, .int (nI r), .int w] (zCs N F G K Z ++ tl) (.returned (some (.int (if w = 0 then F 5 r else if w = 1 then F 6 r else F 7 r)))) (zCs N F G K Z ++ tl) := by
  show zR sL sx _ 5 0 [.ref 6, .int (nI r), .int w] [] _ _ _
  have h1 : 0 ≤ nI r ∧ nI r ≤ N 4 - 1 := by
    refine ⟨nI_pos' (by omega), ?_⟩
    obtain ⟨A', rfl⟩ : ∃ A', A = A' + 1 := ⟨A - 1, by omega⟩
    rw [hN, nI_pred]
    exact nI_le (by omega) (by omega)
  refine zR_s rfl ?_
  refine zR_cst (v := 0) rfl rfl rfl ?_
  refine zR_s rfl ?_
  refine zR_get rfl rfl (zc6) rfl ?_
  refine zR_cst (v := 1) rfl rfl rfl ?_
  refine zR_isub rfl ?_
  refine zR_call rfl rfl rfl rfl (zcallok_s rfl) (m_isWithin) ?_
  first | refine zR_dt rfl rfl (fun c1 => ?_) (fun c1 => absurd h1 c1) | refine zR_bt rfl rfl (fun c1 => ?_) (fun c1 => absurd h1 c1) | refine zR_ifne rfl rfl (fun c1 => ?_) (fun c1 => absurd h1 c1)
  refine zR_s rfl ?_
  first | refine zR_dt rfl rfl (fun c2 => ?_) (fun c2 => ?_) | refine zR_bt rfl rfl (fun c2 => ?_) (fun c2 => ?_) | refine zR_ifne rfl rfl (fun c2 => ?_) (fun c2 => ?_)
  · refine zR_s rfl ?_
    refine zR_cst (v := 1) rfl rfl rfl ?_
    refine zR_icne rfl rfl (fun c3 => ?_) (fun c3 => ?_)
    · refine zR_s rfl ?_
      refine zR_get rfl rfl (zc6) rfl ?_
      refine zR_s rfl ?_
      first | refine zR_ildF 5 rfl (by decide) (show r < 400 by omega) ?_ | refine zR_ildF 6 rfl (by decide) (show r < 400 by omega) ?_ | refine zR_ildF 7 rfl (by decide) (show r < 400 by omega) ?_
      first | refine zR_rete rfl rfl ?_ ?_ | refine zR_retb rfl rfl ?_ ?_
      all_goals (first | rfl | simp [c2, c3] | simp [c2])
    · refine zR_s rfl ?_
      refine zR_get rfl rfl (zc6) rfl ?_
      refine zR_s rfl ?_
      first | refine zR_ildF 5 rfl (by decide) (show r < 400 by omega) ?_ | refine zR_ildF 6 rfl (by decide) (show r < 400 by omega) ?_ | refine zR_ildF 7 rfl (by decide) (show r < 400 by omega) ?_
      refine zR_s rfl ?_
      first | refine zR_rete rfl rfl ?_ ?_ | refine zR_retb rfl rfl ?_ ?_
      all_goals (first | rfl | simp [c2, c3] | simp [c2])
  · refine zR_s rfl ?_
    refine zR_get rfl rfl (zc6) rfl ?_
    refine zR_s rfl ?_
    first | refine zR_ildF 5 rfl (by decide) (show r < 400 by omega) ?_ | refine zR_ildF 6 rfl (by decide) (show r < 400 by omega) ?_ | refine zR_ildF 7 rfl (by decide) (show r < 400 by omega) ?_
    refine zR_s rfl ?_
    first | refine zR_rete rfl rfl ?_ ?_ | refine zR_retb rfl rfl ?_ ?_
    all_goals (first | rfl | simp [c2, c3] | simp [c2])
theorem m_be {a b c e f : Int32} (hi : i < 64) : zMe sL sx d 7 [.ref (i + 11), .int a, .int b, .int c, .int e, .int f] (zCs N F G K Z ++ tl) (.returned none) (zCs N F (updG (updG (updG (updG (updG G i 0 a) i 1 b) i 2 c) i 3 e) i 4 f) K (vp_updL Z i 0) ++ tl) := by
  show zR sL sx _ 7 0 [.ref (i + 11), .int a, .int b, .int c, .int e, .int f] [] _ _ _
  refine zR_s rfl ?_
  refine zR_s rfl ?_
  first | refine zR_putG rfl rfl hi (by decide) rfl ?_ | refine zR_putZ rfl rfl hi rfl ?_
  refine zR_s rfl ?_
  refine zR_s rfl ?_
  first | refine zR_putG rfl rfl hi (by decide) rfl ?_ | refine zR_putZ rfl rfl hi rfl ?_
  refine zR_s rfl ?_
  refine zR_s rfl ?_
  first | refine zR_putG rfl rfl hi (by decide) rfl ?_ | refine zR_putZ rfl rfl hi rfl ?_
  refine zR_s rfl ?_
  refine zR_s rfl ?_
  first | refine zR_putG rfl rfl hi (by decide) rfl ?_ | refine zR_putZ rfl rfl hi rfl ?_
  refine zR_s rfl ?_
  refine zR_s rfl ?_
  first | refine zR_putG rfl rfl hi (by decide) rfl ?_ | refine zR_putZ rfl rfl hi rfl ?_
  refine zR_s rfl ?_
  refine zR_lc (v := 0) rfl rfl ?_
  first | refine zR_putG rfl rfl hi (by decide) rfl ?_ | refine zR_putZ rfl rfl hi rfl ?_
  refine zR_rete rfl rfl ?_ ?_
  all_goals (first | rfl | simp [bI, *])
theorem m_stand {a b : Int32} {c : Option Nat} (hi : i < 64) : zMe sL sx d 8 [.ref (i + 11), .int a, .int b, zopt c] (zCs N F G K Z ++ tl) (.returned none) (zCs N F (updG (updG G i 5 a) i 6 b) (va_up K i c) Z ++ tl) := by
  have e : zent (zmax 8) [.ref (i + 11), .int a, .int b, zopt c] = [.ref (i + 11), .int a, .int b, zopt c] := by cases c <;> rfl
  rw [zMe, e]
  first | refine zR_s rfl ?_ | refine zR_alo rfl rfl rfl ?_
  refine zR_s rfl ?_
  first | refine zR_putG rfl rfl hi (by decide) rfl ?_ | refine zR_putK rfl rfl hi rfl ?_
  first | refine zR_s rfl ?_ | refine zR_alo rfl rfl rfl ?_
  refine zR_s rfl ?_
  first | refine zR_putG rfl rfl hi (by decide) rfl ?_ | refine zR_putK rfl rfl hi rfl ?_
  first | refine zR_s rfl ?_ | refine zR_alo rfl rfl rfl ?_
  first | refine zR_s rfl ?_ | refine zR_alo rfl rfl rfl ?_
  first | refine zR_putG rfl rfl hi (by decide) rfl ?_ | refine zR_putK rfl rfl hi rfl ?_
  refine zR_rete rfl rfl ?_ ?_
  all_goals (first | rfl | simp [bI, *])
theorem m_expire {a : Int32} (hi : i < 64) : zMe sL sx (d + 1) 11 [.ref (i + 11), .int a] (zCs N F G K Z ++ tl) (.returned (some (.int (bI (decide ((G i 5 = 0 ∨ G i 5 = 1) ∧ G i 2 < a)))))) (zCs N F (if (G i 5 = 0 ∨ G i 5 = 1) ∧ G i 2 < a then updG G i 5 3 else G) K Z ++ tl) := by
  show zR sL sx _ 11 0 [.ref (i + 11), .int a, .retAddr 0] [] _ _ _
  refine zR_s rfl ?_
  refine zR_get rfl rfl (zcU hi) rfl ?_
  first | refine zR_df rfl rfl (fun c1 => ?_) (fun c1 => ?_) | refine zR_bf rfl rfl (fun c1 => ?_) (fun c1 => ?_) | refine zR_ifeq rfl rfl (fun c1 => ?_) (fun c1 => ?_)
  · refine zR_s rfl ?_
    refine zR_s rfl ?_
    refine zR_call rfl rfl rfl rfl (zcallok_v (zcU hi) rfl rfl) (m_isOver (zcU hi)) ?_
    first | refine zR_df rfl rfl (fun c2 => ?_) (fun c2 => ?_) | refine zR_bf rfl rfl (fun c2 => ?_) (fun c2 => ?_) | refine zR_ifeq rfl rfl (fun c2 => ?_) (fun c2 => ?_)
    · refine zR_cst (v := 0) rfl rfl rfl ?_
      refine zR_s rfl ?_
      refine zR_s rfl ?_
      refine zR_ifeq rfl rfl (fun _ => ?_) (fun c => absurd c (by decide))
      refine zR_s rfl ?_
      first | refine zR_rete rfl rfl ?_ ?_ | refine zR_retb rfl rfl ?_ ?_
      all_goals (first | rfl | simp [bI, *])
    · refine zR_cst (v := 1) rfl rfl rfl ?_
      refine zR_s rfl ?_
      refine zR_s rfl ?_
      refine zR_s rfl ?_
      refine zR_ifeq rfl rfl (fun c => absurd c (by decide)) (fun _ => ?_)
      refine zR_s rfl ?_
      refine zR_cst (v := 3) rfl rfl rfl ?_
      refine zR_putG rfl rfl hi (by decide) rfl ?_
      refine zR_s rfl ?_
      first | refine zR_rete rfl rfl ?_ ?_ | refine zR_retb rfl rfl ?_ ?_
      all_goals (first | rfl | simp [bI, *])
  · refine zR_s rfl ?_
    refine zR_get rfl rfl (zcU hi) rfl ?_
    refine zR_cst (v := 1) rfl rfl rfl ?_
    refine zR_icne rfl rfl (fun c2 => ?_) (fun c2 => ?_)
    · refine zR_cst (v := 0) rfl rfl rfl ?_
      refine zR_s rfl ?_
      refine zR_s rfl ?_
      refine zR_ifeq rfl rfl (fun _ => ?_) (fun c => absurd c (by decide))
      refine zR_s rfl ?_
      first | refine zR_rete rfl rfl ?_ ?_ | refine zR_retb rfl rfl ?_ ?_
      all_goals (first | rfl | simp [bI, *])
    · refine zR_s rfl ?_
      refine zR_s rfl ?_
      refine zR_call rfl rfl rfl rfl (zcallok_v (zcU hi) rfl rfl) (m_isOver (zcU hi)) ?_
      first | refine zR_df rfl rfl (fun c3 => ?_) (fun c3 => ?_) | refine zR_bf rfl rfl (fun c3 => ?_) (fun c3 => ?_) | refine zR_ifeq rfl rfl (fun c3 => ?_) (fun c3 => ?_)
      · refine zR_cst (v := 0) rfl rfl rfl ?_
        refine zR_s rfl ?_
        refine zR_s rfl ?_
        refine zR_ifeq rfl rfl (fun _ => ?_) (fun c => absurd c (by decide))
        refine zR_s rfl ?_
        first | refine zR_rete rfl rfl ?_ ?_ | refine zR_retb rfl rfl ?_ ?_
        all_goals (first | rfl | simp [bI, *])
      · refine zR_cst (v := 1) rfl rfl rfl ?_
        refine zR_s rfl ?_
        refine zR_s rfl ?_
        refine zR_s rfl ?_
        refine zR_ifeq rfl rfl (fun c => absurd c (by decide)) (fun _ => ?_)
        refine zR_s rfl ?_
        refine zR_cst (v := 3) rfl rfl rfl ?_
        refine zR_putG rfl rfl hi (by decide) rfl ?_
        refine zR_s rfl ?_
        first | refine zR_rete rfl rfl ?_ ?_ | refine zR_retb rfl rfl ?_ ?_
        all_goals (first | rfl | simp [bI, *])
def zbec (s l n t : Int32) : Bool := if n = 5 then decide (¬ s = 4 ∧ ¬ s = 5) else if (n = 0 ∨ n = 1) ∧ l < t then false else if s = 0 then decide (n = 1 ∨ n = 2) else if s = 1 then decide (n = 0 ∨ n = 2) else if s = 2 then decide (n = 1) else false
theorem zsw_d {pc : Nat} {df lo hi : Int} {offs : Array Int} {v : Int32} (h : v.toInt < lo ∨ hi < v.toInt) : zsw pc df lo hi offs v = some (zto pc df) := if_pos h
theorem i32_ne {v : Int32} {n : Int32} (h : ¬ v = n) : v.toInt ≠ n.toInt := fun q => h (Int32.toInt_inj.mp q)
theorem m_canBecome {n t : Int32} (hi : i < 64) : zMe sL sx (d + 1) 12 [.ref (i + 11), .int n, .int t] (zCs N F G K Z ++ tl) (.returned (some (.int (bI (zbec (G i 5) (G i 2) n t))))) (zCs N F G K Z ++ tl) := by
  show zR sL sx _ 12 0 [.ref (i + 11), .int n, .int t] [] _ _ _
  have sw : ¬ n = 5 → ¬ ((n = 0 ∨ n = 1) ∧ G i 2 < t) → zR sL sx (d + 1) 12 29 [.ref (i + 11), .int n, .int t] [] (zCs N F G K Z ++ tl) (.returned (some (.int (bI (zbec (G i 5) (G i 2) n t))))) (zCs N F G K Z ++ tl) := by
    intro e1 e2
    have e3 : zbec (G i 5) (G i 2) n t = (if G i 5 = 0 then decide (n = 1 ∨ n = 2) else if G i 5 = 1 then decide (n = 0 ∨ n = 2) else if G i 5 = 2 then decide (n = 1) else false) := by
      rw [zbec, if_neg e1, if_neg e2]
    rw [e3]
    refine zR_s rfl ?_
    refine zR_get rfl rfl (zcU hi) rfl ?_
    by_cases s0 : G i 5 = 0
    · refine zR_sw (tgt := 60) rfl (by show zsw _ _ _ _ _ (G i 5) = _; rw [s0]; rfl) ?_
      rw [if_pos s0]
      refine zR_s rfl ?_
      refine zR_cst (v := 1) rfl rfl rfl ?_
      refine zR_iceq rfl rfl (fun c1 => ?_) (fun c1 => ?_)
      · refine zR_cst (v := 1) rfl rfl rfl ?_
        refine zR_s rfl ?_
        first | refine zR_rete rfl rfl ?_ ?_ | refine zR_retb rfl rfl ?_ ?_
        all_goals (first | rfl | simp [bI, *])
      · refine zR_s rfl ?_
        refine zR_cst (v := 2) rfl rfl rfl ?_
        refine zR_icne rfl rfl (fun c2 => ?_) (fun c2 => ?_)
        · refine zR_cst (v := 0) rfl rfl rfl ?_
          first | refine zR_rete rfl rfl ?_ ?_ | refine zR_retb rfl rfl ?_ ?_
          all_goals (first | rfl | simp [bI, *])
        · refine zR_cst (v := 1) rfl rfl rfl ?_
          refine zR_s rfl ?_
          first | refine zR_rete rfl rfl ?_ ?_ | refine zR_retb rfl rfl ?_ ?_
          all_goals (first | rfl | simp [bI, *])
    by_cases s1 : G i 5 = 1
    · refine zR_sw (tgt := 76) rfl (by show zsw _ _ _ _ _ (G i 5) = _; rw [s1]; rfl) ?_
      rw [if_neg s0, if_pos s1]
      refine zR_s rfl ?_
      first | refine zR_df rfl rfl (fun c1 => ?_) (fun c1 => ?_) | refine zR_bf rfl rfl (fun c1 => ?_) (fun c1 => ?_) | refine zR_ifeq rfl rfl (fun c1 => ?_) (fun c1 => ?_)
      · refine zR_cst (v := 1) rfl rfl rfl ?_
        refine zR_s rfl ?_
        first | refine zR_rete rfl rfl ?_ ?_ | refine zR_retb rfl rfl ?_ ?_
        all_goals (first | rfl | simp [bI, *])
      · refine zR_s rfl ?_
        refine zR_cst (v := 2) rfl rfl rfl ?_
        refine zR_icne rfl rfl (fun c2 => ?_) (fun c2 => ?_)
        · refine zR_cst (v := 0) rfl rfl rfl ?_
          first | refine zR_rete rfl rfl ?_ ?_ | refine zR_retb rfl rfl ?_ ?_
          all_goals (first | rfl | simp [bI, *])
        · refine zR_cst (v := 1) rfl rfl rfl ?_
          refine zR_s rfl ?_
          first | refine zR_rete rfl rfl ?_ ?_ | refine zR_retb rfl rfl ?_ ?_
          all_goals (first | rfl | simp [bI, *])
    by_cases s2 : G i 5 = 2
    · refine zR_sw (tgt := 91) rfl (by show zsw _ _ _ _ _ (G i 5) = _; rw [s2]; rfl) ?_
      rw [if_neg s0, if_neg s1, if_pos s2]
      refine zR_s rfl ?_
      refine zR_cst (v := 1) rfl rfl rfl ?_
      refine zR_icne rfl rfl (fun c1 => ?_) (fun c1 => ?_)
      · refine zR_cst (v := 0) rfl rfl rfl ?_
        first | refine zR_rete rfl rfl ?_ ?_ | refine zR_retb rfl rfl ?_ ?_
        all_goals (first | rfl | simp [bI, *])
      · refine zR_cst (v := 1) rfl rfl rfl ?_
        refine zR_s rfl ?_
        first | refine zR_rete rfl rfl ?_ ?_ | refine zR_retb rfl rfl ?_ ?_
        all_goals (first | rfl | simp [bI, *])
    rw [if_neg s0, if_neg s1, if_neg s2]
    have q0 := i32_ne s0
    have q1 := i32_ne s1
    have q2 := i32_ne s2
    simp at q0 q1 q2
    refine zR_sw (tgt := 102) rfl (zsw_d (v := G i 5) (by omega)) ?_
    refine zR_cst (v := 0) rfl rfl rfl ?_
    first | refine zR_rete rfl rfl ?_ ?_ | refine zR_retb rfl rfl ?_ ?_
    all_goals (first | rfl | simp [bI, *])
  refine zR_s rfl ?_
  refine zR_cst (v := 5) rfl rfl rfl ?_
  refine zR_icne rfl rfl (fun c1 => ?_) (fun c1 => ?_)
  · refine zR_s rfl ?_
    first | refine zR_df rfl rfl (fun c2 => ?_) (fun c2 => ?_) | refine zR_bf rfl rfl (fun c2 => ?_) (fun c2 => ?_) | refine zR_ifeq rfl rfl (fun c2 => ?_) (fun c2 => ?_)
    · refine zR_s rfl ?_
      refine zR_s rfl ?_
      refine zR_call rfl rfl rfl rfl (zcallok_v (zcU hi) rfl rfl) (m_isOver (zcU hi)) ?_
      first | refine zR_df rfl rfl (fun c3 => ?_) (fun c3 => ?_) | refine zR_bf rfl rfl (fun c3 => ?_) (fun c3 => ?_) | refine zR_ifeq rfl rfl (fun c3 => ?_) (fun c3 => ?_)
      · exact sw (by assumption) (by simp [*])
      · refine zR_cst (v := 0) rfl rfl rfl ?_
        first | refine zR_rete rfl rfl ?_ ?_ | refine zR_retb rfl rfl ?_ ?_
        all_goals (first | rfl | simp [zbec, zst, bI, *])
    · refine zR_s rfl ?_
      refine zR_cst (v := 1) rfl rfl rfl ?_
      refine zR_icne rfl rfl (fun c3 => ?_) (fun c3 => ?_)
      · exact sw (by assumption) (by simp [*])
      · refine zR_s rfl ?_
        refine zR_s rfl ?_
        refine zR_call rfl rfl rfl rfl (zcallok_v (zcU hi) rfl rfl) (m_isOver (zcU hi)) ?_
        first | refine zR_df rfl rfl (fun c4 => ?_) (fun c4 => ?_) | refine zR_bf rfl rfl (fun c4 => ?_) (fun c4 => ?_) | refine zR_ifeq rfl rfl (fun c4 => ?_) (fun c4 => ?_)
        · exact sw (by assumption) (by simp [*])
        · refine zR_cst (v := 0) rfl rfl rfl ?_
          first | refine zR_rete rfl rfl ?_ ?_ | refine zR_retb rfl rfl ?_ ?_
          all_goals (first | rfl | simp [zbec, zst, bI, *])
  · refine zR_s rfl ?_
    refine zR_call rfl rfl rfl rfl (zcallok_v (zcU hi) rfl rfl) (m_stands (zcU hi)) ?_
    first | refine zR_rete rfl rfl ?_ ?_ | refine zR_retb rfl rfl ?_ ?_
    all_goals (first | rfl | simp [zbec, zst, bI, *])
/-- is u among the next n containers? -/
def zlw (K : Nat → Option Nat) (u : Nat) : Nat → Option Nat → Bool
  | 0, _ => false
  | _ + 1, none => false
  | n + 1, some c => decide (c = u) || zlw K u n (K c)
/-- how many containers, n at most -/
def zdp (K : Nat → Option Nat) : Nat → Option Nat → Nat
  | 0, _ => 0
  | _ + 1, none => 0
  | n + 1, some c => zdp K n (K c) + 1
def zKb (K : Nat → Option Nat) : Prop := ∀ c c', K c = some c' → c' < 64
theorem zR_cv {sL : Nat} {sx : Nat → Int32} {d y pc : Nat} {L L' S : List Value} {h hF : zH} {o : Outcome} (e : L = L') (k : zR sL sx d y pc L' S h o hF) : zR sL sx d y pc L S h o hF := by subst e; exact k
theorem zR_aner {sL : Nat} {sx : Nat → Int32} {d y pc : Nat} {L S : List Value} {h hF : zH} {o : Outcome} {off : Int} {tgt : Nat} {a b : Nat} (hz : zat y pc = some (.if_acmp .ne off, 3)) (ht : zto pc off = tgt) (kt : ¬ a = b → zR sL sx d y tgt L S h o hF) (kf : a = b → zR sL sx d y (pc + 3) L S h o hF) : zR sL sx d y pc L (.ref (b + 11) :: .ref (a + 11) :: S) h o hF := zR_ane (a := some a) (b := some b) hz ht (fun c => kt (fun e => c (by rw [e]))) (fun c => kf (Option.some.inj c))
theorem zR_aeqr {sL : Nat} {sx : Nat → Int32} {d y pc : Nat} {L S : List Value} {h hF : zH} {o : Outcome} {off : Int} {tgt : Nat} {a b : Nat} (hz : zat y pc = some (.if_acmp .eq off, 3)) (ht : zto pc off = tgt) (kt : a = b → zR sL sx d y tgt L S h o hF) (kf : ¬ a = b → zR sL sx d y (pc + 3) L S h o hF) : zR sL sx d y pc L (.ref (b + 11) :: .ref (a + 11) :: S) h o hF := zR_aeq (a := some a) (b := some b) hz ht (fun c => kt (Option.some.inj c)) (fun c => kf (fun e => c (by rw [e])))
theorem m_liesWithin {u : Nat} (hK : zKb K) (hi : i < 64) : zMe sL sx d 14 [.ref (i + 11), .ref (u + 11)] (zCs N F G K Z ++ tl) (.returned (some (.int (bI (zlw K u 4 (K i)))))) (zCs N F G K Z ++ tl) := by
  have key : ∀ f t x, f + t = 4 → (∀ c, x = some c → c < 64) → zR sL sx d 14 7 [.ref (i + 11), .ref (u + 11), zopt x, .int (nI (t + 1))] [] (zCs N F G K Z ++ tl) (.returned (some (.int (bI (zlw K u f x))))) (zCs N F G K Z ++ tl) := by
    intro f
    induction f with
    | zero =>
      intro t x e hx
      have ht : t = 4 := by omega
      subst ht
      first | refine zR_s rfl ?_ | refine zR_alo rfl rfl rfl ?_
      refine zR_null1 rfl rfl (fun c1 => ?_) (fun c1 => ?_)
      · refine zR_cst (v := 0) rfl rfl rfl ?_
        first | refine zR_rete rfl rfl ?_ ?_ | refine zR_retb rfl rfl ?_ ?_
        all_goals (first | rfl)
      · refine zR_s rfl ?_
        refine zR_cst (v := 5) rfl rfl rfl ?_
        refine zR_icge rfl rfl (fun c2 => ?_) (fun c2 => absurd (show (5 : Int32) ≤ nI (4 + 1) by decide) c2)
        refine zR_cst (v := 0) rfl rfl rfl ?_
        first | refine zR_rete rfl rfl ?_ ?_ | refine zR_retb rfl rfl ?_ ?_
        all_goals (first | rfl)
    | succ f ih =>
      intro t x e hx
      first | refine zR_s rfl ?_ | refine zR_alo rfl rfl rfl ?_
      refine zR_null1 rfl rfl (fun c1 => ?_) (fun c1 => ?_)
      · refine zR_cst (v := 0) rfl rfl rfl ?_
        first | refine zR_rete rfl rfl ?_ ?_ | refine zR_retb rfl rfl ?_ ?_
        all_goals (first | rfl | simp [zlw, bI, *])
      · obtain ⟨c, rfl⟩ : ∃ c, x = some c := by { cases x; exact absurd rfl c1; exact ⟨_, rfl⟩ }
        refine zR_s rfl ?_
        refine zR_cst (v := 5) rfl rfl rfl ?_
        refine zR_icge rfl rfl (fun c => by first | exact absurd c ((nI_ge (a := t + 1) (b := 5) (by omega) (by omega))) | exact absurd ((nI_ge (a := t + 1) (b := 5) (by omega) (by omega))) c) (fun _ => ?_)
        first | refine zR_s rfl ?_ | refine zR_alo rfl rfl rfl ?_
        first | refine zR_s rfl ?_ | refine zR_alo rfl rfl rfl ?_
        first | refine zR_aner rfl rfl (fun c2 => ?_) (fun c2 => ?_) | refine zR_ane rfl rfl (fun c2 => ?_) (fun c2 => ?_)
        · first | refine zR_s rfl ?_ | refine zR_alo rfl rfl rfl ?_
          refine zR_get rfl rfl (zcU (hx _ rfl)) rfl ?_
          first | refine zR_s rfl ?_ | refine zR_aso rfl rfl rfl ?_
          first | refine zR_incn rfl rfl rfl ?_ | refine zR_s rfl ?_
          refine zR_goto rfl rfl ?_
          (have w := ih (t + 1) (K c) (by omega) (fun c2 e2 => hK _ _ e2); simp only [zlw, c2, decide_false, Bool.false_or]; exact zR_cv (by cases (K c) <;> rfl) w)
        · refine zR_cst (v := 1) rfl rfl rfl ?_
          first | refine zR_rete rfl rfl ?_ ?_ | refine zR_retb rfl rfl ?_ ?_
          all_goals (first | rfl | simp [zlw, bI, *])
  show zR sL sx _ 14 0 [.ref (i + 11), .ref (u + 11), .retAddr 0, .retAddr 0] [] _ _ _
  first | refine zR_s rfl ?_ | refine zR_alo rfl rfl rfl ?_
  refine zR_get rfl rfl (zcU hi) rfl ?_
  first | refine zR_s rfl ?_ | refine zR_aso rfl rfl rfl ?_
  refine zR_cst (v := 1) rfl rfl rfl ?_
  refine zR_s rfl ?_
  exact zR_cv (by cases (K i) <;> rfl) (key 4 0 (K i) rfl (fun c e => hK _ _ e))
theorem m_depth (hK : zKb K) (hi : i < 64) : zMe sL sx (d + 1) 13 [.ref (i + 11)] (zCs N F G K Z ++ tl) (.returned (some (.int (nI (bif zst (G i) then zdp K 4 (K i) + 1 else 0))))) (zCs N F G K Z ++ tl) := by
  have key : ∀ f t x, f + t = 4 → (∀ c, x = some c → c < 64) → zR sL sx (d + 1) 13 16 [.ref (i + 11), .int (nI (t + 1)), zopt x] [] (zCs N F G K Z ++ tl) (.returned (some (.int (nI (zdp K f x + t + 1))))) (zCs N F G K Z ++ tl) := by
    intro f
    induction f with
    | zero =>
      intro t x e hx
      have ht : t = 4 := by omega
      subst ht
      first | refine zR_s rfl ?_ | refine zR_alo rfl rfl rfl ?_
      refine zR_null1 rfl rfl (fun c1 => ?_) (fun c1 => ?_)
      · refine zR_s rfl ?_
        first | refine zR_rete rfl rfl ?_ ?_ | refine zR_retb rfl rfl ?_ ?_
        all_goals (first | rfl | simp [zdp])
      · refine zR_s rfl ?_
        refine zR_cst (v := 5) rfl rfl rfl ?_
        refine zR_icge rfl rfl (fun c2 => ?_) (fun c2 => absurd (show (5 : Int32) ≤ nI (4 + 1) by decide) c2)
        refine zR_s rfl ?_
        first | refine zR_rete rfl rfl ?_ ?_ | refine zR_retb rfl rfl ?_ ?_
        all_goals (first | rfl | simp [zdp])
    | succ f ih =>
      intro t x e hx
      first | refine zR_s rfl ?_ | refine zR_alo rfl rfl rfl ?_
      refine zR_null1 rfl rfl (fun c1 => ?_) (fun c1 => ?_)
      · refine zR_s rfl ?_
        first | refine zR_rete rfl rfl ?_ ?_ | refine zR_retb rfl rfl ?_ ?_
        all_goals (first | rfl | simp [zdp, *])
      · obtain ⟨c, rfl⟩ : ∃ c, x = some c := by { cases x; exact absurd rfl c1; exact ⟨_, rfl⟩ }
        refine zR_s rfl ?_
        refine zR_cst (v := 5) rfl rfl rfl ?_
        refine zR_icge rfl rfl (fun c => by first | exact absurd c ((nI_ge (a := t + 1) (b := 5) (by omega) (by omega))) | exact absurd ((nI_ge (a := t + 1) (b := 5) (by omega) (by omega))) c) (fun _ => ?_)
        first | refine zR_incn rfl rfl rfl ?_ | refine zR_s rfl ?_
        first | refine zR_s rfl ?_ | refine zR_alo rfl rfl rfl ?_
        refine zR_get rfl rfl (zcU (hx _ rfl)) rfl ?_
        first | refine zR_s rfl ?_ | refine zR_aso rfl rfl rfl ?_
        refine zR_goto rfl rfl ?_
        (have w := ih (t + 1) (K c) (by omega) (fun c2 e2 => hK _ _ e2); rw [show zdp K f (K c) + (t + 1) + 1 = zdp K (f + 1) (some c) + t + 1 by simp only [zdp]; omega] at w; exact w)
  show zR sL sx _ 13 0 [.ref (i + 11), .retAddr 0, .retAddr 0] [] _ _ _
  first | refine zR_s rfl ?_ | refine zR_alo rfl rfl rfl ?_
  refine zR_call rfl rfl rfl rfl (zcallok_v (zcU hi) rfl rfl) (m_stands (zcU hi)) ?_
  first | refine zR_dt rfl rfl (fun c1 => ?_) (fun c1 => ?_) | refine zR_bt rfl rfl (fun c1 => ?_) (fun c1 => ?_) | refine zR_ifne rfl rfl (fun c1 => ?_) (fun c1 => ?_)
  · refine zR_cst (v := 1) rfl rfl rfl ?_
    refine zR_s rfl ?_
    first | refine zR_s rfl ?_ | refine zR_alo rfl rfl rfl ?_
    refine zR_get rfl rfl (zcU hi) rfl ?_
    first | refine zR_s rfl ?_ | refine zR_aso rfl rfl rfl ?_
    (rw [show zst (G i) = true from decide_eq_true c1]; exact key 4 0 (K i) rfl (fun c e => hK _ _ e))
  · refine zR_cst (v := 0) rfl rfl rfl ?_
    first | refine zR_rete rfl rfl ?_ ?_ | refine zR_retb rfl rfl ?_ ?_
    all_goals (first | rfl | (rw [show zst (G i) = false from decide_eq_false c1]; rfl))
theorem m_isLike {j : Nat} (hi : i < 64) (hj : j < 64) : zMe sL sx d 16 [.ref (i + 11), .ref (j + 11)] (zCs N F G K Z ++ tl) (.returned (some (.int (bI (decide (G i 0 = G j 0 ∧ G i 3 = G j 3 ∧ G i 5 = G j 5 ∧ G i 6 = G j 6 ∧ K i = K j)))))) (zCs N F G K Z ++ tl) := by
  show zR sL sx _ 16 0 [.ref (i + 11), .ref (j + 11)] [] _ _ _
  refine zR_s rfl ?_
  first | refine zR_get rfl rfl (zcU hi) rfl ?_ | refine zR_get rfl rfl (zcU hj) rfl ?_
  refine zR_s rfl ?_
  first | refine zR_get rfl rfl (zcU hi) rfl ?_ | refine zR_get rfl rfl (zcU hj) rfl ?_
  refine zR_icne rfl rfl (fun c1 => ?_) (fun c1 => ?_)
  · refine zR_cst (v := 0) rfl rfl rfl ?_
    first | refine zR_rete rfl rfl ?_ ?_ | refine zR_retb rfl rfl ?_ ?_
    all_goals (first | rfl | simp [bI, *])
  · refine zR_s rfl ?_
    first | refine zR_get rfl rfl (zcU hi) rfl ?_ | refine zR_get rfl rfl (zcU hj) rfl ?_
    refine zR_s rfl ?_
    first | refine zR_get rfl rfl (zcU hi) rfl ?_ | refine zR_get rfl rfl (zcU hj) rfl ?_
    refine zR_icne rfl rfl (fun c2 => ?_) (fun c2 => ?_)
    · refine zR_cst (v := 0) rfl rfl rfl ?_
      first | refine zR_rete rfl rfl ?_ ?_ | refine zR_retb rfl rfl ?_ ?_
      all_goals (first | rfl | simp [bI, *])
    · refine zR_s rfl ?_
      first | refine zR_get rfl rfl (zcU hi) rfl ?_ | refine zR_get rfl rfl (zcU hj) rfl ?_
      refine zR_s rfl ?_
      first | refine zR_get rfl rfl (zcU hi) rfl ?_ | refine zR_get rfl rfl (zcU hj) rfl ?_
      refine zR_icne rfl rfl (fun c3 => ?_) (fun c3 => ?_)
      · refine zR_cst (v := 0) rfl rfl rfl ?_
        first | refine zR_rete rfl rfl ?_ ?_ | refine zR_retb rfl rfl ?_ ?_
        all_goals (first | rfl | simp [bI, *])
      · refine zR_s rfl ?_
        first | refine zR_get rfl rfl (zcU hi) rfl ?_ | refine zR_get rfl rfl (zcU hj) rfl ?_
        refine zR_s rfl ?_
        first | refine zR_get rfl rfl (zcU hi) rfl ?_ | refine zR_get rfl rfl (zcU hj) rfl ?_
        refine zR_icne rfl rfl (fun c4 => ?_) (fun c4 => ?_)
        · refine zR_cst (v := 0) rfl rfl rfl ?_
          first | refine zR_rete rfl rfl ?_ ?_ | refine zR_retb rfl rfl ?_ ?_
          all_goals (first | rfl | simp [bI, *])
        · refine zR_s rfl ?_
          first | refine zR_get rfl rfl (zcU hi) rfl ?_ | refine zR_get rfl rfl (zcU hj) rfl ?_
          refine zR_s rfl ?_
          first | refine zR_get rfl rfl (zcU hi) rfl ?_ | refine zR_get rfl rfl (zcU hj) rfl ?_
          refine zR_ane rfl rfl (fun c5 => ?_) (fun c5 => ?_)
          · refine zR_cst (v := 0) rfl rfl rfl ?_
            first | refine zR_rete rfl rfl ?_ ?_ | refine zR_retb rfl rfl ?_ ?_
            all_goals (first | rfl | simp [bI, *])
          · refine zR_cst (v := 1) rfl rfl rfl ?_
            refine zR_s rfl ?_
            first | refine zR_rete rfl rfl ?_ ?_ | refine zR_retb rfl rfl ?_ ?_
            all_goals (first | rfl | simp [bI, *])
def zpkU (g : Nat → Int32) (z : Int64) : Int64 := ((g 0 ||| g 3 <<< ((4 : Int32) &&& 31) ||| (g 4 - 1) <<< ((7 : Int32) &&& 31) ||| g 5 <<< ((17 : Int32) &&& 31)).toInt64) ||| z <<< ((20 : Int32).toInt64 &&& 63)
theorem m_pack (hi : i < 64) : zMe sL sx d 17 [.ref (i + 11)] (zCs N F G K Z ++ tl) (.returned (some (.long (zpkU (G i) (Z i))))) (zCs N F G K Z ++ tl) := by
  show zR sL sx _ 17 0 [.ref (i + 11), .retAddr 0, .retAddr 0] [] _ _ _
  refine zR_s rfl ?_
  refine zR_get rfl rfl (zcU hi) rfl ?_
  refine zR_s rfl ?_
  refine zR_get rfl rfl (zcU hi) rfl ?_
  refine zR_cst (v := 4) rfl rfl rfl ?_
  refine zR_s rfl ?_
  refine zR_s rfl ?_
  refine zR_s rfl ?_
  refine zR_get rfl rfl (zcU hi) rfl ?_
  refine zR_cst (v := 1) rfl rfl rfl ?_
  refine zR_isub rfl ?_
  refine zR_cst (v := 7) rfl rfl rfl ?_
  refine zR_s rfl ?_
  refine zR_s rfl ?_
  refine zR_s rfl ?_
  refine zR_get rfl rfl (zcU hi) rfl ?_
  refine zR_cst (v := 17) rfl rfl rfl ?_
  refine zR_s rfl ?_
  refine zR_s rfl ?_
  refine zR_s rfl ?_
  refine zR_s rfl ?_
  refine zR_s rfl ?_
  refine zR_s rfl ?_
  refine zR_get rfl rfl (zcU hi) rfl ?_
  refine zR_cst (v := 20) rfl rfl rfl ?_
  refine zR_s rfl ?_
  refine zR_s rfl ?_
  refine zR_rete rfl rfl ?_ ?_
  all_goals (first | rfl | simp [bI, *])
end ZCS
end
section
/-! the class's helping methods -/
section ZLC
variable {sL : Nat} {sx : Nat → Int32} {d y pc : Nat} {L S : List Value} {h hF : zH} {o : Outcome} {off : Int} {tgt : Nat} {a b : Int64}
theorem zR_leq (hz : zat y pc = some (.ifCond .eq off, 3)) (ht : zto pc off = tgt) (kt : a = b → zR sL sx d y tgt L S h o hF) (kf : ¬ a = b → zR sL sx d y (pc + 3) L S h o hF) : zR sL sx d y pc L (.int (lg_cmp a b) :: S) h o hF := zR_ifeq hz ht (fun c => kt ((lg_cmp_eq a b).mp c)) (fun c => kf (fun q => c ((lg_cmp_eq a b).mpr q)))
theorem zR_lne (hz : zat y pc = some (.ifCond .ne off, 3)) (ht : zto pc off = tgt) (kt : ¬ a = b → zR sL sx d y tgt L S h o hF) (kf : a = b → zR sL sx d y (pc + 3) L S h o hF) : zR sL sx d y pc L (.int (lg_cmp a b) :: S) h o hF := zR_ifne hz ht (fun c => kt (fun q => c ((lg_cmp_eq a b).mpr q))) (fun c => kf ((lg_cmp_eq a b).mp c))
theorem zR_llt (hz : zat y pc = some (.ifCond .lt off, 3)) (ht : zto pc off = tgt) (kt : ¬ b ≤ a → zR sL sx d y tgt L S h o hF) (kf : b ≤ a → zR sL sx d y (pc + 3) L S h o hF) : zR sL sx d y pc L (.int (lg_cmp a b) :: S) h o hF := zR_iflt hz ht (fun c => kt (Int64.not_le.mpr ((lg_cmp_lt a b).mp c))) (fun c => kf (Int64.not_lt.mp fun q => c ((lg_cmp_lt a b).mpr q)))
theorem zR_lge (hz : zat y pc = some (.ifCond .ge off, 3)) (ht : zto pc off = tgt) (kt : b ≤ a → zR sL sx d y tgt L S h o hF) (kf : ¬ b ≤ a → zR sL sx d y (pc + 3) L S h o hF) : zR sL sx d y pc L (.int (lg_cmp a b) :: S) h o hF := zR_ifge hz ht (fun c => kt ((lg_cmp_ge a b).mp c)) (fun c => kf (fun q => c ((lg_cmp_ge a b).mpr q)))
theorem zR_lgt (hz : zat y pc = some (.ifCond .gt off, 3)) (ht : zto pc off = tgt) (kt : ¬ a ≤ b → zR sL sx d y tgt L S h o hF) (kf : a ≤ b → zR sL sx d y (pc + 3) L S h o hF) : zR sL sx d y pc L (.int (lg_cmp a b) :: S) h o hF := zR_ifgt hz ht (fun c => kt (Int64.not_le.mpr ((lg_cmp_gt a b).mp c))) (fun c => kf (Int64.not_lt.mp fun q => c ((lg_cmp_gt a b).mpr q)))
theorem zR_lle (hz : zat y pc = some (.ifCond .le off, 3)) (ht : zto pc off = tgt) (kt : a ≤ b → zR sL sx d y tgt L S h o hF) (kf : ¬ a ≤ b → zR sL sx d y (pc + 3) L S h o hF) : zR sL sx d y pc L (.int (lg_cmp a b) :: S) h o hF := zR_ifle hz ht (fun c => kt ((lg_cmp_le a b).mp c)) (fun c => kf (fun q => c ((lg_cmp_le a b).mpr q)))
end ZLC
section ZCH
variable {sL : Nat} {sx : Nat → Int32} {d : Nat} {h : zH} {N : Nat → Int32} {F G : Nat → Nat → Int32} {K : Nat → Option Nat} {Z : Nat → Int64} {tl : zH} {M i : Nat}
theorem m_checkPlace {a : Int32} (hd : 6 ≤ d) : (0 ≤ a ∧ a ≤ 15 → zMe sL sx (d + 2) 44 [.int a] h (.returned none) h) ∧ (¬ (0 ≤ a ∧ a ≤ 15) → zMe sL sx (d + 2) 44 [.int a] h (.threw 1) (h ++ [(101, [])])) := by
  constructor <;> intro q
  all_goals
    show zR sL sx _ 44 0 [.int a] [] _ _ _
    refine zR_s rfl ?_
    refine zR_cst (v := 0) rfl rfl rfl ?_
    refine zR_cst (v := 15) rfl rfl rfl ?_
    refine zR_callt rfl rfl rfl rfl (zcallok_s rfl) rfl (m_checkRange hd) (fun c1 => ?_) (fun c1 => ?_)
    · refine zR_rete rfl rfl ?_ ?_
      all_goals (first | rfl | exact ⟨rfl, rfl⟩ | contradiction)
    · first | rfl | exact ⟨rfl, rfl⟩ | contradiction
theorem m_checkStands {n : Nat} {g : Nat → Int32} {k : Option Nat} {z : Int64} (hU : h[n + 11]? = some (10 + 1, zun n g k z)) (hd : 6 ≤ d) : (zst g = true → zMe sL sx (d + 1) 45 [.ref (n + 11)] h (.returned none) h) ∧ (¬ zst g = true → zMe sL sx (d + 1) 45 [.ref (n + 11)] h (.threw 2) (h ++ [(102, [])])) := by
  constructor <;> intro q
  all_goals
    show zR sL sx _ 45 0 [.ref (n + 11)] [] _ _ _
    refine zR_s rfl ?_
    refine zR_call rfl rfl rfl rfl (zcallok_v (hU) rfl rfl) (m_stands hU) ?_
    first | refine zR_dt rfl rfl (fun c1 => ?_) (fun c1 => ?_) | refine zR_bt rfl rfl (fun c1 => ?_) (fun c1 => ?_) | refine zR_ifne rfl rfl (fun c1 => ?_) (fun c1 => ?_)
    · refine zR_rete rfl rfl ?_ ?_
      all_goals (first | rfl | exact absurd (decide_eq_true c1) q | exact absurd (of_decide_eq_true q) c1)
    · refine zR_throwe (by omega) rfl rfl rfl ?_ ?_
      all_goals (first | rfl | exact absurd (decide_eq_true c1) q | exact absurd (of_decide_eq_true q) c1)
theorem zucase (a : Int32) {M : Nat} (hm : M ≤ 64) : (∃ j, j < M ∧ a = nI j) ∨ ¬ (0 ≤ a ∧ a ≤ nI M - 1) := by
  by_cases q : 0 ≤ a ∧ a ≤ nI M - 1
  · left
    cases M with
    | zero =>
      exfalso
      have h2 : nI 0 - 1 = -1 := rfl
      rw [h2] at q
      exact absurd (Int32.le_trans q.1 q.2) (by decide)
    | succ m =>
      rw [nI_pred] at q
      obtain ⟨j, hj, e⟩ := nI_of2 (nI_toInt (n := m) (by omega)) (Int32.not_lt.mpr q.1) q.2
      exact ⟨j, by omega, e⟩
  · exact Or.inr q
theorem m_unitOf {j : Nat} (hM : N 1 = nI M) (hm : M ≤ 64) (hj : j < M) : zMe sL sx (d + 1) 46 [.ref 0, .int (nI j)] (zCs N F G K Z ++ tl) (.returned (some (.ref (j + 11)))) (zCs N F G K Z ++ tl) := by
  have h1 : 0 ≤ nI j ∧ nI j ≤ N 1 - 1 := by
    refine ⟨nI_pos' (by omega), ?_⟩
    obtain ⟨A', rfl⟩ : ∃ A', M = A' + 1 := ⟨M - 1, by omega⟩
    rw [hM, nI_pred]
    exact nI_le (by omega) (by omega)
  show zR sL sx _ 46 0 [.ref 0, .int (nI j)] [] _ _ _
  refine zR_s rfl ?_
  refine zR_cst (v := 0) rfl rfl rfl ?_
  refine zR_s rfl ?_
  refine zR_get rfl rfl (zc0) rfl ?_
  refine zR_cst (v := 1) rfl rfl rfl ?_
  refine zR_isub rfl ?_
  refine zR_call rfl rfl rfl rfl (zcallok_s rfl) (m_isWithin) ?_
  first | refine zR_dt rfl rfl (fun c1 => ?_) (fun c1 => absurd h1 c1) | refine zR_bt rfl rfl (fun c1 => ?_) (fun c1 => absurd h1 c1) | refine zR_ifne rfl rfl (fun c1 => ?_) (fun c1 => absurd h1 c1)
  refine zR_s rfl ?_
  refine zR_get rfl rfl (zc0) rfl ?_
  refine zR_s rfl ?_
  refine zR_aldU rfl (by omega) ?_
  refine zR_rete rfl rfl ?_ ?_
  all_goals (first | rfl | simp [bI, *])
theorem m_unitOf_no {a : Int32} (hM : N 1 = nI M) (hd : 6 ≤ d) (h1 : ¬ (0 ≤ a ∧ a ≤ nI M - 1)) : zMe sL sx (d + 1) 46 [.ref 0, .int a] (zCs N F G K Z ++ tl) (.threw 4) (zCs N F G K Z ++ tl ++ [(104, [])]) := by
  rw [← hM] at h1
  show zR sL sx _ 46 0 [.ref 0, .int a] [] _ _ _
  refine zR_s rfl ?_
  refine zR_cst (v := 0) rfl rfl rfl ?_
  refine zR_s rfl ?_
  refine zR_get rfl rfl (zc0) rfl ?_
  refine zR_cst (v := 1) rfl rfl rfl ?_
  refine zR_isub rfl ?_
  refine zR_call rfl rfl rfl rfl (zcallok_s rfl) (m_isWithin) ?_
  first | refine zR_dt rfl rfl (fun c1 => absurd c1 h1) (fun c1 => ?_) | refine zR_bt rfl rfl (fun c1 => absurd c1 h1) (fun c1 => ?_) | refine zR_ifne rfl rfl (fun c1 => absurd c1 h1) (fun c1 => ?_)
  refine zR_throwe (by omega) rfl rfl rfl ?_ ?_
  all_goals (first | rfl | simp [bI, *])
theorem m_needRows {a : Int32} (hd : 6 ≤ d) : (N 4 + a ≤ 400 → zMe sL sx (d + 1) 47 [.ref 0, .int a] (zCs N F G K Z ++ tl) (.returned none) (zCs N F G K Z ++ tl)) ∧ (¬ N 4 + a ≤ 400 → zMe sL sx (d + 1) 47 [.ref 0, .int a] (zCs N F G K Z ++ tl) (.threw 3) (zCs N F G K Z ++ tl ++ [(103, [])])) := by
  constructor <;> intro q
  all_goals
    show zR sL sx _ 47 0 [.ref 0, .int a] [] _ _ _
    refine zR_s rfl ?_
    refine zR_get rfl rfl (zc0) rfl ?_
    refine zR_s rfl ?_
    refine zR_call rfl rfl rfl rfl (zcallok_v (zc6) rfl rfl) (m_hasRoom) ?_
    first | refine zR_dt rfl rfl (fun c1 => ?_) (fun c1 => ?_) | refine zR_bt rfl rfl (fun c1 => ?_) (fun c1 => ?_) | refine zR_ifne rfl rfl (fun c1 => ?_) (fun c1 => ?_)
    · refine zR_rete rfl rfl ?_ ?_
      all_goals (first | rfl | contradiction)
    · refine zR_throwe (by omega) rfl rfl rfl ?_ ?_
      all_goals (first | rfl | contradiction)
/-- units at a place -/
def zqP (G : Nat → Nat → Int32) (p : Int32) : Nat → Bool := fun i => decide (G i 6 = p)
theorem m_unitsAt {p : Int32} (hM : N 1 = nI M) (hm : M ≤ 64) : zMe sL sx d 52 [.ref 0, .int p] (zCs N F G K Z ++ tl) (.returned (some (.int (nI (zcnt (zqP G p) M))))) (zCs N F G K Z ++ tl) := by
  show zR sL sx _ 52 0 [.ref 0, .int p, .retAddr 0, .retAddr 0] [] _ _ _
  refine zR_cst (v := 0) rfl rfl rfl ?_
  refine zR_s rfl ?_
  refine zR_cst (v := 0) rfl rfl rfl ?_
  refine zR_s rfl ?_
  skip
  refine zR_loop0 (M := M) (fun j => [.ref 0, .int p, .int (nI (zcnt (zqP G p) j)), .int (nI j)]) (fun _ => zCs N F G K Z ++ tl) (fun _ => True) rfl rfl trivial (fun _ => ?_) (fun j hj _ ih => ?_)
  · refine zR_s rfl ?_
    refine zR_s rfl ?_
    refine zR_get rfl rfl (zc0) rfl ?_
    refine zR_icge rfl rfl (fun _ => ?_) (fun c => by first | exact absurd ((by rw [hM]; exact Int32.le_refl _)) c | exact absurd c ((by rw [hM]; exact Int32.le_refl _)))
    refine zR_s rfl ?_
    first | refine zR_rete rfl rfl ?_ ?_ | refine zR_retb rfl rfl ?_ ?_
    all_goals (first | rfl | simp [bI, *])
  · refine zR_s rfl ?_
    refine zR_s rfl ?_
    first | refine zR_get rfl rfl (zc0) rfl ?_ | refine zR_get rfl rfl (zcU (show j < 64 by omega)) rfl ?_
    refine zR_icge rfl rfl (fun c => by first | exact absurd c ((by rw [hM]; exact nI_ge hj (by omega))) | exact absurd ((by rw [hM]; exact nI_ge hj (by omega))) c) (fun _ => ?_)
    refine zR_s rfl ?_
    first | refine zR_get rfl rfl (zc0) rfl ?_ | refine zR_get rfl rfl (zcU (show j < 64 by omega)) rfl ?_
    refine zR_s rfl ?_
    refine zR_aldU rfl (by omega) ?_
    first | refine zR_get rfl rfl (zc0) rfl ?_ | refine zR_get rfl rfl (zcU (show j < 64 by omega)) rfl ?_
    refine zR_s rfl ?_
    refine zR_icne rfl rfl (fun c1 => ?_) (fun c1 => ?_)
    · first | refine zR_incn rfl rfl rfl ?_ | refine zR_s rfl ?_
      refine zR_goto rfl rfl ?_
      (have w := ih trivial; (first | rw [zcnt_f (show zqP G p j = false from decide_eq_false c1)] at w | rw [zcnt_t (show zqP G p j = true from decide_eq_true c1)] at w); exact w)
    · first | refine zR_incn rfl rfl rfl ?_ | refine zR_s rfl ?_
      first | refine zR_incn rfl rfl rfl ?_ | refine zR_s rfl ?_
      refine zR_goto rfl rfl ?_
      (have w := ih trivial; (first | rw [zcnt_f (show zqP G p j = false from decide_eq_false c1)] at w | rw [zcnt_t (show zqP G p j = true from decide_eq_true c1)] at w); exact w)
def zqS (G : Nat → Nat → Int32) : Nat → Bool := fun i => zst (G i)
theorem m_unitsStanding (hM : N 1 = nI M) (hm : M ≤ 64) : zMe sL sx (d + 1) 53 [.ref 0] (zCs N F G K Z ++ tl) (.returned (some (.int (nI (zcnt (zqS G) M))))) (zCs N F G K Z ++ tl) := by
  show zR sL sx _ 53 0 [.ref 0, .retAddr 0, .retAddr 0] [] _ _ _
  refine zR_cst (v := 0) rfl rfl rfl ?_
  refine zR_s rfl ?_
  refine zR_cst (v := 0) rfl rfl rfl ?_
  refine zR_s rfl ?_
  skip
  refine zR_loop0 (M := M) (fun j => [.ref 0, .int (nI (zcnt (zqS G) j)), .int (nI j)]) (fun _ => zCs N F G K Z ++ tl) (fun _ => True) rfl rfl trivial (fun _ => ?_) (fun j hj _ ih => ?_)
  · refine zR_s rfl ?_
    refine zR_s rfl ?_
    refine zR_get rfl rfl (zc0) rfl ?_
    refine zR_icge rfl rfl (fun _ => ?_) (fun c => by first | exact absurd ((by rw [hM]; exact Int32.le_refl _)) c | exact absurd c ((by rw [hM]; exact Int32.le_refl _)))
    refine zR_s rfl ?_
    first | refine zR_rete rfl rfl ?_ ?_ | refine zR_retb rfl rfl ?_ ?_
    all_goals (first | rfl | simp [bI, *])
  · refine zR_s rfl ?_
    refine zR_s rfl ?_
    refine zR_get rfl rfl (zc0) rfl ?_
    refine zR_icge rfl rfl (fun c => by first | exact absurd c ((by rw [hM]; exact nI_ge hj (by omega))) | exact absurd ((by rw [hM]; exact nI_ge hj (by omega))) c) (fun _ => ?_)
    refine zR_s rfl ?_
    refine zR_get rfl rfl (zc0) rfl ?_
    refine zR_s rfl ?_
    refine zR_aldU rfl (by omega) ?_
    refine zR_call rfl rfl rfl rfl (zcallok_v (zcU (show j < 64 by omega)) rfl rfl) (m_stands (zcU (show j < 64 by omega))) ?_
    first | refine zR_df rfl rfl (fun c1 => ?_) (fun c1 => ?_) | refine zR_bf rfl rfl (fun c1 => ?_) (fun c1 => ?_) | refine zR_ifeq rfl rfl (fun c1 => ?_) (fun c1 => ?_)
    · first | refine zR_incn rfl rfl rfl ?_ | refine zR_s rfl ?_
      refine zR_goto rfl rfl ?_
      (have w := ih trivial; (first | rw [zcnt_f (show zqS G j = false from decide_eq_false c1)] at w | rw [zcnt_t (show zqS G j = true from decide_eq_true c1)] at w); exact w)
    · first | refine zR_incn rfl rfl rfl ?_ | refine zR_s rfl ?_
      first | refine zR_incn rfl rfl rfl ?_ | refine zR_s rfl ?_
      refine zR_goto rfl rfl ?_
      (have w := ih trivial; (first | rw [zcnt_f (show zqS G j = false from decide_eq_false c1)] at w | rw [zcnt_t (show zqS G j = true from decide_eq_true c1)] at w); exact w)
def zqW (K : Nat → Option Nat) (u : Nat) : Nat → Bool := fun i => zlw K u 4 (K i)
theorem m_unitsWithin {u : Nat} (hK : zKb K) (hM : N 1 = nI M) (hm : M ≤ 64) : zMe sL sx (d + 1) 54 [.ref 0, .ref (u + 11)] (zCs N F G K Z ++ tl) (.returned (some (.int (nI (zcnt (zqW K u) M))))) (zCs N F G K Z ++ tl) := by
  show zR sL sx _ 54 0 [.ref 0, .ref (u + 11), .retAddr 0, .retAddr 0] [] _ _ _
  refine zR_cst (v := 0) rfl rfl rfl ?_
  refine zR_s rfl ?_
  refine zR_cst (v := 0) rfl rfl rfl ?_
  refine zR_s rfl ?_
  skip
  refine zR_loop0 (M := M) (fun j => [.ref 0, .ref (u + 11), .int (nI (zcnt (zqW K u) j)), .int (nI j)]) (fun _ => zCs N F G K Z ++ tl) (fun _ => True) rfl rfl trivial (fun _ => ?_) (fun j hj _ ih => ?_)
  · refine zR_s rfl ?_
    refine zR_s rfl ?_
    refine zR_get rfl rfl (zc0) rfl ?_
    refine zR_icge rfl rfl (fun _ => ?_) (fun c => by first | exact absurd ((by rw [hM]; exact Int32.le_refl _)) c | exact absurd c ((by rw [hM]; exact Int32.le_refl _)))
    refine zR_s rfl ?_
    first | refine zR_rete rfl rfl ?_ ?_ | refine zR_retb rfl rfl ?_ ?_
    all_goals (first | rfl | simp [bI, *])
  · refine zR_s rfl ?_
    refine zR_s rfl ?_
    refine zR_get rfl rfl (zc0) rfl ?_
    refine zR_icge rfl rfl (fun c => by first | exact absurd c ((by rw [hM]; exact nI_ge hj (by omega))) | exact absurd ((by rw [hM]; exact nI_ge hj (by omega))) c) (fun _ => ?_)
    refine zR_s rfl ?_
    refine zR_get rfl rfl (zc0) rfl ?_
    refine zR_s rfl ?_
    refine zR_aldU rfl (by omega) ?_
    refine zR_s rfl ?_
    refine zR_call rfl rfl rfl rfl (zcallok_v (zcU (show j < 64 by omega)) rfl rfl) (m_liesWithin hK (show j < 64 by omega)) ?_
    first | refine zR_df rfl rfl (fun c1 => ?_) (fun c1 => ?_) | refine zR_bf rfl rfl (fun c1 => ?_) (fun c1 => ?_) | refine zR_ifeq rfl rfl (fun c1 => ?_) (fun c1 => ?_)
    · first | refine zR_incn rfl rfl rfl ?_ | refine zR_s rfl ?_
      refine zR_goto rfl rfl ?_
      (have w := ih trivial; (first | rw [zcnt_f (show zqW K u j = false from c1)] at w | rw [zcnt_t (show zqW K u j = true from c1)] at w); exact w)
    · first | refine zR_incn rfl rfl rfl ?_ | refine zR_s rfl ?_
      first | refine zR_incn rfl rfl rfl ?_ | refine zR_s rfl ?_
      refine zR_goto rfl rfl ?_
      (have w := ih trivial; (first | rw [zcnt_f (show zqW K u j = false from c1)] at w | rw [zcnt_t (show zqW K u j = true from c1)] at w); exact w)
theorem m_needSpace {p : Nat} {c : Int32} (hM : N 1 = nI M) (hm : M ≤ 64) (hp : p < 16) (hd : 6 ≤ d) : (nI (zcnt (zqP G (nI p)) M) + c ≤ F 0 p → zMe sL sx (d + 1) 48 [.ref 0, .int (nI p), .int c] (zCs N F G K Z ++ tl) (.returned none) (zCs N F G K Z ++ tl)) ∧ (¬ nI (zcnt (zqP G (nI p)) M) + c ≤ F 0 p → zMe sL sx (d + 1) 48 [.ref 0, .int (nI p), .int c] (zCs N F G K Z ++ tl) (.threw 3) (zCs N F G K Z ++ tl ++ [(103, [])])) := by
  have h1 : 0 ≤ nI p ∧ nI p ≤ 15 := ⟨nI_pos' (by omega), nI_le (b := 15) (by omega) (by omega)⟩
  constructor <;> intro q
  all_goals
    show zR sL sx _ 48 0 [.ref 0, .int (nI p), .int c] [] _ _ _
    refine zR_s rfl ?_
    refine zR_cst (v := 0) rfl rfl rfl ?_
    refine zR_cst (v := 15) rfl rfl rfl ?_
    refine zR_call rfl rfl rfl rfl (zcallok_s rfl) (m_isWithin) ?_
    first | refine zR_df rfl rfl (fun c1 => absurd h1 c1) (fun c1 => ?_) | refine zR_bf rfl rfl (fun c1 => absurd h1 c1) (fun c1 => ?_) | refine zR_ifeq rfl rfl (fun c1 => absurd h1 c1) (fun c1 => ?_)
    refine zR_s rfl ?_
    refine zR_s rfl ?_
    refine zR_call rfl rfl rfl rfl (zcallok_v (zc0) rfl rfl) (m_unitsAt hM hm) ?_
    refine zR_s rfl ?_
    refine zR_iadd rfl ?_
    refine zR_s rfl ?_
    refine zR_get rfl rfl (zc0) rfl ?_
    refine zR_s rfl ?_
    refine zR_ildF 0 rfl (by decide) hp ?_
    refine zR_icle rfl rfl (fun c2 => ?_) (fun c2 => ?_)
    · refine zR_rete rfl rfl ?_ ?_
      all_goals (first | rfl | exact absurd c2 q | exact absurd q c2)
    · refine zR_throwe (by omega) rfl rfl rfl ?_ ?_
      all_goals (first | rfl | exact absurd c2 q | exact absurd q c2)
theorem m_nextUnit (hM : N 1 = nI M) (hm : M ≤ 64) (hd : 6 ≤ d) : (¬ N 2 ≤ N 1 ∧ M < 64 → zMe sL sx (d + 1) 49 [.ref 0] (zCs N F G K Z ++ tl) (.returned (some (.ref (M + 11)))) (zCs (upd N 1 (nI (M + 1))) F G K Z ++ tl)) ∧ (¬ (¬ N 2 ≤ N 1 ∧ M < 64) → zMe sL sx (d + 1) 49 [.ref 0] (zCs N F G K Z ++ tl) (.threw 3) (zCs N F G K Z ++ tl ++ [(103, [])])) := by
  constructor <;> intro q
  · have h1 : N = upd N 1 (nI M) := by funext q; simp only [upd]; split; rename_i e1; rw [e1, hM]; rfl
    have h2 : ¬ (64 : Int32) ≤ N 1 := by rw [hM]; exact nI_ge (b := 64) q.2 (by omega)
    show zR sL sx _ 49 0 [.ref 0, .retAddr 0] [] _ _ _
    refine zR_s rfl ?_
    refine zR_get rfl rfl (zc0) rfl ?_
    refine zR_s rfl ?_
    refine zR_get rfl rfl (zc0) rfl ?_
    refine zR_icge rfl rfl (fun c1 => absurd c1 q.1) (fun c1 => ?_)
    refine zR_s rfl ?_
    refine zR_get rfl rfl (zc0) rfl ?_
    refine zR_cst (v := 64) rfl rfl rfl ?_
    refine zR_mlt rfl rfl (fun _ => ?_) (fun c => by first | exact absurd (h2) c | exact absurd c (h2))
    skip
    have e1 : upd (upd N 1 (nI M)) 1 (nI (M + 1)) = upd N 1 (nI (M + 1)) := by funext q; simp only [upd]; split <;> rfl
    rw [← e1]
    rw [h1]
    have e2 : upd (upd N 1 (nI M)) 1 (nI M) = upd N 1 (nI M) := by funext q; simp only [upd]; split <;> rfl
    rw [e2]
    refine zR_s rfl ?_
    refine zR_get rfl rfl (zc0) rfl ?_
    refine zR_s rfl ?_
    refine zR_get rfl rfl (zc0) rfl ?_
    refine zR_aldU (j := M) rfl (by omega) ?_
    refine zR_s rfl ?_
    refine zR_s rfl ?_
    refine zR_s rfl ?_
    refine zR_get rfl rfl (zc0) rfl ?_
    refine zR_cst (v := 1) rfl rfl rfl ?_
    refine zR_iadd rfl ?_
    refine zR_putN rfl rfl (by decide) rfl ?_
    refine zR_s rfl ?_
    refine zR_rete rfl rfl ?_ ?_
    all_goals (first | rfl | (rw [show nI (M + 1) = nI M + 1 from nI_succ M]; rfl))
  · show zR sL sx _ 49 0 [.ref 0, .retAddr 0] [] _ _ _
    refine zR_s rfl ?_
    refine zR_get rfl rfl (zc0) rfl ?_
    refine zR_s rfl ?_
    refine zR_get rfl rfl (zc0) rfl ?_
    refine zR_icge rfl rfl (fun c1 => ?_) (fun c1 => ?_)
    · refine zR_throwe (by omega) rfl rfl rfl ?_ ?_
      all_goals (first | rfl | simp [bI, *])
    · refine zR_s rfl ?_
      refine zR_get rfl rfl (zc0) rfl ?_
      refine zR_cst (v := 64) rfl rfl rfl ?_
      refine zR_mlt rfl rfl (fun c2 => absurd ⟨c1, Nat.lt_of_not_le fun q2 => c2 (by rw [hM]; exact nI_le (a := 64) q2 (by omega))⟩ q) (fun c2 => ?_)
      refine zR_throwe (by omega) rfl rfl rfl ?_ ?_
      all_goals (first | rfl | simp [bI, *])
theorem m_addRow {A : Nat} {b e : Int32} (hi : i < 64) (hN : N 4 = nI A) (hA : A < 400) : zMe sL sx (d + 2) 50 [.ref 0, .ref (i + 11), .int b, .int e] (zCs N F G K Z ++ tl) (.returned none) (zCs (upd N 4 (nI (A + 1))) (zadd F A (nI i) b (N 3) e) G K Z ++ tl) := by
  show zR sL sx _ 50 0 [.ref 0, .ref (i + 11), .int b, .int e] [] _ _ _
  refine zR_s rfl ?_
  first | refine zR_get rfl rfl (zc0) rfl ?_ | refine zR_get rfl rfl (zcU hi) rfl ?_
  refine zR_s rfl ?_
  first | refine zR_get rfl rfl (zc0) rfl ?_ | refine zR_get rfl rfl (zcU hi) rfl ?_
  refine zR_s rfl ?_
  refine zR_s rfl ?_
  first | refine zR_get rfl rfl (zc0) rfl ?_ | refine zR_get rfl rfl (zcU hi) rfl ?_
  refine zR_s rfl ?_
  refine zR_call rfl rfl rfl rfl (zcallok_v (zc6) rfl rfl) (m_add hN hA) ?_
  refine zR_rete rfl rfl ?_ ?_
  all_goals (first | rfl | simp [bI, *])
theorem m_gramsOf {q : Nat} (hq : q < 8) : zMe sL sx (d + 1) 51 [.ref 0, .int (nI q)] (zCs N F G K Z ++ tl) (.returned (some (.int (F 1 q)))) (zCs N F G K Z ++ tl) := by
  have h1 : 0 ≤ nI q ∧ nI q ≤ 7 := ⟨nI_pos' (by omega), nI_le (b := 7) (by omega) (by omega)⟩
  show zR sL sx _ 51 0 [.ref 0, .int (nI q)] [] _ _ _
  refine zR_s rfl ?_
  refine zR_cst (v := 0) rfl rfl rfl ?_
  refine zR_cst (v := 7) rfl rfl rfl ?_
  refine zR_call rfl rfl rfl rfl (zcallok_s rfl) (m_isWithin) ?_
  first | refine zR_df rfl rfl (fun c1 => absurd h1 c1) (fun c1 => ?_) | refine zR_bf rfl rfl (fun c1 => absurd h1 c1) (fun c1 => ?_) | refine zR_ifeq rfl rfl (fun c1 => absurd h1 c1) (fun c1 => ?_)
  refine zR_s rfl ?_
  refine zR_get rfl rfl (zc0) rfl ?_
  refine zR_s rfl ?_
  refine zR_ildF 1 rfl (by decide) hq ?_
  refine zR_s rfl ?_
  first | refine zR_rete rfl rfl ?_ ?_ | refine zR_retb rfl rfl ?_ ?_
  all_goals (first | rfl | simp [bI, *])
end ZCH
end
section
/-! the class's other loops -/
/-- depth of a unit, 0 if it doesn't stand -/
def zdq (G : Nat → Nat → Int32) (K : Nat → Option Nat) (i : Nat) : Nat := bif zst (G i) then zdp K 4 (K i) + 1 else 0
theorem zdp_le (K : Nat → Option Nat) : ∀ n x, zdp K n x ≤ n := by
  intro n
  induction n with
  | zero => intro x; simp [zdp]
  | succ n ih => intro x; cases x with
    | none => simp [zdp]
    | some c => simp only [zdp]; have := ih (K c); omega
theorem zdq_le (G : Nat → Nat → Int32) (K : Nat → Option Nat) (i : Nat) : zdq G K i ≤ 5 := by
  simp only [zdq]
  have := zdp_le K 4 (K i)
  cases zst (G i) <;> simp <;> omega
/-- the greatest f below n among p, b at least -/
def zmx (p : Nat → Bool) (f : Nat → Nat) (b : Nat) : Nat → Nat
  | 0 => b
  | n + 1 => bif p n then max (zmx p f b n) (f n) else zmx p f b n
theorem zmx_le {p : Nat → Bool} {f : Nat → Nat} {b m : Nat} (hb : b ≤ m) (hf : ∀ i, f i ≤ m) : ∀ n, zmx p f b n ≤ m := by
  intro n
  induction n with
  | zero => exact hb
  | succ n ih => simp only [zmx]; have := hf n; cases p n <;> simp <;> omega
theorem nI_max {a b : Nat} (ha : a < 2 ^ 31) (hb : b < 2 ^ 31) : (if nI a < nI b then nI b else nI a) = nI (max a b) := by
  by_cases q : a < b
  · rw [if_pos (nI_lt q hb), Nat.max_eq_right (by omega)]
  · rw [if_neg (nI_nlt (by omega) ha), Nat.max_eq_left (by omega)]
section ZCL
variable {sL : Nat} {sx : Nat → Int32} {d : Nat} {h : zH} {N : Nat → Int32} {F G : Nat → Nat → Int32} {K : Nat → Option Nat} {Z : Nat → Int64} {tl : zH} {M i u : Nat}
theorem m_depth2 (hK : zKb K) (hi : i < 64) : zMe sL sx (d + 1) 13 [.ref (i + 11)] (zCs N F G K Z ++ tl) (.returned (some (.int (nI (zdq G K i))))) (zCs N F G K Z ++ tl) := m_depth hK hi
theorem m_levels (hK : zKb K) (hM : N 1 = nI M) (hm : M ≤ 64) (hu : u < 64) : zMe sL sx (d + 2) 55 [.ref 0, .ref (u + 11)] (zCs N F G K Z ++ tl) (.returned (some (.int (nI (zmx (zqW K u) (zdq G K) (zdq G K u) M) - nI (zdq G K u) + 1)))) (zCs N F G K Z ++ tl) := by
  show zR sL sx _ 55 0 [.ref 0, .ref (u + 11), .retAddr 0, .retAddr 0] [] _ _ _
  refine zR_s rfl ?_
  refine zR_call rfl rfl rfl rfl (zcallok_v (zcU hu) rfl rfl) (m_depth2 hK hu) ?_
  refine zR_s rfl ?_
  refine zR_cst (v := 0) rfl rfl rfl ?_
  refine zR_s rfl ?_
  skip
  refine zR_loop0 (M := M) (fun j => [.ref 0, .ref (u + 11), .int (nI (zmx (zqW K u) (zdq G K) (zdq G K u) j)), .int (nI j)]) (fun _ => zCs N F G K Z ++ tl) (fun _ => True) rfl rfl trivial (fun _ => ?_) (fun j hj _ ih => ?_)
  · refine zR_s rfl ?_
    refine zR_s rfl ?_
    refine zR_get rfl rfl (zc0) rfl ?_
    refine zR_icge rfl rfl (fun _ => ?_) (fun c => by first | exact absurd ((by rw [hM]; exact Int32.le_refl _)) c | exact absurd c ((by rw [hM]; exact Int32.le_refl _)))
    refine zR_s rfl ?_
    refine zR_s rfl ?_
    refine zR_call rfl rfl rfl rfl (zcallok_v (zcU hu) rfl rfl) (m_depth2 hK hu) ?_
    refine zR_isub rfl ?_
    refine zR_cst (v := 1) rfl rfl rfl ?_
    refine zR_iadd rfl ?_
    first | refine zR_rete rfl rfl ?_ ?_ | refine zR_retb rfl rfl ?_ ?_
    all_goals (first | rfl | simp [bI, *])
  · refine zR_s rfl ?_
    refine zR_s rfl ?_
    refine zR_get rfl rfl (zc0) rfl ?_
    refine zR_icge rfl rfl (fun c => by first | exact absurd c ((by rw [hM]; exact nI_ge hj (by omega))) | exact absurd ((by rw [hM]; exact nI_ge hj (by omega))) c) (fun _ => ?_)
    refine zR_s rfl ?_
    refine zR_get rfl rfl (zc0) rfl ?_
    refine zR_s rfl ?_
    refine zR_aldU rfl (by omega) ?_
    refine zR_s rfl ?_
    refine zR_call rfl rfl rfl rfl (zcallok_v (zcU (show j < 64 by omega)) rfl rfl) (m_liesWithin hK (show j < 64 by omega)) ?_
    first | refine zR_df rfl rfl (fun c1 => ?_) (fun c1 => ?_) | refine zR_bf rfl rfl (fun c1 => ?_) (fun c1 => ?_) | refine zR_ifeq rfl rfl (fun c1 => ?_) (fun c1 => ?_)
    · first | refine zR_incn rfl rfl rfl ?_ | refine zR_s rfl ?_
      refine zR_goto rfl rfl ?_
      (have w := ih trivial; simp only [zmx, show zqW K u j = _ from c1, cond_true, cond_false] at w; exact w)
    · refine zR_s rfl ?_
      refine zR_s rfl ?_
      refine zR_get rfl rfl (zc0) rfl ?_
      refine zR_s rfl ?_
      refine zR_aldU rfl (by omega) ?_
      refine zR_call rfl rfl rfl rfl (zcallok_v (zcU (show j < 64 by omega)) rfl rfl) (m_depth2 hK (show j < 64 by omega)) ?_
      refine zR_max rfl rfl (by omega) rfl ?_
      rw [nI_max (Nat.lt_of_le_of_lt (zmx_le (zdq_le G K u) (zdq_le G K) j) (by decide)) (Nat.lt_of_le_of_lt (zdq_le G K j) (by decide))]
      refine zR_s rfl ?_
      first | refine zR_incn rfl rfl rfl ?_ | refine zR_s rfl ?_
      refine zR_goto rfl rfl ?_
      (have w := ih trivial; simp only [zmx, show zqW K u j = _ from c1, cond_true, cond_false] at w; exact w)
/-- u and what lies within it, below j -/
def zgo (K : Nat → Option Nat) (u j i : Nat) : Prop := i < j ∧ (i = u ∨ zlw K u 4 (K i) = true)
theorem zgo_dec (K : Nat → Option Nat) (u j i : Nat) : zgo K u j i ∨ ¬ zgo K u j i := Classical.em _
def zcar (G : Nat → Nat → Int32) (K : Nat → Option Nat) (u : Nat) (p : Int32) (j : Nat) : Nat → Nat → Int32 := fun i => bif decide (i < j) && (decide (i = u) || zlw K u 4 (K i)) then upd (G i) 6 p else G i
theorem zcar_0 (p : Int32) : zcar G K u p 0 = G := by funext i; simp [zcar]
theorem zcar_s {p : Int32} {j : Nat} : zcar G K u p (j + 1) = bif (decide (j = u) || zlw K u 4 (K j)) then updG (zcar G K u p j) j 6 p else zcar G K u p j := by
  cases hb : (decide (j = u) || zlw K u 4 (K j))
  · funext i
    simp only [zcar, cond_false]
    by_cases e : i = j
    · subst e; simp [hb]
    · rw [show decide (i < j + 1) = decide (i < j) from by simp; omega]
  · funext i
    simp only [zcar, updG, cond_true]
    by_cases e : i = j
    · subst e; simp [hb]
    · simp only [if_neg e]
      rw [show decide (i < j + 1) = decide (i < j) from by simp; omega]
theorem m_carry {p : Int32} (hK : zKb K) (hM : N 1 = nI M) (hm : M ≤ 64) : zMe sL sx (d + 1) 56 [.ref 0, .ref (u + 11), .int p] (zCs N F G K Z ++ tl) (.returned none) (zCs N F (zcar G K u p M) K Z ++ tl) := by
  show zR sL sx _ 56 0 [.ref 0, .ref (u + 11), .int p, .retAddr 0] [] _ _ _
  refine zR_cst (v := 0) rfl rfl rfl ?_
  refine zR_s rfl ?_
  skip
  refine zR_loop0 (M := M) (fun j => [.ref 0, .ref (u + 11), .int p, .int (nI j)]) (fun j => zCs N F (zcar G K u p j) K Z ++ tl) (fun _ => True) rfl (by rw [zcar_0]) trivial (fun _ => ?_) (fun j hj _ ih => ?_)
  · refine zR_s rfl ?_
    refine zR_s rfl ?_
    refine zR_get rfl rfl (zc0) rfl ?_
    refine zR_icge rfl rfl (fun _ => ?_) (fun c => by first | exact absurd ((by rw [hM]; exact Int32.le_refl _)) c | exact absurd c ((by rw [hM]; exact Int32.le_refl _)))
    refine zR_rete rfl rfl ?_ ?_
    all_goals (first | rfl | simp [bI, *])
  · refine zR_s rfl ?_
    refine zR_s rfl ?_
    refine zR_get rfl rfl (zc0) rfl ?_
    refine zR_icge rfl rfl (fun c => by first | exact absurd c ((by rw [hM]; exact nI_ge hj (by omega))) | exact absurd ((by rw [hM]; exact nI_ge hj (by omega))) c) (fun _ => ?_)
    refine zR_s rfl ?_
    refine zR_get rfl rfl (zc0) rfl ?_
    refine zR_s rfl ?_
    refine zR_aldU rfl (by omega) ?_
    refine zR_s rfl ?_
    first | refine zR_aeqr rfl rfl (fun c1 => ?_) (fun c1 => ?_) | refine zR_aeq rfl rfl (fun c1 => ?_) (fun c1 => ?_)
    · refine zR_s rfl ?_
      refine zR_get rfl rfl (zc0) rfl ?_
      refine zR_s rfl ?_
      refine zR_aldU rfl (by omega) ?_
      refine zR_s rfl ?_
      refine zR_putG rfl rfl (show j < 64 by omega) (by decide) rfl ?_
      first | refine zR_incn rfl rfl rfl ?_ | refine zR_s rfl ?_
      refine zR_goto rfl rfl ?_
      (have w := ih trivial; rw [zcar_s] at w; (first | simp only [decide_eq_true c1, Bool.true_or, cond_true] at w | simp only [decide_eq_false c1, c2, Bool.false_or, cond_true, cond_false] at w); exact w)
    · refine zR_s rfl ?_
      refine zR_get rfl rfl (zc0) rfl ?_
      refine zR_s rfl ?_
      refine zR_aldU rfl (by omega) ?_
      refine zR_s rfl ?_
      refine zR_call rfl rfl rfl rfl (zcallok_v (zcU (show j < 64 by omega)) rfl rfl) (m_liesWithin hK (show j < 64 by omega)) ?_
      first | refine zR_df rfl rfl (fun c2 => ?_) (fun c2 => ?_) | refine zR_bf rfl rfl (fun c2 => ?_) (fun c2 => ?_) | refine zR_ifeq rfl rfl (fun c2 => ?_) (fun c2 => ?_)
      · first | refine zR_incn rfl rfl rfl ?_ | refine zR_s rfl ?_
        refine zR_goto rfl rfl ?_
        (have w := ih trivial; rw [zcar_s] at w; (first | simp only [decide_eq_true c1, Bool.true_or, cond_true] at w | simp only [decide_eq_false c1, c2, Bool.false_or, cond_true, cond_false] at w); exact w)
      · refine zR_s rfl ?_
        refine zR_get rfl rfl (zc0) rfl ?_
        refine zR_s rfl ?_
        refine zR_aldU rfl (by omega) ?_
        refine zR_s rfl ?_
        refine zR_putG rfl rfl (show j < 64 by omega) (by decide) rfl ?_
        first | refine zR_incn rfl rfl rfl ?_ | refine zR_s rfl ?_
        refine zR_goto rfl rfl ?_
        (have w := ih trivial; rw [zcar_s] at w; (first | simp only [decide_eq_true c1, Bool.true_or, cond_true] at w | simp only [decide_eq_false c1, c2, Bool.false_or, cond_true, cond_false] at w); exact w)
def ztak (G : Nat → Nat → Int32) (K : Nat → Option Nat) (u : Nat) (s : Int32) (j : Nat) : Nat → Nat → Int32 := fun i => bif decide (i < j) && (decide (i = u) || zlw K u 4 (K i)) then upd (upd (G i) 5 s) 6 (-1) else G i
theorem ztak_0 (p : Int32) : ztak G K u p 0 = G := by funext i; simp [ztak]
theorem ztak_s {p : Int32} {j : Nat} : ztak G K u p (j + 1) = bif (decide (j = u) || zlw K u 4 (K j)) then updG (updG (ztak G K u p j) j 5 p) j 6 (-1) else ztak G K u p j := by
  cases hb : (decide (j = u) || zlw K u 4 (K j))
  · funext i
    simp only [ztak, cond_false]
    by_cases e : i = j
    · subst e; simp [hb]
    · rw [show decide (i < j + 1) = decide (i < j) from by simp; omega]
  · funext i
    simp only [ztak, updG, cond_true]
    by_cases e : i = j
    · subst e; simp [hb]
    · simp only [if_neg e]
      rw [show decide (i < j + 1) = decide (i < j) from by simp; omega]
/-- what doesn't stand lies in nothing -/
def zKn (G : Nat → Nat → Int32) (K : Nat → Option Nat) (j : Nat) : Nat → Option Nat := fun i => bif decide (i < j) && !zst (G i) then none else K i
theorem zKn_0 : zKn G K 0 = K := by funext i; simp [zKn]
theorem zKn_s {j : Nat} : zKn G K (j + 1) = bif zst (G j) then zKn G K j else va_up (zKn G K j) j none := by
  cases hb : zst (G j)
  · funext i
    simp only [zKn, cond_false, va_up]
    by_cases e : i = j
    · subst e; simp [hb]
    · rw [if_neg e, show decide (i < j + 1) = decide (i < j) from by simp; omega]
  · funext i
    simp only [zKn, cond_true]
    by_cases e : i = j
    · subst e; simp [hb]
    · rw [show decide (i < j + 1) = decide (i < j) from by simp; omega]
theorem m_takeAway {s : Int32} (hK : zKb K) (hM : N 1 = nI M) (hm : M ≤ 64) : zMe sL sx (d + 1) 57 [.ref 0, .ref (u + 11), .int s] (zCs N F G K Z ++ tl) (.returned none) (zCs N F (ztak G K u s M) (zKn (ztak G K u s M) K M) Z ++ tl) := by
  show zR sL sx _ 57 0 [.ref 0, .ref (u + 11), .int s, .retAddr 0] [] _ _ _
  refine zR_cst (v := 0) rfl rfl rfl ?_
  refine zR_s rfl ?_
  skip
  refine zR_loop0 (M := M) (fun j => [.ref 0, .ref (u + 11), .int s, .int (nI j)]) (fun j => zCs N F (ztak G K u s j) K Z ++ tl) (fun _ => True) rfl (by rw [ztak_0]) trivial (fun _ => ?_) (fun j hj _ ih => ?_)
  · refine zR_s rfl ?_
    refine zR_s rfl ?_
    refine zR_get rfl rfl (zc0) rfl ?_
    refine zR_icge rfl rfl (fun _ => ?_) (fun c => by first | exact absurd ((by rw [hM]; exact Int32.le_refl _)) c | exact absurd c ((by rw [hM]; exact Int32.le_refl _)))
    refine zR_cst (v := 0) rfl rfl rfl ?_
    refine zR_s rfl ?_
    skip
    refine zR_loop0 (M := M) (fun j => [.ref 0, .ref (u + 11), .int s, .int (nI j)]) (fun j => zCs N F (ztak G K u s M) (zKn (ztak G K u s M) K j) Z ++ tl) (fun _ => True) rfl (by rw [zKn_0]) trivial (fun _ => ?_) (fun j hj _ ih => ?_)
    · refine zR_s rfl ?_
      refine zR_s rfl ?_
      refine zR_get rfl rfl (zc0) rfl ?_
      refine zR_icge rfl rfl (fun _ => ?_) (fun c => by first | exact absurd ((by rw [hM]; exact Int32.le_refl _)) c | exact absurd c ((by rw [hM]; exact Int32.le_refl _)))
      refine zR_rete rfl rfl ?_ ?_
      all_goals (first | rfl | simp [bI, *])
    · refine zR_s rfl ?_
      first | refine zR_s rfl ?_ | refine zR_alo rfl rfl rfl ?_
      refine zR_get rfl rfl (zc0) rfl ?_
      refine zR_icge rfl rfl (fun c => by first | exact absurd c ((by rw [hM]; exact nI_ge hj (by omega))) | exact absurd ((by rw [hM]; exact nI_ge hj (by omega))) c) (fun _ => ?_)
      first | refine zR_s rfl ?_ | refine zR_alo rfl rfl rfl ?_
      refine zR_get rfl rfl (zc0) rfl ?_
      refine zR_s rfl ?_
      refine zR_aldU rfl (by omega) ?_
      refine zR_call rfl rfl rfl rfl (zcallok_v (zcU (show j < 64 by omega)) rfl rfl) (m_stands (zcU (show j < 64 by omega))) ?_
      first | refine zR_dt rfl rfl (fun c1 => ?_) (fun c1 => ?_) | refine zR_bt rfl rfl (fun c1 => ?_) (fun c1 => ?_) | refine zR_ifne rfl rfl (fun c1 => ?_) (fun c1 => ?_)
      · first | refine zR_incn rfl rfl rfl ?_ | refine zR_s rfl ?_
        refine zR_goto rfl rfl ?_
        (have w := ih trivial; rw [zKn_s] at w; (first | rw [show zst (ztak G K u s M j) = true from decide_eq_true c1] at w | rw [show zst (ztak G K u s M j) = false from decide_eq_false c1] at w); exact w)
      · first | refine zR_s rfl ?_ | refine zR_alo rfl rfl rfl ?_
        refine zR_get rfl rfl (zc0) rfl ?_
        refine zR_s rfl ?_
        refine zR_aldU rfl (by omega) ?_
        refine zR_nul rfl ?_
        refine zR_putK rfl rfl (show j < 64 by omega) rfl ?_
        first | refine zR_incn rfl rfl rfl ?_ | refine zR_s rfl ?_
        refine zR_goto rfl rfl ?_
        (have w := ih trivial; rw [zKn_s] at w; (first | rw [show zst (ztak G K u s M j) = true from decide_eq_true c1] at w | rw [show zst (ztak G K u s M j) = false from decide_eq_false c1] at w); exact w)
  · refine zR_s rfl ?_
    refine zR_s rfl ?_
    refine zR_get rfl rfl (zc0) rfl ?_
    refine zR_icge rfl rfl (fun c => by first | exact absurd c ((by rw [hM]; exact nI_ge hj (by omega))) | exact absurd ((by rw [hM]; exact nI_ge hj (by omega))) c) (fun _ => ?_)
    refine zR_s rfl ?_
    refine zR_get rfl rfl (zc0) rfl ?_
    refine zR_s rfl ?_
    refine zR_aldU rfl (by omega) ?_
    refine zR_s rfl ?_
    first | refine zR_aeqr rfl rfl (fun c1 => ?_) (fun c1 => ?_) | refine zR_aeq rfl rfl (fun c1 => ?_) (fun c1 => ?_)
    · refine zR_s rfl ?_
      refine zR_get rfl rfl (zc0) rfl ?_
      refine zR_s rfl ?_
      refine zR_aldU rfl (by omega) ?_
      refine zR_s rfl ?_
      refine zR_putG rfl rfl (show j < 64 by omega) (by decide) rfl ?_
      refine zR_s rfl ?_
      refine zR_get rfl rfl (zc0) rfl ?_
      refine zR_s rfl ?_
      refine zR_aldU rfl (by omega) ?_
      refine zR_cst (v := (-1)) rfl rfl rfl ?_
      refine zR_putG rfl rfl (show j < 64 by omega) (by decide) rfl ?_
      first | refine zR_incn rfl rfl rfl ?_ | refine zR_s rfl ?_
      refine zR_goto rfl rfl ?_
      (have w := ih trivial; rw [ztak_s] at w; (first | simp only [decide_eq_true c1, Bool.true_or, cond_true] at w | simp only [decide_eq_false c1, c2, Bool.false_or, cond_true, cond_false] at w); exact w)
    · refine zR_s rfl ?_
      refine zR_get rfl rfl (zc0) rfl ?_
      refine zR_s rfl ?_
      refine zR_aldU rfl (by omega) ?_
      refine zR_s rfl ?_
      refine zR_call rfl rfl rfl rfl (zcallok_v (zcU (show j < 64 by omega)) rfl rfl) (m_liesWithin hK (show j < 64 by omega)) ?_
      first | refine zR_df rfl rfl (fun c2 => ?_) (fun c2 => ?_) | refine zR_bf rfl rfl (fun c2 => ?_) (fun c2 => ?_) | refine zR_ifeq rfl rfl (fun c2 => ?_) (fun c2 => ?_)
      · first | refine zR_incn rfl rfl rfl ?_ | refine zR_s rfl ?_
        refine zR_goto rfl rfl ?_
        (have w := ih trivial; rw [ztak_s] at w; (first | simp only [decide_eq_true c1, Bool.true_or, cond_true] at w | simp only [decide_eq_false c1, c2, Bool.false_or, cond_true, cond_false] at w); exact w)
      · refine zR_s rfl ?_
        refine zR_get rfl rfl (zc0) rfl ?_
        refine zR_s rfl ?_
        refine zR_aldU rfl (by omega) ?_
        refine zR_s rfl ?_
        refine zR_putG rfl rfl (show j < 64 by omega) (by decide) rfl ?_
        refine zR_s rfl ?_
        refine zR_get rfl rfl (zc0) rfl ?_
        refine zR_s rfl ?_
        refine zR_aldU rfl (by omega) ?_
        refine zR_cst (v := (-1)) rfl rfl rfl ?_
        refine zR_putG rfl rfl (show j < 64 by omega) (by decide) rfl ?_
        first | refine zR_incn rfl rfl rfl ?_ | refine zR_s rfl ?_
        refine zR_goto rfl rfl ?_
        (have w := ih trivial; rw [ztak_s] at w; (first | simp only [decide_eq_true c1, Bool.true_or, cond_true] at w | simp only [decide_eq_false c1, c2, Bool.false_or, cond_true, cond_false] at w); exact w)
theorem m_isPlain (hK : zKb K) (hM : N 1 = nI M) (hm : M ≤ 64) (hi : i < 64) : zMe sL sx (d + 2) 60 [.ref 0, .ref (i + 11)] (zCs N F G K Z ++ tl) (.returned (some (.int (bI (decide (Z i = 0 ∧ zcnt (zqW K i) M = 0)))))) (zCs N F G K Z ++ tl) := by
  have e0 : nI (zcnt (zqW K i) M) = 0 ↔ zcnt (zqW K i) M = 0 := nI_eq (b := 0) (Nat.lt_of_le_of_lt (zcnt_le _ _) (by omega)) (by omega)
  show zR sL sx _ 60 0 [.ref 0, .ref (i + 11)] [] _ _ _
  refine zR_s rfl ?_
  refine zR_get rfl rfl (zcU hi) rfl ?_
  refine zR_lc (v := 0) rfl rfl ?_
  refine zR_s rfl ?_
  first | refine zR_dt rfl rfl (fun c1 => ?_) (fun c1 => ?_) | refine zR_bt rfl rfl (fun c1 => ?_) (fun c1 => ?_) | refine zR_lne rfl rfl (fun c1 => ?_) (fun c1 => ?_)
  · refine zR_cst (v := 0) rfl rfl rfl ?_
    first | refine zR_rete rfl rfl ?_ ?_ | refine zR_retb rfl rfl ?_ ?_
    all_goals (first | rfl | simp [bI, c1, e0.mp c2] | simp [bI, c1, show ¬ zcnt (zqW K i) M = 0 from fun q => c2 (e0.mpr q)] | simp [bI, c1])
  · refine zR_s rfl ?_
    refine zR_s rfl ?_
    refine zR_call rfl rfl rfl rfl (zcallok_v (zc0) rfl rfl) (m_unitsWithin hK hM hm) ?_
    first | refine zR_dt rfl rfl (fun c2 => ?_) (fun c2 => ?_) | refine zR_bt rfl rfl (fun c2 => ?_) (fun c2 => ?_) | refine zR_ifne rfl rfl (fun c2 => ?_) (fun c2 => ?_)
    · refine zR_cst (v := 0) rfl rfl rfl ?_
      first | refine zR_rete rfl rfl ?_ ?_ | refine zR_retb rfl rfl ?_ ?_
      all_goals (first | rfl | simp [bI, c1, e0.mp c2] | simp [bI, c1, show ¬ zcnt (zqW K i) M = 0 from fun q => c2 (e0.mpr q)] | simp [bI, c1])
    · refine zR_cst (v := 1) rfl rfl rfl ?_
      refine zR_s rfl ?_
      first | refine zR_rete rfl rfl ?_ ?_ | refine zR_retb rfl rfl ?_ ?_
      all_goals (first | rfl | simp [bI, c1, e0.mp c2] | simp [bI, c1, show ¬ zcnt (zqW K i) M = 0 from fun q => c2 (e0.mpr q)] | simp [bI, c1])
theorem m_canLieIn {w : Nat} (hK : zKb K) (hM : N 1 = nI M) (hm : M ≤ 64) (hi : i < 64) (hw : w < 64) : zMe sL sx (d + 3) 58 [.ref 0, .ref (i + 11), .ref (w + 11)] (zCs N F G K Z ++ tl) (.returned (some (.int (bI (decide (zst (G i) = true ∧ zst (G w) = true ∧ G i 6 = G w 6 ∧ ¬ K i = some w ∧ ¬ i = w ∧ zlw K i 4 (K w) = false ∧ nI (zdq G K w) + (nI (zmx (zqW K i) (zdq G K) (zdq G K i) M) - nI (zdq G K i) + 1) ≤ 5)))))) (zCs N F G K Z ++ tl) := by
  show zR sL sx _ 58 0 [.ref 0, .ref (i + 11), .ref (w + 11)] [] _ _ _
  refine zR_s rfl ?_
  first | refine zR_call rfl rfl rfl rfl (zcallok_v (zcU hi) rfl rfl) (m_stands (zcU hi)) ?_ | refine zR_call rfl rfl rfl rfl (zcallok_v (zcU hw) rfl rfl) (m_stands (zcU hw)) ?_
  first | refine zR_df rfl rfl (fun c1 => ?_) (fun c1 => ?_) | refine zR_bf rfl rfl (fun c1 => ?_) (fun c1 => ?_) | refine zR_ifeq rfl rfl (fun c1 => ?_) (fun c1 => ?_)
  · refine zR_cst (v := 0) rfl rfl rfl ?_
    first | refine zR_rete rfl rfl ?_ ?_ | refine zR_retb rfl rfl ?_ ?_
    all_goals (first | rfl | simp [bI, zst, *])
  · refine zR_s rfl ?_
    first | refine zR_call rfl rfl rfl rfl (zcallok_v (zcU hi) rfl rfl) (m_stands (zcU hi)) ?_ | refine zR_call rfl rfl rfl rfl (zcallok_v (zcU hw) rfl rfl) (m_stands (zcU hw)) ?_
    first | refine zR_df rfl rfl (fun c2 => ?_) (fun c2 => ?_) | refine zR_bf rfl rfl (fun c2 => ?_) (fun c2 => ?_) | refine zR_ifeq rfl rfl (fun c2 => ?_) (fun c2 => ?_)
    · refine zR_cst (v := 0) rfl rfl rfl ?_
      first | refine zR_rete rfl rfl ?_ ?_ | refine zR_retb rfl rfl ?_ ?_
      all_goals (first | rfl | simp [bI, zst, *])
    · refine zR_s rfl ?_
      first | refine zR_get rfl rfl (zcU hi) rfl ?_ | refine zR_get rfl rfl (zcU hw) rfl ?_
      refine zR_s rfl ?_
      first | refine zR_get rfl rfl (zcU hi) rfl ?_ | refine zR_get rfl rfl (zcU hw) rfl ?_
      refine zR_icne rfl rfl (fun c3 => ?_) (fun c3 => ?_)
      · refine zR_cst (v := 0) rfl rfl rfl ?_
        first | refine zR_rete rfl rfl ?_ ?_ | refine zR_retb rfl rfl ?_ ?_
        all_goals (first | rfl | simp [bI, zst, *])
      · refine zR_s rfl ?_
        first | refine zR_get rfl rfl (zcU hi) rfl ?_ | refine zR_get rfl rfl (zcU hw) rfl ?_
        refine zR_s rfl ?_
        first | refine zR_aeqr rfl rfl (fun c4 => ?_) (fun c4 => ?_) | refine zR_aeq (b := some w) rfl rfl (fun c4 => ?_) (fun c4 => ?_) | refine zR_aeq rfl rfl (fun c4 => ?_) (fun c4 => ?_)
        · refine zR_cst (v := 0) rfl rfl rfl ?_
          first | refine zR_rete rfl rfl ?_ ?_ | refine zR_retb rfl rfl ?_ ?_
          all_goals (first | rfl | simp [bI, zst, *])
        · refine zR_s rfl ?_
          refine zR_s rfl ?_
          first | refine zR_aeqr rfl rfl (fun c5 => ?_) (fun c5 => ?_) | refine zR_aeq (b := some w) rfl rfl (fun c5 => ?_) (fun c5 => ?_) | refine zR_aeq rfl rfl (fun c5 => ?_) (fun c5 => ?_)
          · refine zR_cst (v := 0) rfl rfl rfl ?_
            first | refine zR_rete rfl rfl ?_ ?_ | refine zR_retb rfl rfl ?_ ?_
            all_goals (first | rfl | simp [bI, zst, *])
          · refine zR_s rfl ?_
            refine zR_s rfl ?_
            refine zR_call rfl rfl rfl rfl (zcallok_v (zcU hw) rfl rfl) (m_liesWithin hK hw) ?_
            first | refine zR_dt rfl rfl (fun c6 => ?_) (fun c6 => ?_) | refine zR_bt rfl rfl (fun c6 => ?_) (fun c6 => ?_) | refine zR_ifne rfl rfl (fun c6 => ?_) (fun c6 => ?_)
            · refine zR_cst (v := 0) rfl rfl rfl ?_
              first | refine zR_rete rfl rfl ?_ ?_ | refine zR_retb rfl rfl ?_ ?_
              all_goals (first | rfl | simp [bI, zst, *])
            · refine zR_s rfl ?_
              refine zR_call rfl rfl rfl rfl (zcallok_v (zcU hw) rfl rfl) (m_depth2 hK hw) ?_
              refine zR_s rfl ?_
              refine zR_s rfl ?_
              refine zR_call rfl rfl rfl rfl (zcallok_v (zc0) rfl rfl) (m_levels hK hM hm hi) ?_
              refine zR_iadd rfl ?_
              refine zR_cst (v := 5) rfl rfl rfl ?_
              refine zR_mgt rfl rfl (fun c7 => ?_) (fun c7 => ?_)
              · refine zR_cst (v := 0) rfl rfl rfl ?_
                first | refine zR_rete rfl rfl ?_ ?_ | refine zR_retb rfl rfl ?_ ?_
                all_goals (first | rfl | simp [bI, zst, *])
              · refine zR_cst (v := 1) rfl rfl rfl ?_
                refine zR_s rfl ?_
                first | refine zR_rete rfl rfl ?_ ?_ | refine zR_retb rfl rfl ?_ ?_
                all_goals (first | rfl | simp [bI, zst, *])
theorem m_canJoin {w : Nat} (hK : zKb K) (hM : N 1 = nI M) (hm : M ≤ 64) (hi : i < 64) (hw : w < 64) : zMe sL sx (d + 3) 59 [.ref 0, .ref (i + 11), .ref (w + 11)] (zCs N F G K Z ++ tl) (.returned (some (.int (bI (decide (¬ i = w ∧ zst (G i) = true ∧ zst (G w) = true ∧ (G i 0 = G w 0 ∧ G i 3 = G w 3 ∧ G i 5 = G w 5 ∧ G i 6 = G w 6 ∧ K i = K w) ∧ (Z i = 0 ∧ zcnt (zqW K i) M = 0) ∧ (Z w = 0 ∧ zcnt (zqW K w) M = 0) ∧ G i 4 + G w 4 ≤ 1000)))))) (zCs N F G K Z ++ tl) := by
  show zR sL sx _ 59 0 [.ref 0, .ref (i + 11), .ref (w + 11)] [] _ _ _
  refine zR_s rfl ?_
  refine zR_s rfl ?_
  first | refine zR_aeqr rfl rfl (fun c1 => ?_) (fun c1 => ?_) | refine zR_aeq rfl rfl (fun c1 => ?_) (fun c1 => ?_)
  · refine zR_cst (v := 0) rfl rfl rfl ?_
    first | refine zR_rete rfl rfl ?_ ?_ | refine zR_retb rfl rfl ?_ ?_
    all_goals (first | rfl | simp [bI, zst, *])
  · refine zR_s rfl ?_
    first | refine zR_call rfl rfl rfl rfl (zcallok_v (zcU hi) rfl rfl) (m_stands (zcU hi)) ?_ | refine zR_call rfl rfl rfl rfl (zcallok_v (zcU hw) rfl rfl) (m_stands (zcU hw)) ?_
    first | refine zR_df rfl rfl (fun c2 => ?_) (fun c2 => ?_) | refine zR_bf rfl rfl (fun c2 => ?_) (fun c2 => ?_) | refine zR_ifeq rfl rfl (fun c2 => ?_) (fun c2 => ?_)
    · refine zR_cst (v := 0) rfl rfl rfl ?_
      first | refine zR_rete rfl rfl ?_ ?_ | refine zR_retb rfl rfl ?_ ?_
      all_goals (first | rfl | simp [bI, zst, *])
    · refine zR_s rfl ?_
      first | refine zR_call rfl rfl rfl rfl (zcallok_v (zcU hi) rfl rfl) (m_stands (zcU hi)) ?_ | refine zR_call rfl rfl rfl rfl (zcallok_v (zcU hw) rfl rfl) (m_stands (zcU hw)) ?_
      first | refine zR_df rfl rfl (fun c3 => ?_) (fun c3 => ?_) | refine zR_bf rfl rfl (fun c3 => ?_) (fun c3 => ?_) | refine zR_ifeq rfl rfl (fun c3 => ?_) (fun c3 => ?_)
      · refine zR_cst (v := 0) rfl rfl rfl ?_
        first | refine zR_rete rfl rfl ?_ ?_ | refine zR_retb rfl rfl ?_ ?_
        all_goals (first | rfl | simp [bI, zst, *])
      · refine zR_s rfl ?_
        refine zR_s rfl ?_
        refine zR_call rfl rfl rfl rfl (zcallok_v (zcU hi) rfl rfl) (m_isLike hi hw) ?_
        first | refine zR_df rfl rfl (fun c4 => ?_) (fun c4 => ?_) | refine zR_bf rfl rfl (fun c4 => ?_) (fun c4 => ?_) | refine zR_ifeq rfl rfl (fun c4 => ?_) (fun c4 => ?_)
        · refine zR_cst (v := 0) rfl rfl rfl ?_
          first | refine zR_rete rfl rfl ?_ ?_ | refine zR_retb rfl rfl ?_ ?_
          all_goals (first | rfl | simp [bI, zst, *])
        · refine zR_s rfl ?_
          refine zR_s rfl ?_
          first | refine zR_call rfl rfl rfl rfl (zcallok_v (zc0) rfl rfl) (m_isPlain hK hM hm hi) ?_ | refine zR_call rfl rfl rfl rfl (zcallok_v (zc0) rfl rfl) (m_isPlain hK hM hm hw) ?_
          first | refine zR_df rfl rfl (fun c5 => ?_) (fun c5 => ?_) | refine zR_bf rfl rfl (fun c5 => ?_) (fun c5 => ?_) | refine zR_ifeq rfl rfl (fun c5 => ?_) (fun c5 => ?_)
          · refine zR_cst (v := 0) rfl rfl rfl ?_
            first | refine zR_rete rfl rfl ?_ ?_ | refine zR_retb rfl rfl ?_ ?_
            all_goals (first | rfl | simp [bI, zst, *])
          · refine zR_s rfl ?_
            refine zR_s rfl ?_
            first | refine zR_call rfl rfl rfl rfl (zcallok_v (zc0) rfl rfl) (m_isPlain hK hM hm hi) ?_ | refine zR_call rfl rfl rfl rfl (zcallok_v (zc0) rfl rfl) (m_isPlain hK hM hm hw) ?_
            first | refine zR_df rfl rfl (fun c6 => ?_) (fun c6 => ?_) | refine zR_bf rfl rfl (fun c6 => ?_) (fun c6 => ?_) | refine zR_ifeq rfl rfl (fun c6 => ?_) (fun c6 => ?_)
            · refine zR_cst (v := 0) rfl rfl rfl ?_
              first | refine zR_rete rfl rfl ?_ ?_ | refine zR_retb rfl rfl ?_ ?_
              all_goals (first | rfl | simp [bI, zst, *])
            · refine zR_s rfl ?_
              first | refine zR_get rfl rfl (zcU hi) rfl ?_ | refine zR_get rfl rfl (zcU hw) rfl ?_
              refine zR_s rfl ?_
              first | refine zR_get rfl rfl (zcU hi) rfl ?_ | refine zR_get rfl rfl (zcU hw) rfl ?_
              refine zR_iadd rfl ?_
              refine zR_cst (v := 1000) rfl rfl rfl ?_
              refine zR_mgt rfl rfl (fun c7 => ?_) (fun c7 => ?_)
              · refine zR_cst (v := 0) rfl rfl rfl ?_
                first | refine zR_rete rfl rfl ?_ ?_ | refine zR_retb rfl rfl ?_ ?_
                all_goals (first | rfl | simp [bI, zst, *])
              · refine zR_cst (v := 1) rfl rfl rfl ?_
                refine zR_s rfl ?_
                first | refine zR_rete rfl rfl ?_ ?_ | refine zR_retb rfl rfl ?_ ?_
                all_goals (first | rfl | simp [bI, zst, *])
theorem m_isSerialInUse {n : Int64} (hM : N 1 = nI M) (hm : M ≤ 64) : zMe sL sx d 61 [.ref 0, .long n] (zCs N F G K Z ++ tl) (.returned (some (.int (bI (@decide (∃ i, i < M ∧ Z i = n ∧ ¬ G i 5 = 5) (Classical.propDecidable _)))))) (zCs N F G K Z ++ tl) := by
  show zR sL sx _ 61 0 [.ref 0, .long n, .retAddr 0, .retAddr 0] [] _ _ _
  refine zR_cst (v := 0) rfl rfl rfl ?_
  refine zR_s rfl ?_
  skip
  refine zR_loop0 (M := M) (fun j => [.ref 0, .long n, .retAddr 0, .int (nI j)]) (fun _ => zCs N F G K Z ++ tl) (fun j => ∀ i, i < j → ¬ (Z i = n ∧ ¬ G i 5 = 5)) rfl rfl (fun i hi => absurd hi (by omega)) (fun hI => ?_) (fun j hj hI ih => ?_)
  · refine zR_s rfl ?_
    refine zR_s rfl ?_
    refine zR_get rfl rfl (zc0) rfl ?_
    refine zR_icge rfl rfl (fun _ => ?_) (fun c => by first | exact absurd ((by rw [hM]; exact Int32.le_refl _)) c | exact absurd c ((by rw [hM]; exact Int32.le_refl _)))
    (rw [bI_n _ _ (fun ⟨i, h1, h2⟩ => hI i h1 h2)]; refine zR_s rfl ?_; exact zR_ret rfl rfl)
  · refine zR_s rfl ?_
    refine zR_s rfl ?_
    first | refine zR_get rfl rfl (zc0) rfl ?_ | refine zR_get rfl rfl (zcU (show j < 64 by omega)) rfl ?_
    refine zR_icge rfl rfl (fun c => by first | exact absurd c ((by rw [hM]; exact nI_ge hj (by omega))) | exact absurd ((by rw [hM]; exact nI_ge hj (by omega))) c) (fun _ => ?_)
    refine zR_s rfl ?_
    first | refine zR_get rfl rfl (zc0) rfl ?_ | refine zR_get rfl rfl (zcU (show j < 64 by omega)) rfl ?_
    refine zR_s rfl ?_
    refine zR_aldU rfl (by omega) ?_
    first | refine zR_get rfl rfl (zc0) rfl ?_ | refine zR_get rfl rfl (zcU (show j < 64 by omega)) rfl ?_
    refine zR_s rfl ?_
    refine zR_s rfl ?_
    first | refine zR_dt rfl rfl (fun c1 => ?_) (fun c1 => ?_) | refine zR_bt rfl rfl (fun c1 => ?_) (fun c1 => ?_) | refine zR_lne rfl rfl (fun c1 => ?_) (fun c1 => ?_)
    · first | refine zR_incn rfl rfl rfl ?_ | refine zR_s rfl ?_
      refine zR_goto rfl rfl ?_
      exact ih (fun i hi => by by_cases e : i = j; { subst e; intro q; first | exact c1 q.1 | exact q.2 c2 }; exact hI i (by omega))
    · refine zR_s rfl ?_
      first | refine zR_get rfl rfl (zc0) rfl ?_ | refine zR_get rfl rfl (zcU (show j < 64 by omega)) rfl ?_
      refine zR_s rfl ?_
      refine zR_aldU rfl (by omega) ?_
      first | refine zR_get rfl rfl (zc0) rfl ?_ | refine zR_get rfl rfl (zcU (show j < 64 by omega)) rfl ?_
      refine zR_cst (v := 5) rfl rfl rfl ?_
      refine zR_iceq rfl rfl (fun c2 => ?_) (fun c2 => ?_)
      · first | refine zR_incn rfl rfl rfl ?_ | refine zR_s rfl ?_
        refine zR_goto rfl rfl ?_
        exact ih (fun i hi => by by_cases e : i = j; { subst e; intro q; first | exact c1 q.1 | exact q.2 c2 }; exact hI i (by omega))
      · (rw [bI_d _ _ ⟨j, hj, c1, c2⟩]; refine zR_s rfl ?_; exact zR_ret rfl rfl)
end ZCL
end
section
/-! what each method of the class does, as a function; and that it does it -/
abbrev zQ : Type := Except Nat (Option Value × (Nat → Int32) × (Nat → Nat → Int32) × (Nat → Nat → Int32) × (Nat → Option Nat) × (Nat → Int64))
def zO (q : zQ) : Outcome := match q with
  | .ok r => .returned r.1
  | .error e => .threw e
def zHc (h : zH) (tl : zH) (q : zQ) : zH := match q with
  | .ok r => zCs r.2.1 r.2.2.1 r.2.2.2.1 r.2.2.2.2.1 r.2.2.2.2.2 ++ tl
  | .error e => h ++ [(100 + e, [])]
theorem zpl {p : Int32} {n : Nat} {b : Int32} (hb : b = nI n) (hn : n < 1000) (c : 0 ≤ p ∧ p ≤ b) : ∃ p', p' ≤ n ∧ p = nI p' ∧ (nI p').toNatClampNeg = p' := by
  subst hb
  obtain ⟨j, hj, e⟩ := nI_of2 (nI_toInt (n := n) (by omega)) (Int32.not_lt.mpr c.1) c.2
  exact ⟨j, hj, e, nI_clamp (by omega)⟩
theorem zroom1 {x : Int32} {A : Nat} (hA : x = nI A) (h4 : A ≤ 400) (c : x + 1 ≤ 400) : A < 400 := by
  subst hA
  rw [nI_1] at c
  have := (nI_leI (a := A + 1) (b := 400) (by omega) (by omega)).mp c
  omega
theorem zroom2 {x : Int32} {A : Nat} (hA : x = nI A) (h4 : A ≤ 400) (c : x + 2 ≤ 400) : A + 1 < 400 := by
  subst hA
  rw [show nI A + 2 = nI (A + 2) from nI_add A 2] at c
  have := (nI_leI (a := A + 2) (b := 400) (by omega) (by omega)).mp c
  omega
section ZAC
variable {sL : Nat} {sx : Nat → Int32} {N : Nat → Int32} {F G : Nat → Nat → Int32} {K : Nat → Option Nat} {Z : Nat → Int64} {tl : zH} {M A l i u : Nat}
def q_rows (N : Nat → Int32) (F G : Nat → Nat → Int32) (K : Nat → Option Nat) (Z : Nat → Int64) (n : Int32) : zQ :=
  if 0 ≤ n then if n ≤ 64 then .ok (none, upd (upd (upd N 1 0) 2 n) 4 0, F, G, K, Z) else .error 1 else .error 0
theorem c_rows {n : Int32} : zMe sL sx 10 19 [.ref 0, .int n] (zCs N F G K Z ++ tl) (zO (q_rows N F G K Z n)) (zHc (zCs N F G K Z ++ tl) tl (q_rows N F G K Z n)) := by
  show zR sL sx _ 19 0 [.ref 0, .int n] [] _ _ _
  refine zR_s rfl ?_
  refine zR_ifge rfl rfl (fun c1 => ?_) (fun c1 => ?_)
  · refine zR_s rfl ?_
    refine zR_cst (v := 0) rfl rfl rfl ?_
    refine zR_cst (v := 64) rfl rfl rfl ?_
    refine zR_callt rfl rfl rfl rfl (zcallok_s rfl) rfl (m_checkRange (by decide)) (fun c2 => ?_) (fun c2 => ?_)
    · refine zR_s rfl ?_
      refine zR_cst (v := 0) rfl rfl rfl ?_
      refine zR_putN rfl rfl (by decide) rfl ?_
      refine zR_s rfl ?_
      refine zR_s rfl ?_
      refine zR_putN rfl rfl (by decide) rfl ?_
      refine zR_s rfl ?_
      refine zR_get rfl rfl (zc0) rfl ?_
      refine zR_call rfl rfl rfl rfl (zcallok_v (zc6) rfl rfl) (m_clear) ?_
      refine zR_rete rfl rfl ?_ ?_
      all_goals (first | simp [zO, zHc, q_rows, *]; done | (have c3 : ¬ n ≤ 64 := fun q => c2 ⟨c1, q⟩; simp [zO, zHc, q_rows, *]))
    · first | simp [zO, zHc, q_rows, *]; done | (have c3 : ¬ n ≤ 64 := fun q => c2 ⟨c1, q⟩; simp [zO, zHc, q_rows, *])
  · refine zR_throwe (by omega) rfl rfl rfl ?_ ?_
    all_goals (first | simp [zO, zHc, q_rows, *]; done | (have c3 : ¬ n ≤ 64 := fun q => c2 ⟨c1, q⟩; simp [zO, zHc, q_rows, *]))
def q_place (N : Nat → Int32) (F G : Nat → Nat → Int32) (K : Nat → Option Nat) (Z : Nat → Int64) (M : Nat) (p m : Int32) : zQ :=
  if 0 ≤ p ∧ p ≤ 15 then if 0 ≤ m ∧ m ≤ 64 then if nI (zcnt (zqP G p) M) ≤ m then .ok (none, N, updF F 0 (upd (F 0) p.toNatClampNeg m), G, K, Z) else .error 2 else .error 1 else .error 1
theorem c_place {p m : Int32} (hM : N 1 = nI M) (hm : M ≤ 64) : zMe sL sx 10 20 [.ref 0, .int p, .int m] (zCs N F G K Z ++ tl) (zO (q_place N F G K Z M p m)) (zHc (zCs N F G K Z ++ tl) tl (q_place N F G K Z M p m)) := by
  show zR sL sx _ 20 0 [.ref 0, .int p, .int m] [] _ _ _
  refine zR_s rfl ?_
  refine zR_callt rfl rfl rfl rfl (zcallok_s rfl) rfl (m_checkPlace (by decide)) (fun c1 => ?_) (fun c1 => ?_)
  · refine zR_s rfl ?_
    refine zR_cst (v := 0) rfl rfl rfl ?_
    refine zR_cst (v := 64) rfl rfl rfl ?_
    refine zR_callt rfl rfl rfl rfl (zcallok_s rfl) rfl (m_checkRange (by decide)) (fun c2 => ?_) (fun c2 => ?_)
    · refine zR_s rfl ?_
      refine zR_s rfl ?_
      refine zR_call rfl rfl rfl rfl (zcallok_v (zc0) rfl rfl) (m_unitsAt hM hm) ?_
      refine zR_s rfl ?_
      refine zR_icle rfl rfl (fun c3 => ?_) (fun c3 => ?_)
      · obtain ⟨p', hp, rfl, ep⟩ := zpl (n := 15) rfl (by decide) c1
        refine zR_s rfl ?_
        refine zR_get rfl rfl (zc0) rfl ?_
        refine zR_s rfl ?_
        refine zR_s rfl ?_
        refine zR_istF 0 rfl (by decide) (show p' < 16 by omega) ?_
        refine zR_rete rfl rfl ?_ ?_
        all_goals (simp [zO, zHc, q_place, *])
      · refine zR_throwe (by omega) rfl rfl rfl ?_ ?_
        all_goals (simp [zO, zHc, q_place, *])
    · simp [zO, zHc, q_place, *]
  · simp [zO, zHc, q_place, *]
def q_good (N : Nat → Int32) (F G : Nat → Nat → Int32) (K : Nat → Option Nat) (Z : Nat → Int64) (p m : Int32) : zQ :=
  if 0 ≤ p ∧ p ≤ 7 then if 1 ≤ m ∧ m ≤ 30000 then .ok (none, N, updF F 1 (upd (F 1) p.toNatClampNeg m), G, K, Z) else .error 1 else .error 1
theorem c_good {p m : Int32} : zMe sL sx 10 21 [.ref 0, .int p, .int m] (zCs N F G K Z ++ tl) (zO (q_good N F G K Z p m)) (zHc (zCs N F G K Z ++ tl) tl (q_good N F G K Z p m)) := by
  show zR sL sx _ 21 0 [.ref 0, .int p, .int m] [] _ _ _
  refine zR_s rfl ?_
  refine zR_cst (v := 0) rfl rfl rfl ?_
  refine zR_cst (v := 7) rfl rfl rfl ?_
  refine zR_callt rfl rfl rfl rfl (zcallok_s rfl) rfl (m_checkRange (by decide)) (fun c1 => ?_) (fun c1 => ?_)
  · refine zR_s rfl ?_
    refine zR_cst (v := 1) rfl rfl rfl ?_
    refine zR_cst (v := 30000) rfl rfl rfl ?_
    refine zR_callt rfl rfl rfl rfl (zcallok_s rfl) rfl (m_checkRange (by decide)) (fun c2 => ?_) (fun c2 => ?_)
    · obtain ⟨p', hp, rfl, ep⟩ := zpl (n := 7) rfl (by decide) c1
      refine zR_s rfl ?_
      refine zR_get rfl rfl (zc0) rfl ?_
      refine zR_s rfl ?_
      refine zR_s rfl ?_
      refine zR_istF 1 rfl (by decide) (show p' < 8 by omega) ?_
      refine zR_rete rfl rfl ?_ ?_
      all_goals (simp [zO, zHc, q_good, *])
    · simp [zO, zHc, q_good, *]
  · simp [zO, zHc, q_good, *]
def q_lot (N : Nat → Int32) (F G : Nat → Nat → Int32) (K : Nat → Option Nat) (Z : Nat → Int64) (l : Nat) (p m : Int32) : zQ :=
  if 0 ≤ p ∧ p ≤ 7 then if 0 ≤ m ∧ m ≤ 1000 then if l < 16 then .ok (some (.int (nI l)), upd N 0 (nI (l + 1)), updF (updF F 2 (upd (F 2) l p)) 3 (upd (F 3) l m), G, K, Z) else .error 3 else .error 1 else .error 1
theorem c_lot {p m : Int32} (hl : N 0 = nI l) (hl2 : l ≤ 16) : zMe sL sx 10 22 [.ref 0, .int p, .int m] (zCs N F G K Z ++ tl) (zO (q_lot N F G K Z l p m)) (zHc (zCs N F G K Z ++ tl) tl (q_lot N F G K Z l p m)) := by
  have h1 : (16 : Int32) ≤ N 0 ↔ ¬ l < 16 := by
    rw [hl, show (16 : Int32) = nI 16 from rfl, nI_leI (by omega) (by omega)]
    omega
  have tail : 0 ≤ p ∧ p ≤ 7 → 0 ≤ m ∧ m ≤ 1000 → l < 16 → zR sL sx 10 22 34 [.ref 0, .int p, .int m, .retAddr 0] [] (zCs N F G K Z ++ tl) (zO (q_lot N F G K Z l p m)) (zHc (zCs N F G K Z ++ tl) tl (q_lot N F G K Z l p m)) := by
    intro c1 c2 c4
    have e1 : zO (q_lot N F G K Z l p m) = .returned (some (.int (N 0))) := by simp [zO, q_lot, *]
    have e2 : zHc (zCs N F G K Z ++ tl) tl (q_lot N F G K Z l p m) = zCs (upd N 0 (N 0 + 1)) (updF (updF F 2 (upd (F 2) l p)) 3 (upd (F 3) l m)) G K Z ++ tl := by
      rw [show N 0 + 1 = nI (l + 1) by rw [hl]; exact nI_1 l]
      simp [zHc, q_lot, *]
    rw [e1, e2]
    refine zR_s rfl ?_
    refine zR_get rfl rfl (zc0) rfl ?_
    refine zR_s rfl ?_
    rw [hl]
    refine zR_s rfl ?_
    refine zR_get rfl rfl (zc0) rfl ?_
    refine zR_s rfl ?_
    refine zR_s rfl ?_
    first | refine zR_istF 2 rfl (by decide) (show l < 16 by omega) ?_ | refine zR_istF 3 rfl (by decide) (show l < 16 by omega) ?_
    refine zR_s rfl ?_
    refine zR_get rfl rfl (zc0) rfl ?_
    refine zR_s rfl ?_
    refine zR_s rfl ?_
    first | refine zR_istF 2 rfl (by decide) (show l < 16 by omega) ?_ | refine zR_istF 3 rfl (by decide) (show l < 16 by omega) ?_
    refine zR_s rfl ?_
    refine zR_s rfl ?_
    refine zR_cst (v := 1) rfl rfl rfl ?_
    refine zR_iadd rfl ?_
    refine zR_putN rfl rfl (by decide) rfl ?_
    refine zR_s rfl ?_
    first | refine zR_rete rfl rfl ?_ ?_ | refine zR_retb rfl rfl ?_ ?_
    all_goals (first | rfl | simp [bI, *])
  show zR sL sx _ 22 0 [.ref 0, .int p, .int m, .retAddr 0] [] _ _ _
  refine zR_s rfl ?_
  refine zR_cst (v := 0) rfl rfl rfl ?_
  refine zR_cst (v := 7) rfl rfl rfl ?_
  refine zR_callt rfl rfl rfl rfl (zcallok_s rfl) rfl (m_checkRange (by decide)) (fun c1 => ?_) (fun c1 => ?_)
  · refine zR_s rfl ?_
    refine zR_cst (v := 0) rfl rfl rfl ?_
    refine zR_cst (v := 1000) rfl rfl rfl ?_
    refine zR_callt rfl rfl rfl rfl (zcallok_s rfl) rfl (m_checkRange (by decide)) (fun c2 => ?_) (fun c2 => ?_)
    · refine zR_s rfl ?_
      refine zR_get rfl rfl (zc0) rfl ?_
      refine zR_cst (v := 16) rfl rfl rfl ?_
      refine zR_mlt rfl rfl (fun c3 => ?_) (fun c3 => ?_)
      · exact tail c1 c2 (Classical.not_not.mp fun q => c3 (h1.mpr q))
      · refine zR_throwe (by omega) rfl rfl rfl ?_ ?_
        all_goals (first | simp [zO, zHc, q_lot, *]; done | (rw [h1] at c3; simp [zO, zHc, q_lot, *]))
    · first | simp [zO, zHc, q_lot, *]; done | (rw [h1] at c3; simp [zO, zHc, q_lot, *])
  · first | simp [zO, zHc, q_lot, *]; done | (rw [h1] at c3; simp [zO, zHc, q_lot, *])
def q_unit (N : Nat → Int32) (F G : Nat → Nat → Int32) (K : Nat → Option Nat) (Z : Nat → Int64) (M A a : Nat) (p w n : Int32) : zQ :=
  if 0 ≤ p ∧ p ≤ 15 then if 0 ≤ w ∧ w ≤ 7 then if 1 ≤ n ∧ n ≤ 1000 then if N 4 + 1 ≤ 400 then if nI (zcnt (zqP G p) M) + 1 ≤ F 0 p.toNatClampNeg then if ¬ N 2 ≤ N 1 ∧ M < 64 then
    .ok (some (.int (nI M)), upd (upd N 1 (nI (M + 1))) 4 (nI (A + 1)), zadd F A (nI M) 1 (upd N 1 (nI (M + 1)) 3) p, updG (updG (updG (updG (updG (updG (updG G M 0 (nI a)) M 1 (F 2 a)) M 2 (F 3 a)) M 3 w) M 4 n) M 5 (if F 3 a < N 3 then 3 else 0)) M 6 p, va_up K M none, vp_updL Z M 0)
  else .error 3 else .error 3 else .error 3 else .error 1 else .error 1 else .error 1
theorem c_unit_no {a p w n : Int32} (hl : N 0 = nI l) (hno : ¬ (0 ≤ a ∧ a ≤ nI l - 1)) : zMe sL sx 10 23 [.ref 0, .int a, .int p, .int w, .int n] (zCs N F G K Z ++ tl) (.threw 4) (zCs N F G K Z ++ tl ++ [(104, [])]) := by
  rw [← hl] at hno
  show zR sL sx _ 23 0 [.ref 0, .int a, .int p, .int w, .int n, .retAddr 0] [] _ _ _
  refine zR_s rfl ?_
  refine zR_cst (v := 0) rfl rfl rfl ?_
  refine zR_s rfl ?_
  refine zR_get rfl rfl (zc0) rfl ?_
  refine zR_cst (v := 1) rfl rfl rfl ?_
  refine zR_isub rfl ?_
  refine zR_call rfl rfl rfl rfl (zcallok_s rfl) (m_isWithin) ?_
  first | refine zR_dt rfl rfl (fun c1 => absurd c1 hno) (fun c1 => ?_) | refine zR_bt rfl rfl (fun c1 => absurd c1 hno) (fun c1 => ?_) | refine zR_ifne rfl rfl (fun c1 => absurd c1 hno) (fun c1 => ?_)
  refine zR_throwe (by omega) rfl rfl rfl ?_ ?_
  all_goals (first | rfl | simp [bI, *])
theorem c_unit {a : Nat} {p w n : Int32} (hM : N 1 = nI M) (hm : M ≤ 64) (hA : N 4 = nI A) (hA4 : A ≤ 400) (hl : N 0 = nI l) (hl2 : l ≤ 16) (ha : a < l) : zMe sL sx 10 23 [.ref 0, .int (nI a), .int p, .int w, .int n] (zCs N F G K Z ++ tl) (zO (q_unit N F G K Z M A a p w n)) (zHc (zCs N F G K Z ++ tl) tl (q_unit N F G K Z M A a p w n)) := by
  have h1 : 0 ≤ nI a ∧ nI a ≤ N 0 - 1 := by
    refine ⟨nI_pos' (by omega), ?_⟩
    obtain ⟨A', rfl⟩ : ∃ A', l = A' + 1 := ⟨l - 1, by omega⟩
    rw [hl, nI_pred]
    exact nI_le (by omega) (by omega)
  have ec : ∀ w n : Int32, updG (updG (updG (updG (updG G M 0 (nI a)) M 1 (F 2 a)) M 2 (F 3 a)) M 3 w) M 4 n M 2 = F 3 a := by intro w n; simp [updG, upd]
  show zR sL sx _ 23 0 [.ref 0, .int (nI a), .int p, .int w, .int n, .retAddr 0] [] _ _ _
  refine zR_s rfl ?_
  refine zR_cst (v := 0) rfl rfl rfl ?_
  first | refine zR_s rfl ?_ | refine zR_alo rfl rfl rfl ?_
  first | refine zR_get rfl rfl (zc0) rfl ?_ | refine zR_get rfl rfl (zcU hM2) rfl ?_
  refine zR_cst (v := 1) rfl rfl rfl ?_
  refine zR_isub rfl ?_
  refine zR_call rfl rfl rfl rfl (zcallok_s rfl) (m_isWithin) ?_
  first | refine zR_dt rfl rfl (fun c1 => ?_) (fun c1 => absurd h1 c1) | refine zR_bt rfl rfl (fun c1 => ?_) (fun c1 => absurd h1 c1) | refine zR_ifne rfl rfl (fun c1 => ?_) (fun c1 => absurd h1 c1)
  refine zR_s rfl ?_
  refine zR_callt rfl rfl rfl rfl (zcallok_s rfl) rfl (m_checkPlace (by decide)) (fun c2 => ?_) (fun c2 => ?_)
  · obtain ⟨p', hp, rfl, ep⟩ := zpl (n := 15) rfl (by decide) c2
    refine zR_s rfl ?_
    refine zR_cst (v := 0) rfl rfl rfl ?_
    refine zR_cst (v := 7) rfl rfl rfl ?_
    refine zR_callt rfl rfl rfl rfl (zcallok_s rfl) rfl (m_checkRange (by decide)) (fun c3 => ?_) (fun c3 => ?_)
    · refine zR_s rfl ?_
      refine zR_cst (v := 1) rfl rfl rfl ?_
      refine zR_cst (v := 1000) rfl rfl rfl ?_
      refine zR_callt rfl rfl rfl rfl (zcallok_s rfl) rfl (m_checkRange (by decide)) (fun c4 => ?_) (fun c4 => ?_)
      · first | refine zR_s rfl ?_ | refine zR_alo rfl rfl rfl ?_
        refine zR_cst (v := 1) rfl rfl rfl ?_
        refine zR_callt rfl rfl rfl rfl (zcallok_v (zc0) rfl rfl) rfl (m_needRows (by decide)) (fun c5 => ?_) (fun c5 => ?_)
        · have hA5 := zroom1 hA hA4 c5
          first | refine zR_s rfl ?_ | refine zR_alo rfl rfl rfl ?_
          refine zR_s rfl ?_
          refine zR_cst (v := 1) rfl rfl rfl ?_
          refine zR_callt rfl rfl rfl rfl (zcallok_v (zc0) rfl rfl) rfl (m_needSpace hM hm (show p' < 16 by omega) (by decide)) (fun c6 => ?_) (fun c6 => ?_)
          · first | refine zR_s rfl ?_ | refine zR_alo rfl rfl rfl ?_
            refine zR_callt rfl rfl rfl rfl (zcallok_v (zc0) rfl rfl) rfl (m_nextUnit hM hm (by decide)) (fun c7 => ?_) (fun c7 => ?_)
            · have hM2 : M < 64 := c7.2
              first | refine zR_s rfl ?_ | refine zR_aso rfl rfl rfl ?_
              first | refine zR_s rfl ?_ | refine zR_alo rfl rfl rfl ?_
              refine zR_s rfl ?_
              first | refine zR_s rfl ?_ | refine zR_alo rfl rfl rfl ?_
              first | refine zR_get rfl rfl (zc0) rfl ?_ | refine zR_get rfl rfl (zcU hM2) rfl ?_
              refine zR_s rfl ?_
              first | refine zR_ildF 2 rfl (by decide) (show a < 16 by omega) ?_ | refine zR_ildF 3 rfl (by decide) (show a < 16 by omega) ?_
              first | refine zR_s rfl ?_ | refine zR_alo rfl rfl rfl ?_
              first | refine zR_get rfl rfl (zc0) rfl ?_ | refine zR_get rfl rfl (zcU hM2) rfl ?_
              refine zR_s rfl ?_
              first | refine zR_ildF 2 rfl (by decide) (show a < 16 by omega) ?_ | refine zR_ildF 3 rfl (by decide) (show a < 16 by omega) ?_
              refine zR_s rfl ?_
              refine zR_s rfl ?_
              refine zR_call rfl rfl rfl rfl (zcallok_v (zcU hM2) rfl rfl) (m_be hM2) ?_
              first | refine zR_s rfl ?_ | refine zR_alo rfl rfl rfl ?_
              first | refine zR_s rfl ?_ | refine zR_alo rfl rfl rfl ?_
              first | refine zR_s rfl ?_ | refine zR_alo rfl rfl rfl ?_
              first | refine zR_get rfl rfl (zc0) rfl ?_ | refine zR_get rfl rfl (zcU hM2) rfl ?_
              refine zR_call rfl rfl rfl rfl (zcallok_v (zcU hM2) rfl rfl) (m_isOver (zcU hM2)) ?_
              first | refine zR_df rfl rfl (fun c8 => ?_) (fun c8 => ?_) | refine zR_bf rfl rfl (fun c8 => ?_) (fun c8 => ?_) | refine zR_ifeq rfl rfl (fun c8 => ?_) (fun c8 => ?_)
              · replace c8 : ¬ F 3 a < N 3 := by { rw [ec] at c8; exact c8 }
                refine zR_cst (v := 0) rfl rfl rfl ?_
                refine zR_s rfl ?_
                refine zR_nul rfl ?_
                refine zR_call rfl rfl rfl rfl (zcallok_v (zcU hM2) rfl rfl) (m_stand (c := none) hM2) ?_
                first | refine zR_s rfl ?_ | refine zR_alo rfl rfl rfl ?_
                first | refine zR_s rfl ?_ | refine zR_alo rfl rfl rfl ?_
                refine zR_cst (v := 1) rfl rfl rfl ?_
                refine zR_s rfl ?_
                refine zR_call rfl rfl rfl rfl (zcallok_v (zc0) rfl rfl) (m_addRow hM2 (show _ = nI A from hA) hA5) ?_
                first | refine zR_s rfl ?_ | refine zR_alo rfl rfl rfl ?_
                first | refine zR_get rfl rfl (zc0) rfl ?_ | refine zR_get rfl rfl (zcU hM2) rfl ?_
                first | refine zR_rete rfl rfl ?_ ?_ | refine zR_retb rfl rfl ?_ ?_
                all_goals (first | contradiction | (simp only [zO, zHc, q_unit, ep, c1, c2, c3, c4, c5, c6, c7, c8, if_true, if_false, not_true_eq_false, not_false_eq_true, and_self, and_true, true_and, or_true, true_or, or_false, false_or, and_false, false_and, reduceCtorEq]; done) | (simp only [zO, zHc, q_unit, c1, c2, c3, c4, c5, c6, c7, c8, if_true, if_false, not_true_eq_false, not_false_eq_true, and_self, and_true, true_and, or_true, true_or, or_false, false_or, and_false, false_and, reduceCtorEq]; done))
              · replace c8 : F 3 a < N 3 := by { rw [ec] at c8; exact c8 }
                refine zR_cst (v := 3) rfl rfl rfl ?_
                refine zR_s rfl ?_
                refine zR_s rfl ?_
                refine zR_nul rfl ?_
                refine zR_call rfl rfl rfl rfl (zcallok_v (zcU hM2) rfl rfl) (m_stand (c := none) hM2) ?_
                first | refine zR_s rfl ?_ | refine zR_alo rfl rfl rfl ?_
                first | refine zR_s rfl ?_ | refine zR_alo rfl rfl rfl ?_
                refine zR_cst (v := 1) rfl rfl rfl ?_
                refine zR_s rfl ?_
                refine zR_call rfl rfl rfl rfl (zcallok_v (zc0) rfl rfl) (m_addRow hM2 (show _ = nI A from hA) hA5) ?_
                first | refine zR_s rfl ?_ | refine zR_alo rfl rfl rfl ?_
                first | refine zR_get rfl rfl (zc0) rfl ?_ | refine zR_get rfl rfl (zcU hM2) rfl ?_
                first | refine zR_rete rfl rfl ?_ ?_ | refine zR_retb rfl rfl ?_ ?_
                all_goals (first | contradiction | (simp only [zO, zHc, q_unit, ep, c1, c2, c3, c4, c5, c6, c7, c8, if_true, if_false, not_true_eq_false, not_false_eq_true, and_self, and_true, true_and, or_true, true_or, or_false, false_or, and_false, false_and, reduceCtorEq]; done) | (simp only [zO, zHc, q_unit, c1, c2, c3, c4, c5, c6, c7, c8, if_true, if_false, not_true_eq_false, not_false_eq_true, and_self, and_true, true_and, or_true, true_or, or_false, false_or, and_false, false_and, reduceCtorEq]; done))
            · first | contradiction | (simp only [zO, zHc, q_unit, ep, c1, c2, c3, c4, c5, c6, c7, if_true, if_false, not_true_eq_false, not_false_eq_true, and_self, and_true, true_and, or_true, true_or, or_false, false_or, and_false, false_and, reduceCtorEq]; done) | (simp only [zO, zHc, q_unit, c1, c2, c3, c4, c5, c6, c7, if_true, if_false, not_true_eq_false, not_false_eq_true, and_self, and_true, true_and, or_true, true_or, or_false, false_or, and_false, false_and, reduceCtorEq]; done)
          · first | contradiction | (simp only [zO, zHc, q_unit, ep, c1, c2, c3, c4, c5, c6, if_true, if_false, not_true_eq_false, not_false_eq_true, and_self, and_true, true_and, or_true, true_or, or_false, false_or, and_false, false_and, reduceCtorEq]; done) | (simp only [zO, zHc, q_unit, c1, c2, c3, c4, c5, c6, if_true, if_false, not_true_eq_false, not_false_eq_true, and_self, and_true, true_and, or_true, true_or, or_false, false_or, and_false, false_and, reduceCtorEq]; done)
        · first | contradiction | (simp only [zO, zHc, q_unit, ep, c1, c2, c3, c4, c5, if_true, if_false, not_true_eq_false, not_false_eq_true, and_self, and_true, true_and, or_true, true_or, or_false, false_or, and_false, false_and, reduceCtorEq]; done) | (simp only [zO, zHc, q_unit, c1, c2, c3, c4, c5, if_true, if_false, not_true_eq_false, not_false_eq_true, and_self, and_true, true_and, or_true, true_or, or_false, false_or, and_false, false_and, reduceCtorEq]; done)
      · first | contradiction | (simp only [zO, zHc, q_unit, ep, c1, c2, c3, c4, if_true, if_false, not_true_eq_false, not_false_eq_true, and_self, and_true, true_and, or_true, true_or, or_false, false_or, and_false, false_and, reduceCtorEq]; done) | (simp only [zO, zHc, q_unit, c1, c2, c3, c4, if_true, if_false, not_true_eq_false, not_false_eq_true, and_self, and_true, true_and, or_true, true_or, or_false, false_or, and_false, false_and, reduceCtorEq]; done)
    · first | contradiction | (simp only [zO, zHc, q_unit, ep, c1, c2, c3, if_true, if_false, not_true_eq_false, not_false_eq_true, and_self, and_true, true_and, or_true, true_or, or_false, false_or, and_false, false_and, reduceCtorEq]; done) | (simp only [zO, zHc, q_unit, c1, c2, c3, if_true, if_false, not_true_eq_false, not_false_eq_true, and_self, and_true, true_and, or_true, true_or, or_false, false_or, and_false, false_and, reduceCtorEq]; done)
  · first | contradiction | (simp only [zO, zHc, q_unit, ep, c1, c2, if_true, if_false, not_true_eq_false, not_false_eq_true, and_self, and_true, true_and, or_true, true_or, or_false, false_or, and_false, false_and, reduceCtorEq]; done) | (simp only [zO, zHc, q_unit, c1, c2, if_true, if_false, not_true_eq_false, not_false_eq_true, and_self, and_true, true_and, or_true, true_or, or_false, false_or, and_false, false_and, reduceCtorEq]; done)
def q_move (N : Nat → Int32) (F G : Nat → Nat → Int32) (K : Nat → Option Nat) (Z : Nat → Int64) (M A j : Nat) (p : Int32) : zQ :=
  if 0 ≤ p ∧ p ≤ 15 then if zst (G j) = true then if G j 6 = p ∧ K j = none then .error 2 else if N 4 + 1 ≤ 400 then if G j 6 = p ∨ nI (zcnt (zqP G p) M) + (1 + nI (zcnt (zqW K j) M)) ≤ F 0 p.toNatClampNeg then
    .ok (none, upd N 4 (nI (A + 1)), zadd F A (nI j) 2 (N 3) p, zcar G (va_up K j none) j p M, va_up K j none, Z)
  else .error 3 else .error 3 else .error 2 else .error 1
theorem zKb_up {K : Nat → Option Nat} {j : Nat} {v : Option Nat} (hK : zKb K) (hv : ∀ w, v = some w → w < 64) : zKb (va_up K j v) := by
  intro c c' e
  simp only [va_up] at e
  split at e
  · exact hv _ e
  · exact hK _ _ e
theorem c_move {j : Nat} {p : Int32} (hK : zKb K) (hM : N 1 = nI M) (hm : M ≤ 64) (hA : N 4 = nI A) (hA4 : A ≤ 400) (hj : j < M) : zMe sL sx 10 24 [.ref 0, .int (nI j), .int p] (zCs N F G K Z ++ tl) (zO (q_move N F G K Z M A j p)) (zHc (zCs N F G K Z ++ tl) tl (q_move N F G K Z M A j p)) := by
  have hj2 : j < 64 := by omega
  show zR sL sx _ 24 0 [.ref 0, .int (nI j), .int p, .retAddr 0] [] _ _ _
  first | refine zR_s rfl ?_ | refine zR_alo rfl rfl rfl ?_
  refine zR_s rfl ?_
  refine zR_call rfl rfl rfl rfl (zcallok_v (zc0) rfl rfl) (m_unitOf hM hm hj) ?_
  first | refine zR_s rfl ?_ | refine zR_aso rfl rfl rfl ?_
  refine zR_s rfl ?_
  refine zR_callt rfl rfl rfl rfl (zcallok_s rfl) rfl (m_checkPlace (by decide)) (fun c1 => ?_) (fun c1 => ?_)
  · obtain ⟨p', hp, rfl, ep⟩ := zpl (n := 15) rfl (by decide) c1
    first | refine zR_s rfl ?_ | refine zR_alo rfl rfl rfl ?_
    refine zR_callt rfl rfl rfl rfl (zcallok_s rfl) rfl (m_checkStands (zcU hj2) (by decide)) (fun c2 => ?_) (fun c2 => ?_)
    · first | refine zR_s rfl ?_ | refine zR_alo rfl rfl rfl ?_
      first | refine zR_get rfl rfl (zc0) rfl ?_ | refine zR_get rfl rfl (zcU hj2) rfl ?_
      refine zR_s rfl ?_
      refine zR_icne rfl rfl (fun c3 => ?_) (fun c3 => ?_)
      · first | refine zR_s rfl ?_ | refine zR_alo rfl rfl rfl ?_
        refine zR_cst (v := 1) rfl rfl rfl ?_
        refine zR_callt rfl rfl rfl rfl (zcallok_v (zc0) rfl rfl) rfl (m_needRows (by decide)) (fun c4 => ?_) (fun c4 => ?_)
        · have hA5 := zroom1 hA hA4 c4
          first | refine zR_s rfl ?_ | refine zR_alo rfl rfl rfl ?_
          first | refine zR_get rfl rfl (zc0) rfl ?_ | refine zR_get rfl rfl (zcU hj2) rfl ?_
          refine zR_s rfl ?_
          refine zR_iceq rfl rfl (fun c5 => ?_) (fun c5 => ?_)
          · first | refine zR_s rfl ?_ | refine zR_alo rfl rfl rfl ?_
            refine zR_nul rfl ?_
            refine zR_putK rfl rfl hj2 rfl ?_
            first | refine zR_s rfl ?_ | refine zR_alo rfl rfl rfl ?_
            first | refine zR_s rfl ?_ | refine zR_alo rfl rfl rfl ?_
            refine zR_s rfl ?_
            refine zR_call rfl rfl rfl rfl (zcallok_v (zc0) rfl rfl) (m_carry (zKb_up hK (by simp)) hM hm) ?_
            first | refine zR_s rfl ?_ | refine zR_alo rfl rfl rfl ?_
            first | refine zR_s rfl ?_ | refine zR_alo rfl rfl rfl ?_
            refine zR_cst (v := 2) rfl rfl rfl ?_
            refine zR_s rfl ?_
            refine zR_call rfl rfl rfl rfl (zcallok_v (zc0) rfl rfl) (m_addRow hj2 hA hA5) ?_
            refine zR_rete rfl rfl ?_ ?_
            all_goals (first | contradiction | (simp only [zO, zHc, q_move, ep, c1, c2, c3, c4, c5, if_true, if_false, not_true_eq_false, not_false_eq_true, and_self, and_true, true_and, or_true, true_or, or_false, false_or, and_false, false_and, reduceCtorEq]; done) | (simp only [zO, zHc, q_move, c1, c2, c3, c4, c5, if_true, if_false, not_true_eq_false, not_false_eq_true, and_self, and_true, true_and, or_true, true_or, or_false, false_or, and_false, false_and, reduceCtorEq]; done))
          · first | refine zR_s rfl ?_ | refine zR_alo rfl rfl rfl ?_
            refine zR_s rfl ?_
            refine zR_cst (v := 1) rfl rfl rfl ?_
            first | refine zR_s rfl ?_ | refine zR_alo rfl rfl rfl ?_
            first | refine zR_s rfl ?_ | refine zR_alo rfl rfl rfl ?_
            refine zR_call rfl rfl rfl rfl (zcallok_v (zc0) rfl rfl) (m_unitsWithin hK hM hm) ?_
            refine zR_iadd rfl ?_
            refine zR_callt rfl rfl rfl rfl (zcallok_v (zc0) rfl rfl) rfl (m_needSpace hM hm (show p' < 16 by omega) (by decide)) (fun c6 => ?_) (fun c6 => ?_)
            · first | refine zR_s rfl ?_ | refine zR_alo rfl rfl rfl ?_
              refine zR_nul rfl ?_
              refine zR_putK rfl rfl hj2 rfl ?_
              first | refine zR_s rfl ?_ | refine zR_alo rfl rfl rfl ?_
              first | refine zR_s rfl ?_ | refine zR_alo rfl rfl rfl ?_
              refine zR_s rfl ?_
              refine zR_call rfl rfl rfl rfl (zcallok_v (zc0) rfl rfl) (m_carry (zKb_up hK (by simp)) hM hm) ?_
              first | refine zR_s rfl ?_ | refine zR_alo rfl rfl rfl ?_
              first | refine zR_s rfl ?_ | refine zR_alo rfl rfl rfl ?_
              refine zR_cst (v := 2) rfl rfl rfl ?_
              refine zR_s rfl ?_
              refine zR_call rfl rfl rfl rfl (zcallok_v (zc0) rfl rfl) (m_addRow hj2 hA hA5) ?_
              refine zR_rete rfl rfl ?_ ?_
              all_goals (first | contradiction | (simp only [zO, zHc, q_move, ep, c1, c2, c3, c4, c5, c6, if_true, if_false, not_true_eq_false, not_false_eq_true, and_self, and_true, true_and, or_true, true_or, or_false, false_or, and_false, false_and, reduceCtorEq]; done) | (simp only [zO, zHc, q_move, c1, c2, c3, c4, c5, c6, if_true, if_false, not_true_eq_false, not_false_eq_true, and_self, and_true, true_and, or_true, true_or, or_false, false_or, and_false, false_and, reduceCtorEq]; done))
            · first | contradiction | (simp only [zO, zHc, q_move, ep, c1, c2, c3, c4, c5, c6, if_true, if_false, not_true_eq_false, not_false_eq_true, and_self, and_true, true_and, or_true, true_or, or_false, false_or, and_false, false_and, reduceCtorEq]; done) | (simp only [zO, zHc, q_move, c1, c2, c3, c4, c5, c6, if_true, if_false, not_true_eq_false, not_false_eq_true, and_self, and_true, true_and, or_true, true_or, or_false, false_or, and_false, false_and, reduceCtorEq]; done)
        · first | contradiction | (simp only [zO, zHc, q_move, ep, c1, c2, c3, c4, if_true, if_false, not_true_eq_false, not_false_eq_true, and_self, and_true, true_and, or_true, true_or, or_false, false_or, and_false, false_and, reduceCtorEq]; done) | (simp only [zO, zHc, q_move, c1, c2, c3, c4, if_true, if_false, not_true_eq_false, not_false_eq_true, and_self, and_true, true_and, or_true, true_or, or_false, false_or, and_false, false_and, reduceCtorEq]; done)
      · first | refine zR_s rfl ?_ | refine zR_alo rfl rfl rfl ?_
        first | refine zR_get rfl rfl (zc0) rfl ?_ | refine zR_get rfl rfl (zcU hj2) rfl ?_
        refine zR_nonnull1 rfl rfl (fun c4 => ?_) (fun c4 => ?_)
        · first | refine zR_s rfl ?_ | refine zR_alo rfl rfl rfl ?_
          refine zR_cst (v := 1) rfl rfl rfl ?_
          refine zR_callt rfl rfl rfl rfl (zcallok_v (zc0) rfl rfl) rfl (m_needRows (by decide)) (fun c5 => ?_) (fun c5 => ?_)
          · have hA5 := zroom1 hA hA4 c5
            first | refine zR_s rfl ?_ | refine zR_alo rfl rfl rfl ?_
            first | refine zR_get rfl rfl (zc0) rfl ?_ | refine zR_get rfl rfl (zcU hj2) rfl ?_
            refine zR_s rfl ?_
            refine zR_iceq rfl rfl (fun c6 => ?_) (fun c6 => ?_)
            · first | refine zR_s rfl ?_ | refine zR_alo rfl rfl rfl ?_
              refine zR_nul rfl ?_
              refine zR_putK rfl rfl hj2 rfl ?_
              first | refine zR_s rfl ?_ | refine zR_alo rfl rfl rfl ?_
              first | refine zR_s rfl ?_ | refine zR_alo rfl rfl rfl ?_
              refine zR_s rfl ?_
              refine zR_call rfl rfl rfl rfl (zcallok_v (zc0) rfl rfl) (m_carry (zKb_up hK (by simp)) hM hm) ?_
              first | refine zR_s rfl ?_ | refine zR_alo rfl rfl rfl ?_
              first | refine zR_s rfl ?_ | refine zR_alo rfl rfl rfl ?_
              refine zR_cst (v := 2) rfl rfl rfl ?_
              refine zR_s rfl ?_
              refine zR_call rfl rfl rfl rfl (zcallok_v (zc0) rfl rfl) (m_addRow hj2 hA hA5) ?_
              refine zR_rete rfl rfl ?_ ?_
              all_goals (first | contradiction | (simp only [zO, zHc, q_move, ep, c1, c2, c3, c4, c5, c6, if_true, if_false, not_true_eq_false, not_false_eq_true, and_self, and_true, true_and, or_true, true_or, or_false, false_or, and_false, false_and, reduceCtorEq]; done) | (simp only [zO, zHc, q_move, c1, c2, c3, c4, c5, c6, if_true, if_false, not_true_eq_false, not_false_eq_true, and_self, and_true, true_and, or_true, true_or, or_false, false_or, and_false, false_and, reduceCtorEq]; done))
            · first | refine zR_s rfl ?_ | refine zR_alo rfl rfl rfl ?_
              refine zR_s rfl ?_
              refine zR_cst (v := 1) rfl rfl rfl ?_
              first | refine zR_s rfl ?_ | refine zR_alo rfl rfl rfl ?_
              first | refine zR_s rfl ?_ | refine zR_alo rfl rfl rfl ?_
              refine zR_call rfl rfl rfl rfl (zcallok_v (zc0) rfl rfl) (m_unitsWithin hK hM hm) ?_
              refine zR_iadd rfl ?_
              refine zR_callt rfl rfl rfl rfl (zcallok_v (zc0) rfl rfl) rfl (m_needSpace hM hm (show p' < 16 by omega) (by decide)) (fun c7 => ?_) (fun c7 => ?_)
              · first | refine zR_s rfl ?_ | refine zR_alo rfl rfl rfl ?_
                refine zR_nul rfl ?_
                refine zR_putK rfl rfl hj2 rfl ?_
                first | refine zR_s rfl ?_ | refine zR_alo rfl rfl rfl ?_
                first | refine zR_s rfl ?_ | refine zR_alo rfl rfl rfl ?_
                refine zR_s rfl ?_
                refine zR_call rfl rfl rfl rfl (zcallok_v (zc0) rfl rfl) (m_carry (zKb_up hK (by simp)) hM hm) ?_
                first | refine zR_s rfl ?_ | refine zR_alo rfl rfl rfl ?_
                first | refine zR_s rfl ?_ | refine zR_alo rfl rfl rfl ?_
                refine zR_cst (v := 2) rfl rfl rfl ?_
                refine zR_s rfl ?_
                refine zR_call rfl rfl rfl rfl (zcallok_v (zc0) rfl rfl) (m_addRow hj2 hA hA5) ?_
                refine zR_rete rfl rfl ?_ ?_
                all_goals (first | contradiction | (simp only [zO, zHc, q_move, ep, c1, c2, c3, c4, c5, c6, c7, if_true, if_false, not_true_eq_false, not_false_eq_true, and_self, and_true, true_and, or_true, true_or, or_false, false_or, and_false, false_and, reduceCtorEq]; done) | (simp only [zO, zHc, q_move, c1, c2, c3, c4, c5, c6, c7, if_true, if_false, not_true_eq_false, not_false_eq_true, and_self, and_true, true_and, or_true, true_or, or_false, false_or, and_false, false_and, reduceCtorEq]; done))
              · first | contradiction | (simp only [zO, zHc, q_move, ep, c1, c2, c3, c4, c5, c6, c7, if_true, if_false, not_true_eq_false, not_false_eq_true, and_self, and_true, true_and, or_true, true_or, or_false, false_or, and_false, false_and, reduceCtorEq]; done) | (simp only [zO, zHc, q_move, c1, c2, c3, c4, c5, c6, c7, if_true, if_false, not_true_eq_false, not_false_eq_true, and_self, and_true, true_and, or_true, true_or, or_false, false_or, and_false, false_and, reduceCtorEq]; done)
          · first | contradiction | (simp only [zO, zHc, q_move, ep, c1, c2, c3, c4, c5, if_true, if_false, not_true_eq_false, not_false_eq_true, and_self, and_true, true_and, or_true, true_or, or_false, false_or, and_false, false_and, reduceCtorEq]; done) | (simp only [zO, zHc, q_move, c1, c2, c3, c4, c5, if_true, if_false, not_true_eq_false, not_false_eq_true, and_self, and_true, true_and, or_true, true_or, or_false, false_or, and_false, false_and, reduceCtorEq]; done)
        · refine zR_throwe (by omega) rfl rfl rfl ?_ ?_
          all_goals (first | contradiction | (simp only [zO, zHc, q_move, ep, c1, c2, c3, c4, if_true, if_false, not_true_eq_false, not_false_eq_true, and_self, and_true, true_and, or_true, true_or, or_false, false_or, and_false, false_and, reduceCtorEq]; done) | (simp only [zO, zHc, q_move, c1, c2, c3, c4, if_true, if_false, not_true_eq_false, not_false_eq_true, and_self, and_true, true_and, or_true, true_or, or_false, false_or, and_false, false_and, reduceCtorEq]; done))
    · first | contradiction | (simp only [zO, zHc, q_move, ep, c1, c2, if_true, if_false, not_true_eq_false, not_false_eq_true, and_self, and_true, true_and, or_true, true_or, or_false, false_or, and_false, false_and, reduceCtorEq]; done) | (simp only [zO, zHc, q_move, c1, c2, if_true, if_false, not_true_eq_false, not_false_eq_true, and_self, and_true, true_and, or_true, true_or, or_false, false_or, and_false, false_and, reduceCtorEq]; done)
  · first | contradiction | (simp only [zO, zHc, q_move, ep, c1, if_true, if_false, not_true_eq_false, not_false_eq_true, and_self, and_true, true_and, or_true, true_or, or_false, false_or, and_false, false_and, reduceCtorEq]; done) | (simp only [zO, zHc, q_move, c1, if_true, if_false, not_true_eq_false, not_false_eq_true, and_self, and_true, true_and, or_true, true_or, or_false, false_or, and_false, false_and, reduceCtorEq]; done)
def q_into (N : Nat → Int32) (F G : Nat → Nat → Int32) (K : Nat → Option Nat) (Z : Nat → Int64) (M A j w : Nat) : zQ :=
  if zst (G j) = true ∧ zst (G w) = true ∧ G j 6 = G w 6 ∧ ¬ K j = some w ∧ ¬ j = w ∧ zlw K j 4 (K w) = false ∧ nI (zdq G K w) + (nI (zmx (zqW K j) (zdq G K) (zdq G K j) M) - nI (zdq G K j) + 1) ≤ 5 then if N 4 + 1 ≤ 400 then
    .ok (none, upd N 4 (nI (A + 1)), zadd F A (nI j) 3 (N 3) (nI w), G, va_up K j (some w), Z)
  else .error 3 else .error 2
theorem c_into {j w : Nat} (hK : zKb K) (hM : N 1 = nI M) (hm : M ≤ 64) (hA : N 4 = nI A) (hA4 : A ≤ 400) (hj : j < M) (hw : w < M) : zMe sL sx 10 25 [.ref 0, .int (nI j), .int (nI w)] (zCs N F G K Z ++ tl) (zO (q_into N F G K Z M A j w)) (zHc (zCs N F G K Z ++ tl) tl (q_into N F G K Z M A j w)) := by
  have hj2 : j < 64 := by omega
  have hw2 : w < 64 := by omega
  show zR sL sx _ 25 0 [.ref 0, .int (nI j), .int (nI w), .retAddr 0, .retAddr 0] [] _ _ _
  refine zR_s rfl ?_
  refine zR_s rfl ?_
  first | refine zR_call rfl rfl rfl rfl (zcallok_v (zc0) rfl rfl) (m_unitOf hM hm hj) ?_ | refine zR_call rfl rfl rfl rfl (zcallok_v (zc0) rfl rfl) (m_unitOf hM hm hw) ?_
  refine zR_s rfl ?_
  refine zR_s rfl ?_
  refine zR_s rfl ?_
  first | refine zR_call rfl rfl rfl rfl (zcallok_v (zc0) rfl rfl) (m_unitOf hM hm hj) ?_ | refine zR_call rfl rfl rfl rfl (zcallok_v (zc0) rfl rfl) (m_unitOf hM hm hw) ?_
  refine zR_s rfl ?_
  refine zR_s rfl ?_
  refine zR_s rfl ?_
  refine zR_s rfl ?_
  refine zR_call rfl rfl rfl rfl (zcallok_v (zc0) rfl rfl) (m_canLieIn hK hM hm hj2 hw2) ?_
  first | refine zR_dt rfl rfl (fun c1 => ?_) (fun c1 => ?_) | refine zR_bt rfl rfl (fun c1 => ?_) (fun c1 => ?_) | refine zR_ifne rfl rfl (fun c1 => ?_) (fun c1 => ?_)
  · refine zR_s rfl ?_
    refine zR_cst (v := 1) rfl rfl rfl ?_
    refine zR_callt rfl rfl rfl rfl (zcallok_v (zc0) rfl rfl) rfl (m_needRows (by decide)) (fun c2 => ?_) (fun c2 => ?_)
    · have hA5 := zroom1 hA hA4 c2
      refine zR_s rfl ?_
      refine zR_s rfl ?_
      refine zR_putK (v := some w) rfl rfl hj2 rfl ?_
      refine zR_s rfl ?_
      refine zR_s rfl ?_
      refine zR_cst (v := 3) rfl rfl rfl ?_
      refine zR_s rfl ?_
      first | refine zR_get rfl rfl (zc0) rfl ?_ | refine zR_get rfl rfl (zcU hj2) rfl ?_ | refine zR_get rfl rfl (zcU hw2) rfl ?_
      refine zR_call rfl rfl rfl rfl (zcallok_v (zc0) rfl rfl) (m_addRow hj2 hA hA5) ?_
      refine zR_rete rfl rfl ?_ ?_
      all_goals (first | contradiction | (simp only [zO, zHc, q_into, c1, c2, if_true, if_false, not_true_eq_false, not_false_eq_true, and_self, and_true, true_and, or_true, true_or, or_false, false_or, and_false, false_and, reduceCtorEq]; done) | (simp only [zO, zHc, q_into, c1, c2, if_true, if_false, not_true_eq_false, not_false_eq_true, and_self, and_true, true_and, or_true, true_or, or_false, false_or, and_false, false_and, reduceCtorEq]; done))
    · first | contradiction | (simp only [zO, zHc, q_into, c1, c2, if_true, if_false, not_true_eq_false, not_false_eq_true, and_self, and_true, true_and, or_true, true_or, or_false, false_or, and_false, false_and, reduceCtorEq]; done) | (simp only [zO, zHc, q_into, c1, c2, if_true, if_false, not_true_eq_false, not_false_eq_true, and_self, and_true, true_and, or_true, true_or, or_false, false_or, and_false, false_and, reduceCtorEq]; done)
  · refine zR_throwe (by omega) rfl rfl rfl ?_ ?_
    all_goals (first | contradiction | (simp only [zO, zHc, q_into, c1, if_true, if_false, not_true_eq_false, not_false_eq_true, and_self, and_true, true_and, or_true, true_or, or_false, false_or, and_false, false_and, reduceCtorEq]; done) | (simp only [zO, zHc, q_into, c1, if_true, if_false, not_true_eq_false, not_false_eq_true, and_self, and_true, true_and, or_true, true_or, or_false, false_or, and_false, false_and, reduceCtorEq]; done))
end ZAC
end
section
/-! the class's acts, further -/
section ZAD
variable {sL : Nat} {sx : Nat → Int32} {N : Nat → Int32} {F G : Nat → Nat → Int32} {K : Nat → Option Nat} {Z : Nat → Int64} {tl : zH} {M A l i u : Nat}
theorem c_move_no {a p : Int32} (hM : N 1 = nI M) (hno : ¬ (0 ≤ a ∧ a ≤ nI M - 1)) : zMe sL sx 10 24 [.ref 0, .int a, .int p] (zCs N F G K Z ++ tl) (.threw 4) (zCs N F G K Z ++ tl ++ [(104, [])]) := by
  show zR sL sx _ 24 0 [.ref 0, .int a, .int p, .retAddr 0] [] _ _ _
  refine zR_s rfl ?_
  refine zR_s rfl ?_
  exact zR_callx rfl rfl rfl rfl (zcallok_v zc0 rfl rfl) rfl (m_unitOf_no hM (by decide) hno)
theorem c_out_no {a : Int32} (hM : N 1 = nI M) (hno : ¬ (0 ≤ a ∧ a ≤ nI M - 1)) : zMe sL sx 10 26 [.ref 0, .int a] (zCs N F G K Z ++ tl) (.threw 4) (zCs N F G K Z ++ tl ++ [(104, [])]) := by
  show zR sL sx _ 26 0 [.ref 0, .int a, .retAddr 0] [] _ _ _
  refine zR_s rfl ?_
  refine zR_s rfl ?_
  exact zR_callx rfl rfl rfl rfl (zcallok_v zc0 rfl rfl) rfl (m_unitOf_no hM (by decide) hno)
theorem c_split_no {a p : Int32} (hM : N 1 = nI M) (hno : ¬ (0 ≤ a ∧ a ≤ nI M - 1)) : zMe sL sx 10 27 [.ref 0, .int a, .int p] (zCs N F G K Z ++ tl) (.threw 4) (zCs N F G K Z ++ tl ++ [(104, [])]) := by
  show zR sL sx _ 27 0 [.ref 0, .int a, .int p, .retAddr 0, .retAddr 0] [] _ _ _
  refine zR_s rfl ?_
  refine zR_s rfl ?_
  exact zR_callx rfl rfl rfl rfl (zcallok_v zc0 rfl rfl) rfl (m_unitOf_no hM (by decide) hno)
theorem c_state_no {a p : Int32} (hM : N 1 = nI M) (hno : ¬ (0 ≤ a ∧ a ≤ nI M - 1)) : zMe sL sx 10 29 [.ref 0, .int a, .int p] (zCs N F G K Z ++ tl) (.threw 4) (zCs N F G K Z ++ tl ++ [(104, [])]) := by
  show zR sL sx _ 29 0 [.ref 0, .int a, .int p, .retAddr 0] [] _ _ _
  refine zR_s rfl ?_
  refine zR_s rfl ?_
  exact zR_callx rfl rfl rfl rfl (zcallok_v zc0 rfl rfl) rfl (m_unitOf_no hM (by decide) hno)
theorem c_lost_no {a p : Int32} (hM : N 1 = nI M) (hno : ¬ (0 ≤ a ∧ a ≤ nI M - 1)) : zMe sL sx 10 31 [.ref 0, .int a, .int p] (zCs N F G K Z ++ tl) (.threw 4) (zCs N F G K Z ++ tl ++ [(104, [])]) := by
  show zR sL sx _ 31 0 [.ref 0, .int a, .int p, .retAddr 0] [] _ _ _
  refine zR_s rfl ?_
  refine zR_s rfl ?_
  exact zR_callx rfl rfl rfl rfl (zcallok_v zc0 rfl rfl) rfl (m_unitOf_no hM (by decide) hno)
theorem c_found_no {a p : Int32} (hM : N 1 = nI M) (hno : ¬ (0 ≤ a ∧ a ≤ nI M - 1)) : zMe sL sx 10 32 [.ref 0, .int a, .int p] (zCs N F G K Z ++ tl) (.threw 4) (zCs N F G K Z ++ tl ++ [(104, [])]) := by
  show zR sL sx _ 32 0 [.ref 0, .int a, .int p, .retAddr 0] [] _ _ _
  refine zR_s rfl ?_
  refine zR_s rfl ?_
  exact zR_callx rfl rfl rfl rfl (zcallok_v zc0 rfl rfl) rfl (m_unitOf_no hM (by decide) hno)
theorem c_weigh_no {a p : Int32} (hM : N 1 = nI M) (hno : ¬ (0 ≤ a ∧ a ≤ nI M - 1)) : zMe sL sx 10 33 [.ref 0, .int a, .int p] (zCs N F G K Z ++ tl) (.threw 4) (zCs N F G K Z ++ tl ++ [(104, [])]) := by
  show zR sL sx _ 33 0 [.ref 0, .int a, .int p, .retAddr 0] [] _ _ _
  refine zR_s rfl ?_
  refine zR_s rfl ?_
  exact zR_callx rfl rfl rfl rfl (zcallok_v zc0 rfl rfl) rfl (m_unitOf_no hM (by decide) hno)
theorem c_told_no {a p : Int32} (hM : N 1 = nI M) (hno : ¬ (0 ≤ a ∧ a ≤ nI M - 1)) : zMe sL sx 10 39 [.ref 0, .int a, .int p] (zCs N F G K Z ++ tl) (.threw 4) (zCs N F G K Z ++ tl ++ [(104, [])]) := by
  show zR sL sx _ 39 0 [.ref 0, .int a, .int p, .retAddr 0] [] _ _ _
  refine zR_s rfl ?_
  refine zR_s rfl ?_
  exact zR_callx rfl rfl rfl rfl (zcallok_v zc0 rfl rfl) rfl (m_unitOf_no hM (by decide) hno)
theorem c_into_no {a p : Int32} (hM : N 1 = nI M) (hno : ¬ (0 ≤ a ∧ a ≤ nI M - 1)) : zMe sL sx 10 25 [.ref 0, .int a, .int p] (zCs N F G K Z ++ tl) (.threw 4) (zCs N F G K Z ++ tl ++ [(104, [])]) := by
  show zR sL sx _ 25 0 [.ref 0, .int a, .int p, .retAddr 0, .retAddr 0] [] _ _ _
  refine zR_s rfl ?_
  refine zR_s rfl ?_
  exact zR_callx rfl rfl rfl rfl (zcallok_v zc0 rfl rfl) rfl (m_unitOf_no hM (by decide) hno)
theorem c_join_no {a p : Int32} (hM : N 1 = nI M) (hno : ¬ (0 ≤ a ∧ a ≤ nI M - 1)) : zMe sL sx 10 28 [.ref 0, .int a, .int p] (zCs N F G K Z ++ tl) (.threw 4) (zCs N F G K Z ++ tl ++ [(104, [])]) := by
  show zR sL sx _ 28 0 [.ref 0, .int a, .int p, .retAddr 0, .retAddr 0] [] _ _ _
  refine zR_s rfl ?_
  refine zR_s rfl ?_
  exact zR_callx rfl rfl rfl rfl (zcallok_v zc0 rfl rfl) rfl (m_unitOf_no hM (by decide) hno)
theorem c_packed_no {a : Int32} (hM : N 1 = nI M) (hno : ¬ (0 ≤ a ∧ a ≤ nI M - 1)) : zMe sL sx 10 40 [.ref 0, .int a] (zCs N F G K Z ++ tl) (.threw 4) (zCs N F G K Z ++ tl ++ [(104, [])]) := by
  show zR sL sx _ 40 0 [.ref 0, .int a] [] _ _ _
  refine zR_s rfl ?_
  refine zR_s rfl ?_
  exact zR_callx rfl rfl rfl rfl (zcallok_v zc0 rfl rfl) rfl (m_unitOf_no hM (by decide) hno)
theorem c_row_no {a p w : Int32} (hM : N 1 = nI M) (hno : ¬ (0 ≤ a ∧ a ≤ nI M - 1)) : zMe sL sx 10 38 [.ref 0, .int a, .int p, .int w] (zCs N F G K Z ++ tl) (.threw 4) (zCs N F G K Z ++ tl ++ [(104, [])]) := by
  show zR sL sx _ 38 0 [.ref 0, .int a, .int p, .int w, .retAddr 0] [] _ _ _
  refine zR_s rfl ?_
  refine zR_get rfl rfl (zc0) rfl ?_
  refine zR_s rfl ?_
  refine zR_s rfl ?_
  exact zR_callx rfl rfl rfl rfl (zcallok_v zc0 rfl rfl) rfl (m_unitOf_no hM (by decide) hno)
theorem c_serial_no {a : Int32} {n : Int64} (hM : N 1 = nI M) (hno : ¬ (0 ≤ a ∧ a ≤ nI M - 1)) : zMe sL sx 10 30 [.ref 0, .int a, .long n] (zCs N F G K Z ++ tl) (.threw 4) (zCs N F G K Z ++ tl ++ [(104, [])]) := by
  show zR sL sx _ 30 0 [.ref 0, .int a, .long n, .retAddr 0, .retAddr 0] [] _ _ _
  refine zR_s rfl ?_
  refine zR_s rfl ?_
  exact zR_callx rfl rfl rfl rfl (zcallok_v zc0 rfl rfl) rfl (m_unitOf_no hM (by decide) hno)
theorem c_into_no2 {j : Nat} {a : Int32} (hM : N 1 = nI M) (hm : M ≤ 64) (hj : j < M) (hno : ¬ (0 ≤ a ∧ a ≤ nI M - 1)) : zMe sL sx 10 25 [.ref 0, .int (nI j), .int a] (zCs N F G K Z ++ tl) (.threw 4) (zCs N F G K Z ++ tl ++ [(104, [])]) := by
  show zR sL sx _ 25 0 [.ref 0, .int (nI j), .int a, .retAddr 0, .retAddr 0] [] _ _ _
  refine zR_s rfl ?_
  refine zR_s rfl ?_
  refine zR_call rfl rfl rfl rfl (zcallok_v (zc0) rfl rfl) (m_unitOf hM hm hj) ?_
  refine zR_s rfl ?_
  refine zR_s rfl ?_
  refine zR_s rfl ?_
  exact zR_callx rfl rfl rfl rfl (zcallok_v zc0 rfl rfl) rfl (m_unitOf_no hM (by decide) hno)
theorem c_join_no2 {j : Nat} {a : Int32} (hM : N 1 = nI M) (hm : M ≤ 64) (hj : j < M) (hno : ¬ (0 ≤ a ∧ a ≤ nI M - 1)) : zMe sL sx 10 28 [.ref 0, .int (nI j), .int a] (zCs N F G K Z ++ tl) (.threw 4) (zCs N F G K Z ++ tl ++ [(104, [])]) := by
  show zR sL sx _ 28 0 [.ref 0, .int (nI j), .int a, .retAddr 0, .retAddr 0] [] _ _ _
  refine zR_s rfl ?_
  refine zR_s rfl ?_
  refine zR_call rfl rfl rfl rfl (zcallok_v (zc0) rfl rfl) (m_unitOf hM hm hj) ?_
  refine zR_s rfl ?_
  refine zR_s rfl ?_
  refine zR_s rfl ?_
  exact zR_callx rfl rfl rfl rfl (zcallok_v zc0 rfl rfl) rfl (m_unitOf_no hM (by decide) hno)
def q_out (N : Nat → Int32) (F G : Nat → Nat → Int32) (K : Nat → Option Nat) (Z : Nat → Int64) (A j : Nat) : zQ :=
  if K j = none then .error 2 else if N 4 + 1 ≤ 400 then .ok (none, upd N 4 (nI (A + 1)), zadd F A (nI j) 4 (N 3) (G j 6), G, va_up K j none, Z) else .error 3
theorem c_out {j : Nat}  (hK : zKb K) (hM : N 1 = nI M) (hm : M ≤ 64) (hA : N 4 = nI A) (hA4 : A ≤ 400) (hj : j < M) : zMe sL sx 10 26 [.ref 0, .int (nI j)] (zCs N F G K Z ++ tl) (zO (q_out N F G K Z A j)) (zHc (zCs N F G K Z ++ tl) tl (q_out N F G K Z A j)) := by
  have hj2 : j < 64 := by omega
  show zR sL sx _ 26 0 [.ref 0, .int (nI j), .retAddr 0] [] _ _ _
  first | refine zR_s rfl ?_ | refine zR_alo rfl rfl rfl ?_
  refine zR_s rfl ?_
  refine zR_call rfl rfl rfl rfl (zcallok_v (zc0) rfl rfl) (m_unitOf hM hm hj) ?_
  first | refine zR_s rfl ?_ | refine zR_aso rfl rfl rfl ?_
  first | refine zR_s rfl ?_ | refine zR_alo rfl rfl rfl ?_
  first | refine zR_get rfl rfl (zc0) rfl ?_ | refine zR_get rfl rfl (zcU hj2) rfl ?_
  refine zR_nonnull1 rfl rfl (fun c1 => ?_) (fun c1 => ?_)
  · first | refine zR_s rfl ?_ | refine zR_alo rfl rfl rfl ?_
    refine zR_cst (v := 1) rfl rfl rfl ?_
    refine zR_callt rfl rfl rfl rfl (zcallok_v (zc0) rfl rfl) rfl (m_needRows (by decide)) (fun c2 => ?_) (fun c2 => ?_)
    · have hA5 := zroom1 hA hA4 c2
      first | refine zR_s rfl ?_ | refine zR_alo rfl rfl rfl ?_
      refine zR_nul rfl ?_
      refine zR_putK rfl rfl hj2 rfl ?_
      first | refine zR_s rfl ?_ | refine zR_alo rfl rfl rfl ?_
      first | refine zR_s rfl ?_ | refine zR_alo rfl rfl rfl ?_
      refine zR_cst (v := 4) rfl rfl rfl ?_
      first | refine zR_s rfl ?_ | refine zR_alo rfl rfl rfl ?_
      first | refine zR_get rfl rfl (zc0) rfl ?_ | refine zR_get rfl rfl (zcU hj2) rfl ?_
      refine zR_call rfl rfl rfl rfl (zcallok_v (zc0) rfl rfl) (m_addRow hj2 hA hA5) ?_
      refine zR_rete rfl rfl ?_ ?_
      all_goals (first | contradiction | (simp only [zO, zHc, q_out, c1, c2, if_true, if_false, not_true_eq_false, not_false_eq_true, and_self, and_true, true_and, or_true, true_or, or_false, false_or, and_false, false_and, reduceCtorEq, Bool.false_eq_true, Bool.true_eq_false, ite_self, eq_self]; done) | (simp only [zO, zHc, q_out, c1, c2, if_true, if_false, not_true_eq_false, not_false_eq_true, and_self, and_true, true_and, or_true, true_or, or_false, false_or, and_false, false_and, reduceCtorEq, Bool.false_eq_true, Bool.true_eq_false, ite_self, eq_self]; done))
    · first | contradiction | (simp only [zO, zHc, q_out, c1, c2, if_true, if_false, not_true_eq_false, not_false_eq_true, and_self, and_true, true_and, or_true, true_or, or_false, false_or, and_false, false_and, reduceCtorEq, Bool.false_eq_true, Bool.true_eq_false, ite_self, eq_self]; done) | (simp only [zO, zHc, q_out, c1, c2, if_true, if_false, not_true_eq_false, not_false_eq_true, and_self, and_true, true_and, or_true, true_or, or_false, false_or, and_false, false_and, reduceCtorEq, Bool.false_eq_true, Bool.true_eq_false, ite_self, eq_self]; done)
  · refine zR_throwe (by omega) rfl rfl rfl ?_ ?_
    all_goals (first | contradiction | (simp only [zO, zHc, q_out, c1, if_true, if_false, not_true_eq_false, not_false_eq_true, and_self, and_true, true_and, or_true, true_or, or_false, false_or, and_false, false_and, reduceCtorEq, Bool.false_eq_true, Bool.true_eq_false, ite_self, eq_self]; done) | (simp only [zO, zHc, q_out, c1, if_true, if_false, not_true_eq_false, not_false_eq_true, and_self, and_true, true_and, or_true, true_or, or_false, false_or, and_false, false_and, reduceCtorEq, Bool.false_eq_true, Bool.true_eq_false, ite_self, eq_self]; done))
def q_lost (N : Nat → Int32) (F G : Nat → Nat → Int32) (K : Nat → Option Nat) (Z : Nat → Int64) (M A j : Nat) (r : Int32) : zQ :=
  if 1 ≤ r ∧ r ≤ 9 then if zst (G j) = true then if N 4 + 1 ≤ 400 then .ok (none, upd N 4 (nI (A + 1)), zadd F A (nI j) 9 (N 3) r, ztak G K j 4 M, zKn (ztak G K j 4 M) K M, Z) else .error 3 else .error 2 else .error 1
theorem c_lost {j : Nat} {r : Int32}  (hK : zKb K) (hM : N 1 = nI M) (hm : M ≤ 64) (hA : N 4 = nI A) (hA4 : A ≤ 400) (hj : j < M) : zMe sL sx 10 31 [.ref 0, .int (nI j), .int r] (zCs N F G K Z ++ tl) (zO (q_lost N F G K Z M A j r)) (zHc (zCs N F G K Z ++ tl) tl (q_lost N F G K Z M A j r)) := by
  have hj2 : j < 64 := by omega
  show zR sL sx _ 31 0 [.ref 0, .int (nI j), .int r, .retAddr 0] [] _ _ _
  refine zR_s rfl ?_
  refine zR_s rfl ?_
  refine zR_call rfl rfl rfl rfl (zcallok_v (zc0) rfl rfl) (m_unitOf hM hm hj) ?_
  refine zR_s rfl ?_
  refine zR_s rfl ?_
  refine zR_cst (v := 1) rfl rfl rfl ?_
  refine zR_cst (v := 9) rfl rfl rfl ?_
  refine zR_callt rfl rfl rfl rfl (zcallok_s rfl) rfl (m_checkRange (by decide)) (fun c1 => ?_) (fun c1 => ?_)
  · refine zR_s rfl ?_
    refine zR_callt rfl rfl rfl rfl (zcallok_s rfl) rfl (m_checkStands (zcU hj2) (by decide)) (fun c2 => ?_) (fun c2 => ?_)
    · refine zR_s rfl ?_
      refine zR_cst (v := 1) rfl rfl rfl ?_
      refine zR_callt rfl rfl rfl rfl (zcallok_v (zc0) rfl rfl) rfl (m_needRows (by decide)) (fun c3 => ?_) (fun c3 => ?_)
      · have hA5 := zroom1 hA hA4 c3
        refine zR_s rfl ?_
        refine zR_s rfl ?_
        refine zR_cst (v := 4) rfl rfl rfl ?_
        refine zR_call rfl rfl rfl rfl (zcallok_v (zc0) rfl rfl) (m_takeAway hK hM hm) ?_
        refine zR_s rfl ?_
        refine zR_s rfl ?_
        refine zR_cst (v := 9) rfl rfl rfl ?_
        refine zR_s rfl ?_
        refine zR_call rfl rfl rfl rfl (zcallok_v (zc0) rfl rfl) (m_addRow hj2 hA hA5) ?_
        refine zR_rete rfl rfl ?_ ?_
        all_goals (first | contradiction | (simp only [zO, zHc, q_lost, c1, c2, c3, if_true, if_false, not_true_eq_false, not_false_eq_true, and_self, and_true, true_and, or_true, true_or, or_false, false_or, and_false, false_and, reduceCtorEq, Bool.false_eq_true, Bool.true_eq_false, ite_self, eq_self]; done) | (simp only [zO, zHc, q_lost, c1, c2, c3, if_true, if_false, not_true_eq_false, not_false_eq_true, and_self, and_true, true_and, or_true, true_or, or_false, false_or, and_false, false_and, reduceCtorEq, Bool.false_eq_true, Bool.true_eq_false, ite_self, eq_self]; done))
      · first | contradiction | (simp only [zO, zHc, q_lost, c1, c2, c3, if_true, if_false, not_true_eq_false, not_false_eq_true, and_self, and_true, true_and, or_true, true_or, or_false, false_or, and_false, false_and, reduceCtorEq, Bool.false_eq_true, Bool.true_eq_false, ite_self, eq_self]; done) | (simp only [zO, zHc, q_lost, c1, c2, c3, if_true, if_false, not_true_eq_false, not_false_eq_true, and_self, and_true, true_and, or_true, true_or, or_false, false_or, and_false, false_and, reduceCtorEq, Bool.false_eq_true, Bool.true_eq_false, ite_self, eq_self]; done)
    · first | contradiction | (simp only [zO, zHc, q_lost, c1, c2, if_true, if_false, not_true_eq_false, not_false_eq_true, and_self, and_true, true_and, or_true, true_or, or_false, false_or, and_false, false_and, reduceCtorEq, Bool.false_eq_true, Bool.true_eq_false, ite_self, eq_self]; done) | (simp only [zO, zHc, q_lost, c1, c2, if_true, if_false, not_true_eq_false, not_false_eq_true, and_self, and_true, true_and, or_true, true_or, or_false, false_or, and_false, false_and, reduceCtorEq, Bool.false_eq_true, Bool.true_eq_false, ite_self, eq_self]; done)
  · first | contradiction | (simp only [zO, zHc, q_lost, c1, if_true, if_false, not_true_eq_false, not_false_eq_true, and_self, and_true, true_and, or_true, true_or, or_false, false_or, and_false, false_and, reduceCtorEq, Bool.false_eq_true, Bool.true_eq_false, ite_self, eq_self]; done) | (simp only [zO, zHc, q_lost, c1, if_true, if_false, not_true_eq_false, not_false_eq_true, and_self, and_true, true_and, or_true, true_or, or_false, false_or, and_false, false_and, reduceCtorEq, Bool.false_eq_true, Bool.true_eq_false, ite_self, eq_self]; done)
def q_state (N : Nat → Int32) (F G : Nat → Nat → Int32) (K : Nat → Option Nat) (Z : Nat → Int64) (M A j : Nat) (r : Int32) : zQ :=
  if 0 ≤ r ∧ r ≤ 5 then if zbec (G j 5) (G j 2) r (N 3) = true then if N 4 + 1 ≤ 400 then if r = 5 then .ok (none, upd N 4 (nI (A + 1)), zadd F A (nI j) 7 (N 3) r, ztak G K j 5 M, zKn (ztak G K j 5 M) K M, Z) else .ok (none, upd N 4 (nI (A + 1)), zadd F A (nI j) 7 (N 3) r, updG G j 5 r, K, Z) else .error 3 else .error 2 else .error 1
theorem c_state {j : Nat} {r : Int32}  (hK : zKb K) (hM : N 1 = nI M) (hm : M ≤ 64) (hA : N 4 = nI A) (hA4 : A ≤ 400) (hj : j < M) : zMe sL sx 10 29 [.ref 0, .int (nI j), .int r] (zCs N F G K Z ++ tl) (zO (q_state N F G K Z M A j r)) (zHc (zCs N F G K Z ++ tl) tl (q_state N F G K Z M A j r)) := by
  have hj2 : j < 64 := by omega
  show zR sL sx _ 29 0 [.ref 0, .int (nI j), .int r, .retAddr 0] [] _ _ _
  refine zR_s rfl ?_
  refine zR_s rfl ?_
  refine zR_call rfl rfl rfl rfl (zcallok_v (zc0) rfl rfl) (m_unitOf hM hm hj) ?_
  refine zR_s rfl ?_
  refine zR_s rfl ?_
  refine zR_cst (v := 0) rfl rfl rfl ?_
  refine zR_cst (v := 5) rfl rfl rfl ?_
  refine zR_callt rfl rfl rfl rfl (zcallok_s rfl) rfl (m_checkRange (by decide)) (fun c1 => ?_) (fun c1 => ?_)
  · refine zR_s rfl ?_
    refine zR_s rfl ?_
    refine zR_s rfl ?_
    first | refine zR_get rfl rfl (zc0) rfl ?_ | refine zR_get rfl rfl (zcU hj2) rfl ?_
    refine zR_call rfl rfl rfl rfl (zcallok_v (zcU hj2) rfl rfl) (m_canBecome hj2) ?_
    first | refine zR_dt rfl rfl (fun c2 => ?_) (fun c2 => ?_) | refine zR_bt rfl rfl (fun c2 => ?_) (fun c2 => ?_) | refine zR_ifne rfl rfl (fun c2 => ?_) (fun c2 => ?_)
    · refine zR_s rfl ?_
      refine zR_cst (v := 1) rfl rfl rfl ?_
      refine zR_callt rfl rfl rfl rfl (zcallok_v (zc0) rfl rfl) rfl (m_needRows (by decide)) (fun c3 => ?_) (fun c3 => ?_)
      · have hA5 := zroom1 hA hA4 c3
        refine zR_s rfl ?_
        refine zR_cst (v := 5) rfl rfl rfl ?_
        refine zR_icne rfl rfl (fun c4 => ?_) (fun c4 => ?_)
        · refine zR_s rfl ?_
          refine zR_s rfl ?_
          refine zR_putG rfl rfl hj2 (by decide) rfl ?_
          refine zR_s rfl ?_
          refine zR_s rfl ?_
          refine zR_cst (v := 7) rfl rfl rfl ?_
          refine zR_s rfl ?_
          refine zR_call rfl rfl rfl rfl (zcallok_v (zc0) rfl rfl) (m_addRow hj2 hA hA5) ?_
          refine zR_rete rfl rfl ?_ ?_
          all_goals (first | contradiction | (simp only [zO, zHc, q_state, c1, c2, c3, c4, if_true, if_false, not_true_eq_false, not_false_eq_true, and_self, and_true, true_and, or_true, true_or, or_false, false_or, and_false, false_and, reduceCtorEq, Bool.false_eq_true, Bool.true_eq_false, ite_self, eq_self]; done) | (simp only [zO, zHc, q_state, c1, c2, c3, c4, if_true, if_false, not_true_eq_false, not_false_eq_true, and_self, and_true, true_and, or_true, true_or, or_false, false_or, and_false, false_and, reduceCtorEq, Bool.false_eq_true, Bool.true_eq_false, ite_self, eq_self]; done) | (simp only [zO, zHc, q_state, if_pos c1, if_pos c2, if_pos c3, if_pos c4]; done))
        · refine zR_s rfl ?_
          refine zR_s rfl ?_
          refine zR_cst (v := 5) rfl rfl rfl ?_
          refine zR_call rfl rfl rfl rfl (zcallok_v (zc0) rfl rfl) (m_takeAway hK hM hm) ?_
          refine zR_s rfl ?_
          refine zR_s rfl ?_
          refine zR_s rfl ?_
          refine zR_cst (v := 7) rfl rfl rfl ?_
          refine zR_s rfl ?_
          refine zR_call rfl rfl rfl rfl (zcallok_v (zc0) rfl rfl) (m_addRow hj2 hA hA5) ?_
          refine zR_rete rfl rfl ?_ ?_
          all_goals (first | contradiction | (simp only [zO, zHc, q_state, c1, c2, c3, c4, if_true, if_false, not_true_eq_false, not_false_eq_true, and_self, and_true, true_and, or_true, true_or, or_false, false_or, and_false, false_and, reduceCtorEq, Bool.false_eq_true, Bool.true_eq_false, ite_self, eq_self]; done) | (simp only [zO, zHc, q_state, c1, c2, c3, c4, if_true, if_false, not_true_eq_false, not_false_eq_true, and_self, and_true, true_and, or_true, true_or, or_false, false_or, and_false, false_and, reduceCtorEq, Bool.false_eq_true, Bool.true_eq_false, ite_self, eq_self]; done) | (simp only [zO, zHc, q_state, if_pos c1, if_pos c2, if_pos c3, if_pos c4]; done))
      · first | contradiction | (simp only [zO, zHc, q_state, c1, c2, c3, if_true, if_false, not_true_eq_false, not_false_eq_true, and_self, and_true, true_and, or_true, true_or, or_false, false_or, and_false, false_and, reduceCtorEq, Bool.false_eq_true, Bool.true_eq_false, ite_self, eq_self]; done) | (simp only [zO, zHc, q_state, c1, c2, c3, if_true, if_false, not_true_eq_false, not_false_eq_true, and_self, and_true, true_and, or_true, true_or, or_false, false_or, and_false, false_and, reduceCtorEq, Bool.false_eq_true, Bool.true_eq_false, ite_self, eq_self]; done) | (simp only [zO, zHc, q_state, if_pos c1, if_pos c2, if_pos c3, if_pos c4]; done)
    · refine zR_throwe (by omega) rfl rfl rfl ?_ ?_
      all_goals (first | contradiction | (simp only [zO, zHc, q_state, c1, c2, if_true, if_false, not_true_eq_false, not_false_eq_true, and_self, and_true, true_and, or_true, true_or, or_false, false_or, and_false, false_and, reduceCtorEq, Bool.false_eq_true, Bool.true_eq_false, ite_self, eq_self]; done) | (simp only [zO, zHc, q_state, c1, c2, if_true, if_false, not_true_eq_false, not_false_eq_true, and_self, and_true, true_and, or_true, true_or, or_false, false_or, and_false, false_and, reduceCtorEq, Bool.false_eq_true, Bool.true_eq_false, ite_self, eq_self]; done) | (simp only [zO, zHc, q_state, if_pos c1, if_pos c2, if_pos c3, if_pos c4]; done))
  · first | contradiction | (simp only [zO, zHc, q_state, c1, if_true, if_false, not_true_eq_false, not_false_eq_true, and_self, and_true, true_and, or_true, true_or, or_false, false_or, and_false, false_and, reduceCtorEq, Bool.false_eq_true, Bool.true_eq_false, ite_self, eq_self]; done) | (simp only [zO, zHc, q_state, c1, if_true, if_false, not_true_eq_false, not_false_eq_true, and_self, and_true, true_and, or_true, true_or, or_false, false_or, and_false, false_and, reduceCtorEq, Bool.false_eq_true, Bool.true_eq_false, ite_self, eq_self]; done) | (simp only [zO, zHc, q_state, if_pos c1, if_pos c2, if_pos c3, if_pos c4]; done)
def q_found (N : Nat → Int32) (F G : Nat → Nat → Int32) (K : Nat → Option Nat) (Z : Nat → Int64) (M A j : Nat) (p : Int32) : zQ :=
  if 0 ≤ p ∧ p ≤ 15 then if G j 5 = 4 then if N 4 + 1 ≤ 400 then if nI (zcnt (zqP G p) M) + 1 ≤ F 0 p.toNatClampNeg then .ok (none, upd N 4 (nI (A + 1)), zadd F A (nI j) 10 (N 3) p, updG (updG G j 5 (if G j 2 < N 3 then 3 else 1)) j 6 p, va_up K j none, Z) else .error 3 else .error 3 else .error 2 else .error 1
theorem c_found {j : Nat} {p : Int32}  (hK : zKb K) (hM : N 1 = nI M) (hm : M ≤ 64) (hA : N 4 = nI A) (hA4 : A ≤ 400) (hj : j < M) : zMe sL sx 10 32 [.ref 0, .int (nI j), .int p] (zCs N F G K Z ++ tl) (zO (q_found N F G K Z M A j p)) (zHc (zCs N F G K Z ++ tl) tl (q_found N F G K Z M A j p)) := by
  have hj2 : j < 64 := by omega
  show zR sL sx _ 32 0 [.ref 0, .int (nI j), .int p, .retAddr 0] [] _ _ _
  first | refine zR_s rfl ?_ | refine zR_alo rfl rfl rfl ?_
  refine zR_s rfl ?_
  refine zR_call rfl rfl rfl rfl (zcallok_v (zc0) rfl rfl) (m_unitOf hM hm hj) ?_
  first | refine zR_s rfl ?_ | refine zR_aso rfl rfl rfl ?_
  refine zR_s rfl ?_
  refine zR_callt rfl rfl rfl rfl (zcallok_s rfl) rfl (m_checkPlace (by decide)) (fun c1 => ?_) (fun c1 => ?_)
  · obtain ⟨p', hp, rfl, ep⟩ := zpl (n := 15) rfl (by decide) c1
    first | refine zR_s rfl ?_ | refine zR_alo rfl rfl rfl ?_
    first | refine zR_get rfl rfl (zc0) rfl ?_ | refine zR_get rfl rfl (zcU hj2) rfl ?_
    refine zR_cst (v := 4) rfl rfl rfl ?_
    refine zR_iceq rfl rfl (fun c2 => ?_) (fun c2 => ?_)
    · first | refine zR_s rfl ?_ | refine zR_alo rfl rfl rfl ?_
      refine zR_cst (v := 1) rfl rfl rfl ?_
      refine zR_callt rfl rfl rfl rfl (zcallok_v (zc0) rfl rfl) rfl (m_needRows (by decide)) (fun c3 => ?_) (fun c3 => ?_)
      · have hA5 := zroom1 hA hA4 c3
        first | refine zR_s rfl ?_ | refine zR_alo rfl rfl rfl ?_
        refine zR_s rfl ?_
        refine zR_cst (v := 1) rfl rfl rfl ?_
        refine zR_callt rfl rfl rfl rfl (zcallok_v (zc0) rfl rfl) rfl (m_needSpace hM hm (show p' < 16 by omega) (by decide)) (fun c4 => ?_) (fun c4 => ?_)
        · first | refine zR_s rfl ?_ | refine zR_alo rfl rfl rfl ?_
          first | refine zR_s rfl ?_ | refine zR_alo rfl rfl rfl ?_
          first | refine zR_s rfl ?_ | refine zR_alo rfl rfl rfl ?_
          first | refine zR_get rfl rfl (zc0) rfl ?_ | refine zR_get rfl rfl (zcU hj2) rfl ?_
          refine zR_call rfl rfl rfl rfl (zcallok_v (zcU hj2) rfl rfl) (m_isOver (zcU hj2)) ?_
          first | refine zR_df rfl rfl (fun c5 => ?_) (fun c5 => ?_) | refine zR_bf rfl rfl (fun c5 => ?_) (fun c5 => ?_) | refine zR_ifeq rfl rfl (fun c5 => ?_) (fun c5 => ?_)
          · refine zR_cst (v := 1) rfl rfl rfl ?_
            refine zR_s rfl ?_
            refine zR_nul rfl ?_
            refine zR_call rfl rfl rfl rfl (zcallok_v (zcU hj2) rfl rfl) (m_stand (c := none) hj2) ?_
            first | refine zR_s rfl ?_ | refine zR_alo rfl rfl rfl ?_
            first | refine zR_s rfl ?_ | refine zR_alo rfl rfl rfl ?_
            refine zR_cst (v := 10) rfl rfl rfl ?_
            refine zR_s rfl ?_
            refine zR_call rfl rfl rfl rfl (zcallok_v (zc0) rfl rfl) (m_addRow hj2 hA hA5) ?_
            refine zR_rete rfl rfl ?_ ?_
            all_goals (first | contradiction | (simp only [zO, zHc, q_found, ep, c1, c2, c3, c4, c5, if_true, if_false, not_true_eq_false, not_false_eq_true, and_self, and_true, true_and, or_true, true_or, or_false, false_or, and_false, false_and, reduceCtorEq, Bool.false_eq_true, Bool.true_eq_false, ite_self, eq_self]; done) | (simp only [zO, zHc, q_found, c1, c2, c3, c4, c5, if_true, if_false, not_true_eq_false, not_false_eq_true, and_self, and_true, true_and, or_true, true_or, or_false, false_or, and_false, false_and, reduceCtorEq, Bool.false_eq_true, Bool.true_eq_false, ite_self, eq_self]; done))
          · refine zR_cst (v := 3) rfl rfl rfl ?_
            refine zR_s rfl ?_
            refine zR_s rfl ?_
            refine zR_nul rfl ?_
            refine zR_call rfl rfl rfl rfl (zcallok_v (zcU hj2) rfl rfl) (m_stand (c := none) hj2) ?_
            first | refine zR_s rfl ?_ | refine zR_alo rfl rfl rfl ?_
            first | refine zR_s rfl ?_ | refine zR_alo rfl rfl rfl ?_
            refine zR_cst (v := 10) rfl rfl rfl ?_
            refine zR_s rfl ?_
            refine zR_call rfl rfl rfl rfl (zcallok_v (zc0) rfl rfl) (m_addRow hj2 hA hA5) ?_
            refine zR_rete rfl rfl ?_ ?_
            all_goals (first | contradiction | (simp only [zO, zHc, q_found, ep, c1, c2, c3, c4, c5, if_true, if_false, not_true_eq_false, not_false_eq_true, and_self, and_true, true_and, or_true, true_or, or_false, false_or, and_false, false_and, reduceCtorEq, Bool.false_eq_true, Bool.true_eq_false, ite_self, eq_self]; done) | (simp only [zO, zHc, q_found, c1, c2, c3, c4, c5, if_true, if_false, not_true_eq_false, not_false_eq_true, and_self, and_true, true_and, or_true, true_or, or_false, false_or, and_false, false_and, reduceCtorEq, Bool.false_eq_true, Bool.true_eq_false, ite_self, eq_self]; done))
        · first | contradiction | (simp only [zO, zHc, q_found, ep, c1, c2, c3, c4, if_true, if_false, not_true_eq_false, not_false_eq_true, and_self, and_true, true_and, or_true, true_or, or_false, false_or, and_false, false_and, reduceCtorEq, Bool.false_eq_true, Bool.true_eq_false, ite_self, eq_self]; done) | (simp only [zO, zHc, q_found, c1, c2, c3, c4, if_true, if_false, not_true_eq_false, not_false_eq_true, and_self, and_true, true_and, or_true, true_or, or_false, false_or, and_false, false_and, reduceCtorEq, Bool.false_eq_true, Bool.true_eq_false, ite_self, eq_self]; done)
      · first | contradiction | (simp only [zO, zHc, q_found, ep, c1, c2, c3, if_true, if_false, not_true_eq_false, not_false_eq_true, and_self, and_true, true_and, or_true, true_or, or_false, false_or, and_false, false_and, reduceCtorEq, Bool.false_eq_true, Bool.true_eq_false, ite_self, eq_self]; done) | (simp only [zO, zHc, q_found, c1, c2, c3, if_true, if_false, not_true_eq_false, not_false_eq_true, and_self, and_true, true_and, or_true, true_or, or_false, false_or, and_false, false_and, reduceCtorEq, Bool.false_eq_true, Bool.true_eq_false, ite_self, eq_self]; done)
    · refine zR_throwe (by omega) rfl rfl rfl ?_ ?_
      all_goals (first | contradiction | (simp only [zO, zHc, q_found, ep, c1, c2, if_true, if_false, not_true_eq_false, not_false_eq_true, and_self, and_true, true_and, or_true, true_or, or_false, false_or, and_false, false_and, reduceCtorEq, Bool.false_eq_true, Bool.true_eq_false, ite_self, eq_self]; done) | (simp only [zO, zHc, q_found, c1, c2, if_true, if_false, not_true_eq_false, not_false_eq_true, and_self, and_true, true_and, or_true, true_or, or_false, false_or, and_false, false_and, reduceCtorEq, Bool.false_eq_true, Bool.true_eq_false, ite_self, eq_self]; done))
  · first | contradiction | (simp only [zO, zHc, q_found, ep, c1, if_true, if_false, not_true_eq_false, not_false_eq_true, and_self, and_true, true_and, or_true, true_or, or_false, false_or, and_false, false_and, reduceCtorEq, Bool.false_eq_true, Bool.true_eq_false, ite_self, eq_self]; done) | (simp only [zO, zHc, q_found, c1, if_true, if_false, not_true_eq_false, not_false_eq_true, and_self, and_true, true_and, or_true, true_or, or_false, false_or, and_false, false_and, reduceCtorEq, Bool.false_eq_true, Bool.true_eq_false, ite_self, eq_self]; done)
def q_weigh (N : Nat → Int32) (F G : Nat → Nat → Int32) (K : Nat → Option Nat) (Z : Nat → Int64) (A j : Nat) (r : Int32) : zQ :=
  if 1 ≤ r ∧ r ≤ 100000000 then if zst (G j) = true then if N 4 + 1 ≤ 400 then .ok (some (.int (r - G j 4 * F 1 (G j 1).toNatClampNeg)), upd N 4 (nI (A + 1)), zadd F A (nI j) 11 (N 3) r, G, K, Z) else .error 3 else .error 2 else .error 1
theorem c_weigh {j : Nat} {r : Int32} {g : Nat}  (hK : zKb K) (hM : N 1 = nI M) (hm : M ≤ 64) (hA : N 4 = nI A) (hA4 : A ≤ 400) (hj : j < M) (hg : G j 1 = nI g) (hg2 : g < 8) : zMe sL sx 10 33 [.ref 0, .int (nI j), .int r] (zCs N F G K Z ++ tl) (zO (q_weigh N F G K Z A j r)) (zHc (zCs N F G K Z ++ tl) tl (q_weigh N F G K Z A j r)) := by
  have hj2 : j < 64 := by omega
  show zR sL sx _ 33 0 [.ref 0, .int (nI j), .int r, .retAddr 0] [] _ _ _
  have eg : (G j 1).toNatClampNeg = g := by rw [hg]; exact nI_clamp (by omega)
  refine zR_s rfl ?_
  refine zR_s rfl ?_
  refine zR_call rfl rfl rfl rfl (zcallok_v (zc0) rfl rfl) (m_unitOf hM hm hj) ?_
  refine zR_s rfl ?_
  refine zR_s rfl ?_
  refine zR_cst (v := 1) rfl rfl rfl ?_
  refine zR_ldc (v := 100000000) rfl rfl ?_
  refine zR_callt rfl rfl rfl rfl (zcallok_s rfl) rfl (m_checkRange (by decide)) (fun c1 => ?_) (fun c1 => ?_)
  · refine zR_s rfl ?_
    refine zR_callt rfl rfl rfl rfl (zcallok_s rfl) rfl (m_checkStands (zcU hj2) (by decide)) (fun c2 => ?_) (fun c2 => ?_)
    · refine zR_s rfl ?_
      refine zR_cst (v := 1) rfl rfl rfl ?_
      refine zR_callt rfl rfl rfl rfl (zcallok_v (zc0) rfl rfl) rfl (m_needRows (by decide)) (fun c3 => ?_) (fun c3 => ?_)
      · have hA5 := zroom1 hA hA4 c3
        refine zR_s rfl ?_
        refine zR_s rfl ?_
        refine zR_cst (v := 11) rfl rfl rfl ?_
        refine zR_s rfl ?_
        refine zR_call rfl rfl rfl rfl (zcallok_v (zc0) rfl rfl) (m_addRow hj2 hA hA5) ?_
        refine zR_s rfl ?_
        refine zR_s rfl ?_
        first | refine zR_get rfl rfl (zc0) rfl ?_ | refine zR_get rfl rfl (zcU hj2) rfl ?_
        refine zR_s rfl ?_
        refine zR_s rfl ?_
        first | refine zR_get rfl rfl (zc0) rfl ?_ | refine zR_get rfl rfl (zcU hj2) rfl ?_
        rw [hg]
        refine zR_call rfl rfl rfl rfl (zcallok_v (zc0) rfl rfl) (m_gramsOf hg2) ?_
        refine zR_imul rfl ?_
        refine zR_isub rfl ?_
        first | refine zR_rete rfl rfl ?_ ?_ | refine zR_retb rfl rfl ?_ ?_
        all_goals (first | contradiction | (simp only [zO, zHc, q_weigh, eg, c1, c2, c3, if_true, if_false, not_true_eq_false, not_false_eq_true, and_self, Bool.false_eq_true]; done) | (simp only [zO, zHc, q_weigh, eg, c1, c2, c3, if_true, if_false, not_true_eq_false, not_false_eq_true, and_self, Bool.false_eq_true]; rfl))
      · first | contradiction | (simp only [zO, zHc, q_weigh, eg, c1, c2, c3, if_true, if_false, not_true_eq_false, not_false_eq_true, and_self, Bool.false_eq_true]; done) | (simp only [zO, zHc, q_weigh, eg, c1, c2, c3, if_true, if_false, not_true_eq_false, not_false_eq_true, and_self, Bool.false_eq_true]; rfl)
    · first | contradiction | (simp only [zO, zHc, q_weigh, eg, c1, c2, if_true, if_false, not_true_eq_false, not_false_eq_true, and_self, Bool.false_eq_true]; done) | (simp only [zO, zHc, q_weigh, eg, c1, c2, if_true, if_false, not_true_eq_false, not_false_eq_true, and_self, Bool.false_eq_true]; rfl)
  · first | contradiction | (simp only [zO, zHc, q_weigh, eg, c1, if_true, if_false, not_true_eq_false, not_false_eq_true, and_self, Bool.false_eq_true]; done) | (simp only [zO, zHc, q_weigh, eg, c1, if_true, if_false, not_true_eq_false, not_false_eq_true, and_self, Bool.false_eq_true]; rfl)
def q_split (N : Nat → Int32) (F G : Nat → Nat → Int32) (K : Nat → Option Nat) (Z : Nat → Int64) (M A j : Nat) (n : Int32) : zQ :=
  if 1 ≤ n ∧ n ≤ G j 4 - 1 then if zst (G j) = true then if Z j = 0 ∧ zcnt (zqW K j) M = 0 then if N 4 + 2 ≤ 400 then if nI (zcnt (zqP G (G j 6)) M) + 1 ≤ F 0 (G j 6).toNatClampNeg then if ¬ N 2 ≤ N 1 ∧ M < 64 then
    let N1 := upd N 1 (nI (M + 1))
    let G1 := updG (updG (updG (updG (updG G M 0 (G j 0)) M 1 (G j 1)) M 2 (G j 2)) M 3 (G j 3)) M 4 n
    let G2 := updG (updG G1 M 5 (G1 j 5)) M 6 (G1 j 6)
    let G3 := updG G2 j 4 (G2 j 4 - n)
    .ok (some (.int (nI M)), upd (upd N1 4 (nI (A + 1))) 4 (nI (A + 1 + 1)), zadd (zadd F A (nI j) 5 (N1 3) (nI M)) (A + 1) (nI M) 1 (upd N1 4 (nI (A + 1)) 3) (G3 M 6), G3, va_up K M (K j), vp_updL Z M 0)
  else .error 3 else .error 3 else .error 3 else .error 2 else .error 2 else .error 1
theorem c_split {j : Nat} {n : Int32} {p : Nat}  (hK : zKb K) (hM : N 1 = nI M) (hm : M ≤ 64) (hA : N 4 = nI A) (hA4 : A ≤ 400) (hj : j < M) (hp : zst (G j) = true → G j 6 = nI p ∧ p < 16) : zMe sL sx 10 27 [.ref 0, .int (nI j), .int n] (zCs N F G K Z ++ tl) (zO (q_split N F G K Z M A j n)) (zHc (zCs N F G K Z ++ tl) tl (q_split N F G K Z M A j n)) := by
  have hj2 : j < 64 := by omega
  show zR sL sx _ 27 0 [.ref 0, .int (nI j), .int n, .retAddr 0, .retAddr 0] [] _ _ _
  first | refine zR_s rfl ?_ | refine zR_alo rfl rfl rfl ?_
  refine zR_s rfl ?_
  refine zR_call rfl rfl rfl rfl (zcallok_v (zc0) rfl rfl) (m_unitOf hM hm hj) ?_
  first | refine zR_s rfl ?_ | refine zR_aso rfl rfl rfl ?_
  refine zR_s rfl ?_
  refine zR_cst (v := 1) rfl rfl rfl ?_
  first | refine zR_s rfl ?_ | refine zR_alo rfl rfl rfl ?_
  first | refine zR_get rfl rfl (zc0) rfl ?_ | refine zR_get rfl rfl (zcU hj2) rfl ?_ | refine zR_get rfl rfl (zcU hM2) rfl ?_
  refine zR_cst (v := 1) rfl rfl rfl ?_
  refine zR_isub rfl ?_
  refine zR_callt rfl rfl rfl rfl (zcallok_s rfl) rfl (m_checkRange (by decide)) (fun c1 => ?_) (fun c1 => ?_)
  · first | refine zR_s rfl ?_ | refine zR_alo rfl rfl rfl ?_
    refine zR_callt rfl rfl rfl rfl (zcallok_s rfl) rfl (m_checkStands (zcU hj2) (by decide)) (fun c2 => ?_) (fun c2 => ?_)
    · have ep : (G j 6).toNatClampNeg = p := by { rw [(hp c2).1]; exact nI_clamp (by have := (hp c2).2; omega) }
      first | refine zR_s rfl ?_ | refine zR_alo rfl rfl rfl ?_
      first | refine zR_s rfl ?_ | refine zR_alo rfl rfl rfl ?_
      refine zR_call rfl rfl rfl rfl (zcallok_v (zc0) rfl rfl) (m_isPlain hK hM hm hj2) ?_
      first | refine zR_dt rfl rfl (fun c3 => ?_) (fun c3 => ?_) | refine zR_bt rfl rfl (fun c3 => ?_) (fun c3 => ?_) | refine zR_ifne rfl rfl (fun c3 => ?_) (fun c3 => ?_)
      · first | refine zR_s rfl ?_ | refine zR_alo rfl rfl rfl ?_
        refine zR_cst (v := 2) rfl rfl rfl ?_
        refine zR_callt rfl rfl rfl rfl (zcallok_v (zc0) rfl rfl) rfl (m_needRows (by decide)) (fun c4 => ?_) (fun c4 => ?_)
        · have hA5 := zroom2 hA hA4 c4
          first | refine zR_s rfl ?_ | refine zR_alo rfl rfl rfl ?_
          first | refine zR_s rfl ?_ | refine zR_alo rfl rfl rfl ?_
          first | refine zR_get rfl rfl (zc0) rfl ?_ | refine zR_get rfl rfl (zcU hj2) rfl ?_ | refine zR_get rfl rfl (zcU hM2) rfl ?_
          refine zR_cst (v := 1) rfl rfl rfl ?_
          rw [(hp c2).1]
          refine zR_callt rfl rfl rfl rfl (zcallok_v (zc0) rfl rfl) rfl (m_needSpace hM hm (hp c2).2 (by decide)) (fun c5 => ?_) (fun c5 => ?_)
          · rw [← (hp c2).1] at c5
            first | refine zR_s rfl ?_ | refine zR_alo rfl rfl rfl ?_
            refine zR_callt rfl rfl rfl rfl (zcallok_v (zc0) rfl rfl) rfl (m_nextUnit hM hm (by decide)) (fun c6 => ?_) (fun c6 => ?_)
            · have hM2 : M < 64 := c6.2
              first | refine zR_s rfl ?_ | refine zR_aso rfl rfl rfl ?_
              first | refine zR_s rfl ?_ | refine zR_alo rfl rfl rfl ?_
              first | refine zR_s rfl ?_ | refine zR_alo rfl rfl rfl ?_
              first | refine zR_get rfl rfl (zc0) rfl ?_ | refine zR_get rfl rfl (zcU hj2) rfl ?_ | refine zR_get rfl rfl (zcU hM2) rfl ?_
              first | refine zR_s rfl ?_ | refine zR_alo rfl rfl rfl ?_
              first | refine zR_get rfl rfl (zc0) rfl ?_ | refine zR_get rfl rfl (zcU hj2) rfl ?_ | refine zR_get rfl rfl (zcU hM2) rfl ?_
              first | refine zR_s rfl ?_ | refine zR_alo rfl rfl rfl ?_
              first | refine zR_get rfl rfl (zc0) rfl ?_ | refine zR_get rfl rfl (zcU hj2) rfl ?_ | refine zR_get rfl rfl (zcU hM2) rfl ?_
              first | refine zR_s rfl ?_ | refine zR_alo rfl rfl rfl ?_
              first | refine zR_get rfl rfl (zc0) rfl ?_ | refine zR_get rfl rfl (zcU hj2) rfl ?_ | refine zR_get rfl rfl (zcU hM2) rfl ?_
              refine zR_s rfl ?_
              refine zR_call rfl rfl rfl rfl (zcallok_v (zcU hM2) rfl rfl) (m_be hM2) ?_
              first | refine zR_s rfl ?_ | refine zR_alo rfl rfl rfl ?_
              first | refine zR_s rfl ?_ | refine zR_alo rfl rfl rfl ?_
              first | refine zR_get rfl rfl (zc0) rfl ?_ | refine zR_get rfl rfl (zcU hj2) rfl ?_ | refine zR_get rfl rfl (zcU hM2) rfl ?_
              first | refine zR_s rfl ?_ | refine zR_alo rfl rfl rfl ?_
              first | refine zR_get rfl rfl (zc0) rfl ?_ | refine zR_get rfl rfl (zcU hj2) rfl ?_ | refine zR_get rfl rfl (zcU hM2) rfl ?_
              first | refine zR_s rfl ?_ | refine zR_alo rfl rfl rfl ?_
              first | refine zR_get rfl rfl (zc0) rfl ?_ | refine zR_get rfl rfl (zcU hj2) rfl ?_ | refine zR_get rfl rfl (zcU hM2) rfl ?_
              refine zR_call rfl rfl rfl rfl (zcallok_v (zcU hM2) rfl (by cases (K j) <;> rfl)) (m_stand (c := K j) hM2) ?_
              first | refine zR_s rfl ?_ | refine zR_alo rfl rfl rfl ?_
              refine zR_s rfl ?_
              first | refine zR_get rfl rfl (zc0) rfl ?_ | refine zR_get rfl rfl (zcU hj2) rfl ?_ | refine zR_get rfl rfl (zcU hM2) rfl ?_
              refine zR_s rfl ?_
              refine zR_isub rfl ?_
              refine zR_putG rfl rfl hj2 (by decide) rfl ?_
              first | refine zR_s rfl ?_ | refine zR_alo rfl rfl rfl ?_
              first | refine zR_s rfl ?_ | refine zR_alo rfl rfl rfl ?_
              refine zR_cst (v := 5) rfl rfl rfl ?_
              first | refine zR_s rfl ?_ | refine zR_alo rfl rfl rfl ?_
              first | refine zR_get rfl rfl (zc0) rfl ?_ | refine zR_get rfl rfl (zcU hj2) rfl ?_ | refine zR_get rfl rfl (zcU hM2) rfl ?_
              first | refine zR_call rfl rfl rfl rfl (zcallok_v (zc0) rfl rfl) (m_addRow hj2 (show _ = nI A from hA) (show A < 400 by omega)) ?_ | refine zR_call rfl rfl rfl rfl (zcallok_v (zc0) rfl rfl) (m_addRow hM2 (show _ = nI (A + 1) from rfl) hA5) ?_
              first | refine zR_s rfl ?_ | refine zR_alo rfl rfl rfl ?_
              first | refine zR_s rfl ?_ | refine zR_alo rfl rfl rfl ?_
              refine zR_cst (v := 1) rfl rfl rfl ?_
              first | refine zR_s rfl ?_ | refine zR_alo rfl rfl rfl ?_
              first | refine zR_get rfl rfl (zc0) rfl ?_ | refine zR_get rfl rfl (zcU hj2) rfl ?_ | refine zR_get rfl rfl (zcU hM2) rfl ?_
              first | refine zR_call rfl rfl rfl rfl (zcallok_v (zc0) rfl rfl) (m_addRow hj2 (show _ = nI A from hA) (show A < 400 by omega)) ?_ | refine zR_call rfl rfl rfl rfl (zcallok_v (zc0) rfl rfl) (m_addRow hM2 (show _ = nI (A + 1) from rfl) hA5) ?_
              first | refine zR_s rfl ?_ | refine zR_alo rfl rfl rfl ?_
              first | refine zR_get rfl rfl (zc0) rfl ?_ | refine zR_get rfl rfl (zcU hj2) rfl ?_ | refine zR_get rfl rfl (zcU hM2) rfl ?_
              first | refine zR_rete rfl rfl ?_ ?_ | refine zR_retb rfl rfl ?_ ?_
              all_goals (first | contradiction | (simp only [zO, zHc, q_split, ep, c1, c2, c3, c4, c5, c6, if_true, if_false, not_true_eq_false, not_false_eq_true, and_self, Bool.false_eq_true]; done) | (rw [← (hp c2).1] at c5; simp only [zO, zHc, q_split, ep, c1, c2, c3, c4, c5, c6, if_true, if_false, not_true_eq_false, not_false_eq_true, and_self, Bool.false_eq_true]; done) | (simp only [zO, zHc, q_split, c1, c2, c3, c4, c5, c6, if_true, if_false, not_true_eq_false, not_false_eq_true, and_self, Bool.false_eq_true]; done))
            · first | contradiction | (simp only [zO, zHc, q_split, ep, c1, c2, c3, c4, c5, c6, if_true, if_false, not_true_eq_false, not_false_eq_true, and_self, Bool.false_eq_true]; done) | (rw [← (hp c2).1] at c5; simp only [zO, zHc, q_split, ep, c1, c2, c3, c4, c5, c6, if_true, if_false, not_true_eq_false, not_false_eq_true, and_self, Bool.false_eq_true]; done) | (simp only [zO, zHc, q_split, c1, c2, c3, c4, c5, c6, if_true, if_false, not_true_eq_false, not_false_eq_true, and_self, Bool.false_eq_true]; done)
          · first | contradiction | (simp only [zO, zHc, q_split, ep, c1, c2, c3, c4, c5, if_true, if_false, not_true_eq_false, not_false_eq_true, and_self, Bool.false_eq_true]; done) | (rw [← (hp c2).1] at c5; simp only [zO, zHc, q_split, ep, c1, c2, c3, c4, c5, if_true, if_false, not_true_eq_false, not_false_eq_true, and_self, Bool.false_eq_true]; done) | (simp only [zO, zHc, q_split, c1, c2, c3, c4, c5, if_true, if_false, not_true_eq_false, not_false_eq_true, and_self, Bool.false_eq_true]; done)
        · first | contradiction | (simp only [zO, zHc, q_split, ep, c1, c2, c3, c4, if_true, if_false, not_true_eq_false, not_false_eq_true, and_self, Bool.false_eq_true]; done) | (rw [← (hp c2).1] at c5; simp only [zO, zHc, q_split, ep, c1, c2, c3, c4, if_true, if_false, not_true_eq_false, not_false_eq_true, and_self, Bool.false_eq_true]; done) | (simp only [zO, zHc, q_split, c1, c2, c3, c4, if_true, if_false, not_true_eq_false, not_false_eq_true, and_self, Bool.false_eq_true]; done)
      · refine zR_throwe (by omega) rfl rfl rfl ?_ ?_
        all_goals (first | contradiction | (simp only [zO, zHc, q_split, ep, c1, c2, c3, if_true, if_false, not_true_eq_false, not_false_eq_true, and_self, Bool.false_eq_true]; done) | (rw [← (hp c2).1] at c5; simp only [zO, zHc, q_split, ep, c1, c2, c3, if_true, if_false, not_true_eq_false, not_false_eq_true, and_self, Bool.false_eq_true]; done) | (simp only [zO, zHc, q_split, c1, c2, c3, if_true, if_false, not_true_eq_false, not_false_eq_true, and_self, Bool.false_eq_true]; done))
    · first | contradiction | (simp only [zO, zHc, q_split, ep, c1, c2, if_true, if_false, not_true_eq_false, not_false_eq_true, and_self, Bool.false_eq_true]; done) | (rw [← (hp c2).1] at c5; simp only [zO, zHc, q_split, ep, c1, c2, if_true, if_false, not_true_eq_false, not_false_eq_true, and_self, Bool.false_eq_true]; done) | (simp only [zO, zHc, q_split, c1, c2, if_true, if_false, not_true_eq_false, not_false_eq_true, and_self, Bool.false_eq_true]; done)
  · first | contradiction | (simp only [zO, zHc, q_split, ep, c1, if_true, if_false, not_true_eq_false, not_false_eq_true, and_self, Bool.false_eq_true]; done) | (rw [← (hp c2).1] at c5; simp only [zO, zHc, q_split, ep, c1, if_true, if_false, not_true_eq_false, not_false_eq_true, and_self, Bool.false_eq_true]; done) | (simp only [zO, zHc, q_split, c1, if_true, if_false, not_true_eq_false, not_false_eq_true, and_self, Bool.false_eq_true]; done)
def q_join (N : Nat → Int32) (F G : Nat → Nat → Int32) (K : Nat → Option Nat) (Z : Nat → Int64) (M A j w : Nat) : zQ :=
  if ¬ j = w ∧ zst (G j) = true ∧ zst (G w) = true ∧ (G j 0 = G w 0 ∧ G j 3 = G w 3 ∧ G j 5 = G w 5 ∧ G j 6 = G w 6 ∧ K j = K w) ∧ (Z j = 0 ∧ zcnt (zqW K j) M = 0) ∧ (Z w = 0 ∧ zcnt (zqW K w) M = 0) ∧ G j 4 + G w 4 ≤ 1000 then if N 4 + 2 ≤ 400 then
    let G1 := updG G j 4 (G j 4 + G w 4)
    .ok (none, upd (upd N 4 (nI (A + 1))) 4 (nI (A + 1 + 1)), zadd (zadd F A (nI j) 6 (N 3) (nI w)) (A + 1) (nI w) 6 (upd N 4 (nI (A + 1)) 3) (nI j), ztak G1 K w 5 M, zKn (ztak G1 K w 5 M) K M, Z)
  else .error 3 else .error 2
theorem c_join {j : Nat} {w : Nat}  (hK : zKb K) (hM : N 1 = nI M) (hm : M ≤ 64) (hA : N 4 = nI A) (hA4 : A ≤ 400) (hj : j < M) (hw : w < M) : zMe sL sx 10 28 [.ref 0, .int (nI j), .int (nI w)] (zCs N F G K Z ++ tl) (zO (q_join N F G K Z M A j w)) (zHc (zCs N F G K Z ++ tl) tl (q_join N F G K Z M A j w)) := by
  have hj2 : j < 64 := by omega
  show zR sL sx _ 28 0 [.ref 0, .int (nI j), .int (nI w), .retAddr 0, .retAddr 0] [] _ _ _
  have hw2 : w < 64 := by omega
  refine zR_s rfl ?_
  refine zR_s rfl ?_
  first | refine zR_call rfl rfl rfl rfl (zcallok_v (zc0) rfl rfl) (m_unitOf hM hm hj) ?_ | refine zR_call rfl rfl rfl rfl (zcallok_v (zc0) rfl rfl) (m_unitOf hM hm hw) ?_
  refine zR_s rfl ?_
  refine zR_s rfl ?_
  refine zR_s rfl ?_
  first | refine zR_call rfl rfl rfl rfl (zcallok_v (zc0) rfl rfl) (m_unitOf hM hm hj) ?_ | refine zR_call rfl rfl rfl rfl (zcallok_v (zc0) rfl rfl) (m_unitOf hM hm hw) ?_
  refine zR_s rfl ?_
  refine zR_s rfl ?_
  refine zR_s rfl ?_
  refine zR_s rfl ?_
  refine zR_call rfl rfl rfl rfl (zcallok_v (zc0) rfl rfl) (m_canJoin hK hM hm hj2 hw2) ?_
  first | refine zR_dt rfl rfl (fun c1 => ?_) (fun c1 => ?_) | refine zR_bt rfl rfl (fun c1 => ?_) (fun c1 => ?_) | refine zR_ifne rfl rfl (fun c1 => ?_) (fun c1 => ?_)
  · refine zR_s rfl ?_
    refine zR_cst (v := 2) rfl rfl rfl ?_
    refine zR_callt rfl rfl rfl rfl (zcallok_v (zc0) rfl rfl) rfl (m_needRows (by decide)) (fun c2 => ?_) (fun c2 => ?_)
    · have hA5 := zroom2 hA hA4 c2
      refine zR_s rfl ?_
      refine zR_s rfl ?_
      first | refine zR_get rfl rfl (zc0) rfl ?_ | refine zR_get rfl rfl (zcU hj2) rfl ?_ | refine zR_get rfl rfl (zcU hw2) rfl ?_
      refine zR_s rfl ?_
      first | refine zR_get rfl rfl (zc0) rfl ?_ | refine zR_get rfl rfl (zcU hj2) rfl ?_ | refine zR_get rfl rfl (zcU hw2) rfl ?_
      refine zR_iadd rfl ?_
      refine zR_putG rfl rfl hj2 (by decide) rfl ?_
      refine zR_s rfl ?_
      refine zR_s rfl ?_
      refine zR_cst (v := 5) rfl rfl rfl ?_
      refine zR_call rfl rfl rfl rfl (zcallok_v (zc0) rfl rfl) (m_takeAway hK hM hm) ?_
      refine zR_s rfl ?_
      refine zR_s rfl ?_
      refine zR_cst (v := 6) rfl rfl rfl ?_
      refine zR_s rfl ?_
      first | refine zR_get rfl rfl (zc0) rfl ?_ | refine zR_get rfl rfl (zcU hj2) rfl ?_ | refine zR_get rfl rfl (zcU hw2) rfl ?_
      first | refine zR_call rfl rfl rfl rfl (zcallok_v (zc0) rfl rfl) (m_addRow hj2 hA (show A < 400 by omega)) ?_ | refine zR_call rfl rfl rfl rfl (zcallok_v (zc0) rfl rfl) (m_addRow hw2 (show _ = nI (A + 1) from rfl) hA5) ?_
      refine zR_s rfl ?_
      refine zR_s rfl ?_
      refine zR_cst (v := 6) rfl rfl rfl ?_
      refine zR_s rfl ?_
      first | refine zR_get rfl rfl (zc0) rfl ?_ | refine zR_get rfl rfl (zcU hj2) rfl ?_ | refine zR_get rfl rfl (zcU hw2) rfl ?_
      first | refine zR_call rfl rfl rfl rfl (zcallok_v (zc0) rfl rfl) (m_addRow hj2 hA (show A < 400 by omega)) ?_ | refine zR_call rfl rfl rfl rfl (zcallok_v (zc0) rfl rfl) (m_addRow hw2 (show _ = nI (A + 1) from rfl) hA5) ?_
      refine zR_rete rfl rfl ?_ ?_
      all_goals (first | contradiction | (simp only [zO, zHc, q_join, if_pos c1, if_pos c2]; done) | (simp only [zO, zHc, q_join, if_pos c1, if_neg c2, and_self]; done) | (simp only [zO, zHc, q_join, if_neg c1]; done))
    · first | contradiction | (simp only [zO, zHc, q_join, if_pos c1, if_pos c2]; done) | (simp only [zO, zHc, q_join, if_pos c1, if_neg c2, and_self]; done) | (simp only [zO, zHc, q_join, if_neg c1]; done)
  · refine zR_throwe (by omega) rfl rfl rfl ?_ ?_
    all_goals (first | contradiction | (simp only [zO, zHc, q_join, if_pos c1, if_pos c2]; done) | (simp only [zO, zHc, q_join, if_pos c1, if_neg c2, and_self]; done) | (simp only [zO, zHc, q_join, if_neg c1]; done))
noncomputable def q_serial (N : Nat → Int32) (F G : Nat → Nat → Int32) (K : Nat → Option Nat) (Z : Nat → Int64) (M A j : Nat) (n : Int64) : zQ :=
  if 1 ≤ n ∧ n ≤ 9999999999 then if zst (G j) = true then if G j 4 ≤ 1 ∧ Z j = 0 ∧ @decide (∃ i, i < M ∧ Z i = n ∧ ¬ G i 5 = 5) (Classical.propDecidable _) = false then if N 4 + 1 ≤ 400 then .ok (none, upd N 4 (nI (A + 1)), zadd F A (nI j) 8 (N 3) 0, G, K, vp_updL Z j n) else .error 3 else .error 2 else .error 2 else .error 1
theorem c_serial {j : Nat} {n : Int64}  (hK : zKb K) (hM : N 1 = nI M) (hm : M ≤ 64) (hA : N 4 = nI A) (hA4 : A ≤ 400) (hj : j < M) : zMe sL sx 10 30 [.ref 0, .int (nI j), .long n] (zCs N F G K Z ++ tl) (zO (q_serial N F G K Z M A j n)) (zHc (zCs N F G K Z ++ tl) tl (q_serial N F G K Z M A j n)) := by
  have hj2 : j < 64 := by omega
  show zR sL sx _ 30 0 [.ref 0, .int (nI j), .long n, .retAddr 0, .retAddr 0] [] _ _ _
  refine zR_s rfl ?_
  refine zR_s rfl ?_
  refine zR_call rfl rfl rfl rfl (zcallok_v (zc0) rfl rfl) (m_unitOf hM hm hj) ?_
  refine zR_s rfl ?_
  refine zR_s rfl ?_
  refine zR_lc (v := 1) rfl rfl ?_
  refine zR_s rfl ?_
  refine zR_llt rfl rfl (fun c1 => ?_) (fun c1 => ?_)
  · refine zR_throwe (by omega) rfl rfl rfl ?_ ?_
    all_goals (first | contradiction | (simp only [zO, zHc, q_serial, decide_true, decide_false, Bool.true_eq_false, Bool.false_eq_true, not_exists, c1, if_true, if_false, not_true_eq_false, not_false_eq_true, and_self, and_true, true_and, or_true, true_or, or_false, false_or, and_false, false_and, reduceCtorEq, Bool.false_eq_true, Bool.true_eq_false, ite_self, eq_self]; done) | (simp only [zO, zHc, q_serial, c1, if_true, if_false, not_true_eq_false, not_false_eq_true, and_self, and_true, true_and, or_true, true_or, or_false, false_or, and_false, false_and, reduceCtorEq, Bool.false_eq_true, Bool.true_eq_false, ite_self, eq_self]; done))
  · refine zR_s rfl ?_
    refine zR_ldc2 (v := 9999999999) rfl rfl ?_
    refine zR_s rfl ?_
    refine zR_lle rfl rfl (fun c2 => ?_) (fun c2 => ?_)
    · refine zR_s rfl ?_
      refine zR_callt rfl rfl rfl rfl (zcallok_s rfl) rfl (m_checkStands (zcU hj2) (by decide)) (fun c3 => ?_) (fun c3 => ?_)
      · refine zR_s rfl ?_
        first | refine zR_get rfl rfl (zc0) rfl ?_ | refine zR_get rfl rfl (zcU hj2) rfl ?_
        refine zR_cst (v := 1) rfl rfl rfl ?_
        refine zR_mgt rfl rfl (fun c4 => ?_) (fun c4 => ?_)
        · refine zR_throwe (by omega) rfl rfl rfl ?_ ?_
          all_goals (first | contradiction | (simp only [zO, zHc, q_serial, decide_true, decide_false, Bool.true_eq_false, Bool.false_eq_true, not_exists, c1, c2, c3, c4, if_true, if_false, not_true_eq_false, not_false_eq_true, and_self, and_true, true_and, or_true, true_or, or_false, false_or, and_false, false_and, reduceCtorEq, Bool.false_eq_true, Bool.true_eq_false, ite_self, eq_self]; done) | (simp only [zO, zHc, q_serial, c1, c2, c3, c4, if_true, if_false, not_true_eq_false, not_false_eq_true, and_self, and_true, true_and, or_true, true_or, or_false, false_or, and_false, false_and, reduceCtorEq, Bool.false_eq_true, Bool.true_eq_false, ite_self, eq_self]; done))
        · refine zR_s rfl ?_
          first | refine zR_get rfl rfl (zc0) rfl ?_ | refine zR_get rfl rfl (zcU hj2) rfl ?_
          refine zR_lc (v := 0) rfl rfl ?_
          refine zR_s rfl ?_
          first | refine zR_dt rfl rfl (fun c5 => ?_) (fun c5 => ?_) | refine zR_bt rfl rfl (fun c5 => ?_) (fun c5 => ?_) | refine zR_lne rfl rfl (fun c5 => ?_) (fun c5 => ?_)
          · refine zR_throwe (by omega) rfl rfl rfl ?_ ?_
            all_goals (first | contradiction | (simp only [zO, zHc, q_serial, decide_true, decide_false, Bool.true_eq_false, Bool.false_eq_true, not_exists, c1, c2, c3, c4, c5, if_true, if_false, not_true_eq_false, not_false_eq_true, and_self, and_true, true_and, or_true, true_or, or_false, false_or, and_false, false_and, reduceCtorEq, Bool.false_eq_true, Bool.true_eq_false, ite_self, eq_self]; done) | (simp only [zO, zHc, q_serial, c1, c2, c3, c4, c5, if_true, if_false, not_true_eq_false, not_false_eq_true, and_self, and_true, true_and, or_true, true_or, or_false, false_or, and_false, false_and, reduceCtorEq, Bool.false_eq_true, Bool.true_eq_false, ite_self, eq_self]; done))
          · refine zR_s rfl ?_
            refine zR_s rfl ?_
            refine zR_call rfl rfl rfl rfl (zcallok_v (zc0) rfl rfl) (m_isSerialInUse hM hm) ?_
            first | refine zR_df rfl rfl (fun c6 => ?_) (fun c6 => ?_) | refine zR_bf rfl rfl (fun c6 => ?_) (fun c6 => ?_) | refine zR_ifeq rfl rfl (fun c6 => ?_) (fun c6 => ?_)
            · refine zR_s rfl ?_
              refine zR_cst (v := 1) rfl rfl rfl ?_
              refine zR_callt rfl rfl rfl rfl (zcallok_v (zc0) rfl rfl) rfl (m_needRows (by decide)) (fun c7 => ?_) (fun c7 => ?_)
              · have hA5 := zroom1 hA hA4 c7
                refine zR_s rfl ?_
                refine zR_s rfl ?_
                refine zR_putZ rfl rfl hj2 rfl ?_
                refine zR_s rfl ?_
                refine zR_s rfl ?_
                refine zR_cst (v := 8) rfl rfl rfl ?_
                refine zR_cst (v := 0) rfl rfl rfl ?_
                refine zR_call rfl rfl rfl rfl (zcallok_v (zc0) rfl rfl) (m_addRow hj2 hA hA5) ?_
                refine zR_rete rfl rfl ?_ ?_
                all_goals (first | contradiction | (simp only [zO, zHc, q_serial, decide_true, decide_false, Bool.true_eq_false, Bool.false_eq_true, not_exists, c1, c2, c3, c4, c5, c6, c7, if_true, if_false, not_true_eq_false, not_false_eq_true, and_self, and_true, true_and, or_true, true_or, or_false, false_or, and_false, false_and, reduceCtorEq, Bool.false_eq_true, Bool.true_eq_false, ite_self, eq_self]; done) | (simp only [zO, zHc, q_serial, c1, c2, c3, c4, c5, c6, c7, if_true, if_false, not_true_eq_false, not_false_eq_true, and_self, and_true, true_and, or_true, true_or, or_false, false_or, and_false, false_and, reduceCtorEq, Bool.false_eq_true, Bool.true_eq_false, ite_self, eq_self]; done))
              · first | contradiction | (simp only [zO, zHc, q_serial, decide_true, decide_false, Bool.true_eq_false, Bool.false_eq_true, not_exists, c1, c2, c3, c4, c5, c6, c7, if_true, if_false, not_true_eq_false, not_false_eq_true, and_self, and_true, true_and, or_true, true_or, or_false, false_or, and_false, false_and, reduceCtorEq, Bool.false_eq_true, Bool.true_eq_false, ite_self, eq_self]; done) | (simp only [zO, zHc, q_serial, c1, c2, c3, c4, c5, c6, c7, if_true, if_false, not_true_eq_false, not_false_eq_true, and_self, and_true, true_and, or_true, true_or, or_false, false_or, and_false, false_and, reduceCtorEq, Bool.false_eq_true, Bool.true_eq_false, ite_self, eq_self]; done)
            · refine zR_throwe (by omega) rfl rfl rfl ?_ ?_
              all_goals (first | contradiction | (simp only [zO, zHc, q_serial, decide_true, decide_false, Bool.true_eq_false, Bool.false_eq_true, not_exists, c1, c2, c3, c4, c5, c6, if_true, if_false, not_true_eq_false, not_false_eq_true, and_self, and_true, true_and, or_true, true_or, or_false, false_or, and_false, false_and, reduceCtorEq, Bool.false_eq_true, Bool.true_eq_false, ite_self, eq_self]; done) | (simp only [zO, zHc, q_serial, c1, c2, c3, c4, c5, c6, if_true, if_false, not_true_eq_false, not_false_eq_true, and_self, and_true, true_and, or_true, true_or, or_false, false_or, and_false, false_and, reduceCtorEq, Bool.false_eq_true, Bool.true_eq_false, ite_self, eq_self]; done))
      · first | contradiction | (simp only [zO, zHc, q_serial, decide_true, decide_false, Bool.true_eq_false, Bool.false_eq_true, not_exists, c1, c2, c3, if_true, if_false, not_true_eq_false, not_false_eq_true, and_self, and_true, true_and, or_true, true_or, or_false, false_or, and_false, false_and, reduceCtorEq, Bool.false_eq_true, Bool.true_eq_false, ite_self, eq_self]; done) | (simp only [zO, zHc, q_serial, c1, c2, c3, if_true, if_false, not_true_eq_false, not_false_eq_true, and_self, and_true, true_and, or_true, true_or, or_false, false_or, and_false, false_and, reduceCtorEq, Bool.false_eq_true, Bool.true_eq_false, ite_self, eq_self]; done)
    · refine zR_throwe (by omega) rfl rfl rfl ?_ ?_
      all_goals (first | contradiction | (simp only [zO, zHc, q_serial, decide_true, decide_false, Bool.true_eq_false, Bool.false_eq_true, not_exists, c1, c2, if_true, if_false, not_true_eq_false, not_false_eq_true, and_self, and_true, true_and, or_true, true_or, or_false, false_or, and_false, false_and, reduceCtorEq, Bool.false_eq_true, Bool.true_eq_false, ite_self, eq_self]; done) | (simp only [zO, zHc, q_serial, c1, c2, if_true, if_false, not_true_eq_false, not_false_eq_true, and_self, and_true, true_and, or_true, true_or, or_false, false_or, and_false, false_and, reduceCtorEq, Bool.false_eq_true, Bool.true_eq_false, ite_self, eq_self]; done))
end ZAD
end
section
/-! the class's reads, and the day -/
/-- the first place below n that p holds at and that comes as the w-th -/
def zfst (p : Nat → Bool) (w : Int32) : Nat → Option Nat
  | 0 => none
  | n + 1 => match zfst p w n with
    | some r => some r
    | none => bif p n && decide (nI (zcnt p n) = w) then some n else none
theorem zfst_f {p : Nat → Bool} {w : Int32} {j : Nat} (h : zfst p w j = none) (e : p j = false) : zfst p w (j + 1) = none := by simp [zfst, h, e]
theorem zfst_n {p : Nat → Bool} {w : Int32} {j : Nat} (h : zfst p w j = none) (e : ¬ nI (zcnt p j) = w) : zfst p w (j + 1) = none := by simp [zfst, h, e]
theorem zfst_up {p : Nat → Bool} {w : Int32} {j r : Nat} (h : zfst p w j = some r) : ∀ M, j ≤ M → zfst p w M = some r := by
  intro M hM
  induction M with
  | zero => have : j = 0 := by omega
            subst this; exact h
  | succ m ih =>
    by_cases e : j = m + 1
    · subst e; exact h
    · simp [zfst, ih (by omega)]
theorem zfst_t {p : Nat → Bool} {w : Int32} {j M : Nat} (h : zfst p w j = none) (e : p j = true) (q : nI (zcnt p j) = w) (hj : j < M) : zfst p w M = some j := zfst_up (j := j + 1) (by simp [zfst, h, e, q]) M (by omega)
theorem zfst_lt {p : Nat → Bool} {w : Int32} : ∀ {n r : Nat}, zfst p w n = some r → r < n ∧ p r = true ∧ nI (zcnt p r) = w := by
  intro n
  induction n with
  | zero => intro r h; simp [zfst] at h
  | succ n ih =>
    intro r h
    simp only [zfst] at h
    cases hq : zfst p w n with
    | some r2 => rw [hq] at h; have := ih hq; cases h; exact ⟨by omega, this.2⟩
    | none =>
      rw [hq] at h
      simp only at h
      cases hb : (p n && decide (nI (zcnt p n) = w)) with
      | false => rw [hb] at h; simp at h
      | true =>
        rw [hb] at h
        simp at h
        subst h
        simp at hb
        exact ⟨by omega, hb⟩
def zsk : Option Nat → Int32
  | some r => nI r
  | none => -1
/-- the unit that a loop looked at last -/
def zlu : Nat → Value
  | 0 => .retAddr 0
  | n + 1 => .ref (n + 11)
/-- the sum of f below n over p -/
def zsm (p : Nat → Bool) (f : Nat → Int64) : Nat → Int64
  | 0 => 0
  | n + 1 => bif p n then zsm p f n + f n else zsm p f n
theorem zswc (w : Int32) (n : Nat) (hn : n < 1000) : (w.toInt < 0 ∨ (n : Int) < w.toInt) ∨ ∃ k, k ≤ n ∧ w = nI k := by
  by_cases q : w.toInt < 0 ∨ (n : Int) < w.toInt
  · exact Or.inl q
  · right
    obtain ⟨k, hk, e⟩ := nI_of (x := w) (by rw [Int32.lt_iff_toInt_lt]; simp; omega)
    subst e
    rw [nI_toInt hk] at q
    exact ⟨k, by omega, rfl⟩
section ZAE
variable {sL : Nat} {sx : Nat → Int32} {N : Nat → Int32} {F G : Nat → Nat → Int32} {K : Nat → Option Nat} {Z : Nat → Int64} {tl : zH} {M A l i u d : Nat}
def zqA (G : Nat → Nat → Int32) (K : Nat → Option Nat) (p : Int32) : Nat → Bool := fun k => decide (G k 6 = p) && decide (K k = none)
theorem zqA_f1 {p : Int32} {j : Nat} (h : ¬ G j 6 = p) : zqA G K p j = false := by simp [zqA, h]
theorem zqA_f2 {p : Int32} {j : Nat} (h : ¬ K j = none) : zqA G K p j = false := by simp [zqA, h]
theorem zqA_t {p : Int32} {j : Nat} (h1 : G j 6 = p) (h2 : K j = none) : zqA G K p j = true := by simp [zqA, h1, h2]
def q_at (N : Nat → Int32) (F G : Nat → Nat → Int32) (K : Nat → Option Nat) (Z : Nat → Int64) (M : Nat) (p i : Int32) : zQ :=
  if 0 ≤ p ∧ p ≤ 15 then match zfst (zqA G K p) i M with
    | some r => .ok (some (.int (nI r)), N, F, G, K, Z)
    | none => .error 5
  else .error 1
theorem c_at {p i : Int32} (hM : N 1 = nI M) (hm : M ≤ 64) : zMe sL sx 10 35 [.ref 0, .int p, .int i] (zCs N F G K Z ++ tl) (zO (q_at N F G K Z M p i)) (zHc (zCs N F G K Z ++ tl) tl (q_at N F G K Z M p i)) := by
  show zR sL sx _ 35 0 [.ref 0, .int p, .int i, .retAddr 0, .retAddr 0, .retAddr 0] [] _ _ _
  have lp : 0 ≤ p ∧ p ≤ 15 → zR sL sx 10 35 9 [.ref 0, .int p, .int i, .int 0, .int 0, .retAddr 0] [] (zCs N F G K Z ++ tl) (zO (q_at N F G K Z M p i)) (zHc (zCs N F G K Z ++ tl) tl (q_at N F G K Z M p i)) := by
    intro c0
    refine zR_loop0 (M := M) (fun j => [.ref 0, .int p, .int i, .int (nI (zcnt (zqA G K p) j)), .int (nI j), zlu j]) (fun _ => zCs N F G K Z ++ tl) (fun j => zfst (zqA G K p) i j = none) rfl rfl rfl (fun hI => ?_) (fun j hj hI ih => ?_)
    · refine zR_s rfl ?_
      refine zR_s rfl ?_
      refine zR_get rfl rfl (zc0) rfl ?_
      refine zR_icge rfl rfl (fun _ => ?_) (fun c => by first | exact absurd ((by rw [hM]; exact Int32.le_refl _)) c | exact absurd c ((by rw [hM]; exact Int32.le_refl _)))
      refine zR_throwe (by omega) rfl rfl rfl ?_ ?_
      all_goals (simp only [zO, zHc, q_at, if_pos c0, hI])
    · refine zR_s rfl ?_
      refine zR_s rfl ?_
      first | refine zR_get rfl rfl (zc0) rfl ?_ | refine zR_get rfl rfl (zcU (show j < 64 by omega)) rfl ?_
      refine zR_icge rfl rfl (fun c => by first | exact absurd c ((by rw [hM]; exact nI_ge hj (by omega))) | exact absurd ((by rw [hM]; exact nI_ge hj (by omega))) c) (fun _ => ?_)
      refine zR_s rfl ?_
      first | refine zR_get rfl rfl (zc0) rfl ?_ | refine zR_get rfl rfl (zcU (show j < 64 by omega)) rfl ?_
      refine zR_s rfl ?_
      refine zR_aldU rfl (by omega) ?_
      refine zR_s rfl ?_
      refine zR_s rfl ?_
      first | refine zR_get rfl rfl (zc0) rfl ?_ | refine zR_get rfl rfl (zcU (show j < 64 by omega)) rfl ?_
      refine zR_s rfl ?_
      refine zR_icne rfl rfl (fun c1 => ?_) (fun c1 => ?_)
      · first | refine zR_incn rfl rfl rfl ?_ | refine zR_s rfl ?_
        refine zR_goto rfl rfl ?_
        first | (have e : zqA G K p j = false := zqA_f1 c1; have w := ih (zfst_f hI e); rw [zcnt_f e] at w; exact w) | (have e : zqA G K p j = false := zqA_f2 c2; have w := ih (zfst_f hI e); rw [zcnt_f e] at w; exact w) | (have e : zqA G K p j = true := zqA_t c1 c2; have w := ih (zfst_n hI c3); rw [zcnt_t e] at w; exact w)
      · refine zR_s rfl ?_
        first | refine zR_get rfl rfl (zc0) rfl ?_ | refine zR_get rfl rfl (zcU (show j < 64 by omega)) rfl ?_
        refine zR_nonnull1 rfl rfl (fun c2 => ?_) (fun c2 => ?_)
        · first | refine zR_incn rfl rfl rfl ?_ | refine zR_s rfl ?_
          refine zR_goto rfl rfl ?_
          first | (have e : zqA G K p j = false := zqA_f1 c1; have w := ih (zfst_f hI e); rw [zcnt_f e] at w; exact w) | (have e : zqA G K p j = false := zqA_f2 c2; have w := ih (zfst_f hI e); rw [zcnt_f e] at w; exact w) | (have e : zqA G K p j = true := zqA_t c1 c2; have w := ih (zfst_n hI c3); rw [zcnt_t e] at w; exact w)
        · refine zR_s rfl ?_
          refine zR_s rfl ?_
          refine zR_icne rfl rfl (fun c3 => ?_) (fun c3 => ?_)
          · first | refine zR_incn rfl rfl rfl ?_ | refine zR_s rfl ?_
            first | refine zR_incn rfl rfl rfl ?_ | refine zR_s rfl ?_
            refine zR_goto rfl rfl ?_
            first | (have e : zqA G K p j = false := zqA_f1 c1; have w := ih (zfst_f hI e); rw [zcnt_f e] at w; exact w) | (have e : zqA G K p j = false := zqA_f2 c2; have w := ih (zfst_f hI e); rw [zcnt_f e] at w; exact w) | (have e : zqA G K p j = true := zqA_t c1 c2; have w := ih (zfst_n hI c3); rw [zcnt_t e] at w; exact w)
          · refine zR_s rfl ?_
            first | refine zR_rete rfl rfl ?_ ?_ | refine zR_retb rfl rfl ?_ ?_
            all_goals (simp only [zO, zHc, q_at, if_pos c0, zfst_t hI (show zqA G K p j = true by simp [zqA, c1, c2]) c3 hj])
  refine zR_s rfl ?_
  refine zR_callt rfl rfl rfl rfl (zcallok_s rfl) rfl (m_checkPlace (by decide)) (fun c1 => ?_) (fun c1 => ?_)
  · refine zR_cst (v := 0) rfl rfl rfl ?_
    refine zR_s rfl ?_
    refine zR_cst (v := 0) rfl rfl rfl ?_
    refine zR_s rfl ?_
    exact lp c1
  · first | contradiction | (simp only [zO, zHc, q_at, c1, if_true, if_false, not_true_eq_false, not_false_eq_true, and_self, and_true, true_and, or_true, true_or, or_false, false_or, and_false, false_and, reduceCtorEq, Bool.false_eq_true]; done) | (simp only [zO, zHc, q_at, c1, if_true, if_false, not_true_eq_false, not_false_eq_true, and_self, and_true, true_and, or_true, true_or, or_false, false_or, and_false, false_and, reduceCtorEq, Bool.false_eq_true]; done)
def zqF (G : Nat → Nat → Int32) (a b c : Int32) : Nat → Bool := fun k => zany1 a (G k 0) && zany1 b (G k 3) && zany1 c (G k 5)
def q_find (N : Nat → Int32) (F G : Nat → Nat → Int32) (K : Nat → Option Nat) (Z : Nat → Int64) (M : Nat) (a b c i : Int32) : zQ :=
  if 0 ≤ i then .ok (some (.int (zsk (zfst (zqF G a b c) i M))), N, F, G, K, Z) else .error 1
theorem c_find {a b c i : Int32} (hM : N 1 = nI M) (hm : M ≤ 64) : zMe sL sx 10 36 [.ref 0, .int a, .int b, .int c, .int i] (zCs N F G K Z ++ tl) (zO (q_find N F G K Z M a b c i)) (zHc (zCs N F G K Z ++ tl) tl (q_find N F G K Z M a b c i)) := by
  show zR sL sx _ 36 0 [.ref 0, .int a, .int b, .int c, .int i, .retAddr 0, .retAddr 0] [] _ _ _
  have lp : 0 ≤ i → zR sL sx 10 36 21 [.ref 0, .int a, .int b, .int c, .int i, .int 0, .int 0] [] (zCs N F G K Z ++ tl) (zO (q_find N F G K Z M a b c i)) (zHc (zCs N F G K Z ++ tl) tl (q_find N F G K Z M a b c i)) := by
    intro c0
    refine zR_loop0 (M := M) (fun j => [.ref 0, .int a, .int b, .int c, .int i, .int (nI (zcnt (zqF G a b c) j)), .int (nI j)]) (fun _ => zCs N F G K Z ++ tl) (fun j => zfst (zqF G a b c) i j = none) rfl rfl rfl (fun hI => ?_) (fun j hj hI ih => ?_)
    · refine zR_s rfl ?_
      refine zR_s rfl ?_
      refine zR_get rfl rfl (zc0) rfl ?_
      refine zR_icge rfl rfl (fun _ => ?_) (fun c => by first | exact absurd ((by rw [hM]; exact Int32.le_refl _)) c | exact absurd c ((by rw [hM]; exact Int32.le_refl _)))
      refine zR_cst (v := (-1)) rfl rfl rfl ?_
      first | refine zR_rete rfl rfl ?_ ?_ | refine zR_retb rfl rfl ?_ ?_
      all_goals (simp only [zO, zHc, q_find, if_pos c0, hI, zsk])
    · refine zR_s rfl ?_
      refine zR_s rfl ?_
      refine zR_get rfl rfl (zc0) rfl ?_
      refine zR_icge rfl rfl (fun c => by first | exact absurd c ((by rw [hM]; exact nI_ge hj (by omega))) | exact absurd ((by rw [hM]; exact nI_ge hj (by omega))) c) (fun _ => ?_)
      refine zR_s rfl ?_
      refine zR_get rfl rfl (zc0) rfl ?_
      refine zR_s rfl ?_
      refine zR_aldU rfl (by omega) ?_
      refine zR_s rfl ?_
      refine zR_s rfl ?_
      refine zR_s rfl ?_
      refine zR_call rfl rfl rfl rfl (zcallok_v (zcU (show j < 64 by omega)) rfl rfl) (m_matches (zcU (show j < 64 by omega))) ?_
      first | refine zR_df rfl rfl (fun c1 => ?_) (fun c1 => ?_) | refine zR_bf rfl rfl (fun c1 => ?_) (fun c1 => ?_) | refine zR_ifeq rfl rfl (fun c1 => ?_) (fun c1 => ?_)
      · first | refine zR_incn rfl rfl rfl ?_ | refine zR_s rfl ?_
        refine zR_goto rfl rfl ?_
        first | (have w := ih (zfst_f hI (show zqF G a b c j = false from c1)); rw [zcnt_f (show zqF G a b c j = false from c1)] at w; exact w) | (have w := ih (zfst_n hI c2); rw [zcnt_t (show zqF G a b c j = true from c1)] at w; exact w)
      · refine zR_s rfl ?_
        refine zR_s rfl ?_
        refine zR_icne rfl rfl (fun c2 => ?_) (fun c2 => ?_)
        · first | refine zR_incn rfl rfl rfl ?_ | refine zR_s rfl ?_
          first | refine zR_incn rfl rfl rfl ?_ | refine zR_s rfl ?_
          refine zR_goto rfl rfl ?_
          first | (have w := ih (zfst_f hI (show zqF G a b c j = false from c1)); rw [zcnt_f (show zqF G a b c j = false from c1)] at w; exact w) | (have w := ih (zfst_n hI c2); rw [zcnt_t (show zqF G a b c j = true from c1)] at w; exact w)
        · refine zR_s rfl ?_
          first | refine zR_rete rfl rfl ?_ ?_ | refine zR_retb rfl rfl ?_ ?_
          all_goals (simp only [zO, zHc, q_find, if_pos c0, zsk, zfst_t hI (show zqF G a b c j = true from c1) c2 hj])
  refine zR_s rfl ?_
  refine zR_ifge rfl rfl (fun c1 => ?_) (fun c1 => ?_)
  · refine zR_cst (v := 0) rfl rfl rfl ?_
    refine zR_s rfl ?_
    refine zR_cst (v := 0) rfl rfl rfl ?_
    refine zR_s rfl ?_
    exact lp c1
  · refine zR_throwe (by omega) rfl rfl rfl ?_ ?_
    all_goals (first | contradiction | (simp only [zO, zHc, q_find, c1, if_true, if_false, not_true_eq_false, not_false_eq_true, and_self, and_true, true_and, or_true, true_or, or_false, false_or, and_false, false_and, reduceCtorEq, Bool.false_eq_true]; done) | (simp only [zO, zHc, q_find, c1, if_true, if_false, not_true_eq_false, not_false_eq_true, and_self, and_true, true_and, or_true, true_or, or_false, false_or, and_false, false_and, reduceCtorEq, Bool.false_eq_true]; done))
def zqG (G : Nat → Nat → Int32) (g p : Int32) : Nat → Bool := fun k => decide (G k 1 = g) && decide (G k 6 = p) && decide (G k 5 = 0)
theorem zqG_f1 {g p : Int32} {j : Nat} (h : ¬ G j 1 = g) : zqG G g p j = false := by simp [zqG, h]
theorem zqG_f2 {g p : Int32} {j : Nat} (h : ¬ G j 6 = p) : zqG G g p j = false := by simp [zqG, h]
theorem zqG_f3 {g p : Int32} {j : Nat} (h : ¬ G j 5 = 0) : zqG G g p j = false := by simp [zqG, h]
theorem zqG_t {g p : Int32} {j : Nat} (h1 : G j 1 = g) (h2 : G j 6 = p) (h3 : G j 5 = 0) : zqG G g p j = true := by simp [zqG, h1, h2, h3]
def q_sum (N : Nat → Int32) (F G : Nat → Nat → Int32) (K : Nat → Option Nat) (Z : Nat → Int64) (M : Nat) (g p : Int32) : zQ :=
  if 0 ≤ g ∧ g ≤ 7 then if 0 ≤ p ∧ p ≤ 15 then .ok (some (.long (zsm (zqG G g p) (fun k => (G k 4).toInt64) M)), N, F, G, K, Z) else .error 1 else .error 1
theorem c_sum {g p : Int32} (hM : N 1 = nI M) (hm : M ≤ 64) : zMe sL sx 10 37 [.ref 0, .int g, .int p] (zCs N F G K Z ++ tl) (zO (q_sum N F G K Z M g p)) (zHc (zCs N F G K Z ++ tl) tl (q_sum N F G K Z M g p)) := by
  show zR sL sx _ 37 0 [.ref 0, .int g, .int p, .retAddr 0, .retAddr 0, .retAddr 0, .retAddr 0] [] _ _ _
  have lp : 0 ≤ g ∧ g ≤ 7 → 0 ≤ p ∧ p ≤ 15 → zR sL sx 10 37 16 [.ref 0, .int g, .int p, .long 0, .retAddr 0, .int 0, .retAddr 0] [] (zCs N F G K Z ++ tl) (zO (q_sum N F G K Z M g p)) (zHc (zCs N F G K Z ++ tl) tl (q_sum N F G K Z M g p)) := by
    intro c0 c9
    refine zR_loop0 (M := M) (fun j => [.ref 0, .int g, .int p, .long (zsm (zqG G g p) (fun k => (G k 4).toInt64) j), .retAddr 0, .int (nI j), zlu j]) (fun _ => zCs N F G K Z ++ tl) (fun j => True) rfl rfl trivial (fun hI => ?_) (fun j hj hI ih => ?_)
    · refine zR_s rfl ?_
      refine zR_s rfl ?_
      refine zR_get rfl rfl (zc0) rfl ?_
      refine zR_icge rfl rfl (fun _ => ?_) (fun c => by first | exact absurd ((by rw [hM]; exact Int32.le_refl _)) c | exact absurd c ((by rw [hM]; exact Int32.le_refl _)))
      refine zR_s rfl ?_
      refine zR_rete rfl rfl ?_ ?_
      all_goals (simp only [zO, zHc, q_sum, if_pos c0, if_pos c9])
    · refine zR_s rfl ?_
      refine zR_s rfl ?_
      first | refine zR_get rfl rfl (zc0) rfl ?_ | refine zR_get rfl rfl (zcU (show j < 64 by omega)) rfl ?_
      refine zR_icge rfl rfl (fun c => by first | exact absurd c ((by rw [hM]; exact nI_ge hj (by omega))) | exact absurd ((by rw [hM]; exact nI_ge hj (by omega))) c) (fun _ => ?_)
      refine zR_s rfl ?_
      first | refine zR_get rfl rfl (zc0) rfl ?_ | refine zR_get rfl rfl (zcU (show j < 64 by omega)) rfl ?_
      refine zR_s rfl ?_
      refine zR_aldU rfl (by omega) ?_
      refine zR_s rfl ?_
      refine zR_s rfl ?_
      first | refine zR_get rfl rfl (zc0) rfl ?_ | refine zR_get rfl rfl (zcU (show j < 64 by omega)) rfl ?_
      refine zR_s rfl ?_
      refine zR_icne rfl rfl (fun c1 => ?_) (fun c1 => ?_)
      · first | refine zR_incn rfl rfl rfl ?_ | refine zR_s rfl ?_
        refine zR_goto rfl rfl ?_
        first | (have e : zqG G g p j = false := zqG_f1 c1; have w := ih trivial; simp only [zsm, e, cond_false] at w; exact w) | (have e : zqG G g p j = false := zqG_f2 c2; have w := ih trivial; simp only [zsm, e, cond_false] at w; exact w) | (have e : zqG G g p j = false := zqG_f3 c3; have w := ih trivial; simp only [zsm, e, cond_false] at w; exact w) | (have e : zqG G g p j = true := zqG_t c1 c2 c3; have w := ih trivial; simp only [zsm, e, cond_true] at w; exact w)
      · refine zR_s rfl ?_
        first | refine zR_get rfl rfl (zc0) rfl ?_ | refine zR_get rfl rfl (zcU (show j < 64 by omega)) rfl ?_
        refine zR_s rfl ?_
        refine zR_icne rfl rfl (fun c2 => ?_) (fun c2 => ?_)
        · first | refine zR_incn rfl rfl rfl ?_ | refine zR_s rfl ?_
          refine zR_goto rfl rfl ?_
          first | (have e : zqG G g p j = false := zqG_f1 c1; have w := ih trivial; simp only [zsm, e, cond_false] at w; exact w) | (have e : zqG G g p j = false := zqG_f2 c2; have w := ih trivial; simp only [zsm, e, cond_false] at w; exact w) | (have e : zqG G g p j = false := zqG_f3 c3; have w := ih trivial; simp only [zsm, e, cond_false] at w; exact w) | (have e : zqG G g p j = true := zqG_t c1 c2 c3; have w := ih trivial; simp only [zsm, e, cond_true] at w; exact w)
        · refine zR_s rfl ?_
          first | refine zR_get rfl rfl (zc0) rfl ?_ | refine zR_get rfl rfl (zcU (show j < 64 by omega)) rfl ?_
          first | refine zR_dt rfl rfl (fun c3 => ?_) (fun c3 => ?_) | refine zR_bt rfl rfl (fun c3 => ?_) (fun c3 => ?_) | refine zR_ifne rfl rfl (fun c3 => ?_) (fun c3 => ?_)
          · first | refine zR_incn rfl rfl rfl ?_ | refine zR_s rfl ?_
            refine zR_goto rfl rfl ?_
            first | (have e : zqG G g p j = false := zqG_f1 c1; have w := ih trivial; simp only [zsm, e, cond_false] at w; exact w) | (have e : zqG G g p j = false := zqG_f2 c2; have w := ih trivial; simp only [zsm, e, cond_false] at w; exact w) | (have e : zqG G g p j = false := zqG_f3 c3; have w := ih trivial; simp only [zsm, e, cond_false] at w; exact w) | (have e : zqG G g p j = true := zqG_t c1 c2 c3; have w := ih trivial; simp only [zsm, e, cond_true] at w; exact w)
          · refine zR_s rfl ?_
            refine zR_s rfl ?_
            first | refine zR_get rfl rfl (zc0) rfl ?_ | refine zR_get rfl rfl (zcU (show j < 64 by omega)) rfl ?_
            refine zR_s rfl ?_
            refine zR_ladd rfl ?_
            refine zR_s rfl ?_
            first | refine zR_incn rfl rfl rfl ?_ | refine zR_s rfl ?_
            refine zR_goto rfl rfl ?_
            first | (have e : zqG G g p j = false := zqG_f1 c1; have w := ih trivial; simp only [zsm, e, cond_false] at w; exact w) | (have e : zqG G g p j = false := zqG_f2 c2; have w := ih trivial; simp only [zsm, e, cond_false] at w; exact w) | (have e : zqG G g p j = false := zqG_f3 c3; have w := ih trivial; simp only [zsm, e, cond_false] at w; exact w) | (have e : zqG G g p j = true := zqG_t c1 c2 c3; have w := ih trivial; simp only [zsm, e, cond_true] at w; exact w)
  refine zR_s rfl ?_
  refine zR_cst (v := 0) rfl rfl rfl ?_
  refine zR_cst (v := 7) rfl rfl rfl ?_
  refine zR_callt rfl rfl rfl rfl (zcallok_s rfl) rfl (m_checkRange (by decide)) (fun c1 => ?_) (fun c1 => ?_)
  · refine zR_s rfl ?_
    refine zR_callt rfl rfl rfl rfl (zcallok_s rfl) rfl (m_checkPlace (by decide)) (fun c2 => ?_) (fun c2 => ?_)
    · refine zR_lc (v := 0) rfl rfl ?_
      refine zR_s rfl ?_
      refine zR_cst (v := 0) rfl rfl rfl ?_
      refine zR_s rfl ?_
      exact lp c1 c2
    · first | contradiction | (simp only [zO, zHc, q_sum, c1, c2, if_true, if_false, not_true_eq_false, not_false_eq_true, and_self, and_true, true_and, or_true, true_or, or_false, false_or, and_false, false_and, reduceCtorEq, Bool.false_eq_true]; done) | (simp only [zO, zHc, q_sum, c1, c2, if_true, if_false, not_true_eq_false, not_false_eq_true, and_self, and_true, true_and, or_true, true_or, or_false, false_or, and_false, false_and, reduceCtorEq, Bool.false_eq_true]; done)
  · first | contradiction | (simp only [zO, zHc, q_sum, c1, if_true, if_false, not_true_eq_false, not_false_eq_true, and_self, and_true, true_and, or_true, true_or, or_false, false_or, and_false, false_and, reduceCtorEq, Bool.false_eq_true]; done) | (simp only [zO, zHc, q_sum, c1, if_true, if_false, not_true_eq_false, not_false_eq_true, and_self, and_true, true_and, or_true, true_or, or_false, false_or, and_false, false_and, reduceCtorEq, Bool.false_eq_true]; done)
def zqX (G : Nat → Nat → Int32) (t : Int32) : Nat → Bool := fun i => decide ((G i 5 = 0 ∨ G i 5 = 1) ∧ G i 2 < t)
def zxp (G : Nat → Nat → Int32) (t : Int32) (j : Nat) : Nat → Nat → Int32 := fun i => bif decide (i < j) && zqX G t i then upd (G i) 5 3 else G i
theorem zxp_0 {t : Int32} : zxp G t 0 = G := by funext i; simp [zxp]
theorem zxp_s {t : Int32} {j : Nat} : zxp G t (j + 1) = if (G j 5 = 0 ∨ G j 5 = 1) ∧ G j 2 < t then updG (zxp G t j) j 5 3 else zxp G t j := by
  by_cases hb : (G j 5 = 0 ∨ G j 5 = 1) ∧ G j 2 < t
  · rw [if_pos hb]
    funext i
    simp only [zxp, updG]
    by_cases e : i = j
    · subst e; simp [zqX, hb]
    · simp only [if_neg e]
      rw [show decide (i < j + 1) = decide (i < j) from by simp; omega]
  · rw [if_neg hb]
    funext i
    simp only [zxp]
    by_cases e : i = j
    · subst e; simp [zqX, hb]
    · rw [show decide (i < j + 1) = decide (i < j) from by simp; omega]
theorem m_expire2 {t : Int32} {j : Nat} (hj : j < 64) : zMe sL sx (d + 1) 11 [.ref (j + 11), .int t] (zCs N F (zxp G t j) K Z ++ tl) (.returned (some (.int (bI (zqX G t j))))) (zCs N F (zxp G t (j + 1)) K Z ++ tl) := by
  have h := m_expire (sL := sL) (sx := sx) (d := d) (N := N) (F := F) (G := zxp G t j) (K := K) (Z := Z) (tl := tl) (i := j) (a := t) hj
  have e : zxp G t j j = G j := by simp [zxp]
  rw [zxp_s]
  simp only [e] at h
  exact h
def q_day (N : Nat → Int32) (F G : Nat → Nat → Int32) (K : Nat → Option Nat) (Z : Nat → Int64) (M : Nat) (t : Int32) : zQ :=
  if N 3 ≤ t ∧ t ≤ 1000 then .ok (some (.int (nI (zcnt (zqX G t) M))), upd N 3 t, F, zxp G t M, K, Z) else .error 1
theorem c_day {t : Int32} (hM : N 1 = nI M) (hm : M ≤ 64) : zMe sL sx 10 34 [.ref 0, .int t] (zCs N F G K Z ++ tl) (zO (q_day N F G K Z M t)) (zHc (zCs N F G K Z ++ tl) tl (q_day N F G K Z M t)) := by
  show zR sL sx _ 34 0 [.ref 0, .int t, .retAddr 0, .retAddr 0] [] _ _ _
  have lp : N 3 ≤ t ∧ t ≤ 1000 → zR sL sx 10 34 20 [.ref 0, .int t, .int 0, .int 0] [] (zCs (upd N 3 t) F G K Z ++ tl) (zO (q_day N F G K Z M t)) (zHc (zCs N F G K Z ++ tl) tl (q_day N F G K Z M t)) := by
    intro c0
    have hM2 : upd N 3 t 1 = nI M := hM
    refine zR_loop0 (M := M) (fun j => [.ref 0, .int t, .int (nI (zcnt (zqX G t) j)), .int (nI j)]) (fun j => zCs (upd N 3 t) F (zxp G t j) K Z ++ tl) (fun j => True) rfl (by rw [zxp_0]) trivial (fun hI => ?_) (fun j hj hI ih => ?_)
    · refine zR_s rfl ?_
      refine zR_s rfl ?_
      refine zR_get rfl rfl (zc0) rfl ?_
      refine zR_icge rfl rfl (fun _ => ?_) (fun c => by first | exact absurd ((by rw [hM2]; exact Int32.le_refl _)) c | exact absurd c ((by rw [hM2]; exact Int32.le_refl _)))
      refine zR_s rfl ?_
      first | refine zR_rete rfl rfl ?_ ?_ | refine zR_retb rfl rfl ?_ ?_
      all_goals (simp only [zO, zHc, q_day, if_pos c0])
    · refine zR_s rfl ?_
      refine zR_s rfl ?_
      refine zR_get rfl rfl (zc0) rfl ?_
      refine zR_icge rfl rfl (fun c => by first | exact absurd c ((by rw [hM2]; exact nI_ge hj (by omega))) | exact absurd ((by rw [hM2]; exact nI_ge hj (by omega))) c) (fun _ => ?_)
      refine zR_s rfl ?_
      refine zR_get rfl rfl (zc0) rfl ?_
      refine zR_s rfl ?_
      refine zR_aldU rfl (by omega) ?_
      refine zR_s rfl ?_
      refine zR_call rfl rfl rfl rfl (zcallok_v (zcU (show j < 64 by omega)) rfl rfl) (m_expire2 (show j < 64 by omega)) ?_
      first | refine zR_df rfl rfl (fun c1 => ?_) (fun c1 => ?_) | refine zR_bf rfl rfl (fun c1 => ?_) (fun c1 => ?_) | refine zR_ifeq rfl rfl (fun c1 => ?_) (fun c1 => ?_)
      · first | refine zR_incn rfl rfl rfl ?_ | refine zR_s rfl ?_
        refine zR_goto rfl rfl ?_
        first | (have w := ih trivial; rw [zcnt_f (show zqX G t j = false from decide_eq_false c1)] at w; exact w) | (have w := ih trivial; rw [zcnt_t (show zqX G t j = true from decide_eq_true c1)] at w; exact w)
      · first | refine zR_incn rfl rfl rfl ?_ | refine zR_s rfl ?_
        first | refine zR_incn rfl rfl rfl ?_ | refine zR_s rfl ?_
        refine zR_goto rfl rfl ?_
        first | (have w := ih trivial; rw [zcnt_f (show zqX G t j = false from decide_eq_false c1)] at w; exact w) | (have w := ih trivial; rw [zcnt_t (show zqX G t j = true from decide_eq_true c1)] at w; exact w)
  refine zR_s rfl ?_
  refine zR_s rfl ?_
  refine zR_get rfl rfl (zc0) rfl ?_
  refine zR_cst (v := 1000) rfl rfl rfl ?_
  refine zR_callt rfl rfl rfl rfl (zcallok_s rfl) rfl (m_checkRange (by decide)) (fun c1 => ?_) (fun c1 => ?_)
  · refine zR_s rfl ?_
    refine zR_s rfl ?_
    refine zR_putN rfl rfl (by decide) rfl ?_
    refine zR_cst (v := 0) rfl rfl rfl ?_
    refine zR_s rfl ?_
    refine zR_cst (v := 0) rfl rfl rfl ?_
    refine zR_s rfl ?_
    exact lp c1
  · first | contradiction | (simp only [zO, zHc, q_day, c1, if_true, if_false, not_true_eq_false, not_false_eq_true, and_self, and_true, true_and, or_true, true_or, or_false, false_or, and_false, false_and, reduceCtorEq, Bool.false_eq_true]; done) | (simp only [zO, zHc, q_day, c1, if_true, if_false, not_true_eq_false, not_false_eq_true, and_self, and_true, true_and, or_true, true_or, or_false, false_or, and_false, false_and, reduceCtorEq, Bool.false_eq_true]; done)
def zqR (F : Nat → Nat → Int32) (j : Nat) : Nat → Bool := fun r => decide (F 4 r = nI j)
theorem m_seek {j : Nat} {i : Int32} (hA : N 4 = nI A) (hA4 : A ≤ 400) : zMe sL sx d 4 [.ref 6, .int (nI j), .int i] (zCs N F G K Z ++ tl) (.returned (some (.int (zsk (zfst (zqR F j) i A))))) (zCs N F G K Z ++ tl) := by
  show zR sL sx _ 4 0 [.ref 6, .int (nI j), .int i, .retAddr 0, .retAddr 0] [] _ _ _
  refine zR_cst (v := 0) rfl rfl rfl ?_
  refine zR_s rfl ?_
  refine zR_cst (v := 0) rfl rfl rfl ?_
  refine zR_s rfl ?_
  skip
  refine zR_loop0 (M := A) (fun k => [.ref 6, .int (nI j), .int i, .int (nI (zcnt (zqR F j) k)), .int (nI k)]) (fun _ => zCs N F G K Z ++ tl) (fun k => zfst (zqR F j) i k = none) rfl rfl rfl (fun hI => ?_) (fun k hk hI ih => ?_)
  · refine zR_s rfl ?_
    refine zR_s rfl ?_
    refine zR_get rfl rfl (zc6) rfl ?_
    refine zR_icge rfl rfl (fun _ => ?_) (fun c => by first | exact absurd ((by rw [hA]; exact Int32.le_refl _)) c | exact absurd c ((by rw [hA]; exact Int32.le_refl _)))
    refine zR_cst (v := (-1)) rfl rfl rfl ?_
    first | refine zR_rete rfl rfl ?_ ?_ | refine zR_retb rfl rfl ?_ ?_
    all_goals (simp only [hI, zsk])
  · refine zR_s rfl ?_
    refine zR_s rfl ?_
    refine zR_get rfl rfl (zc6) rfl ?_
    refine zR_icge rfl rfl (fun c => by first | exact absurd c ((by rw [hA]; exact nI_ge hk (by omega))) | exact absurd ((by rw [hA]; exact nI_ge hk (by omega))) c) (fun _ => ?_)
    refine zR_s rfl ?_
    refine zR_get rfl rfl (zc6) rfl ?_
    refine zR_s rfl ?_
    refine zR_ildF 4 rfl (by decide) (show k < 400 by omega) ?_
    refine zR_s rfl ?_
    refine zR_icne rfl rfl (fun c1 => ?_) (fun c1 => ?_)
    · first | refine zR_incn rfl rfl rfl ?_ | refine zR_s rfl ?_
      refine zR_goto rfl rfl ?_
      first | (have w := ih (zfst_f hI (show zqR F j k = false from decide_eq_false c1)); rw [zcnt_f (show zqR F j k = false from decide_eq_false c1)] at w; exact w) | (have w := ih (zfst_n hI c2); rw [zcnt_t (show zqR F j k = true from decide_eq_true c1)] at w; exact w)
    · refine zR_s rfl ?_
      refine zR_s rfl ?_
      refine zR_icne rfl rfl (fun c2 => ?_) (fun c2 => ?_)
      · first | refine zR_incn rfl rfl rfl ?_ | refine zR_s rfl ?_
        first | refine zR_incn rfl rfl rfl ?_ | refine zR_s rfl ?_
        refine zR_goto rfl rfl ?_
        first | (have w := ih (zfst_f hI (show zqR F j k = false from decide_eq_false c1)); rw [zcnt_f (show zqR F j k = false from decide_eq_false c1)] at w; exact w) | (have w := ih (zfst_n hI c2); rw [zcnt_t (show zqR F j k = true from decide_eq_true c1)] at w; exact w)
      · refine zR_s rfl ?_
        first | refine zR_rete rfl rfl ?_ ?_ | refine zR_retb rfl rfl ?_ ?_
        all_goals (simp only [zsk, zfst_t hI (show zqR F j k = true from decide_eq_true c1) c2 hk])
def q_row (N : Nat → Int32) (F G : Nat → Nat → Int32) (K : Nat → Option Nat) (Z : Nat → Int64) (A j : Nat) (i w : Int32) : zQ :=
  match zfst (zqR F j) i A with
  | none => .error 4
  | some r => if 0 ≤ w ∧ w ≤ 2 then .ok (some (.int (if w = 0 then F 5 r else if w = 1 then F 6 r else F 7 r)), N, F, G, K, Z) else .error 1
theorem c_row {j : Nat} {i w : Int32} (hM : N 1 = nI M) (hm : M ≤ 64) (hA : N 4 = nI A) (hA4 : A ≤ 400) (hj : j < M) : zMe sL sx 10 38 [.ref 0, .int (nI j), .int i, .int w] (zCs N F G K Z ++ tl) (zO (q_row N F G K Z A j i w)) (zHc (zCs N F G K Z ++ tl) tl (q_row N F G K Z A j i w)) := by
  have hj2 : j < 64 := by omega
  cases hz : zfst (zqR F j) i A with
  | none =>
    show zR sL sx _ 38 0 [.ref 0, .int (nI j), .int i, .int w, .retAddr 0] [] _ _ _
    refine zR_s rfl ?_
    first | refine zR_get rfl rfl (zc0) rfl ?_ | refine zR_get rfl rfl (zcU hj2) rfl ?_
    refine zR_s rfl ?_
    refine zR_s rfl ?_
    refine zR_call rfl rfl rfl rfl (zcallok_v (zc0) rfl rfl) (m_unitOf hM hm hj) ?_
    first | refine zR_get rfl rfl (zc0) rfl ?_ | refine zR_get rfl rfl (zcU hj2) rfl ?_
    refine zR_s rfl ?_
    refine zR_call rfl rfl rfl rfl (zcallok_v (zc6) rfl rfl) (m_seek hA hA4) ?_
    rw [hz]
    refine zR_s rfl ?_
    refine zR_s rfl ?_
    refine zR_cst (v := (-1)) rfl rfl rfl ?_
    refine zR_icne rfl rfl (fun c => by first | exact absurd c ((show zsk none = -1 from rfl)) | exact absurd ((show zsk none = -1 from rfl)) c) (fun _ => ?_)
    refine zR_throwe (by omega) rfl rfl rfl ?_ ?_
    all_goals (simp only [zO, zHc, q_row, hz])
  | some r =>
    have hr := (zfst_lt hz).1
    show zR sL sx _ 38 0 [.ref 0, .int (nI j), .int i, .int w, .retAddr 0] [] _ _ _
    refine zR_s rfl ?_
    first | refine zR_get rfl rfl (zc0) rfl ?_ | refine zR_get rfl rfl (zcU hj2) rfl ?_
    refine zR_s rfl ?_
    refine zR_s rfl ?_
    refine zR_call rfl rfl rfl rfl (zcallok_v (zc0) rfl rfl) (m_unitOf hM hm hj) ?_
    first | refine zR_get rfl rfl (zc0) rfl ?_ | refine zR_get rfl rfl (zcU hj2) rfl ?_
    refine zR_s rfl ?_
    refine zR_call rfl rfl rfl rfl (zcallok_v (zc6) rfl rfl) (m_seek hA hA4) ?_
    rw [hz, show zsk (some r) = nI r from rfl]
    refine zR_s rfl ?_
    refine zR_s rfl ?_
    refine zR_cst (v := (-1)) rfl rfl rfl ?_
    refine zR_icne rfl rfl (fun _ => ?_) (fun c => by first | exact absurd ((show ¬ nI r = -1 from fun q => absurd (nI_pos' (n := r) (by omega)) (by rw [q]; decide))) c | exact absurd c ((show ¬ nI r = -1 from fun q => absurd (nI_pos' (n := r) (by omega)) (by rw [q]; decide))))
    refine zR_s rfl ?_
    refine zR_cst (v := 0) rfl rfl rfl ?_
    refine zR_cst (v := 2) rfl rfl rfl ?_
    refine zR_callt rfl rfl rfl rfl (zcallok_s rfl) rfl (m_checkRange (by decide)) (fun c1 => ?_) (fun c1 => ?_)
    · refine zR_s rfl ?_
      first | refine zR_get rfl rfl (zc0) rfl ?_ | refine zR_get rfl rfl (zcU hj2) rfl ?_
      refine zR_s rfl ?_
      refine zR_s rfl ?_
      refine zR_call rfl rfl rfl rfl (zcallok_v (zc6) rfl rfl) (m_read hA hA4 hr) ?_
      first | refine zR_rete rfl rfl ?_ ?_ | refine zR_retb rfl rfl ?_ ?_
      all_goals (first | (simp only [zO, zHc, q_row, hz, if_pos c1]; done) | (simp only [zO, zHc, q_row, hz, if_neg c1, and_self]; done))
    · first | (simp only [zO, zHc, q_row, hz, if_pos c1]; done) | (simp only [zO, zHc, q_row, hz, if_neg c1, and_self]; done)
theorem c_packed {j : Nat} (hM : N 1 = nI M) (hm : M ≤ 64) (hj : j < M) : zMe sL sx 10 40 [.ref 0, .int (nI j)] (zCs N F G K Z ++ tl) (.returned (some (.long (zpkU (G j) (Z j))))) (zCs N F G K Z ++ tl) := by
  have hj2 : j < 64 := by omega
  show zR sL sx _ 40 0 [.ref 0, .int (nI j)] [] _ _ _
  refine zR_s rfl ?_
  refine zR_s rfl ?_
  refine zR_call rfl rfl rfl rfl (zcallok_v (zc0) rfl rfl) (m_unitOf hM hm hj) ?_
  refine zR_call rfl rfl rfl rfl (zcallok_v (zcU hj2) rfl rfl) (m_pack hj2) ?_
  refine zR_rete rfl rfl ?_ ?_
  all_goals (first | rfl | simp [bI, *])
def q_told (G : Nat → Nat → Int32) (K : Nat → Option Nat) (M j : Nat) : Nat → Int32
  | 0 => G j 5
  | 1 => G j 6
  | 2 => zsk (K j)
  | 3 => G j 4
  | 4 => G j 0
  | 5 => G j 3
  | 6 => nI (zdq G K j)
  | _ => nI (zcnt (zqW K j) M)
theorem c_told_bad {j : Nat} {w : Int32} (hM : N 1 = nI M) (hm : M ≤ 64) (hj : j < M) (hw : w.toInt < 0 ∨ 7 < w.toInt) : zMe sL sx 10 39 [.ref 0, .int (nI j), .int w] (zCs N F G K Z ++ tl) (.threw 1) (zCs N F G K Z ++ tl ++ [(101, [])]) := by
  show zR sL sx _ 39 0 [.ref 0, .int (nI j), .int w, .retAddr 0] [] _ _ _
  refine zR_s rfl ?_
  refine zR_s rfl ?_
  refine zR_call rfl rfl rfl rfl (zcallok_v (zc0) rfl rfl) (m_unitOf hM hm hj) ?_
  refine zR_s rfl ?_
  refine zR_s rfl ?_
  refine zR_sw (tgt := 107) rfl (zsw_d hw) ?_
  refine zR_throwe (by omega) rfl rfl rfl ?_ ?_
  all_goals (first | rfl | simp [bI, *])
theorem c_told {j k : Nat} (hK : zKb K) (hM : N 1 = nI M) (hm : M ≤ 64) (hj : j < M) (hk : k ≤ 7) : zMe sL sx 10 39 [.ref 0, .int (nI j), .int (nI k)] (zCs N F G K Z ++ tl) (.returned (some (.int (q_told G K M j k)))) (zCs N F G K Z ++ tl) := by
  have hj2 : j < 64 := by omega
  show zR sL sx _ 39 0 [.ref 0, .int (nI j), .int (nI k), .retAddr 0] [] _ _ _
  refine zR_s rfl ?_
  refine zR_s rfl ?_
  refine zR_call rfl rfl rfl rfl (zcallok_v (zc0) rfl rfl) (m_unitOf hM hm hj) ?_
  refine zR_s rfl ?_
  refine zR_s rfl ?_
  skip
  rcases (show k = 0 ∨ k = 1 ∨ k = 2 ∨ k = 3 ∨ k = 4 ∨ k = 5 ∨ k = 6 ∨ k = 7 by omega) with rfl | rfl | rfl | rfl | rfl | rfl | rfl | rfl
  · refine zR_sw (tgt := 52) rfl rfl ?_
    refine zR_s rfl ?_
    refine zR_get rfl rfl (zcU hj2) rfl ?_
    first | refine zR_rete rfl rfl ?_ ?_ | refine zR_retb rfl rfl ?_ ?_
    all_goals (first | rfl | simp [bI, *])
  · refine zR_sw (tgt := 57) rfl rfl ?_
    refine zR_s rfl ?_
    refine zR_get rfl rfl (zcU hj2) rfl ?_
    first | refine zR_rete rfl rfl ?_ ?_ | refine zR_retb rfl rfl ?_ ?_
    all_goals (first | rfl | simp [bI, *])
  · refine zR_sw (tgt := 62) rfl rfl ?_
    cases hq : K j with
    | none =>
      refine zR_s rfl ?_
      refine zR_get rfl rfl (zcU hj2) rfl ?_
      refine zR_nonnull1 rfl rfl (fun c1 => absurd hq c1) (fun c1 => ?_)
      refine zR_cst (v := (-1)) rfl rfl rfl ?_
      refine zR_s rfl ?_
      first | refine zR_rete rfl rfl ?_ ?_ | refine zR_retb rfl rfl ?_ ?_
      all_goals (simp only [q_told, hq, zsk])
    | some c =>
      refine zR_s rfl ?_
      first | refine zR_get rfl rfl (zcU hj2) rfl ?_ | refine zR_get rfl rfl (zcU (hK _ _ hq)) rfl ?_
      refine zR_nonnull1 rfl rfl (fun c1 => ?_) (fun c1 => absurd (hq.symm.trans c1) (by simp))
      refine zR_s rfl ?_
      first | refine zR_get rfl rfl (zcU hj2) rfl ?_ | refine zR_get rfl rfl (zcU (hK _ _ hq)) rfl ?_
      rw [hq]
      first | refine zR_get rfl rfl (zcU hj2) rfl ?_ | refine zR_get rfl rfl (zcU (hK _ _ hq)) rfl ?_
      first | refine zR_rete rfl rfl ?_ ?_ | refine zR_retb rfl rfl ?_ ?_
      all_goals (simp only [q_told, hq, zsk])
  · refine zR_sw (tgt := 81) rfl rfl ?_
    refine zR_s rfl ?_
    refine zR_get rfl rfl (zcU hj2) rfl ?_
    first | refine zR_rete rfl rfl ?_ ?_ | refine zR_retb rfl rfl ?_ ?_
    all_goals (first | rfl | simp [bI, *])
  · refine zR_sw (tgt := 86) rfl rfl ?_
    refine zR_s rfl ?_
    refine zR_get rfl rfl (zcU hj2) rfl ?_
    first | refine zR_rete rfl rfl ?_ ?_ | refine zR_retb rfl rfl ?_ ?_
    all_goals (first | rfl | simp [bI, *])
  · refine zR_sw (tgt := 91) rfl rfl ?_
    refine zR_s rfl ?_
    refine zR_get rfl rfl (zcU hj2) rfl ?_
    first | refine zR_rete rfl rfl ?_ ?_ | refine zR_retb rfl rfl ?_ ?_
    all_goals (first | rfl | simp [bI, *])
  · refine zR_sw (tgt := 96) rfl rfl ?_
    refine zR_s rfl ?_
    refine zR_call rfl rfl rfl rfl (zcallok_v (zcU hj2) rfl rfl) (m_depth2 hK hj2) ?_
    first | refine zR_rete rfl rfl ?_ ?_ | refine zR_retb rfl rfl ?_ ?_
    all_goals (first | rfl | simp [bI, *])
  · refine zR_sw (tgt := 101) rfl rfl ?_
    refine zR_s rfl ?_
    refine zR_s rfl ?_
    refine zR_call rfl rfl rfl rfl (zcallok_v (zc0) rfl rfl) (m_unitsWithin hK hM hm) ?_
    first | refine zR_rete rfl rfl ?_ ?_ | refine zR_retb rfl rfl ?_ ?_
    all_goals (first | rfl | simp [bI, *])
def q_count (N : Nat → Int32) (G : Nat → Nat → Int32) (M : Nat) (w : Int32) : Int32 := if w = 0 then N 1 else if w = 1 then nI (zcnt (zqS G) M) else if w = 2 then N 0 else if w = 3 then N 4 else if w = 4 then N 3 else -1
theorem c_count {w : Int32} (hM : N 1 = nI M) (hm : M ≤ 64) : zMe sL sx 10 41 [.ref 0, .int w] (zCs N F G K Z ++ tl) (.returned (some (.int (q_count N G M w)))) (zCs N F G K Z ++ tl) := by
  rcases zswc w 4 (by omega) with hw | ⟨k, hk, rfl⟩
  · have n0 : ¬ w = 0 := by rintro rfl; simp at hw
    have n1 : ¬ w = 1 := by rintro rfl; simp at hw
    have n2 : ¬ w = 2 := by rintro rfl; simp at hw
    have n3 : ¬ w = 3 := by rintro rfl; simp at hw
    have n4 : ¬ w = 4 := by rintro rfl; simp at hw
    show zR sL sx _ 41 0 [.ref 0, .int w] [] _ _ _
    refine zR_s rfl ?_
    refine zR_sw (tgt := 64) rfl (zsw_d hw) ?_
    rw [q_count, if_neg n0, if_neg n1, if_neg n2, if_neg n3, if_neg n4]
    refine zR_cst (v := (-1)) rfl rfl rfl ?_
    first | refine zR_rete rfl rfl ?_ ?_ | refine zR_retb rfl rfl ?_ ?_
    all_goals (first | rfl | simp [bI, *])
  · show zR sL sx _ 41 0 [.ref 0, .int (nI k)] [] _ _ _
    refine zR_s rfl ?_
    rcases (show k = 0 ∨ k = 1 ∨ k = 2 ∨ k = 3 ∨ k = 4 by omega) with rfl | rfl | rfl | rfl | rfl
    · refine zR_sw (tgt := 36) rfl rfl ?_
      refine zR_s rfl ?_
      refine zR_get rfl rfl (zc0) rfl ?_
      first | refine zR_rete rfl rfl ?_ ?_ | refine zR_retb rfl rfl ?_ ?_
      all_goals (first | rfl | simp [bI, *])
    · refine zR_sw (tgt := 41) rfl rfl ?_
      refine zR_s rfl ?_
      refine zR_call rfl rfl rfl rfl (zcallok_v (zc0) rfl rfl) (m_unitsStanding hM hm) ?_
      first | refine zR_rete rfl rfl ?_ ?_ | refine zR_retb rfl rfl ?_ ?_
      all_goals (first | rfl | simp [bI, *])
    · refine zR_sw (tgt := 46) rfl rfl ?_
      refine zR_s rfl ?_
      refine zR_get rfl rfl (zc0) rfl ?_
      first | refine zR_rete rfl rfl ?_ ?_ | refine zR_retb rfl rfl ?_ ?_
      all_goals (first | rfl | simp [bI, *])
    · refine zR_sw (tgt := 51) rfl rfl ?_
      refine zR_s rfl ?_
      first | refine zR_get rfl rfl (zc0) rfl ?_ | refine zR_get rfl rfl (zc6) rfl ?_
      first | refine zR_get rfl rfl (zc0) rfl ?_ | refine zR_get rfl rfl (zc6) rfl ?_
      first | refine zR_rete rfl rfl ?_ ?_ | refine zR_retb rfl rfl ?_ ?_
      all_goals (first | rfl | simp [bI, *])
    · refine zR_sw (tgt := 59) rfl rfl ?_
      refine zR_s rfl ?_
      refine zR_get rfl rfl (zc0) rfl ?_
      first | refine zR_rete rfl rfl ?_ ?_ | refine zR_retb rfl rfl ?_ ?_
      all_goals (first | rfl | simp [bI, *])
end ZAE
end
section
/-! the reference's cells: the same numbers as the class's, in rows; H the holders (-1 for none), c the code, B the row 'goes' -/
def zmf (j : Nat) : Nat := match j with
  | 0 => 4
  | 1 => 8
  | 2 => 7
  | 3 => 1
  | _ => 16
def zmob (N : Nat → Int32) (c : Int32) : List Value := [.int c, .int (N 3), .ref 76, .ref 77, .int (N 0), .ref 78, .ref 79, .int (N 2), .int (N 1), .ref 80, .ref 81, .ref 82, .ref 83, .ref 84, .ref 85, .ref 86, .int (N 4), .ref 87, .ref 88, .ref 89, .ref 90, .ref 91]
def zmcell (N : Nat → Int32) (F G : Nat → Nat → Int32) (H : Nat → Int32) (Z : Nat → Int64) (c : Int32) (B : Nat → Int32) (k : Nat) : Nat × List Value := match k with
  | 0 => (13, zmob N c)
  | 1 => (0, zints 16 (F 0))
  | 2 => (0, zints 8 (F 1))
  | 3 => (0, zints 16 (F 2))
  | 4 => (0, zints 16 (F 3))
  | 5 => (0, zints 64 (fun i => G i 0))
  | 6 => (0, zints 64 (fun i => G i 3))
  | 7 => (0, zints 64 (fun i => G i 4))
  | 8 => (0, zints 64 (fun i => G i 5))
  | 9 => (0, zints 64 (fun i => G i 6))
  | 10 => (0, zints 64 H)
  | 11 => (1, zlongs 64 Z)
  | 12 => (0, zints 400 (F 4))
  | 13 => (0, zints 400 (F 5))
  | 14 => (0, zints 400 (F 6))
  | 15 => (0, zints 400 (F 7))
  | _ => (2, zints 64 B)
def zMd (N : Nat → Int32) (F G : Nat → Nat → Int32) (H : Nat → Int32) (Z : Nat → Int64) (c : Int32) (B : Nat → Int32) : zH := (List.range 17).map (zmcell N F G H Z c B)
def zmaF (a : Nat) : Nat := match a with
  | 0 => 76
  | 1 => 77
  | 2 => 78
  | 3 => 79
  | n + 4 => n + 87
def zmaG (j : Nat) : Nat := match j with
  | 0 => 80
  | 3 => 81
  | 4 => 82
  | 5 => 83
  | _ => 84
def zcolok (j : Nat) : Bool := match j with
  | 0 => true
  | 3 => true
  | 4 => true
  | 5 => true
  | 6 => true
  | _ => false
section ZMS
variable {sL : Nat} {sx : Nat → Int32} {d y pc : Nat} {L S : List Value} {hF : zH} {o : Outcome}
variable {N N' : Nat → Int32} {F F' G G' : Nat → Nat → Int32} {H H' : Nat → Int32} {Z Z' : Nat → Int64} {c c' : Int32} {B B' : Nat → Int32} {hc t : zH}
theorem zMd_len : (zMd N F G H Z c B).length = 17 := by simp [zMd]
theorem zmrd (h75 : hc.length = 75) {k : Nat} (hk : k < 17) : (hc ++ (zMd N F G H Z c B ++ t))[k + 75]? = some (zmcell N F G H Z c B k) := by
  rw [List.getElem?_append_right (by omega), h75, Nat.add_sub_cancel, List.getElem?_append_left (by rw [zMd_len]; exact hk)]
  simp [zMd, hk]
theorem zmset (h75 : hc.length = 75) {k : Nat} {q : Nat × List Value} (hk : k < 17) (h1 : zmcell N' F' G' H' Z' c' B' k = q) (h2 : ∀ j, j < 17 → j ≠ k → zmcell N' F' G' H' Z' c' B' j = zmcell N F G H Z c B j) : (hc ++ (zMd N F G H Z c B ++ t)).set (k + 75) q = hc ++ (zMd N' F' G' H' Z' c' B' ++ t) := by
  rw [List.set_append_right _ _ (by omega), h75, Nat.add_sub_cancel, List.set_append_left _ _ (by rw [zMd_len]; exact hk)]
  congr 2
  refine List.ext_getElem? fun i => ?_
  by_cases hi : i < 17
  · by_cases hik : k = i
    · subst hik
      rw [List.getElem?_set_self (by rw [zMd_len]; exact hk)]
      simp [zMd, hk, h1]
    · rw [List.getElem?_set_ne hik]
      simp [zMd, hi, h2 i hi (Ne.symm hik)]
  · rw [List.getElem?_eq_none (by rw [List.length_set, zMd_len]; omega), List.getElem?_eq_none (by rw [zMd_len]; omega)]
theorem zR_hs {h h' : zH} (e : h = h') (k : zR sL sx d y pc L S h' o hF) : zR sL sx d y pc L S h o hF := by subst e; exact k
theorem zm0 (h75 : hc.length = 75) : (hc ++ (zMd N F G H Z c B ++ t))[75]? = some (10 + 3, zmob N c) := zmrd (k := 0) h75 (by omega)
theorem zR_putC {ix : Nat} {v : Int32} (hz : zat y pc = some (.putfield ix, 3)) (hp : zpool y ix = some (0, 3, 0)) (h75 : hc.length = 75) (hf : zputok y 3 0 (.int v) 22 = true) (kk : zR sL sx d y (pc + 3) L S (hc ++ (zMd N F G H Z v B ++ t)) o hF) : zR sL sx d y pc L (.int v :: .ref 75 :: S) (hc ++ (zMd N F G H Z c B ++ t)) o hF := by
  refine zR_put hz hp (zm0 h75) hf ?_
  refine zR_hs (zmset (k := 0) (N' := N) (F' := F) (G' := G) (H' := H) (Z' := Z) (c' := v) (B' := B) h75 (by omega) rfl ?_) kk
  intro j hj h0
  rcases j with _ | _ | _ | _ | _ | _ | _ | _ | _ | _ | _ | _ | _ | _ | _ | _ | _ | n
  all_goals first | rfl | exact absurd rfl h0 | omega
theorem zR_putMN (j : Nat) {ix : Nat} {v : Int32} (hz : zat y pc = some (.putfield ix, 3)) (hp : zpool y ix = some (0, 3, zmf j)) (h75 : hc.length = 75) (hj : j < 5) (hf : zputok y 3 (zmf j) (.int v) 22 = true) (kk : zR sL sx d y (pc + 3) L S (hc ++ (zMd (upd N j v) F G H Z c B ++ t)) o hF) : zR sL sx d y pc L (.int v :: .ref 75 :: S) (hc ++ (zMd N F G H Z c B ++ t)) o hF := by
  refine zR_put hz hp (zm0 h75) hf ?_
  refine zR_hs (zmset (k := 0) (N' := upd N j v) (F' := F) (G' := G) (H' := H) (Z' := Z) (c' := c) (B' := B) h75 (by omega) ?_ ?_) kk
  · rcases (show j = 0 ∨ j = 1 ∨ j = 2 ∨ j = 3 ∨ j = 4 by omega) with rfl | rfl | rfl | rfl | rfl <;> rfl
  · intro j hj h0
    rcases j with _ | _ | _ | _ | _ | _ | _ | _ | _ | _ | _ | _ | _ | _ | _ | _ | _ | n
    all_goals first | rfl | exact absurd rfl h0 | omega
theorem zm8 {a : Nat} (ha : a < 8) : a = 0 ∨ a = 1 ∨ a = 2 ∨ a = 3 ∨ a = 4 ∨ a = 5 ∨ a = 6 ∨ a = 7 := by omega
theorem zmF (h75 : hc.length = 75) {a : Nat} (ha : a < 8) : (hc ++ (zMd N F G H Z c B ++ t))[zmaF a]? = some (0, zints (zfl a) (F a)) := by
  rcases zm8 ha with rfl | rfl | rfl | rfl | rfl | rfl | rfl | rfl
  · exact zmrd (k := 1) h75 (by omega)
  · exact zmrd (k := 2) h75 (by omega)
  · exact zmrd (k := 3) h75 (by omega)
  · exact zmrd (k := 4) h75 (by omega)
  · exact zmrd (k := 12) h75 (by omega)
  · exact zmrd (k := 13) h75 (by omega)
  · exact zmrd (k := 14) h75 (by omega)
  · exact zmrd (k := 15) h75 (by omega)
theorem zfl_lt {a : Nat} (ha : a < 8) : zfl a < 2 ^ 31 := by rcases zm8 ha with rfl | rfl | rfl | rfl | rfl | rfl | rfl | rfl <;> decide
theorem zR_ildMF (a : Nat) {j : Nat} (hz : zat y pc = some (.iaload, 1)) (h75 : hc.length = 75) (ha : a < 8) (hj : j < zfl a) (kk : zR sL sx d y (pc + 1) L (.int (F a j) :: S) (hc ++ (zMd N F G H Z c B ++ t)) o hF) : zR sL sx d y pc L (.int (nI j) :: .ref (zmaF a) :: S) (hc ++ (zMd N F G H Z c B ++ t)) o hF := zR_ild hz (zmF h75 ha) hj (zfl_lt ha) kk
theorem zmFs (h75 : hc.length = 75) {a : Nat} {g : Nat → Int32} (ha : a < 8) : (hc ++ (zMd N F G H Z c B ++ t)).set (zmaF a) (0, zints (zfl a) g) = hc ++ (zMd N (updF F a g) G H Z c B ++ t) := by
  rcases zm8 ha with rfl | rfl | rfl | rfl | rfl | rfl | rfl | rfl
  · refine zmset (k := 1) h75 (by omega) rfl ?_
    intro i hi h0
    rcases i with _ | _ | _ | _ | _ | _ | _ | _ | _ | _ | _ | _ | _ | _ | _ | _ | _ | n
    all_goals first | rfl | exact absurd rfl h0
  · refine zmset (k := 2) h75 (by omega) rfl ?_
    intro i hi h0
    rcases i with _ | _ | _ | _ | _ | _ | _ | _ | _ | _ | _ | _ | _ | _ | _ | _ | _ | n
    all_goals first | rfl | exact absurd rfl h0
  · refine zmset (k := 3) h75 (by omega) rfl ?_
    intro i hi h0
    rcases i with _ | _ | _ | _ | _ | _ | _ | _ | _ | _ | _ | _ | _ | _ | _ | _ | _ | n
    all_goals first | rfl | exact absurd rfl h0
  · refine zmset (k := 4) h75 (by omega) rfl ?_
    intro i hi h0
    rcases i with _ | _ | _ | _ | _ | _ | _ | _ | _ | _ | _ | _ | _ | _ | _ | _ | _ | n
    all_goals first | rfl | exact absurd rfl h0
  · refine zmset (k := 12) h75 (by omega) rfl ?_
    intro i hi h0
    rcases i with _ | _ | _ | _ | _ | _ | _ | _ | _ | _ | _ | _ | _ | _ | _ | _ | _ | n
    all_goals first | rfl | exact absurd rfl h0
  · refine zmset (k := 13) h75 (by omega) rfl ?_
    intro i hi h0
    rcases i with _ | _ | _ | _ | _ | _ | _ | _ | _ | _ | _ | _ | _ | _ | _ | _ | _ | n
    all_goals first | rfl | exact absurd rfl h0
  · refine zmset (k := 14) h75 (by omega) rfl ?_
    intro i hi h0
    rcases i with _ | _ | _ | _ | _ | _ | _ | _ | _ | _ | _ | _ | _ | _ | _ | _ | _ | n
    all_goals first | rfl | exact absurd rfl h0
  · refine zmset (k := 15) h75 (by omega) rfl ?_
    intro i hi h0
    rcases i with _ | _ | _ | _ | _ | _ | _ | _ | _ | _ | _ | _ | _ | _ | _ | _ | _ | n
    all_goals first | rfl | exact absurd rfl h0
theorem zR_istMF (a : Nat) {j : Nat} {x : Int32} (hz : zat y pc = some (.iastore, 1)) (h75 : hc.length = 75) (ha : a < 8) (hj : j < zfl a) (kk : zR sL sx d y (pc + 1) L S (hc ++ (zMd N (updF F a (upd (F a) j x)) G H Z c B ++ t)) o hF) : zR sL sx d y pc L (.int x :: .int (nI j) :: .ref (zmaF a) :: S) (hc ++ (zMd N F G H Z c B ++ t)) o hF := by
  refine zR_ist hz (zmF h75 ha) hj (zfl_lt ha) ?_
  rw [zmFs h75 ha]
  exact kk
theorem zmG (h75 : hc.length = 75) {j : Nat} (hj : zcolok j = true) : (hc ++ (zMd N F G H Z c B ++ t))[zmaG j]? = some (0, zints 64 (fun i => G i j)) := by
  rcases j with _ | _ | _ | _ | _ | _ | _ | j
  · exact zmrd (k := 5) h75 (by omega)
  · exact absurd hj (by decide)
  · exact absurd hj (by decide)
  · exact zmrd (k := 6) h75 (by omega)
  · exact zmrd (k := 7) h75 (by omega)
  · exact zmrd (k := 8) h75 (by omega)
  · exact zmrd (k := 9) h75 (by omega)
  · exact absurd hj (by simp [zcolok])
theorem zR_ildMG (j : Nat) {i : Nat} (hz : zat y pc = some (.iaload, 1)) (h75 : hc.length = 75) (hj : zcolok j = true) (hi : i < 64) (kk : zR sL sx d y (pc + 1) L (.int (G i j) :: S) (hc ++ (zMd N F G H Z c B ++ t)) o hF) : zR sL sx d y pc L (.int (nI i) :: .ref (zmaG j) :: S) (hc ++ (zMd N F G H Z c B ++ t)) o hF := zR_ild hz (zmG h75 hj) hi (by omega) kk
theorem updG_col {i j : Nat} {x : Int32} : (fun a => updG G i j x a j) = upd (fun a => G a j) i x := by
  funext a
  by_cases h : a = i <;> simp [updG, upd, h]
theorem updG_ne {i j k : Nat} {x : Int32} (h : k ≠ j) : (fun a => updG G i j x a k) = fun a => G a k := by
  funext a
  by_cases h2 : a = i <;> simp [updG, upd, h, h2]
theorem zmGs (h75 : hc.length = 75) {i j : Nat} {x : Int32} (hj : zcolok j = true) : (hc ++ (zMd N F G H Z c B ++ t)).set (zmaG j) (0, zints 64 (upd (fun a => G a j) i x)) = hc ++ (zMd N F (updG G i j x) H Z c B ++ t) := by
  rcases j with _ | _ | _ | _ | _ | _ | _ | j
  · refine zmset (k := 5) h75 (by omega) (by simp only [zmcell, updG_col]) ?_
    intro k hk h0
    rcases k with _ | _ | _ | _ | _ | _ | _ | _ | _ | _ | _ | _ | _ | _ | _ | _ | _ | n
    all_goals first | rfl | exact absurd rfl h0 | (simp only [zmcell, updG_ne (show (3 : Nat) ≠ 0 by decide)]; done) | (simp only [zmcell, updG_ne (show (4 : Nat) ≠ 0 by decide)]; done) | (simp only [zmcell, updG_ne (show (5 : Nat) ≠ 0 by decide)]; done) | (simp only [zmcell, updG_ne (show (6 : Nat) ≠ 0 by decide)]; done)
  · exact absurd hj (by decide)
  · exact absurd hj (by decide)
  · refine zmset (k := 6) h75 (by omega) (by simp only [zmcell, updG_col]) ?_
    intro k hk h0
    rcases k with _ | _ | _ | _ | _ | _ | _ | _ | _ | _ | _ | _ | _ | _ | _ | _ | _ | n
    all_goals first | rfl | exact absurd rfl h0 | (simp only [zmcell, updG_ne (show (0 : Nat) ≠ 3 by decide)]; done) | (simp only [zmcell, updG_ne (show (4 : Nat) ≠ 3 by decide)]; done) | (simp only [zmcell, updG_ne (show (5 : Nat) ≠ 3 by decide)]; done) | (simp only [zmcell, updG_ne (show (6 : Nat) ≠ 3 by decide)]; done)
  · refine zmset (k := 7) h75 (by omega) (by simp only [zmcell, updG_col]) ?_
    intro k hk h0
    rcases k with _ | _ | _ | _ | _ | _ | _ | _ | _ | _ | _ | _ | _ | _ | _ | _ | _ | n
    all_goals first | rfl | exact absurd rfl h0 | (simp only [zmcell, updG_ne (show (0 : Nat) ≠ 4 by decide)]; done) | (simp only [zmcell, updG_ne (show (3 : Nat) ≠ 4 by decide)]; done) | (simp only [zmcell, updG_ne (show (5 : Nat) ≠ 4 by decide)]; done) | (simp only [zmcell, updG_ne (show (6 : Nat) ≠ 4 by decide)]; done)
  · refine zmset (k := 8) h75 (by omega) (by simp only [zmcell, updG_col]) ?_
    intro k hk h0
    rcases k with _ | _ | _ | _ | _ | _ | _ | _ | _ | _ | _ | _ | _ | _ | _ | _ | _ | n
    all_goals first | rfl | exact absurd rfl h0 | (simp only [zmcell, updG_ne (show (0 : Nat) ≠ 5 by decide)]; done) | (simp only [zmcell, updG_ne (show (3 : Nat) ≠ 5 by decide)]; done) | (simp only [zmcell, updG_ne (show (4 : Nat) ≠ 5 by decide)]; done) | (simp only [zmcell, updG_ne (show (6 : Nat) ≠ 5 by decide)]; done)
  · refine zmset (k := 9) h75 (by omega) (by simp only [zmcell, updG_col]) ?_
    intro k hk h0
    rcases k with _ | _ | _ | _ | _ | _ | _ | _ | _ | _ | _ | _ | _ | _ | _ | _ | _ | n
    all_goals first | rfl | exact absurd rfl h0 | (simp only [zmcell, updG_ne (show (0 : Nat) ≠ 6 by decide)]; done) | (simp only [zmcell, updG_ne (show (3 : Nat) ≠ 6 by decide)]; done) | (simp only [zmcell, updG_ne (show (4 : Nat) ≠ 6 by decide)]; done) | (simp only [zmcell, updG_ne (show (5 : Nat) ≠ 6 by decide)]; done)
  · exact absurd hj (by simp [zcolok])
theorem zR_istMG (j : Nat) {i : Nat} {x : Int32} (hz : zat y pc = some (.iastore, 1)) (h75 : hc.length = 75) (hj : zcolok j = true) (hi : i < 64) (kk : zR sL sx d y (pc + 1) L S (hc ++ (zMd N F (updG G i j x) H Z c B ++ t)) o hF) : zR sL sx d y pc L (.int x :: .int (nI i) :: .ref (zmaG j) :: S) (hc ++ (zMd N F G H Z c B ++ t)) o hF := by
  refine zR_ist hz (zmG h75 hj) hi (by omega) ?_
  rw [zmGs h75 hj]
  exact kk
theorem zR_ildMH {i : Nat} (hz : zat y pc = some (.iaload, 1)) (h75 : hc.length = 75) (hi : i < 64) (kk : zR sL sx d y (pc + 1) L (.int (H i) :: S) (hc ++ (zMd N F G H Z c B ++ t)) o hF) : zR sL sx d y pc L (.int (nI i) :: .ref 85 :: S) (hc ++ (zMd N F G H Z c B ++ t)) o hF := zR_ild hz (zmrd (k := 10) h75 (by omega)) hi (by omega) kk
theorem zR_istMH {i : Nat} {x : Int32} (hz : zat y pc = some (.iastore, 1)) (h75 : hc.length = 75) (hi : i < 64) (kk : zR sL sx d y (pc + 1) L S (hc ++ (zMd N F G (upd H i x) Z c B ++ t)) o hF) : zR sL sx d y pc L (.int x :: .int (nI i) :: .ref 85 :: S) (hc ++ (zMd N F G H Z c B ++ t)) o hF := by
  refine zR_ist hz (zmrd (k := 10) h75 (by omega)) hi (by omega) ?_
  refine zR_hs (zmset (k := 10) (N' := N) (F' := F) (G' := G) (H' := upd H i x) (Z' := Z) (c' := c) (B' := B) h75 (by omega) rfl ?_) kk
  intro k hk h0
  rcases k with _ | _ | _ | _ | _ | _ | _ | _ | _ | _ | _ | _ | _ | _ | _ | _ | _ | n
  all_goals first | rfl | exact absurd rfl h0
theorem zR_lldMZ {i : Nat} (hz : zat y pc = some (.laload, 1)) (h75 : hc.length = 75) (hi : i < 64) (kk : zR sL sx d y (pc + 1) L (.long (Z i) :: S) (hc ++ (zMd N F G H Z c B ++ t)) o hF) : zR sL sx d y pc L (.int (nI i) :: .ref 86 :: S) (hc ++ (zMd N F G H Z c B ++ t)) o hF := zR_lld hz (zmrd (k := 11) h75 (by omega)) hi (by omega) kk
theorem zR_lstMZ {i : Nat} {x : Int64} (hz : zat y pc = some (.lastore, 1)) (h75 : hc.length = 75) (hi : i < 64) (kk : zR sL sx d y (pc + 1) L S (hc ++ (zMd N F G H (vp_updL Z i x) c B ++ t)) o hF) : zR sL sx d y pc L (.long x :: .int (nI i) :: .ref 86 :: S) (hc ++ (zMd N F G H Z c B ++ t)) o hF := by
  refine zR_lst hz (zmrd (k := 11) h75 (by omega)) hi (by omega) ?_
  refine zR_hs (zmset (k := 11) (N' := N) (F' := F) (G' := G) (H' := H) (Z' := vp_updL Z i x) (c' := c) (B' := B) h75 (by omega) rfl ?_) kk
  intro k hk h0
  rcases k with _ | _ | _ | _ | _ | _ | _ | _ | _ | _ | _ | _ | _ | _ | _ | _ | _ | n
  all_goals first | rfl | exact absurd rfl h0
theorem zR_bldMB {i : Nat} (hz : zat y pc = some (.baload, 1)) (h75 : hc.length = 75) (hi : i < 64) (kk : zR sL sx d y (pc + 1) L (.int (B i) :: S) (hc ++ (zMd N F G H Z c B ++ t)) o hF) : zR sL sx d y pc L (.int (nI i) :: .ref 91 :: S) (hc ++ (zMd N F G H Z c B ++ t)) o hF := zR_bld hz (zmrd (k := 16) h75 (by omega)) hi (by omega) kk
theorem zR_bstMB {i : Nat} {x : Int32} (hz : zat y pc = some (.bastore, 1)) (h75 : hc.length = 75) (hi : i < 64) (hx : x = 0 ∨ x = 1) (kk : zR sL sx d y (pc + 1) L S (hc ++ (zMd N F G H Z c (upd B i x) ++ t)) o hF) : zR sL sx d y pc L (.int x :: .int (nI i) :: .ref 91 :: S) (hc ++ (zMd N F G H Z c B ++ t)) o hF := by
  refine zR_bst hz (zmrd (k := 16) h75 (by omega)) hi (by omega) hx ?_
  refine zR_hs (zmset (k := 16) (N' := N) (F' := F) (G' := G) (H' := H) (Z' := Z) (c' := c) (B' := upd B i x) h75 (by omega) rfl ?_) kk
  intro k hk h0
  rcases k with _ | _ | _ | _ | _ | _ | _ | _ | _ | _ | _ | _ | _ | _ | _ | _ | _ | n
  all_goals first | rfl | exact absurd rfl h0 | omega
end ZMS
end
section
/-! the reference's small methods -/
theorem i64_le (a b : Int32) : a.toInt64 ≤ b.toInt64 ↔ a ≤ b := by
  rw [Int64.le_iff_toInt_le, Int32.le_iff_toInt_le, Int32.toInt_toInt64, Int32.toInt_toInt64]
/-- the chain x, K x .. has n members, all below M -/
def zchn (K : Nat → Option Nat) (M : Nat) : Nat → Option Nat → Prop
  | 0, x => x = none
  | n + 1, x => ∃ c, c < M ∧ x = some c ∧ zchn K M n (K c)
theorem zchn_none {K : Nat → Option Nat} {M n : Nat} (h : zchn K M n none) : n = 0 := by
  cases n with
  | zero => rfl
  | succ n => obtain ⟨c, _, e, _⟩ := h; cases e
theorem zchn_some {K : Nat → Option Nat} {M n c : Nat} (h : zchn K M n (some c)) : ∃ m, n = m + 1 ∧ c < M ∧ zchn K M m (K c) := by
  cases n with
  | zero => cases h
  | succ n => obtain ⟨c2, h1, e, h2⟩ := h; cases e; exact ⟨n, rfl, h1, h2⟩
theorem zchn_det {K : Nat → Option Nat} {M : Nat} : ∀ {n m : Nat} {x : Option Nat}, zchn K M n x → zchn K M m x → n = m := by
  intro n
  induction n with
  | zero => intro m x h1 h2; cases h1; exact (zchn_none h2).symm
  | succ n ih =>
    intro m x h1 h2
    obtain ⟨c, _, rfl, h3⟩ := h1
    obtain ⟨m2, rfl, _, h4⟩ := zchn_some h2
    rw [ih h3 h4]
theorem zchn_mem {K : Nat → Option Nat} {M u : Nat} : ∀ {n f : Nat} {x : Option Nat}, zchn K M n x → zlw K u f x = true → ∃ m, m < n ∧ zchn K M m (K u) := by
  intro n
  induction n with
  | zero => intro f x h1 h2; cases h1; cases f <;> simp [zlw] at h2
  | succ n ih =>
    intro f x h1 h2
    obtain ⟨c, _, rfl, h3⟩ := h1
    cases f with
    | zero => simp [zlw] at h2
    | succ f =>
      simp only [zlw, Bool.or_eq_true, decide_eq_true_eq] at h2
      rcases h2 with rfl | h2
      · exact ⟨n, by omega, h3⟩
      · obtain ⟨m, hm, h4⟩ := ih h3 h2
        exact ⟨m, by omega, h4⟩
theorem zlw_fuel {K : Nat → Option Nat} {M u : Nat} : ∀ {n f : Nat} {x : Option Nat}, zchn K M n x → n ≤ f → zlw K u f x = zlw K u n x := by
  intro n
  induction n with
  | zero => intro f x h1 h2; cases h1; cases f <;> simp [zlw]
  | succ n ih =>
    intro f x h1 h2
    obtain ⟨c, _, rfl, h3⟩ := h1
    cases f with
    | zero => omega
    | succ f => simp only [zlw, ih h3 (show n ≤ f by omega)]
theorem zdp_fuel {K : Nat → Option Nat} {M : Nat} : ∀ {n f : Nat} {x : Option Nat}, zchn K M n x → n ≤ f → zdp K f x = n := by
  intro n
  induction n with
  | zero => intro f x h1 h2; cases h1; cases f <;> simp [zdp]
  | succ n ih =>
    intro f x h1 h2
    obtain ⟨c, _, rfl, h3⟩ := h1
    cases f with
    | zero => omega
    | succ f => simp only [zdp, ih h3 (show n ≤ f by omega)]
/-- every chain ends within four -/
def zCh (K : Nat → Option Nat) (M : Nat) : Prop := ∀ i, i < M → ∃ n, n ≤ 4 ∧ zchn K M n (K i)
theorem zlw_self {K : Nat → Option Nat} {M u : Nat} (h : zCh K M) (hu : u < M) : zlw K u 4 (K u) = false := by
  obtain ⟨n, hn, h1⟩ := h u hu
  cases hb : zlw K u 4 (K u) with
  | false => rfl
  | true =>
    obtain ⟨m, hm, h2⟩ := zchn_mem h1 hb
    have := zchn_det h1 h2
    omega
def zHK (M : Nat) (K : Nat → Option Nat) (H : Nat → Int32) : Prop := ∀ i, i < M → H i = zsk (K i)
theorem zsk_ne {c : Nat} (h : c < 2 ^ 31) : ¬ nI c = -1 := fun q => absurd (nI_pos' h) (by rw [q]; decide)
theorem zsk_inj {x y : Option Nat} (hx : ∀ c, x = some c → c < 64) (hy : ∀ c, y = some c → c < 64) : zsk x = zsk y ↔ x = y := by
  cases x with
  | none =>
    cases y with
    | none => simp
    | some b => simp only [zsk]; exact ⟨fun q => absurd q.symm (zsk_ne (by have := hy b rfl; omega)), fun q => by cases q⟩
  | some a =>
    cases y with
    | none => simp only [zsk]; exact ⟨fun q => absurd q (zsk_ne (by have := hx a rfl; omega)), fun q => by cases q⟩
    | some b =>
      have h1 := hx a rfl
      have h2 := hy b rfl
      simp only [zsk, nI_eq (show a < 2 ^ 31 by omega) (show b < 2 ^ 31 by omega), Option.some.injEq]
section ZMH
variable {sL : Nat} {sx : Nat → Int32} {d : Nat} {h : zH}
variable {N : Nat → Int32} {F G : Nat → Nat → Int32} {K : Nat → Option Nat} {H : Nat → Int32} {Z : Nat → Int64} {c : Int32} {B : Nat → Int32} {hc t : zH} {M A u i : Nat}
theorem m_thrown (h75 : hc.length = 75) : zMe sL sx d 63 [.ref 75] (hc ++ (zMd N F G H Z c B ++ t)) (.returned (some (.int c))) (hc ++ (zMd N F G H Z c B ++ t)) := by
  show zR sL sx _ 63 0 [.ref 75] [] _ _ _
  refine zR_s rfl ?_
  refine zR_get rfl rfl (zm0 h75) rfl ?_
  first | refine zR_rete rfl rfl ?_ ?_ | refine zR_retb rfl rfl ?_ ?_
  all_goals (first | rfl | simp [bI, *])
theorem m_inL {a b c : Int64} : zMe sL sx d 64 [.long a, .long b, .long c] h (.returned (some (.int (bI (decide (b ≤ a ∧ a ≤ c)))))) h := by
  show zR sL sx _ 64 0 [.long a, .retAddr 0, .long b, .retAddr 0, .long c, .retAddr 0] [] _ _ _
  refine zR_s rfl ?_
  refine zR_s rfl ?_
  refine zR_s rfl ?_
  refine zR_llt rfl rfl (fun c1 => ?_) (fun c1 => ?_)
  · refine zR_cst (v := 0) rfl rfl rfl ?_
    first | refine zR_rete rfl rfl ?_ ?_ | refine zR_retb rfl rfl ?_ ?_
    all_goals (first | rfl | simp [bI, *])
  · refine zR_s rfl ?_
    refine zR_s rfl ?_
    refine zR_s rfl ?_
    refine zR_lgt rfl rfl (fun c2 => ?_) (fun c2 => ?_)
    · refine zR_cst (v := 0) rfl rfl rfl ?_
      first | refine zR_rete rfl rfl ?_ ?_ | refine zR_retb rfl rfl ?_ ?_
      all_goals (first | rfl | simp [bI, *])
    · refine zR_cst (v := 1) rfl rfl rfl ?_
      refine zR_s rfl ?_
      first | refine zR_rete rfl rfl ?_ ?_ | refine zR_retb rfl rfl ?_ ?_
      all_goals (first | rfl | simp [bI, *])
theorem m_in {a b c : Int32} : zMe sL sx d 64 [.long a.toInt64, .long b.toInt64, .long c.toInt64] h (.returned (some (.int (bI (decide (b ≤ a ∧ a ≤ c)))))) h := by
  have w := m_inL (sL := sL) (sx := sx) (d := d) (h := h) (a := a.toInt64) (b := b.toInt64) (c := c.toInt64)
  simp only [i64_le] at w
  exact w
theorem m_isUnit {a : Int32} (h75 : hc.length = 75) : zMe sL sx (d + 1) 65 [.ref 75, .int a] (hc ++ (zMd N F G H Z c B ++ t)) (.returned (some (.int (bI (decide (0 ≤ a ∧ a ≤ N 1 - 1)))))) (hc ++ (zMd N F G H Z c B ++ t)) := by
  show zR sL sx _ 65 0 [.ref 75, .int a] [] _ _ _
  refine zR_s rfl ?_
  refine zR_s rfl ?_
  refine zR_lc (v := 0) rfl rfl ?_
  refine zR_s rfl ?_
  refine zR_get rfl rfl (zm0 h75) rfl ?_
  refine zR_cst (v := 1) rfl rfl rfl ?_
  refine zR_isub rfl ?_
  refine zR_s rfl ?_
  refine zR_call rfl rfl rfl rfl (zcallok_s rfl) (m_in (b := 0) ) ?_
  first | refine zR_rete rfl rfl ?_ ?_ | refine zR_retb rfl rfl ?_ ?_
  all_goals (first | rfl | simp [bI, *])
theorem m_mstands (h75 : hc.length = 75) (hu : u < 64) : zMe sL sx d 66 [.ref 75, .int (nI u)] (hc ++ (zMd N F G H Z c B ++ t)) (.returned (some (.int (bI (zst (G u)))))) (hc ++ (zMd N F G H Z c B ++ t)) := by
  show zR sL sx _ 66 0 [.ref 75, .int (nI u)] [] _ _ _
  refine zR_s rfl ?_
  refine zR_get rfl rfl (zm0 h75) rfl ?_
  refine zR_s rfl ?_
  refine zR_ildMG 5 rfl h75 (by decide) (by omega) ?_
  refine zR_cst (v := 4) rfl rfl rfl ?_
  refine zR_iceq rfl rfl (fun c1 => ?_) (fun c1 => ?_)
  · refine zR_cst (v := 0) rfl rfl rfl ?_
    first | refine zR_rete rfl rfl ?_ ?_ | refine zR_retb rfl rfl ?_ ?_
    all_goals (first | rfl | simp [bI, zst, *])
  · refine zR_s rfl ?_
    refine zR_get rfl rfl (zm0 h75) rfl ?_
    refine zR_s rfl ?_
    refine zR_ildMG 5 rfl h75 (by decide) (by omega) ?_
    refine zR_cst (v := 5) rfl rfl rfl ?_
    refine zR_iceq rfl rfl (fun c2 => ?_) (fun c2 => ?_)
    · refine zR_cst (v := 0) rfl rfl rfl ?_
      first | refine zR_rete rfl rfl ?_ ?_ | refine zR_retb rfl rfl ?_ ?_
      all_goals (first | rfl | simp [bI, zst, *])
    · refine zR_cst (v := 1) rfl rfl rfl ?_
      refine zR_s rfl ?_
      first | refine zR_rete rfl rfl ?_ ?_ | refine zR_retb rfl rfl ?_ ?_
      all_goals (first | rfl | simp [bI, zst, *])
theorem m_misOver {l : Nat} (h75 : hc.length = 75) (hl : l < 16) : zMe sL sx d 72 [.ref 75, .int (nI l)] (hc ++ (zMd N F G H Z c B ++ t)) (.returned (some (.int (bI (decide (F 3 l < N 3)))))) (hc ++ (zMd N F G H Z c B ++ t)) := by
  show zR sL sx _ 72 0 [.ref 75, .int (nI l)] [] _ _ _
  refine zR_s rfl ?_
  refine zR_get rfl rfl (zm0 h75) rfl ?_
  refine zR_s rfl ?_
  refine zR_get rfl rfl (zm0 h75) rfl ?_
  refine zR_s rfl ?_
  refine zR_ildMF 3 rfl h75 (by decide) (hl) ?_
  refine zR_icle rfl rfl (fun c1 => ?_) (fun c1 => ?_)
  · refine zR_cst (v := 0) rfl rfl rfl ?_
    first | refine zR_rete rfl rfl ?_ ?_ | refine zR_retb rfl rfl ?_ ?_
    all_goals (first | rfl | (rw [bI_n _ _ (Int32.not_lt.mpr c1)]) | (rw [bI_d _ _ (Int32.not_le.mp c1)]))
  · refine zR_cst (v := 1) rfl rfl rfl ?_
    refine zR_s rfl ?_
    first | refine zR_rete rfl rfl ?_ ?_ | refine zR_retb rfl rfl ?_ ?_
    all_goals (first | rfl | (rw [bI_n _ _ (Int32.not_lt.mpr c1)]) | (rw [bI_d _ _ (Int32.not_le.mp c1)]))
theorem updN_id {N : Nat → Int32} {j : Nat} {v : Int32} (h : N j = v) : N = upd N j v := by funext q; simp only [upd]; split; rename_i e1; rw [e1, h]; rfl
theorem updN_2 {N : Nat → Int32} {j : Nat} {v w : Int32} : upd (upd N j v) j w = upd N j w := by funext q; simp only [upd]; split <;> rfl
theorem m_act {a b e : Int32} (h75 : hc.length = 75) (hN : N 4 = nI A) (hA : A < 400) : zMe sL sx d 73 [.ref 75, .int a, .int b, .int e] (hc ++ (zMd N F G H Z c B ++ t)) (.returned none) (hc ++ (zMd (upd N 4 (nI (A + 1))) (zadd F A a b (N 3) e) G H Z c B ++ t)) := by
  have h1 := updN_id hN
  have e1 : upd N 4 (nI (A + 1)) = upd (upd N 4 (nI A)) 4 (nI (A + 1)) := updN_2.symm
  have e3 : N 3 = upd N 4 (nI A) 3 := rfl
  rw [e1, e3]
  suffices hs : zMe sL sx d 73 [.ref 75, .int a, .int b, .int e] (hc ++ (zMd (upd N 4 (nI A)) F G H Z c B ++ t)) (.returned none) (hc ++ (zMd (upd (upd N 4 (nI A)) 4 (nI (A + 1))) (zadd F A a b (upd N 4 (nI A) 3) e) G H Z c B ++ t)) by
    rw [← h1] at hs ⊢
    exact hs
  show zR sL sx _ 73 0 [.ref 75, .int a, .int b, .int e] [] _ _ _
  refine zR_s rfl ?_
  refine zR_get rfl rfl (zm0 h75) rfl ?_
  refine zR_s rfl ?_
  refine zR_get rfl rfl (zm0 h75) rfl ?_
  refine zR_s rfl ?_
  refine zR_istMF 4 rfl h75 (by decide) ((show A < 400 from hA)) ?_
  refine zR_s rfl ?_
  refine zR_get rfl rfl (zm0 h75) rfl ?_
  refine zR_s rfl ?_
  refine zR_get rfl rfl (zm0 h75) rfl ?_
  refine zR_s rfl ?_
  refine zR_istMF 5 rfl h75 (by decide) ((show A < 400 from hA)) ?_
  refine zR_s rfl ?_
  refine zR_get rfl rfl (zm0 h75) rfl ?_
  refine zR_s rfl ?_
  refine zR_get rfl rfl (zm0 h75) rfl ?_
  refine zR_s rfl ?_
  refine zR_get rfl rfl (zm0 h75) rfl ?_
  refine zR_istMF 6 rfl h75 (by decide) ((show A < 400 from hA)) ?_
  refine zR_s rfl ?_
  refine zR_get rfl rfl (zm0 h75) rfl ?_
  refine zR_s rfl ?_
  refine zR_get rfl rfl (zm0 h75) rfl ?_
  refine zR_s rfl ?_
  refine zR_istMF 7 rfl h75 (by decide) ((show A < 400 from hA)) ?_
  refine zR_s rfl ?_
  refine zR_s rfl ?_
  refine zR_get rfl rfl (zm0 h75) rfl ?_
  refine zR_cst (v := 1) rfl rfl rfl ?_
  refine zR_iadd rfl ?_
  refine zR_putMN 4 rfl rfl h75 (by decide) rfl ?_
  refine zR_rete rfl rfl ?_ ?_
  all_goals (first | rfl | (rw [show nI (A + 1) = nI A + 1 from nI_succ A]; rfl))
end ZMH
end
section
/-! the reference's loops -/
theorem i32_a0 (x : Int32) : x + 0 = x := by simp
def zqT (G : Nat → Nat → Int32) (p : Int32) : Nat → Bool := fun i => zst (G i) && decide (G i 6 = p)
section ZML
variable {sL : Nat} {sx : Nat → Int32} {d : Nat} {h : zH}
variable {N : Nat → Int32} {F G : Nat → Nat → Int32} {K : Nat → Option Nat} {H : Nat → Int32} {Z : Nat → Int64} {c : Int32} {B : Nat → Int32} {hc t : zH} {M A u i : Nat}
theorem zqT_f1 {p : Int32} {j : Nat} (h : ¬ (¬ G j 5 = 4 ∧ ¬ G j 5 = 5)) : zqT G p j = false := by simp only [zqT, zst, decide_eq_false h, Bool.false_and]
theorem zqT_f2 {p : Int32} {j : Nat} (h : ¬ G j 6 = p) : zqT G p j = false := by simp [zqT, h]
theorem zqT_t {p : Int32} {j : Nat} (h : ¬ G j 5 = 4 ∧ ¬ G j 5 = 5) (h2 : G j 6 = p) : zqT G p j = true := by simp only [zqT, zst, decide_eq_true h, decide_eq_true h2, Bool.and_self]
theorem m_standingAt {p : Int32} (h75 : hc.length = 75) (hM : N 1 = nI M) (hm : M ≤ 64) : zMe sL sx (d + 1) 68 [.ref 75, .int p] (hc ++ (zMd N F G H Z c B ++ t)) (.returned (some (.int (nI (zcnt (zqT G p) M))))) (hc ++ (zMd N F G H Z c B ++ t)) := by
  show zR sL sx _ 68 0 [.ref 75, .int p, .retAddr 0, .retAddr 0] [] _ _ _
  refine zR_cst (v := 0) rfl rfl rfl ?_
  refine zR_s rfl ?_
  refine zR_cst (v := 0) rfl rfl rfl ?_
  refine zR_s rfl ?_
  skip
  refine zR_loop0 (M := M) (fun j => [.ref 75, .int p, .int (nI (zcnt (zqT G p) j)), .int (nI j)]) (fun _ => hc ++ (zMd N F G H Z c B ++ t)) (fun _ => True) rfl rfl trivial (fun _ => ?_) (fun j hj _ ih => ?_)
  · refine zR_s rfl ?_
    refine zR_s rfl ?_
    refine zR_get rfl rfl (zm0 h75) rfl ?_
    refine zR_icge rfl rfl (fun _ => ?_) (fun c => by first | exact absurd ((by rw [hM]; exact Int32.le_refl _)) c | exact absurd c ((by rw [hM]; exact Int32.le_refl _)))
    refine zR_s rfl ?_
    first | refine zR_rete rfl rfl ?_ ?_ | refine zR_retb rfl rfl ?_ ?_
    all_goals (first | rfl | simp [bI, *])
  · refine zR_s rfl ?_
    refine zR_s rfl ?_
    refine zR_get rfl rfl (zm0 h75) rfl ?_
    refine zR_icge rfl rfl (fun c => by first | exact absurd c ((by rw [hM]; exact nI_ge hj (by omega))) | exact absurd ((by rw [hM]; exact nI_ge hj (by omega))) c) (fun _ => ?_)
    refine zR_s rfl ?_
    refine zR_s rfl ?_
    refine zR_s rfl ?_
    refine zR_call rfl rfl rfl rfl (zcallok_v (zm0 h75) rfl rfl) (m_mstands h75 (show j < 64 by omega)) ?_
    first | refine zR_df rfl rfl (fun c1 => ?_) (fun c1 => ?_) | refine zR_bf rfl rfl (fun c1 => ?_) (fun c1 => ?_) | refine zR_ifeq rfl rfl (fun c1 => ?_) (fun c1 => ?_)
    · refine zR_cst (v := 0) rfl rfl rfl ?_
      refine zR_iadd rfl ?_
      refine zR_s rfl ?_
      first | refine zR_incn rfl rfl rfl ?_ | refine zR_s rfl ?_
      refine zR_goto rfl rfl ?_
      first | (have w := ih trivial; rw [zcnt_f (zqT_f1 c1), ← i32_a0 (nI (zcnt (zqT G p) j))] at w; exact w) | (have w := ih trivial; rw [zcnt_f (zqT_f2 c2), ← i32_a0 (nI (zcnt (zqT G p) j))] at w; exact w) | (have w := ih trivial; rw [zcnt_t (zqT_t c1 c2), nI_succ] at w; exact w)
    · refine zR_s rfl ?_
      refine zR_get rfl rfl (zm0 h75) rfl ?_
      refine zR_s rfl ?_
      refine zR_ildMG 6 rfl h75 (by decide) (by omega) ?_
      refine zR_s rfl ?_
      refine zR_icne rfl rfl (fun c2 => ?_) (fun c2 => ?_)
      · refine zR_cst (v := 0) rfl rfl rfl ?_
        refine zR_iadd rfl ?_
        refine zR_s rfl ?_
        first | refine zR_incn rfl rfl rfl ?_ | refine zR_s rfl ?_
        refine zR_goto rfl rfl ?_
        first | (have w := ih trivial; rw [zcnt_f (zqT_f1 c1), ← i32_a0 (nI (zcnt (zqT G p) j))] at w; exact w) | (have w := ih trivial; rw [zcnt_f (zqT_f2 c2), ← i32_a0 (nI (zcnt (zqT G p) j))] at w; exact w) | (have w := ih trivial; rw [zcnt_t (zqT_t c1 c2), nI_succ] at w; exact w)
      · refine zR_cst (v := 1) rfl rfl rfl ?_
        refine zR_s rfl ?_
        refine zR_iadd rfl ?_
        refine zR_s rfl ?_
        first | refine zR_incn rfl rfl rfl ?_ | refine zR_s rfl ?_
        refine zR_goto rfl rfl ?_
        first | (have w := ih trivial; rw [zcnt_f (zqT_f1 c1), ← i32_a0 (nI (zcnt (zqT G p) j))] at w; exact w) | (have w := ih trivial; rw [zcnt_f (zqT_f2 c2), ← i32_a0 (nI (zcnt (zqT G p) j))] at w; exact w) | (have w := ih trivial; rw [zcnt_t (zqT_t c1 c2), nI_succ] at w; exact w)
theorem m_make {a b e f g k : Int32} (h75 : hc.length = 75) (hM : N 1 = nI M) (hm : M < 64) (hN : N 4 = nI A) (hA : A < 400) : zMe sL sx (d + 1) 74 [.ref 75, .int a, .int b, .int e, .int f, .int g, .int k] (hc ++ (zMd N F G H Z c B ++ t)) (.returned (some (.int (nI M)))) (hc ++ (zMd (upd (upd N 1 (nI (M + 1))) 4 (nI (A + 1))) (zadd F A (nI M) 1 (N 3) b) (updG (updG (updG (updG (updG G M 0 a) M 6 b) M 3 e) M 4 f) M 5 g) (upd H M k) (vp_updL Z M 0) c B ++ t)) := by
  have h1 := updN_id hM
  have e1 : upd N 1 (nI (M + 1)) = upd (upd N 1 (nI M)) 1 (nI (M + 1)) := updN_2.symm
  have e3 : N 3 = upd N 1 (nI M) 3 := rfl
  have hN2 : upd (upd N 1 (nI M)) 1 (nI M + 1) 4 = nI A := hN
  rw [e1, e3]
  suffices hs : zMe sL sx (d + 1) 74 [.ref 75, .int a, .int b, .int e, .int f, .int g, .int k] (hc ++ (zMd (upd N 1 (nI M)) F G H Z c B ++ t)) (.returned (some (.int (nI M)))) (hc ++ (zMd (upd (upd (upd N 1 (nI M)) 1 (nI (M + 1))) 4 (nI (A + 1))) (zadd F A (nI M) 1 (upd N 1 (nI M) 3) b) (updG (updG (updG (updG (updG G M 0 a) M 6 b) M 3 e) M 4 f) M 5 g) (upd H M k) (vp_updL Z M 0) c B ++ t)) by
    rw [← h1] at hs ⊢
    exact hs
  show zR sL sx _ 74 0 [.ref 75, .int a, .int b, .int e, .int f, .int g, .int k, .retAddr 0] [] _ _ _
  refine zR_s rfl ?_
  refine zR_get rfl rfl (zm0 h75) rfl ?_
  refine zR_s rfl ?_
  refine zR_s rfl ?_
  refine zR_get rfl rfl (zm0 h75) rfl ?_
  refine zR_s rfl ?_
  refine zR_s rfl ?_
  refine zR_istMG 0 rfl h75 (by decide) ((show M < 64 from hm)) ?_
  refine zR_s rfl ?_
  refine zR_get rfl rfl (zm0 h75) rfl ?_
  refine zR_s rfl ?_
  refine zR_s rfl ?_
  refine zR_istMG 6 rfl h75 (by decide) ((show M < 64 from hm)) ?_
  refine zR_s rfl ?_
  refine zR_get rfl rfl (zm0 h75) rfl ?_
  refine zR_s rfl ?_
  refine zR_s rfl ?_
  refine zR_istMG 3 rfl h75 (by decide) ((show M < 64 from hm)) ?_
  refine zR_s rfl ?_
  refine zR_get rfl rfl (zm0 h75) rfl ?_
  refine zR_s rfl ?_
  refine zR_s rfl ?_
  refine zR_istMG 4 rfl h75 (by decide) ((show M < 64 from hm)) ?_
  refine zR_s rfl ?_
  refine zR_get rfl rfl (zm0 h75) rfl ?_
  refine zR_s rfl ?_
  refine zR_s rfl ?_
  refine zR_istMG 5 rfl h75 (by decide) ((show M < 64 from hm)) ?_
  refine zR_s rfl ?_
  refine zR_get rfl rfl (zm0 h75) rfl ?_
  refine zR_s rfl ?_
  refine zR_s rfl ?_
  refine zR_istMH rfl h75 ((show M < 64 from hm)) ?_
  refine zR_s rfl ?_
  refine zR_get rfl rfl (zm0 h75) rfl ?_
  refine zR_s rfl ?_
  refine zR_lc (v := 0) rfl rfl ?_
  refine zR_lstMZ rfl h75 ((show M < 64 from hm)) ?_
  refine zR_s rfl ?_
  refine zR_s rfl ?_
  refine zR_get rfl rfl (zm0 h75) rfl ?_
  refine zR_cst (v := 1) rfl rfl rfl ?_
  refine zR_iadd rfl ?_
  refine zR_putMN 1 rfl rfl h75 (by decide) rfl ?_
  refine zR_s rfl ?_
  refine zR_s rfl ?_
  refine zR_cst (v := 1) rfl rfl rfl ?_
  refine zR_s rfl ?_
  refine zR_call rfl rfl rfl rfl (zcallok_v (zm0 h75) rfl rfl) (m_act h75 hN2 hA) ?_
  refine zR_s rfl ?_
  first | refine zR_rete rfl rfl ?_ ?_ | refine zR_retb rfl rfl ?_ ?_
  all_goals (first | rfl | (rw [show nI (M + 1) = nI M + 1 from nI_succ M]; rfl))
theorem m_isIn {k : Nat} (h75 : hc.length = 75) (hm : M ≤ 64) (hH : zHK M K H) (hC : zCh K M) (hk : k < M) (hu : u < M) : zMe sL sx d 76 [.ref 75, .int (nI k), .int (nI u)] (hc ++ (zMd N F G H Z c B ++ t)) (.returned (some (.int (bI (zlw K u 4 (K k)))))) (hc ++ (zMd N F G H Z c B ++ t)) := by
  obtain ⟨n, hn, hl⟩ := hC k hk
  rw [zlw_fuel hl hn]
  have key : ∀ n x, zchn K M n x → zR sL sx d 76 7 [.ref 75, .int (nI k), .int (nI u), .int (zsk x)] [] (hc ++ (zMd N F G H Z c B ++ t)) (.returned (some (.int (bI (zlw K u n x))))) (hc ++ (zMd N F G H Z c B ++ t)) := by
    intro n
    induction n with
    | zero =>
      intro x hx
      cases hx
      refine zR_s rfl ?_
      refine zR_cst (v := (-1)) rfl rfl rfl ?_
      refine zR_iceq rfl rfl (fun _ => ?_) (fun c => by first | exact absurd ((show zsk none = -1 from rfl)) c | exact absurd c ((show zsk none = -1 from rfl)))
      refine zR_s rfl ?_
      refine zR_s rfl ?_
      refine zR_icne rfl rfl (fun _ => ?_) (fun c => by first | exact absurd ((show ¬ zsk none = nI u from fun q => zsk_ne (c := u) (by omega) q.symm)) c | exact absurd c ((show ¬ zsk none = nI u from fun q => zsk_ne (c := u) (by omega) q.symm)))
      refine zR_cst (v := 0) rfl rfl rfl ?_
      first | refine zR_rete rfl rfl ?_ ?_ | refine zR_retb rfl rfl ?_ ?_
      all_goals (rfl)
    | succ n ih =>
      intro x hx
      obtain ⟨c1, hc1, rfl, h3⟩ := hx
      have e0 : ¬ zsk (some c1) = -1 := zsk_ne (c := c1) (by omega)
      have w := ih (K c1) h3
      rw [← hH c1 hc1] at w
      by_cases q : c1 = u
      · subst q
        have e1 : zlw K c1 (n + 1) (some c1) = true := by simp [zlw]
        rw [e1]
        refine zR_s rfl ?_
        refine zR_cst (v := (-1)) rfl rfl rfl ?_
        refine zR_iceq rfl rfl (fun c => by first | exact absurd c (e0) | exact absurd (e0) c) (fun _ => ?_)
        refine zR_s rfl ?_
        refine zR_s rfl ?_
        refine zR_iceq rfl rfl (fun _ => ?_) (fun c => by first | exact absurd ((show zsk (some c1) = nI c1 from rfl)) c | exact absurd c ((show zsk (some c1) = nI c1 from rfl)))
        refine zR_s rfl ?_
        refine zR_s rfl ?_
        refine zR_icne rfl rfl (fun c => by first | exact absurd c ((show zsk (some c1) = nI c1 from rfl)) | exact absurd ((show zsk (some c1) = nI c1 from rfl)) c) (fun _ => ?_)
        refine zR_cst (v := 1) rfl rfl rfl ?_
        refine zR_s rfl ?_
        first | refine zR_rete rfl rfl ?_ ?_ | refine zR_retb rfl rfl ?_ ?_
        all_goals (rfl)
      · have e1 : zlw K u (n + 1) (some c1) = zlw K u n (K c1) := by simp [zlw, q]
        rw [e1]
        rw [show zsk (some c1) = nI c1 from rfl] at e0 ⊢
        refine zR_s rfl ?_
        refine zR_cst (v := (-1)) rfl rfl rfl ?_
        refine zR_iceq rfl rfl (fun c => by first | exact absurd c (e0) | exact absurd (e0) c) (fun _ => ?_)
        refine zR_s rfl ?_
        refine zR_s rfl ?_
        refine zR_iceq rfl rfl (fun c => by first | exact absurd c ((show ¬ nI c1 = nI u from fun e => q ((nI_eq (by omega) (by omega)).mp e))) | exact absurd ((show ¬ nI c1 = nI u from fun e => q ((nI_eq (by omega) (by omega)).mp e))) c) (fun _ => ?_)
        refine zR_s rfl ?_
        refine zR_get rfl rfl (zm0 h75) rfl ?_
        refine zR_s rfl ?_
        refine zR_ildMH rfl h75 ((show c1 < 64 by omega)) ?_
        refine zR_s rfl ?_
        refine zR_goto rfl rfl ?_
        exact w
  have w := key n (K k) hl
  rw [← hH k hk] at w
  show zR sL sx _ 76 0 [.ref 75, .int (nI k), .int (nI u), .retAddr 0] [] _ _ _
  refine zR_s rfl ?_
  refine zR_get rfl rfl (zm0 h75) rfl ?_
  refine zR_s rfl ?_
  refine zR_ildMH rfl h75 ((show k < 64 by omega)) ?_
  refine zR_s rfl ?_
  exact w
theorem m_mdepth {n : Nat} (h75 : hc.length = 75) (hm : M ≤ 64) (hH : zHK M K H) (hu : u < M) (hl : zchn K M n (K u)) : zMe sL sx d 78 [.ref 75, .int (nI u)] (hc ++ (zMd N F G H Z c B ++ t)) (.returned (some (.int (nI (n + 1))))) (hc ++ (zMd N F G H Z c B ++ t)) := by
  have key : ∀ n q x, zchn K M n x → zR sL sx d 78 9 [.ref 75, .int (nI u), .int (nI q), .int (zsk x)] [] (hc ++ (zMd N F G H Z c B ++ t)) (.returned (some (.int (nI (n + q))))) (hc ++ (zMd N F G H Z c B ++ t)) := by
    intro n
    induction n with
    | zero =>
      intro q x hx
      cases hx
      rw [Nat.zero_add]
      refine zR_s rfl ?_
      refine zR_cst (v := (-1)) rfl rfl rfl ?_
      refine zR_iceq rfl rfl (fun _ => ?_) (fun c => by first | exact absurd ((show zsk none = -1 from rfl)) c | exact absurd c ((show zsk none = -1 from rfl)))
      refine zR_s rfl ?_
      first | refine zR_rete rfl rfl ?_ ?_ | refine zR_retb rfl rfl ?_ ?_
      all_goals (rfl)
    | succ n ih =>
      intro q x hx
      obtain ⟨c1, hc1, rfl, h3⟩ := hx
      have e0 : ¬ zsk (some c1) = -1 := zsk_ne (c := c1) (by omega)
      have w := ih (q + 1) (K c1) h3
      rw [← hH c1 hc1, show n + (q + 1) = n + 1 + q by omega] at w
      rw [show zsk (some c1) = nI c1 from rfl] at e0 ⊢
      refine zR_s rfl ?_
      refine zR_cst (v := (-1)) rfl rfl rfl ?_
      refine zR_iceq rfl rfl (fun c => by first | exact absurd c (e0) | exact absurd (e0) c) (fun _ => ?_)
      first | refine zR_incn rfl rfl rfl ?_ | refine zR_s rfl ?_
      refine zR_s rfl ?_
      refine zR_get rfl rfl (zm0 h75) rfl ?_
      refine zR_s rfl ?_
      refine zR_ildMH rfl h75 ((show c1 < 64 by omega)) ?_
      refine zR_s rfl ?_
      refine zR_goto rfl rfl ?_
      exact w
  have w := key n 1 (K u) hl
  rw [← hH u hu] at w
  show zR sL sx _ 78 0 [.ref 75, .int (nI u), .retAddr 0, .retAddr 0] [] _ _ _
  refine zR_cst (v := 1) rfl rfl rfl ?_
  refine zR_s rfl ?_
  refine zR_s rfl ?_
  refine zR_get rfl rfl (zm0 h75) rfl ?_
  refine zR_s rfl ?_
  refine zR_ildMH rfl h75 ((show u < 64 by omega)) ?_
  refine zR_s rfl ?_
  exact w
theorem m_load (h75 : hc.length = 75) (hM : N 1 = nI M) (hm : M ≤ 64) (hH : zHK M K H) (hC : zCh K M) (hu : u < M) : zMe sL sx (d + 1) 77 [.ref 75, .int (nI u)] (hc ++ (zMd N F G H Z c B ++ t)) (.returned (some (.int (nI (zcnt (zqW K u) M))))) (hc ++ (zMd N F G H Z c B ++ t)) := by
  show zR sL sx _ 77 0 [.ref 75, .int (nI u), .retAddr 0, .retAddr 0] [] _ _ _
  refine zR_cst (v := 0) rfl rfl rfl ?_
  refine zR_s rfl ?_
  refine zR_cst (v := 0) rfl rfl rfl ?_
  refine zR_s rfl ?_
  skip
  refine zR_loop0 (M := M) (fun j => [.ref 75, .int (nI u), .int (nI (zcnt (zqW K u) j)), .int (nI j)]) (fun _ => hc ++ (zMd N F G H Z c B ++ t)) (fun _ => True) rfl rfl trivial (fun _ => ?_) (fun j hj _ ih => ?_)
  · refine zR_s rfl ?_
    refine zR_s rfl ?_
    refine zR_get rfl rfl (zm0 h75) rfl ?_
    refine zR_icge rfl rfl (fun _ => ?_) (fun c => by first | exact absurd ((by rw [hM]; exact Int32.le_refl _)) c | exact absurd c ((by rw [hM]; exact Int32.le_refl _)))
    refine zR_s rfl ?_
    first | refine zR_rete rfl rfl ?_ ?_ | refine zR_retb rfl rfl ?_ ?_
    all_goals (first | rfl | simp [bI, *])
  · have e9 : nI j = nI u → zqW K u j = false := by
      intro e
      have := (nI_eq (a := j) (b := u) (by omega) (by omega)).mp e
      subst this
      exact zlw_self hC hu
    refine zR_s rfl ?_
    refine zR_s rfl ?_
    refine zR_get rfl rfl (zm0 h75) rfl ?_
    refine zR_icge rfl rfl (fun c => by first | exact absurd c ((by rw [hM]; exact nI_ge hj (by omega))) | exact absurd ((by rw [hM]; exact nI_ge hj (by omega))) c) (fun _ => ?_)
    refine zR_s rfl ?_
    refine zR_s rfl ?_
    refine zR_s rfl ?_
    refine zR_iceq rfl rfl (fun c1 => ?_) (fun c1 => ?_)
    · refine zR_cst (v := 0) rfl rfl rfl ?_
      refine zR_iadd rfl ?_
      refine zR_s rfl ?_
      first | refine zR_incn rfl rfl rfl ?_ | refine zR_s rfl ?_
      refine zR_goto rfl rfl ?_
      first | (have w := ih trivial; rw [zcnt_f (e9 c1), ← i32_a0 (nI (zcnt (zqW K u) j))] at w; exact w) | (have w := ih trivial; rw [zcnt_f (show zqW K u j = false from c2), ← i32_a0 (nI (zcnt (zqW K u) j))] at w; exact w) | (have w := ih trivial; rw [zcnt_t (show zqW K u j = true from c2), nI_succ] at w; exact w)
    · refine zR_s rfl ?_
      refine zR_s rfl ?_
      refine zR_s rfl ?_
      refine zR_call rfl rfl rfl rfl (zcallok_v (zm0 h75) rfl rfl) (m_isIn h75 hm hH hC hj hu) ?_
      first | refine zR_df rfl rfl (fun c2 => ?_) (fun c2 => ?_) | refine zR_bf rfl rfl (fun c2 => ?_) (fun c2 => ?_) | refine zR_ifeq rfl rfl (fun c2 => ?_) (fun c2 => ?_)
      · refine zR_cst (v := 0) rfl rfl rfl ?_
        refine zR_iadd rfl ?_
        refine zR_s rfl ?_
        first | refine zR_incn rfl rfl rfl ?_ | refine zR_s rfl ?_
        refine zR_goto rfl rfl ?_
        first | (have w := ih trivial; rw [zcnt_f (e9 c1), ← i32_a0 (nI (zcnt (zqW K u) j))] at w; exact w) | (have w := ih trivial; rw [zcnt_f (show zqW K u j = false from c2), ← i32_a0 (nI (zcnt (zqW K u) j))] at w; exact w) | (have w := ih trivial; rw [zcnt_t (show zqW K u j = true from c2), nI_succ] at w; exact w)
      · refine zR_cst (v := 1) rfl rfl rfl ?_
        refine zR_s rfl ?_
        refine zR_iadd rfl ?_
        refine zR_s rfl ?_
        first | refine zR_incn rfl rfl rfl ?_ | refine zR_s rfl ?_
        refine zR_goto rfl rfl ?_
        first | (have w := ih trivial; rw [zcnt_f (e9 c1), ← i32_a0 (nI (zcnt (zqW K u) j))] at w; exact w) | (have w := ih trivial; rw [zcnt_f (show zqW K u j = false from c2), ← i32_a0 (nI (zcnt (zqW K u) j))] at w; exact w) | (have w := ih trivial; rw [zcnt_t (show zqW K u j = true from c2), nI_succ] at w; exact w)
/-- depth without a look at the state -/
def zde (K : Nat → Option Nat) (i : Nat) : Nat := zdp K 4 (K i) + 1
theorem zde_le (K : Nat → Option Nat) (i : Nat) : zde K i ≤ 5 := by have := zdp_le K 4 (K i); simp only [zde]; omega
theorem m_mdepth2 (h75 : hc.length = 75) (hm : M ≤ 64) (hH : zHK M K H) (hC : zCh K M) (hu : u < M) : zMe sL sx d 78 [.ref 75, .int (nI u)] (hc ++ (zMd N F G H Z c B ++ t)) (.returned (some (.int (nI (zde K u))))) (hc ++ (zMd N F G H Z c B ++ t)) := by
  obtain ⟨n, hn, hl⟩ := hC u hu
  rw [zde, zdp_fuel hl hn]
  exact m_mdepth h75 hm hH hu hl
theorem zmx_ge {p : Nat → Bool} {f : Nat → Nat} {b : Nat} : ∀ n, b ≤ zmx p f b n := by
  intro n
  induction n with
  | zero => exact Nat.le_refl _
  | succ n ih => simp only [zmx]; cases p n <;> simp <;> omega
theorem nI_sub1 {a b : Nat} (h : b ≤ a) : nI a - nI b + 1 = nI (a - b + 1) := by
  obtain ⟨k, rfl⟩ := Nat.exists_eq_add_of_le h
  rw [← nI_add, Nat.add_sub_cancel_left, ← nI_1]
  congr 1
  rw [Int32.add_comm, Int32.add_sub_cancel]
theorem zde_lt (hC : zCh K M) {k : Nat} (hk : k < M) (hw : zlw K u 4 (K k) = true) : zde K u < zde K k := by
  obtain ⟨n, hn, hl⟩ := hC k hk
  obtain ⟨m, hm, h2⟩ := zchn_mem hl hw
  rw [zde, zde, zdp_fuel hl hn, zdp_fuel h2 (show m ≤ 4 by omega)]
  omega
theorem m_tall (h75 : hc.length = 75) (hM : N 1 = nI M) (hm : M ≤ 64) (hH : zHK M K H) (hC : zCh K M) (hu : u < M) : zMe sL sx (d + 1) 80 [.ref 75, .int (nI u)] (hc ++ (zMd N F G H Z c B ++ t)) (.returned (some (.int (nI (zmx (zqW K u) (zde K) (zde K u) M) - nI (zde K u) + 1)))) (hc ++ (zMd N F G H Z c B ++ t)) := by
  have hge : ∀ j, zde K u ≤ zmx (zqW K u) (zde K) (zde K u) j := fun j => zmx_ge j
  have hle : ∀ j, zmx (zqW K u) (zde K) (zde K u) j ≤ 5 := fun j => zmx_le (zde_le K u) (zde_le K) j
  rw [nI_sub1 (hge M)]
  show zR sL sx _ 80 0 [.ref 75, .int (nI u), .retAddr 0, .retAddr 0] [] _ _ _
  refine zR_cst (v := 1) rfl rfl rfl ?_
  refine zR_s rfl ?_
  refine zR_cst (v := 0) rfl rfl rfl ?_
  refine zR_s rfl ?_
  skip
  refine zR_loop0 (M := M) (fun j => [.ref 75, .int (nI u), .int (nI (zmx (zqW K u) (zde K) (zde K u) j - zde K u + 1)), .int (nI j)]) (fun _ => hc ++ (zMd N F G H Z c B ++ t)) (fun _ => True) (by simp only [zmx, Nat.sub_self]; rfl) rfl trivial (fun _ => ?_) (fun j hj _ ih => ?_)
  · refine zR_s rfl ?_
    refine zR_s rfl ?_
    refine zR_get rfl rfl (zm0 h75) rfl ?_
    refine zR_icge rfl rfl (fun _ => ?_) (fun c => by first | exact absurd ((by rw [hM]; exact Int32.le_refl _)) c | exact absurd c ((by rw [hM]; exact Int32.le_refl _)))
    refine zR_s rfl ?_
    first | refine zR_rete rfl rfl ?_ ?_ | refine zR_retb rfl rfl ?_ ?_
    all_goals (first | rfl | simp [bI, *])
  · have g1 := hge j
    have g2 := hle j
    have g3 := zde_le K j
    have w := ih trivial
    have wf : zqW K u j = false → zmx (zqW K u) (zde K) (zde K u) (j + 1) = zmx (zqW K u) (zde K) (zde K u) j := by intro e; simp [zmx, e]
    have wt : zqW K u j = true → zmx (zqW K u) (zde K) (zde K u) (j + 1) = max (zmx (zqW K u) (zde K) (zde K u) j) (zde K j) := by intro e; simp [zmx, e]
    cases hb : zqW K u j with
    | false =>
      rw [wf hb] at w
      refine zR_s rfl ?_
      refine zR_s rfl ?_
      refine zR_get rfl rfl (zm0 h75) rfl ?_
      refine zR_icge rfl rfl (fun c => by first | exact absurd c ((by rw [hM]; exact nI_ge hj (by omega))) | exact absurd ((by rw [hM]; exact nI_ge hj (by omega))) c) (fun _ => ?_)
      refine zR_s rfl ?_
      refine zR_s rfl ?_
      refine zR_s rfl ?_
      refine zR_call rfl rfl rfl rfl (zcallok_v (zm0 h75) rfl rfl) (m_isIn h75 hm hH hC hj hu) ?_
      first | refine zR_df rfl rfl (fun c1 => ?_) (fun c1 => absurd (c1.symm.trans hb) (by decide)) | refine zR_bf rfl rfl (fun c1 => ?_) (fun c1 => absurd (c1.symm.trans hb) (by decide)) | refine zR_ifeq rfl rfl (fun c1 => ?_) (fun c1 => absurd (c1.symm.trans hb) (by decide))
      first | refine zR_incn rfl rfl rfl ?_ | refine zR_s rfl ?_
      refine zR_goto rfl rfl ?_
      exact w
    | true =>
      have g4 := zde_lt hC hj hb
      have e5 : nI (zde K j) - nI (zde K u) + 1 = nI (zde K j - zde K u + 1) := nI_sub1 (by omega)
      by_cases q : zde K j ≤ zmx (zqW K u) (zde K) (zde K u) j
      · rw [wt hb, Nat.max_eq_left q] at w
        refine zR_s rfl ?_
        refine zR_s rfl ?_
        refine zR_get rfl rfl (zm0 h75) rfl ?_
        refine zR_icge rfl rfl (fun c => by first | exact absurd c ((by rw [hM]; exact nI_ge hj (by omega))) | exact absurd ((by rw [hM]; exact nI_ge hj (by omega))) c) (fun _ => ?_)
        refine zR_s rfl ?_
        refine zR_s rfl ?_
        refine zR_s rfl ?_
        refine zR_call rfl rfl rfl rfl (zcallok_v (zm0 h75) rfl rfl) (m_isIn h75 hm hH hC hj hu) ?_
        first | refine zR_df rfl rfl (fun c1 => absurd (c1.symm.trans hb) (by decide)) (fun c1 => ?_) | refine zR_bf rfl rfl (fun c1 => absurd (c1.symm.trans hb) (by decide)) (fun c1 => ?_) | refine zR_ifeq rfl rfl (fun c1 => absurd (c1.symm.trans hb) (by decide)) (fun c1 => ?_)
        refine zR_s rfl ?_
        refine zR_s rfl ?_
        first | refine zR_call rfl rfl rfl rfl (zcallok_v (zm0 h75) rfl rfl) (m_mdepth2 h75 hm hH hC hj) ?_ | refine zR_call rfl rfl rfl rfl (zcallok_v (zm0 h75) rfl rfl) (m_mdepth2 h75 hm hH hC hu) ?_
        refine zR_s rfl ?_
        refine zR_s rfl ?_
        first | refine zR_call rfl rfl rfl rfl (zcallok_v (zm0 h75) rfl rfl) (m_mdepth2 h75 hm hH hC hj) ?_ | refine zR_call rfl rfl rfl rfl (zcallok_v (zm0 h75) rfl rfl) (m_mdepth2 h75 hm hH hC hu) ?_
        refine zR_isub rfl ?_
        refine zR_cst (v := 1) rfl rfl rfl ?_
        refine zR_iadd rfl ?_
        refine zR_s rfl ?_
        refine zR_icle rfl rfl (fun _ => ?_) (fun c => by first | exact absurd ((by rw [e5]; exact nI_le (by omega) (by omega))) c | exact absurd c ((by rw [e5]; exact nI_le (by omega) (by omega))))
        first | refine zR_incn rfl rfl rfl ?_ | refine zR_s rfl ?_
        refine zR_goto rfl rfl ?_
        exact w
      · rw [wt hb, Nat.max_eq_right (by omega), ← e5] at w
        refine zR_s rfl ?_
        refine zR_s rfl ?_
        refine zR_get rfl rfl (zm0 h75) rfl ?_
        refine zR_icge rfl rfl (fun c => by first | exact absurd c ((by rw [hM]; exact nI_ge hj (by omega))) | exact absurd ((by rw [hM]; exact nI_ge hj (by omega))) c) (fun _ => ?_)
        refine zR_s rfl ?_
        refine zR_s rfl ?_
        refine zR_s rfl ?_
        refine zR_call rfl rfl rfl rfl (zcallok_v (zm0 h75) rfl rfl) (m_isIn h75 hm hH hC hj hu) ?_
        first | refine zR_df rfl rfl (fun c1 => absurd (c1.symm.trans hb) (by decide)) (fun c1 => ?_) | refine zR_bf rfl rfl (fun c1 => absurd (c1.symm.trans hb) (by decide)) (fun c1 => ?_) | refine zR_ifeq rfl rfl (fun c1 => absurd (c1.symm.trans hb) (by decide)) (fun c1 => ?_)
        refine zR_s rfl ?_
        refine zR_s rfl ?_
        first | refine zR_call rfl rfl rfl rfl (zcallok_v (zm0 h75) rfl rfl) (m_mdepth2 h75 hm hH hC hj) ?_ | refine zR_call rfl rfl rfl rfl (zcallok_v (zm0 h75) rfl rfl) (m_mdepth2 h75 hm hH hC hu) ?_
        refine zR_s rfl ?_
        refine zR_s rfl ?_
        first | refine zR_call rfl rfl rfl rfl (zcallok_v (zm0 h75) rfl rfl) (m_mdepth2 h75 hm hH hC hj) ?_ | refine zR_call rfl rfl rfl rfl (zcallok_v (zm0 h75) rfl rfl) (m_mdepth2 h75 hm hH hC hu) ?_
        refine zR_isub rfl ?_
        refine zR_cst (v := 1) rfl rfl rfl ?_
        refine zR_iadd rfl ?_
        refine zR_s rfl ?_
        refine zR_icle rfl rfl (fun c => by first | exact absurd c ((by rw [e5]; exact nI_ge (by omega) (by omega))) | exact absurd ((by rw [e5]; exact nI_ge (by omega) (by omega))) c) (fun _ => ?_)
        refine zR_s rfl ?_
        refine zR_s rfl ?_
        first | refine zR_call rfl rfl rfl rfl (zcallok_v (zm0 h75) rfl rfl) (m_mdepth2 h75 hm hH hC hj) ?_ | refine zR_call rfl rfl rfl rfl (zcallok_v (zm0 h75) rfl rfl) (m_mdepth2 h75 hm hH hC hu) ?_
        refine zR_s rfl ?_
        refine zR_s rfl ?_
        first | refine zR_call rfl rfl rfl rfl (zcallok_v (zm0 h75) rfl rfl) (m_mdepth2 h75 hm hH hC hj) ?_ | refine zR_call rfl rfl rfl rfl (zcallok_v (zm0 h75) rfl rfl) (m_mdepth2 h75 hm hH hC hu) ?_
        refine zR_isub rfl ?_
        refine zR_cst (v := 1) rfl rfl rfl ?_
        refine zR_iadd rfl ?_
        refine zR_s rfl ?_
        first | refine zR_incn rfl rfl rfl ?_ | refine zR_s rfl ?_
        refine zR_goto rfl rfl ?_
        exact w
theorem m_areAlike {w : Nat} (h75 : hc.length = 75) (hu : u < 64) (hw : w < 64) : zMe sL sx d 84 [.ref 75, .int (nI u), .int (nI w)] (hc ++ (zMd N F G H Z c B ++ t)) (.returned (some (.int (bI (decide (G u 0 = G w 0 ∧ G u 3 = G w 3 ∧ G u 5 = G w 5 ∧ G u 6 = G w 6 ∧ H u = H w)))))) (hc ++ (zMd N F G H Z c B ++ t)) := by
  show zR sL sx _ 84 0 [.ref 75, .int (nI u), .int (nI w)] [] _ _ _
  refine zR_s rfl ?_
  refine zR_get rfl rfl (zm0 h75) rfl ?_
  refine zR_s rfl ?_
  first | refine zR_ildMG 0 rfl h75 (by decide) (hu) ?_ | refine zR_ildMG 0 rfl h75 (by decide) (hw) ?_
  refine zR_s rfl ?_
  refine zR_get rfl rfl (zm0 h75) rfl ?_
  refine zR_s rfl ?_
  first | refine zR_ildMG 0 rfl h75 (by decide) (hu) ?_ | refine zR_ildMG 0 rfl h75 (by decide) (hw) ?_
  refine zR_icne rfl rfl (fun c1 => ?_) (fun c1 => ?_)
  · refine zR_cst (v := 0) rfl rfl rfl ?_
    first | refine zR_rete rfl rfl ?_ ?_ | refine zR_retb rfl rfl ?_ ?_
    all_goals (first | rfl | simp [bI, *])
  · refine zR_s rfl ?_
    refine zR_get rfl rfl (zm0 h75) rfl ?_
    refine zR_s rfl ?_
    first | refine zR_ildMG 3 rfl h75 (by decide) (hu) ?_ | refine zR_ildMG 3 rfl h75 (by decide) (hw) ?_
    refine zR_s rfl ?_
    refine zR_get rfl rfl (zm0 h75) rfl ?_
    refine zR_s rfl ?_
    first | refine zR_ildMG 3 rfl h75 (by decide) (hu) ?_ | refine zR_ildMG 3 rfl h75 (by decide) (hw) ?_
    refine zR_icne rfl rfl (fun c2 => ?_) (fun c2 => ?_)
    · refine zR_cst (v := 0) rfl rfl rfl ?_
      first | refine zR_rete rfl rfl ?_ ?_ | refine zR_retb rfl rfl ?_ ?_
      all_goals (first | rfl | simp [bI, *])
    · refine zR_s rfl ?_
      refine zR_get rfl rfl (zm0 h75) rfl ?_
      refine zR_s rfl ?_
      first | refine zR_ildMG 5 rfl h75 (by decide) (hu) ?_ | refine zR_ildMG 5 rfl h75 (by decide) (hw) ?_
      refine zR_s rfl ?_
      refine zR_get rfl rfl (zm0 h75) rfl ?_
      refine zR_s rfl ?_
      first | refine zR_ildMG 5 rfl h75 (by decide) (hu) ?_ | refine zR_ildMG 5 rfl h75 (by decide) (hw) ?_
      refine zR_icne rfl rfl (fun c3 => ?_) (fun c3 => ?_)
      · refine zR_cst (v := 0) rfl rfl rfl ?_
        first | refine zR_rete rfl rfl ?_ ?_ | refine zR_retb rfl rfl ?_ ?_
        all_goals (first | rfl | simp [bI, *])
      · refine zR_s rfl ?_
        refine zR_get rfl rfl (zm0 h75) rfl ?_
        refine zR_s rfl ?_
        first | refine zR_ildMG 6 rfl h75 (by decide) (hu) ?_ | refine zR_ildMG 6 rfl h75 (by decide) (hw) ?_
        refine zR_s rfl ?_
        refine zR_get rfl rfl (zm0 h75) rfl ?_
        refine zR_s rfl ?_
        first | refine zR_ildMG 6 rfl h75 (by decide) (hu) ?_ | refine zR_ildMG 6 rfl h75 (by decide) (hw) ?_
        refine zR_icne rfl rfl (fun c4 => ?_) (fun c4 => ?_)
        · refine zR_cst (v := 0) rfl rfl rfl ?_
          first | refine zR_rete rfl rfl ?_ ?_ | refine zR_retb rfl rfl ?_ ?_
          all_goals (first | rfl | simp [bI, *])
        · refine zR_s rfl ?_
          refine zR_get rfl rfl (zm0 h75) rfl ?_
          refine zR_s rfl ?_
          first | refine zR_ildMH rfl h75 (hu) ?_ | refine zR_ildMH rfl h75 (hw) ?_
          refine zR_s rfl ?_
          refine zR_get rfl rfl (zm0 h75) rfl ?_
          refine zR_s rfl ?_
          first | refine zR_ildMH rfl h75 (hu) ?_ | refine zR_ildMH rfl h75 (hw) ?_
          refine zR_icne rfl rfl (fun c5 => ?_) (fun c5 => ?_)
          · refine zR_cst (v := 0) rfl rfl rfl ?_
            first | refine zR_rete rfl rfl ?_ ?_ | refine zR_retb rfl rfl ?_ ?_
            all_goals (first | rfl | simp [bI, *])
          · refine zR_cst (v := 1) rfl rfl rfl ?_
            refine zR_s rfl ?_
            first | refine zR_rete rfl rfl ?_ ?_ | refine zR_retb rfl rfl ?_ ?_
            all_goals (first | rfl | simp [bI, *])
end ZML
end
section
/-! the reference's leave and mayBecome -/
def zgb (K : Nat → Option Nat) (u k : Nat) : Bool := decide (k = u) || zlw K u 4 (K k)
def zbl (B : Nat → Int32) (K : Nat → Option Nat) (u j : Nat) : Nat → Int32 := fun k => bif decide (k < j) then bI (zgb K u k) else B k
def zhl (H : Nat → Int32) (K : Nat → Option Nat) (u j : Nat) : Nat → Int32 := fun k => bif decide (k < j) && zgb K u k then -1 else H k
section ZMV
variable {sL : Nat} {sx : Nat → Int32} {d : Nat} {h : zH}
variable {N : Nat → Int32} {F G : Nat → Nat → Int32} {K : Nat → Option Nat} {H : Nat → Int32} {Z : Nat → Int64} {c : Int32} {B : Nat → Int32} {hc t : zH} {M A u i : Nat}
theorem zbl_0 : zbl B K u 0 = B := by funext i; simp [zbl]
theorem zbl_s {j : Nat} : zbl B K u (j + 1) = upd (zbl B K u j) j (bI (zgb K u j)) := by
  funext i
  simp only [zbl, upd]
  by_cases e : i = j
  · subst e; simp
  · rw [if_neg e, show decide (i < j + 1) = decide (i < j) from by simp; omega]
theorem zhl_0 : zhl H K u 0 = H := by funext i; simp [zhl]
theorem zhl_s {j : Nat} : zhl H K u (j + 1) = bif zgb K u j then upd (zhl H K u j) j (-1) else zhl H K u j := by
  cases hb : zgb K u j
  · funext i
    simp only [zhl, cond_false]
    by_cases e : i = j
    · subst e; simp [hb]
    · rw [show decide (i < j + 1) = decide (i < j) from by simp; omega]
  · funext i
    simp only [zhl, cond_true, upd]
    by_cases e : i = j
    · subst e; simp [hb]
    · rw [if_neg e, show decide (i < j + 1) = decide (i < j) from by simp; omega]
theorem zgb_t1 {k : Nat} (hk : k < 2 ^ 31) (hu : u < 2 ^ 31) (e : nI k = nI u) : zgb K u k = true := by simp [zgb, (nI_eq hk hu).mp e]
theorem zgb_w {k : Nat} {b : Bool} (hk : k < 2 ^ 31) (hu : u < 2 ^ 31) (e : ¬ nI k = nI u) (e2 : zlw K u 4 (K k) = b) : zgb K u k = b := by
  have : ¬ k = u := fun q => e (by rw [q])
  simp [zgb, this, e2]
theorem m_leave {s : Int32} (h75 : hc.length = 75) (hM : N 1 = nI M) (hm : M ≤ 64) (hH : zHK M K H) (hC : zCh K M) (hu : u < M) : zMe sL sx (d + 1) 86 [.ref 75, .int (nI u), .int s] (hc ++ (zMd N F G H Z c B ++ t)) (.returned none) (hc ++ (zMd N F (ztak G K u s M) (zhl H K u M) Z c (zbl B K u M) ++ t)) := by
  show zR sL sx _ 86 0 [.ref 75, .int (nI u), .int s, .retAddr 0] [] _ _ _
  refine zR_cst (v := 0) rfl rfl rfl ?_
  refine zR_s rfl ?_
  skip
  refine zR_loop0 (M := M) (fun j => [.ref 75, .int (nI u), .int s, .int (nI j)]) (fun j => hc ++ (zMd N F G H Z c (zbl B K u j) ++ t)) (fun _ => True) rfl (by rw [zbl_0]) trivial (fun _ => ?_) (fun j hj _ ih => ?_)
  · refine zR_s rfl ?_
    refine zR_s rfl ?_
    refine zR_get rfl rfl (zm0 h75) rfl ?_
    refine zR_icge rfl rfl (fun _ => ?_) (fun c => by first | exact absurd ((by rw [hM]; exact Int32.le_refl _)) c | exact absurd c ((by rw [hM]; exact Int32.le_refl _)))
    refine zR_cst (v := 0) rfl rfl rfl ?_
    refine zR_s rfl ?_
    skip
    refine zR_loop0 (M := M) (fun j => [.ref 75, .int (nI u), .int s, .int (nI j)]) (fun j => hc ++ (zMd N F (ztak G K u s j) (zhl H K u j) Z c (zbl B K u M) ++ t)) (fun _ => True) rfl (by rw [zhl_0, ztak_0]) trivial (fun _ => ?_) (fun j hj _ ih => ?_)
    · refine zR_s rfl ?_
      refine zR_s rfl ?_
      refine zR_get rfl rfl (zm0 h75) rfl ?_
      refine zR_icge rfl rfl (fun _ => ?_) (fun c => by first | exact absurd ((by rw [hM]; exact Int32.le_refl _)) c | exact absurd c ((by rw [hM]; exact Int32.le_refl _)))
      refine zR_rete rfl rfl ?_ ?_
      all_goals (first | rfl | simp [bI, *])
    · have eb : zbl B K u M j = bI (zgb K u j) := by simp [zbl, hj]
      have w := ih trivial
      rw [ztak_s, zhl_s] at w
      refine zR_s rfl ?_
      refine zR_s rfl ?_
      refine zR_get rfl rfl (zm0 h75) rfl ?_
      refine zR_icge rfl rfl (fun c => by first | exact absurd c ((by rw [hM]; exact nI_ge hj (by omega))) | exact absurd ((by rw [hM]; exact nI_ge hj (by omega))) c) (fun _ => ?_)
      refine zR_s rfl ?_
      refine zR_get rfl rfl (zm0 h75) rfl ?_
      refine zR_s rfl ?_
      refine zR_bldMB rfl h75 (by omega) ?_
      rw [eb]
      first | refine zR_dt rfl rfl (fun c1 => ?_) (fun c1 => ?_) | refine zR_bt rfl rfl (fun c1 => ?_) (fun c1 => ?_) | refine zR_ifne rfl rfl (fun c1 => ?_) (fun c1 => ?_)
      · refine zR_s rfl ?_
        refine zR_get rfl rfl (zm0 h75) rfl ?_
        refine zR_s rfl ?_
        refine zR_s rfl ?_
        refine zR_istMG 5 rfl h75 (by decide) (by omega) ?_
        refine zR_s rfl ?_
        refine zR_get rfl rfl (zm0 h75) rfl ?_
        refine zR_s rfl ?_
        refine zR_cst (v := (-1)) rfl rfl rfl ?_
        refine zR_istMG 6 rfl h75 (by decide) (by omega) ?_
        refine zR_s rfl ?_
        refine zR_get rfl rfl (zm0 h75) rfl ?_
        refine zR_s rfl ?_
        refine zR_cst (v := (-1)) rfl rfl rfl ?_
        refine zR_istMH rfl h75 (by omega) ?_
        first | refine zR_incn rfl rfl rfl ?_ | refine zR_s rfl ?_
        refine zR_goto rfl rfl ?_
        (rw [show (decide (j = u) || zlw K u 4 (K j)) = _ from c1, show zgb K u j = _ from c1] at w; exact w)
      · refine zR_s rfl ?_
        first | refine zR_incn rfl rfl rfl ?_ | refine zR_s rfl ?_
        refine zR_goto rfl rfl ?_
        (rw [show (decide (j = u) || zlw K u 4 (K j)) = _ from c1, show zgb K u j = _ from c1] at w; exact w)
  · have w := ih trivial
    rw [zbl_s] at w
    refine zR_s rfl ?_
    refine zR_s rfl ?_
    refine zR_get rfl rfl (zm0 h75) rfl ?_
    refine zR_icge rfl rfl (fun c => by first | exact absurd c ((by rw [hM]; exact nI_ge hj (by omega))) | exact absurd ((by rw [hM]; exact nI_ge hj (by omega))) c) (fun _ => ?_)
    refine zR_s rfl ?_
    refine zR_get rfl rfl (zm0 h75) rfl ?_
    refine zR_s rfl ?_
    refine zR_s rfl ?_
    refine zR_s rfl ?_
    refine zR_iceq rfl rfl (fun c1 => ?_) (fun c1 => ?_)
    · refine zR_cst (v := 1) rfl rfl rfl ?_
      refine zR_s rfl ?_
      refine zR_bstMB rfl h75 (by omega) (by decide) ?_
      first | refine zR_incn rfl rfl rfl ?_ | refine zR_s rfl ?_
      refine zR_goto rfl rfl ?_
      first | (rw [zgb_t1 (by omega) (by omega) c1] at w; exact w) | (rw [zgb_w (by omega) (by omega) c1 c2] at w; exact w)
    · refine zR_s rfl ?_
      refine zR_s rfl ?_
      refine zR_s rfl ?_
      refine zR_call rfl rfl rfl rfl (zcallok_v (zm0 h75) rfl rfl) (m_isIn h75 hm hH hC hj hu) ?_
      first | refine zR_df rfl rfl (fun c2 => ?_) (fun c2 => ?_) | refine zR_bf rfl rfl (fun c2 => ?_) (fun c2 => ?_) | refine zR_ifeq rfl rfl (fun c2 => ?_) (fun c2 => ?_)
      · refine zR_cst (v := 0) rfl rfl rfl ?_
        refine zR_bstMB rfl h75 (by omega) (by decide) ?_
        first | refine zR_incn rfl rfl rfl ?_ | refine zR_s rfl ?_
        refine zR_goto rfl rfl ?_
        first | (rw [zgb_t1 (by omega) (by omega) c1] at w; exact w) | (rw [zgb_w (by omega) (by omega) c1 c2] at w; exact w)
      · refine zR_cst (v := 1) rfl rfl rfl ?_
        refine zR_s rfl ?_
        refine zR_bstMB rfl h75 (by omega) (by decide) ?_
        first | refine zR_incn rfl rfl rfl ?_ | refine zR_s rfl ?_
        refine zR_goto rfl rfl ?_
        first | (rw [zgb_t1 (by omega) (by omega) c1] at w; exact w) | (rw [zgb_w (by omega) (by omega) c1 c2] at w; exact w)
theorem m_mayBecome {s : Int32} {l : Nat} (h75 : hc.length = 75) (hu : u < 64) (hg : G u 0 = nI l) (hl : l < 16) (hf : F 3 l = G u 2) (hst : G u 5 = 0 ∨ G u 5 = 1 ∨ G u 5 = 2 ∨ G u 5 = 3 ∨ G u 5 = 4 ∨ G u 5 = 5) : zMe sL sx (d + 1) 87 [.ref 75, .int (nI u), .int s] (hc ++ (zMd N F G H Z c B ++ t)) (.returned (some (.int (bI (zbec (G u 5) (G u 2) s (N 3)))))) (hc ++ (zMd N F G H Z c B ++ t)) := by
  show zR sL sx _ 87 0 [.ref 75, .int (nI u), .int s, .retAddr 0] [] _ _ _
  refine zR_s rfl ?_
  refine zR_get rfl rfl (zm0 h75) rfl ?_
  refine zR_s rfl ?_
  refine zR_ildMG 5 rfl h75 (by decide) (hu) ?_
  refine zR_s rfl ?_
  refine zR_s rfl ?_
  refine zR_cst (v := 5) rfl rfl rfl ?_
  refine zR_icne rfl rfl (fun c1 => ?_) (fun c1 => ?_)
  · refine zR_s rfl ?_
    first | refine zR_dt rfl rfl (fun c2 => ?_) (fun c2 => ?_) | refine zR_bt rfl rfl (fun c2 => ?_) (fun c2 => ?_) | refine zR_ifne rfl rfl (fun c2 => ?_) (fun c2 => ?_)
    · refine zR_s rfl ?_
      refine zR_cst (v := 1) rfl rfl rfl ?_
      refine zR_icne rfl rfl (fun c3 => ?_) (fun c3 => ?_)
      · refine zR_s rfl ?_
        refine zR_cst (v := 2) rfl rfl rfl ?_
        refine zR_icne rfl rfl (fun c4 => ?_) (fun c4 => ?_)
        · refine zR_cst (v := 0) rfl rfl rfl ?_
          first | refine zR_rete rfl rfl ?_ ?_ | refine zR_retb rfl rfl ?_ ?_
          all_goals (first | rfl | (rw [← hf]; rcases hst with e | e | e | e | e | e <;> first | (simp_all [zbec, bI]; done) | (simp_all [zbec, bI]; rw [decide_eq_false (Int32.not_lt.mpr (by assumption))]; rfl)))
        · refine zR_s rfl ?_
          first | refine zR_df rfl rfl (fun c5 => ?_) (fun c5 => ?_) | refine zR_bf rfl rfl (fun c5 => ?_) (fun c5 => ?_) | refine zR_ifeq rfl rfl (fun c5 => ?_) (fun c5 => ?_)
          · refine zR_cst (v := 1) rfl rfl rfl ?_
            refine zR_s rfl ?_
            first | refine zR_rete rfl rfl ?_ ?_ | refine zR_retb rfl rfl ?_ ?_
            all_goals (first | rfl | (rw [← hf]; rcases hst with e | e | e | e | e | e <;> first | (simp_all [zbec, bI]; done) | (simp_all [zbec, bI]; rw [decide_eq_false (Int32.not_lt.mpr (by assumption))]; rfl)))
          · refine zR_s rfl ?_
            refine zR_cst (v := 1) rfl rfl rfl ?_
            refine zR_icne rfl rfl (fun c6 => ?_) (fun c6 => ?_)
            · refine zR_cst (v := 0) rfl rfl rfl ?_
              first | refine zR_rete rfl rfl ?_ ?_ | refine zR_retb rfl rfl ?_ ?_
              all_goals (first | rfl | (rw [← hf]; rcases hst with e | e | e | e | e | e <;> first | (simp_all [zbec, bI]; done) | (simp_all [zbec, bI]; rw [decide_eq_false (Int32.not_lt.mpr (by assumption))]; rfl)))
            · refine zR_cst (v := 1) rfl rfl rfl ?_
              refine zR_s rfl ?_
              first | refine zR_rete rfl rfl ?_ ?_ | refine zR_retb rfl rfl ?_ ?_
              all_goals (first | rfl | (rw [← hf]; rcases hst with e | e | e | e | e | e <;> first | (simp_all [zbec, bI]; done) | (simp_all [zbec, bI]; rw [decide_eq_false (Int32.not_lt.mpr (by assumption))]; rfl)))
      · refine zR_s rfl ?_
        first | refine zR_df rfl rfl (fun c4 => ?_) (fun c4 => ?_) | refine zR_bf rfl rfl (fun c4 => ?_) (fun c4 => ?_) | refine zR_ifeq rfl rfl (fun c4 => ?_) (fun c4 => ?_)
        · refine zR_s rfl ?_
          refine zR_s rfl ?_
          refine zR_get rfl rfl (zm0 h75) rfl ?_
          refine zR_s rfl ?_
          refine zR_ildMG 0 rfl h75 (by decide) (hu) ?_
          rw [hg]
          refine zR_call rfl rfl rfl rfl (zcallok_v (zm0 h75) rfl rfl) (m_misOver h75 hl) ?_
          first | refine zR_dt rfl rfl (fun c5 => ?_) (fun c5 => ?_) | refine zR_bt rfl rfl (fun c5 => ?_) (fun c5 => ?_) | refine zR_ifne rfl rfl (fun c5 => ?_) (fun c5 => ?_)
          · refine zR_cst (v := 0) rfl rfl rfl ?_
            first | refine zR_rete rfl rfl ?_ ?_ | refine zR_retb rfl rfl ?_ ?_
            all_goals (first | rfl | (rw [← hf]; rcases hst with e | e | e | e | e | e <;> first | (simp_all [zbec, bI]; done) | (simp_all [zbec, bI]; rw [decide_eq_false (Int32.not_lt.mpr (by assumption))]; rfl)))
          · refine zR_cst (v := 1) rfl rfl rfl ?_
            refine zR_s rfl ?_
            first | refine zR_rete rfl rfl ?_ ?_ | refine zR_retb rfl rfl ?_ ?_
            all_goals (first | rfl | (rw [← hf]; rcases hst with e | e | e | e | e | e <;> first | (simp_all [zbec, bI]; done) | (simp_all [zbec, bI]; rw [decide_eq_false (Int32.not_lt.mpr (by assumption))]; rfl)))
        · refine zR_s rfl ?_
          refine zR_cst (v := 2) rfl rfl rfl ?_
          refine zR_icne rfl rfl (fun c5 => ?_) (fun c5 => ?_)
          · refine zR_cst (v := 0) rfl rfl rfl ?_
            first | refine zR_rete rfl rfl ?_ ?_ | refine zR_retb rfl rfl ?_ ?_
            all_goals (first | rfl | (rw [← hf]; rcases hst with e | e | e | e | e | e <;> first | (simp_all [zbec, bI]; done) | (simp_all [zbec, bI]; rw [decide_eq_false (Int32.not_lt.mpr (by assumption))]; rfl)))
          · refine zR_s rfl ?_
            refine zR_s rfl ?_
            refine zR_get rfl rfl (zm0 h75) rfl ?_
            refine zR_s rfl ?_
            refine zR_ildMG 0 rfl h75 (by decide) (hu) ?_
            rw [hg]
            refine zR_call rfl rfl rfl rfl (zcallok_v (zm0 h75) rfl rfl) (m_misOver h75 hl) ?_
            first | refine zR_dt rfl rfl (fun c6 => ?_) (fun c6 => ?_) | refine zR_bt rfl rfl (fun c6 => ?_) (fun c6 => ?_) | refine zR_ifne rfl rfl (fun c6 => ?_) (fun c6 => ?_)
            · refine zR_cst (v := 0) rfl rfl rfl ?_
              first | refine zR_rete rfl rfl ?_ ?_ | refine zR_retb rfl rfl ?_ ?_
              all_goals (first | rfl | (rw [← hf]; rcases hst with e | e | e | e | e | e <;> first | (simp_all [zbec, bI]; done) | (simp_all [zbec, bI]; rw [decide_eq_false (Int32.not_lt.mpr (by assumption))]; rfl)))
            · refine zR_cst (v := 1) rfl rfl rfl ?_
              refine zR_s rfl ?_
              first | refine zR_rete rfl rfl ?_ ?_ | refine zR_retb rfl rfl ?_ ?_
              all_goals (first | rfl | (rw [← hf]; rcases hst with e | e | e | e | e | e <;> first | (simp_all [zbec, bI]; done) | (simp_all [zbec, bI]; rw [decide_eq_false (Int32.not_lt.mpr (by assumption))]; rfl)))
    · refine zR_s rfl ?_
      refine zR_cst (v := 1) rfl rfl rfl ?_
      refine zR_icne rfl rfl (fun c3 => ?_) (fun c3 => ?_)
      · refine zR_cst (v := 0) rfl rfl rfl ?_
        first | refine zR_rete rfl rfl ?_ ?_ | refine zR_retb rfl rfl ?_ ?_
        all_goals (first | rfl | (rw [← hf]; rcases hst with e | e | e | e | e | e <;> first | (simp_all [zbec, bI]; done) | (simp_all [zbec, bI]; rw [decide_eq_false (Int32.not_lt.mpr (by assumption))]; rfl)))
      · refine zR_s rfl ?_
        refine zR_s rfl ?_
        refine zR_get rfl rfl (zm0 h75) rfl ?_
        refine zR_s rfl ?_
        refine zR_ildMG 0 rfl h75 (by decide) (hu) ?_
        rw [hg]
        refine zR_call rfl rfl rfl rfl (zcallok_v (zm0 h75) rfl rfl) (m_misOver h75 hl) ?_
        first | refine zR_dt rfl rfl (fun c4 => ?_) (fun c4 => ?_) | refine zR_bt rfl rfl (fun c4 => ?_) (fun c4 => ?_) | refine zR_ifne rfl rfl (fun c4 => ?_) (fun c4 => ?_)
        · refine zR_cst (v := 0) rfl rfl rfl ?_
          first | refine zR_rete rfl rfl ?_ ?_ | refine zR_retb rfl rfl ?_ ?_
          all_goals (first | rfl | (rw [← hf]; rcases hst with e | e | e | e | e | e <;> first | (simp_all [zbec, bI]; done) | (simp_all [zbec, bI]; rw [decide_eq_false (Int32.not_lt.mpr (by assumption))]; rfl)))
        · refine zR_cst (v := 1) rfl rfl rfl ?_
          refine zR_s rfl ?_
          first | refine zR_rete rfl rfl ?_ ?_ | refine zR_retb rfl rfl ?_ ?_
          all_goals (first | rfl | (rw [← hf]; rcases hst with e | e | e | e | e | e <;> first | (simp_all [zbec, bI]; done) | (simp_all [zbec, bI]; rw [decide_eq_false (Int32.not_lt.mpr (by assumption))]; rfl)))
  · refine zR_s rfl ?_
    refine zR_cst (v := 4) rfl rfl rfl ?_
    refine zR_icge rfl rfl (fun c2 => ?_) (fun c2 => ?_)
    · refine zR_cst (v := 0) rfl rfl rfl ?_
      first | refine zR_rete rfl rfl ?_ ?_ | refine zR_retb rfl rfl ?_ ?_
      all_goals (first | rfl | (rw [← hf]; rcases hst with e | e | e | e | e | e <;> first | (simp_all [zbec, bI]; done) | (simp_all [zbec, bI]; rw [decide_eq_false (Int32.not_lt.mpr (by assumption))]; rfl)))
    · refine zR_cst (v := 1) rfl rfl rfl ?_
      refine zR_s rfl ?_
      first | refine zR_rete rfl rfl ?_ ?_ | refine zR_retb rfl rfl ?_ ?_
      all_goals (first | rfl | (rw [← hf]; rcases hst with e | e | e | e | e | e <;> first | (simp_all [zbec, bI]; done) | (simp_all [zbec, bI]; rw [decide_eq_false (Int32.not_lt.mpr (by assumption))]; rfl)))
end ZMV
end
section
/-! what holds of the cells throughout, and the reference's acts held against the class's -/
def zUn (F G : Nat → Nat → Int32) (K : Nat → Option Nat) (Z : Nat → Int64) (M l i : Nat) : Prop := (∃ a, a < l ∧ G i 0 = nI a ∧ G i 1 = F 2 a ∧ G i 2 = F 3 a) ∧ (∃ w, w < 8 ∧ G i 3 = nI w) ∧ (∃ n, 1 ≤ n ∧ n ≤ 1000 ∧ G i 4 = nI n) ∧ (∃ s, s ≤ 5 ∧ G i 5 = nI s) ∧ (zst (G i) = true → ∃ p, p < 16 ∧ G i 6 = nI p) ∧ (zst (G i) = false → G i 6 = -1 ∧ K i = none) ∧ 0 ≤ Z i ∧ (∀ c, K i = some c → c < M ∧ G i 6 = G c 6)
def zInv (N : Nat → Int32) (F G : Nat → Nat → Int32) (K : Nat → Option Nat) (Z : Nat → Int64) (M A l R : Nat) : Prop :=
  (N 0 = nI l ∧ l ≤ 16) ∧ (N 1 = nI M ∧ N 2 = nI R ∧ M ≤ R ∧ R ≤ 64) ∧ (N 4 = nI A ∧ A ≤ 400) ∧ (∀ i, i < M → zUn F G K Z M l i) ∧ zCh K M ∧ zKb K ∧ (∀ p, p < 16 → ∃ m, m ≤ 64 ∧ F 0 p = nI m ∧ zcnt (zqP G (nI p)) M ≤ m) ∧ (∀ a, a < l → ∃ g, g < 8 ∧ F 2 a = nI g)
def zOm (dv : Option Value) (q : zQ) : Outcome := match q with
  | .ok r => .returned r.1
  | .error _ => .returned dv
def zHm (kf : Nat → Int32) (hc t : zH) (N : Nat → Int32) (F G : Nat → Nat → Int32) (H : Nat → Int32) (Z : Nat → Int64) (B H' B' : Nat → Int32) (q : zQ) : zH := match q with
  | .ok r => hc ++ (zMd r.2.1 r.2.2.1 r.2.2.2.1 H' r.2.2.2.2.2 0 B' ++ t)
  | .error e => hc ++ (zMd N F G H Z (kf e) B ++ t)
def kfR (e : Nat) : Int32 := match e with
  | 0 => 1
  | _ => 2
def kfP (e : Nat) : Int32 := match e with
  | 1 => 1
  | _ => 2
def kfU (e : Nat) : Int32 := match e with
  | 4 => 1
  | 1 => 2
  | _ => 3
def kfA (e : Nat) : Int32 := match e with
  | 4 => 1
  | 1 => 2
  | 2 => 3
  | _ => 4
def kfB (e : Nat) : Int32 := match e with
  | 4 => 1
  | 2 => 2
  | _ => 3
def kfW (e : Nat) : Int32 := match e with
  | 4 => 1
  | _ => 2
theorem zcolc {j : Nat} (h : zcolok j = true) : j = 0 ∨ j = 3 ∨ j = 4 ∨ j = 5 ∨ j = 6 := by
  rcases j with _ | _ | _ | _ | _ | _ | _ | j
  all_goals simp [zcolok] at h ⊢
section ZMA
variable {sL : Nat} {sx : Nat → Int32} {d : Nat} {h : zH}
variable {N N' : Nat → Int32} {F F' G G' : Nat → Nat → Int32} {K : Nat → Option Nat} {H : Nat → Int32} {Z : Nat → Int64} {c : Int32} {B : Nat → Int32} {hc t : zH} {M A l R u i : Nat}
theorem zMd_app (h : ∀ i j, zcolok j = true → G i j = G' i j) : hc ++ (zMd N F G H Z c B ++ t) = hc ++ (zMd N F G' H Z c B ++ t) := by
  have : zMd N F G H Z c B = zMd N F G' H Z c B := by
    simp only [zMd]
    refine List.map_congr_left fun k hk => ?_
    rcases k with _ | _ | _ | _ | _ | _ | _ | _ | _ | _ | _ | _ | _ | _ | _ | _ | _ | n
    all_goals first | rfl | simp only [zmcell, h _ 0 rfl, h _ 3 rfl, h _ 4 rfl, h _ 5 rfl, h _ 6 rfl]
  rw [this]
theorem i_m1 (hI : zInv N F G K Z M A l R) : N 1 = nI M := hI.2.1.1
theorem i_m (hI : zInv N F G K Z M A l R) : M ≤ 64 := Nat.le_trans hI.2.1.2.2.1 hI.2.1.2.2.2
theorem i_un (hI : zInv N F G K Z M A l R) {i : Nat} (hi : i < M) : zUn F G K Z M l i := hI.2.2.2.1 i hi
theorem i_ch (hI : zInv N F G K Z M A l R) : zCh K M := hI.2.2.2.2.1
theorem i_kb (hI : zInv N F G K Z M A l R) : zKb K := hI.2.2.2.2.2.1
theorem i_st (hI : zInv N F G K Z M A l R) {i : Nat} (hi : i < M) : G i 5 = 0 ∨ G i 5 = 1 ∨ G i 5 = 2 ∨ G i 5 = 3 ∨ G i 5 = 4 ∨ G i 5 = 5 := by
  obtain ⟨s, hs, e⟩ := (i_un hI hi).2.2.2.1
  rw [e]
  rcases (show s = 0 ∨ s = 1 ∨ s = 2 ∨ s = 3 ∨ s = 4 ∨ s = 5 by omega) with rfl | rfl | rfl | rfl | rfl | rfl <;> decide
/-- standing at a place is being at it -/
theorem i_T (hI : zInv N F G K Z M A l R) {p : Nat} (hp : p < 16) : zcnt (zqT G (nI p)) M = zcnt (zqP G (nI p)) M := by
  refine zcnt_congr fun i hi => ?_
  simp only [zqT, zqP]
  cases hs : zst (G i) with
  | true => simp
  | false =>
    rw [((i_un hI hi).2.2.2.2.2.1 hs).1]
    simp only [Bool.false_and]
    exact (decide_eq_false fun q => zsk_ne (c := p) (by omega) q.symm).symm
theorem i_T2 (hI : zInv N F G K Z M A l R) {p : Int32} (hp : 0 ≤ p ∧ p ≤ 15) : zcnt (zqT G p) M = zcnt (zqP G p) M := by
  obtain ⟨p', h1, rfl, _⟩ := zpl (n := 15) rfl (by decide) hp
  exact i_T hI (by omega)
/-- rows: full or not -/
theorem i_r1 (hI : zInv N F G K Z M A l R) (q : N 4 = 400) : ¬ N 4 + 1 ≤ 400 := by
  rw [q]; decide
theorem i_r2 (hI : zInv N F G K Z M A l R) (q : ¬ N 4 = 400) : N 4 + 1 ≤ 400 := by
  have h1 := hI.2.2.1
  rw [h1.1] at q ⊢
  have : A ≠ 400 := fun e => q (by rw [e]; rfl)
  rw [nI_1]
  exact nI_le (b := 400) (by omega) (by omega)
theorem i_s1 (hI : zInv N F G K Z M A l R) (q : ¬ N 4 ≤ 398) : ¬ N 4 + 2 ≤ 400 := by
  have h1 := hI.2.2.1
  rw [h1.1] at q ⊢
  rw [show nI A + 2 = nI (A + 2) from nI_add A 2]
  intro q2
  have := (nI_leI (a := A + 2) (b := 400) (by omega) (by omega)).mp q2
  exact q (nI_le (b := 398) (by omega) (by omega))
theorem i_s2 (hI : zInv N F G K Z M A l R) (q : N 4 ≤ 398) : N 4 + 2 ≤ 400 := by
  have h1 := hI.2.2.1
  rw [h1.1] at q ⊢
  have := (nI_leI (a := A) (b := 398) (by omega) (by omega)).mp q
  rw [show nI A + 2 = nI (A + 2) from nI_add A 2]
  exact nI_le (b := 400) (by omega) (by omega)
/-- units: full or not -/
theorem i_u1 (hI : zInv N F G K Z M A l R) (q : N 1 = N 2) : ¬ (¬ N 2 ≤ N 1 ∧ M < 64) := fun h => h.1 (by rw [q]; exact Int32.le_refl _)
theorem i_u2 (hI : zInv N F G K Z M A l R) (q : ¬ N 1 = N 2) : ¬ N 2 ≤ N 1 ∧ M < 64 := by
  obtain ⟨h1, h2, h3, h4⟩ := hI.2.1
  rw [h1, h2] at q ⊢
  have : M ≠ R := fun e => q (by rw [e])
  exact ⟨nI_ge (by omega) (by omega), by omega⟩
/-- a place: full or not -/
theorem i_p1 (hI : zInv N F G K Z M A l R) {p : Nat} (hp : p < 16) (q : nI (zcnt (zqP G (nI p)) M) = F 0 p) : ¬ nI (zcnt (zqP G (nI p)) M) + 1 ≤ F 0 p := by
  rw [← q, nI_1]
  have := zcnt_le (zqP G (nI p)) M
  have := i_m hI
  exact nI_ge (by omega) (by omega)
theorem i_p2 (hI : zInv N F G K Z M A l R) {p : Nat} (hp : p < 16) (q : ¬ nI (zcnt (zqP G (nI p)) M) = F 0 p) : nI (zcnt (zqP G (nI p)) M) + 1 ≤ F 0 p := by
  obtain ⟨m, h1, h2, h3⟩ := hI.2.2.2.2.2.2.1 p hp
  rw [h2] at q ⊢
  have : zcnt (zqP G (nI p)) M ≠ m := fun e => q (by rw [e])
  rw [nI_1]
  exact nI_le (by omega) (by omega)
theorem updN_c {a b : Nat} {v w : Int32} (h : a ≠ b) : upd (upd N a v) b w = upd (upd N b w) a v := by
  funext q
  simp only [upd]
  by_cases h1 : q = a <;> by_cases h2 : q = b <;> simp [h1, h2]
  · omega
  · intro e; omega
  · intro e; omega
theorem d_rows {n : Int32} (h75 : hc.length = 75) : zMe sL sx 11 67 [.ref 75, .int n] (hc ++ (zMd N F G H Z c B ++ t)) (zOm none (q_rows N F G K Z n)) (zHm kfR hc t N F G H Z B H B (q_rows N F G K Z n)) := by
  have e1 : upd (upd N 2 n) 1 0 = upd (upd N 1 0) 2 n := updN_c (by decide)
  show zR sL sx _ 67 0 [.ref 75, .int n] [] _ _ _
  refine zR_s rfl ?_
  refine zR_s rfl ?_
  refine zR_ifge rfl rfl (fun c1 => ?_) (fun c1 => ?_)
  · refine zR_s rfl ?_
    refine zR_cst (v := 64) rfl rfl rfl ?_
    refine zR_icle rfl rfl (fun c2 => ?_) (fun c2 => ?_)
    · refine zR_cst (v := 0) rfl rfl rfl ?_
      refine zR_putC rfl rfl h75 rfl ?_
      refine zR_s rfl ?_
      refine zR_get rfl rfl (zm0 h75) rfl ?_
      refine zR_ifle rfl rfl (fun _ => ?_) (fun c => absurd c (by decide))
      refine zR_s rfl ?_
      refine zR_s rfl ?_
      refine zR_putMN 2 rfl rfl h75 (by decide) rfl ?_
      refine zR_s rfl ?_
      refine zR_cst (v := 0) rfl rfl rfl ?_
      refine zR_putMN 1 rfl rfl h75 (by decide) rfl ?_
      refine zR_s rfl ?_
      refine zR_cst (v := 0) rfl rfl rfl ?_
      refine zR_putMN 4 rfl rfl h75 (by decide) rfl ?_
      refine zR_rete rfl rfl ?_ ?_
      all_goals (first | contradiction | (simp only [zOm, zHm, q_rows, kfR, e1, c1, c2, if_true, if_false, not_true_eq_false, not_false_eq_true, and_self, and_true, true_and, or_true, true_or, or_false, false_or, and_false, false_and, reduceCtorEq, Bool.false_eq_true, ite_self]; done) | (simp only [zOm, zHm, q_rows, kfR, c1, c2, if_true, if_false, not_true_eq_false, not_false_eq_true, and_self, and_true, true_and, or_true, true_or, or_false, false_or, and_false, false_and, reduceCtorEq, Bool.false_eq_true, ite_self]; done))
    · refine zR_cst (v := 2) rfl rfl rfl ?_
      refine zR_s rfl ?_
      refine zR_putC rfl rfl h75 rfl ?_
      refine zR_s rfl ?_
      refine zR_get rfl rfl (zm0 h75) rfl ?_
      refine zR_ifle rfl rfl (fun c => absurd c (by decide)) (fun _ => ?_)
      refine zR_rete rfl rfl ?_ ?_
      all_goals (first | contradiction | (simp only [zOm, zHm, q_rows, kfR, e1, c1, c2, if_true, if_false, not_true_eq_false, not_false_eq_true, and_self, and_true, true_and, or_true, true_or, or_false, false_or, and_false, false_and, reduceCtorEq, Bool.false_eq_true, ite_self]; done) | (simp only [zOm, zHm, q_rows, kfR, c1, c2, if_true, if_false, not_true_eq_false, not_false_eq_true, and_self, and_true, true_and, or_true, true_or, or_false, false_or, and_false, false_and, reduceCtorEq, Bool.false_eq_true, ite_self]; done))
  · refine zR_cst (v := 1) rfl rfl rfl ?_
    refine zR_s rfl ?_
    refine zR_putC rfl rfl h75 rfl ?_
    refine zR_s rfl ?_
    refine zR_get rfl rfl (zm0 h75) rfl ?_
    refine zR_ifle rfl rfl (fun c => absurd c (by decide)) (fun _ => ?_)
    refine zR_rete rfl rfl ?_ ?_
    all_goals (first | contradiction | (simp only [zOm, zHm, q_rows, kfR, e1, c1, if_true, if_false, not_true_eq_false, not_false_eq_true, and_self, and_true, true_and, or_true, true_or, or_false, false_or, and_false, false_and, reduceCtorEq, Bool.false_eq_true, ite_self]; done) | (simp only [zOm, zHm, q_rows, kfR, c1, if_true, if_false, not_true_eq_false, not_false_eq_true, and_self, and_true, true_and, or_true, true_or, or_false, false_or, and_false, false_and, reduceCtorEq, Bool.false_eq_true, ite_self]; done))
theorem d_place {p m : Int32} (h75 : hc.length = 75) (hI : zInv N F G K Z M A l R) : zMe sL sx 11 69 [.ref 75, .int p, .int m] (hc ++ (zMd N F G H Z c B ++ t)) (zOm none (q_place N F G K Z M p m)) (zHm kfP hc t N F G H Z B H B (q_place N F G K Z M p m)) := by
  show zR sL sx _ 69 0 [.ref 75, .int p, .int m] [] _ _ _
  refine zR_s rfl ?_
  refine zR_s rfl ?_
  refine zR_s rfl ?_
  refine zR_lc (v := 0) rfl rfl ?_
  refine zR_ldc2 (v := 15) rfl rfl ?_
  refine zR_call rfl rfl rfl rfl (zcallok_s rfl) (m_in (b := 0) (c := 15)) ?_
  first | refine zR_df rfl rfl (fun c1 => ?_) (fun c1 => ?_) | refine zR_bf rfl rfl (fun c1 => ?_) (fun c1 => ?_) | refine zR_ifeq rfl rfl (fun c1 => ?_) (fun c1 => ?_)
  · refine zR_cst (v := 1) rfl rfl rfl ?_
    refine zR_s rfl ?_
    refine zR_putC rfl rfl h75 rfl ?_
    refine zR_s rfl ?_
    refine zR_get rfl rfl (zm0 h75) rfl ?_
    refine zR_ifne rfl rfl (fun _ => ?_) (fun c => absurd c (by decide))
    refine zR_rete rfl rfl ?_ ?_
    all_goals (first | contradiction | (simp only [zOm, zHm, q_place, kfP, ep, c1, if_true, if_false, not_true_eq_false, not_false_eq_true, and_self, and_true, true_and, or_true, true_or, or_false, false_or, and_false, false_and, reduceCtorEq, Bool.false_eq_true, ite_self]; done) | (simp only [zOm, zHm, q_place, kfP, c1, if_true, if_false, not_true_eq_false, not_false_eq_true, and_self, and_true, true_and, or_true, true_or, or_false, false_or, and_false, false_and, reduceCtorEq, Bool.false_eq_true, ite_self]; done))
  · refine zR_s rfl ?_
    refine zR_s rfl ?_
    refine zR_lc (v := 0) rfl rfl ?_
    refine zR_ldc2 (v := 64) rfl rfl ?_
    refine zR_call rfl rfl rfl rfl (zcallok_s rfl) (m_in (b := 0) (c := 64)) ?_
    first | refine zR_dt rfl rfl (fun c2 => ?_) (fun c2 => ?_) | refine zR_bt rfl rfl (fun c2 => ?_) (fun c2 => ?_) | refine zR_ifne rfl rfl (fun c2 => ?_) (fun c2 => ?_)
    · refine zR_s rfl ?_
      refine zR_s rfl ?_
      refine zR_call rfl rfl rfl rfl (zcallok_v (zm0 h75) rfl rfl) (m_standingAt h75 (i_m1 hI) (i_m hI)) ?_
      rw [i_T2 hI c1]
      refine zR_s rfl ?_
      refine zR_icle rfl rfl (fun c3 => ?_) (fun c3 => ?_)
      · refine zR_cst (v := 0) rfl rfl rfl ?_
        refine zR_putC rfl rfl h75 rfl ?_
        refine zR_s rfl ?_
        refine zR_get rfl rfl (zm0 h75) rfl ?_
        refine zR_ifne rfl rfl (fun c => absurd c (by decide)) (fun _ => ?_)
        obtain ⟨p', hp, rfl, ep⟩ := zpl (n := 15) rfl (by decide) c1
        refine zR_s rfl ?_
        refine zR_get rfl rfl (zm0 h75) rfl ?_
        refine zR_s rfl ?_
        refine zR_s rfl ?_
        refine zR_istMF 0 rfl h75 (by decide) ((show p' < 16 by omega)) ?_
        refine zR_rete rfl rfl ?_ ?_
        all_goals (first | contradiction | (simp only [zOm, zHm, q_place, kfP, ep, c1, c2, c3, if_true, if_false, not_true_eq_false, not_false_eq_true, and_self, and_true, true_and, or_true, true_or, or_false, false_or, and_false, false_and, reduceCtorEq, Bool.false_eq_true, ite_self]; done) | (simp only [zOm, zHm, q_place, kfP, c1, c2, c3, if_true, if_false, not_true_eq_false, not_false_eq_true, and_self, and_true, true_and, or_true, true_or, or_false, false_or, and_false, false_and, reduceCtorEq, Bool.false_eq_true, ite_self]; done))
      · refine zR_cst (v := 2) rfl rfl rfl ?_
        refine zR_s rfl ?_
        refine zR_putC rfl rfl h75 rfl ?_
        refine zR_s rfl ?_
        refine zR_get rfl rfl (zm0 h75) rfl ?_
        refine zR_ifne rfl rfl (fun _ => ?_) (fun c => absurd c (by decide))
        refine zR_rete rfl rfl ?_ ?_
        all_goals (first | contradiction | (simp only [zOm, zHm, q_place, kfP, ep, c1, c2, c3, if_true, if_false, not_true_eq_false, not_false_eq_true, and_self, and_true, true_and, or_true, true_or, or_false, false_or, and_false, false_and, reduceCtorEq, Bool.false_eq_true, ite_self]; done) | (simp only [zOm, zHm, q_place, kfP, c1, c2, c3, if_true, if_false, not_true_eq_false, not_false_eq_true, and_self, and_true, true_and, or_true, true_or, or_false, false_or, and_false, false_and, reduceCtorEq, Bool.false_eq_true, ite_self]; done))
    · refine zR_cst (v := 1) rfl rfl rfl ?_
      refine zR_s rfl ?_
      refine zR_putC rfl rfl h75 rfl ?_
      refine zR_s rfl ?_
      refine zR_get rfl rfl (zm0 h75) rfl ?_
      refine zR_ifne rfl rfl (fun _ => ?_) (fun c => absurd c (by decide))
      refine zR_rete rfl rfl ?_ ?_
      all_goals (first | contradiction | (simp only [zOm, zHm, q_place, kfP, ep, c1, c2, if_true, if_false, not_true_eq_false, not_false_eq_true, and_self, and_true, true_and, or_true, true_or, or_false, false_or, and_false, false_and, reduceCtorEq, Bool.false_eq_true, ite_self]; done) | (simp only [zOm, zHm, q_place, kfP, c1, c2, if_true, if_false, not_true_eq_false, not_false_eq_true, and_self, and_true, true_and, or_true, true_or, or_false, false_or, and_false, false_and, reduceCtorEq, Bool.false_eq_true, ite_self]; done))
theorem d_good {p m : Int32} (h75 : hc.length = 75) : zMe sL sx 11 70 [.ref 75, .int p, .int m] (hc ++ (zMd N F G H Z c B ++ t)) (zOm none (q_good N F G K Z p m)) (zHm kfP hc t N F G H Z B H B (q_good N F G K Z p m)) := by
  show zR sL sx _ 70 0 [.ref 75, .int p, .int m] [] _ _ _
  refine zR_s rfl ?_
  refine zR_s rfl ?_
  refine zR_s rfl ?_
  refine zR_lc (v := 0) rfl rfl ?_
  refine zR_ldc2 (v := 7) rfl rfl ?_
  refine zR_call rfl rfl rfl rfl (zcallok_s rfl) (m_in (b := 0) (c := 7)) ?_
  first | refine zR_df rfl rfl (fun c1 => ?_) (fun c1 => ?_) | refine zR_bf rfl rfl (fun c1 => ?_) (fun c1 => ?_) | refine zR_ifeq rfl rfl (fun c1 => ?_) (fun c1 => ?_)
  · refine zR_cst (v := 1) rfl rfl rfl ?_
    refine zR_putC rfl rfl h75 rfl ?_
    refine zR_s rfl ?_
    refine zR_get rfl rfl (zm0 h75) rfl ?_
    refine zR_ifne rfl rfl (fun _ => ?_) (fun c => absurd c (by decide))
    refine zR_rete rfl rfl ?_ ?_
    all_goals (first | contradiction | (simp only [zOm, zHm, q_good, kfP, ep, c1, if_true, if_false, not_true_eq_false, not_false_eq_true, and_self, and_true, true_and, or_true, true_or, or_false, false_or, and_false, false_and, reduceCtorEq, Bool.false_eq_true, ite_self]; done) | (simp only [zOm, zHm, q_good, kfP, c1, if_true, if_false, not_true_eq_false, not_false_eq_true, and_self, and_true, true_and, or_true, true_or, or_false, false_or, and_false, false_and, reduceCtorEq, Bool.false_eq_true, ite_self]; done))
  · refine zR_s rfl ?_
    refine zR_s rfl ?_
    refine zR_lc (v := 1) rfl rfl ?_
    refine zR_ldc2 (v := 30000) rfl rfl ?_
    refine zR_call rfl rfl rfl rfl (zcallok_s rfl) (m_in (b := 1) (c := 30000)) ?_
    first | refine zR_df rfl rfl (fun c2 => ?_) (fun c2 => ?_) | refine zR_bf rfl rfl (fun c2 => ?_) (fun c2 => ?_) | refine zR_ifeq rfl rfl (fun c2 => ?_) (fun c2 => ?_)
    · refine zR_cst (v := 1) rfl rfl rfl ?_
      refine zR_putC rfl rfl h75 rfl ?_
      refine zR_s rfl ?_
      refine zR_get rfl rfl (zm0 h75) rfl ?_
      refine zR_ifne rfl rfl (fun _ => ?_) (fun c => absurd c (by decide))
      refine zR_rete rfl rfl ?_ ?_
      all_goals (first | contradiction | (simp only [zOm, zHm, q_good, kfP, ep, c1, c2, if_true, if_false, not_true_eq_false, not_false_eq_true, and_self, and_true, true_and, or_true, true_or, or_false, false_or, and_false, false_and, reduceCtorEq, Bool.false_eq_true, ite_self]; done) | (simp only [zOm, zHm, q_good, kfP, c1, c2, if_true, if_false, not_true_eq_false, not_false_eq_true, and_self, and_true, true_and, or_true, true_or, or_false, false_or, and_false, false_and, reduceCtorEq, Bool.false_eq_true, ite_self]; done))
    · refine zR_cst (v := 0) rfl rfl rfl ?_
      refine zR_s rfl ?_
      refine zR_putC rfl rfl h75 rfl ?_
      refine zR_s rfl ?_
      refine zR_get rfl rfl (zm0 h75) rfl ?_
      refine zR_ifne rfl rfl (fun c => absurd c (by decide)) (fun _ => ?_)
      obtain ⟨p', hp, rfl, ep⟩ := zpl (n := 7) rfl (by decide) c1
      refine zR_s rfl ?_
      refine zR_get rfl rfl (zm0 h75) rfl ?_
      refine zR_s rfl ?_
      refine zR_s rfl ?_
      refine zR_istMF 1 rfl h75 (by decide) ((show p' < 8 by omega)) ?_
      refine zR_rete rfl rfl ?_ ?_
      all_goals (first | contradiction | (simp only [zOm, zHm, q_good, kfP, ep, c1, c2, if_true, if_false, not_true_eq_false, not_false_eq_true, and_self, and_true, true_and, or_true, true_or, or_false, false_or, and_false, false_and, reduceCtorEq, Bool.false_eq_true, ite_self]; done) | (simp only [zOm, zHm, q_good, kfP, c1, c2, if_true, if_false, not_true_eq_false, not_false_eq_true, and_self, and_true, true_and, or_true, true_or, or_false, false_or, and_false, false_and, reduceCtorEq, Bool.false_eq_true, ite_self]; done))
theorem d_lot {p m : Int32} (h75 : hc.length = 75) (hI : zInv N F G K Z M A l R) : zMe sL sx 11 71 [.ref 75, .int p, .int m] (hc ++ (zMd N F G H Z c B ++ t)) (zOm (some (.int 0)) (q_lot N F G K Z l p m)) (zHm kfP hc t N F G H Z B H B (q_lot N F G K Z l p m)) := by
  have hl := hI.1
  have h1 : N 0 = 16 → ¬ l < 16 := fun q q2 => by
    rw [hl.1] at q
    have := (nI_eq (a := l) (b := 16) (by omega) (by omega)).mp q
    omega
  have h2 : ¬ N 0 = 16 → l < 16 := fun q => Nat.lt_of_le_of_ne hl.2 fun e => q (by rw [hl.1, e]; rfl)
  have tail : 0 ≤ p ∧ p ≤ 7 → 0 ≤ m ∧ m ≤ 1000 → l < 16 → zR sL sx 11 71 55 [.ref 75, .int p, .int m] [] (hc ++ (zMd N F G H Z 0 B ++ t)) (zOm (some (.int 0)) (q_lot N F G K Z l p m)) (zHm kfP hc t N F G H Z B H B (q_lot N F G K Z l p m)) := by
    intro c1 c2 c3
    have e1 : zOm (some (.int 0)) (q_lot N F G K Z l p m) = .returned (some (.int (nI (l + 1) - 1))) := by
      rw [nI_pred]
      simp only [zOm, q_lot, if_pos c1, if_pos c2, if_pos c3]
    have e2 : zHm kfP hc t N F G H Z B H B (q_lot N F G K Z l p m) = hc ++ (zMd (upd (upd N 0 (nI l)) 0 (nI (l + 1))) (updF (updF F 2 (upd (F 2) l p)) 3 (upd (F 3) l m)) G H Z 0 B ++ t) := by
      rw [updN_2]
      simp only [zHm, q_lot, if_pos c1, if_pos c2, if_pos c3]
    rw [e1, e2, show nI (l + 1) = nI l + 1 from nI_succ l]
    suffices hs : zR sL sx 11 71 55 [.ref 75, .int p, .int m] [] (hc ++ (zMd (upd N 0 (nI l)) F G H Z 0 B ++ t)) (.returned (some (.int (nI l + 1 - 1)))) (hc ++ (zMd (upd (upd N 0 (nI l)) 0 (nI l + 1)) (updF (updF F 2 (upd (F 2) l p)) 3 (upd (F 3) l m)) G H Z 0 B ++ t)) by
      rw [← updN_id hl.1] at hs ⊢
      exact hs
    refine zR_s rfl ?_
    refine zR_get rfl rfl (zm0 h75) rfl ?_
    refine zR_s rfl ?_
    refine zR_get rfl rfl (zm0 h75) rfl ?_
    refine zR_s rfl ?_
    refine zR_istMF 2 rfl h75 (by decide) ((show l < 16 from c3)) ?_
    refine zR_s rfl ?_
    refine zR_get rfl rfl (zm0 h75) rfl ?_
    refine zR_s rfl ?_
    refine zR_get rfl rfl (zm0 h75) rfl ?_
    refine zR_s rfl ?_
    refine zR_istMF 3 rfl h75 (by decide) ((show l < 16 from c3)) ?_
    refine zR_s rfl ?_
    refine zR_s rfl ?_
    refine zR_get rfl rfl (zm0 h75) rfl ?_
    refine zR_cst (v := 1) rfl rfl rfl ?_
    refine zR_iadd rfl ?_
    refine zR_putMN 0 rfl rfl h75 (by decide) rfl ?_
    refine zR_s rfl ?_
    refine zR_get rfl rfl (zm0 h75) rfl ?_
    refine zR_cst (v := 1) rfl rfl rfl ?_
    refine zR_isub rfl ?_
    first | refine zR_rete rfl rfl ?_ ?_ | refine zR_retb rfl rfl ?_ ?_
    all_goals (rfl)
  show zR sL sx _ 71 0 [.ref 75, .int p, .int m] [] _ _ _
  refine zR_s rfl ?_
  refine zR_s rfl ?_
  refine zR_s rfl ?_
  refine zR_lc (v := 0) rfl rfl ?_
  refine zR_ldc2 (v := 7) rfl rfl ?_
  refine zR_call rfl rfl rfl rfl (zcallok_s rfl) (m_in (b := 0) (c := 7)) ?_
  first | refine zR_df rfl rfl (fun c1 => ?_) (fun c1 => ?_) | refine zR_bf rfl rfl (fun c1 => ?_) (fun c1 => ?_) | refine zR_ifeq rfl rfl (fun c1 => ?_) (fun c1 => ?_)
  · refine zR_cst (v := 1) rfl rfl rfl ?_
    refine zR_s rfl ?_
    refine zR_putC rfl rfl h75 rfl ?_
    refine zR_s rfl ?_
    refine zR_get rfl rfl (zm0 h75) rfl ?_
    refine zR_ifle rfl rfl (fun c => absurd c (by decide)) (fun _ => ?_)
    refine zR_cst (v := 0) rfl rfl rfl ?_
    first | refine zR_rete rfl rfl ?_ ?_ | refine zR_retb rfl rfl ?_ ?_
    all_goals (first | contradiction | (simp only [zOm, zHm, q_lot, kfP, c1, if_true, if_false, not_true_eq_false, not_false_eq_true, and_self, and_true, true_and, or_true, true_or, or_false, false_or, and_false, false_and, reduceCtorEq, Bool.false_eq_true, ite_self]; done) | (simp only [zOm, zHm, q_lot, kfP, c1, if_true, if_false, not_true_eq_false, not_false_eq_true, and_self, and_true, true_and, or_true, true_or, or_false, false_or, and_false, false_and, reduceCtorEq, Bool.false_eq_true, ite_self]; done))
  · refine zR_s rfl ?_
    refine zR_s rfl ?_
    refine zR_lc (v := 0) rfl rfl ?_
    refine zR_ldc2 (v := 1000) rfl rfl ?_
    refine zR_call rfl rfl rfl rfl (zcallok_s rfl) (m_in (b := 0) (c := 1000)) ?_
    first | refine zR_dt rfl rfl (fun c2 => ?_) (fun c2 => ?_) | refine zR_bt rfl rfl (fun c2 => ?_) (fun c2 => ?_) | refine zR_ifne rfl rfl (fun c2 => ?_) (fun c2 => ?_)
    · refine zR_s rfl ?_
      refine zR_get rfl rfl (zm0 h75) rfl ?_
      refine zR_cst (v := 16) rfl rfl rfl ?_
      refine zR_icne rfl rfl (fun c3 => ?_) (fun c3 => ?_)
      · refine zR_cst (v := 0) rfl rfl rfl ?_
        refine zR_putC rfl rfl h75 rfl ?_
        refine zR_s rfl ?_
        refine zR_get rfl rfl (zm0 h75) rfl ?_
        refine zR_ifle rfl rfl (fun _ => ?_) (fun c => absurd c (by decide))
        exact tail c1 c2 (h2 c3)
      · replace c3 := h1 c3
        refine zR_cst (v := 2) rfl rfl rfl ?_
        refine zR_s rfl ?_
        refine zR_putC rfl rfl h75 rfl ?_
        refine zR_s rfl ?_
        refine zR_get rfl rfl (zm0 h75) rfl ?_
        refine zR_ifle rfl rfl (fun c => absurd c (by decide)) (fun _ => ?_)
        refine zR_cst (v := 0) rfl rfl rfl ?_
        first | refine zR_rete rfl rfl ?_ ?_ | refine zR_retb rfl rfl ?_ ?_
        all_goals (first | contradiction | (simp only [zOm, zHm, q_lot, kfP, c1, c2, c3, if_true, if_false, not_true_eq_false, not_false_eq_true, and_self, and_true, true_and, or_true, true_or, or_false, false_or, and_false, false_and, reduceCtorEq, Bool.false_eq_true, ite_self]; done) | (simp only [zOm, zHm, q_lot, kfP, c1, c2, c3, if_true, if_false, not_true_eq_false, not_false_eq_true, and_self, and_true, true_and, or_true, true_or, or_false, false_or, and_false, false_and, reduceCtorEq, Bool.false_eq_true, ite_self]; done))
    · refine zR_cst (v := 1) rfl rfl rfl ?_
      refine zR_s rfl ?_
      refine zR_putC rfl rfl h75 rfl ?_
      refine zR_s rfl ?_
      refine zR_get rfl rfl (zm0 h75) rfl ?_
      refine zR_ifle rfl rfl (fun c => absurd c (by decide)) (fun _ => ?_)
      refine zR_cst (v := 0) rfl rfl rfl ?_
      first | refine zR_rete rfl rfl ?_ ?_ | refine zR_retb rfl rfl ?_ ?_
      all_goals (first | contradiction | (simp only [zOm, zHm, q_lot, kfP, c1, c2, if_true, if_false, not_true_eq_false, not_false_eq_true, and_self, and_true, true_and, or_true, true_or, or_false, false_or, and_false, false_and, reduceCtorEq, Bool.false_eq_true, ite_self]; done) | (simp only [zOm, zHm, q_lot, kfP, c1, c2, if_true, if_false, not_true_eq_false, not_false_eq_true, and_self, and_true, true_and, or_true, true_or, or_false, false_or, and_false, false_and, reduceCtorEq, Bool.false_eq_true, ite_self]; done))
end ZMA
end
section
/-! the reference's acts, further -/
section ZMB
variable {sL : Nat} {sx : Nat → Int32} {d : Nat} {h : zH}
variable {N N' : Nat → Int32} {F F' G G' : Nat → Nat → Int32} {K : Nat → Option Nat} {H : Nat → Int32} {Z : Nat → Int64} {c : Int32} {B : Nat → Int32} {hc t : zH} {M A l R u i : Nat}
theorem zMd_app2 (e1 : N = N') (e2 : F = F') (h : ∀ i j, zcolok j = true → G i j = G' i j) : hc ++ (zMd N F G H Z c B ++ t) = hc ++ (zMd N' F' G' H Z c B ++ t) := by
  subst e1; subst e2; exact zMd_app h
theorem i_v (hI : zInv N F G K Z M A l R) {j : Nat} (hj : j < M) : 0 ≤ nI j ∧ nI j ≤ N 1 - 1 := by
  have := i_m hI
  refine ⟨nI_pos' (by omega), ?_⟩
  obtain ⟨A', rfl⟩ : ∃ A', M = A' + 1 := ⟨M - 1, by omega⟩
  rw [i_m1 hI, nI_pred]
  exact nI_le (by omega) (by omega)
theorem i_h1 (hI : zInv N F G K Z M A l R) (hH : zHK M K H) {j : Nat} (hj : j < M) (q : H j = -1) : K j = none := by
  rw [hH j hj] at q
  cases e : K j with
  | none => rfl
  | some b => rw [e] at q; exact absurd q (zsk_ne (c := b) (by have := i_kb hI _ _ e; omega))
theorem i_h2 (hI : zInv N F G K Z M A l R) (hH : zHK M K H) {j : Nat} (hj : j < M) (q : ¬ H j = -1) : ¬ K j = none := by
  rw [hH j hj] at q
  intro e
  rw [e] at q
  exact q rfl
theorem i_h3 (hI : zInv N F G K Z M A l R) (hH : zHK M K H) {j w : Nat} (hj : j < M) (hw : w < M) (q : H j = nI w) : K j = some w := by
  have := i_m hI
  rw [hH j hj] at q
  exact (zsk_inj (fun c e => i_kb hI _ _ e) (fun c e => by cases e; omega)).mp (show zsk (K j) = zsk (some w) from q)
theorem i_h4 (hI : zInv N F G K Z M A l R) (hH : zHK M K H) {j w : Nat} (hj : j < M) (q : ¬ H j = nI w) : ¬ K j = some w := by
  intro e
  rw [hH j hj, e] at q
  exact q rfl
theorem i_n1 {k : Nat} (hk : k ≤ 64) (q : ¬ nI k ≤ 0) : ¬ k = 0 := by
  rintro rfl; exact q (by decide)
theorem i_n2 {k : Nat} (hk : k ≤ 64) (q : nI k ≤ 0) : k = 0 := (nI_leI (a := k) (b := 0) (by omega) (by omega)).mp q |> Nat.le_zero.mp
theorem i_z1 {z : Int64} (hz : 0 ≤ z) (q : z ≤ 0) : z = 0 := Int64.le_antisymm q hz
theorem i_z2 {z : Int64} (q : ¬ z ≤ 0) : ¬ z = 0 := fun e => q (by rw [e]; exact Int64.le_refl _)
theorem d_move_no {a p : Int32} (h75 : hc.length = 75) (hM : N 1 = nI M) (hno : ¬ (0 ≤ a ∧ a ≤ nI M - 1)) : zMe sL sx 11 79 [.ref 75, .int a, .int p] (hc ++ (zMd N F G H Z c B ++ t)) (.returned none) (hc ++ (zMd N F G H Z 1 B ++ t)) := by
  rw [← hM] at hno
  show zR sL sx _ 79 0 [.ref 75, .int a, .int p, .retAddr 0] [] _ _ _
  refine zR_s rfl ?_
  refine zR_s rfl ?_
  refine zR_s rfl ?_
  refine zR_call rfl rfl rfl rfl (zcallok_v (zm0 h75) rfl rfl) (m_isUnit h75) ?_
  first | refine zR_dt rfl rfl (fun c1 => absurd (by assumption) hno) (fun c1 => ?_) | refine zR_bt rfl rfl (fun c1 => absurd (by assumption) hno) (fun c1 => ?_) | refine zR_ifne rfl rfl (fun c1 => absurd (by assumption) hno) (fun c1 => ?_)
  refine zR_cst (v := 1) rfl rfl rfl ?_
  refine zR_s rfl ?_
  refine zR_putC rfl rfl h75 rfl ?_
  refine zR_s rfl ?_
  refine zR_get rfl rfl (zm0 h75) rfl ?_
  refine zR_ifne rfl rfl (fun _ => ?_) (fun c => absurd c (by decide))
  refine zR_s rfl ?_
  refine zR_get rfl rfl (zm0 h75) rfl ?_
  refine zR_ifne rfl rfl (fun _ => ?_) (fun c => absurd c (by decide))
  refine zR_s rfl ?_
  refine zR_get rfl rfl (zm0 h75) rfl ?_
  refine zR_ifle rfl rfl (fun c => absurd c (by decide)) (fun _ => ?_)
  refine zR_rete rfl rfl ?_ ?_
  all_goals (rfl)
theorem d_out_no {a : Int32} (h75 : hc.length = 75) (hM : N 1 = nI M) (hno : ¬ (0 ≤ a ∧ a ≤ nI M - 1)) : zMe sL sx 11 82 [.ref 75, .int a] (hc ++ (zMd N F G H Z c B ++ t)) (.returned none) (hc ++ (zMd N F G H Z 1 B ++ t)) := by
  rw [← hM] at hno
  show zR sL sx _ 82 0 [.ref 75, .int a] [] _ _ _
  refine zR_s rfl ?_
  refine zR_s rfl ?_
  refine zR_s rfl ?_
  refine zR_call rfl rfl rfl rfl (zcallok_v (zm0 h75) rfl rfl) (m_isUnit h75) ?_
  first | refine zR_dt rfl rfl (fun c1 => absurd (by assumption) hno) (fun c1 => ?_) | refine zR_bt rfl rfl (fun c1 => absurd (by assumption) hno) (fun c1 => ?_) | refine zR_ifne rfl rfl (fun c1 => absurd (by assumption) hno) (fun c1 => ?_)
  refine zR_cst (v := 1) rfl rfl rfl ?_
  refine zR_s rfl ?_
  refine zR_putC rfl rfl h75 rfl ?_
  refine zR_s rfl ?_
  refine zR_get rfl rfl (zm0 h75) rfl ?_
  refine zR_ifne rfl rfl (fun _ => ?_) (fun c => absurd c (by decide))
  refine zR_s rfl ?_
  refine zR_get rfl rfl (zm0 h75) rfl ?_
  refine zR_ifle rfl rfl (fun c => absurd c (by decide)) (fun _ => ?_)
  refine zR_rete rfl rfl ?_ ?_
  all_goals (rfl)
theorem d_split_no {a p : Int32} (h75 : hc.length = 75) (hM : N 1 = nI M) (hno : ¬ (0 ≤ a ∧ a ≤ nI M - 1)) : zMe sL sx 11 83 [.ref 75, .int a, .int p] (hc ++ (zMd N F G H Z c B ++ t)) (.returned (some (.int 0))) (hc ++ (zMd N F G H Z 1 B ++ t)) := by
  rw [← hM] at hno
  show zR sL sx _ 83 0 [.ref 75, .int a, .int p] [] _ _ _
  refine zR_s rfl ?_
  refine zR_s rfl ?_
  refine zR_s rfl ?_
  refine zR_call rfl rfl rfl rfl (zcallok_v (zm0 h75) rfl rfl) (m_isUnit h75) ?_
  first | refine zR_dt rfl rfl (fun c1 => absurd (by assumption) hno) (fun c1 => ?_) | refine zR_bt rfl rfl (fun c1 => absurd (by assumption) hno) (fun c1 => ?_) | refine zR_ifne rfl rfl (fun c1 => absurd (by assumption) hno) (fun c1 => ?_)
  refine zR_cst (v := 1) rfl rfl rfl ?_
  refine zR_s rfl ?_
  refine zR_putC rfl rfl h75 rfl ?_
  refine zR_s rfl ?_
  refine zR_get rfl rfl (zm0 h75) rfl ?_
  refine zR_ifne rfl rfl (fun _ => ?_) (fun c => absurd c (by decide))
  refine zR_s rfl ?_
  refine zR_get rfl rfl (zm0 h75) rfl ?_
  refine zR_ifne rfl rfl (fun _ => ?_) (fun c => absurd c (by decide))
  refine zR_s rfl ?_
  refine zR_get rfl rfl (zm0 h75) rfl ?_
  refine zR_ifne rfl rfl (fun _ => ?_) (fun c => absurd c (by decide))
  refine zR_s rfl ?_
  refine zR_get rfl rfl (zm0 h75) rfl ?_
  refine zR_ifle rfl rfl (fun c => absurd c (by decide)) (fun _ => ?_)
  refine zR_cst (v := 0) rfl rfl rfl ?_
  first | refine zR_rete rfl rfl ?_ ?_ | refine zR_retb rfl rfl ?_ ?_
  all_goals (rfl)
theorem d_state_no {a p : Int32} (h75 : hc.length = 75) (hM : N 1 = nI M) (hno : ¬ (0 ≤ a ∧ a ≤ nI M - 1)) : zMe sL sx 11 88 [.ref 75, .int a, .int p] (hc ++ (zMd N F G H Z c B ++ t)) (.returned none) (hc ++ (zMd N F G H Z 1 B ++ t)) := by
  rw [← hM] at hno
  show zR sL sx _ 88 0 [.ref 75, .int a, .int p] [] _ _ _
  refine zR_s rfl ?_
  refine zR_s rfl ?_
  refine zR_s rfl ?_
  refine zR_call rfl rfl rfl rfl (zcallok_v (zm0 h75) rfl rfl) (m_isUnit h75) ?_
  first | refine zR_dt rfl rfl (fun c1 => absurd (by assumption) hno) (fun c1 => ?_) | refine zR_bt rfl rfl (fun c1 => absurd (by assumption) hno) (fun c1 => ?_) | refine zR_ifne rfl rfl (fun c1 => absurd (by assumption) hno) (fun c1 => ?_)
  refine zR_cst (v := 1) rfl rfl rfl ?_
  refine zR_s rfl ?_
  refine zR_putC rfl rfl h75 rfl ?_
  refine zR_s rfl ?_
  refine zR_get rfl rfl (zm0 h75) rfl ?_
  refine zR_ifne rfl rfl (fun _ => ?_) (fun c => absurd c (by decide))
  refine zR_s rfl ?_
  refine zR_get rfl rfl (zm0 h75) rfl ?_
  refine zR_ifle rfl rfl (fun c => absurd c (by decide)) (fun _ => ?_)
  refine zR_rete rfl rfl ?_ ?_
  all_goals (rfl)
theorem d_lost_no {a p : Int32} (h75 : hc.length = 75) (hM : N 1 = nI M) (hno : ¬ (0 ≤ a ∧ a ≤ nI M - 1)) : zMe sL sx 11 90 [.ref 75, .int a, .int p] (hc ++ (zMd N F G H Z c B ++ t)) (.returned none) (hc ++ (zMd N F G H Z 1 B ++ t)) := by
  rw [← hM] at hno
  show zR sL sx _ 90 0 [.ref 75, .int a, .int p] [] _ _ _
  refine zR_s rfl ?_
  refine zR_s rfl ?_
  refine zR_s rfl ?_
  refine zR_call rfl rfl rfl rfl (zcallok_v (zm0 h75) rfl rfl) (m_isUnit h75) ?_
  first | refine zR_dt rfl rfl (fun c1 => absurd (by assumption) hno) (fun c1 => ?_) | refine zR_bt rfl rfl (fun c1 => absurd (by assumption) hno) (fun c1 => ?_) | refine zR_ifne rfl rfl (fun c1 => absurd (by assumption) hno) (fun c1 => ?_)
  refine zR_cst (v := 1) rfl rfl rfl ?_
  refine zR_s rfl ?_
  refine zR_putC rfl rfl h75 rfl ?_
  refine zR_s rfl ?_
  refine zR_get rfl rfl (zm0 h75) rfl ?_
  refine zR_ifne rfl rfl (fun _ => ?_) (fun c => absurd c (by decide))
  refine zR_s rfl ?_
  refine zR_get rfl rfl (zm0 h75) rfl ?_
  refine zR_ifle rfl rfl (fun c => absurd c (by decide)) (fun _ => ?_)
  refine zR_rete rfl rfl ?_ ?_
  all_goals (rfl)
theorem d_found_no {a p : Int32} (h75 : hc.length = 75) (hM : N 1 = nI M) (hno : ¬ (0 ≤ a ∧ a ≤ nI M - 1)) : zMe sL sx 11 91 [.ref 75, .int a, .int p] (hc ++ (zMd N F G H Z c B ++ t)) (.returned none) (hc ++ (zMd N F G H Z 1 B ++ t)) := by
  rw [← hM] at hno
  show zR sL sx _ 91 0 [.ref 75, .int a, .int p] [] _ _ _
  refine zR_s rfl ?_
  refine zR_s rfl ?_
  refine zR_s rfl ?_
  refine zR_call rfl rfl rfl rfl (zcallok_v (zm0 h75) rfl rfl) (m_isUnit h75) ?_
  first | refine zR_dt rfl rfl (fun c1 => absurd (by assumption) hno) (fun c1 => ?_) | refine zR_bt rfl rfl (fun c1 => absurd (by assumption) hno) (fun c1 => ?_) | refine zR_ifne rfl rfl (fun c1 => absurd (by assumption) hno) (fun c1 => ?_)
  refine zR_cst (v := 1) rfl rfl rfl ?_
  refine zR_s rfl ?_
  refine zR_putC rfl rfl h75 rfl ?_
  refine zR_s rfl ?_
  refine zR_get rfl rfl (zm0 h75) rfl ?_
  refine zR_ifne rfl rfl (fun _ => ?_) (fun c => absurd c (by decide))
  refine zR_s rfl ?_
  refine zR_get rfl rfl (zm0 h75) rfl ?_
  refine zR_ifle rfl rfl (fun c => absurd c (by decide)) (fun _ => ?_)
  refine zR_rete rfl rfl ?_ ?_
  all_goals (rfl)
theorem d_weigh_no {a p : Int32} (h75 : hc.length = 75) (hM : N 1 = nI M) (hno : ¬ (0 ≤ a ∧ a ≤ nI M - 1)) : zMe sL sx 11 92 [.ref 75, .int a, .int p] (hc ++ (zMd N F G H Z c B ++ t)) (.returned (some (.int 0))) (hc ++ (zMd N F G H Z 1 B ++ t)) := by
  rw [← hM] at hno
  show zR sL sx _ 92 0 [.ref 75, .int a, .int p] [] _ _ _
  refine zR_s rfl ?_
  refine zR_s rfl ?_
  refine zR_s rfl ?_
  refine zR_call rfl rfl rfl rfl (zcallok_v (zm0 h75) rfl rfl) (m_isUnit h75) ?_
  first | refine zR_dt rfl rfl (fun c1 => absurd (by assumption) hno) (fun c1 => ?_) | refine zR_bt rfl rfl (fun c1 => absurd (by assumption) hno) (fun c1 => ?_) | refine zR_ifne rfl rfl (fun c1 => absurd (by assumption) hno) (fun c1 => ?_)
  refine zR_cst (v := 1) rfl rfl rfl ?_
  refine zR_s rfl ?_
  refine zR_putC rfl rfl h75 rfl ?_
  refine zR_s rfl ?_
  refine zR_get rfl rfl (zm0 h75) rfl ?_
  refine zR_ifne rfl rfl (fun _ => ?_) (fun c => absurd c (by decide))
  refine zR_s rfl ?_
  refine zR_get rfl rfl (zm0 h75) rfl ?_
  refine zR_ifle rfl rfl (fun c => absurd c (by decide)) (fun _ => ?_)
  refine zR_cst (v := 0) rfl rfl rfl ?_
  first | refine zR_rete rfl rfl ?_ ?_ | refine zR_retb rfl rfl ?_ ?_
  all_goals (rfl)
theorem d_told_no {a p : Int32} (h75 : hc.length = 75) (hM : N 1 = nI M) (hno : ¬ (0 ≤ a ∧ a ≤ nI M - 1)) : zMe sL sx 11 98 [.ref 75, .int a, .int p] (hc ++ (zMd N F G H Z c B ++ t)) (.returned (some (.int 0))) (hc ++ (zMd N F G H Z 1 B ++ t)) := by
  rw [← hM] at hno
  show zR sL sx _ 98 0 [.ref 75, .int a, .int p] [] _ _ _
  refine zR_s rfl ?_
  refine zR_s rfl ?_
  refine zR_s rfl ?_
  refine zR_call rfl rfl rfl rfl (zcallok_v (zm0 h75) rfl rfl) (m_isUnit h75) ?_
  first | refine zR_dt rfl rfl (fun c1 => absurd (by assumption) hno) (fun c1 => ?_) | refine zR_bt rfl rfl (fun c1 => absurd (by assumption) hno) (fun c1 => ?_) | refine zR_ifne rfl rfl (fun c1 => absurd (by assumption) hno) (fun c1 => ?_)
  refine zR_cst (v := 1) rfl rfl rfl ?_
  refine zR_s rfl ?_
  refine zR_putC rfl rfl h75 rfl ?_
  refine zR_s rfl ?_
  refine zR_get rfl rfl (zm0 h75) rfl ?_
  refine zR_ifle rfl rfl (fun c => absurd c (by decide)) (fun _ => ?_)
  refine zR_cst (v := 0) rfl rfl rfl ?_
  first | refine zR_rete rfl rfl ?_ ?_ | refine zR_retb rfl rfl ?_ ?_
  all_goals (rfl)
theorem d_into_no {a p : Int32} (h75 : hc.length = 75) (hM : N 1 = nI M) (hno : ¬ (0 ≤ a ∧ a ≤ nI M - 1)) : zMe sL sx 11 81 [.ref 75, .int a, .int p] (hc ++ (zMd N F G H Z c B ++ t)) (.returned none) (hc ++ (zMd N F G H Z 1 B ++ t)) := by
  rw [← hM] at hno
  show zR sL sx _ 81 0 [.ref 75, .int a, .int p] [] _ _ _
  refine zR_s rfl ?_
  refine zR_s rfl ?_
  refine zR_s rfl ?_
  refine zR_call rfl rfl rfl rfl (zcallok_v (zm0 h75) rfl rfl) (m_isUnit h75) ?_
  first | refine zR_df rfl rfl (fun c1 => ?_) (fun c1 => absurd (by assumption) hno) | refine zR_bf rfl rfl (fun c1 => ?_) (fun c1 => absurd (by assumption) hno) | refine zR_ifeq rfl rfl (fun c1 => ?_) (fun c1 => absurd (by assumption) hno)
  refine zR_cst (v := 1) rfl rfl rfl ?_
  refine zR_s rfl ?_
  refine zR_putC rfl rfl h75 rfl ?_
  refine zR_s rfl ?_
  refine zR_get rfl rfl (zm0 h75) rfl ?_
  refine zR_ifne rfl rfl (fun _ => ?_) (fun c => absurd c (by decide))
  refine zR_s rfl ?_
  refine zR_get rfl rfl (zm0 h75) rfl ?_
  refine zR_ifne rfl rfl (fun _ => ?_) (fun c => absurd c (by decide))
  refine zR_s rfl ?_
  refine zR_get rfl rfl (zm0 h75) rfl ?_
  refine zR_ifne rfl rfl (fun _ => ?_) (fun c => absurd c (by decide))
  refine zR_s rfl ?_
  refine zR_get rfl rfl (zm0 h75) rfl ?_
  refine zR_ifle rfl rfl (fun c => absurd c (by decide)) (fun _ => ?_)
  refine zR_rete rfl rfl ?_ ?_
  all_goals (rfl)
theorem d_join_no {a p : Int32} (h75 : hc.length = 75) (hM : N 1 = nI M) (hno : ¬ (0 ≤ a ∧ a ≤ nI M - 1)) : zMe sL sx 11 85 [.ref 75, .int a, .int p] (hc ++ (zMd N F G H Z c B ++ t)) (.returned none) (hc ++ (zMd N F G H Z 1 B ++ t)) := by
  rw [← hM] at hno
  show zR sL sx _ 85 0 [.ref 75, .int a, .int p] [] _ _ _
  refine zR_s rfl ?_
  refine zR_s rfl ?_
  refine zR_s rfl ?_
  refine zR_call rfl rfl rfl rfl (zcallok_v (zm0 h75) rfl rfl) (m_isUnit h75) ?_
  first | refine zR_df rfl rfl (fun c1 => ?_) (fun c1 => absurd (by assumption) hno) | refine zR_bf rfl rfl (fun c1 => ?_) (fun c1 => absurd (by assumption) hno) | refine zR_ifeq rfl rfl (fun c1 => ?_) (fun c1 => absurd (by assumption) hno)
  refine zR_cst (v := 1) rfl rfl rfl ?_
  refine zR_s rfl ?_
  refine zR_putC rfl rfl h75 rfl ?_
  refine zR_s rfl ?_
  refine zR_get rfl rfl (zm0 h75) rfl ?_
  refine zR_ifne rfl rfl (fun _ => ?_) (fun c => absurd c (by decide))
  refine zR_s rfl ?_
  refine zR_get rfl rfl (zm0 h75) rfl ?_
  refine zR_ifne rfl rfl (fun _ => ?_) (fun c => absurd c (by decide))
  refine zR_s rfl ?_
  refine zR_get rfl rfl (zm0 h75) rfl ?_
  refine zR_ifne rfl rfl (fun _ => ?_) (fun c => absurd c (by decide))
  refine zR_s rfl ?_
  refine zR_get rfl rfl (zm0 h75) rfl ?_
  refine zR_ifle rfl rfl (fun c => absurd c (by decide)) (fun _ => ?_)
  refine zR_rete rfl rfl ?_ ?_
  all_goals (rfl)
theorem d_packed_no {a : Int32} (h75 : hc.length = 75) (hM : N 1 = nI M) (hno : ¬ (0 ≤ a ∧ a ≤ nI M - 1)) : zMe sL sx 11 99 [.ref 75, .int a] (hc ++ (zMd N F G H Z c B ++ t)) (.returned (some (.long 0))) (hc ++ (zMd N F G H Z 1 B ++ t)) := by
  rw [← hM] at hno
  show zR sL sx _ 99 0 [.ref 75, .int a] [] _ _ _
  refine zR_s rfl ?_
  refine zR_s rfl ?_
  refine zR_s rfl ?_
  refine zR_call rfl rfl rfl rfl (zcallok_v (zm0 h75) rfl rfl) (m_isUnit h75) ?_
  first | refine zR_df rfl rfl (fun c1 => ?_) (fun c1 => absurd (by assumption) hno) | refine zR_bf rfl rfl (fun c1 => ?_) (fun c1 => absurd (by assumption) hno) | refine zR_ifeq rfl rfl (fun c1 => ?_) (fun c1 => absurd (by assumption) hno)
  refine zR_cst (v := 1) rfl rfl rfl ?_
  refine zR_putC rfl rfl h75 rfl ?_
  refine zR_s rfl ?_
  refine zR_get rfl rfl (zm0 h75) rfl ?_
  refine zR_ifle rfl rfl (fun c => absurd c (by decide)) (fun _ => ?_)
  refine zR_lc (v := 0) rfl rfl ?_
  refine zR_rete rfl rfl ?_ ?_
  all_goals (rfl)
theorem d_row_no {a p w : Int32} (h75 : hc.length = 75) (hM : N 1 = nI M) (hno : ¬ (0 ≤ a ∧ a ≤ nI M - 1)) : zMe sL sx 11 97 [.ref 75, .int a, .int p, .int w] (hc ++ (zMd N F G H Z c B ++ t)) (.returned (some (.int 0))) (hc ++ (zMd N F G H Z 1 B ++ t)) := by
  rw [← hM] at hno
  show zR sL sx _ 97 0 [.ref 75, .int a, .int p, .int w, .retAddr 0, .retAddr 0, .retAddr 0] [] _ _ _
  refine zR_cst (v := (-1)) rfl rfl rfl ?_
  refine zR_s rfl ?_
  refine zR_s rfl ?_
  refine zR_s rfl ?_
  refine zR_cst (v := 0) rfl rfl rfl ?_
  refine zR_s rfl ?_
  refine zR_s rfl ?_
  refine zR_s rfl ?_
  refine zR_get rfl rfl (zm0 h75) rfl ?_
  refine zR_icge rfl rfl (fun c1 => ?_) (fun c1 => ?_)
  · refine zR_s rfl ?_
    refine zR_s rfl ?_
    refine zR_cst (v := (-1)) rfl rfl rfl ?_
    refine zR_icne rfl rfl (fun c => absurd c (by decide)) (fun _ => ?_)
    refine zR_cst (v := 1) rfl rfl rfl ?_
    refine zR_s rfl ?_
    refine zR_putC rfl rfl h75 rfl ?_
    refine zR_s rfl ?_
    refine zR_get rfl rfl (zm0 h75) rfl ?_
    refine zR_ifle rfl rfl (fun c => absurd c (by decide)) (fun _ => ?_)
    refine zR_cst (v := 0) rfl rfl rfl ?_
    first | refine zR_rete rfl rfl ?_ ?_ | refine zR_retb rfl rfl ?_ ?_
    all_goals (rfl)
  · refine zR_s rfl ?_
    refine zR_s rfl ?_
    refine zR_call rfl rfl rfl rfl (zcallok_v (zm0 h75) rfl rfl) (m_isUnit h75) ?_
    first | refine zR_df rfl rfl (fun c2 => ?_) (fun c2 => absurd (by assumption) hno) | refine zR_bf rfl rfl (fun c2 => ?_) (fun c2 => absurd (by assumption) hno) | refine zR_ifeq rfl rfl (fun c2 => ?_) (fun c2 => absurd (by assumption) hno)
    refine zR_s rfl ?_
    refine zR_s rfl ?_
    refine zR_cst (v := (-1)) rfl rfl rfl ?_
    refine zR_icne rfl rfl (fun c => absurd c (by decide)) (fun _ => ?_)
    refine zR_cst (v := 1) rfl rfl rfl ?_
    refine zR_s rfl ?_
    refine zR_putC rfl rfl h75 rfl ?_
    refine zR_s rfl ?_
    refine zR_get rfl rfl (zm0 h75) rfl ?_
    refine zR_ifle rfl rfl (fun c => absurd c (by decide)) (fun _ => ?_)
    refine zR_cst (v := 0) rfl rfl rfl ?_
    first | refine zR_rete rfl rfl ?_ ?_ | refine zR_retb rfl rfl ?_ ?_
    all_goals (rfl)
theorem d_into_no2 {j : Nat} {a : Int32} (h75 : hc.length = 75) (hI : zInv N F G K Z M A l R) (hj : j < M) (hno : ¬ (0 ≤ a ∧ a ≤ nI M - 1)) : zMe sL sx 11 81 [.ref 75, .int (nI j), .int a] (hc ++ (zMd N F G H Z c B ++ t)) (.returned none) (hc ++ (zMd N F G H Z 1 B ++ t)) := by
  rw [← i_m1 hI] at hno
  show zR sL sx _ 81 0 [.ref 75, .int (nI j), .int a] [] _ _ _
  refine zR_s rfl ?_
  refine zR_s rfl ?_
  refine zR_s rfl ?_
  refine zR_call rfl rfl rfl rfl (zcallok_v (zm0 h75) rfl rfl) (m_isUnit h75) ?_
  first | refine zR_df rfl rfl (fun c1 => absurd (i_v hI hj) c1) (fun c1 => ?_) | refine zR_bf rfl rfl (fun c1 => absurd (i_v hI hj) c1) (fun c1 => ?_) | refine zR_ifeq rfl rfl (fun c1 => absurd (i_v hI hj) c1) (fun c1 => ?_)
  refine zR_s rfl ?_
  refine zR_s rfl ?_
  refine zR_call rfl rfl rfl rfl (zcallok_v (zm0 h75) rfl rfl) (m_isUnit h75) ?_
  first | refine zR_dt rfl rfl (fun c2 => absurd c2 hno) (fun c2 => ?_) | refine zR_bt rfl rfl (fun c2 => absurd c2 hno) (fun c2 => ?_) | refine zR_ifne rfl rfl (fun c2 => absurd c2 hno) (fun c2 => ?_)
  refine zR_cst (v := 1) rfl rfl rfl ?_
  refine zR_s rfl ?_
  refine zR_putC rfl rfl h75 rfl ?_
  refine zR_s rfl ?_
  refine zR_get rfl rfl (zm0 h75) rfl ?_
  refine zR_ifne rfl rfl (fun _ => ?_) (fun c => absurd c (by decide))
  refine zR_s rfl ?_
  refine zR_get rfl rfl (zm0 h75) rfl ?_
  refine zR_ifne rfl rfl (fun _ => ?_) (fun c => absurd c (by decide))
  refine zR_s rfl ?_
  refine zR_get rfl rfl (zm0 h75) rfl ?_
  refine zR_ifne rfl rfl (fun _ => ?_) (fun c => absurd c (by decide))
  refine zR_s rfl ?_
  refine zR_get rfl rfl (zm0 h75) rfl ?_
  refine zR_ifle rfl rfl (fun c => absurd c (by decide)) (fun _ => ?_)
  refine zR_rete rfl rfl ?_ ?_
  all_goals (rfl)
theorem d_join_no2 {j : Nat} {a : Int32} (h75 : hc.length = 75) (hI : zInv N F G K Z M A l R) (hj : j < M) (hno : ¬ (0 ≤ a ∧ a ≤ nI M - 1)) : zMe sL sx 11 85 [.ref 75, .int (nI j), .int a] (hc ++ (zMd N F G H Z c B ++ t)) (.returned none) (hc ++ (zMd N F G H Z 1 B ++ t)) := by
  rw [← i_m1 hI] at hno
  show zR sL sx _ 85 0 [.ref 75, .int (nI j), .int a] [] _ _ _
  refine zR_s rfl ?_
  refine zR_s rfl ?_
  refine zR_s rfl ?_
  refine zR_call rfl rfl rfl rfl (zcallok_v (zm0 h75) rfl rfl) (m_isUnit h75) ?_
  first | refine zR_df rfl rfl (fun c1 => absurd (i_v hI hj) c1) (fun c1 => ?_) | refine zR_bf rfl rfl (fun c1 => absurd (i_v hI hj) c1) (fun c1 => ?_) | refine zR_ifeq rfl rfl (fun c1 => absurd (i_v hI hj) c1) (fun c1 => ?_)
  refine zR_s rfl ?_
  refine zR_s rfl ?_
  refine zR_call rfl rfl rfl rfl (zcallok_v (zm0 h75) rfl rfl) (m_isUnit h75) ?_
  first | refine zR_dt rfl rfl (fun c2 => absurd c2 hno) (fun c2 => ?_) | refine zR_bt rfl rfl (fun c2 => absurd c2 hno) (fun c2 => ?_) | refine zR_ifne rfl rfl (fun c2 => absurd c2 hno) (fun c2 => ?_)
  refine zR_cst (v := 1) rfl rfl rfl ?_
  refine zR_s rfl ?_
  refine zR_putC rfl rfl h75 rfl ?_
  refine zR_s rfl ?_
  refine zR_get rfl rfl (zm0 h75) rfl ?_
  refine zR_ifne rfl rfl (fun _ => ?_) (fun c => absurd c (by decide))
  refine zR_s rfl ?_
  refine zR_get rfl rfl (zm0 h75) rfl ?_
  refine zR_ifne rfl rfl (fun _ => ?_) (fun c => absurd c (by decide))
  refine zR_s rfl ?_
  refine zR_get rfl rfl (zm0 h75) rfl ?_
  refine zR_ifne rfl rfl (fun _ => ?_) (fun c => absurd c (by decide))
  refine zR_s rfl ?_
  refine zR_get rfl rfl (zm0 h75) rfl ?_
  refine zR_ifle rfl rfl (fun c => absurd c (by decide)) (fun _ => ?_)
  refine zR_rete rfl rfl ?_ ?_
  all_goals (rfl)
theorem d_unit_no {a p w n : Int32} (h75 : hc.length = 75) (hl : N 0 = nI l) (hno : ¬ (0 ≤ a ∧ a ≤ nI l - 1)) : zMe sL sx 11 75 [.ref 75, .int a, .int p, .int w, .int n] (hc ++ (zMd N F G H Z c B ++ t)) (.returned (some (.int 0))) (hc ++ (zMd N F G H Z 1 B ++ t)) := by
  rw [← hl] at hno
  show zR sL sx _ 75 0 [.ref 75, .int a, .int p, .int w, .int n] [] _ _ _
  refine zR_s rfl ?_
  refine zR_s rfl ?_
  refine zR_s rfl ?_
  refine zR_lc (v := 0) rfl rfl ?_
  refine zR_s rfl ?_
  refine zR_get rfl rfl (zm0 h75) rfl ?_
  refine zR_cst (v := 1) rfl rfl rfl ?_
  refine zR_isub rfl ?_
  refine zR_s rfl ?_
  refine zR_call rfl rfl rfl rfl (zcallok_s rfl) (m_in (b := 0) ) ?_
  first | refine zR_dt rfl rfl (fun c1 => absurd c1 hno) (fun c1 => ?_) | refine zR_bt rfl rfl (fun c1 => absurd c1 hno) (fun c1 => ?_) | refine zR_ifne rfl rfl (fun c1 => absurd c1 hno) (fun c1 => ?_)
  refine zR_cst (v := 1) rfl rfl rfl ?_
  refine zR_s rfl ?_
  refine zR_putC rfl rfl h75 rfl ?_
  refine zR_s rfl ?_
  refine zR_get rfl rfl (zm0 h75) rfl ?_
  refine zR_ifne rfl rfl (fun _ => ?_) (fun c => absurd c (by decide))
  refine zR_s rfl ?_
  refine zR_get rfl rfl (zm0 h75) rfl ?_
  refine zR_ifle rfl rfl (fun c => absurd c (by decide)) (fun _ => ?_)
  refine zR_cst (v := 0) rfl rfl rfl ?_
  refine zR_s rfl ?_
  first | refine zR_rete rfl rfl ?_ ?_ | refine zR_retb rfl rfl ?_ ?_
  all_goals (rfl)
theorem zG_unit {a f g p w n x : Int32} : ∀ i j, zcolok j = true → updG (updG (updG (updG (updG (updG (updG G M 0 a) M 1 f) M 2 g) M 3 w) M 4 n) M 5 x) M 6 p i j = updG (updG (updG (updG (updG G M 0 a) M 6 p) M 3 w) M 4 n) M 5 x i j := by
  intro i j hj
  by_cases e : i = M
  · subst e
    rcases zcolc hj with rfl | rfl | rfl | rfl | rfl <;> simp [updG, upd]
  · simp [updG, e]
theorem d_unit {a : Nat} {p w n : Int32} (h75 : hc.length = 75) (hI : zInv N F G K Z M A l R) (hH : zHK M K H) (ha : a < l) : zMe sL sx 11 75 [.ref 75, .int (nI a), .int p, .int w, .int n] (hc ++ (zMd N F G H Z c B ++ t)) (zOm (some (.int 0)) (q_unit N F G K Z M A a p w n)) (zHm kfU hc t N F G H Z B (upd H M (-1)) B (q_unit N F G K Z M A a p w n)) := by
  have hl := hI.1
  have hA := hI.2.2.1
  have h1 : 0 ≤ nI a ∧ nI a ≤ N 0 - 1 := by
    refine ⟨nI_pos' (by omega), ?_⟩
    obtain ⟨A', rfl⟩ : ∃ A', l = A' + 1 := ⟨l - 1, by omega⟩
    rw [hl.1, nI_pred]
    exact nI_le (by omega) (by omega)
  show zR sL sx _ 75 0 [.ref 75, .int (nI a), .int p, .int w, .int n] [] _ _ _
  refine zR_s rfl ?_
  refine zR_s rfl ?_
  refine zR_s rfl ?_
  refine zR_lc (v := 0) rfl rfl ?_
  refine zR_s rfl ?_
  refine zR_get rfl rfl (zm0 h75) rfl ?_
  refine zR_cst (v := 1) rfl rfl rfl ?_
  refine zR_isub rfl ?_
  refine zR_s rfl ?_
  refine zR_call rfl rfl rfl rfl (zcallok_s rfl) (m_in (b := 0) ) ?_
  first | refine zR_dt rfl rfl (fun c1 => ?_) (fun c1 => absurd h1 c1) | refine zR_bt rfl rfl (fun c1 => ?_) (fun c1 => absurd h1 c1) | refine zR_ifne rfl rfl (fun c1 => ?_) (fun c1 => absurd h1 c1)
  refine zR_s rfl ?_
  refine zR_s rfl ?_
  refine zR_lc (v := 0) rfl rfl ?_
  refine zR_ldc2 (v := 15) rfl rfl ?_
  refine zR_call rfl rfl rfl rfl (zcallok_s rfl) (m_in (b := 0) (c := 15)) ?_
  first | refine zR_df rfl rfl (fun c2 => ?_) (fun c2 => ?_) | refine zR_bf rfl rfl (fun c2 => ?_) (fun c2 => ?_) | refine zR_ifeq rfl rfl (fun c2 => ?_) (fun c2 => ?_)
  · refine zR_cst (v := 2) rfl rfl rfl ?_
    refine zR_s rfl ?_
    refine zR_putC rfl rfl h75 rfl ?_
    refine zR_s rfl ?_
    refine zR_get rfl rfl (zm0 h75) rfl ?_
    refine zR_ifne rfl rfl (fun _ => ?_) (fun c => absurd c (by decide))
    try replace c2 := i_p2 hI (show p' < 16 by omega) c2
    refine zR_s rfl ?_
    refine zR_get rfl rfl (zm0 h75) rfl ?_
    refine zR_ifle rfl rfl (fun c => absurd c (by decide)) (fun _ => ?_)
    refine zR_cst (v := 0) rfl rfl rfl ?_
    refine zR_s rfl ?_
    first | refine zR_rete rfl rfl ?_ ?_ | refine zR_retb rfl rfl ?_ ?_
    all_goals (first | contradiction | (simp only [zOm, zHm, q_unit, kfU, ep, c1, c2, if_true, if_false, not_true_eq_false, not_false_eq_true, and_self, and_true, true_and, or_true, true_or, or_false, false_or, and_false, false_and, reduceCtorEq, Bool.false_eq_true, Bool.true_eq_false, ite_self, eq_self]; done) | (simp only [zOm, zHm, q_unit, kfU, c1, c2, if_true, if_false, not_true_eq_false, not_false_eq_true, and_self, and_true, true_and, or_true, true_or, or_false, false_or, and_false, false_and, reduceCtorEq, Bool.false_eq_true, Bool.true_eq_false, ite_self, eq_self]; done) | (simp only [zOm, zHm, q_unit, kfU, ep, c1, c2, if_true, if_false, not_true_eq_false, not_false_eq_true, and_self, and_true, true_and, or_true, true_or, or_false, false_or, and_false, false_and, reduceCtorEq, Bool.false_eq_true, Bool.true_eq_false, ite_self, eq_self]; exact zMd_app zG_unit))
  · obtain ⟨p', hp, rfl, ep⟩ := zpl (n := 15) rfl (by decide) c2
    refine zR_s rfl ?_
    refine zR_s rfl ?_
    refine zR_lc (v := 0) rfl rfl ?_
    refine zR_ldc2 (v := 7) rfl rfl ?_
    refine zR_call rfl rfl rfl rfl (zcallok_s rfl) (m_in (b := 0) (c := 7)) ?_
    first | refine zR_df rfl rfl (fun c3 => ?_) (fun c3 => ?_) | refine zR_bf rfl rfl (fun c3 => ?_) (fun c3 => ?_) | refine zR_ifeq rfl rfl (fun c3 => ?_) (fun c3 => ?_)
    · refine zR_cst (v := 2) rfl rfl rfl ?_
      refine zR_s rfl ?_
      refine zR_putC rfl rfl h75 rfl ?_
      refine zR_s rfl ?_
      refine zR_get rfl rfl (zm0 h75) rfl ?_
      refine zR_ifne rfl rfl (fun _ => ?_) (fun c => absurd c (by decide))
      try replace c3 := i_p2 hI (show p' < 16 by omega) c3
      refine zR_s rfl ?_
      refine zR_get rfl rfl (zm0 h75) rfl ?_
      refine zR_ifle rfl rfl (fun c => absurd c (by decide)) (fun _ => ?_)
      refine zR_cst (v := 0) rfl rfl rfl ?_
      refine zR_s rfl ?_
      first | refine zR_rete rfl rfl ?_ ?_ | refine zR_retb rfl rfl ?_ ?_
      all_goals (first | contradiction | (simp only [zOm, zHm, q_unit, kfU, ep, c1, c2, c3, if_true, if_false, not_true_eq_false, not_false_eq_true, and_self, and_true, true_and, or_true, true_or, or_false, false_or, and_false, false_and, reduceCtorEq, Bool.false_eq_true, Bool.true_eq_false, ite_self, eq_self]; done) | (simp only [zOm, zHm, q_unit, kfU, c1, c2, c3, if_true, if_false, not_true_eq_false, not_false_eq_true, and_self, and_true, true_and, or_true, true_or, or_false, false_or, and_false, false_and, reduceCtorEq, Bool.false_eq_true, Bool.true_eq_false, ite_self, eq_self]; done) | (simp only [zOm, zHm, q_unit, kfU, ep, c1, c2, c3, if_true, if_false, not_true_eq_false, not_false_eq_true, and_self, and_true, true_and, or_true, true_or, or_false, false_or, and_false, false_and, reduceCtorEq, Bool.false_eq_true, Bool.true_eq_false, ite_self, eq_self]; exact zMd_app zG_unit))
    · refine zR_s rfl ?_
      refine zR_s rfl ?_
      refine zR_lc (v := 1) rfl rfl ?_
      refine zR_ldc2 (v := 1000) rfl rfl ?_
      refine zR_call rfl rfl rfl rfl (zcallok_s rfl) (m_in (b := 1) (c := 1000)) ?_
      first | refine zR_dt rfl rfl (fun c4 => ?_) (fun c4 => ?_) | refine zR_bt rfl rfl (fun c4 => ?_) (fun c4 => ?_) | refine zR_ifne rfl rfl (fun c4 => ?_) (fun c4 => ?_)
      · refine zR_cst (v := 0) rfl rfl rfl ?_
        refine zR_putC rfl rfl h75 rfl ?_
        refine zR_s rfl ?_
        refine zR_get rfl rfl (zm0 h75) rfl ?_
        refine zR_ifne rfl rfl (fun c => absurd c (by decide)) (fun _ => ?_)
        refine zR_s rfl ?_
        refine zR_get rfl rfl (zm0 h75) rfl ?_
        refine zR_s rfl ?_
        refine zR_get rfl rfl (zm0 h75) rfl ?_
        refine zR_iceq rfl rfl (fun c5 => ?_) (fun c5 => ?_)
        · first | replace c5 := i_u1 hI c5 | replace c5 := i_r1 hI c5 | replace c5 := i_p1 hI (show p' < 16 by omega) c5
          refine zR_s rfl ?_
          refine zR_cst (v := 3) rfl rfl rfl ?_
          refine zR_putC rfl rfl h75 rfl ?_
          try replace c5 := i_p2 hI (show p' < 16 by omega) c5
          refine zR_s rfl ?_
          refine zR_get rfl rfl (zm0 h75) rfl ?_
          refine zR_ifle rfl rfl (fun c => absurd c (by decide)) (fun _ => ?_)
          refine zR_cst (v := 0) rfl rfl rfl ?_
          refine zR_s rfl ?_
          first | refine zR_rete rfl rfl ?_ ?_ | refine zR_retb rfl rfl ?_ ?_
          all_goals (first | contradiction | (simp only [zOm, zHm, q_unit, kfU, ep, c1, c2, c3, c4, c5, if_true, if_false, not_true_eq_false, not_false_eq_true, and_self, and_true, true_and, or_true, true_or, or_false, false_or, and_false, false_and, reduceCtorEq, Bool.false_eq_true, Bool.true_eq_false, ite_self, eq_self]; done) | (simp only [zOm, zHm, q_unit, kfU, c1, c2, c3, c4, c5, if_true, if_false, not_true_eq_false, not_false_eq_true, and_self, and_true, true_and, or_true, true_or, or_false, false_or, and_false, false_and, reduceCtorEq, Bool.false_eq_true, Bool.true_eq_false, ite_self, eq_self]; done) | (simp only [zOm, zHm, q_unit, kfU, ep, c1, c2, c3, c4, c5, if_true, if_false, not_true_eq_false, not_false_eq_true, and_self, and_true, true_and, or_true, true_or, or_false, false_or, and_false, false_and, reduceCtorEq, Bool.false_eq_true, Bool.true_eq_false, ite_self, eq_self]; exact zMd_app zG_unit))
        · replace c5 := i_u2 hI c5
          refine zR_s rfl ?_
          refine zR_get rfl rfl (zm0 h75) rfl ?_
          refine zR_cst (v := 400) rfl rfl rfl ?_
          refine zR_iceq rfl rfl (fun c6 => ?_) (fun c6 => ?_)
          · first | replace c6 := i_u1 hI c6 | replace c6 := i_r1 hI c6 | replace c6 := i_p1 hI (show p' < 16 by omega) c6
            refine zR_s rfl ?_
            refine zR_cst (v := 3) rfl rfl rfl ?_
            refine zR_putC rfl rfl h75 rfl ?_
            try replace c6 := i_p2 hI (show p' < 16 by omega) c6
            refine zR_s rfl ?_
            refine zR_get rfl rfl (zm0 h75) rfl ?_
            refine zR_ifle rfl rfl (fun c => absurd c (by decide)) (fun _ => ?_)
            refine zR_cst (v := 0) rfl rfl rfl ?_
            refine zR_s rfl ?_
            first | refine zR_rete rfl rfl ?_ ?_ | refine zR_retb rfl rfl ?_ ?_
            all_goals (first | contradiction | (simp only [zOm, zHm, q_unit, kfU, ep, c1, c2, c3, c4, c5, c6, if_true, if_false, not_true_eq_false, not_false_eq_true, and_self, and_true, true_and, or_true, true_or, or_false, false_or, and_false, false_and, reduceCtorEq, Bool.false_eq_true, Bool.true_eq_false, ite_self, eq_self]; done) | (simp only [zOm, zHm, q_unit, kfU, c1, c2, c3, c4, c5, c6, if_true, if_false, not_true_eq_false, not_false_eq_true, and_self, and_true, true_and, or_true, true_or, or_false, false_or, and_false, false_and, reduceCtorEq, Bool.false_eq_true, Bool.true_eq_false, ite_self, eq_self]; done) | (simp only [zOm, zHm, q_unit, kfU, ep, c1, c2, c3, c4, c5, c6, if_true, if_false, not_true_eq_false, not_false_eq_true, and_self, and_true, true_and, or_true, true_or, or_false, false_or, and_false, false_and, reduceCtorEq, Bool.false_eq_true, Bool.true_eq_false, ite_self, eq_self]; exact zMd_app zG_unit))
          · replace c6 := i_r2 hI c6
            refine zR_s rfl ?_
            refine zR_s rfl ?_
            refine zR_call rfl rfl rfl rfl (zcallok_v (zm0 h75) rfl rfl) (m_standingAt h75 (i_m1 hI) (i_m hI)) ?_
            rw [i_T hI (show p' < 16 by omega)]
            refine zR_s rfl ?_
            refine zR_get rfl rfl (zm0 h75) rfl ?_
            refine zR_s rfl ?_
            refine zR_ildMF 0 rfl h75 (by decide) ((show p' < 16 by omega)) ?_
            refine zR_icne rfl rfl (fun c7 => ?_) (fun c7 => ?_)
            · try replace c7 := i_p2 hI (show p' < 16 by omega) c7
              refine zR_s rfl ?_
              refine zR_get rfl rfl (zm0 h75) rfl ?_
              refine zR_ifle rfl rfl (fun _ => ?_) (fun c => absurd c (by decide))
              have hA5 := zroom1 hA.1 hA.2 c6
              refine zR_s rfl ?_
              refine zR_s rfl ?_
              refine zR_s rfl ?_
              refine zR_s rfl ?_
              refine zR_s rfl ?_
              refine zR_s rfl ?_
              refine zR_s rfl ?_
              refine zR_call rfl rfl rfl rfl (zcallok_v (zm0 h75) rfl rfl) (m_misOver h75 (show a < 16 by omega)) ?_
              first | refine zR_df rfl rfl (fun c8 => ?_) (fun c8 => ?_) | refine zR_bf rfl rfl (fun c8 => ?_) (fun c8 => ?_) | refine zR_ifeq rfl rfl (fun c8 => ?_) (fun c8 => ?_)
              · refine zR_cst (v := 0) rfl rfl rfl ?_
                refine zR_cst (v := (-1)) rfl rfl rfl ?_
                refine zR_call rfl rfl rfl rfl (zcallok_v (zm0 h75) rfl rfl) (m_make h75 (i_m1 hI) c5.2 hA.1 hA5) ?_
                first | refine zR_rete rfl rfl ?_ ?_ | refine zR_retb rfl rfl ?_ ?_
                all_goals (first | contradiction | (simp only [zOm, zHm, q_unit, kfU, ep, c1, c2, c3, c4, c5, c6, c7, c8, if_true, if_false, not_true_eq_false, not_false_eq_true, and_self, and_true, true_and, or_true, true_or, or_false, false_or, and_false, false_and, reduceCtorEq, Bool.false_eq_true, Bool.true_eq_false, ite_self, eq_self]; done) | (simp only [zOm, zHm, q_unit, kfU, c1, c2, c3, c4, c5, c6, c7, c8, if_true, if_false, not_true_eq_false, not_false_eq_true, and_self, and_true, true_and, or_true, true_or, or_false, false_or, and_false, false_and, reduceCtorEq, Bool.false_eq_true, Bool.true_eq_false, ite_self, eq_self]; done) | (simp only [zOm, zHm, q_unit, kfU, ep, c1, c2, c3, c4, c5, c6, c7, c8, if_true, if_false, not_true_eq_false, not_false_eq_true, and_self, and_true, true_and, or_true, true_or, or_false, false_or, and_false, false_and, reduceCtorEq, Bool.false_eq_true, Bool.true_eq_false, ite_self, eq_self]; exact zMd_app zG_unit))
              · refine zR_cst (v := 3) rfl rfl rfl ?_
                refine zR_s rfl ?_
                refine zR_cst (v := (-1)) rfl rfl rfl ?_
                refine zR_call rfl rfl rfl rfl (zcallok_v (zm0 h75) rfl rfl) (m_make h75 (i_m1 hI) c5.2 hA.1 hA5) ?_
                first | refine zR_rete rfl rfl ?_ ?_ | refine zR_retb rfl rfl ?_ ?_
                all_goals (first | contradiction | (simp only [zOm, zHm, q_unit, kfU, ep, c1, c2, c3, c4, c5, c6, c7, c8, if_true, if_false, not_true_eq_false, not_false_eq_true, and_self, and_true, true_and, or_true, true_or, or_false, false_or, and_false, false_and, reduceCtorEq, Bool.false_eq_true, Bool.true_eq_false, ite_self, eq_self]; done) | (simp only [zOm, zHm, q_unit, kfU, c1, c2, c3, c4, c5, c6, c7, c8, if_true, if_false, not_true_eq_false, not_false_eq_true, and_self, and_true, true_and, or_true, true_or, or_false, false_or, and_false, false_and, reduceCtorEq, Bool.false_eq_true, Bool.true_eq_false, ite_self, eq_self]; done) | (simp only [zOm, zHm, q_unit, kfU, ep, c1, c2, c3, c4, c5, c6, c7, c8, if_true, if_false, not_true_eq_false, not_false_eq_true, and_self, and_true, true_and, or_true, true_or, or_false, false_or, and_false, false_and, reduceCtorEq, Bool.false_eq_true, Bool.true_eq_false, ite_self, eq_self]; exact zMd_app zG_unit))
            · first | replace c7 := i_u1 hI c7 | replace c7 := i_r1 hI c7 | replace c7 := i_p1 hI (show p' < 16 by omega) c7
              refine zR_s rfl ?_
              refine zR_cst (v := 3) rfl rfl rfl ?_
              refine zR_putC rfl rfl h75 rfl ?_
              try replace c7 := i_p2 hI (show p' < 16 by omega) c7
              refine zR_s rfl ?_
              refine zR_get rfl rfl (zm0 h75) rfl ?_
              refine zR_ifle rfl rfl (fun c => absurd c (by decide)) (fun _ => ?_)
              refine zR_cst (v := 0) rfl rfl rfl ?_
              refine zR_s rfl ?_
              first | refine zR_rete rfl rfl ?_ ?_ | refine zR_retb rfl rfl ?_ ?_
              all_goals (first | contradiction | (simp only [zOm, zHm, q_unit, kfU, ep, c1, c2, c3, c4, c5, c6, c7, if_true, if_false, not_true_eq_false, not_false_eq_true, and_self, and_true, true_and, or_true, true_or, or_false, false_or, and_false, false_and, reduceCtorEq, Bool.false_eq_true, Bool.true_eq_false, ite_self, eq_self]; done) | (simp only [zOm, zHm, q_unit, kfU, c1, c2, c3, c4, c5, c6, c7, if_true, if_false, not_true_eq_false, not_false_eq_true, and_self, and_true, true_and, or_true, true_or, or_false, false_or, and_false, false_and, reduceCtorEq, Bool.false_eq_true, Bool.true_eq_false, ite_self, eq_self]; done) | (simp only [zOm, zHm, q_unit, kfU, ep, c1, c2, c3, c4, c5, c6, c7, if_true, if_false, not_true_eq_false, not_false_eq_true, and_self, and_true, true_and, or_true, true_or, or_false, false_or, and_false, false_and, reduceCtorEq, Bool.false_eq_true, Bool.true_eq_false, ite_self, eq_self]; exact zMd_app zG_unit))
      · refine zR_cst (v := 2) rfl rfl rfl ?_
        refine zR_s rfl ?_
        refine zR_putC rfl rfl h75 rfl ?_
        refine zR_s rfl ?_
        refine zR_get rfl rfl (zm0 h75) rfl ?_
        refine zR_ifne rfl rfl (fun _ => ?_) (fun c => absurd c (by decide))
        try replace c4 := i_p2 hI (show p' < 16 by omega) c4
        refine zR_s rfl ?_
        refine zR_get rfl rfl (zm0 h75) rfl ?_
        refine zR_ifle rfl rfl (fun c => absurd c (by decide)) (fun _ => ?_)
        refine zR_cst (v := 0) rfl rfl rfl ?_
        refine zR_s rfl ?_
        first | refine zR_rete rfl rfl ?_ ?_ | refine zR_retb rfl rfl ?_ ?_
        all_goals (first | contradiction | (simp only [zOm, zHm, q_unit, kfU, ep, c1, c2, c3, c4, if_true, if_false, not_true_eq_false, not_false_eq_true, and_self, and_true, true_and, or_true, true_or, or_false, false_or, and_false, false_and, reduceCtorEq, Bool.false_eq_true, Bool.true_eq_false, ite_self, eq_self]; done) | (simp only [zOm, zHm, q_unit, kfU, c1, c2, c3, c4, if_true, if_false, not_true_eq_false, not_false_eq_true, and_self, and_true, true_and, or_true, true_or, or_false, false_or, and_false, false_and, reduceCtorEq, Bool.false_eq_true, Bool.true_eq_false, ite_self, eq_self]; done) | (simp only [zOm, zHm, q_unit, kfU, ep, c1, c2, c3, c4, if_true, if_false, not_true_eq_false, not_false_eq_true, and_self, and_true, true_and, or_true, true_or, or_false, false_or, and_false, false_and, reduceCtorEq, Bool.false_eq_true, Bool.true_eq_false, ite_self, eq_self]; exact zMd_app zG_unit))
/-- the reference's way of moving what lies within -/
def zcam (G : Nat → Nat → Int32) (K : Nat → Option Nat) (u : Nat) (p : Int32) (j : Nat) : Nat → Nat → Int32 := fun i => bif decide (i < j) && zlw K u 4 (K i) then upd (G i) 6 p else G i
theorem zcam_0 (p : Int32) : zcam G K u p 0 = G := by funext i; simp [zcam]
theorem zcam_s {p : Int32} {j : Nat} : zcam G K u p (j + 1) = bif zlw K u 4 (K j) then updG (zcam G K u p j) j 6 p else zcam G K u p j := by
  cases hb : zlw K u 4 (K j)
  · funext i
    simp only [zcam, cond_false]
    by_cases e : i = j
    · subst e; simp [hb]
    · rw [show decide (i < j + 1) = decide (i < j) from by simp; omega]
  · funext i
    simp only [zcam, updG, cond_true]
    by_cases e : i = j
    · subst e; simp [hb]
    · simp only [if_neg e]
      rw [show decide (i < j + 1) = decide (i < j) from by simp; omega]
theorem zlw_up {v : Option Nat} : ∀ n x, zlw (va_up K u v) u n x = zlw K u n x := by
  intro n
  induction n with
  | zero => intro x; rfl
  | succ n ih =>
    intro x
    cases x with
    | none => rfl
    | some b =>
      simp only [zlw]
      by_cases e : b = u
      · simp [e]
      · rw [ih, va_up_ne K v e]
theorem zG_move {p : Int32} (hu : u < M) : ∀ i j, zcolok j = true → zcar G (va_up K u none) u p M i j = updG (zcam G K u p M) u 6 p i j := by
  intro i j hj
  simp only [zcar, zcam, updG, zlw_up]
  by_cases e : i = u
  · subst e
    simp only [decide_true, Bool.true_or, Bool.and_true, if_true]
    rw [decide_eq_true hu]
    simp only [cond_true, Bool.true_and]
    cases zlw K i 4 (K i) with
    | false => rfl
    | true => simp only [cond_true, upd]; split <;> rfl
  · rw [va_up_ne K none e]
    simp only [e, decide_false, Bool.false_or, if_false]
theorem d_move {j : Nat} {p : Int32} (h75 : hc.length = 75) (hI : zInv N F G K Z M A l R) (hH : zHK M K H) (hj : j < M) : zMe sL sx 11 79 [.ref 75, .int (nI j), .int p] (hc ++ (zMd N F G H Z c B ++ t)) (zOm none (q_move N F G K Z M A j p)) (zHm kfA hc t N F G H Z B (upd H j (-1)) B (q_move N F G K Z M A j p)) := by
  have hA := hI.2.2.1
  have hM := i_m1 hI
  have hm := i_m hI
  have hj2 : j < 64 := by omega
  have tail : ∀ p' : Nat, A < 400 → p' < 16 → q_move N F G K Z M A j (nI p') = .ok (none, upd N 4 (nI (A + 1)), zadd F A (nI j) 2 (N 3) (nI p'), zcar G (va_up K j none) j (nI p') M, va_up K j none, Z) → zR sL sx 11 79 135 [.ref 75, .int (nI j), .int (nI p'), .retAddr 0] [] (hc ++ (zMd N F G H Z 0 B ++ t)) (zOm none (q_move N F G K Z M A j (nI p'))) (zHm kfA hc t N F G H Z B (upd H j (-1)) B (q_move N F G K Z M A j (nI p'))) := by
    intro p' hA5 hp hq
    rw [hq]
    refine zR_cst (v := 0) rfl rfl rfl ?_
    refine zR_s rfl ?_
    skip
    refine zR_loop0 (M := M) (fun k => [.ref 75, .int (nI j), .int (nI p'), .int (nI k)]) (fun k => hc ++ (zMd N F (zcam G K j (nI p') k) H Z 0 B ++ t)) (fun _ => True) rfl (by rw [zcam_0]) trivial (fun _ => ?_) (fun k hk _ ih => ?_)
    · refine zR_s rfl ?_
      refine zR_s rfl ?_
      refine zR_get rfl rfl (zm0 h75) rfl ?_
      refine zR_icge rfl rfl (fun _ => ?_) (fun c => by first | exact absurd ((by rw [hM]; exact Int32.le_refl _)) c | exact absurd c ((by rw [hM]; exact Int32.le_refl _)))
      refine zR_s rfl ?_
      refine zR_get rfl rfl (zm0 h75) rfl ?_
      refine zR_s rfl ?_
      refine zR_s rfl ?_
      refine zR_istMG 6 rfl h75 (by decide) (hj2) ?_
      refine zR_s rfl ?_
      refine zR_get rfl rfl (zm0 h75) rfl ?_
      refine zR_s rfl ?_
      refine zR_cst (v := (-1)) rfl rfl rfl ?_
      refine zR_istMH rfl h75 (hj2) ?_
      refine zR_s rfl ?_
      refine zR_s rfl ?_
      refine zR_cst (v := 2) rfl rfl rfl ?_
      refine zR_s rfl ?_
      refine zR_call rfl rfl rfl rfl (zcallok_v (zm0 h75) rfl rfl) (m_act h75 hA.1 hA5) ?_
      refine zR_rete rfl rfl ?_ ?_
      all_goals (first | rfl | exact zMd_app (zG_move hj))
    · have w := ih trivial
      rw [zcam_s] at w
      refine zR_s rfl ?_
      refine zR_s rfl ?_
      refine zR_get rfl rfl (zm0 h75) rfl ?_
      refine zR_icge rfl rfl (fun c => by first | exact absurd c ((by rw [hM]; exact nI_ge hk (by omega))) | exact absurd ((by rw [hM]; exact nI_ge hk (by omega))) c) (fun _ => ?_)
      refine zR_s rfl ?_
      refine zR_s rfl ?_
      refine zR_s rfl ?_
      refine zR_call rfl rfl rfl rfl (zcallok_v (zm0 h75) rfl rfl) (m_isIn h75 hm hH (i_ch hI) hk hj) ?_
      first | refine zR_df rfl rfl (fun c1 => ?_) (fun c1 => ?_) | refine zR_bf rfl rfl (fun c1 => ?_) (fun c1 => ?_) | refine zR_ifeq rfl rfl (fun c1 => ?_) (fun c1 => ?_)
      · first | refine zR_incn rfl rfl rfl ?_ | refine zR_s rfl ?_
        refine zR_goto rfl rfl ?_
        (rw [c1] at w; exact w)
      · refine zR_s rfl ?_
        refine zR_get rfl rfl (zm0 h75) rfl ?_
        refine zR_s rfl ?_
        refine zR_s rfl ?_
        refine zR_istMG 6 rfl h75 (by decide) ((show k < 64 by omega)) ?_
        first | refine zR_incn rfl rfl rfl ?_ | refine zR_s rfl ?_
        refine zR_goto rfl rfl ?_
        (rw [c1] at w; exact w)
  show zR sL sx _ 79 0 [.ref 75, .int (nI j), .int p, .retAddr 0] [] _ _ _
  refine zR_s rfl ?_
  refine zR_s rfl ?_
  refine zR_s rfl ?_
  refine zR_call rfl rfl rfl rfl (zcallok_v (zm0 h75) rfl rfl) (m_isUnit h75) ?_
  first | refine zR_dt rfl rfl (fun c1 => ?_) (fun c1 => absurd (i_v hI hj) c1) | refine zR_bt rfl rfl (fun c1 => ?_) (fun c1 => absurd (i_v hI hj) c1) | refine zR_ifne rfl rfl (fun c1 => ?_) (fun c1 => absurd (i_v hI hj) c1)
  refine zR_s rfl ?_
  refine zR_s rfl ?_
  refine zR_lc (v := 0) rfl rfl ?_
  refine zR_ldc2 (v := 15) rfl rfl ?_
  refine zR_call rfl rfl rfl rfl (zcallok_s rfl) (m_in (b := 0) (c := 15)) ?_
  first | refine zR_dt rfl rfl (fun c2 => ?_) (fun c2 => ?_) | refine zR_bt rfl rfl (fun c2 => ?_) (fun c2 => ?_) | refine zR_ifne rfl rfl (fun c2 => ?_) (fun c2 => ?_)
  · obtain ⟨p', hp, rfl, ep⟩ := zpl (n := 15) rfl (by decide) c2
    refine zR_cst (v := 0) rfl rfl rfl ?_
    refine zR_putC rfl rfl h75 rfl ?_
    refine zR_s rfl ?_
    refine zR_get rfl rfl (zm0 h75) rfl ?_
    refine zR_ifne rfl rfl (fun c => absurd c (by decide)) (fun _ => ?_)
    refine zR_s rfl ?_
    refine zR_s rfl ?_
    refine zR_call rfl rfl rfl rfl (zcallok_v (zm0 h75) rfl rfl) (m_mstands h75 hj2) ?_
    refine zR_bf rfl rfl (fun c3 => ?_) (fun c3 => ?_)
    · try replace c3 := i_h1 hI hH hj c3
      refine zR_s rfl ?_
      refine zR_cst (v := 3) rfl rfl rfl ?_
      refine zR_putC rfl rfl h75 rfl ?_
      try replace c3 := i_h2 hI hH hj c3
      refine zR_s rfl ?_
      refine zR_get rfl rfl (zm0 h75) rfl ?_
      refine zR_ifne rfl rfl (fun _ => ?_) (fun c => absurd c (by decide))
      refine zR_s rfl ?_
      refine zR_get rfl rfl (zm0 h75) rfl ?_
      refine zR_ifle rfl rfl (fun c => absurd c (by decide)) (fun _ => ?_)
      refine zR_rete rfl rfl ?_ ?_
      all_goals (first | contradiction | (simp only [zOm, zHm, q_move, kfA, ep, c1, c2, c3, if_true, if_false, not_true_eq_false, not_false_eq_true, and_self, and_true, true_and, or_true, true_or, or_false, false_or, and_false, false_and, reduceCtorEq, Bool.false_eq_true, Bool.true_eq_false, ite_self, eq_self]; done) | (simp only [zOm, zHm, q_move, kfA, c1, c2, c3, if_true, if_false, not_true_eq_false, not_false_eq_true, and_self, and_true, true_and, or_true, true_or, or_false, false_or, and_false, false_and, reduceCtorEq, Bool.false_eq_true, Bool.true_eq_false, ite_self, eq_self]; done))
    · refine zR_s rfl ?_
      refine zR_get rfl rfl (zm0 h75) rfl ?_
      refine zR_s rfl ?_
      first | refine zR_ildMG 6 rfl h75 (by decide) (hj2) ?_ | refine zR_ildMG 6 rfl h75 (by decide) ((show p' < 16 by omega)) ?_
      refine zR_s rfl ?_
      refine zR_icne rfl rfl (fun c4 => ?_) (fun c4 => ?_)
      · try replace c4 := i_h2 hI hH hj c4
        refine zR_s rfl ?_
        refine zR_get rfl rfl (zm0 h75) rfl ?_
        refine zR_ifne rfl rfl (fun c => absurd c (by decide)) (fun _ => ?_)
        refine zR_s rfl ?_
        refine zR_get rfl rfl (zm0 h75) rfl ?_
        refine zR_cst (v := 400) rfl rfl rfl ?_
        refine zR_iceq rfl rfl (fun c5 => ?_) (fun c5 => ?_)
        · try replace c5 := i_r1 hI c5
          refine zR_s rfl ?_
          refine zR_cst (v := 4) rfl rfl rfl ?_
          refine zR_putC rfl rfl h75 rfl ?_
          refine zR_s rfl ?_
          refine zR_get rfl rfl (zm0 h75) rfl ?_
          refine zR_ifle rfl rfl (fun c => absurd c (by decide)) (fun _ => ?_)
          refine zR_rete rfl rfl ?_ ?_
          all_goals (first | contradiction | (simp only [zOm, zHm, q_move, kfA, ep, c1, c2, c3, c4, c5, if_true, if_false, not_true_eq_false, not_false_eq_true, and_self, and_true, true_and, or_true, true_or, or_false, false_or, and_false, false_and, reduceCtorEq, Bool.false_eq_true, Bool.true_eq_false, ite_self, eq_self]; done) | (simp only [zOm, zHm, q_move, kfA, c1, c2, c3, c4, c5, if_true, if_false, not_true_eq_false, not_false_eq_true, and_self, and_true, true_and, or_true, true_or, or_false, false_or, and_false, false_and, reduceCtorEq, Bool.false_eq_true, Bool.true_eq_false, ite_self, eq_self]; done))
        · replace c5 := i_r2 hI c5
          refine zR_s rfl ?_
          refine zR_get rfl rfl (zm0 h75) rfl ?_
          refine zR_s rfl ?_
          first | refine zR_ildMG 6 rfl h75 (by decide) (hj2) ?_ | refine zR_ildMG 6 rfl h75 (by decide) ((show p' < 16 by omega)) ?_
          refine zR_s rfl ?_
          refine zR_iceq rfl rfl (fun c6 => ?_) (fun c6 => ?_)
          · refine zR_s rfl ?_
            refine zR_get rfl rfl (zm0 h75) rfl ?_
            refine zR_ifle rfl rfl (fun _ => ?_) (fun c => absurd c (by decide))
            first | contradiction | exact tail p' (by first | exact zroom1 hA.1 hA.2 c5 | exact zroom1 hA.1 hA.2 c4 | exact zroom1 hA.1 hA.2 c6) (by omega) (by simp only [q_move, ep, c1, c2, c3, c4, c5, c6, if_true, if_false, not_true_eq_false, not_false_eq_true, and_self, and_true, true_and, or_true, true_or, or_false, false_or, and_false, false_and, reduceCtorEq, Bool.false_eq_true, Bool.true_eq_false, ite_self, eq_self])
          · refine zR_s rfl ?_
            refine zR_s rfl ?_
            refine zR_call rfl rfl rfl rfl (zcallok_v (zm0 h75) rfl rfl) (m_standingAt h75 hM hm) ?_
            rw [i_T hI (show p' < 16 by omega)]
            refine zR_cst (v := 1) rfl rfl rfl ?_
            refine zR_iadd rfl ?_
            refine zR_s rfl ?_
            refine zR_s rfl ?_
            refine zR_call rfl rfl rfl rfl (zcallok_v (zm0 h75) rfl rfl) (m_load h75 hM hm hH (i_ch hI) hj) ?_
            refine zR_iadd rfl ?_
            refine zR_s rfl ?_
            refine zR_get rfl rfl (zm0 h75) rfl ?_
            refine zR_s rfl ?_
            first | refine zR_ildMF 0 rfl h75 (by decide) (hj2) ?_ | refine zR_ildMF 0 rfl h75 (by decide) ((show p' < 16 by omega)) ?_
            rw [Int32.add_assoc]
            refine zR_icle rfl rfl (fun c7 => ?_) (fun c7 => ?_)
            · refine zR_s rfl ?_
              refine zR_get rfl rfl (zm0 h75) rfl ?_
              refine zR_ifle rfl rfl (fun _ => ?_) (fun c => absurd c (by decide))
              first | contradiction | exact tail p' (by first | exact zroom1 hA.1 hA.2 c5 | exact zroom1 hA.1 hA.2 c4 | exact zroom1 hA.1 hA.2 c6) (by omega) (by simp only [q_move, ep, c1, c2, c3, c4, c5, c6, c7, if_true, if_false, not_true_eq_false, not_false_eq_true, and_self, and_true, true_and, or_true, true_or, or_false, false_or, and_false, false_and, reduceCtorEq, Bool.false_eq_true, Bool.true_eq_false, ite_self, eq_self])
            · try replace c7 := i_r1 hI c7
              refine zR_s rfl ?_
              refine zR_cst (v := 4) rfl rfl rfl ?_
              refine zR_putC rfl rfl h75 rfl ?_
              refine zR_s rfl ?_
              refine zR_get rfl rfl (zm0 h75) rfl ?_
              refine zR_ifle rfl rfl (fun c => absurd c (by decide)) (fun _ => ?_)
              refine zR_rete rfl rfl ?_ ?_
              all_goals (first | contradiction | (simp only [zOm, zHm, q_move, kfA, ep, c1, c2, c3, c4, c5, c6, c7, if_true, if_false, not_true_eq_false, not_false_eq_true, and_self, and_true, true_and, or_true, true_or, or_false, false_or, and_false, false_and, reduceCtorEq, Bool.false_eq_true, Bool.true_eq_false, ite_self, eq_self]; done) | (simp only [zOm, zHm, q_move, kfA, c1, c2, c3, c4, c5, c6, c7, if_true, if_false, not_true_eq_false, not_false_eq_true, and_self, and_true, true_and, or_true, true_or, or_false, false_or, and_false, false_and, reduceCtorEq, Bool.false_eq_true, Bool.true_eq_false, ite_self, eq_self]; done))
      · refine zR_s rfl ?_
        refine zR_get rfl rfl (zm0 h75) rfl ?_
        refine zR_s rfl ?_
        first | refine zR_ildMH rfl h75 (hj2) ?_ | refine zR_ildMH rfl h75 ((show p' < 16 by omega)) ?_
        refine zR_cst (v := (-1)) rfl rfl rfl ?_
        refine zR_icne rfl rfl (fun c5 => ?_) (fun c5 => ?_)
        · try replace c5 := i_h2 hI hH hj c5
          refine zR_s rfl ?_
          refine zR_get rfl rfl (zm0 h75) rfl ?_
          refine zR_ifne rfl rfl (fun c => absurd c (by decide)) (fun _ => ?_)
          refine zR_s rfl ?_
          refine zR_get rfl rfl (zm0 h75) rfl ?_
          refine zR_cst (v := 400) rfl rfl rfl ?_
          refine zR_iceq rfl rfl (fun c6 => ?_) (fun c6 => ?_)
          · try replace c6 := i_r1 hI c6
            refine zR_s rfl ?_
            refine zR_cst (v := 4) rfl rfl rfl ?_
            refine zR_putC rfl rfl h75 rfl ?_
            refine zR_s rfl ?_
            refine zR_get rfl rfl (zm0 h75) rfl ?_
            refine zR_ifle rfl rfl (fun c => absurd c (by decide)) (fun _ => ?_)
            refine zR_rete rfl rfl ?_ ?_
            all_goals (first | contradiction | (simp only [zOm, zHm, q_move, kfA, ep, c1, c2, c3, c4, c5, c6, if_true, if_false, not_true_eq_false, not_false_eq_true, and_self, and_true, true_and, or_true, true_or, or_false, false_or, and_false, false_and, reduceCtorEq, Bool.false_eq_true, Bool.true_eq_false, ite_self, eq_self]; done) | (simp only [zOm, zHm, q_move, kfA, c1, c2, c3, c4, c5, c6, if_true, if_false, not_true_eq_false, not_false_eq_true, and_self, and_true, true_and, or_true, true_or, or_false, false_or, and_false, false_and, reduceCtorEq, Bool.false_eq_true, Bool.true_eq_false, ite_self, eq_self]; done))
          · replace c6 := i_r2 hI c6
            refine zR_s rfl ?_
            refine zR_get rfl rfl (zm0 h75) rfl ?_
            refine zR_s rfl ?_
            first | refine zR_ildMG 6 rfl h75 (by decide) (hj2) ?_ | refine zR_ildMG 6 rfl h75 (by decide) ((show p' < 16 by omega)) ?_
            refine zR_s rfl ?_
            refine zR_iceq rfl rfl (fun c7 => ?_) (fun c7 => ?_)
            · refine zR_s rfl ?_
              refine zR_get rfl rfl (zm0 h75) rfl ?_
              refine zR_ifle rfl rfl (fun _ => ?_) (fun c => absurd c (by decide))
              first | contradiction | exact tail p' (by first | exact zroom1 hA.1 hA.2 c5 | exact zroom1 hA.1 hA.2 c4 | exact zroom1 hA.1 hA.2 c6) (by omega) (by simp only [q_move, ep, c1, c2, c3, c4, c5, c6, c7, if_true, if_false, not_true_eq_false, not_false_eq_true, and_self, and_true, true_and, or_true, true_or, or_false, false_or, and_false, false_and, reduceCtorEq, Bool.false_eq_true, Bool.true_eq_false, ite_self, eq_self])
            · refine zR_s rfl ?_
              refine zR_s rfl ?_
              refine zR_call rfl rfl rfl rfl (zcallok_v (zm0 h75) rfl rfl) (m_standingAt h75 hM hm) ?_
              rw [i_T hI (show p' < 16 by omega)]
              refine zR_cst (v := 1) rfl rfl rfl ?_
              refine zR_iadd rfl ?_
              refine zR_s rfl ?_
              refine zR_s rfl ?_
              refine zR_call rfl rfl rfl rfl (zcallok_v (zm0 h75) rfl rfl) (m_load h75 hM hm hH (i_ch hI) hj) ?_
              refine zR_iadd rfl ?_
              refine zR_s rfl ?_
              refine zR_get rfl rfl (zm0 h75) rfl ?_
              refine zR_s rfl ?_
              first | refine zR_ildMF 0 rfl h75 (by decide) (hj2) ?_ | refine zR_ildMF 0 rfl h75 (by decide) ((show p' < 16 by omega)) ?_
              rw [Int32.add_assoc]
              refine zR_icle rfl rfl (fun c8 => ?_) (fun c8 => ?_)
              · refine zR_s rfl ?_
                refine zR_get rfl rfl (zm0 h75) rfl ?_
                refine zR_ifle rfl rfl (fun _ => ?_) (fun c => absurd c (by decide))
                first | contradiction | exact tail p' (by first | exact zroom1 hA.1 hA.2 c5 | exact zroom1 hA.1 hA.2 c4 | exact zroom1 hA.1 hA.2 c6) (by omega) (by simp only [q_move, ep, c1, c2, c3, c4, c5, c6, c7, c8, if_true, if_false, not_true_eq_false, not_false_eq_true, and_self, and_true, true_and, or_true, true_or, or_false, false_or, and_false, false_and, reduceCtorEq, Bool.false_eq_true, Bool.true_eq_false, ite_self, eq_self])
              · try replace c8 := i_r1 hI c8
                refine zR_s rfl ?_
                refine zR_cst (v := 4) rfl rfl rfl ?_
                refine zR_putC rfl rfl h75 rfl ?_
                refine zR_s rfl ?_
                refine zR_get rfl rfl (zm0 h75) rfl ?_
                refine zR_ifle rfl rfl (fun c => absurd c (by decide)) (fun _ => ?_)
                refine zR_rete rfl rfl ?_ ?_
                all_goals (first | contradiction | (simp only [zOm, zHm, q_move, kfA, ep, c1, c2, c3, c4, c5, c6, c7, c8, if_true, if_false, not_true_eq_false, not_false_eq_true, and_self, and_true, true_and, or_true, true_or, or_false, false_or, and_false, false_and, reduceCtorEq, Bool.false_eq_true, Bool.true_eq_false, ite_self, eq_self]; done) | (simp only [zOm, zHm, q_move, kfA, c1, c2, c3, c4, c5, c6, c7, c8, if_true, if_false, not_true_eq_false, not_false_eq_true, and_self, and_true, true_and, or_true, true_or, or_false, false_or, and_false, false_and, reduceCtorEq, Bool.false_eq_true, Bool.true_eq_false, ite_self, eq_self]; done))
        · try replace c5 := i_h1 hI hH hj c5
          refine zR_s rfl ?_
          refine zR_cst (v := 3) rfl rfl rfl ?_
          refine zR_putC rfl rfl h75 rfl ?_
          try replace c5 := i_h2 hI hH hj c5
          refine zR_s rfl ?_
          refine zR_get rfl rfl (zm0 h75) rfl ?_
          refine zR_ifne rfl rfl (fun _ => ?_) (fun c => absurd c (by decide))
          refine zR_s rfl ?_
          refine zR_get rfl rfl (zm0 h75) rfl ?_
          refine zR_ifle rfl rfl (fun c => absurd c (by decide)) (fun _ => ?_)
          refine zR_rete rfl rfl ?_ ?_
          all_goals (first | contradiction | (simp only [zOm, zHm, q_move, kfA, ep, c1, c2, c3, c4, c5, if_true, if_false, not_true_eq_false, not_false_eq_true, and_self, and_true, true_and, or_true, true_or, or_false, false_or, and_false, false_and, reduceCtorEq, Bool.false_eq_true, Bool.true_eq_false, ite_self, eq_self]; done) | (simp only [zOm, zHm, q_move, kfA, c1, c2, c3, c4, c5, if_true, if_false, not_true_eq_false, not_false_eq_true, and_self, and_true, true_and, or_true, true_or, or_false, false_or, and_false, false_and, reduceCtorEq, Bool.false_eq_true, Bool.true_eq_false, ite_self, eq_self]; done))
  · refine zR_cst (v := 2) rfl rfl rfl ?_
    refine zR_s rfl ?_
    refine zR_putC rfl rfl h75 rfl ?_
    refine zR_s rfl ?_
    refine zR_get rfl rfl (zm0 h75) rfl ?_
    refine zR_ifne rfl rfl (fun _ => ?_) (fun c => absurd c (by decide))
    try replace c2 := i_h2 hI hH hj c2
    refine zR_s rfl ?_
    refine zR_get rfl rfl (zm0 h75) rfl ?_
    refine zR_ifne rfl rfl (fun _ => ?_) (fun c => absurd c (by decide))
    refine zR_s rfl ?_
    refine zR_get rfl rfl (zm0 h75) rfl ?_
    refine zR_ifle rfl rfl (fun c => absurd c (by decide)) (fun _ => ?_)
    refine zR_rete rfl rfl ?_ ?_
    all_goals (first | contradiction | (simp only [zOm, zHm, q_move, kfA, ep, c1, c2, if_true, if_false, not_true_eq_false, not_false_eq_true, and_self, and_true, true_and, or_true, true_or, or_false, false_or, and_false, false_and, reduceCtorEq, Bool.false_eq_true, Bool.true_eq_false, ite_self, eq_self]; done) | (simp only [zOm, zHm, q_move, kfA, c1, c2, if_true, if_false, not_true_eq_false, not_false_eq_true, and_self, and_true, true_and, or_true, true_or, or_false, false_or, and_false, false_and, reduceCtorEq, Bool.false_eq_true, Bool.true_eq_false, ite_self, eq_self]; done))
end ZMB
end
