/-! THE CLAIM OUT OF ONE WALK OF THE LAW'S BODY. Your part is whole_start (and what it stands on); all else here is the same for every law, but numbers. -/
def R_law : String := "UnitRowsLaw"
def lw_P (b : Addr) (xs : List Int32) (args : Array Value) (s : State) : Prop := args = #[.ref b] ∧ s.IntsAt b xs ∧ xs.length ≤ 2560 ∧ (Jvm.Cond.and given_1 narrow_1).before args s = true
def lw_Q (_ : Array Value) (s : State) (o : Outcome) (t : State) : Prop := o = .returned (some (.int 1)) ∧ Framed s o t [] 601024 7293034
def lw_Z (below : List Frame) (a : Array Value) (s : State) : State → Prop := fun t => ∃ o, t.status = .running ∧ Ended t below o ∧ lw_Q a s o t
/-- the law's own end, with 1 on the stack, nothing written that was there before, its room as the claim has it -/
theorem lw_ret {p : Program} {l : Launch} {e : Env} {s : State} {m : MethodId} {below : List Frame} {meth : Method} {c : Code} {b : Nat} (hx : p.tables.exec = Jvm.exec) (hb : c.code = code) (hr : meth.sig.returnType = ret) (hlocks : meth.locks = false) {pc : Nat} {H : Heap} {ls : Array Slot} (hdg : decode code pc = .ok (.ireturn, 1)) : W p l e room_1 s m #[Value.ref b] below meth c H [] 601024 7293034 (lw_Z below #[Value.ref b] s) (F0 m pc ls [.int 1]) := by
  intro T hT X
  obtain ⟨fs, hret, hrun, hended, hW, hframe⟩ := X.leave (v := some (.int 1)) (hlocks := hlocks) (fun h => by rw [hr] at h; cases h)
  have hmeth' : T.vm.method? m = some meth := X.method'
  refine ⟨T.setFrames fs, ?_, .returned (some (.int 1)), hrun, hended, rfl, ⟨_, rfl⟩, hW, hframe⟩
  jvm_step X.here [X.here.top, hx, hb, hdg, hmeth', hr, ret, narrow_b1]
  (try refine ⟨rfl, ?_⟩); (try refine ⟨rfl, ?_⟩)
  first | (intro acts; rw [hret _ acts rfl rfl rfl]) | rw [hret _ _ rfl rfl rfl]
  exact Steps.refl _
/-- what holds at the law's entry: the machine, the code, the tables' words (any of lw_tbl by 'hts w (by decide +kernel)'), the script of L ints xs at the cell b, what the Statement gives of the start (any of its parts by flat_of_before) -/
def lw_At (p : Program) (s : State) (m : MethodId) (meth : Method) (c : Code) (b L : Nat) (xs : Nat → Int32) : Prop :=
  p.tables.exec = Jvm.exec ∧ c.code = code ∧ meth.sig.returnType = ret ∧ c.maxLocals = 8 ∧ s.vm.findClass R_law = some m.cls ∧ (∀ w ∈ lw_tbl, w.before #[Value.ref b] s = true) ∧ va_X b L xs s s.heap ∧ b < s.heap.size ∧ meth.locks = false ∧ (Jvm.Cond.and given_1 narrow_1).before #[Value.ref b] s = true
/-- what is left of the law: the small machine comes to its end with true on every script, in the room -/
def zPure : Prop := ∀ (L : Nat) (xs : Nat → Int32), L ≤ 2560 → ∃ (n : Nat) (hF : zH), zexec L xs n 12 123 0 (zent 8 [.retAddr 1]) [] [] = some (.returned (some (.int 1)), hF) ∧ hF.length ≤ 601024 ∧ zsl hF ≤ 7293034
theorem zst_in : ∀ q ∈ zSt, (Cond.stringRef (zcn q.1) q.2.1 q.2.2 ∈ lw_tbl) ∧ (Cond.exactly (.string (zcn q.1) q.2.1) "java/lang/String" ∈ flatC (Jvm.Cond.and given_1 narrow_1)) := by decide +kernel
theorem znc_in : ∀ e1, e1 < 6 → ∀ e2, e2 < 6 → e1 ≠ e2 → Cond.not (.castable (zen e1) (zen e2)) ∈ flatC (Jvm.Cond.and given_1 narrow_1) := by decide +kernel
theorem zun_in : Cond.isRef (.static Bundle.tN "UNASSIGNED_STACK" Bundle.steD) ∈ flatC (Jvm.Cond.and given_1 narrow_1) ∧ Cond.isRef (.static Bundle.tN "SUPPRESSED_SENTINEL" Bundle.listD) ∈ flatC (Jvm.Cond.and given_1 narrow_1) := by decide +kernel
theorem zun_w : (Cond.laysStatic Bundle.tN "UNASSIGNED_STACK" Bundle.steD ∈ lw_tbl ∧ Cond.laysStatic Bundle.tN "SUPPRESSED_SENTINEL" Bundle.listD ∈ lw_tbl) ∧ Cond.initialized Bundle.tN ∈ lw_tbl ∧ Cond.arrayOver (.object RX1) ∈ lw_tbl := by decide +kernel
theorem zin_w : ∀ ci, ci < 4 → Cond.instantiable (zcn ci) (znf ci) ∈ lw_tbl := by decide +kernel
theorem zlaw_is : zbyt 123 = code ∧ zret 123 = ret ∧ zmax 123 = 8 ∧ zhan 123 = [] ∧ zcls 123 = 4 ∧ zname 123 = x := ⟨rfl, rfl, rfl, rfl, rfl, rfl⟩
theorem zK_start {args : Array Value} {s : State} (hts : ∀ w ∈ lw_tbl, w.before args s = true) (hgv : (Jvm.Cond.and given_1 narrow_1).before args s = true) : ∃ (D : va_G) (aC : Nat → ClassId), zK D aC s := by
  have hfl := flat_of_before _ hgv
  have hsub : ∀ ci, ci < 4 → ∀ w ∈ u_ws (zcn ci) (zfd ci) (znf ci), w ∈ lw_tbl := fun ci hci w h => (List.mem_filter.mp (zlay_ok ci hci w h)).1
  have hk : ∀ ci, ∃ (cC : ClassId) (iS : Nat → Nat), ci < 4 → u_Kn s (zcn ci) (zfd ci) (znf ci) cC iS := by
    intro ci
    by_cases hci : ci < 4
    · obtain ⟨cC, iS, h⟩ := u_known (n := znf ci) hts (hsub ci hci) (hts _ (zin_w ci hci))
      exact ⟨cC, iS, fun _ => h⟩
    · exact ⟨0, fun _ => 0, fun h => absurd h hci⟩
  obtain ⟨cI, kI, compI, i1, i2, i3⟩ := Cond.arrayClass_spec (hts _ zar_ok.1.1)
  obtain ⟨cJ, kJ, compJ, j1, j2, j3⟩ := Cond.arrayClass_spec (hts _ zar_ok.1.2)
  obtain ⟨cB, kB, compB, b1, b2, b3⟩ := Cond.arrayClass_spec (hts _ zar_ok.2)
  obtain ⟨compU, cU, kU, u1, u2, u3, u4, u5⟩ := Cond.arrayOver_spec (hts _ zun_w.2.2)
  refine ⟨(fun ci => Classical.choose (hk ci), fun ci => Classical.choose (Classical.choose_spec (hk ci))), fun t => match t with | 0 => cI | 1 => cJ | 2 => cB | _ => cU, ?_⟩
  have hKn : ∀ ci, ci < 4 → u_Kn s (zcn ci) (zfd ci) (znf ci) (Classical.choose (hk ci)) (Classical.choose (Classical.choose_spec (hk ci))) := fun ci hci => Classical.choose_spec (Classical.choose_spec (hk ci)) hci
  refine ⟨hKn, fun t ht => ?_, hts _ zun_w.2.2, fun w hw hX => ?_, fun q hq => ?_, fun e1 e2 a1 a2 a3 => va_Nc.of (hfl _ (znc_in e1 a1 e2 a2 a3))⟩
  · rcases (show t = 0 ∨ t = 1 ∨ t = 2 ∨ t = 3 by omega) with rfl | rfl | rfl | rfl
    · exact ⟨i1, kI, compI, i2, i3, fun h => by cases h⟩
    · exact ⟨j1, kJ, compJ, j2, j3, fun h => by cases h⟩
    · exact ⟨b1, kB, compB, b2, b3, fun h => by cases h⟩
    · refine ⟨u5, kU, compU, u3, u4, fun _ => ?_⟩
      exact Option.some.inj (u1.symm.trans (hKn 1 (by omega)).2.1)
  · refine va_Nw.of ?_ (hts w hw)
    cases w <;> first | rfl | (simp [zisX] at hX)
  · obtain ⟨h1, h2⟩ := zst_in q hq
    obtain ⟨a, c, cA, kA, q1, -⟩ := Cond.exactly_spec (args := args) (first := s) (o := none) (s := s) (idx := []) (hfl _ h2)
    exact ⟨a, vk_R.of (hts _ h1) q1⟩
/-- THE LAW, from its entry -/
theorem whole_start (hpure : zPure) {p : Program} {e : Env} {s : State} {m : MethodId} {below : List Frame} {meth : Method} {c : Code} (l : Launch) (hl : l.stackTraces = false) {b L : Nat} {xs : Nat → Int32} (hL : L ≤ 2560) (C0 : lw_At p s m meth c b L xs) (hname : meth.name = x.name) (htab : c.exceptionTable.toList = []) : W p l e room_1 s m #[Value.ref b] below meth c s.heap [] 0 0 (lw_Z below #[Value.ref b] s) (entryFrame m ([Value.ref b] : List Value).toArray 8) := by
  obtain ⟨hx, hb, hr, hml, hown, hts, hX, hbl, hlocks, hgv⟩ := C0
  obtain ⟨D, aC, hK⟩ := zK_start hts hgv
  obtain ⟨n, hF, hex, hF1, hF2⟩ := hpure L xs hL
  have hfl := flat_of_before _ hgv
  have hnA : ∀ a : Nat, a < s.heap.size → ¬ (fun q => s.heap.size ≤ q) a := fun a h h2 => by simp only at h2; omega
  have hU := vx_Zqof (A := fun q => s.heap.size ≤ q) (hts _ zun_w.1.1) (hts _ zun_w.2.1) (hfl _ zun_in.1) hnA
  have hN := vx_Zqof (A := fun q => s.heap.size ≤ q) (hts _ zun_w.1.2) (hts _ zun_w.2.1) (hfl _ zun_in.2) hnA
  obtain ⟨g1, g2, g3, g4, g5, g6⟩ := zlaw_is
  have hCx : zCx L xs b s.heap.size D aC p room_1 s m #[Value.ref b] meth c 123 12 :=
    ⟨⟨hx, by rw [g1]; exact hb, by rw [g2]; exact hr, by rw [g3]; exact hml, by rw [g5]; exact hown⟩, fun w h _ => hts w h, by rw [g4]; exact htab, hlocks, by rw [g6]; exact hname, ⟨Nat.le_refl _, Nat.le_refl _⟩, hK, ⟨hU, hN⟩, ⟨hX, hbl⟩, Nat.le_refl _⟩
  have k9 := z_sound hl n 12 123 0 _ _ _ _ _ hex b s.heap.size (fun _ => b) D aC p e room_1 s m #[Value.ref b] below meth c hF.length (zsl hF) hCx hF1 hF2 rfl
  have hls : zLs s.heap.size (fun _ => b) 8 (zent 8 [.retAddr 1]) ((lg_sl [Value.ref b] ++ List.replicate (8 - (lg_sl [Value.ref b]).length) Slot.unset).toArray) := by
    have h3 := lv_entry [Value.ref b] (n := 8) (Nat.le_of_ble_eq_true rfl)
    refine ⟨h3.1, rfl, h3.2.1, fun i v hv hu => ?_⟩
    match i, hv with
    | 0, hv => cases hv; rfl
    | i + 1, hv =>
      have hz : zent 8 [.retAddr 1] = .retAddr 1 :: List.replicate 7 (.retAddr 0) := rfl
      rw [hz, List.getElem?_cons_succ] at hv
      exact absurd (List.eq_of_mem_replicate (List.mem_of_getElem? hv)) hu
  have k8 := k9 s.heap [] 0 0 _ ⟨by simp, fun k q h => by simp at h⟩ va_S.rf (by rw [g3]; exact hls) (by simp) (by simp [zsl])
  rw [lg_entry_eq]
  intro T hT X
  obtain ⟨t, a1, o, a2, a3, a4⟩ := k8 T hT X
  refine ⟨t, a1, o, a2, a3, ?_⟩
  rcases a4 with ⟨⟨v, c1, c2, -⟩, L9, ⟨⟨v2, f1⟩, f2, f3⟩, f4⟩ | ⟨q, -, E, ce, L9, ⟨ex, c1, -⟩, -⟩
  · cases c1
    refine ⟨c2, ⟨v2, f1⟩, f2, f3.weaken (fun y hy hlt => absurd (f4 y hy) (Nat.not_le.mpr hlt)) hF1 hF2⟩
  · cases c1
set_option maxHeartbeats 4000000 in
theorem lw_walk (hpure : zPure) (l : Launch) (hl : l.stackTraces = false) (b : Addr) (xs : List Int32) : MetFree l x (headSpec (Jvm.Cond.code x code maxLocals ret :: tables_1) room_1) (lw_P b xs) (fun _ _ _ _ _ => True) lw_Q := by
  refine MetFree.of_bodyS (code := code) (maxLocals := maxLocals) (ret := ret) (by decide) ?_ ?_
  · intro args s m h hn
    obtain ⟨meth, c, h1, h2, h3, h4, h5, h6, -, -⟩ := Cond.code_spec hn (atoms_spec (ws := Jvm.Cond.code x code maxLocals ret :: tables_1) h _ List.mem_cons_self)
    exact ⟨meth, c, h1, h2, h3, h4, h5, h6⟩
  · intro p e s m args below meth c s₁ B hml0 hP _
    obtain ⟨rfl, hx, hbd, hgv⟩ := hP
    obtain ⟨scr, harrAt, hlist, hof, hsmall⟩ := hx
    obtain ⟨hcb, hkn, -, -⟩ := State.arrayAt?_spec harrAt
    have hown : s.vm.findClass R_law = some m.cls := findClass_of_methodNamed B.named
    have hts0 : ∀ c ∈ (Jvm.Cond.code x code maxLocals ret :: tables_1), c.before #[Value.ref b] s = true := atoms_spec (ws := Jvm.Cond.code x code maxLocals ret :: tables_1) B.pre
    have hts : ∀ w ∈ lw_tbl, w.before #[Value.ref b] s = true := k2_hts_sels lw_privs (fun w hw => hts0 w (List.mem_cons_of_mem _ hw)) lw_privs_ok
    have hml : c.maxLocals = 8 := B.maxLocals_eq (hts0 _ List.mem_cons_self)
    have X₀ : Stand p l e room_1 s m #[Value.ref b] below meth c s₁ [] 0 0 := Stand.of_body B
    have hh0 : s₁.heap = s.heap := by rw [B.state]; rfl
    have hsz : scr.slots.size = xs.length := by rw [← Array.length_toList, hlist, List.length_map]
    have hval : ∀ j : Nat, j < xs.length → scr.slots[j]? = some (.int (xs.getD j 0)) := fun j hj => by
      rw [← Array.getElem?_toList, hlist]
      simp [hj]
    have hbl : b < s.heap.size := (Array.getElem?_eq_some_iff.mp hcb).1
    have hX : va_X b xs.length (fun j => xs.getD j 0) s s.heap := ⟨scr, hcb, hof, hkn, hsz, hval⟩
    have K : W p l e room_1 s m #[Value.ref b] below meth c s₁.heap [] 0 0 (lw_Z below #[Value.ref b] s) (entryFrame m ([Value.ref b] : List Value).toArray 8) := by
      rw [hh0]
      exact whole_start hpure l hl hbd ⟨B.exec, B.bytes, B.returns, hml, hown, hts, hX, hbl, B.notSynchronized, hgv⟩ (name_of_methodNamed B.named B.method).1 (Array.isEmpty_iff.mp (B.noHandlers (hts0 _ List.mem_cons_self)) ▸ rfl)
    obtain ⟨t, a1, o, b1, b2, b3⟩ := K s₁ rfl X₀
    exact ⟨t, o, a1, b1, b2, b3⟩
theorem lw_pre_spec {args : Array Value} {s : State} (h : (Jvm.Cond.and given_1 narrow_1).before args s = true) (hr : rest_1_c.before args s = true) : ∃ (b : Addr) (xs : List Int32), lw_P b xs args s := by
  have hs := flat_of_before _ h
  have hq := flat_of_before _ hr
  have hc : (Cond.count 1).before args s = true := hs _ (by decide +kernel)
  have harr : (Cond.arrayOf (.arg 0) .int).before args s = true := hs _ (by decide +kernel)
  have hle : (Cond.le (.length (.arg 0)) (.int 2560)).before args s = true := hs _ (by decide +kernel)
  have hlen : (Cond.isInt (.length (.arg 0))).before args s = true := hq _ (by decide +kernel)
  have hall : (Cond.all (.arg 0) (.isInt (.elem (.arg 0) (.index 0)))).before args s = true := hq _ (by decide +kernel)
  obtain ⟨b, xs, hb, hx⟩ := State.ints_of_pre rfl harr hlen hall
  have hsm : xs.length < 2 ^ 31 := hx.choose_spec.2.2.2
  have hev : (Term.length (.arg 0)).eval args s none [] s = some (.int xs.length.toInt32) := hx.length_eval hb
  have hv := Cond.le_ints hev (show (Term.int 2560).eval args s none [] s = some (.int 2560) from rfl)
  have hd : xs.length.toInt32 ≤ 2560 := by
    simpa [Cond.before, Cond.holds, hv] using hle
  have hN : xs.length ≤ 2560 := (Int32.ofNat_le_ofNat hsm (by decide)).mp (show Int32.ofNat xs.length ≤ Int32.ofNat 2560 from hd)
  exact ⟨b, xs, Cond.one_arg hc (show args[0]? = some (.ref b) from hb), hx, hN, h⟩
theorem lw_comes (hpure : zPure) (l : Launch) (hl : l.stackTraces = false) : Comes l x (Jvm.Cond.code x code maxLocals ret :: tables_1) room_1 (fun tb e args s => Calls_1 tb e args s ∧ rest_1 tb e args s ∧ Pre_1 tb e args s)
    (fun _ _ args s o t => lw_Q args s o t) := by
  intro p e ha hc hk s m args below hf hfit hheap happ hpre
  obtain ⟨b, xs, hP⟩ := lw_pre_spec hpre.2.2 hpre.2.1
  obtain ⟨k, o, h1, h2, h3, hQ⟩ := lw_walk hpure l hl b xs p e ha hc hk s m args below hf ((Spec.applies_iff_loose hf).mp happ).1 hP trivial
  exact ⟨k, o, h1, h2, h3, hQ⟩
theorem lw_frame {s t : State} {o : Outcome} {args : Array Value} (h : Framed s o t [] 601024 7293034) :
    Framed s o t (fieldLocs frame_1_writes args s ++ arrayLocs frame_1_arrays args s ++ staticLocs frame_1_statics s) 601024 7293034 := h
theorem lw_limb (hpure : zPure) (L : Cond) (hL : ∀ (args : Array Value) (s t : State), L.after args s (.returned (some (.int 1))) t = true) :
    ArmFor flags0 classFile x code maxLocals ret World_1 tables_1 room_1 Calls_1 rest_1 Pre_1
      (fun tb e a s o t => postC L tb e a s o t ∧ Framed s o t (fieldLocs frame_1_writes a s ++ arrayLocs frame_1_arrays a s ++ staticLocs frame_1_statics s) 601024 7293034) := by
  intro l hfl _ _ p e ha hc hk s m args below hf hfit hheap happ hpre
  obtain ⟨k, o, h1, h2, h3, rfl, hF⟩ := lw_comes hpure l (by unfold Launch.stackTraces; rw [hfl]; decide +kernel) p e ha hc hk s m args below hf hfit hheap happ hpre
  exact ⟨k, _, h1, h2, h3, hL args s _, lw_frame hF⟩
theorem i_vc_open (hpure : zPure) : Claimed_1_1 ∧ Claimed_1_2 := ⟨lw_limb hpure limb_1_1 (fun args s t => by simp [limb_1_1, Cond.after, Cond.holds, Cond.value]), lw_limb hpure limb_1_2 (fun args s t => Cond.after_iff.mpr (by
  first | (rw [show limb_1_2 = Cond.eq .result (.int 1) from rfl, Cond.eq_ints (x := 1) (y := 1) rfl rfl]; simp; done) | (simp [limb_1_2, Cond.value, Term.eval]; done)))⟩
