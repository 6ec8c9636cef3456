/-- what is proved by induction on the steps -/
def zP (l : Launch) (sL : Nat) (sx : Nat → Int32) (n : Nat) : Prop := ∀ (d y pc : Nat) (L S : List Value) (h : zH) (o : Outcome) (hF : zH), zexec sL sx n d y pc L S h = some (o, hF) →
  ∀ (b n0 : Nat) (ext : Nat → Nat) (D : va_G) (aC : Nat → ClassId) (p : Program) (e : Env) (R : Room) (s : State) (m : MethodId) (args : Array Value) (below : List Frame) (meth : Method) (c : Code) (M1 M2 : Nat),
    zCx sL sx b n0 D aC p R s m args meth c y d → M1 ≤ R.cells → M2 ≤ R.slots → ext 1 = b → zG n0 ext D aC p l e R s m args below meth c y hF.length (zsl hF) M1 M2 (zEnd D aC n0 below args s M1 M2 o hF) pc L S h
theorem zmet {l : Launch} {sL : Nat} {sx : Nat → Int32} {n : Nat} (ih : zP l sL sx n) {b n0 : Nat} {D : va_G} {aC : Nat → ClassId} {z d : Nat} {As : List Value} {h h1 : zH} {o : Outcome} (hex : zexec sL sx n d z 0 (zent (zmax z) As) [] h = some (o, h1)) (hA : As.all zok = true)
    (hlen : (As.flatMap fun v => bif zwide v then [v, Value.retAddr 0] else [v]).length ≤ zmax z) (hpn : plainName (zname z).cls = true) (hcn : (zname z).cls = zcn (zcls z)) : zMt l sL sx b n0 D aC z d As h o h1 := by
  obtain ⟨g1, g2⟩ := zexec_mono _ _ _ _ _ _ _ _ _ hex
  have key : ∀ (p : Program) (e : Env) (s : State) (m : MethodId) (args : Array Value) (below : List Frame) (meth : Method) (c : Code) (s₁ : State),
      BodyLoose p l (zname z) (headSpec (zwd z :: lw_tbl.filter goodWord) (zRm d (h1.length - h.length) (zsl h1 - zsl h))) (zbyt z) (zmax z) (zret z) e s m args below meth c s₁ → c.maxLocals = zmax z → c.exceptionTable.toList = tableOf (zhan z) → zPc sL sx b n0 D aC As h args s →
      W p l e (zRm d (h1.length - h.length) (zsl h1 - zsl h)) s m args below meth c s.heap [] 0 0 (zEnd D aC n0 below args s (h1.length - h.length) (zsl h1 - zsl h) o h1) (entryFrame m args (zmax z)) := by
    intro p e s m args below meth c s₁ B hml htab hPc
    obtain ⟨rfl, hR, hK, hUN, hX⟩ := hPc
    have hw : ∀ w ∈ lw_tbl, goodWord w = true → w.before (As.map (zw n0)).toArray s = true := fun w a1 a2 => atoms_spec (ws := zwd z :: lw_tbl.filter goodWord) B.pre w (List.mem_cons_of_mem _ (zfil a1 a2))
    have hown : s.vm.findClass (zcn (zcls z)) = some m.cls := by rw [← hcn]; exact findClass_of_methodNamed B.named
    have hCx : zCx sL sx b n0 D aC p (zRm d (h1.length - h.length) (zsl h1 - zsl h)) s m (As.map (zw n0)).toArray meth c z d :=
      ⟨⟨B.exec, B.bytes, B.returns, hml, hown⟩, hw, htab, B.notSynchronized, (name_of_methodNamed B.named B.method).1, ⟨Nat.le_refl _, Nat.le_refl _⟩, hK, hUN, hX, by rw [hR.1]; omega⟩
    have k9 := ih d z 0 (zent (zmax z) As) [] h o h1 hex b n0 (fun _ => b) D aC p e (zRm d (h1.length - h.length) (zsl h1 - zsl h)) s m (As.map (zw n0)).toArray below meth c (h1.length - h.length) (zsl h1 - zsl h) hCx (Nat.le_refl _) (Nat.le_refl _) rfl
    rw [lg_entry_eq]
    exact k9 s.heap [] 0 0 _ hR va_S.rf (zLs_entry hA hlen) (by omega) (by omega)
  cases hem : (zhan z).isEmpty with
  | true =>
    have hwd : zwd z = .code (zname z) (zbyt z) (zmax z) (zret z) := by unfold zwd; rw [hem]; rfl
    refine vx_ofW (cc := zbyt z) (maxL := zmax z) (ret := zret z) hpn (by rw [hwd]) ?_
    intro p e s m args below meth c s₁ B hml hno hPc
    refine key p e s m args below meth c s₁ B hml ?_ hPc
    rw [List.isEmpty_iff.mp hem]
    exact List.eq_nil_iff_forall_not_mem.mpr hno
  | false =>
    have hwd : zwd z = .codeWith (zname z) (zbyt z) (zmax z) (zret z) (zhan z) := by unfold zwd; rw [hem]; rfl
    refine vx_ofWH (cc := zbyt z) (maxL := zmax z) (ret := zret z) (hh := zhan z) hpn (by rw [hwd]) ?_
    intro p e s m args below meth c s₁ B hml hPc
    refine key p e s m args below meth c s₁ B hml ?_ hPc
    exact vx_table (x := zname z) B (atoms_spec (ws := zwd z :: lw_tbl.filter goodWord) B.pre _ (by rw [hwd]; exact List.mem_cons_self))
theorem zcall_mk {y : Nat} {ins : Instr} {z : Nat} {stat mt : Bool} (h : zcalls y ins = some (z, stat, mt)) : plainName (zname z).cls = true ∧ (zname z).cls = zcn (zcls z) := by
  have key : ∀ st, zmk z st = true → plainName (zname z).cls = true ∧ (zname z).cls = zcn (zcls z) := by
    intro st h9
    simp only [zmk, Bool.and_eq_true, decide_eq_true_eq] at h9
    exact ⟨h9.1.1.1.1.1.1.1, h9.1.2⟩
  cases ins with
  | invokevirtual i =>
    simp only [zcalls] at h
    split at h
    · rename_i z' k9 hp
      cases h
      obtain ⟨hpk, -⟩ := zpool_ok hp
      simp only [zpk, Bool.and_eq_true] at hpk
      exact key _ hpk.1.1
    · simp at h
  | invokestatic i =>
    simp only [zcalls] at h
    split at h
    · rename_i z' k9 hp
      cases h
      obtain ⟨hpk, -⟩ := zpool_ok hp
      simp only [zpk, Bool.and_eq_true] at hpk
      exact key _ hpk.1
    · rename_i z' k9 hp
      cases h
      obtain ⟨hpk, -⟩ := zpool_ok hp
      simp only [zpk, Bool.and_eq_true] at hpk
      exact key _ hpk.1
    · simp at h
  | invokespecial i =>
    simp only [zcalls] at h
    split at h
    · rename_i z' k9 hp
      cases h
      obtain ⟨hpk, -⟩ := zpool_ok hp
      simp only [zpk, Bool.and_eq_true] at hpk
      exact key _ hpk.1.1.1
    · rename_i z' k9 hp
      cases h
      obtain ⟨hpk, -⟩ := zpool_ok hp
      simp only [zpk, Bool.and_eq_true] at hpk
      exact key _ hpk.1.1.1
    · simp at h
  | _ => simp [zcalls] at h
theorem z_sound {l : Launch} (hl : l.stackTraces = false) {sL : Nat} {sx : Nat → Int32} : ∀ n, zP l sL sx n := by
  intro n
  induction n with
  | zero => intro d y pc L S h o hF hs; simp [zexec] at hs
  | succ n ih =>
    intro d y pc L S h o hF hs b n0 ext D aC p e R s m args below meth c M1 M2 hCx hM1 hM2 hext
    have hs0 := hs
    simp only [zexec] at hs
    cases hat : zat y pc with
    | none => simp [hat] at hs
    | some r0 =>
      obtain ⟨ins, len⟩ := r0
      have hh : zHere y pc len ins := ⟨(zat_ok hat).1, (zat_ok hat).2.1, (zat_ok hat).2.2.1⟩
      simp only [hat] at hs
      cases he : zends y ins S with
      | some v =>
        simp only [he, Option.some.injEq, Prod.mk.injEq] at hs
        obtain ⟨rfl, rfl⟩ := hs
        exact zs_ret hCx hh he
      | none =>
        simp only [he] at hs
        cases ht : zthr y ins with
        | some ex =>
          simp only [ht] at hs
          cases hb : zthrows d y pc S ex with
          | false => simp [hb] at hs
          | true =>
            simp only [hb, cond_true, Option.some.injEq, Prod.mk.injEq] at hs
            obtain ⟨rfl, rfl⟩ := hs
            exact zs_thr hl hCx hM1 hM2 hh ht hb
        | none =>
          simp only [ht] at hs
          cases hk : zskip d y ins pc L S h with
          | some r =>
            simp only [hk] at hs
            obtain ⟨⟨pc', L', S'⟩, h'⟩ := r
            have hm := zexec_mono _ _ _ _ _ _ _ _ _ hs
            exact zs_skip hCx hM1 hM2 hh hk hm.1 hm.2 (ih _ _ _ _ _ _ _ _ hs b n0 ext D aC p e R s m args below meth c M1 M2 hCx hM1 hM2 hext)
          | none =>
            simp only [hk] at hs
            cases hc : zcalls y ins with
            | some r =>
              obtain ⟨z, stat, mt⟩ := r
              simp only [hc] at hs
              cases d with
              | zero => simp at hs
              | succ d' =>
                simp only at hs
                cases hok : zcallok z stat (S.take (znar z)).reverse (S.drop (znar z)) h with
                | false => simp [hok] at hs
                | true =>
                  simp only [hok, cond_true] at hs
                  cases hx : zexec sL sx n d' z 0 (zent (zmax z) (S.take (znar z)).reverse) [] h with
                  | none => simp [hx] at hs
                  | some r1 =>
                    obtain ⟨o1, h1⟩ := r1
                    simp only [hx] at hs
                    have m1 := zexec_mono _ _ _ _ _ _ _ _ _ hx
                    obtain ⟨pn, cn⟩ := zcall_mk hc
                    have hok2 := hok
                    simp only [zcallok, Bool.and_eq_true] at hok2
                    have hM : zMt l sL sx b n0 D aC z d' (S.take (znar z)).reverse h o1 h1 := zmet ih hx hok2.1.1.1.2 (Nat.le_of_ble_eq_true hok2.1.2) pn cn
                    have hSt : S = (S.take (znar z)).reverse.reverse ++ S.drop (znar z) := by rw [List.reverse_reverse, List.take_append_drop]
                    have m2 : h1.length ≤ hF.length ∧ zsl h1 ≤ zsl hF := by
                      cases o1 with
                      | returned v => exact zexec_mono _ _ _ _ _ _ _ _ _ hs
                      | threw ex =>
                        simp only at hs
                        cases mt with
                        | false => simp at hs
                        | true =>
                          simp only [cond_true] at hs
                          cases hy : (zhan y).isEmpty with
                          | true =>
                            simp only [hy, cond_true, Option.some.injEq, Prod.mk.injEq] at hs
                            obtain ⟨rfl, rfl⟩ := hs
                            exact ⟨Nat.le_refl _, Nat.le_refl _⟩
                          | false =>
                            simp only [hy, cond_false] at hs
                            cases hca : zcatch y pc ex (zhan y) with
                            | none => simp [hca] at hs
                            | some hp =>
                              simp only [hca] at hs
                              cases hL : L.all (fun v => !decide (v = .retAddr 2)) with
                              | false => simp [hL] at hs
                              | true =>
                                simp only [hL, cond_true] at hs
                                exact zexec_mono _ _ _ _ _ _ _ _ _ hs
                    refine zs_call hCx hM1 hM2 hh hc hok hSt hM m1.1 m1.2 m2.1 m2.2 (fun v ho _ => ?_) (fun hmt ex ho => ?_) (fun hmt => ?_)
                    · subst ho
                      exact ih _ _ _ _ _ _ _ _ hs b n0 ext D aC p e R s m args below meth c M1 M2 hCx hM1 hM2 hext
                    · subst ho; subst hmt
                      simp only [cond_true] at hs
                      cases hy : (zhan y).isEmpty with
                      | true =>
                        simp only [hy, cond_true, Option.some.injEq, Prod.mk.injEq] at hs
                        obtain ⟨rfl, rfl⟩ := hs
                        intro H locs cells slots ls q ce hR hS hL hc9 hz9 hex hce hcv hcl
                        obtain ⟨-, -, htab, hlocks, -⟩ := hCx
                        exact vx_out (by rw [htab, List.isEmpty_iff.mp hy]; exact fun _ h9 => by cases h9) hlocks hce hcv hcl (fun t ht hA => ⟨ex, rfl, hex, rfl, by rw [ht]; exact hR, hS.F ht⟩) hS.2.2 (by omega) (by omega)
                      | false =>
                        simp only [hy, cond_false] at hs
                        cases hca : zcatch y pc ex (zhan y) with
                        | none => simp [hca] at hs
                        | some hp =>
                          simp only [hca] at hs
                          cases hL : L.all (fun v => !decide (v = .retAddr 2)) with
                          | false => simp [hL] at hs
                          | true =>
                            simp only [hL, cond_true] at hs
                            exact zs_catch hCx hca hL (fun ext' he' => ih _ _ _ _ _ _ _ _ hs b n0 ext' D aC p e R s m args below meth c M1 M2 hCx hM1 hM2 (he'.trans hext))
                    · subst hmt
                      cases o1 with
                      | returned v => exact ⟨v, rfl⟩
                      | threw ex => simp at hs
            | none =>
              simp only [hc] at hs
              cases hsm : zsim sL sx y ins len pc L S h with
              | none => simp [hsm] at hs
              | some r =>
                simp only [hsm] at hs
                obtain ⟨⟨pc', L', S'⟩, h'⟩ := r
                have hm := zexec_mono _ _ _ _ _ _ _ _ _ hs
                exact zs_sim hCx hM1 hM2 hext hh hsm hm.1 hm.2 (ih _ _ _ _ _ _ _ _ hs b n0 ext D aC p e R s m args below meth c M1 M2 hCx hM1 hM2 hext)
