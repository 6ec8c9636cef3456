/-! THE SMALL MACHINE'S RUNS ARE THE MACHINE'S -/
def zGrow (h h' : zH) : Prop := h' = h ∨ (∃ a q vs, h[a]? = some q ∧ vs.length = q.2.length ∧ h' = h.set a (q.1, vs)) ∨ ∃ q, h' = h ++ [q]
theorem zGrow.mono {h h' : zH} (g : zGrow h h') : h.length ≤ h'.length ∧ zsl h ≤ zsl h' := by
  rcases g with rfl | ⟨a, q, vs, h1, h2, rfl⟩ | ⟨q, rfl⟩
  · exact ⟨Nat.le_refl _, Nat.le_refl _⟩
  · exact ⟨by simp, by rw [zsl_set h1 h2]; exact Nat.le_refl _⟩
  · exact ⟨by simp, by rw [zsl_app]; omega⟩
theorem zwr_grow {nx : Nat} {L : List Value} {h : zH} {t : Nat} {v : Value} {i : Int32} {a : Nat} {r : List Value} {q : zC × zH} (hs : zwr nx L h t v i a r = some q) : zGrow h q.2 := by
  simp only [zwr] at hs
  cases ha : h[a]? with
  | none => simp [ha] at hs
  | some q9 =>
    simp only [ha] at hs
    cases hb9 : Nat.beq q9.1 t with
    | false => simp [hb9] at hs
    | true =>
      simp only [hb9, cond_true] at hs
      by_cases hi : i < 0
      · simp [hi] at hs
      · rw [if_neg hi] at hs
        by_cases hlt : i.toNatClampNeg < q9.2.length
        · rw [if_pos hlt] at hs
          cases hs
          exact Or.inr (Or.inl ⟨a, q9, _, ha, by simp, rfl⟩)
        · rw [if_neg hlt] at hs; simp at hs
set_option maxHeartbeats 1000000 in
theorem zsim_grow {sL : Nat} {sx : Nat → Int32} {y : Nat} {ins : Instr} {len pc : Nat} {L S : List Value} {h : zH} {q : zC × zH} (hs : zsim sL sx y ins len pc L S h = some q) : zGrow h q.2 := by
  cases ins with
  | putfield i =>
    simp only [zsim] at hs
    split at hs
    · rename_i ci k9 hp
      split at hs
      · rename_i v a r
        cases ha : h[a]? with
        | none => simp [ha] at hs
        | some q9 =>
          simp only [ha] at hs
          cases hb9 : (Nat.beq q9.1 (10 + ci) && zfits (zty ci k9) v && Nat.blt k9 q9.2.length && (!(zfd ci k9).2.2.2 || (Nat.beq (zcls y) ci && decide ((zname y).name = "<init>")))) with
          | false => simp [hb9] at hs
          | true =>
            simp only [hb9, cond_true] at hs
            cases hs
            exact Or.inr (Or.inl ⟨a, q9, _, ha, by simp, rfl⟩)
      · simp at hs
    · simp at hs
  | iastore => simp only [zsim] at hs; split at hs; exact zwr_grow hs; simp at hs
  | lastore => simp only [zsim] at hs; split at hs; exact zwr_grow hs; simp at hs
  | bastore =>
    simp only [zsim] at hs
    split at hs
    · split at hs
      · exact zwr_grow hs
      · simp at hs
    · simp at hs
  | aastore =>
    simp only [zsim] at hs
    split at hs
    · rename_i v i a r
      cases hq : h[v]? with
      | none => simp [hq] at hs
      | some q9 =>
        simp only [hq] at hs
        cases hb9 : Nat.beq q9.1 11 with
        | false => simp [hb9] at hs
        | true => simp only [hb9, cond_true] at hs; exact zwr_grow hs
    · simp at hs
  | newarray t =>
    simp only [zsim] at hs
    split at hs
    · split at hs
      · split at hs
        · simp at hs
        · split at hs
          · cases hs; exact Or.inr (Or.inr ⟨_, rfl⟩)
          · simp at hs
      · simp at hs
    · simp at hs
  | anewarray i =>
    simp only [zsim] at hs
    split at hs
    · split at hs
      · split at hs
        · simp at hs
        · split at hs
          · cases hs; exact Or.inr (Or.inr ⟨_, rfl⟩)
          · simp at hs
      · simp at hs
    · simp at hs
  | new i =>
    simp only [zsim] at hs
    split at hs
    · rename_i ci k9 hp
      cases hb9 : Nat.blt ci 4 with
      | false => simp [hb9] at hs
      | true =>
        simp only [hb9, cond_true] at hs
        cases hs
        exact Or.inr (Or.inr ⟨_, rfl⟩)
    · simp at hs
  | _ =>
    refine Or.inl ?_
    simp only [zsim, zpush, zldi, zldl, zlda, zsti, zsta, zstl, zii, zll, zjump, zrd, reduceCtorEq, cond_eq_ite] at hs
    try (repeat' split at hs)
    all_goals first | (cases hs; rfl) | (simp at hs; done) | (simp at hs; rw [← hs])
theorem zskip_same {d y : Nat} {ins : Instr} {pc : Nat} {L S : List Value} {h : zH} {q : zC × zH} (hs : zskip d y ins pc L S h = some q) : q.2 = h := by
  cases ins with
  | invokespecial i =>
    simp only [zskip, cond_eq_ite] at hs
    repeat' split at hs
    all_goals first | (cases hs; rfl) | (simp at hs; done)
  | invokestatic i =>
    simp only [zskip, cond_eq_ite] at hs
    repeat' split at hs
    all_goals first | (cases hs; rfl) | (simp at hs; done)
  | _ => simp [zskip] at hs
theorem zexec_mono {sL : Nat} {sx : Nat → Int32} : ∀ (n d y pc : Nat) (L S : List Value) (h : zH) (o : Outcome) (hF : zH), zexec sL sx n d y pc L S h = some (o, hF) → h.length ≤ hF.length ∧ zsl h ≤ zsl hF := by
  intro n
  induction n with
  | zero => intro d y pc L S h o hF hs; simp [zexec] at hs
  | succ n ih =>
    intro d y pc L S h o hF hs
    simp only [zexec] at hs
    cases hat : zat y pc with
    | none => simp [hat] at hs
    | some r0 =>
      obtain ⟨ins, len⟩ := r0
      simp only [hat] at hs
      cases he : zends y ins S with
      | some v =>
        simp only [he, Option.some.injEq, Prod.mk.injEq] at hs
        obtain ⟨rfl, rfl⟩ := hs
        exact ⟨Nat.le_refl _, Nat.le_refl _⟩
      | none =>
        simp only [he] at hs
        cases ht : zthr y ins with
        | some ex =>
          simp only [ht] at hs
          cases hb : zthrows d y pc S ex with
          | false => simp [hb] at hs
          | true =>
            simp only [hb, cond_true, Option.some.injEq, Prod.mk.injEq] at hs
            obtain ⟨rfl, rfl⟩ := hs
            exact (zGrow.mono (Or.inr (Or.inr ⟨_, rfl⟩)))
        | none =>
          simp only [ht] at hs
          cases hk : zskip d y ins pc L S h with
          | some r =>
            simp only [hk] at hs
            have := ih _ _ _ _ _ _ _ _ hs
            rw [zskip_same hk] at this
            exact this
          | none =>
            simp only [hk] at hs
            cases hc : zcalls y ins with
            | some r =>
              obtain ⟨z, stat, mt⟩ := r
              simp only [hc] at hs
              cases d with
              | zero => simp at hs
              | succ d' =>
                simp only at hs
                cases hok : zcallok z stat (S.take (znar z)).reverse (S.drop (znar z)) h with
                | false => simp [hok] at hs
                | true =>
                  simp only [hok, cond_true] at hs
                  cases hx : zexec sL sx n d' z 0 (zent (zmax z) (S.take (znar z)).reverse) [] h with
                  | none => simp [hx] at hs
                  | some r1 =>
                    obtain ⟨o1, h1⟩ := r1
                    simp only [hx] at hs
                    have m1 := ih _ _ _ _ _ _ _ _ hx
                    cases o1 with
                    | returned v =>
                      simp only at hs
                      have m2 := ih _ _ _ _ _ _ _ _ hs
                      omega
                    | threw ex =>
                      simp only at hs
                      cases mt with
                      | false => simp at hs
                      | true =>
                        simp only [cond_true] at hs
                        cases hy : (zhan y).isEmpty with
                        | true =>
                          simp only [hy, cond_true, Option.some.injEq, Prod.mk.injEq] at hs
                          obtain ⟨rfl, rfl⟩ := hs
                          exact m1
                        | false =>
                          simp only [hy, cond_false] at hs
                          cases hca : zcatch y pc ex (zhan y) with
                          | none => simp [hca] at hs
                          | some hp =>
                            simp only [hca] at hs
                            cases hL : L.all (fun v => !decide (v = .retAddr 2)) with
                            | false => simp [hL] at hs
                            | true =>
                              simp only [hL, cond_true] at hs
                              have m2 := ih _ _ _ _ _ _ _ _ hs
                              omega
            | none =>
              simp only [hc] at hs
              cases hsm : zsim sL sx y ins len pc L S h with
              | none => simp [hsm] at hs
              | some r =>
                simp only [hsm] at hs
                have m1 := (zsim_grow hsm).mono
                have m2 := ih _ _ _ _ _ _ _ _ hs
                omega
section ZM
variable {sL : Nat} {sx : Nat → Int32} {b n0 : Nat} {ext : Nat → Nat} {D : va_G} {aC : Nat → ClassId} {p : Program} {l : Launch} {e : Env} {R : Room} {s : State} {m : MethodId} {args : Array Value} {below : List Frame} {meth : Method} {c : Code} {y d F1 F2 M1 M2 : Nat} {Q : State → Prop}
variable {len pc pc' : Nat} {L L' S S' : List Value} {h h' : zH}
theorem zs_sim (hCx : zCx sL sx b n0 D aC p R s m args meth c y d) (hM1 : M1 ≤ R.cells) (hM2 : M2 ≤ R.slots) (hext : ext 1 = b) {ins : Instr} (hh : zHere y pc len ins) (hs : zsim sL sx y ins len pc L S h = some ((pc', L', S'), h')) (hF1 : h'.length ≤ F1) (hF2 : zsl h' ≤ F2)
    (k : zG n0 ext D aC p l e R s m args below meth c y F1 F2 M1 M2 Q pc' L' S' h') : zG n0 ext D aC p l e R s m args below meth c y F1 F2 M1 M2 Q pc L S h := by
  cases ins with
  | iconst n => exact zs_iconst hCx hh hs k
  | bipush n => exact zs_bipush hCx hh hs k
  | sipush n => exact zs_sipush hCx hh hs k
  | lconst n => exact zs_lconst hCx hh hs k
  | aconst_null => exact zs_null hCx hh hs k
  | ldc i => exact zs_ldc hCx hh hs k
  | ldc2_w i => exact zs_ldc2 hCx hh hs k
  | iload i => exact zs_iload hCx hh hs k
  | iload_n i => exact zs_iload_n hCx hh hs k
  | lload i => exact zs_lload hCx hh hs k
  | lload_n i => exact zs_lload_n hCx hh hs k
  | aload i => exact zs_aload hCx hh hs k
  | aload_n i => exact zs_aload_n hCx hh hs k
  | istore i => exact zs_istore hCx hh hs k
  | istore_n i => exact zs_istore_n hCx hh hs k
  | astore i => exact zs_astore hCx hh hs k
  | astore_n i => exact zs_astore_n hCx hh hs k
  | lstore i => exact zs_lstore hCx hh hs k
  | lstore_n i => exact zs_lstore_n hCx hh hs k
  | iinc i n => exact zs_iinc hCx hh hs k
  | iadd => exact zs_iadd hCx hh hs k
  | isub => exact zs_isub hCx hh hs k
  | imul => exact zs_imul hCx hh hs k
  | iand => exact zs_iand hCx hh hs k
  | ior => exact zs_ior hCx hh hs k
  | ishl => exact zs_ishl hCx hh hs k
  | ladd => exact zs_ladd hCx hh hs k
  | land => exact zs_land hCx hh hs k
  | lor => exact zs_lor hCx hh hs k
  | lshl => exact zs_lshl hCx hh hs k
  | i2l => exact zs_i2l hCx hh hs k
  | lcmp => exact zs_lcmp hCx hh hs k
  | dup => exact zs_dup hCx hh hs k
  | dup2 => exact zs_dup2 hCx hh hs k
  | goto off => exact zs_goto hCx hh hs k
  | ifCond cd off =>
    cases cd with
    | eq => exact zs_ifc_eq hCx hh hs k
    | ne => exact zs_ifc_ne hCx hh hs k
    | lt => exact zs_ifc_lt hCx hh hs k
    | ge => exact zs_ifc_ge hCx hh hs k
    | gt => exact zs_ifc_gt hCx hh hs k
    | le => exact zs_ifc_le hCx hh hs k
  | if_icmp cd off =>
    cases cd with
    | eq => exact zs_icmp_eq hCx hh hs k
    | ne => exact zs_icmp_ne hCx hh hs k
    | lt => exact zs_icmp_lt hCx hh hs k
    | ge => exact zs_icmp_ge hCx hh hs k
    | gt => exact zs_icmp_gt hCx hh hs k
    | le => exact zs_icmp_le hCx hh hs k
  | if_acmp cd off =>
    cases cd with
    | eq => exact zs_acmp_eq hCx hh hs k
    | ne => exact zs_acmp_ne hCx hh hs k
  | ifnull off => exact zs_ifnull hCx hh hs k
  | ifnonnull off => exact zs_ifnonnull hCx hh hs k
  | tableswitch df lo hi offs => exact zs_tableswitch hCx hh hs k
  | getfield i => exact zs_getfield hCx hh hs k
  | putfield i => exact zs_putfield hCx hh hs k
  | iaload => exact zs_iaload hCx hext hh hs k
  | laload => exact zs_laload hCx hh hs k
  | baload => exact zs_baload hCx hh hs k
  | aaload => exact zs_aaload hCx hh hs k
  | iastore => exact zs_iastore hCx hh hs k
  | lastore => exact zs_lastore hCx hh hs k
  | bastore => exact zs_bastore hCx hh hs k
  | aastore => exact zs_aastore hCx hh hs k
  | arraylength => exact zs_arraylength hCx hext hh hs k
  | newarray t => exact zs_newarray hCx hM1 hM2 hh hs hF1 hF2 k
  | anewarray i => exact zs_anewarray hCx hM1 hM2 hh hs hF1 hF2 k
  | new i => exact zs_new hCx hM1 hM2 hh hs hF1 hF2 k
  | _ => simp [zsim] at hs
theorem zpz {i : Nat} {r : Nat × Nat × Nat} (hp : zpool y i = some r) : i ≠ 0 := by
  have hin := zlook_in hp
  have h0 : ∀ q ∈ zP_0, q.1 ≠ 0 := by decide +kernel
  have h1 : ∀ q ∈ zP_1, q.1 ≠ 0 := by decide +kernel
  have h2 : ∀ q ∈ zP_2, q.1 ≠ 0 := by decide +kernel
  have h3 : ∀ q ∈ zP_3, q.1 ≠ 0 := by decide +kernel
  have h4 : ∀ q ∈ zP_4, q.1 ≠ 0 := by decide +kernel
  rcases (show zcls y = 0 ∨ zcls y = 1 ∨ zcls y = 2 ∨ zcls y = 3 ∨ zcls y = 4 ∨ 5 ≤ zcls y by omega) with q | q | q | q | q | q
  · rw [q] at hin; exact h0 _ hin
  · rw [q] at hin; exact h1 _ hin
  · rw [q] at hin; exact h2 _ hin
  · rw [q] at hin; exact h3 _ hin
  · rw [q] at hin; exact h4 _ hin
  · have : zPs.getD (zcls y) [] = [] := by
      rw [List.getD_eq_getElem?_getD, List.getElem?_eq_none (by show 5 ≤ _; exact q)]; rfl
    rw [this] at hin
    cases hin
theorem zcatch_split {ex hp : Nat} : ∀ {hh : List (Nat × Nat × Nat × Nat)}, zcatch y pc ex hh = some hp → ∃ pre q suf k, hh = pre ++ q :: suf ∧ covers ⟨q.1, q.2.1, q.2.2.1, q.2.2.2⟩ pc = true ∧ q.2.2.1 = hp ∧ zpool y q.2.2.2 = some (7, ex, k) ∧
    ∀ z ∈ pre, covers ⟨z.1, z.2.1, z.2.2.1, z.2.2.2⟩ pc = false ∨ ∃ e2 k2, zpool y z.2.2.2 = some (7, e2, k2) ∧ ex ≠ e2 := by
  intro hh
  induction hh with
  | nil => intro h9; simp [zcatch] at h9
  | cons z r ih =>
    intro h9
    obtain ⟨a, b9, hp9, ct⟩ := z
    simp only [zcatch] at h9
    have hcov : covers ⟨a, b9, hp9, ct⟩ pc = (Nat.ble a pc && Nat.blt pc b9) := by
      simp only [covers]
      rw [Bool.eq_iff_iff]
      simp [Nat.ble_eq, Nat.blt]
      omega
    cases hb9 : (Nat.ble a pc && Nat.blt pc b9) with
    | false =>
      rw [hb9] at h9
      obtain ⟨pre, q, suf, k, e1, e2, e3, e4, e5⟩ := ih h9
      refine ⟨(a, b9, hp9, ct) :: pre, q, suf, k, by rw [e1]; rfl, e2, e3, e4, fun z hz => ?_⟩
      rcases List.mem_cons.mp hz with rfl | hz
      · exact Or.inl (hcov.trans hb9)
      · exact e5 z hz
    | true =>
      rw [hb9] at h9
      simp only [cond_true] at h9
      split at h9
      · rename_i e2 k2 hpl
        cases hq : Nat.beq e2 ex with
        | true =>
          simp only [hq, cond_true, Option.some.injEq] at h9
          have := Nat.eq_of_beq_eq_true hq
          subst this
          exact ⟨[], (a, b9, hp9, ct), r, k2, rfl, hcov.trans hb9, h9, hpl, fun z hz => by cases hz⟩
        | false =>
          simp only [hq, cond_false] at h9
          obtain ⟨pre, q, suf, k, g1, g2, g3, g4, g5⟩ := ih h9
          refine ⟨(a, b9, hp9, ct) :: pre, q, suf, k, by rw [g1]; rfl, g2, g3, g4, fun z hz => ?_⟩
          rcases List.mem_cons.mp hz with rfl | hz
          · exact Or.inr ⟨e2, k2, hpl, fun h8 => by rw [h8, Nat.beq_refl] at hq; cases hq⟩
          · exact g5 z hz
      · simp at h9
theorem zs_catch (hCx : zCx sL sx b n0 D aC p R s m args meth c y d) {ex hp : Nat} (hca : zcatch y pc ex (zhan y) = some hp) (hL2 : L.all (fun v => !decide (v = .retAddr 2)) = true)
    (k : ∀ ext', ext' 1 = ext 1 → zG n0 ext' D aC p l e R s m args below meth c y F1 F2 M1 M2 Q hp L [.retAddr 2] h) : zGX n0 ext D aC p l e R s m args below meth c y F1 F2 M1 M2 Q pc L S h ex := by
  obtain ⟨⟨hx, hb, hr, hml, hown⟩, hw, htab, -, -, -, hK, -⟩ := id hCx
  intro H locs cells slots ls q ce hR hS hL hc hz hex hce hcv hcl
  obtain ⟨pre, q9, suf, k9, e1, e2, e3, e4, e5⟩ := zcatch_split hca
  have hsplit : c.exceptionTable.toList = tableOf pre ++ (⟨q9.1, q9.2.1, q9.2.2.1, q9.2.2.2⟩ : ExceptionTableEntry) :: tableOf suf := by
    rw [htab, e1]; simp [tableOf]
  refine vx_catch hown (tableOf pre) _ (tableOf suf) hsplit (fun z hz => ?_) e2 (zpz e4) (name := zen ex) (E := zen ex) (zany hw hK e4 (by simp [zws])) (zany hw hK e4 (by simp [zws])) hce hcv hcl ?_
  · obtain ⟨z0, hz0, rfl⟩ := List.mem_map.mp hz
    rcases e5 z0 hz0 with g | ⟨ey, k2, g1, g2⟩
    · exact Or.inl g
    · obtain ⟨hpk, -⟩ := zpool_ok g1
      have hy6 : ey < 6 := Nat.le_of_ble_eq_true hpk
      exact Or.inr ⟨zpz g1, zen ey, zany hw hK g1 (by simp [zws]), hK.2.2.2.2.2 ex ey hex hy6 g2⟩
  · have k8 := k (fun i => if i = 2 then q else ext i) (by simp) H locs cells slots ls hR hS ⟨hL.1, hL.2.1, hL.2.2.1, fun i v hv hu => ?_⟩ hc hz
    · rw [e3] at *
      simpa [zv] using k8
    · have h9 := hL.2.2.2 i v hv hu
      have h2 := List.all_eq_true.mp hL2 v (List.mem_of_getElem? hv)
      have : zv n0 (fun i => if i = 2 then q else ext i) v = zv n0 ext v := by
        cases v <;> try rfl
        rename_i j
        simp only [zv]
        have : j ≠ 2 := fun h8 => by subst h8; simp at h2
        simp [this]
      rw [this]; exact h9
theorem zent_at {As : List Value} : ((As.flatMap fun v => bif zwide v then [v, Value.retAddr 0] else [v]).length = (lg_sl (As.map (zw n0))).length) ∧ ∀ (i : Nat) (v : Value), (As.flatMap fun v => bif zwide v then [v, Value.retAddr 0] else [v])[i]? = some v → v ≠ .retAddr 0 → (lg_sl (As.map (zw n0)))[i]? = some (.val (zw n0 v)) := by
  induction As with
  | nil => exact ⟨rfl, fun i v h => by simp at h⟩
  | cons a t ih =>
    have hcat : (zw n0 a).category = a.category := zv_cat n0 _ a
    cases hw : zwide a with
    | true =>
      have h2 : a.category = 2 := Nat.eq_of_beq_eq_true hw
      have hl : lg_sl ((a :: t).map (zw n0)) = Slot.val (zw n0 a) :: Slot.second :: lg_sl (t.map (zw n0)) := by simp [lg_sl, hcat, h2]
      have hf : ((a :: t).flatMap fun v => bif zwide v then [v, Value.retAddr 0] else [v]) = a :: Value.retAddr 0 :: (t.flatMap fun v => bif zwide v then [v, Value.retAddr 0] else [v]) := by simp [hw]
      rw [hl, hf]
      refine ⟨by simp [ih.1], fun i v h9 hv => ?_⟩
      match i, h9 with
      | 0, h9 => simp at h9; rw [← h9]; rfl
      | 1, h9 => simp at h9; exact absurd h9.symm hv
      | i + 2, h9 => simp at h9 ⊢; exact ih.2 i v (by simpa using h9) hv
    | false =>
      have h2 : ¬ a.category = 2 := fun h9 => by simp [zwide, h9] at hw
      have hl : lg_sl ((a :: t).map (zw n0)) = Slot.val (zw n0 a) :: lg_sl (t.map (zw n0)) := by simp [lg_sl, hcat, h2]
      have hf : ((a :: t).flatMap fun v => bif zwide v then [v, Value.retAddr 0] else [v]) = a :: (t.flatMap fun v => bif zwide v then [v, Value.retAddr 0] else [v]) := by simp [hw]
      rw [hl, hf]
      refine ⟨by simp [ih.1], fun i v h9 hv => ?_⟩
      match i, h9 with
      | 0, h9 => simp at h9; rw [← h9]; rfl
      | i + 1, h9 => simp at h9 ⊢; exact ih.2 i v (by simpa using h9) hv
theorem zLs_entry {mx : Nat} {As : List Value} (hA : As.all zok = true) (hlen : (As.flatMap fun v => bif zwide v then [v, Value.retAddr 0] else [v]).length ≤ mx) :
    zLs n0 ext mx (zent mx As) ((lg_sl (As.map (zw n0)) ++ List.replicate (mx - (lg_sl (As.map (zw n0))).length) Slot.unset).toArray) := by
  obtain ⟨h1, h2⟩ := zent_at (n0 := n0) (As := As)
  have h3 := lv_entry (As.map (zw n0)) (n := mx) (by rw [← h1]; exact hlen)
  refine ⟨h3.1, by simp only [zent, List.length_append, List.length_replicate]; omega, h3.2.1, fun i v hv hu => ?_⟩
  have hok : ∀ w ∈ (As.flatMap fun v => bif zwide v then [v, Value.retAddr 0] else [v]), w ≠ .retAddr 0 → zok w = true := by
    intro w hw9 hn
    obtain ⟨a, ha, hwa⟩ := List.mem_flatMap.mp hw9
    cases hwd : zwide a with
    | true =>
      rw [hwd] at hwa
      simp at hwa
      rcases hwa with rfl | rfl
      · exact List.all_eq_true.mp hA _ ha
      · exact absurd rfl hn
    | false =>
      rw [hwd] at hwa
      simp at hwa
      rw [hwa]; exact List.all_eq_true.mp hA _ ha
  simp only [zent] at hv
  by_cases hi : i < (As.flatMap fun v => bif zwide v then [v, Value.retAddr 0] else [v]).length
  · rw [List.getElem?_append_left hi] at hv
    have h4 := h2 i v hv hu
    rw [zv_ok (hok v (List.mem_of_getElem? hv) hu)]
    rw [List.getElem?_toArray, List.getElem?_append_left (by rw [← h1]; exact hi)]
    exact h4
  · rw [List.getElem?_append_right (by omega)] at hv
    have := List.eq_of_mem_replicate (List.mem_of_getElem? hv)
    exact absurd this hu
end ZM
