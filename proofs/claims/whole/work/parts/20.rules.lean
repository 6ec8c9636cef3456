/-! runs of the small machine, by rules -/
section ZR
variable {sL : Nat} {sx : Nat → Int32}
theorem zexec_up : ∀ (n d y pc : Nat) (L S : List Value) (h : zH) (r : Outcome × zH), zexec sL sx n d y pc L S h = some r → zexec sL sx (n + 1) d y pc L S h = some r := by
  intro n
  induction n with
  | zero => intro d y pc L S h r hs; simp [zexec] at hs
  | succ n ih =>
    intro d y pc L S h r hs
    rw [zexec] at hs ⊢
    cases hat : zat y pc with
    | none => simp [hat] at hs
    | some r0 =>
      obtain ⟨ins, len⟩ := r0
      simp only [hat] at hs ⊢
      cases he : zends y ins S with
      | some v => simp only [he] at hs ⊢; exact hs
      | none =>
        simp only [he] at hs ⊢
        cases ht : zthr y ins with
        | some ex => simp only [ht] at hs ⊢; exact hs
        | none =>
          simp only [ht] at hs ⊢
          cases hk : zskip d y ins pc L S h with
          | some q => simp only [hk] at hs ⊢; exact ih _ _ _ _ _ _ _ hs
          | none =>
            simp only [hk] at hs ⊢
            cases hc : zcalls y ins with
            | some q =>
              obtain ⟨z, stat, mt⟩ := q
              simp only [hc] at hs ⊢
              cases d with
              | zero => simp at hs
              | succ d' =>
                simp only at hs ⊢
                cases hok : zcallok z stat (S.take (znar z)).reverse (S.drop (znar z)) h with
                | false => simp [hok] at hs
                | true =>
                  simp only [hok, cond_true] at hs ⊢
                  cases hx : zexec sL sx n d' z 0 (zent (zmax z) (S.take (znar z)).reverse) [] h with
                  | none => simp [hx] at hs
                  | some r1 =>
                    obtain ⟨o1, h1⟩ := r1
                    rw [ih _ _ _ _ _ _ _ hx]
                    simp only [hx] at hs
                    cases o1 with
                    | returned v => exact ih _ _ _ _ _ _ _ hs
                    | threw ex =>
                      simp only at hs ⊢
                      cases mt with
                      | false => simp at hs
                      | true =>
                        simp only [cond_true] at hs ⊢
                        cases hy : (zhan y).isEmpty with
                        | true => simp only [hy, cond_true] at hs ⊢; exact hs
                        | false =>
                          simp only [hy, cond_false] at hs ⊢
                          cases hca : zcatch y pc ex (zhan y) with
                          | none => simp [hca] at hs
                          | some hp =>
                            simp only [hca] at hs ⊢
                            cases hL : L.all (fun v => !decide (v = .retAddr 2)) with
                            | false => simp [hL] at hs
                            | true => simp only [hL, cond_true] at hs ⊢; exact ih _ _ _ _ _ _ _ hs
            | none =>
              simp only [hc] at hs ⊢
              cases hsm : zsim sL sx y ins len pc L S h with
              | none => simp [hsm] at hs
              | some q => simp only [hsm] at hs ⊢; exact ih _ _ _ _ _ _ _ hs
theorem zexec_le {n n' d y pc : Nat} {L S : List Value} {h : zH} {r : Outcome × zH} (hs : zexec sL sx n d y pc L S h = some r) (hn : n ≤ n') : zexec sL sx n' d y pc L S h = some r := by
  obtain ⟨k, rfl⟩ := Nat.exists_eq_add_of_le hn
  clear hn
  induction k with
  | zero => exact hs
  | succ k ih => exact zexec_up _ _ _ _ _ _ _ _ ih
end ZR
/-- from here the run comes to the end o with the heap hF -/
def zR (sL : Nat) (sx : Nat → Int32) (d y pc : Nat) (L S : List Value) (h : zH) (o : Outcome) (hF : zH) : Prop := ∃ n, zexec sL sx n d y pc L S h = some (o, hF)
/-- a whole method -/
def zMe (sL : Nat) (sx : Nat → Int32) (d z : Nat) (As : List Value) (h : zH) (o : Outcome) (hF : zH) : Prop := zR sL sx d z 0 (zent (zmax z) As) [] h o hF
/-- instructions that touch neither the heap nor another method, and go on -/
def zflat : Instr → Bool
  | .iconst _ | .bipush _ | .sipush _ | .lconst _ | .aconst_null | .ldc _ | .ldc2_w _ | .iload _ | .iload_n _ | .lload _ | .lload_n _ | .aload _ | .aload_n _ => true
  | .istore _ | .istore_n _ | .astore _ | .astore_n _ | .lstore _ | .lstore_n _ | .iinc _ _ => true
  | .iadd | .isub | .imul | .iand | .ior | .ishl | .ladd | .land | .lor | .lshl | .i2l | .lcmp | .dup | .dup2 => true
  | .goto off => decide (0 < off)
  | _ => false
/-- .. and the others that the step function knows -/
def zhard : Instr → Bool
  | .goto _ | .ifCond _ _ | .if_icmp _ _ | .if_acmp _ _ | .ifnull _ | .ifnonnull _ | .tableswitch _ _ _ _ | .getfield _ | .putfield _ => true
  | .iaload | .laload | .baload | .aaload | .iastore | .lastore | .bastore | .aastore | .arraylength | .newarray _ | .anewarray _ => true
  | _ => false
theorem zplain_ins {d y : Nat} {ins : Instr} {pc : Nat} {L S : List Value} {h : zH} (hf : (zflat ins || zhard ins) = true) : zends y ins S = none ∧ zthr y ins = none ∧ zskip d y ins pc L S h = none ∧ zcalls y ins = none := by
  cases ins <;> first | exact ⟨rfl, rfl, rfl, rfl⟩ | (simp [zflat, zhard] at hf)
def zone (sL : Nat) (sx : Nat → Int32) (y pc : Nat) (L S : List Value) (h : zH) : Option (zC × zH) := match zat y pc with
  | some (ins, len) => bif zflat ins then zsim sL sx y ins len pc L S h else none
  | none => none
def zalix : Instr → Option Nat
  | .aload j => some j
  | .aload_n j => some j
  | _ => none
def zasix : Instr → Option Nat
  | .astore j => some j
  | .astore_n j => some j
  | _ => none
section ZRR
variable {sL : Nat} {sx : Nat → Int32} {d y pc pc' : Nat} {L L' S S' : List Value} {h h' hF : zH} {o : Outcome}
theorem zR_1 {ins : Instr} {len : Nat} (hz : zat y pc = some (ins, len)) (hf : (zflat ins || zhard ins) = true) (hs : zsim sL sx y ins len pc L S h = some ((pc', L', S'), h')) (k : zR sL sx d y pc' L' S' h' o hF) : zR sL sx d y pc L S h o hF := by
  obtain ⟨n, hn⟩ := k
  obtain ⟨g1, g2, g3, g4⟩ := zplain_ins (d := d) (y := y) (pc := pc) (L := L) (S := S) (h := h) hf
  exact ⟨n + 1, by rw [zexec]; simp only [hz, g1, g2, g3, g4, hs]; exact hn⟩
theorem zR_s (hz : zone sL sx y pc L S h = some ((pc', L', S'), h')) (k : zR sL sx d y pc' L' S' h' o hF) : zR sL sx d y pc L S h o hF := by
  simp only [zone] at hz
  cases hat : zat y pc with
  | none => simp [hat] at hz
  | some r =>
    obtain ⟨ins, len⟩ := r
    simp only [hat] at hz
    cases hf : zflat ins with
    | false => simp [hf] at hz
    | true =>
      simp only [hf, cond_true] at hz
      exact zR_1 hat (by rw [hf]; rfl) hz k
theorem zR_goto {off : Int} {tgt : Nat} (hz : zat y pc = some (.goto off, 3)) (ht : zto pc off = tgt) (k : zR sL sx d y tgt L S h o hF) : zR sL sx d y pc L S h o hF := by
  subst ht
  exact zR_1 hz (by simp [zhard]) rfl k
theorem zR_ret {ins : Instr} {len : Nat} {v : Option Value} (hz : zat y pc = some (ins, len)) (he : zends y ins S = some v) : zR sL sx d y pc L S h (.returned v) h := ⟨1, by rw [zexec]; simp only [hz, he]⟩
theorem zthrows_le {d' : Nat} {e : Nat} (hd : d ≤ d') (h : zthrows d y pc S e = true) : zthrows d' y pc S e = true := by
  simp only [zthrows, Bool.and_eq_true] at h ⊢
  exact ⟨⟨⟨Nat.ble_eq_true_of_le (Nat.le_trans (Nat.le_of_ble_eq_true h.1.1.1) hd), h.1.1.2⟩, h.1.2⟩, h.2⟩
theorem zR_throw {ik len e : Nat} (hd : 7 ≤ d) (hz : zat y pc = some (.new ik, len)) (ht : zthr y (.new ik) = some e) (hs : zthrows 7 y pc S e = true) : zR sL sx d y pc L S h (.threw e) (h ++ [(100 + e, [])]) :=
  ⟨1, by rw [zexec]; simp only [hz, ht, zthrows_le hd hs, cond_true]; rfl⟩
theorem zR_get {i ci k a : Nat} {fs : List Value} {v : Value} (hz : zat y pc = some (.getfield i, 3)) (hp : zpool y i = some (0, ci, k)) (ha : h[a]? = some (10 + ci, fs)) (hv : fs[k]? = some v) (kk : zR sL sx d y (pc + 3) L (v :: S) h o hF) : zR sL sx d y pc L (.ref a :: S) h o hF :=
  zR_1 hz rfl (by simp only [zsim, hp, ha, Nat.beq_refl, cond_true, hv]; rfl) kk
def zputok (y ci k : Nat) (v : Value) (n : Nat) : Bool := zfits (zty ci k) v && Nat.blt k n && (!(zfd ci k).2.2.2 || (Nat.beq (zcls y) ci && decide ((zname y).name = "<init>")))
theorem zR_put {i ci k a : Nat} {fs : List Value} {v : Value} (hz : zat y pc = some (.putfield i, 3)) (hp : zpool y i = some (0, ci, k)) (ha : h[a]? = some (10 + ci, fs)) (hf : zputok y ci k v fs.length = true) (kk : zR sL sx d y (pc + 3) L S (h.set a (10 + ci, fs.set k v)) o hF) : zR sL sx d y pc L (v :: .ref a :: S) h o hF := by
  simp only [zputok, Bool.and_eq_true] at hf
  exact zR_1 hz rfl (by simp only [zsim, hp, ha, Nat.beq_refl, hf.1.1, hf.1.2, hf.2, Bool.and_self, Bool.true_and, cond_true]) kk
def zints (n : Nat) (f : Nat → Int32) : List Value := (List.range n).map fun j => .int (f j)
def zlongs (n : Nat) (f : Nat → Int64) : List Value := (List.range n).map fun j => .long (f j)
theorem zints_at {n j : Nat} {f : Nat → Int32} (hj : j < n) : (zints n f)[j]? = some (.int (f j)) := by simp [zints, hj]
theorem zlongs_at {n j : Nat} {f : Nat → Int64} (hj : j < n) : (zlongs n f)[j]? = some (.long (f j)) := by simp [zlongs, hj]
theorem zints_len (n : Nat) (f : Nat → Int32) : (zints n f).length = n := by simp [zints]
theorem zlongs_len (n : Nat) (f : Nat → Int64) : (zlongs n f).length = n := by simp [zlongs]
theorem zints_set (n j : Nat) (f : Nat → Int32) (x : Int32) : (zints n f).set j (.int x) = zints n (upd f j x) := by
  refine List.ext_getElem? fun i => ?_
  by_cases hij : j = i
  · subst hij
    by_cases hj : j < n
    · rw [List.getElem?_set_self (by rw [zints_len]; exact hj), zints_at hj]; simp [upd]
    · rw [List.getElem?_eq_none (by rw [List.length_set, zints_len]; omega), List.getElem?_eq_none (by rw [zints_len]; omega)]
  · rw [List.getElem?_set_ne hij]
    by_cases hi : i < n
    · rw [zints_at hi, zints_at hi]; simp [upd, Ne.symm hij]
    · rw [List.getElem?_eq_none (by rw [zints_len]; omega), List.getElem?_eq_none (by rw [zints_len]; omega)]
theorem zlongs_set (n j : Nat) (f : Nat → Int64) (x : Int64) : (zlongs n f).set j (.long x) = zlongs n (vp_updL f j x) := by
  refine List.ext_getElem? fun i => ?_
  by_cases hij : j = i
  · subst hij
    by_cases hj : j < n
    · rw [List.getElem?_set_self (by rw [zlongs_len]; exact hj), zlongs_at hj]; simp [vp_updL]
    · rw [List.getElem?_eq_none (by rw [List.length_set, zlongs_len]; omega), List.getElem?_eq_none (by rw [zlongs_len]; omega)]
  · rw [List.getElem?_set_ne hij]
    by_cases hi : i < n
    · rw [zlongs_at hi, zlongs_at hi]; simp [vp_updL, Ne.symm hij]
    · rw [List.getElem?_eq_none (by rw [zlongs_len]; omega), List.getElem?_eq_none (by rw [zlongs_len]; omega)]
theorem zrd_ok {nx t a j : Nat} {vs : List Value} {v : Value} (ha : h[a]? = some (t, vs)) (hj : j < 2 ^ 31) (hv : vs[j]? = some v) : zrd nx L (.int (nI j) :: .ref a :: S) h t = some ((nx, L, v :: S), h) := by
  simp only [zrd, ha, Nat.beq_refl, cond_true, nI_pos hj, if_false, nI_clamp hj, hv]
  rfl
theorem zR_ild {a j n : Nat} {f : Nat → Int32} (hz : zat y pc = some (.iaload, 1)) (ha : h[a]? = some (0, zints n f)) (hj : j < n) (hn : n < 2 ^ 31) (kk : zR sL sx d y (pc + 1) L (.int (f j) :: S) h o hF) : zR sL sx d y pc L (.int (nI j) :: .ref a :: S) h o hF :=
  zR_1 hz rfl (by simp only [zsim]; exact zrd_ok ha (by omega) (zints_at hj)) kk
theorem zR_lld {a j n : Nat} {f : Nat → Int64} (hz : zat y pc = some (.laload, 1)) (ha : h[a]? = some (1, zlongs n f)) (hj : j < n) (hn : n < 2 ^ 31) (kk : zR sL sx d y (pc + 1) L (.long (f j) :: S) h o hF) : zR sL sx d y pc L (.int (nI j) :: .ref a :: S) h o hF :=
  zR_1 hz rfl (by simp only [zsim]; exact zrd_ok ha (by omega) (zlongs_at hj)) kk
theorem zR_bld {a j n : Nat} {f : Nat → Int32} (hz : zat y pc = some (.baload, 1)) (ha : h[a]? = some (2, zints n f)) (hj : j < n) (hn : n < 2 ^ 31) (kk : zR sL sx d y (pc + 1) L (.int (f j) :: S) h o hF) : zR sL sx d y pc L (.int (nI j) :: .ref a :: S) h o hF :=
  zR_1 hz rfl (by simp only [zsim]; exact zrd_ok ha (by omega) (zints_at hj)) kk
theorem zR_ald {a j : Nat} {vs : List Value} {v : Value} (hz : zat y pc = some (.aaload, 1)) (ha : h[a]? = some (3, vs)) (hj : j < 2 ^ 31) (hv : vs[j]? = some v) (kk : zR sL sx d y (pc + 1) L (v :: S) h o hF) : zR sL sx d y pc L (.int (nI j) :: .ref a :: S) h o hF :=
  zR_1 hz rfl (by simp only [zsim]; exact zrd_ok ha hj hv) kk
theorem zwr_ok {nx t a j : Nat} {vs : List Value} {v : Value} (ha : h[a]? = some (t, vs)) (hj : j < 2 ^ 31) (hl : j < vs.length) : zwr nx L h t v (nI j) a S = some ((nx, L, S), h.set a (t, vs.set j v)) := by
  simp only [zwr, ha, Nat.beq_refl, cond_true, nI_pos hj, if_false, nI_clamp hj, hl, if_true]
theorem zR_ist {a j n : Nat} {f : Nat → Int32} {x : Int32} (hz : zat y pc = some (.iastore, 1)) (ha : h[a]? = some (0, zints n f)) (hj : j < n) (hn : n < 2 ^ 31) (kk : zR sL sx d y (pc + 1) L S (h.set a (0, zints n (upd f j x))) o hF) : zR sL sx d y pc L (.int x :: .int (nI j) :: .ref a :: S) h o hF := by
  rw [← zints_set] at kk
  exact zR_1 hz rfl (by show zwr _ _ _ _ _ _ _ _ = _; exact zwr_ok ha (by omega) (by rw [zints_len]; exact hj)) kk
theorem zR_lst {a j n : Nat} {f : Nat → Int64} {x : Int64} (hz : zat y pc = some (.lastore, 1)) (ha : h[a]? = some (1, zlongs n f)) (hj : j < n) (hn : n < 2 ^ 31) (kk : zR sL sx d y (pc + 1) L S (h.set a (1, zlongs n (vp_updL f j x))) o hF) : zR sL sx d y pc L (.long x :: .int (nI j) :: .ref a :: S) h o hF := by
  rw [← zlongs_set] at kk
  exact zR_1 hz rfl (by show zwr _ _ _ _ _ _ _ _ = _; exact zwr_ok ha (by omega) (by rw [zlongs_len]; exact hj)) kk
theorem zR_bst {a j n : Nat} {f : Nat → Int32} {x : Int32} (hz : zat y pc = some (.bastore, 1)) (ha : h[a]? = some (2, zints n f)) (hj : j < n) (hn : n < 2 ^ 31) (hx : x = 0 ∨ x = 1) (kk : zR sL sx d y (pc + 1) L S (h.set a (2, zints n (upd f j x))) o hF) : zR sL sx d y pc L (.int x :: .int (nI j) :: .ref a :: S) h o hF := by
  rw [← zints_set] at kk
  exact zR_1 hz rfl (by simp only [zsim, if_pos hx]; exact zwr_ok ha (by omega) (by rw [zints_len]; exact hj)) kk
theorem zR_scr {j : Nat} (hz : zat y pc = some (.iaload, 1)) (hj : j < sL) (hn : sL < 2 ^ 31) (kk : zR sL sx d y (pc + 1) L (.int (sx j) :: S) h o hF) : zR sL sx d y pc L (.int (nI j) :: .retAddr 1 :: S) h o hF :=
  zR_1 hz rfl (by simp only [zsim, nI_pos (show j < 2 ^ 31 by omega), if_false, nI_clamp (show j < 2 ^ 31 by omega), hj, if_true]; rfl) kk
theorem zR_len (hz : zat y pc = some (.arraylength, 1)) (kk : zR sL sx d y (pc + 1) L (.int (nI sL) :: S) h o hF) : zR sL sx d y pc L (.retAddr 1 :: S) h o hF := zR_1 hz rfl rfl kk
theorem zR_ifeq {off : Int} {tgt : Nat} {a : Int32} (hz : zat y pc = some (.ifCond .eq off, 3)) (ht : zto pc off = tgt) (kt : a = 0 → zR sL sx d y tgt L S h o hF) (kf : ¬ a = 0 → zR sL sx d y (pc + 3) L S h o hF) : zR sL sx d y pc L (.int a :: S) h o hF := by
  subst ht
  by_cases q : a = 0
  · exact zR_1 hz rfl (by simp [zsim, zjump, zcb, q]) (kt q)
  · exact zR_1 hz rfl (by simp [zsim, zjump, zcb, q]) (kf q)
theorem zR_ifne {off : Int} {tgt : Nat} {a : Int32} (hz : zat y pc = some (.ifCond .ne off, 3)) (ht : zto pc off = tgt) (kt : ¬ a = 0 → zR sL sx d y tgt L S h o hF) (kf : a = 0 → zR sL sx d y (pc + 3) L S h o hF) : zR sL sx d y pc L (.int a :: S) h o hF := by
  subst ht
  by_cases q : a = 0
  · exact zR_1 hz rfl (by simp [zsim, zjump, zcb, q]) (kf q)
  · exact zR_1 hz rfl (by simp [zsim, zjump, zcb, q]) (kt q)
theorem zR_iflt {off : Int} {tgt : Nat} {a : Int32} (hz : zat y pc = some (.ifCond .lt off, 3)) (ht : zto pc off = tgt) (kt : a < 0 → zR sL sx d y tgt L S h o hF) (kf : ¬ a < 0 → zR sL sx d y (pc + 3) L S h o hF) : zR sL sx d y pc L (.int a :: S) h o hF := by
  subst ht
  by_cases q : a < 0
  · exact zR_1 hz rfl (by simp [zsim, zjump, zcb, q]) (kt q)
  · exact zR_1 hz rfl (by simp [zsim, zjump, zcb, q]) (kf q)
theorem zR_ifge {off : Int} {tgt : Nat} {a : Int32} (hz : zat y pc = some (.ifCond .ge off, 3)) (ht : zto pc off = tgt) (kt : 0 ≤ a → zR sL sx d y tgt L S h o hF) (kf : ¬ 0 ≤ a → zR sL sx d y (pc + 3) L S h o hF) : zR sL sx d y pc L (.int a :: S) h o hF := by
  subst ht
  by_cases q : 0 ≤ a
  · exact zR_1 hz rfl (by simp [zsim, zjump, zcb, q]) (kt q)
  · exact zR_1 hz rfl (by simp [zsim, zjump, zcb, q]) (kf q)
theorem zR_ifgt {off : Int} {tgt : Nat} {a : Int32} (hz : zat y pc = some (.ifCond .gt off, 3)) (ht : zto pc off = tgt) (kt : 0 < a → zR sL sx d y tgt L S h o hF) (kf : ¬ 0 < a → zR sL sx d y (pc + 3) L S h o hF) : zR sL sx d y pc L (.int a :: S) h o hF := by
  subst ht
  by_cases q : 0 < a
  · exact zR_1 hz rfl (by simp [zsim, zjump, zcb, q]) (kt q)
  · exact zR_1 hz rfl (by simp [zsim, zjump, zcb, q]) (kf q)
theorem zR_ifle {off : Int} {tgt : Nat} {a : Int32} (hz : zat y pc = some (.ifCond .le off, 3)) (ht : zto pc off = tgt) (kt : a ≤ 0 → zR sL sx d y tgt L S h o hF) (kf : ¬ a ≤ 0 → zR sL sx d y (pc + 3) L S h o hF) : zR sL sx d y pc L (.int a :: S) h o hF := by
  subst ht
  by_cases q : a ≤ 0
  · exact zR_1 hz rfl (by simp [zsim, zjump, zcb, q]) (kt q)
  · exact zR_1 hz rfl (by simp [zsim, zjump, zcb, q]) (kf q)
theorem zR_iceq {off : Int} {tgt : Nat} {a b : Int32} (hz : zat y pc = some (.if_icmp .eq off, 3)) (ht : zto pc off = tgt) (kt : a = b → zR sL sx d y tgt L S h o hF) (kf : ¬ a = b → zR sL sx d y (pc + 3) L S h o hF) : zR sL sx d y pc L (.int b :: .int a :: S) h o hF := by
  subst ht
  by_cases q : a = b
  · exact zR_1 hz rfl (by simp [zsim, zjump, zcb, q]) (kt q)
  · exact zR_1 hz rfl (by simp [zsim, zjump, zcb, q]) (kf q)
theorem zR_icne {off : Int} {tgt : Nat} {a b : Int32} (hz : zat y pc = some (.if_icmp .ne off, 3)) (ht : zto pc off = tgt) (kt : ¬ a = b → zR sL sx d y tgt L S h o hF) (kf : a = b → zR sL sx d y (pc + 3) L S h o hF) : zR sL sx d y pc L (.int b :: .int a :: S) h o hF := by
  subst ht
  by_cases q : a = b
  · exact zR_1 hz rfl (by simp [zsim, zjump, zcb, q]) (kf q)
  · exact zR_1 hz rfl (by simp [zsim, zjump, zcb, q]) (kt q)
theorem zR_iclt {off : Int} {tgt : Nat} {a b : Int32} (hz : zat y pc = some (.if_icmp .lt off, 3)) (ht : zto pc off = tgt) (kt : a < b → zR sL sx d y tgt L S h o hF) (kf : ¬ a < b → zR sL sx d y (pc + 3) L S h o hF) : zR sL sx d y pc L (.int b :: .int a :: S) h o hF := by
  subst ht
  by_cases q : a < b
  · exact zR_1 hz rfl (by simp [zsim, zjump, zcb, q]) (kt q)
  · exact zR_1 hz rfl (by simp [zsim, zjump, zcb, q]) (kf q)
theorem zR_icge {off : Int} {tgt : Nat} {a b : Int32} (hz : zat y pc = some (.if_icmp .ge off, 3)) (ht : zto pc off = tgt) (kt : b ≤ a → zR sL sx d y tgt L S h o hF) (kf : ¬ b ≤ a → zR sL sx d y (pc + 3) L S h o hF) : zR sL sx d y pc L (.int b :: .int a :: S) h o hF := by
  subst ht
  by_cases q : b ≤ a
  · exact zR_1 hz rfl (by simp [zsim, zjump, zcb, q]) (kt q)
  · exact zR_1 hz rfl (by simp [zsim, zjump, zcb, q]) (kf q)
theorem zR_icgt {off : Int} {tgt : Nat} {a b : Int32} (hz : zat y pc = some (.if_icmp .gt off, 3)) (ht : zto pc off = tgt) (kt : b < a → zR sL sx d y tgt L S h o hF) (kf : ¬ b < a → zR sL sx d y (pc + 3) L S h o hF) : zR sL sx d y pc L (.int b :: .int a :: S) h o hF := by
  subst ht
  by_cases q : b < a
  · exact zR_1 hz rfl (by simp [zsim, zjump, zcb, q]) (kt q)
  · exact zR_1 hz rfl (by simp [zsim, zjump, zcb, q]) (kf q)
theorem zR_icle {off : Int} {tgt : Nat} {a b : Int32} (hz : zat y pc = some (.if_icmp .le off, 3)) (ht : zto pc off = tgt) (kt : a ≤ b → zR sL sx d y tgt L S h o hF) (kf : ¬ a ≤ b → zR sL sx d y (pc + 3) L S h o hF) : zR sL sx d y pc L (.int b :: .int a :: S) h o hF := by
  subst ht
  by_cases q : a ≤ b
  · exact zR_1 hz rfl (by simp [zsim, zjump, zcb, q]) (kt q)
  · exact zR_1 hz rfl (by simp [zsim, zjump, zcb, q]) (kf q)
/-- a unit's number, or none -/
def zopt : Option Nat → Value
  | none => .null
  | some k => .ref (k + 11)
theorem zopt_fit (t : String) (c : Option Nat) : zfits (.object t) (zopt c) = true := by cases c <;> rfl
theorem zopt_ok (c : Option Nat) : zok (zopt c) = true := by cases c <;> rfl
theorem zbeq (a b : Nat) : Nat.beq a b = decide (a = b) := by
  by_cases h : a = b
  · subst h; simp
  · cases hq : Nat.beq a b
    · simp [h]
    · exact absurd (Nat.eq_of_beq_eq_true hq) h
theorem zopt_inj {a b : Option Nat} : zopt a = zopt b ↔ a = b := by
  cases a <;> cases b <;> simp [zopt]
theorem zR_aeq {off : Int} {tgt : Nat} {a b : Option Nat} (hz : zat y pc = some (.if_acmp .eq off, 3)) (ht : zto pc off = tgt) (kt : a = b → zR sL sx d y tgt L S h o hF) (kf : ¬ a = b → zR sL sx d y (pc + 3) L S h o hF) : zR sL sx d y pc L (zopt b :: zopt a :: S) h o hF := by
  subst ht
  have hq : zreq (zopt a) (zopt b) = some (decide (a = b)) := by cases a <;> cases b <;> simp [zopt, zreq, zbeq]
  by_cases q : a = b
  · exact zR_1 hz rfl (by simp only [zsim, hq, zjump]; simp [q]) (kt q)
  · exact zR_1 hz rfl (by simp only [zsim, hq, zjump]; simp [q]) (kf q)
theorem zR_ane {off : Int} {tgt : Nat} {a b : Option Nat} (hz : zat y pc = some (.if_acmp .ne off, 3)) (ht : zto pc off = tgt) (kt : ¬ a = b → zR sL sx d y tgt L S h o hF) (kf : a = b → zR sL sx d y (pc + 3) L S h o hF) : zR sL sx d y pc L (zopt b :: zopt a :: S) h o hF := by
  subst ht
  have hq : zreq (zopt a) (zopt b) = some (decide (a = b)) := by cases a <;> cases b <;> simp [zopt, zreq, zbeq]
  by_cases q : a = b
  · exact zR_1 hz rfl (by simp only [zsim, hq, zjump]; simp [q]) (kf q)
  · exact zR_1 hz rfl (by simp only [zsim, hq, zjump]; simp [q]) (kt q)
theorem zR_null {off : Int} {tgt : Nat} {a : Option Nat} (hz : zat y pc = some (.ifnull off, 3)) (ht : zto pc off = tgt) (kt : a = none → zR sL sx d y tgt L S h o hF) (kf : ∀ k, a = some k → zR sL sx d y (pc + 3) L S h o hF) : zR sL sx d y pc L (zopt a :: S) h o hF := by
  subst ht
  cases a with
  | none => exact zR_1 hz rfl (by simp [zsim, zopt, znul, zjump]) (kt rfl)
  | some k => exact zR_1 hz rfl (by simp [zsim, zopt, znul, zjump]) (kf k rfl)
theorem zR_nonnull {off : Int} {tgt : Nat} {a : Option Nat} (hz : zat y pc = some (.ifnonnull off, 3)) (ht : zto pc off = tgt) (kt : ∀ k, a = some k → zR sL sx d y tgt L S h o hF) (kf : a = none → zR sL sx d y (pc + 3) L S h o hF) : zR sL sx d y pc L (zopt a :: S) h o hF := by
  subst ht
  cases a with
  | none => exact zR_1 hz rfl (by simp [zsim, zopt, znul, zjump]) (kf rfl)
  | some k => exact zR_1 hz rfl (by simp [zsim, zopt, znul, zjump]) (kt k rfl)
theorem zR_sw {df lo hi : Int} {offs : Array Int} {len tgt : Nat} {v : Int32} (hz : zat y pc = some (.tableswitch df lo hi offs, len)) (ht : zsw pc df lo hi offs v = some tgt) (k : zR sL sx d y tgt L S h o hF) : zR sL sx d y pc L (.int v :: S) h o hF :=
  zR_1 hz rfl (by simp only [zsim, ht]) k
theorem zcall_ins {d : Nat} {ins : Instr} {r : Nat × Bool × Bool} (h9 : zcalls y ins = some r) : zends y ins S = none ∧ zthr y ins = none ∧ zskip d y ins pc L S h = none := by
  cases ins with
  | invokevirtual i => exact ⟨rfl, rfl, rfl⟩
  | invokestatic i =>
    refine ⟨rfl, rfl, ?_⟩
    simp only [zcalls] at h9
    simp only [zskip]
    cases hp : zpool y i with
    | none => simp [hp] at h9
    | some r =>
      obtain ⟨k1, k2, k3⟩ := r
      by_cases hk : k1 = 10
      · subst hk; simp [hp] at h9
      · split
        · rename_i e1; cases e1; exact absurd rfl hk
        · rfl
  | invokespecial i =>
    refine ⟨rfl, rfl, ?_⟩
    simp only [zcalls] at h9
    simp only [zskip]
    cases hp : zpool y i with
    | none => simp [hp] at h9
    | some r =>
      obtain ⟨k1, k2, k3⟩ := r
      by_cases hk : k1 = 9
      · subst hk; simp [hp] at h9
      · split
        · rename_i e1; cases e1; exact absurd rfl hk
        · rfl
  | _ => simp [zcalls] at h9
/-- what a call asks but the receiver's kind -/
def zchk (z : Nat) (As rest : List Value) : Bool := Nat.beq As.length (znar z) && As.all zok && Nat.ble (zwt rest) 8 && Nat.ble ((As.flatMap fun v => bif zwide v then [v, Value.retAddr 0] else [v]).length) (zmax z)
theorem zcallok_v {z a : Nat} {As rest : List Value} {t : Nat} {vs : List Value} (ha : h[a]? = some (t, vs)) (ht : t = 10 + zcls z) (hc : zchk z (.ref a :: As) rest = true) : zcallok z false (.ref a :: As) rest h = true := by
  subst ht
  simp only [zcallok, ha, Nat.beq_refl, Bool.false_or, Bool.and_true]
  exact hc
theorem zcallok_s {z : Nat} {As rest : List Value} (hc : zchk z As rest = true) : zcallok z true As rest h = true := by
  simp only [zcallok, Bool.true_or, Bool.and_true]
  exact hc
theorem zR_call {ins : Instr} {len z : Nat} {stat mt : Bool} {As rest : List Value} {v : Option Value} {h1 : zH} (hz : zat y pc = some (ins, len)) (hc : zcalls y ins = some (z, stat, mt)) (hA : (S.take (znar z)).reverse = As) (hr : S.drop (znar z) = rest) (hok : zcallok z stat As rest h = true)
    (hM : zMe sL sx d z As h (.returned v) h1) (kk : zR sL sx (d + 1) y (pc + 3) L (v.toList ++ rest) h1 o hF) : zR sL sx (d + 1) y pc L S h o hF := by
  obtain ⟨n1, e1⟩ := hM
  obtain ⟨n2, e2⟩ := kk
  obtain ⟨g1, g2, g3⟩ := zcall_ins (d := d + 1) (pc := pc) (L := L) (S := S) (h := h) hc
  subst hA; subst hr
  refine ⟨max n1 n2 + 1, ?_⟩
  rw [zexec]
  simp only [hz, g1, g2, g3, hc, hok, cond_true, zexec_le e1 (Nat.le_max_left n1 n2)]
  exact zexec_le e2 (Nat.le_max_right n1 n2)
theorem zR_callx {ins : Instr} {len z : Nat} {stat : Bool} {As rest : List Value} {ex : Nat} {h1 : zH} (hz : zat y pc = some (ins, len)) (hc : zcalls y ins = some (z, stat, true)) (hA : (S.take (znar z)).reverse = As) (hr : S.drop (znar z) = rest) (hok : zcallok z stat As rest h = true) (hh : (zhan y).isEmpty = true)
    (hM : zMe sL sx d z As h (.threw ex) h1) : zR sL sx (d + 1) y pc L S h (.threw ex) h1 := by
  obtain ⟨n1, e1⟩ := hM
  obtain ⟨g1, g2, g3⟩ := zcall_ins (d := d + 1) (pc := pc) (L := L) (S := S) (h := h) hc
  subst hA; subst hr
  refine ⟨n1 + 1, ?_⟩
  rw [zexec]
  simp only [hz, g1, g2, g3, hc, hok, cond_true, e1, hh]
theorem zR_callc {ins : Instr} {len z hp : Nat} {stat : Bool} {As rest : List Value} {ex : Nat} {h1 : zH} (hz : zat y pc = some (ins, len)) (hc : zcalls y ins = some (z, stat, true)) (hA : (S.take (znar z)).reverse = As) (hr : S.drop (znar z) = rest) (hok : zcallok z stat As rest h = true) (hh : (zhan y).isEmpty = false) (hca : zcatch y pc ex (zhan y) = some hp) (hL : L.all (fun v => !decide (v = .retAddr 2)) = true)
    (hM : zMe sL sx d z As h (.threw ex) h1) (kk : zR sL sx (d + 1) y hp L [.retAddr 2] h1 o hF) : zR sL sx (d + 1) y pc L S h o hF := by
  obtain ⟨n1, e1⟩ := hM
  obtain ⟨n2, e2⟩ := kk
  obtain ⟨g1, g2, g3⟩ := zcall_ins (d := d + 1) (pc := pc) (L := L) (S := S) (h := h) hc
  subst hA; subst hr
  refine ⟨max n1 n2 + 1, ?_⟩
  rw [zexec]
  simp only [hz, g1, g2, g3, hc, hok, cond_true, zexec_le e1 (Nat.le_max_left n1 n2), hh, cond_false, hca, hL]
  exact zexec_le e2 (Nat.le_max_right n1 n2)
theorem zR_max {i len : Nat} {a b : Int32} {k1 k2 : Nat} (hz : zat y pc = some (.invokestatic i, len)) (hp : zpool y i = some (10, k1, k2)) (hd : 1 ≤ d) (hw : Nat.ble (zwt S) 8 = true) (kk : zR sL sx d y (pc + 3) L (.int (if a < b then b else a) :: S) h o hF) : zR sL sx d y pc L (.int b :: .int a :: S) h o hF := by
  obtain ⟨n2, e2⟩ := kk
  refine ⟨n2 + 1, ?_⟩
  rw [zexec]
  simp only [hz, zends, zthr, zskip, hp, Nat.ble_eq_true_of_le hd, hw, Bool.and_self, cond_true]
  exact e2
theorem zR_obj {i len a : Nat} {k1 k2 : Nat} (hz : zat y pc = some (.invokespecial i, len)) (hp : zpool y i = some (9, k1, k2)) (hd : 1 ≤ d) (hw : Nat.ble (zwt S) 8 = true) (kk : zR sL sx d y (pc + 3) L S h o hF) : zR sL sx d y pc L (.ref a :: S) h o hF := by
  obtain ⟨n2, e2⟩ := kk
  refine ⟨n2 + 1, ?_⟩
  rw [zexec]
  simp only [hz, zends, zthr, zskip, hp, Nat.ble_eq_true_of_le hd, hw, Bool.and_self, cond_true]
  exact e2
theorem zR_alo {ins : Instr} {len i : Nat} {c : Option Nat} (hz : zat y pc = some (ins, len)) (hi : zalix ins = some i) (hl : zg L i = zopt c) (k : zR sL sx d y (pc + len) L (zopt c :: S) h o hF) : zR sL sx d y pc L S h o hF := by
  have key : zlda (pc + len) L S h i = some ((pc + len, L, zopt c :: S), h) := by
    simp only [zlda, hl]
    cases c <;> rfl
  cases ins with
  | aload j => cases hi; exact zR_1 hz rfl (by simp only [zsim]; exact key) k
  | aload_n j => cases hi; exact zR_1 hz rfl (by simp only [zsim]; exact key) k
  | _ => simp [zalix] at hi
theorem zR_aso {ins : Instr} {len i : Nat} {c : Option Nat} (hz : zat y pc = some (ins, len)) (hi : zasix ins = some i) (hl : Nat.blt i L.length = true) (k : zR sL sx d y (pc + len) (zset1 L i (zopt c)) S h o hF) : zR sL sx d y pc L (zopt c :: S) h o hF := by
  have key : zsta (pc + len) L (zopt c :: S) h i = some ((pc + len, zset1 L i (zopt c), S), h) := by
    cases c <;> (simp only [zsta, zopt, hl]; rfl)
  cases ins with
  | astore j => cases hi; exact zR_1 hz rfl (by simp only [zsim]; exact key) k
  | astore_n j => cases hi; exact zR_1 hz rfl (by simp only [zsim]; exact key) k
  | _ => simp [zasix] at hi
end ZRR
