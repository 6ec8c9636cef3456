/-! further rules: ends by equation, branches on a truth, calls that may throw, loops -/
section ZRM
variable {sL : Nat} {sx : Nat → Int32} {d y pc : Nat} {L S : List Value} {h hF : zH} {o : Outcome}
theorem zR_rete {ins : Instr} {len : Nat} {v : Option Value} (hz : zat y pc = some (ins, len)) (he : zends y ins S = some v) (ho : o = .returned v) (hh : hF = h) : zR sL sx d y pc L S h o hF := by
  subst ho; subst hh; exact zR_ret hz he
theorem zR_retb {len : Nat} {b : Bool} (hz : zat y pc = some (.ireturn, len)) (hr : zret y = some .boolean) (ho : o = .returned (some (.int (bI b)))) (hh : hF = h) : zR sL sx d y pc L [.int (bI b)] h o hF := by
  subst ho; subst hh
  refine zR_ret hz ?_
  simp only [zends, hr]
  cases b <;> rfl
theorem zR_throwe {ik len e : Nat} (hd : 7 ≤ d) (hz : zat y pc = some (.new ik, len)) (ht : zthr y (.new ik) = some e) (hs : zthrows 7 y pc S e = true) (ho : o = .threw e) (hh : hF = h ++ [(100 + e, [])]) : zR sL sx d y pc L S h o hF := by
  subst ho; subst hh; exact zR_throw hd hz ht hs
theorem bI_0 {b : Bool} : bI b = 0 ↔ b = false := by cases b <;> simp [bI]
theorem zR_bf {off : Int} {tgt : Nat} {b : Bool} (hz : zat y pc = some (.ifCond .eq off, 3)) (ht : zto pc off = tgt) (kt : b = false → zR sL sx d y tgt L S h o hF) (kf : b = true → zR sL sx d y (pc + 3) L S h o hF) : zR sL sx d y pc L (.int (bI b) :: S) h o hF :=
  zR_ifeq hz ht (fun c => kt (bI_0.mp c)) (fun c => kf (by cases b; exact absurd rfl c; rfl))
theorem zR_bt {off : Int} {tgt : Nat} {b : Bool} (hz : zat y pc = some (.ifCond .ne off, 3)) (ht : zto pc off = tgt) (kt : b = true → zR sL sx d y tgt L S h o hF) (kf : b = false → zR sL sx d y (pc + 3) L S h o hF) : zR sL sx d y pc L (.int (bI b) :: S) h o hF :=
  zR_ifne hz ht (fun c => kt (by cases b; exact absurd rfl c; rfl)) (fun c => kf (bI_0.mp c))
theorem bI_dt {P : Prop} {q : Decidable P} : bI (@decide P q) = 0 ↔ ¬ P := by rw [bI_0]; simp
theorem zR_df {off : Int} {tgt : Nat} {P : Prop} {q : Decidable P} (hz : zat y pc = some (.ifCond .eq off, 3)) (ht : zto pc off = tgt) (kt : ¬ P → zR sL sx d y tgt L S h o hF) (kf : P → zR sL sx d y (pc + 3) L S h o hF) : zR sL sx d y pc L (.int (bI (@decide P q)) :: S) h o hF :=
  zR_ifeq hz ht (fun c => kt (bI_dt.mp c)) (fun c => kf (Classical.not_not.mp fun q2 => c (bI_dt.mpr q2)))
theorem zR_dt {off : Int} {tgt : Nat} {P : Prop} {q : Decidable P} (hz : zat y pc = some (.ifCond .ne off, 3)) (ht : zto pc off = tgt) (kt : P → zR sL sx d y tgt L S h o hF) (kf : ¬ P → zR sL sx d y (pc + 3) L S h o hF) : zR sL sx d y pc L (.int (bI (@decide P q)) :: S) h o hF :=
  zR_ifne hz ht (fun c => kt (Classical.not_not.mp fun q2 => c (bI_dt.mpr q2))) (fun c => kf (bI_dt.mp c))
theorem zR_mlt {off : Int} {tgt : Nat} {a b : Int32} (hz : zat y pc = some (.if_icmp .lt off, 3)) (ht : zto pc off = tgt) (kt : ¬ b ≤ a → zR sL sx d y tgt L S h o hF) (kf : b ≤ a → zR sL sx d y (pc + 3) L S h o hF) : zR sL sx d y pc L (.int b :: .int a :: S) h o hF := zR_iclt hz ht (fun c => kt (Int32.not_le.mpr c)) (fun c => kf (Int32.not_lt.mp c))
theorem zR_mgt {off : Int} {tgt : Nat} {a b : Int32} (hz : zat y pc = some (.if_icmp .gt off, 3)) (ht : zto pc off = tgt) (kt : ¬ a ≤ b → zR sL sx d y tgt L S h o hF) (kf : a ≤ b → zR sL sx d y (pc + 3) L S h o hF) : zR sL sx d y pc L (.int b :: .int a :: S) h o hF := zR_icgt hz ht (fun c => kt (Int32.not_le.mpr c)) (fun c => kf (Int32.not_lt.mp c))
theorem zR_nlt {off : Int} {tgt : Nat} {a : Int32} (hz : zat y pc = some (.ifCond .lt off, 3)) (ht : zto pc off = tgt) (kt : ¬ 0 ≤ a → zR sL sx d y tgt L S h o hF) (kf : 0 ≤ a → zR sL sx d y (pc + 3) L S h o hF) : zR sL sx d y pc L (.int a :: S) h o hF := zR_iflt hz ht (fun c => kt (Int32.not_le.mpr c)) (fun c => kf (Int32.not_lt.mp c))
theorem zR_ngt {off : Int} {tgt : Nat} {a : Int32} (hz : zat y pc = some (.ifCond .gt off, 3)) (ht : zto pc off = tgt) (kt : ¬ a ≤ 0 → zR sL sx d y tgt L S h o hF) (kf : a ≤ 0 → zR sL sx d y (pc + 3) L S h o hF) : zR sL sx d y pc L (.int a :: S) h o hF := zR_ifgt hz ht (fun c => kt (Int32.not_le.mpr c)) (fun c => kf (Int32.not_lt.mp c))
/-- a constant, as it is written -/
def zcons : Instr → Option Int32
  | .iconst n => some (Int32.ofInt n)
  | .bipush n => some (Int8.ofInt n).toInt32
  | .sipush n => some (Int16.ofInt n).toInt32
  | _ => none
theorem zR_cst {ins : Instr} {len : Nat} {v w : Int32} (hz : zat y pc = some (ins, len)) (hw : zcons ins = some w) (e : w = v) (k : zR sL sx d y (pc + len) L (.int v :: S) h o hF) : zR sL sx d y pc L S h o hF := by
  subst e
  cases ins with
  | iconst n => cases hw; exact zR_1 hz rfl rfl k
  | bipush n => cases hw; exact zR_1 hz rfl rfl k
  | sipush n => cases hw; exact zR_1 hz rfl rfl k
  | _ => simp [zcons] at hw
theorem zR_ldc {i len : Nat} {v : Int32} (hz : zat y pc = some (.ldc i, len)) (hw : zki zKI (zcls y) i = some v) (k : zR sL sx d y (pc + len) L (.int v :: S) h o hF) : zR sL sx d y pc L S h o hF := zR_1 hz rfl (by simp only [zsim, hw]; rfl) k
theorem zR_ldc2 {i len : Nat} {v : Int64} (hz : zat y pc = some (.ldc2_w i, len)) (hw : zkl zKL (zcls y) i = some v) (k : zR sL sx d y (pc + len) L (.long v :: S) h o hF) : zR sL sx d y pc L S h o hF := zR_1 hz rfl (by simp only [zsim, hw]; rfl) k
def zcnl : Instr → Option Int64
  | .lconst n => some (Int64.ofNat (n : Nat))
  | _ => none
theorem zR_lc {ins : Instr} {len : Nat} {v : Int64} (hz : zat y pc = some (ins, len)) (hw : zcnl ins = some v) (k : zR sL sx d y (pc + len) L (.long v :: S) h o hF) : zR sL sx d y pc L S h o hF := by
  cases ins with
  | lconst n => cases hw; exact zR_1 hz rfl rfl k
  | _ => simp [zcnl] at hw
theorem zR_incn {i j len : Nat} (hz : zat y pc = some (.iinc i 1, len)) (hl : zg L i = .int (nI j)) (hb : Nat.blt i L.length = true) (k : zR sL sx d y (pc + len) (zset1 L i (.int (nI (j + 1)))) S h o hF) : zR sL sx d y pc L S h o hF := by
  rw [show nI (j + 1) = nI j + Int32.ofInt 1 from nI_succ j] at k
  exact zR_1 hz rfl (by simp only [zsim, hl, hb]; rfl) k
theorem zR_nul {len : Nat} (hz : zat y pc = some (.aconst_null, len)) (k : zR sL sx d y (pc + len) L (zopt none :: S) h o hF) : zR sL sx d y pc L S h o hF := zR_1 hz rfl rfl k
theorem zR_null1 {off : Int} {tgt : Nat} {a : Option Nat} (hz : zat y pc = some (.ifnull off, 3)) (ht : zto pc off = tgt) (kt : a = none → zR sL sx d y tgt L S h o hF) (kf : ¬ a = none → zR sL sx d y (pc + 3) L S h o hF) : zR sL sx d y pc L (zopt a :: S) h o hF := zR_null hz ht kt (fun k e => kf (by rw [e]; simp))
theorem zR_nonnull1 {off : Int} {tgt : Nat} {a : Option Nat} (hz : zat y pc = some (.ifnonnull off, 3)) (ht : zto pc off = tgt) (kt : ¬ a = none → zR sL sx d y tgt L S h o hF) (kf : a = none → zR sL sx d y (pc + 3) L S h o hF) : zR sL sx d y pc L (zopt a :: S) h o hF := zR_nonnull hz ht (fun k e => kt (by rw [e]; simp)) kf
theorem zR_iadd {len : Nat} {a b : Int32} (hz : zat y pc = some (.iadd, len)) (k : zR sL sx d y (pc + len) L (.int (a + b) :: S) h o hF) : zR sL sx d y pc L (.int b :: .int a :: S) h o hF := zR_1 hz rfl rfl k
theorem zR_isub {len : Nat} {a b : Int32} (hz : zat y pc = some (.isub, len)) (k : zR sL sx d y (pc + len) L (.int (a - b) :: S) h o hF) : zR sL sx d y pc L (.int b :: .int a :: S) h o hF := zR_1 hz rfl rfl k
theorem zR_imul {len : Nat} {a b : Int32} (hz : zat y pc = some (.imul, len)) (k : zR sL sx d y (pc + len) L (.int (a * b) :: S) h o hF) : zR sL sx d y pc L (.int b :: .int a :: S) h o hF := zR_1 hz rfl rfl k
theorem zR_ladd {len : Nat} {a b : Int64} (hz : zat y pc = some (.ladd, len)) (k : zR sL sx d y (pc + len) L (.long (a + b) :: S) h o hF) : zR sL sx d y pc L (.long b :: .long a :: S) h o hF := zR_1 hz rfl rfl k
theorem zR_callt {P : Prop} {ins : Instr} {len z : Nat} {stat : Bool} {As rest : List Value} {v : Option Value} {ex : Nat} {h1 h2 : zH} (hz : zat y pc = some (ins, len)) (hc : zcalls y ins = some (z, stat, true)) (hA : (S.take (znar z)).reverse = As) (hr : S.drop (znar z) = rest) (hok : zcallok z stat As rest h = true) (hh : (zhan y).isEmpty = true)
    (hM : (P → zMe sL sx d z As h (.returned v) h1) ∧ (¬ P → zMe sL sx d z As h (.threw ex) h2)) (kk : P → zR sL sx (d + 1) y (pc + 3) L (v.toList ++ rest) h1 o hF) (ke : ¬ P → o = .threw ex ∧ hF = h2) : zR sL sx (d + 1) y pc L S h o hF := by
  by_cases q : P
  · exact zR_call hz hc hA hr hok (hM.1 q) (kk q)
  · obtain ⟨e1, e2⟩ := ke q
    subst e1; subst e2
    exact zR_callx hz hc hA hr hok hh (hM.2 q)
theorem zR_loop {M : Nat} {Lf : Nat → List Value} {Hf : Nat → zH} {I : Nat → Prop} (fin : I M → zR sL sx d y pc (Lf M) [] (Hf M) o hF) (step : ∀ j, j < M → I j → (I (j + 1) → zR sL sx d y pc (Lf (j + 1)) [] (Hf (j + 1)) o hF) → zR sL sx d y pc (Lf j) [] (Hf j) o hF) : ∀ j, j ≤ M → I j → zR sL sx d y pc (Lf j) [] (Hf j) o hF := by
  have key : ∀ k j, M - j = k → j ≤ M → I j → zR sL sx d y pc (Lf j) [] (Hf j) o hF := by
    intro k
    induction k with
    | zero =>
      intro j e hj hi
      have : j = M := by omega
      subst this
      exact fin hi
    | succ k ih =>
      intro j e hj hi
      exact step j (by omega) hi fun hi2 => ih (j + 1) (by omega) (by omega) hi2
  exact fun j => key _ j rfl
/-- .. from its start -/
theorem zR_loop0 {M : Nat} (Lf : Nat → List Value) (Hf : Nat → zH) (I : Nat → Prop) (hL : L = Lf 0) (hH : h = Hf 0) (h0 : I 0) (fin : I M → zR sL sx d y pc (Lf M) [] (Hf M) o hF) (step : ∀ j, j < M → I j → (I (j + 1) → zR sL sx d y pc (Lf (j + 1)) [] (Hf (j + 1)) o hF) → zR sL sx d y pc (Lf j) [] (Hf j) o hF) : zR sL sx d y pc L [] h o hF := by
  subst hL; subst hH
  exact zR_loop fin step 0 (Nat.zero_le _) h0
end ZRM
theorem nI_inc (j : Nat) : nI j + Int32.ofInt 1 = nI (j + 1) := (nI_succ j).symm
/-- how many below n -/
def zcnt (p : Nat → Bool) : Nat → Nat
  | 0 => 0
  | n + 1 => zcnt p n + (bif p n then 1 else 0)
theorem zcnt_le (p : Nat → Bool) (n : Nat) : zcnt p n ≤ n := by
  induction n with
  | zero => exact Nat.le_refl _
  | succ n ih => simp only [zcnt]; cases p n <;> simp <;> omega
theorem zcnt_t {p : Nat → Bool} {n : Nat} (h : p n = true) : zcnt p (n + 1) = zcnt p n + 1 := by simp [zcnt, h]
theorem zcnt_f {p : Nat → Bool} {n : Nat} (h : p n = false) : zcnt p (n + 1) = zcnt p n := by simp [zcnt, h]
theorem zcnt_congr {p q : Nat → Bool} {n : Nat} (h : ∀ i, i < n → p i = q i) : zcnt p n = zcnt q n := by
  induction n with
  | zero => rfl
  | succ n ih => simp only [zcnt, ih (fun i hi => h i (by omega)), h n (by omega)]
section ZC1
variable {sL : Nat} {sx : Nat → Int32} {d : Nat} {h : zH} {n : Nat} {g : Nat → Int32} {k : Option Nat} {z : Int64}
theorem m_isWithin {a b c : Int32} : zMe sL sx d 42 [.int a, .int b, .int c] h (.returned (some (.int (bI (decide (b ≤ a ∧ a ≤ c)))))) h := by
  show zR sL sx _ 42 0 [.int a, .int b, .int c] [] _ _ _
  refine zR_s rfl ?_
  refine zR_s rfl ?_
  refine zR_mlt rfl rfl (fun c1 => ?_) (fun c1 => ?_)
  · refine zR_cst (v := 0) rfl rfl rfl ?_
    first | refine zR_rete rfl rfl ?_ ?_ | refine zR_retb rfl rfl ?_ ?_
    all_goals (first | rfl | simp [bI, *])
  · refine zR_s rfl ?_
    refine zR_s rfl ?_
    refine zR_mgt rfl rfl (fun c2 => ?_) (fun c2 => ?_)
    · refine zR_cst (v := 0) rfl rfl rfl ?_
      first | refine zR_rete rfl rfl ?_ ?_ | refine zR_retb rfl rfl ?_ ?_
      all_goals (first | rfl | simp [bI, *])
    · refine zR_cst (v := 1) rfl rfl rfl ?_
      refine zR_s rfl ?_
      first | refine zR_rete rfl rfl ?_ ?_ | refine zR_retb rfl rfl ?_ ?_
      all_goals (first | rfl | simp [bI, *])
theorem m_checkRange {a b c : Int32} (hd : 6 ≤ d) : (b ≤ a ∧ a ≤ c → zMe sL sx (d + 1) 43 [.int a, .int b, .int c] h (.returned none) h) ∧ (¬ (b ≤ a ∧ a ≤ c) → zMe sL sx (d + 1) 43 [.int a, .int b, .int c] h (.threw 1) (h ++ [(101, [])])) := by
  constructor <;> intro q
  all_goals
    show zR sL sx _ 43 0 [.int a, .int b, .int c] [] _ _ _
    refine zR_s rfl ?_
    refine zR_s rfl ?_
    refine zR_s rfl ?_
    refine zR_call rfl rfl rfl rfl (zcallok_s rfl) (m_isWithin) ?_
    first | refine zR_dt rfl rfl (fun c1 => ?_) (fun c1 => ?_) | refine zR_bt rfl rfl (fun c1 => ?_) (fun c1 => ?_) | refine zR_ifne rfl rfl (fun c1 => ?_) (fun c1 => ?_)
    · refine zR_rete rfl rfl ?_ ?_
      all_goals (first | rfl | contradiction)
    · refine zR_throwe (by omega) rfl rfl rfl ?_ ?_
      all_goals (first | rfl | contradiction)
end ZC1
