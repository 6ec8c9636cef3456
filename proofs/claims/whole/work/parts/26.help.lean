/-! the class's helping methods -/
section ZLC
variable {sL : Nat} {sx : Nat → Int32} {d y pc : Nat} {L S : List Value} {h hF : zH} {o : Outcome} {off : Int} {tgt : Nat} {a b : Int64}
theorem zR_leq (hz : zat y pc = some (.ifCond .eq off, 3)) (ht : zto pc off = tgt) (kt : a = b → zR sL sx d y tgt L S h o hF) (kf : ¬ a = b → zR sL sx d y (pc + 3) L S h o hF) : zR sL sx d y pc L (.int (lg_cmp a b) :: S) h o hF := zR_ifeq hz ht (fun c => kt ((lg_cmp_eq a b).mp c)) (fun c => kf (fun q => c ((lg_cmp_eq a b).mpr q)))
theorem zR_lne (hz : zat y pc = some (.ifCond .ne off, 3)) (ht : zto pc off = tgt) (kt : ¬ a = b → zR sL sx d y tgt L S h o hF) (kf : a = b → zR sL sx d y (pc + 3) L S h o hF) : zR sL sx d y pc L (.int (lg_cmp a b) :: S) h o hF := zR_ifne hz ht (fun c => kt (fun q => c ((lg_cmp_eq a b).mpr q))) (fun c => kf ((lg_cmp_eq a b).mp c))
theorem zR_llt (hz : zat y pc = some (.ifCond .lt off, 3)) (ht : zto pc off = tgt) (kt : ¬ b ≤ a → zR sL sx d y tgt L S h o hF) (kf : b ≤ a → zR sL sx d y (pc + 3) L S h o hF) : zR sL sx d y pc L (.int (lg_cmp a b) :: S) h o hF := zR_iflt hz ht (fun c => kt (Int64.not_le.mpr ((lg_cmp_lt a b).mp c))) (fun c => kf (Int64.not_lt.mp fun q => c ((lg_cmp_lt a b).mpr q)))
theorem zR_lge (hz : zat y pc = some (.ifCond .ge off, 3)) (ht : zto pc off = tgt) (kt : b ≤ a → zR sL sx d y tgt L S h o hF) (kf : ¬ b ≤ a → zR sL sx d y (pc + 3) L S h o hF) : zR sL sx d y pc L (.int (lg_cmp a b) :: S) h o hF := zR_ifge hz ht (fun c => kt ((lg_cmp_ge a b).mp c)) (fun c => kf (fun q => c ((lg_cmp_ge a b).mpr q)))
theorem zR_lgt (hz : zat y pc = some (.ifCond .gt off, 3)) (ht : zto pc off = tgt) (kt : ¬ a ≤ b → zR sL sx d y tgt L S h o hF) (kf : a ≤ b → zR sL sx d y (pc + 3) L S h o hF) : zR sL sx d y pc L (.int (lg_cmp a b) :: S) h o hF := zR_ifgt hz ht (fun c => kt (Int64.not_le.mpr ((lg_cmp_gt a b).mp c))) (fun c => kf (Int64.not_lt.mp fun q => c ((lg_cmp_gt a b).mpr q)))
theorem zR_lle (hz : zat y pc = some (.ifCond .le off, 3)) (ht : zto pc off = tgt) (kt : a ≤ b → zR sL sx d y tgt L S h o hF) (kf : ¬ a ≤ b → zR sL sx d y (pc + 3) L S h o hF) : zR sL sx d y pc L (.int (lg_cmp a b) :: S) h o hF := zR_ifle hz ht (fun c => kt ((lg_cmp_le a b).mp c)) (fun c => kf (fun q => c ((lg_cmp_le a b).mpr q)))
end ZLC
section ZCH
variable {sL : Nat} {sx : Nat → Int32} {d : Nat} {h : zH} {N : Nat → Int32} {F G : Nat → Nat → Int32} {K : Nat → Option Nat} {Z : Nat → Int64} {tl : zH} {M i : Nat}
theorem m_checkPlace {a : Int32} (hd : 6 ≤ d) : (0 ≤ a ∧ a ≤ 15 → zMe sL sx (d + 2) 44 [.int a] h (.returned none) h) ∧ (¬ (0 ≤ a ∧ a ≤ 15) → zMe sL sx (d + 2) 44 [.int a] h (.threw 1) (h ++ [(101, [])])) := by
  constructor <;> intro q
  all_goals
    show zR sL sx _ 44 0 [.int a] [] _ _ _
    refine zR_s rfl ?_
    refine zR_cst (v := 0) rfl rfl rfl ?_
    refine zR_cst (v := 15) rfl rfl rfl ?_
    refine zR_callt rfl rfl rfl rfl (zcallok_s rfl) rfl (m_checkRange hd) (fun c1 => ?_) (fun c1 => ?_)
    · refine zR_rete rfl rfl ?_ ?_
      all_goals (first | rfl | exact ⟨rfl, rfl⟩ | contradiction)
    · first | rfl | exact ⟨rfl, rfl⟩ | contradiction
theorem m_checkStands {n : Nat} {g : Nat → Int32} {k : Option Nat} {z : Int64} (hU : h[n + 11]? = some (10 + 1, zun n g k z)) (hd : 6 ≤ d) : (zst g = true → zMe sL sx (d + 1) 45 [.ref (n + 11)] h (.returned none) h) ∧ (¬ zst g = true → zMe sL sx (d + 1) 45 [.ref (n + 11)] h (.threw 2) (h ++ [(102, [])])) := by
  constructor <;> intro q
  all_goals
    show zR sL sx _ 45 0 [.ref (n + 11)] [] _ _ _
    refine zR_s rfl ?_
    refine zR_call rfl rfl rfl rfl (zcallok_v (hU) rfl rfl) (m_stands hU) ?_
    first | refine zR_dt rfl rfl (fun c1 => ?_) (fun c1 => ?_) | refine zR_bt rfl rfl (fun c1 => ?_) (fun c1 => ?_) | refine zR_ifne rfl rfl (fun c1 => ?_) (fun c1 => ?_)
    · refine zR_rete rfl rfl ?_ ?_
      all_goals (first | rfl | exact absurd (decide_eq_true c1) q | exact absurd (of_decide_eq_true q) c1)
    · refine zR_throwe (by omega) rfl rfl rfl ?_ ?_
      all_goals (first | rfl | exact absurd (decide_eq_true c1) q | exact absurd (of_decide_eq_true q) c1)
theorem zucase (a : Int32) {M : Nat} (hm : M ≤ 64) : (∃ j, j < M ∧ a = nI j) ∨ ¬ (0 ≤ a ∧ a ≤ nI M - 1) := by
  by_cases q : 0 ≤ a ∧ a ≤ nI M - 1
  · left
    cases M with
    | zero =>
      exfalso
      have h2 : nI 0 - 1 = -1 := rfl
      rw [h2] at q
      exact absurd (Int32.le_trans q.1 q.2) (by decide)
    | succ m =>
      rw [nI_pred] at q
      obtain ⟨j, hj, e⟩ := nI_of2 (nI_toInt (n := m) (by omega)) (Int32.not_lt.mpr q.1) q.2
      exact ⟨j, by omega, e⟩
  · exact Or.inr q
theorem m_unitOf {j : Nat} (hM : N 1 = nI M) (hm : M ≤ 64) (hj : j < M) : zMe sL sx (d + 1) 46 [.ref 0, .int (nI j)] (zCs N F G K Z ++ tl) (.returned (some (.ref (j + 11)))) (zCs N F G K Z ++ tl) := by
  have h1 : 0 ≤ nI j ∧ nI j ≤ N 1 - 1 := by
    refine ⟨nI_pos' (by omega), ?_⟩
    obtain ⟨A', rfl⟩ : ∃ A', M = A' + 1 := ⟨M - 1, by omega⟩
    rw [hM, nI_pred]
    exact nI_le (by omega) (by omega)
  show zR sL sx _ 46 0 [.ref 0, .int (nI j)] [] _ _ _
  refine zR_s rfl ?_
  refine zR_cst (v := 0) rfl rfl rfl ?_
  refine zR_s rfl ?_
  refine zR_get rfl rfl (zc0) rfl ?_
  refine zR_cst (v := 1) rfl rfl rfl ?_
  refine zR_isub rfl ?_
  refine zR_call rfl rfl rfl rfl (zcallok_s rfl) (m_isWithin) ?_
  first | refine zR_dt rfl rfl (fun c1 => ?_) (fun c1 => absurd h1 c1) | refine zR_bt rfl rfl (fun c1 => ?_) (fun c1 => absurd h1 c1) | refine zR_ifne rfl rfl (fun c1 => ?_) (fun c1 => absurd h1 c1)
  refine zR_s rfl ?_
  refine zR_get rfl rfl (zc0) rfl ?_
  refine zR_s rfl ?_
  refine zR_aldU rfl (by omega) ?_
  refine zR_rete rfl rfl ?_ ?_
  all_goals (first | rfl | simp [bI, *])
theorem m_unitOf_no {a : Int32} (hM : N 1 = nI M) (hd : 6 ≤ d) (h1 : ¬ (0 ≤ a ∧ a ≤ nI M - 1)) : zMe sL sx (d + 1) 46 [.ref 0, .int a] (zCs N F G K Z ++ tl) (.threw 4) (zCs N F G K Z ++ tl ++ [(104, [])]) := by
  rw [← hM] at h1
  show zR sL sx _ 46 0 [.ref 0, .int a] [] _ _ _
  refine zR_s rfl ?_
  refine zR_cst (v := 0) rfl rfl rfl ?_
  refine zR_s rfl ?_
  refine zR_get rfl rfl (zc0) rfl ?_
  refine zR_cst (v := 1) rfl rfl rfl ?_
  refine zR_isub rfl ?_
  refine zR_call rfl rfl rfl rfl (zcallok_s rfl) (m_isWithin) ?_
  first | refine zR_dt rfl rfl (fun c1 => absurd c1 h1) (fun c1 => ?_) | refine zR_bt rfl rfl (fun c1 => absurd c1 h1) (fun c1 => ?_) | refine zR_ifne rfl rfl (fun c1 => absurd c1 h1) (fun c1 => ?_)
  refine zR_throwe (by omega) rfl rfl rfl ?_ ?_
  all_goals (first | rfl | simp [bI, *])
theorem m_needRows {a : Int32} (hd : 6 ≤ d) : (N 4 + a ≤ 400 → zMe sL sx (d + 1) 47 [.ref 0, .int a] (zCs N F G K Z ++ tl) (.returned none) (zCs N F G K Z ++ tl)) ∧ (¬ N 4 + a ≤ 400 → zMe sL sx (d + 1) 47 [.ref 0, .int a] (zCs N F G K Z ++ tl) (.threw 3) (zCs N F G K Z ++ tl ++ [(103, [])])) := by
  constructor <;> intro q
  all_goals
    show zR sL sx _ 47 0 [.ref 0, .int a] [] _ _ _
    refine zR_s rfl ?_
    refine zR_get rfl rfl (zc0) rfl ?_
    refine zR_s rfl ?_
    refine zR_call rfl rfl rfl rfl (zcallok_v (zc6) rfl rfl) (m_hasRoom) ?_
    first | refine zR_dt rfl rfl (fun c1 => ?_) (fun c1 => ?_) | refine zR_bt rfl rfl (fun c1 => ?_) (fun c1 => ?_) | refine zR_ifne rfl rfl (fun c1 => ?_) (fun c1 => ?_)
    · refine zR_rete rfl rfl ?_ ?_
      all_goals (first | rfl | contradiction)
    · refine zR_throwe (by omega) rfl rfl rfl ?_ ?_
      all_goals (first | rfl | contradiction)
/-- units at a place -/
def zqP (G : Nat → Nat → Int32) (p : Int32) : Nat → Bool := fun i => decide (G i 6 = p)
theorem m_unitsAt {p : Int32} (hM : N 1 = nI M) (hm : M ≤ 64) : zMe sL sx d 52 [.ref 0, .int p] (zCs N F G K Z ++ tl) (.returned (some (.int (nI (zcnt (zqP G p) M))))) (zCs N F G K Z ++ tl) := by
  show zR sL sx _ 52 0 [.ref 0, .int p, .retAddr 0, .retAddr 0] [] _ _ _
  refine zR_cst (v := 0) rfl rfl rfl ?_
  refine zR_s rfl ?_
  refine zR_cst (v := 0) rfl rfl rfl ?_
  refine zR_s rfl ?_
  skip
  refine zR_loop0 (M := M) (fun j => [.ref 0, .int p, .int (nI (zcnt (zqP G p) j)), .int (nI j)]) (fun _ => zCs N F G K Z ++ tl) (fun _ => True) rfl rfl trivial (fun _ => ?_) (fun j hj _ ih => ?_)
  · refine zR_s rfl ?_
    refine zR_s rfl ?_
    refine zR_get rfl rfl (zc0) rfl ?_
    refine zR_icge rfl rfl (fun _ => ?_) (fun c => by first | exact absurd ((by rw [hM]; exact Int32.le_refl _)) c | exact absurd c ((by rw [hM]; exact Int32.le_refl _)))
    refine zR_s rfl ?_
    first | refine zR_rete rfl rfl ?_ ?_ | refine zR_retb rfl rfl ?_ ?_
    all_goals (first | rfl | simp [bI, *])
  · refine zR_s rfl ?_
    refine zR_s rfl ?_
    first | refine zR_get rfl rfl (zc0) rfl ?_ | refine zR_get rfl rfl (zcU (show j < 64 by omega)) rfl ?_
    refine zR_icge rfl rfl (fun c => by first | exact absurd c ((by rw [hM]; exact nI_ge hj (by omega))) | exact absurd ((by rw [hM]; exact nI_ge hj (by omega))) c) (fun _ => ?_)
    refine zR_s rfl ?_
    first | refine zR_get rfl rfl (zc0) rfl ?_ | refine zR_get rfl rfl (zcU (show j < 64 by omega)) rfl ?_
    refine zR_s rfl ?_
    refine zR_aldU rfl (by omega) ?_
    first | refine zR_get rfl rfl (zc0) rfl ?_ | refine zR_get rfl rfl (zcU (show j < 64 by omega)) rfl ?_
    refine zR_s rfl ?_
    refine zR_icne rfl rfl (fun c1 => ?_) (fun c1 => ?_)
    · first | refine zR_incn rfl rfl rfl ?_ | refine zR_s rfl ?_
      refine zR_goto rfl rfl ?_
      (have w := ih trivial; (first | rw [zcnt_f (show zqP G p j = false from decide_eq_false c1)] at w | rw [zcnt_t (show zqP G p j = true from decide_eq_true c1)] at w); exact w)
    · first | refine zR_incn rfl rfl rfl ?_ | refine zR_s rfl ?_
      first | refine zR_incn rfl rfl rfl ?_ | refine zR_s rfl ?_
      refine zR_goto rfl rfl ?_
      (have w := ih trivial; (first | rw [zcnt_f (show zqP G p j = false from decide_eq_false c1)] at w | rw [zcnt_t (show zqP G p j = true from decide_eq_true c1)] at w); exact w)
def zqS (G : Nat → Nat → Int32) : Nat → Bool := fun i => zst (G i)
theorem m_unitsStanding (hM : N 1 = nI M) (hm : M ≤ 64) : zMe sL sx (d + 1) 53 [.ref 0] (zCs N F G K Z ++ tl) (.returned (some (.int (nI (zcnt (zqS G) M))))) (zCs N F G K Z ++ tl) := by
  show zR sL sx _ 53 0 [.ref 0, .retAddr 0, .retAddr 0] [] _ _ _
  refine zR_cst (v := 0) rfl rfl rfl ?_
  refine zR_s rfl ?_
  refine zR_cst (v := 0) rfl rfl rfl ?_
  refine zR_s rfl ?_
  skip
  refine zR_loop0 (M := M) (fun j => [.ref 0, .int (nI (zcnt (zqS G) j)), .int (nI j)]) (fun _ => zCs N F G K Z ++ tl) (fun _ => True) rfl rfl trivial (fun _ => ?_) (fun j hj _ ih => ?_)
  · refine zR_s rfl ?_
    refine zR_s rfl ?_
    refine zR_get rfl rfl (zc0) rfl ?_
    refine zR_icge rfl rfl (fun _ => ?_) (fun c => by first | exact absurd ((by rw [hM]; exact Int32.le_refl _)) c | exact absurd c ((by rw [hM]; exact Int32.le_refl _)))
    refine zR_s rfl ?_
    first | refine zR_rete rfl rfl ?_ ?_ | refine zR_retb rfl rfl ?_ ?_
    all_goals (first | rfl | simp [bI, *])
  · refine zR_s rfl ?_
    refine zR_s rfl ?_
    refine zR_get rfl rfl (zc0) rfl ?_
    refine zR_icge rfl rfl (fun c => by first | exact absurd c ((by rw [hM]; exact nI_ge hj (by omega))) | exact absurd ((by rw [hM]; exact nI_ge hj (by omega))) c) (fun _ => ?_)
    refine zR_s rfl ?_
    refine zR_get rfl rfl (zc0) rfl ?_
    refine zR_s rfl ?_
    refine zR_aldU rfl (by omega) ?_
    refine zR_call rfl rfl rfl rfl (zcallok_v (zcU (show j < 64 by omega)) rfl rfl) (m_stands (zcU (show j < 64 by omega))) ?_
    first | refine zR_df rfl rfl (fun c1 => ?_) (fun c1 => ?_) | refine zR_bf rfl rfl (fun c1 => ?_) (fun c1 => ?_) | refine zR_ifeq rfl rfl (fun c1 => ?_) (fun c1 => ?_)
    · first | refine zR_incn rfl rfl rfl ?_ | refine zR_s rfl ?_
      refine zR_goto rfl rfl ?_
      (have w := ih trivial; (first | rw [zcnt_f (show zqS G j = false from decide_eq_false c1)] at w | rw [zcnt_t (show zqS G j = true from decide_eq_true c1)] at w); exact w)
    · first | refine zR_incn rfl rfl rfl ?_ | refine zR_s rfl ?_
      first | refine zR_incn rfl rfl rfl ?_ | refine zR_s rfl ?_
      refine zR_goto rfl rfl ?_
      (have w := ih trivial; (first | rw [zcnt_f (show zqS G j = false from decide_eq_false c1)] at w | rw [zcnt_t (show zqS G j = true from decide_eq_true c1)] at w); exact w)
def zqW (K : Nat → Option Nat) (u : Nat) : Nat → Bool := fun i => zlw K u 4 (K i)
theorem m_unitsWithin {u : Nat} (hK : zKb K) (hM : N 1 = nI M) (hm : M ≤ 64) : zMe sL sx (d + 1) 54 [.ref 0, .ref (u + 11)] (zCs N F G K Z ++ tl) (.returned (some (.int (nI (zcnt (zqW K u) M))))) (zCs N F G K Z ++ tl) := by
  show zR sL sx _ 54 0 [.ref 0, .ref (u + 11), .retAddr 0, .retAddr 0] [] _ _ _
  refine zR_cst (v := 0) rfl rfl rfl ?_
  refine zR_s rfl ?_
  refine zR_cst (v := 0) rfl rfl rfl ?_
  refine zR_s rfl ?_
  skip
  refine zR_loop0 (M := M) (fun j => [.ref 0, .ref (u + 11), .int (nI (zcnt (zqW K u) j)), .int (nI j)]) (fun _ => zCs N F G K Z ++ tl) (fun _ => True) rfl rfl trivial (fun _ => ?_) (fun j hj _ ih => ?_)
  · refine zR_s rfl ?_
    refine zR_s rfl ?_
    refine zR_get rfl rfl (zc0) rfl ?_
    refine zR_icge rfl rfl (fun _ => ?_) (fun c => by first | exact absurd ((by rw [hM]; exact Int32.le_refl _)) c | exact absurd c ((by rw [hM]; exact Int32.le_refl _)))
    refine zR_s rfl ?_
    first | refine zR_rete rfl rfl ?_ ?_ | refine zR_retb rfl rfl ?_ ?_
    all_goals (first | rfl | simp [bI, *])
  · refine zR_s rfl ?_
    refine zR_s rfl ?_
    refine zR_get rfl rfl (zc0) rfl ?_
    refine zR_icge rfl rfl (fun c => by first | exact absurd c ((by rw [hM]; exact nI_ge hj (by omega))) | exact absurd ((by rw [hM]; exact nI_ge hj (by omega))) c) (fun _ => ?_)
    refine zR_s rfl ?_
    refine zR_get rfl rfl (zc0) rfl ?_
    refine zR_s rfl ?_
    refine zR_aldU rfl (by omega) ?_
    refine zR_s rfl ?_
    refine zR_call rfl rfl rfl rfl (zcallok_v (zcU (show j < 64 by omega)) rfl rfl) (m_liesWithin hK (show j < 64 by omega)) ?_
    first | refine zR_df rfl rfl (fun c1 => ?_) (fun c1 => ?_) | refine zR_bf rfl rfl (fun c1 => ?_) (fun c1 => ?_) | refine zR_ifeq rfl rfl (fun c1 => ?_) (fun c1 => ?_)
    · first | refine zR_incn rfl rfl rfl ?_ | refine zR_s rfl ?_
      refine zR_goto rfl rfl ?_
      (have w := ih trivial; (first | rw [zcnt_f (show zqW K u j = false from c1)] at w | rw [zcnt_t (show zqW K u j = true from c1)] at w); exact w)
    · first | refine zR_incn rfl rfl rfl ?_ | refine zR_s rfl ?_
      first | refine zR_incn rfl rfl rfl ?_ | refine zR_s rfl ?_
      refine zR_goto rfl rfl ?_
      (have w := ih trivial; (first | rw [zcnt_f (show zqW K u j = false from c1)] at w | rw [zcnt_t (show zqW K u j = true from c1)] at w); exact w)
theorem m_needSpace {p : Nat} {c : Int32} (hM : N 1 = nI M) (hm : M ≤ 64) (hp : p < 16) (hd : 6 ≤ d) : (nI (zcnt (zqP G (nI p)) M) + c ≤ F 0 p → zMe sL sx (d + 1) 48 [.ref 0, .int (nI p), .int c] (zCs N F G K Z ++ tl) (.returned none) (zCs N F G K Z ++ tl)) ∧ (¬ nI (zcnt (zqP G (nI p)) M) + c ≤ F 0 p → zMe sL sx (d + 1) 48 [.ref 0, .int (nI p), .int c] (zCs N F G K Z ++ tl) (.threw 3) (zCs N F G K Z ++ tl ++ [(103, [])])) := by
  have h1 : 0 ≤ nI p ∧ nI p ≤ 15 := ⟨nI_pos' (by omega), nI_le (b := 15) (by omega) (by omega)⟩
  constructor <;> intro q
  all_goals
    show zR sL sx _ 48 0 [.ref 0, .int (nI p), .int c] [] _ _ _
    refine zR_s rfl ?_
    refine zR_cst (v := 0) rfl rfl rfl ?_
    refine zR_cst (v := 15) rfl rfl rfl ?_
    refine zR_call rfl rfl rfl rfl (zcallok_s rfl) (m_isWithin) ?_
    first | refine zR_df rfl rfl (fun c1 => absurd h1 c1) (fun c1 => ?_) | refine zR_bf rfl rfl (fun c1 => absurd h1 c1) (fun c1 => ?_) | refine zR_ifeq rfl rfl (fun c1 => absurd h1 c1) (fun c1 => ?_)
    refine zR_s rfl ?_
    refine zR_s rfl ?_
    refine zR_call rfl rfl rfl rfl (zcallok_v (zc0) rfl rfl) (m_unitsAt hM hm) ?_
    refine zR_s rfl ?_
    refine zR_iadd rfl ?_
    refine zR_s rfl ?_
    refine zR_get rfl rfl (zc0) rfl ?_
    refine zR_s rfl ?_
    refine zR_ildF 0 rfl (by decide) hp ?_
    refine zR_icle rfl rfl (fun c2 => ?_) (fun c2 => ?_)
    · refine zR_rete rfl rfl ?_ ?_
      all_goals (first | rfl | exact absurd c2 q | exact absurd q c2)
    · refine zR_throwe (by omega) rfl rfl rfl ?_ ?_
      all_goals (first | rfl | exact absurd c2 q | exact absurd q c2)
theorem m_nextUnit (hM : N 1 = nI M) (hm : M ≤ 64) (hd : 6 ≤ d) : (¬ N 2 ≤ N 1 ∧ M < 64 → zMe sL sx (d + 1) 49 [.ref 0] (zCs N F G K Z ++ tl) (.returned (some (.ref (M + 11)))) (zCs (upd N 1 (nI (M + 1))) F G K Z ++ tl)) ∧ (¬ (¬ N 2 ≤ N 1 ∧ M < 64) → zMe sL sx (d + 1) 49 [.ref 0] (zCs N F G K Z ++ tl) (.threw 3) (zCs N F G K Z ++ tl ++ [(103, [])])) := by
  constructor <;> intro q
  · have h1 : N = upd N 1 (nI M) := by funext q; simp only [upd]; split; rename_i e1; rw [e1, hM]; rfl
    have h2 : ¬ (64 : Int32) ≤ N 1 := by rw [hM]; exact nI_ge (b := 64) q.2 (by omega)
    show zR sL sx _ 49 0 [.ref 0, .retAddr 0] [] _ _ _
    refine zR_s rfl ?_
    refine zR_get rfl rfl (zc0) rfl ?_
    refine zR_s rfl ?_
    refine zR_get rfl rfl (zc0) rfl ?_
    refine zR_icge rfl rfl (fun c1 => absurd c1 q.1) (fun c1 => ?_)
    refine zR_s rfl ?_
    refine zR_get rfl rfl (zc0) rfl ?_
    refine zR_cst (v := 64) rfl rfl rfl ?_
    refine zR_mlt rfl rfl (fun _ => ?_) (fun c => by first | exact absurd (h2) c | exact absurd c (h2))
    skip
    have e1 : upd (upd N 1 (nI M)) 1 (nI (M + 1)) = upd N 1 (nI (M + 1)) := by funext q; simp only [upd]; split <;> rfl
    rw [← e1]
    rw [h1]
    have e2 : upd (upd N 1 (nI M)) 1 (nI M) = upd N 1 (nI M) := by funext q; simp only [upd]; split <;> rfl
    rw [e2]
    refine zR_s rfl ?_
    refine zR_get rfl rfl (zc0) rfl ?_
    refine zR_s rfl ?_
    refine zR_get rfl rfl (zc0) rfl ?_
    refine zR_aldU (j := M) rfl (by omega) ?_
    refine zR_s rfl ?_
    refine zR_s rfl ?_
    refine zR_s rfl ?_
    refine zR_get rfl rfl (zc0) rfl ?_
    refine zR_cst (v := 1) rfl rfl rfl ?_
    refine zR_iadd rfl ?_
    refine zR_putN rfl rfl (by decide) rfl ?_
    refine zR_s rfl ?_
    refine zR_rete rfl rfl ?_ ?_
    all_goals (first | rfl | (rw [show nI (M + 1) = nI M + 1 from nI_succ M]; rfl))
  · show zR sL sx _ 49 0 [.ref 0, .retAddr 0] [] _ _ _
    refine zR_s rfl ?_
    refine zR_get rfl rfl (zc0) rfl ?_
    refine zR_s rfl ?_
    refine zR_get rfl rfl (zc0) rfl ?_
    refine zR_icge rfl rfl (fun c1 => ?_) (fun c1 => ?_)
    · refine zR_throwe (by omega) rfl rfl rfl ?_ ?_
      all_goals (first | rfl | simp [bI, *])
    · refine zR_s rfl ?_
      refine zR_get rfl rfl (zc0) rfl ?_
      refine zR_cst (v := 64) rfl rfl rfl ?_
      refine zR_mlt rfl rfl (fun c2 => absurd ⟨c1, Nat.lt_of_not_le fun q2 => c2 (by rw [hM]; exact nI_le (a := 64) q2 (by omega))⟩ q) (fun c2 => ?_)
      refine zR_throwe (by omega) rfl rfl rfl ?_ ?_
      all_goals (first | rfl | simp [bI, *])
theorem m_addRow {A : Nat} {b e : Int32} (hi : i < 64) (hN : N 4 = nI A) (hA : A < 400) : zMe sL sx (d + 2) 50 [.ref 0, .ref (i + 11), .int b, .int e] (zCs N F G K Z ++ tl) (.returned none) (zCs (upd N 4 (nI (A + 1))) (zadd F A (nI i) b (N 3) e) G K Z ++ tl) := by
  show zR sL sx _ 50 0 [.ref 0, .ref (i + 11), .int b, .int e] [] _ _ _
  refine zR_s rfl ?_
  first | refine zR_get rfl rfl (zc0) rfl ?_ | refine zR_get rfl rfl (zcU hi) rfl ?_
  refine zR_s rfl ?_
  first | refine zR_get rfl rfl (zc0) rfl ?_ | refine zR_get rfl rfl (zcU hi) rfl ?_
  refine zR_s rfl ?_
  refine zR_s rfl ?_
  first | refine zR_get rfl rfl (zc0) rfl ?_ | refine zR_get rfl rfl (zcU hi) rfl ?_
  refine zR_s rfl ?_
  refine zR_call rfl rfl rfl rfl (zcallok_v (zc6) rfl rfl) (m_add hN hA) ?_
  refine zR_rete rfl rfl ?_ ?_
  all_goals (first | rfl | simp [bI, *])
theorem m_gramsOf {q : Nat} (hq : q < 8) : zMe sL sx (d + 1) 51 [.ref 0, .int (nI q)] (zCs N F G K Z ++ tl) (.returned (some (.int (F 1 q)))) (zCs N F G K Z ++ tl) := by
  have h1 : 0 ≤ nI q ∧ nI q ≤ 7 := ⟨nI_pos' (by omega), nI_le (b := 7) (by omega) (by omega)⟩
  show zR sL sx _ 51 0 [.ref 0, .int (nI q)] [] _ _ _
  refine zR_s rfl ?_
  refine zR_cst (v := 0) rfl rfl rfl ?_
  refine zR_cst (v := 7) rfl rfl rfl ?_
  refine zR_call rfl rfl rfl rfl (zcallok_s rfl) (m_isWithin) ?_
  first | refine zR_df rfl rfl (fun c1 => absurd h1 c1) (fun c1 => ?_) | refine zR_bf rfl rfl (fun c1 => absurd h1 c1) (fun c1 => ?_) | refine zR_ifeq rfl rfl (fun c1 => absurd h1 c1) (fun c1 => ?_)
  refine zR_s rfl ?_
  refine zR_get rfl rfl (zc0) rfl ?_
  refine zR_s rfl ?_
  refine zR_ildF 1 rfl (by decide) hq ?_
  refine zR_s rfl ?_
  first | refine zR_rete rfl rfl ?_ ?_ | refine zR_retb rfl rfl ?_ ?_
  all_goals (first | rfl | simp [bI, *])
end ZCH
