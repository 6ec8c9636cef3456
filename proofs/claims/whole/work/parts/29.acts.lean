/-! the class's acts, further -/
section ZAD
variable {sL : Nat} {sx : Nat → Int32} {N : Nat → Int32} {F G : Nat → Nat → Int32} {K : Nat → Option Nat} {Z : Nat → Int64} {tl : zH} {M A l i u : Nat}
theorem c_move_no {a p : Int32} (hM : N 1 = nI M) (hno : ¬ (0 ≤ a ∧ a ≤ nI M - 1)) : zMe sL sx 10 24 [.ref 0, .int a, .int p] (zCs N F G K Z ++ tl) (.threw 4) (zCs N F G K Z ++ tl ++ [(104, [])]) := by
  show zR sL sx _ 24 0 [.ref 0, .int a, .int p, .retAddr 0] [] _ _ _
  refine zR_s rfl ?_
  refine zR_s rfl ?_
  exact zR_callx rfl rfl rfl rfl (zcallok_v zc0 rfl rfl) rfl (m_unitOf_no hM (by decide) hno)
theorem c_out_no {a : Int32} (hM : N 1 = nI M) (hno : ¬ (0 ≤ a ∧ a ≤ nI M - 1)) : zMe sL sx 10 26 [.ref 0, .int a] (zCs N F G K Z ++ tl) (.threw 4) (zCs N F G K Z ++ tl ++ [(104, [])]) := by
  show zR sL sx _ 26 0 [.ref 0, .int a, .retAddr 0] [] _ _ _
  refine zR_s rfl ?_
  refine zR_s rfl ?_
  exact zR_callx rfl rfl rfl rfl (zcallok_v zc0 rfl rfl) rfl (m_unitOf_no hM (by decide) hno)
theorem c_split_no {a p : Int32} (hM : N 1 = nI M) (hno : ¬ (0 ≤ a ∧ a ≤ nI M - 1)) : zMe sL sx 10 27 [.ref 0, .int a, .int p] (zCs N F G K Z ++ tl) (.threw 4) (zCs N F G K Z ++ tl ++ [(104, [])]) := by
  show zR sL sx _ 27 0 [.ref 0, .int a, .int p, .retAddr 0, .retAddr 0] [] _ _ _
  refine zR_s rfl ?_
  refine zR_s rfl ?_
  exact zR_callx rfl rfl rfl rfl (zcallok_v zc0 rfl rfl) rfl (m_unitOf_no hM (by decide) hno)
theorem c_state_no {a p : Int32} (hM : N 1 = nI M) (hno : ¬ (0 ≤ a ∧ a ≤ nI M - 1)) : zMe sL sx 10 29 [.ref 0, .int a, .int p] (zCs N F G K Z ++ tl) (.threw 4) (zCs N F G K Z ++ tl ++ [(104, [])]) := by
  show zR sL sx _ 29 0 [.ref 0, .int a, .int p, .retAddr 0] [] _ _ _
  refine zR_s rfl ?_
  refine zR_s rfl ?_
  exact zR_callx rfl rfl rfl rfl (zcallok_v zc0 rfl rfl) rfl (m_unitOf_no hM (by decide) hno)
theorem c_lost_no {a p : Int32} (hM : N 1 = nI M) (hno : ¬ (0 ≤ a ∧ a ≤ nI M - 1)) : zMe sL sx 10 31 [.ref 0, .int a, .int p] (zCs N F G K Z ++ tl) (.threw 4) (zCs N F G K Z ++ tl ++ [(104, [])]) := by
  show zR sL sx _ 31 0 [.ref 0, .int a, .int p, .retAddr 0] [] _ _ _
  refine zR_s rfl ?_
  refine zR_s rfl ?_
  exact zR_callx rfl rfl rfl rfl (zcallok_v zc0 rfl rfl) rfl (m_unitOf_no hM (by decide) hno)
theorem c_found_no {a p : Int32} (hM : N 1 = nI M) (hno : ¬ (0 ≤ a ∧ a ≤ nI M - 1)) : zMe sL sx 10 32 [.ref 0, .int a, .int p] (zCs N F G K Z ++ tl) (.threw 4) (zCs N F G K Z ++ tl ++ [(104, [])]) := by
  show zR sL sx _ 32 0 [.ref 0, .int a, .int p, .retAddr 0] [] _ _ _
  refine zR_s rfl ?_
  refine zR_s rfl ?_
  exact zR_callx rfl rfl rfl rfl (zcallok_v zc0 rfl rfl) rfl (m_unitOf_no hM (by decide) hno)
theorem c_weigh_no {a p : Int32} (hM : N 1 = nI M) (hno : ¬ (0 ≤ a ∧ a ≤ nI M - 1)) : zMe sL sx 10 33 [.ref 0, .int a, .int p] (zCs N F G K Z ++ tl) (.threw 4) (zCs N F G K Z ++ tl ++ [(104, [])]) := by
  show zR sL sx _ 33 0 [.ref 0, .int a, .int p, .retAddr 0] [] _ _ _
  refine zR_s rfl ?_
  refine zR_s rfl ?_
  exact zR_callx rfl rfl rfl rfl (zcallok_v zc0 rfl rfl) rfl (m_unitOf_no hM (by decide) hno)
theorem c_told_no {a p : Int32} (hM : N 1 = nI M) (hno : ¬ (0 ≤ a ∧ a ≤ nI M - 1)) : zMe sL sx 10 39 [.ref 0, .int a, .int p] (zCs N F G K Z ++ tl) (.threw 4) (zCs N F G K Z ++ tl ++ [(104, [])]) := by
  show zR sL sx _ 39 0 [.ref 0, .int a, .int p, .retAddr 0] [] _ _ _
  refine zR_s rfl ?_
  refine zR_s rfl ?_
  exact zR_callx rfl rfl rfl rfl (zcallok_v zc0 rfl rfl) rfl (m_unitOf_no hM (by decide) hno)
theorem c_into_no {a p : Int32} (hM : N 1 = nI M) (hno : ¬ (0 ≤ a ∧ a ≤ nI M - 1)) : zMe sL sx 10 25 [.ref 0, .int a, .int p] (zCs N F G K Z ++ tl) (.threw 4) (zCs N F G K Z ++ tl ++ [(104, [])]) := by
  show zR sL sx _ 25 0 [.ref 0, .int a, .int p, .retAddr 0, .retAddr 0] [] _ _ _
  refine zR_s rfl ?_
  refine zR_s rfl ?_
  exact zR_callx rfl rfl rfl rfl (zcallok_v zc0 rfl rfl) rfl (m_unitOf_no hM (by decide) hno)
theorem c_join_no {a p : Int32} (hM : N 1 = nI M) (hno : ¬ (0 ≤ a ∧ a ≤ nI M - 1)) : zMe sL sx 10 28 [.ref 0, .int a, .int p] (zCs N F G K Z ++ tl) (.threw 4) (zCs N F G K Z ++ tl ++ [(104, [])]) := by
  show zR sL sx _ 28 0 [.ref 0, .int a, .int p, .retAddr 0, .retAddr 0] [] _ _ _
  refine zR_s rfl ?_
  refine zR_s rfl ?_
  exact zR_callx rfl rfl rfl rfl (zcallok_v zc0 rfl rfl) rfl (m_unitOf_no hM (by decide) hno)
theorem c_packed_no {a : Int32} (hM : N 1 = nI M) (hno : ¬ (0 ≤ a ∧ a ≤ nI M - 1)) : zMe sL sx 10 40 [.ref 0, .int a] (zCs N F G K Z ++ tl) (.threw 4) (zCs N F G K Z ++ tl ++ [(104, [])]) := by
  show zR sL sx _ 40 0 [.ref 0, .int a] [] _ _ _
  refine zR_s rfl ?_
  refine zR_s rfl ?_
  exact zR_callx rfl rfl rfl rfl (zcallok_v zc0 rfl rfl) rfl (m_unitOf_no hM (by decide) hno)
theorem c_row_no {a p w : Int32} (hM : N 1 = nI M) (hno : ¬ (0 ≤ a ∧ a ≤ nI M - 1)) : zMe sL sx 10 38 [.ref 0, .int a, .int p, .int w] (zCs N F G K Z ++ tl) (.threw 4) (zCs N F G K Z ++ tl ++ [(104, [])]) := by
  show zR sL sx _ 38 0 [.ref 0, .int a, .int p, .int w, .retAddr 0] [] _ _ _
  refine zR_s rfl ?_
  refine zR_get rfl rfl (zc0) rfl ?_
  refine zR_s rfl ?_
  refine zR_s rfl ?_
  exact zR_callx rfl rfl rfl rfl (zcallok_v zc0 rfl rfl) rfl (m_unitOf_no hM (by decide) hno)
theorem c_serial_no {a : Int32} {n : Int64} (hM : N 1 = nI M) (hno : ¬ (0 ≤ a ∧ a ≤ nI M - 1)) : zMe sL sx 10 30 [.ref 0, .int a, .long n] (zCs N F G K Z ++ tl) (.threw 4) (zCs N F G K Z ++ tl ++ [(104, [])]) := by
  show zR sL sx _ 30 0 [.ref 0, .int a, .long n, .retAddr 0, .retAddr 0] [] _ _ _
  refine zR_s rfl ?_
  refine zR_s rfl ?_
  exact zR_callx rfl rfl rfl rfl (zcallok_v zc0 rfl rfl) rfl (m_unitOf_no hM (by decide) hno)
theorem c_into_no2 {j : Nat} {a : Int32} (hM : N 1 = nI M) (hm : M ≤ 64) (hj : j < M) (hno : ¬ (0 ≤ a ∧ a ≤ nI M - 1)) : zMe sL sx 10 25 [.ref 0, .int (nI j), .int a] (zCs N F G K Z ++ tl) (.threw 4) (zCs N F G K Z ++ tl ++ [(104, [])]) := by
  show zR sL sx _ 25 0 [.ref 0, .int (nI j), .int a, .retAddr 0, .retAddr 0] [] _ _ _
  refine zR_s rfl ?_
  refine zR_s rfl ?_
  refine zR_call rfl rfl rfl rfl (zcallok_v (zc0) rfl rfl) (m_unitOf hM hm hj) ?_
  refine zR_s rfl ?_
  refine zR_s rfl ?_
  refine zR_s rfl ?_
  exact zR_callx rfl rfl rfl rfl (zcallok_v zc0 rfl rfl) rfl (m_unitOf_no hM (by decide) hno)
theorem c_join_no2 {j : Nat} {a : Int32} (hM : N 1 = nI M) (hm : M ≤ 64) (hj : j < M) (hno : ¬ (0 ≤ a ∧ a ≤ nI M - 1)) : zMe sL sx 10 28 [.ref 0, .int (nI j), .int a] (zCs N F G K Z ++ tl) (.threw 4) (zCs N F G K Z ++ tl ++ [(104, [])]) := by
  show zR sL sx _ 28 0 [.ref 0, .int (nI j), .int a, .retAddr 0, .retAddr 0] [] _ _ _
  refine zR_s rfl ?_
  refine zR_s rfl ?_
  refine zR_call rfl rfl rfl rfl (zcallok_v (zc0) rfl rfl) (m_unitOf hM hm hj) ?_
  refine zR_s rfl ?_
  refine zR_s rfl ?_
  refine zR_s rfl ?_
  exact zR_callx rfl rfl rfl rfl (zcallok_v zc0 rfl rfl) rfl (m_unitOf_no hM (by decide) hno)
def q_out (N : Nat → Int32) (F G : Nat → Nat → Int32) (K : Nat → Option Nat) (Z : Nat → Int64) (A j : Nat) : zQ :=
  if K j = none then .error 2 else if N 4 + 1 ≤ 400 then .ok (none, upd N 4 (nI (A + 1)), zadd F A (nI j) 4 (N 3) (G j 6), G, va_up K j none, Z) else .error 3
theorem c_out {j : Nat}  (hK : zKb K) (hM : N 1 = nI M) (hm : M ≤ 64) (hA : N 4 = nI A) (hA4 : A ≤ 400) (hj : j < M) : zMe sL sx 10 26 [.ref 0, .int (nI j)] (zCs N F G K Z ++ tl) (zO (q_out N F G K Z A j)) (zHc (zCs N F G K Z ++ tl) tl (q_out N F G K Z A j)) := by
  have hj2 : j < 64 := by omega
  show zR sL sx _ 26 0 [.ref 0, .int (nI j), .retAddr 0] [] _ _ _
  first | refine zR_s rfl ?_ | refine zR_alo rfl rfl rfl ?_
  refine zR_s rfl ?_
  refine zR_call rfl rfl rfl rfl (zcallok_v (zc0) rfl rfl) (m_unitOf hM hm hj) ?_
  first | refine zR_s rfl ?_ | refine zR_aso rfl rfl rfl ?_
  first | refine zR_s rfl ?_ | refine zR_alo rfl rfl rfl ?_
  first | refine zR_get rfl rfl (zc0) rfl ?_ | refine zR_get rfl rfl (zcU hj2) rfl ?_
  refine zR_nonnull1 rfl rfl (fun c1 => ?_) (fun c1 => ?_)
  · first | refine zR_s rfl ?_ | refine zR_alo rfl rfl rfl ?_
    refine zR_cst (v := 1) rfl rfl rfl ?_
    refine zR_callt rfl rfl rfl rfl (zcallok_v (zc0) rfl rfl) rfl (m_needRows (by decide)) (fun c2 => ?_) (fun c2 => ?_)
    · have hA5 := zroom1 hA hA4 c2
      first | refine zR_s rfl ?_ | refine zR_alo rfl rfl rfl ?_
      refine zR_nul rfl ?_
      refine zR_putK rfl rfl hj2 rfl ?_
      first | refine zR_s rfl ?_ | refine zR_alo rfl rfl rfl ?_
      first | refine zR_s rfl ?_ | refine zR_alo rfl rfl rfl ?_
      refine zR_cst (v := 4) rfl rfl rfl ?_
      first | refine zR_s rfl ?_ | refine zR_alo rfl rfl rfl ?_
      first | refine zR_get rfl rfl (zc0) rfl ?_ | refine zR_get rfl rfl (zcU hj2) rfl ?_
      refine zR_call rfl rfl rfl rfl (zcallok_v (zc0) rfl rfl) (m_addRow hj2 hA hA5) ?_
      refine zR_rete rfl rfl ?_ ?_
      all_goals (first | contradiction | (simp only [zO, zHc, q_out, c1, c2, if_true, if_false, not_true_eq_false, not_false_eq_true, and_self, and_true, true_and, or_true, true_or, or_false, false_or, and_false, false_and, reduceCtorEq, Bool.false_eq_true, Bool.true_eq_false, ite_self, eq_self]; done) | (simp only [zO, zHc, q_out, c1, c2, if_true, if_false, not_true_eq_false, not_false_eq_true, and_self, and_true, true_and, or_true, true_or, or_false, false_or, and_false, false_and, reduceCtorEq, Bool.false_eq_true, Bool.true_eq_false, ite_self, eq_self]; done))
    · first | contradiction | (simp only [zO, zHc, q_out, c1, c2, if_true, if_false, not_true_eq_false, not_false_eq_true, and_self, and_true, true_and, or_true, true_or, or_false, false_or, and_false, false_and, reduceCtorEq, Bool.false_eq_true, Bool.true_eq_false, ite_self, eq_self]; done) | (simp only [zO, zHc, q_out, c1, c2, if_true, if_false, not_true_eq_false, not_false_eq_true, and_self, and_true, true_and, or_true, true_or, or_false, false_or, and_false, false_and, reduceCtorEq, Bool.false_eq_true, Bool.true_eq_false, ite_self, eq_self]; done)
  · refine zR_throwe (by omega) rfl rfl rfl ?_ ?_
    all_goals (first | contradiction | (simp only [zO, zHc, q_out, c1, if_true, if_false, not_true_eq_false, not_false_eq_true, and_self, and_true, true_and, or_true, true_or, or_false, false_or, and_false, false_and, reduceCtorEq, Bool.false_eq_true, Bool.true_eq_false, ite_self, eq_self]; done) | (simp only [zO, zHc, q_out, c1, if_true, if_false, not_true_eq_false, not_false_eq_true, and_self, and_true, true_and, or_true, true_or, or_false, false_or, and_false, false_and, reduceCtorEq, Bool.false_eq_true, Bool.true_eq_false, ite_self, eq_self]; done))
def q_lost (N : Nat → Int32) (F G : Nat → Nat → Int32) (K : Nat → Option Nat) (Z : Nat → Int64) (M A j : Nat) (r : Int32) : zQ :=
  if 1 ≤ r ∧ r ≤ 9 then if zst (G j) = true then if N 4 + 1 ≤ 400 then .ok (none, upd N 4 (nI (A + 1)), zadd F A (nI j) 9 (N 3) r, ztak G K j 4 M, zKn (ztak G K j 4 M) K M, Z) else .error 3 else .error 2 else .error 1
theorem c_lost {j : Nat} {r : Int32}  (hK : zKb K) (hM : N 1 = nI M) (hm : M ≤ 64) (hA : N 4 = nI A) (hA4 : A ≤ 400) (hj : j < M) : zMe sL sx 10 31 [.ref 0, .int (nI j), .int r] (zCs N F G K Z ++ tl) (zO (q_lost N F G K Z M A j r)) (zHc (zCs N F G K Z ++ tl) tl (q_lost N F G K Z M A j r)) := by
  have hj2 : j < 64 := by omega
  show zR sL sx _ 31 0 [.ref 0, .int (nI j), .int r, .retAddr 0] [] _ _ _
  refine zR_s rfl ?_
  refine zR_s rfl ?_
  refine zR_call rfl rfl rfl rfl (zcallok_v (zc0) rfl rfl) (m_unitOf hM hm hj) ?_
  refine zR_s rfl ?_
  refine zR_s rfl ?_
  refine zR_cst (v := 1) rfl rfl rfl ?_
  refine zR_cst (v := 9) rfl rfl rfl ?_
  refine zR_callt rfl rfl rfl rfl (zcallok_s rfl) rfl (m_checkRange (by decide)) (fun c1 => ?_) (fun c1 => ?_)
  · refine zR_s rfl ?_
    refine zR_callt rfl rfl rfl rfl (zcallok_s rfl) rfl (m_checkStands (zcU hj2) (by decide)) (fun c2 => ?_) (fun c2 => ?_)
    · refine zR_s rfl ?_
      refine zR_cst (v := 1) rfl rfl rfl ?_
      refine zR_callt rfl rfl rfl rfl (zcallok_v (zc0) rfl rfl) rfl (m_needRows (by decide)) (fun c3 => ?_) (fun c3 => ?_)
      · have hA5 := zroom1 hA hA4 c3
        refine zR_s rfl ?_
        refine zR_s rfl ?_
        refine zR_cst (v := 4) rfl rfl rfl ?_
        refine zR_call rfl rfl rfl rfl (zcallok_v (zc0) rfl rfl) (m_takeAway hK hM hm) ?_
        refine zR_s rfl ?_
        refine zR_s rfl ?_
        refine zR_cst (v := 9) rfl rfl rfl ?_
        refine zR_s rfl ?_
        refine zR_call rfl rfl rfl rfl (zcallok_v (zc0) rfl rfl) (m_addRow hj2 hA hA5) ?_
        refine zR_rete rfl rfl ?_ ?_
        all_goals (first | contradiction | (simp only [zO, zHc, q_lost, c1, c2, c3, if_true, if_false, not_true_eq_false, not_false_eq_true, and_self, and_true, true_and, or_true, true_or, or_false, false_or, and_false, false_and, reduceCtorEq, Bool.false_eq_true, Bool.true_eq_false, ite_self, eq_self]; done) | (simp only [zO, zHc, q_lost, c1, c2, c3, if_true, if_false, not_true_eq_false, not_false_eq_true, and_self, and_true, true_and, or_true, true_or, or_false, false_or, and_false, false_and, reduceCtorEq, Bool.false_eq_true, Bool.true_eq_false, ite_self, eq_self]; done))
      · first | contradiction | (simp only [zO, zHc, q_lost, c1, c2, c3, if_true, if_false, not_true_eq_false, not_false_eq_true, and_self, and_true, true_and, or_true, true_or, or_false, false_or, and_false, false_and, reduceCtorEq, Bool.false_eq_true, Bool.true_eq_false, ite_self, eq_self]; done) | (simp only [zO, zHc, q_lost, c1, c2, c3, if_true, if_false, not_true_eq_false, not_false_eq_true, and_self, and_true, true_and, or_true, true_or, or_false, false_or, and_false, false_and, reduceCtorEq, Bool.false_eq_true, Bool.true_eq_false, ite_self, eq_self]; done)
    · first | contradiction | (simp only [zO, zHc, q_lost, c1, c2, if_true, if_false, not_true_eq_false, not_false_eq_true, and_self, and_true, true_and, or_true, true_or, or_false, false_or, and_false, false_and, reduceCtorEq, Bool.false_eq_true, Bool.true_eq_false, ite_self, eq_self]; done) | (simp only [zO, zHc, q_lost, c1, c2, if_true, if_false, not_true_eq_false, not_false_eq_true, and_self, and_true, true_and, or_true, true_or, or_false, false_or, and_false, false_and, reduceCtorEq, Bool.false_eq_true, Bool.true_eq_false, ite_self, eq_self]; done)
  · first | contradiction | (simp only [zO, zHc, q_lost, c1, if_true, if_false, not_true_eq_false, not_false_eq_true, and_self, and_true, true_and, or_true, true_or, or_false, false_or, and_false, false_and, reduceCtorEq, Bool.false_eq_true, Bool.true_eq_false, ite_self, eq_self]; done) | (simp only [zO, zHc, q_lost, c1, if_true, if_false, not_true_eq_false, not_false_eq_true, and_self, and_true, true_and, or_true, true_or, or_false, false_or, and_false, false_and, reduceCtorEq, Bool.false_eq_true, Bool.true_eq_false, ite_self, eq_self]; done)
def q_state (N : Nat → Int32) (F G : Nat → Nat → Int32) (K : Nat → Option Nat) (Z : Nat → Int64) (M A j : Nat) (r : Int32) : zQ :=
  if 0 ≤ r ∧ r ≤ 5 then if zbec (G j 5) (G j 2) r (N 3) = true then if N 4 + 1 ≤ 400 then if r = 5 then .ok (none, upd N 4 (nI (A + 1)), zadd F A (nI j) 7 (N 3) r, ztak G K j 5 M, zKn (ztak G K j 5 M) K M, Z) else .ok (none, upd N 4 (nI (A + 1)), zadd F A (nI j) 7 (N 3) r, updG G j 5 r, K, Z) else .error 3 else .error 2 else .error 1
theorem c_state {j : Nat} {r : Int32}  (hK : zKb K) (hM : N 1 = nI M) (hm : M ≤ 64) (hA : N 4 = nI A) (hA4 : A ≤ 400) (hj : j < M) : zMe sL sx 10 29 [.ref 0, .int (nI j), .int r] (zCs N F G K Z ++ tl) (zO (q_state N F G K Z M A j r)) (zHc (zCs N F G K Z ++ tl) tl (q_state N F G K Z M A j r)) := by
  have hj2 : j < 64 := by omega
  show zR sL sx _ 29 0 [.ref 0, .int (nI j), .int r, .retAddr 0] [] _ _ _
  refine zR_s rfl ?_
  refine zR_s rfl ?_
  refine zR_call rfl rfl rfl rfl (zcallok_v (zc0) rfl rfl) (m_unitOf hM hm hj) ?_
  refine zR_s rfl ?_
  refine zR_s rfl ?_
  refine zR_cst (v := 0) rfl rfl rfl ?_
  refine zR_cst (v := 5) rfl rfl rfl ?_
  refine zR_callt rfl rfl rfl rfl (zcallok_s rfl) rfl (m_checkRange (by decide)) (fun c1 => ?_) (fun c1 => ?_)
  · refine zR_s rfl ?_
    refine zR_s rfl ?_
    refine zR_s rfl ?_
    first | refine zR_get rfl rfl (zc0) rfl ?_ | refine zR_get rfl rfl (zcU hj2) rfl ?_
    refine zR_call rfl rfl rfl rfl (zcallok_v (zcU hj2) rfl rfl) (m_canBecome hj2) ?_
    first | refine zR_dt rfl rfl (fun c2 => ?_) (fun c2 => ?_) | refine zR_bt rfl rfl (fun c2 => ?_) (fun c2 => ?_) | refine zR_ifne rfl rfl (fun c2 => ?_) (fun c2 => ?_)
    · refine zR_s rfl ?_
      refine zR_cst (v := 1) rfl rfl rfl ?_
      refine zR_callt rfl rfl rfl rfl (zcallok_v (zc0) rfl rfl) rfl (m_needRows (by decide)) (fun c3 => ?_) (fun c3 => ?_)
      · have hA5 := zroom1 hA hA4 c3
        refine zR_s rfl ?_
        refine zR_cst (v := 5) rfl rfl rfl ?_
        refine zR_icne rfl rfl (fun c4 => ?_) (fun c4 => ?_)
        · refine zR_s rfl ?_
          refine zR_s rfl ?_
          refine zR_putG rfl rfl hj2 (by decide) rfl ?_
          refine zR_s rfl ?_
          refine zR_s rfl ?_
          refine zR_cst (v := 7) rfl rfl rfl ?_
          refine zR_s rfl ?_
          refine zR_call rfl rfl rfl rfl (zcallok_v (zc0) rfl rfl) (m_addRow hj2 hA hA5) ?_
          refine zR_rete rfl rfl ?_ ?_
          all_goals (first | contradiction | (simp only [zO, zHc, q_state, c1, c2, c3, c4, if_true, if_false, not_true_eq_false, not_false_eq_true, and_self, and_true, true_and, or_true, true_or, or_false, false_or, and_false, false_and, reduceCtorEq, Bool.false_eq_true, Bool.true_eq_false, ite_self, eq_self]; done) | (simp only [zO, zHc, q_state, c1, c2, c3, c4, if_true, if_false, not_true_eq_false, not_false_eq_true, and_self, and_true, true_and, or_true, true_or, or_false, false_or, and_false, false_and, reduceCtorEq, Bool.false_eq_true, Bool.true_eq_false, ite_self, eq_self]; done) | (simp only [zO, zHc, q_state, if_pos c1, if_pos c2, if_pos c3, if_pos c4]; done))
        · refine zR_s rfl ?_
          refine zR_s rfl ?_
          refine zR_cst (v := 5) rfl rfl rfl ?_
          refine zR_call rfl rfl rfl rfl (zcallok_v (zc0) rfl rfl) (m_takeAway hK hM hm) ?_
          refine zR_s rfl ?_
          refine zR_s rfl ?_
          refine zR_s rfl ?_
          refine zR_cst (v := 7) rfl rfl rfl ?_
          refine zR_s rfl ?_
          refine zR_call rfl rfl rfl rfl (zcallok_v (zc0) rfl rfl) (m_addRow hj2 hA hA5) ?_
          refine zR_rete rfl rfl ?_ ?_
          all_goals (first | contradiction | (simp only [zO, zHc, q_state, c1, c2, c3, c4, if_true, if_false, not_true_eq_false, not_false_eq_true, and_self, and_true, true_and, or_true, true_or, or_false, false_or, and_false, false_and, reduceCtorEq, Bool.false_eq_true, Bool.true_eq_false, ite_self, eq_self]; done) | (simp only [zO, zHc, q_state, c1, c2, c3, c4, if_true, if_false, not_true_eq_false, not_false_eq_true, and_self, and_true, true_and, or_true, true_or, or_false, false_or, and_false, false_and, reduceCtorEq, Bool.false_eq_true, Bool.true_eq_false, ite_self, eq_self]; done) | (simp only [zO, zHc, q_state, if_pos c1, if_pos c2, if_pos c3, if_pos c4]; done))
      · first | contradiction | (simp only [zO, zHc, q_state, c1, c2, c3, if_true, if_false, not_true_eq_false, not_false_eq_true, and_self, and_true, true_and, or_true, true_or, or_false, false_or, and_false, false_and, reduceCtorEq, Bool.false_eq_true, Bool.true_eq_false, ite_self, eq_self]; done) | (simp only [zO, zHc, q_state, c1, c2, c3, if_true, if_false, not_true_eq_false, not_false_eq_true, and_self, and_true, true_and, or_true, true_or, or_false, false_or, and_false, false_and, reduceCtorEq, Bool.false_eq_true, Bool.true_eq_false, ite_self, eq_self]; done) | (simp only [zO, zHc, q_state, if_pos c1, if_pos c2, if_pos c3, if_pos c4]; done)
    · refine zR_throwe (by omega) rfl rfl rfl ?_ ?_
      all_goals (first | contradiction | (simp only [zO, zHc, q_state, c1, c2, if_true, if_false, not_true_eq_false, not_false_eq_true, and_self, and_true, true_and, or_true, true_or, or_false, false_or, and_false, false_and, reduceCtorEq, Bool.false_eq_true, Bool.true_eq_false, ite_self, eq_self]; done) | (simp only [zO, zHc, q_state, c1, c2, if_true, if_false, not_true_eq_false, not_false_eq_true, and_self, and_true, true_and, or_true, true_or, or_false, false_or, and_false, false_and, reduceCtorEq, Bool.false_eq_true, Bool.true_eq_false, ite_self, eq_self]; done) | (simp only [zO, zHc, q_state, if_pos c1, if_pos c2, if_pos c3, if_pos c4]; done))
  · first | contradiction | (simp only [zO, zHc, q_state, c1, if_true, if_false, not_true_eq_false, not_false_eq_true, and_self, and_true, true_and, or_true, true_or, or_false, false_or, and_false, false_and, reduceCtorEq, Bool.false_eq_true, Bool.true_eq_false, ite_self, eq_self]; done) | (simp only [zO, zHc, q_state, c1, if_true, if_false, not_true_eq_false, not_false_eq_true, and_self, and_true, true_and, or_true, true_or, or_false, false_or, and_false, false_and, reduceCtorEq, Bool.false_eq_true, Bool.true_eq_false, ite_self, eq_self]; done) | (simp only [zO, zHc, q_state, if_pos c1, if_pos c2, if_pos c3, if_pos c4]; done)
def q_found (N : Nat → Int32) (F G : Nat → Nat → Int32) (K : Nat → Option Nat) (Z : Nat → Int64) (M A j : Nat) (p : Int32) : zQ :=
  if 0 ≤ p ∧ p ≤ 15 then if G j 5 = 4 then if N 4 + 1 ≤ 400 then if nI (zcnt (zqP G p) M) + 1 ≤ F 0 p.toNatClampNeg then .ok (none, upd N 4 (nI (A + 1)), zadd F A (nI j) 10 (N 3) p, updG (updG G j 5 (if G j 2 < N 3 then 3 else 1)) j 6 p, va_up K j none, Z) else .error 3 else .error 3 else .error 2 else .error 1
theorem c_found {j : Nat} {p : Int32}  (hK : zKb K) (hM : N 1 = nI M) (hm : M ≤ 64) (hA : N 4 = nI A) (hA4 : A ≤ 400) (hj : j < M) : zMe sL sx 10 32 [.ref 0, .int (nI j), .int p] (zCs N F G K Z ++ tl) (zO (q_found N F G K Z M A j p)) (zHc (zCs N F G K Z ++ tl) tl (q_found N F G K Z M A j p)) := by
  have hj2 : j < 64 := by omega
  show zR sL sx _ 32 0 [.ref 0, .int (nI j), .int p, .retAddr 0] [] _ _ _
  first | refine zR_s rfl ?_ | refine zR_alo rfl rfl rfl ?_
  refine zR_s rfl ?_
  refine zR_call rfl rfl rfl rfl (zcallok_v (zc0) rfl rfl) (m_unitOf hM hm hj) ?_
  first | refine zR_s rfl ?_ | refine zR_aso rfl rfl rfl ?_
  refine zR_s rfl ?_
  refine zR_callt rfl rfl rfl rfl (zcallok_s rfl) rfl (m_checkPlace (by decide)) (fun c1 => ?_) (fun c1 => ?_)
  · obtain ⟨p', hp, rfl, ep⟩ := zpl (n := 15) rfl (by decide) c1
    first | refine zR_s rfl ?_ | refine zR_alo rfl rfl rfl ?_
    first | refine zR_get rfl rfl (zc0) rfl ?_ | refine zR_get rfl rfl (zcU hj2) rfl ?_
    refine zR_cst (v := 4) rfl rfl rfl ?_
    refine zR_iceq rfl rfl (fun c2 => ?_) (fun c2 => ?_)
    · first | refine zR_s rfl ?_ | refine zR_alo rfl rfl rfl ?_
      refine zR_cst (v := 1) rfl rfl rfl ?_
      refine zR_callt rfl rfl rfl rfl (zcallok_v (zc0) rfl rfl) rfl (m_needRows (by decide)) (fun c3 => ?_) (fun c3 => ?_)
      · have hA5 := zroom1 hA hA4 c3
        first | refine zR_s rfl ?_ | refine zR_alo rfl rfl rfl ?_
        refine zR_s rfl ?_
        refine zR_cst (v := 1) rfl rfl rfl ?_
        refine zR_callt rfl rfl rfl rfl (zcallok_v (zc0) rfl rfl) rfl (m_needSpace hM hm (show p' < 16 by omega) (by decide)) (fun c4 => ?_) (fun c4 => ?_)
        · first | refine zR_s rfl ?_ | refine zR_alo rfl rfl rfl ?_
          first | refine zR_s rfl ?_ | refine zR_alo rfl rfl rfl ?_
          first | refine zR_s rfl ?_ | refine zR_alo rfl rfl rfl ?_
          first | refine zR_get rfl rfl (zc0) rfl ?_ | refine zR_get rfl rfl (zcU hj2) rfl ?_
          refine zR_call rfl rfl rfl rfl (zcallok_v (zcU hj2) rfl rfl) (m_isOver (zcU hj2)) ?_
          first | refine zR_df rfl rfl (fun c5 => ?_) (fun c5 => ?_) | refine zR_bf rfl rfl (fun c5 => ?_) (fun c5 => ?_) | refine zR_ifeq rfl rfl (fun c5 => ?_) (fun c5 => ?_)
          · refine zR_cst (v := 1) rfl rfl rfl ?_
            refine zR_s rfl ?_
            refine zR_nul rfl ?_
            refine zR_call rfl rfl rfl rfl (zcallok_v (zcU hj2) rfl rfl) (m_stand (c := none) hj2) ?_
            first | refine zR_s rfl ?_ | refine zR_alo rfl rfl rfl ?_
            first | refine zR_s rfl ?_ | refine zR_alo rfl rfl rfl ?_
            refine zR_cst (v := 10) rfl rfl rfl ?_
            refine zR_s rfl ?_
            refine zR_call rfl rfl rfl rfl (zcallok_v (zc0) rfl rfl) (m_addRow hj2 hA hA5) ?_
            refine zR_rete rfl rfl ?_ ?_
            all_goals (first | contradiction | (simp only [zO, zHc, q_found, ep, c1, c2, c3, c4, c5, if_true, if_false, not_true_eq_false, not_false_eq_true, and_self, and_true, true_and, or_true, true_or, or_false, false_or, and_false, false_and, reduceCtorEq, Bool.false_eq_true, Bool.true_eq_false, ite_self, eq_self]; done) | (simp only [zO, zHc, q_found, c1, c2, c3, c4, c5, if_true, if_false, not_true_eq_false, not_false_eq_true, and_self, and_true, true_and, or_true, true_or, or_false, false_or, and_false, false_and, reduceCtorEq, Bool.false_eq_true, Bool.true_eq_false, ite_self, eq_self]; done))
          · refine zR_cst (v := 3) rfl rfl rfl ?_
            refine zR_s rfl ?_
            refine zR_s rfl ?_
            refine zR_nul rfl ?_
            refine zR_call rfl rfl rfl rfl (zcallok_v (zcU hj2) rfl rfl) (m_stand (c := none) hj2) ?_
            first | refine zR_s rfl ?_ | refine zR_alo rfl rfl rfl ?_
            first | refine zR_s rfl ?_ | refine zR_alo rfl rfl rfl ?_
            refine zR_cst (v := 10) rfl rfl rfl ?_
            refine zR_s rfl ?_
            refine zR_call rfl rfl rfl rfl (zcallok_v (zc0) rfl rfl) (m_addRow hj2 hA hA5) ?_
            refine zR_rete rfl rfl ?_ ?_
            all_goals (first | contradiction | (simp only [zO, zHc, q_found, ep, c1, c2, c3, c4, c5, if_true, if_false, not_true_eq_false, not_false_eq_true, and_self, and_true, true_and, or_true, true_or, or_false, false_or, and_false, false_and, reduceCtorEq, Bool.false_eq_true, Bool.true_eq_false, ite_self, eq_self]; done) | (simp only [zO, zHc, q_found, c1, c2, c3, c4, c5, if_true, if_false, not_true_eq_false, not_false_eq_true, and_self, and_true, true_and, or_true, true_or, or_false, false_or, and_false, false_and, reduceCtorEq, Bool.false_eq_true, Bool.true_eq_false, ite_self, eq_self]; done))
        · first | contradiction | (simp only [zO, zHc, q_found, ep, c1, c2, c3, c4, if_true, if_false, not_true_eq_false, not_false_eq_true, and_self, and_true, true_and, or_true, true_or, or_false, false_or, and_false, false_and, reduceCtorEq, Bool.false_eq_true, Bool.true_eq_false, ite_self, eq_self]; done) | (simp only [zO, zHc, q_found, c1, c2, c3, c4, if_true, if_false, not_true_eq_false, not_false_eq_true, and_self, and_true, true_and, or_true, true_or, or_false, false_or, and_false, false_and, reduceCtorEq, Bool.false_eq_true, Bool.true_eq_false, ite_self, eq_self]; done)
      · first | contradiction | (simp only [zO, zHc, q_found, ep, c1, c2, c3, if_true, if_false, not_true_eq_false, not_false_eq_true, and_self, and_true, true_and, or_true, true_or, or_false, false_or, and_false, false_and, reduceCtorEq, Bool.false_eq_true, Bool.true_eq_false, ite_self, eq_self]; done) | (simp only [zO, zHc, q_found, c1, c2, c3, if_true, if_false, not_true_eq_false, not_false_eq_true, and_self, and_true, true_and, or_true, true_or, or_false, false_or, and_false, false_and, reduceCtorEq, Bool.false_eq_true, Bool.true_eq_false, ite_self, eq_self]; done)
    · refine zR_throwe (by omega) rfl rfl rfl ?_ ?_
      all_goals (first | contradiction | (simp only [zO, zHc, q_found, ep, c1, c2, if_true, if_false, not_true_eq_false, not_false_eq_true, and_self, and_true, true_and, or_true, true_or, or_false, false_or, and_false, false_and, reduceCtorEq, Bool.false_eq_true, Bool.true_eq_false, ite_self, eq_self]; done) | (simp only [zO, zHc, q_found, c1, c2, if_true, if_false, not_true_eq_false, not_false_eq_true, and_self, and_true, true_and, or_true, true_or, or_false, false_or, and_false, false_and, reduceCtorEq, Bool.false_eq_true, Bool.true_eq_false, ite_self, eq_self]; done))
  · first | contradiction | (simp only [zO, zHc, q_found, ep, c1, if_true, if_false, not_true_eq_false, not_false_eq_true, and_self, and_true, true_and, or_true, true_or, or_false, false_or, and_false, false_and, reduceCtorEq, Bool.false_eq_true, Bool.true_eq_false, ite_self, eq_self]; done) | (simp only [zO, zHc, q_found, c1, if_true, if_false, not_true_eq_false, not_false_eq_true, and_self, and_true, true_and, or_true, true_or, or_false, false_or, and_false, false_and, reduceCtorEq, Bool.false_eq_true, Bool.true_eq_false, ite_self, eq_self]; done)
def q_weigh (N : Nat → Int32) (F G : Nat → Nat → Int32) (K : Nat → Option Nat) (Z : Nat → Int64) (A j : Nat) (r : Int32) : zQ :=
  if 1 ≤ r ∧ r ≤ 100000000 then if zst (G j) = true then if N 4 + 1 ≤ 400 then .ok (some (.int (r - G j 4 * F 1 (G j 1).toNatClampNeg)), upd N 4 (nI (A + 1)), zadd F A (nI j) 11 (N 3) r, G, K, Z) else .error 3 else .error 2 else .error 1
theorem c_weigh {j : Nat} {r : Int32} {g : Nat}  (hK : zKb K) (hM : N 1 = nI M) (hm : M ≤ 64) (hA : N 4 = nI A) (hA4 : A ≤ 400) (hj : j < M) (hg : G j 1 = nI g) (hg2 : g < 8) : zMe sL sx 10 33 [.ref 0, .int (nI j), .int r] (zCs N F G K Z ++ tl) (zO (q_weigh N F G K Z A j r)) (zHc (zCs N F G K Z ++ tl) tl (q_weigh N F G K Z A j r)) := by
  have hj2 : j < 64 := by omega
  show zR sL sx _ 33 0 [.ref 0, .int (nI j), .int r, .retAddr 0] [] _ _ _
  have eg : (G j 1).toNatClampNeg = g := by rw [hg]; exact nI_clamp (by omega)
  refine zR_s rfl ?_
  refine zR_s rfl ?_
  refine zR_call rfl rfl rfl rfl (zcallok_v (zc0) rfl rfl) (m_unitOf hM hm hj) ?_
  refine zR_s rfl ?_
  refine zR_s rfl ?_
  refine zR_cst (v := 1) rfl rfl rfl ?_
  refine zR_ldc (v := 100000000) rfl rfl ?_
  refine zR_callt rfl rfl rfl rfl (zcallok_s rfl) rfl (m_checkRange (by decide)) (fun c1 => ?_) (fun c1 => ?_)
  · refine zR_s rfl ?_
    refine zR_callt rfl rfl rfl rfl (zcallok_s rfl) rfl (m_checkStands (zcU hj2) (by decide)) (fun c2 => ?_) (fun c2 => ?_)
    · refine zR_s rfl ?_
      refine zR_cst (v := 1) rfl rfl rfl ?_
      refine zR_callt rfl rfl rfl rfl (zcallok_v (zc0) rfl rfl) rfl (m_needRows (by decide)) (fun c3 => ?_) (fun c3 => ?_)
      · have hA5 := zroom1 hA hA4 c3
        refine zR_s rfl ?_
        refine zR_s rfl ?_
        refine zR_cst (v := 11) rfl rfl rfl ?_
        refine zR_s rfl ?_
        refine zR_call rfl rfl rfl rfl (zcallok_v (zc0) rfl rfl) (m_addRow hj2 hA hA5) ?_
        refine zR_s rfl ?_
        refine zR_s rfl ?_
        first | refine zR_get rfl rfl (zc0) rfl ?_ | refine zR_get rfl rfl (zcU hj2) rfl ?_
        refine zR_s rfl ?_
        refine zR_s rfl ?_
        first | refine zR_get rfl rfl (zc0) rfl ?_ | refine zR_get rfl rfl (zcU hj2) rfl ?_
        rw [hg]
        refine zR_call rfl rfl rfl rfl (zcallok_v (zc0) rfl rfl) (m_gramsOf hg2) ?_
        refine zR_imul rfl ?_
        refine zR_isub rfl ?_
        first | refine zR_rete rfl rfl ?_ ?_ | refine zR_retb rfl rfl ?_ ?_
        all_goals (first | contradiction | (simp only [zO, zHc, q_weigh, eg, c1, c2, c3, if_true, if_false, not_true_eq_false, not_false_eq_true, and_self, Bool.false_eq_true]; done) | (simp only [zO, zHc, q_weigh, eg, c1, c2, c3, if_true, if_false, not_true_eq_false, not_false_eq_true, and_self, Bool.false_eq_true]; rfl))
      · first | contradiction | (simp only [zO, zHc, q_weigh, eg, c1, c2, c3, if_true, if_false, not_true_eq_false, not_false_eq_true, and_self, Bool.false_eq_true]; done) | (simp only [zO, zHc, q_weigh, eg, c1, c2, c3, if_true, if_false, not_true_eq_false, not_false_eq_true, and_self, Bool.false_eq_true]; rfl)
    · first | contradiction | (simp only [zO, zHc, q_weigh, eg, c1, c2, if_true, if_false, not_true_eq_false, not_false_eq_true, and_self, Bool.false_eq_true]; done) | (simp only [zO, zHc, q_weigh, eg, c1, c2, if_true, if_false, not_true_eq_false, not_false_eq_true, and_self, Bool.false_eq_true]; rfl)
  · first | contradiction | (simp only [zO, zHc, q_weigh, eg, c1, if_true, if_false, not_true_eq_false, not_false_eq_true, and_self, Bool.false_eq_true]; done) | (simp only [zO, zHc, q_weigh, eg, c1, if_true, if_false, not_true_eq_false, not_false_eq_true, and_self, Bool.false_eq_true]; rfl)
def q_split (N : Nat → Int32) (F G : Nat → Nat → Int32) (K : Nat → Option Nat) (Z : Nat → Int64) (M A j : Nat) (n : Int32) : zQ :=
  if 1 ≤ n ∧ n ≤ G j 4 - 1 then if zst (G j) = true then if Z j = 0 ∧ zcnt (zqW K j) M = 0 then if N 4 + 2 ≤ 400 then if nI (zcnt (zqP G (G j 6)) M) + 1 ≤ F 0 (G j 6).toNatClampNeg then if ¬ N 2 ≤ N 1 ∧ M < 64 then
    let N1 := upd N 1 (nI (M + 1))
    let G1 := updG (updG (updG (updG (updG G M 0 (G j 0)) M 1 (G j 1)) M 2 (G j 2)) M 3 (G j 3)) M 4 n
    let G2 := updG (updG G1 M 5 (G1 j 5)) M 6 (G1 j 6)
    let G3 := updG G2 j 4 (G2 j 4 - n)
    .ok (some (.int (nI M)), upd (upd N1 4 (nI (A + 1))) 4 (nI (A + 1 + 1)), zadd (zadd F A (nI j) 5 (N1 3) (nI M)) (A + 1) (nI M) 1 (upd N1 4 (nI (A + 1)) 3) (G3 M 6), G3, va_up K M (K j), vp_updL Z M 0)
  else .error 3 else .error 3 else .error 3 else .error 2 else .error 2 else .error 1
theorem c_split {j : Nat} {n : Int32} {p : Nat}  (hK : zKb K) (hM : N 1 = nI M) (hm : M ≤ 64) (hA : N 4 = nI A) (hA4 : A ≤ 400) (hj : j < M) (hp : zst (G j) = true → G j 6 = nI p ∧ p < 16) : zMe sL sx 10 27 [.ref 0, .int (nI j), .int n] (zCs N F G K Z ++ tl) (zO (q_split N F G K Z M A j n)) (zHc (zCs N F G K Z ++ tl) tl (q_split N F G K Z M A j n)) := by
  have hj2 : j < 64 := by omega
  show zR sL sx _ 27 0 [.ref 0, .int (nI j), .int n, .retAddr 0, .retAddr 0] [] _ _ _
  first | refine zR_s rfl ?_ | refine zR_alo rfl rfl rfl ?_
  refine zR_s rfl ?_
  refine zR_call rfl rfl rfl rfl (zcallok_v (zc0) rfl rfl) (m_unitOf hM hm hj) ?_
  first | refine zR_s rfl ?_ | refine zR_aso rfl rfl rfl ?_
  refine zR_s rfl ?_
  refine zR_cst (v := 1) rfl rfl rfl ?_
  first | refine zR_s rfl ?_ | refine zR_alo rfl rfl rfl ?_
  first | refine zR_get rfl rfl (zc0) rfl ?_ | refine zR_get rfl rfl (zcU hj2) rfl ?_ | refine zR_get rfl rfl (zcU hM2) rfl ?_
  refine zR_cst (v := 1) rfl rfl rfl ?_
  refine zR_isub rfl ?_
  refine zR_callt rfl rfl rfl rfl (zcallok_s rfl) rfl (m_checkRange (by decide)) (fun c1 => ?_) (fun c1 => ?_)
  · first | refine zR_s rfl ?_ | refine zR_alo rfl rfl rfl ?_
    refine zR_callt rfl rfl rfl rfl (zcallok_s rfl) rfl (m_checkStands (zcU hj2) (by decide)) (fun c2 => ?_) (fun c2 => ?_)
    · have ep : (G j 6).toNatClampNeg = p := by { rw [(hp c2).1]; exact nI_clamp (by have := (hp c2).2; omega) }
      first | refine zR_s rfl ?_ | refine zR_alo rfl rfl rfl ?_
      first | refine zR_s rfl ?_ | refine zR_alo rfl rfl rfl ?_
      refine zR_call rfl rfl rfl rfl (zcallok_v (zc0) rfl rfl) (m_isPlain hK hM hm hj2) ?_
      first | refine zR_dt rfl rfl (fun c3 => ?_) (fun c3 => ?_) | refine zR_bt rfl rfl (fun c3 => ?_) (fun c3 => ?_) | refine zR_ifne rfl rfl (fun c3 => ?_) (fun c3 => ?_)
      · first | refine zR_s rfl ?_ | refine zR_alo rfl rfl rfl ?_
        refine zR_cst (v := 2) rfl rfl rfl ?_
        refine zR_callt rfl rfl rfl rfl (zcallok_v (zc0) rfl rfl) rfl (m_needRows (by decide)) (fun c4 => ?_) (fun c4 => ?_)
        · have hA5 := zroom2 hA hA4 c4
          first | refine zR_s rfl ?_ | refine zR_alo rfl rfl rfl ?_
          first | refine zR_s rfl ?_ | refine zR_alo rfl rfl rfl ?_
          first | refine zR_get rfl rfl (zc0) rfl ?_ | refine zR_get rfl rfl (zcU hj2) rfl ?_ | refine zR_get rfl rfl (zcU hM2) rfl ?_
          refine zR_cst (v := 1) rfl rfl rfl ?_
          rw [(hp c2).1]
          refine zR_callt rfl rfl rfl rfl (zcallok_v (zc0) rfl rfl) rfl (m_needSpace hM hm (hp c2).2 (by decide)) (fun c5 => ?_) (fun c5 => ?_)
          · rw [← (hp c2).1] at c5
            first | refine zR_s rfl ?_ | refine zR_alo rfl rfl rfl ?_
            refine zR_callt rfl rfl rfl rfl (zcallok_v (zc0) rfl rfl) rfl (m_nextUnit hM hm (by decide)) (fun c6 => ?_) (fun c6 => ?_)
            · have hM2 : M < 64 := c6.2
              first | refine zR_s rfl ?_ | refine zR_aso rfl rfl rfl ?_
              first | refine zR_s rfl ?_ | refine zR_alo rfl rfl rfl ?_
              first | refine zR_s rfl ?_ | refine zR_alo rfl rfl rfl ?_
              first | refine zR_get rfl rfl (zc0) rfl ?_ | refine zR_get rfl rfl (zcU hj2) rfl ?_ | refine zR_get rfl rfl (zcU hM2) rfl ?_
              first | refine zR_s rfl ?_ | refine zR_alo rfl rfl rfl ?_
              first | refine zR_get rfl rfl (zc0) rfl ?_ | refine zR_get rfl rfl (zcU hj2) rfl ?_ | refine zR_get rfl rfl (zcU hM2) rfl ?_
              first | refine zR_s rfl ?_ | refine zR_alo rfl rfl rfl ?_
              first | refine zR_get rfl rfl (zc0) rfl ?_ | refine zR_get rfl rfl (zcU hj2) rfl ?_ | refine zR_get rfl rfl (zcU hM2) rfl ?_
              first | refine zR_s rfl ?_ | refine zR_alo rfl rfl rfl ?_
              first | refine zR_get rfl rfl (zc0) rfl ?_ | refine zR_get rfl rfl (zcU hj2) rfl ?_ | refine zR_get rfl rfl (zcU hM2) rfl ?_
              refine zR_s rfl ?_
              refine zR_call rfl rfl rfl rfl (zcallok_v (zcU hM2) rfl rfl) (m_be hM2) ?_
              first | refine zR_s rfl ?_ | refine zR_alo rfl rfl rfl ?_
              first | refine zR_s rfl ?_ | refine zR_alo rfl rfl rfl ?_
              first | refine zR_get rfl rfl (zc0) rfl ?_ | refine zR_get rfl rfl (zcU hj2) rfl ?_ | refine zR_get rfl rfl (zcU hM2) rfl ?_
              first | refine zR_s rfl ?_ | refine zR_alo rfl rfl rfl ?_
              first | refine zR_get rfl rfl (zc0) rfl ?_ | refine zR_get rfl rfl (zcU hj2) rfl ?_ | refine zR_get rfl rfl (zcU hM2) rfl ?_
              first | refine zR_s rfl ?_ | refine zR_alo rfl rfl rfl ?_
              first | refine zR_get rfl rfl (zc0) rfl ?_ | refine zR_get rfl rfl (zcU hj2) rfl ?_ | refine zR_get rfl rfl (zcU hM2) rfl ?_
              refine zR_call rfl rfl rfl rfl (zcallok_v (zcU hM2) rfl (by cases (K j) <;> rfl)) (m_stand (c := K j) hM2) ?_
              first | refine zR_s rfl ?_ | refine zR_alo rfl rfl rfl ?_
              refine zR_s rfl ?_
              first | refine zR_get rfl rfl (zc0) rfl ?_ | refine zR_get rfl rfl (zcU hj2) rfl ?_ | refine zR_get rfl rfl (zcU hM2) rfl ?_
              refine zR_s rfl ?_
              refine zR_isub rfl ?_
              refine zR_putG rfl rfl hj2 (by decide) rfl ?_
              first | refine zR_s rfl ?_ | refine zR_alo rfl rfl rfl ?_
              first | refine zR_s rfl ?_ | refine zR_alo rfl rfl rfl ?_
              refine zR_cst (v := 5) rfl rfl rfl ?_
              first | refine zR_s rfl ?_ | refine zR_alo rfl rfl rfl ?_
              first | refine zR_get rfl rfl (zc0) rfl ?_ | refine zR_get rfl rfl (zcU hj2) rfl ?_ | refine zR_get rfl rfl (zcU hM2) rfl ?_
              first | refine zR_call rfl rfl rfl rfl (zcallok_v (zc0) rfl rfl) (m_addRow hj2 (show _ = nI A from hA) (show A < 400 by omega)) ?_ | refine zR_call rfl rfl rfl rfl (zcallok_v (zc0) rfl rfl) (m_addRow hM2 (show _ = nI (A + 1) from rfl) hA5) ?_
              first | refine zR_s rfl ?_ | refine zR_alo rfl rfl rfl ?_
              first | refine zR_s rfl ?_ | refine zR_alo rfl rfl rfl ?_
              refine zR_cst (v := 1) rfl rfl rfl ?_
              first | refine zR_s rfl ?_ | refine zR_alo rfl rfl rfl ?_
              first | refine zR_get rfl rfl (zc0) rfl ?_ | refine zR_get rfl rfl (zcU hj2) rfl ?_ | refine zR_get rfl rfl (zcU hM2) rfl ?_
              first | refine zR_call rfl rfl rfl rfl (zcallok_v (zc0) rfl rfl) (m_addRow hj2 (show _ = nI A from hA) (show A < 400 by omega)) ?_ | refine zR_call rfl rfl rfl rfl (zcallok_v (zc0) rfl rfl) (m_addRow hM2 (show _ = nI (A + 1) from rfl) hA5) ?_
              first | refine zR_s rfl ?_ | refine zR_alo rfl rfl rfl ?_
              first | refine zR_get rfl rfl (zc0) rfl ?_ | refine zR_get rfl rfl (zcU hj2) rfl ?_ | refine zR_get rfl rfl (zcU hM2) rfl ?_
              first | refine zR_rete rfl rfl ?_ ?_ | refine zR_retb rfl rfl ?_ ?_
              all_goals (first | contradiction | (simp only [zO, zHc, q_split, ep, c1, c2, c3, c4, c5, c6, if_true, if_false, not_true_eq_false, not_false_eq_true, and_self, Bool.false_eq_true]; done) | (rw [← (hp c2).1] at c5; simp only [zO, zHc, q_split, ep, c1, c2, c3, c4, c5, c6, if_true, if_false, not_true_eq_false, not_false_eq_true, and_self, Bool.false_eq_true]; done) | (simp only [zO, zHc, q_split, c1, c2, c3, c4, c5, c6, if_true, if_false, not_true_eq_false, not_false_eq_true, and_self, Bool.false_eq_true]; done))
            · first | contradiction | (simp only [zO, zHc, q_split, ep, c1, c2, c3, c4, c5, c6, if_true, if_false, not_true_eq_false, not_false_eq_true, and_self, Bool.false_eq_true]; done) | (rw [← (hp c2).1] at c5; simp only [zO, zHc, q_split, ep, c1, c2, c3, c4, c5, c6, if_true, if_false, not_true_eq_false, not_false_eq_true, and_self, Bool.false_eq_true]; done) | (simp only [zO, zHc, q_split, c1, c2, c3, c4, c5, c6, if_true, if_false, not_true_eq_false, not_false_eq_true, and_self, Bool.false_eq_true]; done)
          · first | contradiction | (simp only [zO, zHc, q_split, ep, c1, c2, c3, c4, c5, if_true, if_false, not_true_eq_false, not_false_eq_true, and_self, Bool.false_eq_true]; done) | (rw [← (hp c2).1] at c5; simp only [zO, zHc, q_split, ep, c1, c2, c3, c4, c5, if_true, if_false, not_true_eq_false, not_false_eq_true, and_self, Bool.false_eq_true]; done) | (simp only [zO, zHc, q_split, c1, c2, c3, c4, c5, if_true, if_false, not_true_eq_false, not_false_eq_true, and_self, Bool.false_eq_true]; done)
        · first | contradiction | (simp only [zO, zHc, q_split, ep, c1, c2, c3, c4, if_true, if_false, not_true_eq_false, not_false_eq_true, and_self, Bool.false_eq_true]; done) | (rw [← (hp c2).1] at c5; simp only [zO, zHc, q_split, ep, c1, c2, c3, c4, if_true, if_false, not_true_eq_false, not_false_eq_true, and_self, Bool.false_eq_true]; done) | (simp only [zO, zHc, q_split, c1, c2, c3, c4, if_true, if_false, not_true_eq_false, not_false_eq_true, and_self, Bool.false_eq_true]; done)
      · refine zR_throwe (by omega) rfl rfl rfl ?_ ?_
        all_goals (first | contradiction | (simp only [zO, zHc, q_split, ep, c1, c2, c3, if_true, if_false, not_true_eq_false, not_false_eq_true, and_self, Bool.false_eq_true]; done) | (rw [← (hp c2).1] at c5; simp only [zO, zHc, q_split, ep, c1, c2, c3, if_true, if_false, not_true_eq_false, not_false_eq_true, and_self, Bool.false_eq_true]; done) | (simp only [zO, zHc, q_split, c1, c2, c3, if_true, if_false, not_true_eq_false, not_false_eq_true, and_self, Bool.false_eq_true]; done))
    · first | contradiction | (simp only [zO, zHc, q_split, ep, c1, c2, if_true, if_false, not_true_eq_false, not_false_eq_true, and_self, Bool.false_eq_true]; done) | (rw [← (hp c2).1] at c5; simp only [zO, zHc, q_split, ep, c1, c2, if_true, if_false, not_true_eq_false, not_false_eq_true, and_self, Bool.false_eq_true]; done) | (simp only [zO, zHc, q_split, c1, c2, if_true, if_false, not_true_eq_false, not_false_eq_true, and_self, Bool.false_eq_true]; done)
  · first | contradiction | (simp only [zO, zHc, q_split, ep, c1, if_true, if_false, not_true_eq_false, not_false_eq_true, and_self, Bool.false_eq_true]; done) | (rw [← (hp c2).1] at c5; simp only [zO, zHc, q_split, ep, c1, if_true, if_false, not_true_eq_false, not_false_eq_true, and_self, Bool.false_eq_true]; done) | (simp only [zO, zHc, q_split, c1, if_true, if_false, not_true_eq_false, not_false_eq_true, and_self, Bool.false_eq_true]; done)
def q_join (N : Nat → Int32) (F G : Nat → Nat → Int32) (K : Nat → Option Nat) (Z : Nat → Int64) (M A j w : Nat) : zQ :=
  if ¬ j = w ∧ zst (G j) = true ∧ zst (G w) = true ∧ (G j 0 = G w 0 ∧ G j 3 = G w 3 ∧ G j 5 = G w 5 ∧ G j 6 = G w 6 ∧ K j = K w) ∧ (Z j = 0 ∧ zcnt (zqW K j) M = 0) ∧ (Z w = 0 ∧ zcnt (zqW K w) M = 0) ∧ G j 4 + G w 4 ≤ 1000 then if N 4 + 2 ≤ 400 then
    let G1 := updG G j 4 (G j 4 + G w 4)
    .ok (none, upd (upd N 4 (nI (A + 1))) 4 (nI (A + 1 + 1)), zadd (zadd F A (nI j) 6 (N 3) (nI w)) (A + 1) (nI w) 6 (upd N 4 (nI (A + 1)) 3) (nI j), ztak G1 K w 5 M, zKn (ztak G1 K w 5 M) K M, Z)
  else .error 3 else .error 2
theorem c_join {j : Nat} {w : Nat}  (hK : zKb K) (hM : N 1 = nI M) (hm : M ≤ 64) (hA : N 4 = nI A) (hA4 : A ≤ 400) (hj : j < M) (hw : w < M) : zMe sL sx 10 28 [.ref 0, .int (nI j), .int (nI w)] (zCs N F G K Z ++ tl) (zO (q_join N F G K Z M A j w)) (zHc (zCs N F G K Z ++ tl) tl (q_join N F G K Z M A j w)) := by
  have hj2 : j < 64 := by omega
  show zR sL sx _ 28 0 [.ref 0, .int (nI j), .int (nI w), .retAddr 0, .retAddr 0] [] _ _ _
  have hw2 : w < 64 := by omega
  refine zR_s rfl ?_
  refine zR_s rfl ?_
  first | refine zR_call rfl rfl rfl rfl (zcallok_v (zc0) rfl rfl) (m_unitOf hM hm hj) ?_ | refine zR_call rfl rfl rfl rfl (zcallok_v (zc0) rfl rfl) (m_unitOf hM hm hw) ?_
  refine zR_s rfl ?_
  refine zR_s rfl ?_
  refine zR_s rfl ?_
  first | refine zR_call rfl rfl rfl rfl (zcallok_v (zc0) rfl rfl) (m_unitOf hM hm hj) ?_ | refine zR_call rfl rfl rfl rfl (zcallok_v (zc0) rfl rfl) (m_unitOf hM hm hw) ?_
  refine zR_s rfl ?_
  refine zR_s rfl ?_
  refine zR_s rfl ?_
  refine zR_s rfl ?_
  refine zR_call rfl rfl rfl rfl (zcallok_v (zc0) rfl rfl) (m_canJoin hK hM hm hj2 hw2) ?_
  first | refine zR_dt rfl rfl (fun c1 => ?_) (fun c1 => ?_) | refine zR_bt rfl rfl (fun c1 => ?_) (fun c1 => ?_) | refine zR_ifne rfl rfl (fun c1 => ?_) (fun c1 => ?_)
  · refine zR_s rfl ?_
    refine zR_cst (v := 2) rfl rfl rfl ?_
    refine zR_callt rfl rfl rfl rfl (zcallok_v (zc0) rfl rfl) rfl (m_needRows (by decide)) (fun c2 => ?_) (fun c2 => ?_)
    · have hA5 := zroom2 hA hA4 c2
      refine zR_s rfl ?_
      refine zR_s rfl ?_
      first | refine zR_get rfl rfl (zc0) rfl ?_ | refine zR_get rfl rfl (zcU hj2) rfl ?_ | refine zR_get rfl rfl (zcU hw2) rfl ?_
      refine zR_s rfl ?_
      first | refine zR_get rfl rfl (zc0) rfl ?_ | refine zR_get rfl rfl (zcU hj2) rfl ?_ | refine zR_get rfl rfl (zcU hw2) rfl ?_
      refine zR_iadd rfl ?_
      refine zR_putG rfl rfl hj2 (by decide) rfl ?_
      refine zR_s rfl ?_
      refine zR_s rfl ?_
      refine zR_cst (v := 5) rfl rfl rfl ?_
      refine zR_call rfl rfl rfl rfl (zcallok_v (zc0) rfl rfl) (m_takeAway hK hM hm) ?_
      refine zR_s rfl ?_
      refine zR_s rfl ?_
      refine zR_cst (v := 6) rfl rfl rfl ?_
      refine zR_s rfl ?_
      first | refine zR_get rfl rfl (zc0) rfl ?_ | refine zR_get rfl rfl (zcU hj2) rfl ?_ | refine zR_get rfl rfl (zcU hw2) rfl ?_
      first | refine zR_call rfl rfl rfl rfl (zcallok_v (zc0) rfl rfl) (m_addRow hj2 hA (show A < 400 by omega)) ?_ | refine zR_call rfl rfl rfl rfl (zcallok_v (zc0) rfl rfl) (m_addRow hw2 (show _ = nI (A + 1) from rfl) hA5) ?_
      refine zR_s rfl ?_
      refine zR_s rfl ?_
      refine zR_cst (v := 6) rfl rfl rfl ?_
      refine zR_s rfl ?_
      first | refine zR_get rfl rfl (zc0) rfl ?_ | refine zR_get rfl rfl (zcU hj2) rfl ?_ | refine zR_get rfl rfl (zcU hw2) rfl ?_
      first | refine zR_call rfl rfl rfl rfl (zcallok_v (zc0) rfl rfl) (m_addRow hj2 hA (show A < 400 by omega)) ?_ | refine zR_call rfl rfl rfl rfl (zcallok_v (zc0) rfl rfl) (m_addRow hw2 (show _ = nI (A + 1) from rfl) hA5) ?_
      refine zR_rete rfl rfl ?_ ?_
      all_goals (first | contradiction | (simp only [zO, zHc, q_join, if_pos c1, if_pos c2]; done) | (simp only [zO, zHc, q_join, if_pos c1, if_neg c2, and_self]; done) | (simp only [zO, zHc, q_join, if_neg c1]; done))
    · first | contradiction | (simp only [zO, zHc, q_join, if_pos c1, if_pos c2]; done) | (simp only [zO, zHc, q_join, if_pos c1, if_neg c2, and_self]; done) | (simp only [zO, zHc, q_join, if_neg c1]; done)
  · refine zR_throwe (by omega) rfl rfl rfl ?_ ?_
    all_goals (first | contradiction | (simp only [zO, zHc, q_join, if_pos c1, if_pos c2]; done) | (simp only [zO, zHc, q_join, if_pos c1, if_neg c2, and_self]; done) | (simp only [zO, zHc, q_join, if_neg c1]; done))
noncomputable def q_serial (N : Nat → Int32) (F G : Nat → Nat → Int32) (K : Nat → Option Nat) (Z : Nat → Int64) (M A j : Nat) (n : Int64) : zQ :=
  if 1 ≤ n ∧ n ≤ 9999999999 then if zst (G j) = true then if G j 4 ≤ 1 ∧ Z j = 0 ∧ @decide (∃ i, i < M ∧ Z i = n ∧ ¬ G i 5 = 5) (Classical.propDecidable _) = false then if N 4 + 1 ≤ 400 then .ok (none, upd N 4 (nI (A + 1)), zadd F A (nI j) 8 (N 3) 0, G, K, vp_updL Z j n) else .error 3 else .error 2 else .error 2 else .error 1
theorem c_serial {j : Nat} {n : Int64}  (hK : zKb K) (hM : N 1 = nI M) (hm : M ≤ 64) (hA : N 4 = nI A) (hA4 : A ≤ 400) (hj : j < M) : zMe sL sx 10 30 [.ref 0, .int (nI j), .long n] (zCs N F G K Z ++ tl) (zO (q_serial N F G K Z M A j n)) (zHc (zCs N F G K Z ++ tl) tl (q_serial N F G K Z M A j n)) := by
  have hj2 : j < 64 := by omega
  show zR sL sx _ 30 0 [.ref 0, .int (nI j), .long n, .retAddr 0, .retAddr 0] [] _ _ _
  refine zR_s rfl ?_
  refine zR_s rfl ?_
  refine zR_call rfl rfl rfl rfl (zcallok_v (zc0) rfl rfl) (m_unitOf hM hm hj) ?_
  refine zR_s rfl ?_
  refine zR_s rfl ?_
  refine zR_lc (v := 1) rfl rfl ?_
  refine zR_s rfl ?_
  refine zR_llt rfl rfl (fun c1 => ?_) (fun c1 => ?_)
  · refine zR_throwe (by omega) rfl rfl rfl ?_ ?_
    all_goals (first | contradiction | (simp only [zO, zHc, q_serial, decide_true, decide_false, Bool.true_eq_false, Bool.false_eq_true, not_exists, c1, if_true, if_false, not_true_eq_false, not_false_eq_true, and_self, and_true, true_and, or_true, true_or, or_false, false_or, and_false, false_and, reduceCtorEq, Bool.false_eq_true, Bool.true_eq_false, ite_self, eq_self]; done) | (simp only [zO, zHc, q_serial, c1, if_true, if_false, not_true_eq_false, not_false_eq_true, and_self, and_true, true_and, or_true, true_or, or_false, false_or, and_false, false_and, reduceCtorEq, Bool.false_eq_true, Bool.true_eq_false, ite_self, eq_self]; done))
  · refine zR_s rfl ?_
    refine zR_ldc2 (v := 9999999999) rfl rfl ?_
    refine zR_s rfl ?_
    refine zR_lle rfl rfl (fun c2 => ?_) (fun c2 => ?_)
    · refine zR_s rfl ?_
      refine zR_callt rfl rfl rfl rfl (zcallok_s rfl) rfl (m_checkStands (zcU hj2) (by decide)) (fun c3 => ?_) (fun c3 => ?_)
      · refine zR_s rfl ?_
        first | refine zR_get rfl rfl (zc0) rfl ?_ | refine zR_get rfl rfl (zcU hj2) rfl ?_
        refine zR_cst (v := 1) rfl rfl rfl ?_
        refine zR_mgt rfl rfl (fun c4 => ?_) (fun c4 => ?_)
        · refine zR_throwe (by omega) rfl rfl rfl ?_ ?_
          all_goals (first | contradiction | (simp only [zO, zHc, q_serial, decide_true, decide_false, Bool.true_eq_false, Bool.false_eq_true, not_exists, c1, c2, c3, c4, if_true, if_false, not_true_eq_false, not_false_eq_true, and_self, and_true, true_and, or_true, true_or, or_false, false_or, and_false, false_and, reduceCtorEq, Bool.false_eq_true, Bool.true_eq_false, ite_self, eq_self]; done) | (simp only [zO, zHc, q_serial, c1, c2, c3, c4, if_true, if_false, not_true_eq_false, not_false_eq_true, and_self, and_true, true_and, or_true, true_or, or_false, false_or, and_false, false_and, reduceCtorEq, Bool.false_eq_true, Bool.true_eq_false, ite_self, eq_self]; done))
        · refine zR_s rfl ?_
          first | refine zR_get rfl rfl (zc0) rfl ?_ | refine zR_get rfl rfl (zcU hj2) rfl ?_
          refine zR_lc (v := 0) rfl rfl ?_
          refine zR_s rfl ?_
          first | refine zR_dt rfl rfl (fun c5 => ?_) (fun c5 => ?_) | refine zR_bt rfl rfl (fun c5 => ?_) (fun c5 => ?_) | refine zR_lne rfl rfl (fun c5 => ?_) (fun c5 => ?_)
          · refine zR_throwe (by omega) rfl rfl rfl ?_ ?_
            all_goals (first | contradiction | (simp only [zO, zHc, q_serial, decide_true, decide_false, Bool.true_eq_false, Bool.false_eq_true, not_exists, c1, c2, c3, c4, c5, if_true, if_false, not_true_eq_false, not_false_eq_true, and_self, and_true, true_and, or_true, true_or, or_false, false_or, and_false, false_and, reduceCtorEq, Bool.false_eq_true, Bool.true_eq_false, ite_self, eq_self]; done) | (simp only [zO, zHc, q_serial, c1, c2, c3, c4, c5, if_true, if_false, not_true_eq_false, not_false_eq_true, and_self, and_true, true_and, or_true, true_or, or_false, false_or, and_false, false_and, reduceCtorEq, Bool.false_eq_true, Bool.true_eq_false, ite_self, eq_self]; done))
          · refine zR_s rfl ?_
            refine zR_s rfl ?_
            refine zR_call rfl rfl rfl rfl (zcallok_v (zc0) rfl rfl) (m_isSerialInUse hM hm) ?_
            first | refine zR_df rfl rfl (fun c6 => ?_) (fun c6 => ?_) | refine zR_bf rfl rfl (fun c6 => ?_) (fun c6 => ?_) | refine zR_ifeq rfl rfl (fun c6 => ?_) (fun c6 => ?_)
            · refine zR_s rfl ?_
              refine zR_cst (v := 1) rfl rfl rfl ?_
              refine zR_callt rfl rfl rfl rfl (zcallok_v (zc0) rfl rfl) rfl (m_needRows (by decide)) (fun c7 => ?_) (fun c7 => ?_)
              · have hA5 := zroom1 hA hA4 c7
                refine zR_s rfl ?_
                refine zR_s rfl ?_
                refine zR_putZ rfl rfl hj2 rfl ?_
                refine zR_s rfl ?_
                refine zR_s rfl ?_
                refine zR_cst (v := 8) rfl rfl rfl ?_
                refine zR_cst (v := 0) rfl rfl rfl ?_
                refine zR_call rfl rfl rfl rfl (zcallok_v (zc0) rfl rfl) (m_addRow hj2 hA hA5) ?_
                refine zR_rete rfl rfl ?_ ?_
                all_goals (first | contradiction | (simp only [zO, zHc, q_serial, decide_true, decide_false, Bool.true_eq_false, Bool.false_eq_true, not_exists, c1, c2, c3, c4, c5, c6, c7, if_true, if_false, not_true_eq_false, not_false_eq_true, and_self, and_true, true_and, or_true, true_or, or_false, false_or, and_false, false_and, reduceCtorEq, Bool.false_eq_true, Bool.true_eq_false, ite_self, eq_self]; done) | (simp only [zO, zHc, q_serial, c1, c2, c3, c4, c5, c6, c7, if_true, if_false, not_true_eq_false, not_false_eq_true, and_self, and_true, true_and, or_true, true_or, or_false, false_or, and_false, false_and, reduceCtorEq, Bool.false_eq_true, Bool.true_eq_false, ite_self, eq_self]; done))
              · first | contradiction | (simp only [zO, zHc, q_serial, decide_true, decide_false, Bool.true_eq_false, Bool.false_eq_true, not_exists, c1, c2, c3, c4, c5, c6, c7, if_true, if_false, not_true_eq_false, not_false_eq_true, and_self, and_true, true_and, or_true, true_or, or_false, false_or, and_false, false_and, reduceCtorEq, Bool.false_eq_true, Bool.true_eq_false, ite_self, eq_self]; done) | (simp only [zO, zHc, q_serial, c1, c2, c3, c4, c5, c6, c7, if_true, if_false, not_true_eq_false, not_false_eq_true, and_self, and_true, true_and, or_true, true_or, or_false, false_or, and_false, false_and, reduceCtorEq, Bool.false_eq_true, Bool.true_eq_false, ite_self, eq_self]; done)
            · refine zR_throwe (by omega) rfl rfl rfl ?_ ?_
              all_goals (first | contradiction | (simp only [zO, zHc, q_serial, decide_true, decide_false, Bool.true_eq_false, Bool.false_eq_true, not_exists, c1, c2, c3, c4, c5, c6, if_true, if_false, not_true_eq_false, not_false_eq_true, and_self, and_true, true_and, or_true, true_or, or_false, false_or, and_false, false_and, reduceCtorEq, Bool.false_eq_true, Bool.true_eq_false, ite_self, eq_self]; done) | (simp only [zO, zHc, q_serial, c1, c2, c3, c4, c5, c6, if_true, if_false, not_true_eq_false, not_false_eq_true, and_self, and_true, true_and, or_true, true_or, or_false, false_or, and_false, false_and, reduceCtorEq, Bool.false_eq_true, Bool.true_eq_false, ite_self, eq_self]; done))
      · first | contradiction | (simp only [zO, zHc, q_serial, decide_true, decide_false, Bool.true_eq_false, Bool.false_eq_true, not_exists, c1, c2, c3, if_true, if_false, not_true_eq_false, not_false_eq_true, and_self, and_true, true_and, or_true, true_or, or_false, false_or, and_false, false_and, reduceCtorEq, Bool.false_eq_true, Bool.true_eq_false, ite_self, eq_self]; done) | (simp only [zO, zHc, q_serial, c1, c2, c3, if_true, if_false, not_true_eq_false, not_false_eq_true, and_self, and_true, true_and, or_true, true_or, or_false, false_or, and_false, false_and, reduceCtorEq, Bool.false_eq_true, Bool.true_eq_false, ite_self, eq_self]; done)
    · refine zR_throwe (by omega) rfl rfl rfl ?_ ?_
      all_goals (first | contradiction | (simp only [zO, zHc, q_serial, decide_true, decide_false, Bool.true_eq_false, Bool.false_eq_true, not_exists, c1, c2, if_true, if_false, not_true_eq_false, not_false_eq_true, and_self, and_true, true_and, or_true, true_or, or_false, false_or, and_false, false_and, reduceCtorEq, Bool.false_eq_true, Bool.true_eq_false, ite_self, eq_self]; done) | (simp only [zO, zHc, q_serial, c1, c2, if_true, if_false, not_true_eq_false, not_false_eq_true, and_self, and_true, true_and, or_true, true_or, or_false, false_or, and_false, false_and, reduceCtorEq, Bool.false_eq_true, Bool.true_eq_false, ite_self, eq_self]; done))
end ZAD
