/-! the class's reads, and the day -/
/-- the first place below n that p holds at and that comes as the w-th -/
def zfst (p : Nat → Bool) (w : Int32) : Nat → Option Nat
  | 0 => none
  | n + 1 => match zfst p w n with
    | some r => some r
    | none => bif p n && decide (nI (zcnt p n) = w) then some n else none
theorem zfst_f {p : Nat → Bool} {w : Int32} {j : Nat} (h : zfst p w j = none) (e : p j = false) : zfst p w (j + 1) = none := by simp [zfst, h, e]
theorem zfst_n {p : Nat → Bool} {w : Int32} {j : Nat} (h : zfst p w j = none) (e : ¬ nI (zcnt p j) = w) : zfst p w (j + 1) = none := by simp [zfst, h, e]
theorem zfst_up {p : Nat → Bool} {w : Int32} {j r : Nat} (h : zfst p w j = some r) : ∀ M, j ≤ M → zfst p w M = some r := by
  intro M hM
  induction M with
  | zero => have : j = 0 := by omega
            subst this; exact h
  | succ m ih =>
    by_cases e : j = m + 1
    · subst e; exact h
    · simp [zfst, ih (by omega)]
theorem zfst_t {p : Nat → Bool} {w : Int32} {j M : Nat} (h : zfst p w j = none) (e : p j = true) (q : nI (zcnt p j) = w) (hj : j < M) : zfst p w M = some j := zfst_up (j := j + 1) (by simp [zfst, h, e, q]) M (by omega)
theorem zfst_lt {p : Nat → Bool} {w : Int32} : ∀ {n r : Nat}, zfst p w n = some r → r < n ∧ p r = true ∧ nI (zcnt p r) = w := by
  intro n
  induction n with
  | zero => intro r h; simp [zfst] at h
  | succ n ih =>
    intro r h
    simp only [zfst] at h
    cases hq : zfst p w n with
    | some r2 => rw [hq] at h; have := ih hq; cases h; exact ⟨by omega, this.2⟩
    | none =>
      rw [hq] at h
      simp only at h
      cases hb : (p n && decide (nI (zcnt p n) = w)) with
      | false => rw [hb] at h; simp at h
      | true =>
        rw [hb] at h
        simp at h
        subst h
        simp at hb
        exact ⟨by omega, hb⟩
def zsk : Option Nat → Int32
  | some r => nI r
  | none => -1
/-- the unit that a loop looked at last -/
def zlu : Nat → Value
  | 0 => .retAddr 0
  | n + 1 => .ref (n + 11)
/-- the sum of f below n over p -/
def zsm (p : Nat → Bool) (f : Nat → Int64) : Nat → Int64
  | 0 => 0
  | n + 1 => bif p n then zsm p f n + f n else zsm p f n
theorem zswc (w : Int32) (n : Nat) (hn : n < 1000) : (w.toInt < 0 ∨ (n : Int) < w.toInt) ∨ ∃ k, k ≤ n ∧ w = nI k := by
  by_cases q : w.toInt < 0 ∨ (n : Int) < w.toInt
  · exact Or.inl q
  · right
    obtain ⟨k, hk, e⟩ := nI_of (x := w) (by rw [Int32.lt_iff_toInt_lt]; simp; omega)
    subst e
    rw [nI_toInt hk] at q
    exact ⟨k, by omega, rfl⟩
section ZAE
variable {sL : Nat} {sx : Nat → Int32} {N : Nat → Int32} {F G : Nat → Nat → Int32} {K : Nat → Option Nat} {Z : Nat → Int64} {tl : zH} {M A l i u d : Nat}
def zqA (G : Nat → Nat → Int32) (K : Nat → Option Nat) (p : Int32) : Nat → Bool := fun k => decide (G k 6 = p) && decide (K k = none)
theorem zqA_f1 {p : Int32} {j : Nat} (h : ¬ G j 6 = p) : zqA G K p j = false := by simp [zqA, h]
theorem zqA_f2 {p : Int32} {j : Nat} (h : ¬ K j = none) : zqA G K p j = false := by simp [zqA, h]
theorem zqA_t {p : Int32} {j : Nat} (h1 : G j 6 = p) (h2 : K j = none) : zqA G K p j = true := by simp [zqA, h1, h2]
def q_at (N : Nat → Int32) (F G : Nat → Nat → Int32) (K : Nat → Option Nat) (Z : Nat → Int64) (M : Nat) (p i : Int32) : zQ :=
  if 0 ≤ p ∧ p ≤ 15 then match zfst (zqA G K p) i M with
    | some r => .ok (some (.int (nI r)), N, F, G, K, Z)
    | none => .error 5
  else .error 1
theorem c_at {p i : Int32} (hM : N 1 = nI M) (hm : M ≤ 64) : zMe sL sx 10 35 [.ref 0, .int p, .int i] (zCs N F G K Z ++ tl) (zO (q_at N F G K Z M p i)) (zHc (zCs N F G K Z ++ tl) tl (q_at N F G K Z M p i)) := by
  show zR sL sx _ 35 0 [.ref 0, .int p, .int i, .retAddr 0, .retAddr 0, .retAddr 0] [] _ _ _
  have lp : 0 ≤ p ∧ p ≤ 15 → zR sL sx 10 35 9 [.ref 0, .int p, .int i, .int 0, .int 0, .retAddr 0] [] (zCs N F G K Z ++ tl) (zO (q_at N F G K Z M p i)) (zHc (zCs N F G K Z ++ tl) tl (q_at N F G K Z M p i)) := by
    intro c0
    refine zR_loop0 (M := M) (fun j => [.ref 0, .int p, .int i, .int (nI (zcnt (zqA G K p) j)), .int (nI j), zlu j]) (fun _ => zCs N F G K Z ++ tl) (fun j => zfst (zqA G K p) i j = none) rfl rfl rfl (fun hI => ?_) (fun j hj hI ih => ?_)
    · refine zR_s rfl ?_
      refine zR_s rfl ?_
      refine zR_get rfl rfl (zc0) rfl ?_
      refine zR_icge rfl rfl (fun _ => ?_) (fun c => by first | exact absurd ((by rw [hM]; exact Int32.le_refl _)) c | exact absurd c ((by rw [hM]; exact Int32.le_refl _)))
      refine zR_throwe (by omega) rfl rfl rfl ?_ ?_
      all_goals (simp only [zO, zHc, q_at, if_pos c0, hI])
    · refine zR_s rfl ?_
      refine zR_s rfl ?_
      first | refine zR_get rfl rfl (zc0) rfl ?_ | refine zR_get rfl rfl (zcU (show j < 64 by omega)) rfl ?_
      refine zR_icge rfl rfl (fun c => by first | exact absurd c ((by rw [hM]; exact nI_ge hj (by omega))) | exact absurd ((by rw [hM]; exact nI_ge hj (by omega))) c) (fun _ => ?_)
      refine zR_s rfl ?_
      first | refine zR_get rfl rfl (zc0) rfl ?_ | refine zR_get rfl rfl (zcU (show j < 64 by omega)) rfl ?_
      refine zR_s rfl ?_
      refine zR_aldU rfl (by omega) ?_
      refine zR_s rfl ?_
      refine zR_s rfl ?_
      first | refine zR_get rfl rfl (zc0) rfl ?_ | refine zR_get rfl rfl (zcU (show j < 64 by omega)) rfl ?_
      refine zR_s rfl ?_
      refine zR_icne rfl rfl (fun c1 => ?_) (fun c1 => ?_)
      · first | refine zR_incn rfl rfl rfl ?_ | refine zR_s rfl ?_
        refine zR_goto rfl rfl ?_
        first | (have e : zqA G K p j = false := zqA_f1 c1; have w := ih (zfst_f hI e); rw [zcnt_f e] at w; exact w) | (have e : zqA G K p j = false := zqA_f2 c2; have w := ih (zfst_f hI e); rw [zcnt_f e] at w; exact w) | (have e : zqA G K p j = true := zqA_t c1 c2; have w := ih (zfst_n hI c3); rw [zcnt_t e] at w; exact w)
      · refine zR_s rfl ?_
        first | refine zR_get rfl rfl (zc0) rfl ?_ | refine zR_get rfl rfl (zcU (show j < 64 by omega)) rfl ?_
        refine zR_nonnull1 rfl rfl (fun c2 => ?_) (fun c2 => ?_)
        · first | refine zR_incn rfl rfl rfl ?_ | refine zR_s rfl ?_
          refine zR_goto rfl rfl ?_
          first | (have e : zqA G K p j = false := zqA_f1 c1; have w := ih (zfst_f hI e); rw [zcnt_f e] at w; exact w) | (have e : zqA G K p j = false := zqA_f2 c2; have w := ih (zfst_f hI e); rw [zcnt_f e] at w; exact w) | (have e : zqA G K p j = true := zqA_t c1 c2; have w := ih (zfst_n hI c3); rw [zcnt_t e] at w; exact w)
        · refine zR_s rfl ?_
          refine zR_s rfl ?_
          refine zR_icne rfl rfl (fun c3 => ?_) (fun c3 => ?_)
          · first | refine zR_incn rfl rfl rfl ?_ | refine zR_s rfl ?_
            first | refine zR_incn rfl rfl rfl ?_ | refine zR_s rfl ?_
            refine zR_goto rfl rfl ?_
            first | (have e : zqA G K p j = false := zqA_f1 c1; have w := ih (zfst_f hI e); rw [zcnt_f e] at w; exact w) | (have e : zqA G K p j = false := zqA_f2 c2; have w := ih (zfst_f hI e); rw [zcnt_f e] at w; exact w) | (have e : zqA G K p j = true := zqA_t c1 c2; have w := ih (zfst_n hI c3); rw [zcnt_t e] at w; exact w)
          · refine zR_s rfl ?_
            first | refine zR_rete rfl rfl ?_ ?_ | refine zR_retb rfl rfl ?_ ?_
            all_goals (simp only [zO, zHc, q_at, if_pos c0, zfst_t hI (show zqA G K p j = true by simp [zqA, c1, c2]) c3 hj])
  refine zR_s rfl ?_
  refine zR_callt rfl rfl rfl rfl (zcallok_s rfl) rfl (m_checkPlace (by decide)) (fun c1 => ?_) (fun c1 => ?_)
  · refine zR_cst (v := 0) rfl rfl rfl ?_
    refine zR_s rfl ?_
    refine zR_cst (v := 0) rfl rfl rfl ?_
    refine zR_s rfl ?_
    exact lp c1
  · first | contradiction | (simp only [zO, zHc, q_at, c1, if_true, if_false, not_true_eq_false, not_false_eq_true, and_self, and_true, true_and, or_true, true_or, or_false, false_or, and_false, false_and, reduceCtorEq, Bool.false_eq_true]; done) | (simp only [zO, zHc, q_at, c1, if_true, if_false, not_true_eq_false, not_false_eq_true, and_self, and_true, true_and, or_true, true_or, or_false, false_or, and_false, false_and, reduceCtorEq, Bool.false_eq_true]; done)
def zqF (G : Nat → Nat → Int32) (a b c : Int32) : Nat → Bool := fun k => zany1 a (G k 0) && zany1 b (G k 3) && zany1 c (G k 5)
def q_find (N : Nat → Int32) (F G : Nat → Nat → Int32) (K : Nat → Option Nat) (Z : Nat → Int64) (M : Nat) (a b c i : Int32) : zQ :=
  if 0 ≤ i then .ok (some (.int (zsk (zfst (zqF G a b c) i M))), N, F, G, K, Z) else .error 1
theorem c_find {a b c i : Int32} (hM : N 1 = nI M) (hm : M ≤ 64) : zMe sL sx 10 36 [.ref 0, .int a, .int b, .int c, .int i] (zCs N F G K Z ++ tl) (zO (q_find N F G K Z M a b c i)) (zHc (zCs N F G K Z ++ tl) tl (q_find N F G K Z M a b c i)) := by
  show zR sL sx _ 36 0 [.ref 0, .int a, .int b, .int c, .int i, .retAddr 0, .retAddr 0] [] _ _ _
  have lp : 0 ≤ i → zR sL sx 10 36 21 [.ref 0, .int a, .int b, .int c, .int i, .int 0, .int 0] [] (zCs N F G K Z ++ tl) (zO (q_find N F G K Z M a b c i)) (zHc (zCs N F G K Z ++ tl) tl (q_find N F G K Z M a b c i)) := by
    intro c0
    refine zR_loop0 (M := M) (fun j => [.ref 0, .int a, .int b, .int c, .int i, .int (nI (zcnt (zqF G a b c) j)), .int (nI j)]) (fun _ => zCs N F G K Z ++ tl) (fun j => zfst (zqF G a b c) i j = none) rfl rfl rfl (fun hI => ?_) (fun j hj hI ih => ?_)
    · refine zR_s rfl ?_
      refine zR_s rfl ?_
      refine zR_get rfl rfl (zc0) rfl ?_
      refine zR_icge rfl rfl (fun _ => ?_) (fun c => by first | exact absurd ((by rw [hM]; exact Int32.le_refl _)) c | exact absurd c ((by rw [hM]; exact Int32.le_refl _)))
      refine zR_cst (v := (-1)) rfl rfl rfl ?_
      first | refine zR_rete rfl rfl ?_ ?_ | refine zR_retb rfl rfl ?_ ?_
      all_goals (simp only [zO, zHc, q_find, if_pos c0, hI, zsk])
    · refine zR_s rfl ?_
      refine zR_s rfl ?_
      refine zR_get rfl rfl (zc0) rfl ?_
      refine zR_icge rfl rfl (fun c => by first | exact absurd c ((by rw [hM]; exact nI_ge hj (by omega))) | exact absurd ((by rw [hM]; exact nI_ge hj (by omega))) c) (fun _ => ?_)
      refine zR_s rfl ?_
      refine zR_get rfl rfl (zc0) rfl ?_
      refine zR_s rfl ?_
      refine zR_aldU rfl (by omega) ?_
      refine zR_s rfl ?_
      refine zR_s rfl ?_
      refine zR_s rfl ?_
      refine zR_call rfl rfl rfl rfl (zcallok_v (zcU (show j < 64 by omega)) rfl rfl) (m_matches (zcU (show j < 64 by omega))) ?_
      first | refine zR_df rfl rfl (fun c1 => ?_) (fun c1 => ?_) | refine zR_bf rfl rfl (fun c1 => ?_) (fun c1 => ?_) | refine zR_ifeq rfl rfl (fun c1 => ?_) (fun c1 => ?_)
      · first | refine zR_incn rfl rfl rfl ?_ | refine zR_s rfl ?_
        refine zR_goto rfl rfl ?_
        first | (have w := ih (zfst_f hI (show zqF G a b c j = false from c1)); rw [zcnt_f (show zqF G a b c j = false from c1)] at w; exact w) | (have w := ih (zfst_n hI c2); rw [zcnt_t (show zqF G a b c j = true from c1)] at w; exact w)
      · refine zR_s rfl ?_
        refine zR_s rfl ?_
        refine zR_icne rfl rfl (fun c2 => ?_) (fun c2 => ?_)
        · first | refine zR_incn rfl rfl rfl ?_ | refine zR_s rfl ?_
          first | refine zR_incn rfl rfl rfl ?_ | refine zR_s rfl ?_
          refine zR_goto rfl rfl ?_
          first | (have w := ih (zfst_f hI (show zqF G a b c j = false from c1)); rw [zcnt_f (show zqF G a b c j = false from c1)] at w; exact w) | (have w := ih (zfst_n hI c2); rw [zcnt_t (show zqF G a b c j = true from c1)] at w; exact w)
        · refine zR_s rfl ?_
          first | refine zR_rete rfl rfl ?_ ?_ | refine zR_retb rfl rfl ?_ ?_
          all_goals (simp only [zO, zHc, q_find, if_pos c0, zsk, zfst_t hI (show zqF G a b c j = true from c1) c2 hj])
  refine zR_s rfl ?_
  refine zR_ifge rfl rfl (fun c1 => ?_) (fun c1 => ?_)
  · refine zR_cst (v := 0) rfl rfl rfl ?_
    refine zR_s rfl ?_
    refine zR_cst (v := 0) rfl rfl rfl ?_
    refine zR_s rfl ?_
    exact lp c1
  · refine zR_throwe (by omega) rfl rfl rfl ?_ ?_
    all_goals (first | contradiction | (simp only [zO, zHc, q_find, c1, if_true, if_false, not_true_eq_false, not_false_eq_true, and_self, and_true, true_and, or_true, true_or, or_false, false_or, and_false, false_and, reduceCtorEq, Bool.false_eq_true]; done) | (simp only [zO, zHc, q_find, c1, if_true, if_false, not_true_eq_false, not_false_eq_true, and_self, and_true, true_and, or_true, true_or, or_false, false_or, and_false, false_and, reduceCtorEq, Bool.false_eq_true]; done))
def zqG (G : Nat → Nat → Int32) (g p : Int32) : Nat → Bool := fun k => decide (G k 1 = g) && decide (G k 6 = p) && decide (G k 5 = 0)
theorem zqG_f1 {g p : Int32} {j : Nat} (h : ¬ G j 1 = g) : zqG G g p j = false := by simp [zqG, h]
theorem zqG_f2 {g p : Int32} {j : Nat} (h : ¬ G j 6 = p) : zqG G g p j = false := by simp [zqG, h]
theorem zqG_f3 {g p : Int32} {j : Nat} (h : ¬ G j 5 = 0) : zqG G g p j = false := by simp [zqG, h]
theorem zqG_t {g p : Int32} {j : Nat} (h1 : G j 1 = g) (h2 : G j 6 = p) (h3 : G j 5 = 0) : zqG G g p j = true := by simp [zqG, h1, h2, h3]
def q_sum (N : Nat → Int32) (F G : Nat → Nat → Int32) (K : Nat → Option Nat) (Z : Nat → Int64) (M : Nat) (g p : Int32) : zQ :=
  if 0 ≤ g ∧ g ≤ 7 then if 0 ≤ p ∧ p ≤ 15 then .ok (some (.long (zsm (zqG G g p) (fun k => (G k 4).toInt64) M)), N, F, G, K, Z) else .error 1 else .error 1
theorem c_sum {g p : Int32} (hM : N 1 = nI M) (hm : M ≤ 64) : zMe sL sx 10 37 [.ref 0, .int g, .int p] (zCs N F G K Z ++ tl) (zO (q_sum N F G K Z M g p)) (zHc (zCs N F G K Z ++ tl) tl (q_sum N F G K Z M g p)) := by
  show zR sL sx _ 37 0 [.ref 0, .int g, .int p, .retAddr 0, .retAddr 0, .retAddr 0, .retAddr 0] [] _ _ _
  have lp : 0 ≤ g ∧ g ≤ 7 → 0 ≤ p ∧ p ≤ 15 → zR sL sx 10 37 16 [.ref 0, .int g, .int p, .long 0, .retAddr 0, .int 0, .retAddr 0] [] (zCs N F G K Z ++ tl) (zO (q_sum N F G K Z M g p)) (zHc (zCs N F G K Z ++ tl) tl (q_sum N F G K Z M g p)) := by
    intro c0 c9
    refine zR_loop0 (M := M) (fun j => [.ref 0, .int g, .int p, .long (zsm (zqG G g p) (fun k => (G k 4).toInt64) j), .retAddr 0, .int (nI j), zlu j]) (fun _ => zCs N F G K Z ++ tl) (fun j => True) rfl rfl trivial (fun hI => ?_) (fun j hj hI ih => ?_)
    · refine zR_s rfl ?_
      refine zR_s rfl ?_
      refine zR_get rfl rfl (zc0) rfl ?_
      refine zR_icge rfl rfl (fun _ => ?_) (fun c => by first | exact absurd ((by rw [hM]; exact Int32.le_refl _)) c | exact absurd c ((by rw [hM]; exact Int32.le_refl _)))
      refine zR_s rfl ?_
      refine zR_rete rfl rfl ?_ ?_
      all_goals (simp only [zO, zHc, q_sum, if_pos c0, if_pos c9])
    · refine zR_s rfl ?_
      refine zR_s rfl ?_
      first | refine zR_get rfl rfl (zc0) rfl ?_ | refine zR_get rfl rfl (zcU (show j < 64 by omega)) rfl ?_
      refine zR_icge rfl rfl (fun c => by first | exact absurd c ((by rw [hM]; exact nI_ge hj (by omega))) | exact absurd ((by rw [hM]; exact nI_ge hj (by omega))) c) (fun _ => ?_)
      refine zR_s rfl ?_
      first | refine zR_get rfl rfl (zc0) rfl ?_ | refine zR_get rfl rfl (zcU (show j < 64 by omega)) rfl ?_
      refine zR_s rfl ?_
      refine zR_aldU rfl (by omega) ?_
      refine zR_s rfl ?_
      refine zR_s rfl ?_
      first | refine zR_get rfl rfl (zc0) rfl ?_ | refine zR_get rfl rfl (zcU (show j < 64 by omega)) rfl ?_
      refine zR_s rfl ?_
      refine zR_icne rfl rfl (fun c1 => ?_) (fun c1 => ?_)
      · first | refine zR_incn rfl rfl rfl ?_ | refine zR_s rfl ?_
        refine zR_goto rfl rfl ?_
        first | (have e : zqG G g p j = false := zqG_f1 c1; have w := ih trivial; simp only [zsm, e, cond_false] at w; exact w) | (have e : zqG G g p j = false := zqG_f2 c2; have w := ih trivial; simp only [zsm, e, cond_false] at w; exact w) | (have e : zqG G g p j = false := zqG_f3 c3; have w := ih trivial; simp only [zsm, e, cond_false] at w; exact w) | (have e : zqG G g p j = true := zqG_t c1 c2 c3; have w := ih trivial; simp only [zsm, e, cond_true] at w; exact w)
      · refine zR_s rfl ?_
        first | refine zR_get rfl rfl (zc0) rfl ?_ | refine zR_get rfl rfl (zcU (show j < 64 by omega)) rfl ?_
        refine zR_s rfl ?_
        refine zR_icne rfl rfl (fun c2 => ?_) (fun c2 => ?_)
        · first | refine zR_incn rfl rfl rfl ?_ | refine zR_s rfl ?_
          refine zR_goto rfl rfl ?_
          first | (have e : zqG G g p j = false := zqG_f1 c1; have w := ih trivial; simp only [zsm, e, cond_false] at w; exact w) | (have e : zqG G g p j = false := zqG_f2 c2; have w := ih trivial; simp only [zsm, e, cond_false] at w; exact w) | (have e : zqG G g p j = false := zqG_f3 c3; have w := ih trivial; simp only [zsm, e, cond_false] at w; exact w) | (have e : zqG G g p j = true := zqG_t c1 c2 c3; have w := ih trivial; simp only [zsm, e, cond_true] at w; exact w)
        · refine zR_s rfl ?_
          first | refine zR_get rfl rfl (zc0) rfl ?_ | refine zR_get rfl rfl (zcU (show j < 64 by omega)) rfl ?_
          first | refine zR_dt rfl rfl (fun c3 => ?_) (fun c3 => ?_) | refine zR_bt rfl rfl (fun c3 => ?_) (fun c3 => ?_) | refine zR_ifne rfl rfl (fun c3 => ?_) (fun c3 => ?_)
          · first | refine zR_incn rfl rfl rfl ?_ | refine zR_s rfl ?_
            refine zR_goto rfl rfl ?_
            first | (have e : zqG G g p j = false := zqG_f1 c1; have w := ih trivial; simp only [zsm, e, cond_false] at w; exact w) | (have e : zqG G g p j = false := zqG_f2 c2; have w := ih trivial; simp only [zsm, e, cond_false] at w; exact w) | (have e : zqG G g p j = false := zqG_f3 c3; have w := ih trivial; simp only [zsm, e, cond_false] at w; exact w) | (have e : zqG G g p j = true := zqG_t c1 c2 c3; have w := ih trivial; simp only [zsm, e, cond_true] at w; exact w)
          · refine zR_s rfl ?_
            refine zR_s rfl ?_
            first | refine zR_get rfl rfl (zc0) rfl ?_ | refine zR_get rfl rfl (zcU (show j < 64 by omega)) rfl ?_
            refine zR_s rfl ?_
            refine zR_ladd rfl ?_
            refine zR_s rfl ?_
            first | refine zR_incn rfl rfl rfl ?_ | refine zR_s rfl ?_
            refine zR_goto rfl rfl ?_
            first | (have e : zqG G g p j = false := zqG_f1 c1; have w := ih trivial; simp only [zsm, e, cond_false] at w; exact w) | (have e : zqG G g p j = false := zqG_f2 c2; have w := ih trivial; simp only [zsm, e, cond_false] at w; exact w) | (have e : zqG G g p j = false := zqG_f3 c3; have w := ih trivial; simp only [zsm, e, cond_false] at w; exact w) | (have e : zqG G g p j = true := zqG_t c1 c2 c3; have w := ih trivial; simp only [zsm, e, cond_true] at w; exact w)
  refine zR_s rfl ?_
  refine zR_cst (v := 0) rfl rfl rfl ?_
  refine zR_cst (v := 7) rfl rfl rfl ?_
  refine zR_callt rfl rfl rfl rfl (zcallok_s rfl) rfl (m_checkRange (by decide)) (fun c1 => ?_) (fun c1 => ?_)
  · refine zR_s rfl ?_
    refine zR_callt rfl rfl rfl rfl (zcallok_s rfl) rfl (m_checkPlace (by decide)) (fun c2 => ?_) (fun c2 => ?_)
    · refine zR_lc (v := 0) rfl rfl ?_
      refine zR_s rfl ?_
      refine zR_cst (v := 0) rfl rfl rfl ?_
      refine zR_s rfl ?_
      exact lp c1 c2
    · first | contradiction | (simp only [zO, zHc, q_sum, c1, c2, if_true, if_false, not_true_eq_false, not_false_eq_true, and_self, and_true, true_and, or_true, true_or, or_false, false_or, and_false, false_and, reduceCtorEq, Bool.false_eq_true]; done) | (simp only [zO, zHc, q_sum, c1, c2, if_true, if_false, not_true_eq_false, not_false_eq_true, and_self, and_true, true_and, or_true, true_or, or_false, false_or, and_false, false_and, reduceCtorEq, Bool.false_eq_true]; done)
  · first | contradiction | (simp only [zO, zHc, q_sum, c1, if_true, if_false, not_true_eq_false, not_false_eq_true, and_self, and_true, true_and, or_true, true_or, or_false, false_or, and_false, false_and, reduceCtorEq, Bool.false_eq_true]; done) | (simp only [zO, zHc, q_sum, c1, if_true, if_false, not_true_eq_false, not_false_eq_true, and_self, and_true, true_and, or_true, true_or, or_false, false_or, and_false, false_and, reduceCtorEq, Bool.false_eq_true]; done)
def zqX (G : Nat → Nat → Int32) (t : Int32) : Nat → Bool := fun i => decide ((G i 5 = 0 ∨ G i 5 = 1) ∧ G i 2 < t)
def zxp (G : Nat → Nat → Int32) (t : Int32) (j : Nat) : Nat → Nat → Int32 := fun i => bif decide (i < j) && zqX G t i then upd (G i) 5 3 else G i
theorem zxp_0 {t : Int32} : zxp G t 0 = G := by funext i; simp [zxp]
theorem zxp_s {t : Int32} {j : Nat} : zxp G t (j + 1) = if (G j 5 = 0 ∨ G j 5 = 1) ∧ G j 2 < t then updG (zxp G t j) j 5 3 else zxp G t j := by
  by_cases hb : (G j 5 = 0 ∨ G j 5 = 1) ∧ G j 2 < t
  · rw [if_pos hb]
    funext i
    simp only [zxp, updG]
    by_cases e : i = j
    · subst e; simp [zqX, hb]
    · simp only [if_neg e]
      rw [show decide (i < j + 1) = decide (i < j) from by simp; omega]
  · rw [if_neg hb]
    funext i
    simp only [zxp]
    by_cases e : i = j
    · subst e; simp [zqX, hb]
    · rw [show decide (i < j + 1) = decide (i < j) from by simp; omega]
theorem m_expire2 {t : Int32} {j : Nat} (hj : j < 64) : zMe sL sx (d + 1) 11 [.ref (j + 11), .int t] (zCs N F (zxp G t j) K Z ++ tl) (.returned (some (.int (bI (zqX G t j))))) (zCs N F (zxp G t (j + 1)) K Z ++ tl) := by
  have h := m_expire (sL := sL) (sx := sx) (d := d) (N := N) (F := F) (G := zxp G t j) (K := K) (Z := Z) (tl := tl) (i := j) (a := t) hj
  have e : zxp G t j j = G j := by simp [zxp]
  rw [zxp_s]
  simp only [e] at h
  exact h
def q_day (N : Nat → Int32) (F G : Nat → Nat → Int32) (K : Nat → Option Nat) (Z : Nat → Int64) (M : Nat) (t : Int32) : zQ :=
  if N 3 ≤ t ∧ t ≤ 1000 then .ok (some (.int (nI (zcnt (zqX G t) M))), upd N 3 t, F, zxp G t M, K, Z) else .error 1
theorem c_day {t : Int32} (hM : N 1 = nI M) (hm : M ≤ 64) : zMe sL sx 10 34 [.ref 0, .int t] (zCs N F G K Z ++ tl) (zO (q_day N F G K Z M t)) (zHc (zCs N F G K Z ++ tl) tl (q_day N F G K Z M t)) := by
  show zR sL sx _ 34 0 [.ref 0, .int t, .retAddr 0, .retAddr 0] [] _ _ _
  have lp : N 3 ≤ t ∧ t ≤ 1000 → zR sL sx 10 34 20 [.ref 0, .int t, .int 0, .int 0] [] (zCs (upd N 3 t) F G K Z ++ tl) (zO (q_day N F G K Z M t)) (zHc (zCs N F G K Z ++ tl) tl (q_day N F G K Z M t)) := by
    intro c0
    have hM2 : upd N 3 t 1 = nI M := hM
    refine zR_loop0 (M := M) (fun j => [.ref 0, .int t, .int (nI (zcnt (zqX G t) j)), .int (nI j)]) (fun j => zCs (upd N 3 t) F (zxp G t j) K Z ++ tl) (fun j => True) rfl (by rw [zxp_0]) trivial (fun hI => ?_) (fun j hj hI ih => ?_)
    · refine zR_s rfl ?_
      refine zR_s rfl ?_
      refine zR_get rfl rfl (zc0) rfl ?_
      refine zR_icge rfl rfl (fun _ => ?_) (fun c => by first | exact absurd ((by rw [hM2]; exact Int32.le_refl _)) c | exact absurd c ((by rw [hM2]; exact Int32.le_refl _)))
      refine zR_s rfl ?_
      first | refine zR_rete rfl rfl ?_ ?_ | refine zR_retb rfl rfl ?_ ?_
      all_goals (simp only [zO, zHc, q_day, if_pos c0])
    · refine zR_s rfl ?_
      refine zR_s rfl ?_
      refine zR_get rfl rfl (zc0) rfl ?_
      refine zR_icge rfl rfl (fun c => by first | exact absurd c ((by rw [hM2]; exact nI_ge hj (by omega))) | exact absurd ((by rw [hM2]; exact nI_ge hj (by omega))) c) (fun _ => ?_)
      refine zR_s rfl ?_
      refine zR_get rfl rfl (zc0) rfl ?_
      refine zR_s rfl ?_
      refine zR_aldU rfl (by omega) ?_
      refine zR_s rfl ?_
      refine zR_call rfl rfl rfl rfl (zcallok_v (zcU (show j < 64 by omega)) rfl rfl) (m_expire2 (show j < 64 by omega)) ?_
      first | refine zR_df rfl rfl (fun c1 => ?_) (fun c1 => ?_) | refine zR_bf rfl rfl (fun c1 => ?_) (fun c1 => ?_) | refine zR_ifeq rfl rfl (fun c1 => ?_) (fun c1 => ?_)
      · first | refine zR_incn rfl rfl rfl ?_ | refine zR_s rfl ?_
        refine zR_goto rfl rfl ?_
        first | (have w := ih trivial; rw [zcnt_f (show zqX G t j = false from decide_eq_false c1)] at w; exact w) | (have w := ih trivial; rw [zcnt_t (show zqX G t j = true from decide_eq_true c1)] at w; exact w)
      · first | refine zR_incn rfl rfl rfl ?_ | refine zR_s rfl ?_
        first | refine zR_incn rfl rfl rfl ?_ | refine zR_s rfl ?_
        refine zR_goto rfl rfl ?_
        first | (have w := ih trivial; rw [zcnt_f (show zqX G t j = false from decide_eq_false c1)] at w; exact w) | (have w := ih trivial; rw [zcnt_t (show zqX G t j = true from decide_eq_true c1)] at w; exact w)
  refine zR_s rfl ?_
  refine zR_s rfl ?_
  refine zR_get rfl rfl (zc0) rfl ?_
  refine zR_cst (v := 1000) rfl rfl rfl ?_
  refine zR_callt rfl rfl rfl rfl (zcallok_s rfl) rfl (m_checkRange (by decide)) (fun c1 => ?_) (fun c1 => ?_)
  · refine zR_s rfl ?_
    refine zR_s rfl ?_
    refine zR_putN rfl rfl (by decide) rfl ?_
    refine zR_cst (v := 0) rfl rfl rfl ?_
    refine zR_s rfl ?_
    refine zR_cst (v := 0) rfl rfl rfl ?_
    refine zR_s rfl ?_
    exact lp c1
  · first | contradiction | (simp only [zO, zHc, q_day, c1, if_true, if_false, not_true_eq_false, not_false_eq_true, and_self, and_true, true_and, or_true, true_or, or_false, false_or, and_false, false_and, reduceCtorEq, Bool.false_eq_true]; done) | (simp only [zO, zHc, q_day, c1, if_true, if_false, not_true_eq_false, not_false_eq_true, and_self, and_true, true_and, or_true, true_or, or_false, false_or, and_false, false_and, reduceCtorEq, Bool.false_eq_true]; done)
def zqR (F : Nat → Nat → Int32) (j : Nat) : Nat → Bool := fun r => decide (F 4 r = nI j)
theorem m_seek {j : Nat} {i : Int32} (hA : N 4 = nI A) (hA4 : A ≤ 400) : zMe sL sx d 4 [.ref 6, .int (nI j), .int i] (zCs N F G K Z ++ tl) (.returned (some (.int (zsk (zfst (zqR F j) i A))))) (zCs N F G K Z ++ tl) := by
  show zR sL sx _ 4 0 [.ref 6, .int (nI j), .int i, .retAddr 0, .retAddr 0] [] _ _ _
  refine zR_cst (v := 0) rfl rfl rfl ?_
  refine zR_s rfl ?_
  refine zR_cst (v := 0) rfl rfl rfl ?_
  refine zR_s rfl ?_
  skip
  refine zR_loop0 (M := A) (fun k => [.ref 6, .int (nI j), .int i, .int (nI (zcnt (zqR F j) k)), .int (nI k)]) (fun _ => zCs N F G K Z ++ tl) (fun k => zfst (zqR F j) i k = none) rfl rfl rfl (fun hI => ?_) (fun k hk hI ih => ?_)
  · refine zR_s rfl ?_
    refine zR_s rfl ?_
    refine zR_get rfl rfl (zc6) rfl ?_
    refine zR_icge rfl rfl (fun _ => ?_) (fun c => by first | exact absurd ((by rw [hA]; exact Int32.le_refl _)) c | exact absurd c ((by rw [hA]; exact Int32.le_refl _)))
    refine zR_cst (v := (-1)) rfl rfl rfl ?_
    first | refine zR_rete rfl rfl ?_ ?_ | refine zR_retb rfl rfl ?_ ?_
    all_goals (simp only [hI, zsk])
  · refine zR_s rfl ?_
    refine zR_s rfl ?_
    refine zR_get rfl rfl (zc6) rfl ?_
    refine zR_icge rfl rfl (fun c => by first | exact absurd c ((by rw [hA]; exact nI_ge hk (by omega))) | exact absurd ((by rw [hA]; exact nI_ge hk (by omega))) c) (fun _ => ?_)
    refine zR_s rfl ?_
    refine zR_get rfl rfl (zc6) rfl ?_
    refine zR_s rfl ?_
    refine zR_ildF 4 rfl (by decide) (show k < 400 by omega) ?_
    refine zR_s rfl ?_
    refine zR_icne rfl rfl (fun c1 => ?_) (fun c1 => ?_)
    · first | refine zR_incn rfl rfl rfl ?_ | refine zR_s rfl ?_
      refine zR_goto rfl rfl ?_
      first | (have w := ih (zfst_f hI (show zqR F j k = false from decide_eq_false c1)); rw [zcnt_f (show zqR F j k = false from decide_eq_false c1)] at w; exact w) | (have w := ih (zfst_n hI c2); rw [zcnt_t (show zqR F j k = true from decide_eq_true c1)] at w; exact w)
    · refine zR_s rfl ?_
      refine zR_s rfl ?_
      refine zR_icne rfl rfl (fun c2 => ?_) (fun c2 => ?_)
      · first | refine zR_incn rfl rfl rfl ?_ | refine zR_s rfl ?_
        first | refine zR_incn rfl rfl rfl ?_ | refine zR_s rfl ?_
        refine zR_goto rfl rfl ?_
        first | (have w := ih (zfst_f hI (show zqR F j k = false from decide_eq_false c1)); rw [zcnt_f (show zqR F j k = false from decide_eq_false c1)] at w; exact w) | (have w := ih (zfst_n hI c2); rw [zcnt_t (show zqR F j k = true from decide_eq_true c1)] at w; exact w)
      · refine zR_s rfl ?_
        first | refine zR_rete rfl rfl ?_ ?_ | refine zR_retb rfl rfl ?_ ?_
        all_goals (simp only [zsk, zfst_t hI (show zqR F j k = true from decide_eq_true c1) c2 hk])
def q_row (N : Nat → Int32) (F G : Nat → Nat → Int32) (K : Nat → Option Nat) (Z : Nat → Int64) (A j : Nat) (i w : Int32) : zQ :=
  match zfst (zqR F j) i A with
  | none => .error 4
  | some r => if 0 ≤ w ∧ w ≤ 2 then .ok (some (.int (if w = 0 then F 5 r else if w = 1 then F 6 r else F 7 r)), N, F, G, K, Z) else .error 1
theorem c_row {j : Nat} {i w : Int32} (hM : N 1 = nI M) (hm : M ≤ 64) (hA : N 4 = nI A) (hA4 : A ≤ 400) (hj : j < M) : zMe sL sx 10 38 [.ref 0, .int (nI j), .int i, .int w] (zCs N F G K Z ++ tl) (zO (q_row N F G K Z A j i w)) (zHc (zCs N F G K Z ++ tl) tl (q_row N F G K Z A j i w)) := by
  have hj2 : j < 64 := by omega
  cases hz : zfst (zqR F j) i A with
  | none =>
    show zR sL sx _ 38 0 [.ref 0, .int (nI j), .int i, .int w, .retAddr 0] [] _ _ _
    refine zR_s rfl ?_
    first | refine zR_get rfl rfl (zc0) rfl ?_ | refine zR_get rfl rfl (zcU hj2) rfl ?_
    refine zR_s rfl ?_
    refine zR_s rfl ?_
    refine zR_call rfl rfl rfl rfl (zcallok_v (zc0) rfl rfl) (m_unitOf hM hm hj) ?_
    first | refine zR_get rfl rfl (zc0) rfl ?_ | refine zR_get rfl rfl (zcU hj2) rfl ?_
    refine zR_s rfl ?_
    refine zR_call rfl rfl rfl rfl (zcallok_v (zc6) rfl rfl) (m_seek hA hA4) ?_
    rw [hz]
    refine zR_s rfl ?_
    refine zR_s rfl ?_
    refine zR_cst (v := (-1)) rfl rfl rfl ?_
    refine zR_icne rfl rfl (fun c => by first | exact absurd c ((show zsk none = -1 from rfl)) | exact absurd ((show zsk none = -1 from rfl)) c) (fun _ => ?_)
    refine zR_throwe (by omega) rfl rfl rfl ?_ ?_
    all_goals (simp only [zO, zHc, q_row, hz])
  | some r =>
    have hr := (zfst_lt hz).1
    show zR sL sx _ 38 0 [.ref 0, .int (nI j), .int i, .int w, .retAddr 0] [] _ _ _
    refine zR_s rfl ?_
    first | refine zR_get rfl rfl (zc0) rfl ?_ | refine zR_get rfl rfl (zcU hj2) rfl ?_
    refine zR_s rfl ?_
    refine zR_s rfl ?_
    refine zR_call rfl rfl rfl rfl (zcallok_v (zc0) rfl rfl) (m_unitOf hM hm hj) ?_
    first | refine zR_get rfl rfl (zc0) rfl ?_ | refine zR_get rfl rfl (zcU hj2) rfl ?_
    refine zR_s rfl ?_
    refine zR_call rfl rfl rfl rfl (zcallok_v (zc6) rfl rfl) (m_seek hA hA4) ?_
    rw [hz, show zsk (some r) = nI r from rfl]
    refine zR_s rfl ?_
    refine zR_s rfl ?_
    refine zR_cst (v := (-1)) rfl rfl rfl ?_
    refine zR_icne rfl rfl (fun _ => ?_) (fun c => by first | exact absurd ((show ¬ nI r = -1 from fun q => absurd (nI_pos' (n := r) (by omega)) (by rw [q]; decide))) c | exact absurd c ((show ¬ nI r = -1 from fun q => absurd (nI_pos' (n := r) (by omega)) (by rw [q]; decide))))
    refine zR_s rfl ?_
    refine zR_cst (v := 0) rfl rfl rfl ?_
    refine zR_cst (v := 2) rfl rfl rfl ?_
    refine zR_callt rfl rfl rfl rfl (zcallok_s rfl) rfl (m_checkRange (by decide)) (fun c1 => ?_) (fun c1 => ?_)
    · refine zR_s rfl ?_
      first | refine zR_get rfl rfl (zc0) rfl ?_ | refine zR_get rfl rfl (zcU hj2) rfl ?_
      refine zR_s rfl ?_
      refine zR_s rfl ?_
      refine zR_call rfl rfl rfl rfl (zcallok_v (zc6) rfl rfl) (m_read hA hA4 hr) ?_
      first | refine zR_rete rfl rfl ?_ ?_ | refine zR_retb rfl rfl ?_ ?_
      all_goals (first | (simp only [zO, zHc, q_row, hz, if_pos c1]; done) | (simp only [zO, zHc, q_row, hz, if_neg c1, and_self]; done))
    · first | (simp only [zO, zHc, q_row, hz, if_pos c1]; done) | (simp only [zO, zHc, q_row, hz, if_neg c1, and_self]; done)
theorem c_packed {j : Nat} (hM : N 1 = nI M) (hm : M ≤ 64) (hj : j < M) : zMe sL sx 10 40 [.ref 0, .int (nI j)] (zCs N F G K Z ++ tl) (.returned (some (.long (zpkU (G j) (Z j))))) (zCs N F G K Z ++ tl) := by
  have hj2 : j < 64 := by omega
  show zR sL sx _ 40 0 [.ref 0, .int (nI j)] [] _ _ _
  refine zR_s rfl ?_
  refine zR_s rfl ?_
  refine zR_call rfl rfl rfl rfl (zcallok_v (zc0) rfl rfl) (m_unitOf hM hm hj) ?_
  refine zR_call rfl rfl rfl rfl (zcallok_v (zcU hj2) rfl rfl) (m_pack hj2) ?_
  refine zR_rete rfl rfl ?_ ?_
  all_goals (first | rfl | simp [bI, *])
def q_told (G : Nat → Nat → Int32) (K : Nat → Option Nat) (M j : Nat) : Nat → Int32
  | 0 => G j 5
  | 1 => G j 6
  | 2 => zsk (K j)
  | 3 => G j 4
  | 4 => G j 0
  | 5 => G j 3
  | 6 => nI (zdq G K j)
  | _ => nI (zcnt (zqW K j) M)
theorem c_told_bad {j : Nat} {w : Int32} (hM : N 1 = nI M) (hm : M ≤ 64) (hj : j < M) (hw : w.toInt < 0 ∨ 7 < w.toInt) : zMe sL sx 10 39 [.ref 0, .int (nI j), .int w] (zCs N F G K Z ++ tl) (.threw 1) (zCs N F G K Z ++ tl ++ [(101, [])]) := by
  show zR sL sx _ 39 0 [.ref 0, .int (nI j), .int w, .retAddr 0] [] _ _ _
  refine zR_s rfl ?_
  refine zR_s rfl ?_
  refine zR_call rfl rfl rfl rfl (zcallok_v (zc0) rfl rfl) (m_unitOf hM hm hj) ?_
  refine zR_s rfl ?_
  refine zR_s rfl ?_
  refine zR_sw (tgt := 107) rfl (zsw_d hw) ?_
  refine zR_throwe (by omega) rfl rfl rfl ?_ ?_
  all_goals (first | rfl | simp [bI, *])
theorem c_told {j k : Nat} (hK : zKb K) (hM : N 1 = nI M) (hm : M ≤ 64) (hj : j < M) (hk : k ≤ 7) : zMe sL sx 10 39 [.ref 0, .int (nI j), .int (nI k)] (zCs N F G K Z ++ tl) (.returned (some (.int (q_told G K M j k)))) (zCs N F G K Z ++ tl) := by
  have hj2 : j < 64 := by omega
  show zR sL sx _ 39 0 [.ref 0, .int (nI j), .int (nI k), .retAddr 0] [] _ _ _
  refine zR_s rfl ?_
  refine zR_s rfl ?_
  refine zR_call rfl rfl rfl rfl (zcallok_v (zc0) rfl rfl) (m_unitOf hM hm hj) ?_
  refine zR_s rfl ?_
  refine zR_s rfl ?_
  skip
  rcases (show k = 0 ∨ k = 1 ∨ k = 2 ∨ k = 3 ∨ k = 4 ∨ k = 5 ∨ k = 6 ∨ k = 7 by omega) with rfl | rfl | rfl | rfl | rfl | rfl | rfl | rfl
  · refine zR_sw (tgt := 52) rfl rfl ?_
    refine zR_s rfl ?_
    refine zR_get rfl rfl (zcU hj2) rfl ?_
    first | refine zR_rete rfl rfl ?_ ?_ | refine zR_retb rfl rfl ?_ ?_
    all_goals (first | rfl | simp [bI, *])
  · refine zR_sw (tgt := 57) rfl rfl ?_
    refine zR_s rfl ?_
    refine zR_get rfl rfl (zcU hj2) rfl ?_
    first | refine zR_rete rfl rfl ?_ ?_ | refine zR_retb rfl rfl ?_ ?_
    all_goals (first | rfl | simp [bI, *])
  · refine zR_sw (tgt := 62) rfl rfl ?_
    cases hq : K j with
    | none =>
      refine zR_s rfl ?_
      refine zR_get rfl rfl (zcU hj2) rfl ?_
      refine zR_nonnull1 rfl rfl (fun c1 => absurd hq c1) (fun c1 => ?_)
      refine zR_cst (v := (-1)) rfl rfl rfl ?_
      refine zR_s rfl ?_
      first | refine zR_rete rfl rfl ?_ ?_ | refine zR_retb rfl rfl ?_ ?_
      all_goals (simp only [q_told, hq, zsk])
    | some c =>
      refine zR_s rfl ?_
      first | refine zR_get rfl rfl (zcU hj2) rfl ?_ | refine zR_get rfl rfl (zcU (hK _ _ hq)) rfl ?_
      refine zR_nonnull1 rfl rfl (fun c1 => ?_) (fun c1 => absurd (hq.symm.trans c1) (by simp))
      refine zR_s rfl ?_
      first | refine zR_get rfl rfl (zcU hj2) rfl ?_ | refine zR_get rfl rfl (zcU (hK _ _ hq)) rfl ?_
      rw [hq]
      first | refine zR_get rfl rfl (zcU hj2) rfl ?_ | refine zR_get rfl rfl (zcU (hK _ _ hq)) rfl ?_
      first | refine zR_rete rfl rfl ?_ ?_ | refine zR_retb rfl rfl ?_ ?_
      all_goals (simp only [q_told, hq, zsk])
  · refine zR_sw (tgt := 81) rfl rfl ?_
    refine zR_s rfl ?_
    refine zR_get rfl rfl (zcU hj2) rfl ?_
    first | refine zR_rete rfl rfl ?_ ?_ | refine zR_retb rfl rfl ?_ ?_
    all_goals (first | rfl | simp [bI, *])
  · refine zR_sw (tgt := 86) rfl rfl ?_
    refine zR_s rfl ?_
    refine zR_get rfl rfl (zcU hj2) rfl ?_
    first | refine zR_rete rfl rfl ?_ ?_ | refine zR_retb rfl rfl ?_ ?_
    all_goals (first | rfl | simp [bI, *])
  · refine zR_sw (tgt := 91) rfl rfl ?_
    refine zR_s rfl ?_
    refine zR_get rfl rfl (zcU hj2) rfl ?_
    first | refine zR_rete rfl rfl ?_ ?_ | refine zR_retb rfl rfl ?_ ?_
    all_goals (first | rfl | simp [bI, *])
  · refine zR_sw (tgt := 96) rfl rfl ?_
    refine zR_s rfl ?_
    refine zR_call rfl rfl rfl rfl (zcallok_v (zcU hj2) rfl rfl) (m_depth2 hK hj2) ?_
    first | refine zR_rete rfl rfl ?_ ?_ | refine zR_retb rfl rfl ?_ ?_
    all_goals (first | rfl | simp [bI, *])
  · refine zR_sw (tgt := 101) rfl rfl ?_
    refine zR_s rfl ?_
    refine zR_s rfl ?_
    refine zR_call rfl rfl rfl rfl (zcallok_v (zc0) rfl rfl) (m_unitsWithin hK hM hm) ?_
    first | refine zR_rete rfl rfl ?_ ?_ | refine zR_retb rfl rfl ?_ ?_
    all_goals (first | rfl | simp [bI, *])
def q_count (N : Nat → Int32) (G : Nat → Nat → Int32) (M : Nat) (w : Int32) : Int32 := if w = 0 then N 1 else if w = 1 then nI (zcnt (zqS G) M) else if w = 2 then N 0 else if w = 3 then N 4 else if w = 4 then N 3 else -1
theorem c_count {w : Int32} (hM : N 1 = nI M) (hm : M ≤ 64) : zMe sL sx 10 41 [.ref 0, .int w] (zCs N F G K Z ++ tl) (.returned (some (.int (q_count N G M w)))) (zCs N F G K Z ++ tl) := by
  rcases zswc w 4 (by omega) with hw | ⟨k, hk, rfl⟩
  · have n0 : ¬ w = 0 := by rintro rfl; simp at hw
    have n1 : ¬ w = 1 := by rintro rfl; simp at hw
    have n2 : ¬ w = 2 := by rintro rfl; simp at hw
    have n3 : ¬ w = 3 := by rintro rfl; simp at hw
    have n4 : ¬ w = 4 := by rintro rfl; simp at hw
    show zR sL sx _ 41 0 [.ref 0, .int w] [] _ _ _
    refine zR_s rfl ?_
    refine zR_sw (tgt := 64) rfl (zsw_d hw) ?_
    rw [q_count, if_neg n0, if_neg n1, if_neg n2, if_neg n3, if_neg n4]
    refine zR_cst (v := (-1)) rfl rfl rfl ?_
    first | refine zR_rete rfl rfl ?_ ?_ | refine zR_retb rfl rfl ?_ ?_
    all_goals (first | rfl | simp [bI, *])
  · show zR sL sx _ 41 0 [.ref 0, .int (nI k)] [] _ _ _
    refine zR_s rfl ?_
    rcases (show k = 0 ∨ k = 1 ∨ k = 2 ∨ k = 3 ∨ k = 4 by omega) with rfl | rfl | rfl | rfl | rfl
    · refine zR_sw (tgt := 36) rfl rfl ?_
      refine zR_s rfl ?_
      refine zR_get rfl rfl (zc0) rfl ?_
      first | refine zR_rete rfl rfl ?_ ?_ | refine zR_retb rfl rfl ?_ ?_
      all_goals (first | rfl | simp [bI, *])
    · refine zR_sw (tgt := 41) rfl rfl ?_
      refine zR_s rfl ?_
      refine zR_call rfl rfl rfl rfl (zcallok_v (zc0) rfl rfl) (m_unitsStanding hM hm) ?_
      first | refine zR_rete rfl rfl ?_ ?_ | refine zR_retb rfl rfl ?_ ?_
      all_goals (first | rfl | simp [bI, *])
    · refine zR_sw (tgt := 46) rfl rfl ?_
      refine zR_s rfl ?_
      refine zR_get rfl rfl (zc0) rfl ?_
      first | refine zR_rete rfl rfl ?_ ?_ | refine zR_retb rfl rfl ?_ ?_
      all_goals (first | rfl | simp [bI, *])
    · refine zR_sw (tgt := 51) rfl rfl ?_
      refine zR_s rfl ?_
      first | refine zR_get rfl rfl (zc0) rfl ?_ | refine zR_get rfl rfl (zc6) rfl ?_
      first | refine zR_get rfl rfl (zc0) rfl ?_ | refine zR_get rfl rfl (zc6) rfl ?_
      first | refine zR_rete rfl rfl ?_ ?_ | refine zR_retb rfl rfl ?_ ?_
      all_goals (first | rfl | simp [bI, *])
    · refine zR_sw (tgt := 59) rfl rfl ?_
      refine zR_s rfl ?_
      refine zR_get rfl rfl (zc0) rfl ?_
      first | refine zR_rete rfl rfl ?_ ?_ | refine zR_retb rfl rfl ?_ ?_
      all_goals (first | rfl | simp [bI, *])
end ZAE
