/-! the class's other loops -/
/-- depth of a unit, 0 if it doesn't stand -/
def zdq (G : Nat → Nat → Int32) (K : Nat → Option Nat) (i : Nat) : Nat := bif zst (G i) then zdp K 4 (K i) + 1 else 0
theorem zdp_le (K : Nat → Option Nat) : ∀ n x, zdp K n x ≤ n := by
  intro n
  induction n with
  | zero => intro x; simp [zdp]
  | succ n ih => intro x; cases x with
    | none => simp [zdp]
    | some c => simp only [zdp]; have := ih (K c); omega
theorem zdq_le (G : Nat → Nat → Int32) (K : Nat → Option Nat) (i : Nat) : zdq G K i ≤ 5 := by
  simp only [zdq]
  have := zdp_le K 4 (K i)
  cases zst (G i) <;> simp <;> omega
/-- the greatest f below n among p, b at least -/
def zmx (p : Nat → Bool) (f : Nat → Nat) (b : Nat) : Nat → Nat
  | 0 => b
  | n + 1 => bif p n then max (zmx p f b n) (f n) else zmx p f b n
theorem zmx_le {p : Nat → Bool} {f : Nat → Nat} {b m : Nat} (hb : b ≤ m) (hf : ∀ i, f i ≤ m) : ∀ n, zmx p f b n ≤ m := by
  intro n
  induction n with
  | zero => exact hb
  | succ n ih => simp only [zmx]; have := hf n; cases p n <;> simp <;> omega
theorem nI_max {a b : Nat} (ha : a < 2 ^ 31) (hb : b < 2 ^ 31) : (if nI a < nI b then nI b else nI a) = nI (max a b) := by
  by_cases q : a < b
  · rw [if_pos (nI_lt q hb), Nat.max_eq_right (by omega)]
  · rw [if_neg (nI_nlt (by omega) ha), Nat.max_eq_left (by omega)]
section ZCL
variable {sL : Nat} {sx : Nat → Int32} {d : Nat} {h : zH} {N : Nat → Int32} {F G : Nat → Nat → Int32} {K : Nat → Option Nat} {Z : Nat → Int64} {tl : zH} {M i u : Nat}
theorem m_depth2 (hK : zKb K) (hi : i < 64) : zMe sL sx (d + 1) 13 [.ref (i + 11)] (zCs N F G K Z ++ tl) (.returned (some (.int (nI (zdq G K i))))) (zCs N F G K Z ++ tl) := m_depth hK hi
theorem m_levels (hK : zKb K) (hM : N 1 = nI M) (hm : M ≤ 64) (hu : u < 64) : zMe sL sx (d + 2) 55 [.ref 0, .ref (u + 11)] (zCs N F G K Z ++ tl) (.returned (some (.int (nI (zmx (zqW K u) (zdq G K) (zdq G K u) M) - nI (zdq G K u) + 1)))) (zCs N F G K Z ++ tl) := by
  show zR sL sx _ 55 0 [.ref 0, .ref (u + 11), .retAddr 0, .retAddr 0] [] _ _ _
  refine zR_s rfl ?_
  refine zR_call rfl rfl rfl rfl (zcallok_v (zcU hu) rfl rfl) (m_depth2 hK hu) ?_
  refine zR_s rfl ?_
  refine zR_cst (v := 0) rfl rfl rfl ?_
  refine zR_s rfl ?_
  skip
  refine zR_loop0 (M := M) (fun j => [.ref 0, .ref (u + 11), .int (nI (zmx (zqW K u) (zdq G K) (zdq G K u) j)), .int (nI j)]) (fun _ => zCs N F G K Z ++ tl) (fun _ => True) rfl rfl trivial (fun _ => ?_) (fun j hj _ ih => ?_)
  · refine zR_s rfl ?_
    refine zR_s rfl ?_
    refine zR_get rfl rfl (zc0) rfl ?_
    refine zR_icge rfl rfl (fun _ => ?_) (fun c => by first | exact absurd ((by rw [hM]; exact Int32.le_refl _)) c | exact absurd c ((by rw [hM]; exact Int32.le_refl _)))
    refine zR_s rfl ?_
    refine zR_s rfl ?_
    refine zR_call rfl rfl rfl rfl (zcallok_v (zcU hu) rfl rfl) (m_depth2 hK hu) ?_
    refine zR_isub rfl ?_
    refine zR_cst (v := 1) rfl rfl rfl ?_
    refine zR_iadd rfl ?_
    first | refine zR_rete rfl rfl ?_ ?_ | refine zR_retb rfl rfl ?_ ?_
    all_goals (first | rfl | simp [bI, *])
  · refine zR_s rfl ?_
    refine zR_s rfl ?_
    refine zR_get rfl rfl (zc0) rfl ?_
    refine zR_icge rfl rfl (fun c => by first | exact absurd c ((by rw [hM]; exact nI_ge hj (by omega))) | exact absurd ((by rw [hM]; exact nI_ge hj (by omega))) c) (fun _ => ?_)
    refine zR_s rfl ?_
    refine zR_get rfl rfl (zc0) rfl ?_
    refine zR_s rfl ?_
    refine zR_aldU rfl (by omega) ?_
    refine zR_s rfl ?_
    refine zR_call rfl rfl rfl rfl (zcallok_v (zcU (show j < 64 by omega)) rfl rfl) (m_liesWithin hK (show j < 64 by omega)) ?_
    first | refine zR_df rfl rfl (fun c1 => ?_) (fun c1 => ?_) | refine zR_bf rfl rfl (fun c1 => ?_) (fun c1 => ?_) | refine zR_ifeq rfl rfl (fun c1 => ?_) (fun c1 => ?_)
    · first | refine zR_incn rfl rfl rfl ?_ | refine zR_s rfl ?_
      refine zR_goto rfl rfl ?_
      (have w := ih trivial; simp only [zmx, show zqW K u j = _ from c1, cond_true, cond_false] at w; exact w)
    · refine zR_s rfl ?_
      refine zR_s rfl ?_
      refine zR_get rfl rfl (zc0) rfl ?_
      refine zR_s rfl ?_
      refine zR_aldU rfl (by omega) ?_
      refine zR_call rfl rfl rfl rfl (zcallok_v (zcU (show j < 64 by omega)) rfl rfl) (m_depth2 hK (show j < 64 by omega)) ?_
      refine zR_max rfl rfl (by omega) rfl ?_
      rw [nI_max (Nat.lt_of_le_of_lt (zmx_le (zdq_le G K u) (zdq_le G K) j) (by decide)) (Nat.lt_of_le_of_lt (zdq_le G K j) (by decide))]
      refine zR_s rfl ?_
      first | refine zR_incn rfl rfl rfl ?_ | refine zR_s rfl ?_
      refine zR_goto rfl rfl ?_
      (have w := ih trivial; simp only [zmx, show zqW K u j = _ from c1, cond_true, cond_false] at w; exact w)
/-- u and what lies within it, below j -/
def zgo (K : Nat → Option Nat) (u j i : Nat) : Prop := i < j ∧ (i = u ∨ zlw K u 4 (K i) = true)
theorem zgo_dec (K : Nat → Option Nat) (u j i : Nat) : zgo K u j i ∨ ¬ zgo K u j i := Classical.em _
def zcar (G : Nat → Nat → Int32) (K : Nat → Option Nat) (u : Nat) (p : Int32) (j : Nat) : Nat → Nat → Int32 := fun i => bif decide (i < j) && (decide (i = u) || zlw K u 4 (K i)) then upd (G i) 6 p else G i
theorem zcar_0 (p : Int32) : zcar G K u p 0 = G := by funext i; simp [zcar]
theorem zcar_s {p : Int32} {j : Nat} : zcar G K u p (j + 1) = bif (decide (j = u) || zlw K u 4 (K j)) then updG (zcar G K u p j) j 6 p else zcar G K u p j := by
  cases hb : (decide (j = u) || zlw K u 4 (K j))
  · funext i
    simp only [zcar, cond_false]
    by_cases e : i = j
    · subst e; simp [hb]
    · rw [show decide (i < j + 1) = decide (i < j) from by simp; omega]
  · funext i
    simp only [zcar, updG, cond_true]
    by_cases e : i = j
    · subst e; simp [hb]
    · simp only [if_neg e]
      rw [show decide (i < j + 1) = decide (i < j) from by simp; omega]
theorem m_carry {p : Int32} (hK : zKb K) (hM : N 1 = nI M) (hm : M ≤ 64) : zMe sL sx (d + 1) 56 [.ref 0, .ref (u + 11), .int p] (zCs N F G K Z ++ tl) (.returned none) (zCs N F (zcar G K u p M) K Z ++ tl) := by
  show zR sL sx _ 56 0 [.ref 0, .ref (u + 11), .int p, .retAddr 0] [] _ _ _
  refine zR_cst (v := 0) rfl rfl rfl ?_
  refine zR_s rfl ?_
  skip
  refine zR_loop0 (M := M) (fun j => [.ref 0, .ref (u + 11), .int p, .int (nI j)]) (fun j => zCs N F (zcar G K u p j) K Z ++ tl) (fun _ => True) rfl (by rw [zcar_0]) trivial (fun _ => ?_) (fun j hj _ ih => ?_)
  · refine zR_s rfl ?_
    refine zR_s rfl ?_
    refine zR_get rfl rfl (zc0) rfl ?_
    refine zR_icge rfl rfl (fun _ => ?_) (fun c => by first | exact absurd ((by rw [hM]; exact Int32.le_refl _)) c | exact absurd c ((by rw [hM]; exact Int32.le_refl _)))
    refine zR_rete rfl rfl ?_ ?_
    all_goals (first | rfl | simp [bI, *])
  · refine zR_s rfl ?_
    refine zR_s rfl ?_
    refine zR_get rfl rfl (zc0) rfl ?_
    refine zR_icge rfl rfl (fun c => by first | exact absurd c ((by rw [hM]; exact nI_ge hj (by omega))) | exact absurd ((by rw [hM]; exact nI_ge hj (by omega))) c) (fun _ => ?_)
    refine zR_s rfl ?_
    refine zR_get rfl rfl (zc0) rfl ?_
    refine zR_s rfl ?_
    refine zR_aldU rfl (by omega) ?_
    refine zR_s rfl ?_
    first | refine zR_aeqr rfl rfl (fun c1 => ?_) (fun c1 => ?_) | refine zR_aeq rfl rfl (fun c1 => ?_) (fun c1 => ?_)
    · refine zR_s rfl ?_
      refine zR_get rfl rfl (zc0) rfl ?_
      refine zR_s rfl ?_
      refine zR_aldU rfl (by omega) ?_
      refine zR_s rfl ?_
      refine zR_putG rfl rfl (show j < 64 by omega) (by decide) rfl ?_
      first | refine zR_incn rfl rfl rfl ?_ | refine zR_s rfl ?_
      refine zR_goto rfl rfl ?_
      (have w := ih trivial; rw [zcar_s] at w; (first | simp only [decide_eq_true c1, Bool.true_or, cond_true] at w | simp only [decide_eq_false c1, c2, Bool.false_or, cond_true, cond_false] at w); exact w)
    · refine zR_s rfl ?_
      refine zR_get rfl rfl (zc0) rfl ?_
      refine zR_s rfl ?_
      refine zR_aldU rfl (by omega) ?_
      refine zR_s rfl ?_
      refine zR_call rfl rfl rfl rfl (zcallok_v (zcU (show j < 64 by omega)) rfl rfl) (m_liesWithin hK (show j < 64 by omega)) ?_
      first | refine zR_df rfl rfl (fun c2 => ?_) (fun c2 => ?_) | refine zR_bf rfl rfl (fun c2 => ?_) (fun c2 => ?_) | refine zR_ifeq rfl rfl (fun c2 => ?_) (fun c2 => ?_)
      · first | refine zR_incn rfl rfl rfl ?_ | refine zR_s rfl ?_
        refine zR_goto rfl rfl ?_
        (have w := ih trivial; rw [zcar_s] at w; (first | simp only [decide_eq_true c1, Bool.true_or, cond_true] at w | simp only [decide_eq_false c1, c2, Bool.false_or, cond_true, cond_false] at w); exact w)
      · refine zR_s rfl ?_
        refine zR_get rfl rfl (zc0) rfl ?_
        refine zR_s rfl ?_
        refine zR_aldU rfl (by omega) ?_
        refine zR_s rfl ?_
        refine zR_putG rfl rfl (show j < 64 by omega) (by decide) rfl ?_
        first | refine zR_incn rfl rfl rfl ?_ | refine zR_s rfl ?_
        refine zR_goto rfl rfl ?_
        (have w := ih trivial; rw [zcar_s] at w; (first | simp only [decide_eq_true c1, Bool.true_or, cond_true] at w | simp only [decide_eq_false c1, c2, Bool.false_or, cond_true, cond_false] at w); exact w)
def ztak (G : Nat → Nat → Int32) (K : Nat → Option Nat) (u : Nat) (s : Int32) (j : Nat) : Nat → Nat → Int32 := fun i => bif decide (i < j) && (decide (i = u) || zlw K u 4 (K i)) then upd (upd (G i) 5 s) 6 (-1) else G i
theorem ztak_0 (p : Int32) : ztak G K u p 0 = G := by funext i; simp [ztak]
theorem ztak_s {p : Int32} {j : Nat} : ztak G K u p (j + 1) = bif (decide (j = u) || zlw K u 4 (K j)) then updG (updG (ztak G K u p j) j 5 p) j 6 (-1) else ztak G K u p j := by
  cases hb : (decide (j = u) || zlw K u 4 (K j))
  · funext i
    simp only [ztak, cond_false]
    by_cases e : i = j
    · subst e; simp [hb]
    · rw [show decide (i < j + 1) = decide (i < j) from by simp; omega]
  · funext i
    simp only [ztak, updG, cond_true]
    by_cases e : i = j
    · subst e; simp [hb]
    · simp only [if_neg e]
      rw [show decide (i < j + 1) = decide (i < j) from by simp; omega]
/-- what doesn't stand lies in nothing -/
def zKn (G : Nat → Nat → Int32) (K : Nat → Option Nat) (j : Nat) : Nat → Option Nat := fun i => bif decide (i < j) && !zst (G i) then none else K i
theorem zKn_0 : zKn G K 0 = K := by funext i; simp [zKn]
theorem zKn_s {j : Nat} : zKn G K (j + 1) = bif zst (G j) then zKn G K j else va_up (zKn G K j) j none := by
  cases hb : zst (G j)
  · funext i
    simp only [zKn, cond_false, va_up]
    by_cases e : i = j
    · subst e; simp [hb]
    · rw [if_neg e, show decide (i < j + 1) = decide (i < j) from by simp; omega]
  · funext i
    simp only [zKn, cond_true]
    by_cases e : i = j
    · subst e; simp [hb]
    · rw [show decide (i < j + 1) = decide (i < j) from by simp; omega]
theorem m_takeAway {s : Int32} (hK : zKb K) (hM : N 1 = nI M) (hm : M ≤ 64) : zMe sL sx (d + 1) 57 [.ref 0, .ref (u + 11), .int s] (zCs N F G K Z ++ tl) (.returned none) (zCs N F (ztak G K u s M) (zKn (ztak G K u s M) K M) Z ++ tl) := by
  show zR sL sx _ 57 0 [.ref 0, .ref (u + 11), .int s, .retAddr 0] [] _ _ _
  refine zR_cst (v := 0) rfl rfl rfl ?_
  refine zR_s rfl ?_
  skip
  refine zR_loop0 (M := M) (fun j => [.ref 0, .ref (u + 11), .int s, .int (nI j)]) (fun j => zCs N F (ztak G K u s j) K Z ++ tl) (fun _ => True) rfl (by rw [ztak_0]) trivial (fun _ => ?_) (fun j hj _ ih => ?_)
  · refine zR_s rfl ?_
    refine zR_s rfl ?_
    refine zR_get rfl rfl (zc0) rfl ?_
    refine zR_icge rfl rfl (fun _ => ?_) (fun c => by first | exact absurd ((by rw [hM]; exact Int32.le_refl _)) c | exact absurd c ((by rw [hM]; exact Int32.le_refl _)))
    refine zR_cst (v := 0) rfl rfl rfl ?_
    refine zR_s rfl ?_
    skip
    refine zR_loop0 (M := M) (fun j => [.ref 0, .ref (u + 11), .int s, .int (nI j)]) (fun j => zCs N F (ztak G K u s M) (zKn (ztak G K u s M) K j) Z ++ tl) (fun _ => True) rfl (by rw [zKn_0]) trivial (fun _ => ?_) (fun j hj _ ih => ?_)
    · refine zR_s rfl ?_
      refine zR_s rfl ?_
      refine zR_get rfl rfl (zc0) rfl ?_
      refine zR_icge rfl rfl (fun _ => ?_) (fun c => by first | exact absurd ((by rw [hM]; exact Int32.le_refl _)) c | exact absurd c ((by rw [hM]; exact Int32.le_refl _)))
      refine zR_rete rfl rfl ?_ ?_
      all_goals (first | rfl | simp [bI, *])
    · refine zR_s rfl ?_
      first | refine zR_s rfl ?_ | refine zR_alo rfl rfl rfl ?_
      refine zR_get rfl rfl (zc0) rfl ?_
      refine zR_icge rfl rfl (fun c => by first | exact absurd c ((by rw [hM]; exact nI_ge hj (by omega))) | exact absurd ((by rw [hM]; exact nI_ge hj (by omega))) c) (fun _ => ?_)
      first | refine zR_s rfl ?_ | refine zR_alo rfl rfl rfl ?_
      refine zR_get rfl rfl (zc0) rfl ?_
      refine zR_s rfl ?_
      refine zR_aldU rfl (by omega) ?_
      refine zR_call rfl rfl rfl rfl (zcallok_v (zcU (show j < 64 by omega)) rfl rfl) (m_stands (zcU (show j < 64 by omega))) ?_
      first | refine zR_dt rfl rfl (fun c1 => ?_) (fun c1 => ?_) | refine zR_bt rfl rfl (fun c1 => ?_) (fun c1 => ?_) | refine zR_ifne rfl rfl (fun c1 => ?_) (fun c1 => ?_)
      · first | refine zR_incn rfl rfl rfl ?_ | refine zR_s rfl ?_
        refine zR_goto rfl rfl ?_
        (have w := ih trivial; rw [zKn_s] at w; (first | rw [show zst (ztak G K u s M j) = true from decide_eq_true c1] at w | rw [show zst (ztak G K u s M j) = false from decide_eq_false c1] at w); exact w)
      · first | refine zR_s rfl ?_ | refine zR_alo rfl rfl rfl ?_
        refine zR_get rfl rfl (zc0) rfl ?_
        refine zR_s rfl ?_
        refine zR_aldU rfl (by omega) ?_
        refine zR_nul rfl ?_
        refine zR_putK rfl rfl (show j < 64 by omega) rfl ?_
        first | refine zR_incn rfl rfl rfl ?_ | refine zR_s rfl ?_
        refine zR_goto rfl rfl ?_
        (have w := ih trivial; rw [zKn_s] at w; (first | rw [show zst (ztak G K u s M j) = true from decide_eq_true c1] at w | rw [show zst (ztak G K u s M j) = false from decide_eq_false c1] at w); exact w)
  · refine zR_s rfl ?_
    refine zR_s rfl ?_
    refine zR_get rfl rfl (zc0) rfl ?_
    refine zR_icge rfl rfl (fun c => by first | exact absurd c ((by rw [hM]; exact nI_ge hj (by omega))) | exact absurd ((by rw [hM]; exact nI_ge hj (by omega))) c) (fun _ => ?_)
    refine zR_s rfl ?_
    refine zR_get rfl rfl (zc0) rfl ?_
    refine zR_s rfl ?_
    refine zR_aldU rfl (by omega) ?_
    refine zR_s rfl ?_
    first | refine zR_aeqr rfl rfl (fun c1 => ?_) (fun c1 => ?_) | refine zR_aeq rfl rfl (fun c1 => ?_) (fun c1 => ?_)
    · refine zR_s rfl ?_
      refine zR_get rfl rfl (zc0) rfl ?_
      refine zR_s rfl ?_
      refine zR_aldU rfl (by omega) ?_
      refine zR_s rfl ?_
      refine zR_putG rfl rfl (show j < 64 by omega) (by decide) rfl ?_
      refine zR_s rfl ?_
      refine zR_get rfl rfl (zc0) rfl ?_
      refine zR_s rfl ?_
      refine zR_aldU rfl (by omega) ?_
      refine zR_cst (v := (-1)) rfl rfl rfl ?_
      refine zR_putG rfl rfl (show j < 64 by omega) (by decide) rfl ?_
      first | refine zR_incn rfl rfl rfl ?_ | refine zR_s rfl ?_
      refine zR_goto rfl rfl ?_
      (have w := ih trivial; rw [ztak_s] at w; (first | simp only [decide_eq_true c1, Bool.true_or, cond_true] at w | simp only [decide_eq_false c1, c2, Bool.false_or, cond_true, cond_false] at w); exact w)
    · refine zR_s rfl ?_
      refine zR_get rfl rfl (zc0) rfl ?_
      refine zR_s rfl ?_
      refine zR_aldU rfl (by omega) ?_
      refine zR_s rfl ?_
      refine zR_call rfl rfl rfl rfl (zcallok_v (zcU (show j < 64 by omega)) rfl rfl) (m_liesWithin hK (show j < 64 by omega)) ?_
      first | refine zR_df rfl rfl (fun c2 => ?_) (fun c2 => ?_) | refine zR_bf rfl rfl (fun c2 => ?_) (fun c2 => ?_) | refine zR_ifeq rfl rfl (fun c2 => ?_) (fun c2 => ?_)
      · first | refine zR_incn rfl rfl rfl ?_ | refine zR_s rfl ?_
        refine zR_goto rfl rfl ?_
        (have w := ih trivial; rw [ztak_s] at w; (first | simp only [decide_eq_true c1, Bool.true_or, cond_true] at w | simp only [decide_eq_false c1, c2, Bool.false_or, cond_true, cond_false] at w); exact w)
      · refine zR_s rfl ?_
        refine zR_get rfl rfl (zc0) rfl ?_
        refine zR_s rfl ?_
        refine zR_aldU rfl (by omega) ?_
        refine zR_s rfl ?_
        refine zR_putG rfl rfl (show j < 64 by omega) (by decide) rfl ?_
        refine zR_s rfl ?_
        refine zR_get rfl rfl (zc0) rfl ?_
        refine zR_s rfl ?_
        refine zR_aldU rfl (by omega) ?_
        refine zR_cst (v := (-1)) rfl rfl rfl ?_
        refine zR_putG rfl rfl (show j < 64 by omega) (by decide) rfl ?_
        first | refine zR_incn rfl rfl rfl ?_ | refine zR_s rfl ?_
        refine zR_goto rfl rfl ?_
        (have w := ih trivial; rw [ztak_s] at w; (first | simp only [decide_eq_true c1, Bool.true_or, cond_true] at w | simp only [decide_eq_false c1, c2, Bool.false_or, cond_true, cond_false] at w); exact w)
theorem m_isPlain (hK : zKb K) (hM : N 1 = nI M) (hm : M ≤ 64) (hi : i < 64) : zMe sL sx (d + 2) 60 [.ref 0, .ref (i + 11)] (zCs N F G K Z ++ tl) (.returned (some (.int (bI (decide (Z i = 0 ∧ zcnt (zqW K i) M = 0)))))) (zCs N F G K Z ++ tl) := by
  have e0 : nI (zcnt (zqW K i) M) = 0 ↔ zcnt (zqW K i) M = 0 := nI_eq (b := 0) (Nat.lt_of_le_of_lt (zcnt_le _ _) (by omega)) (by omega)
  show zR sL sx _ 60 0 [.ref 0, .ref (i + 11)] [] _ _ _
  refine zR_s rfl ?_
  refine zR_get rfl rfl (zcU hi) rfl ?_
  refine zR_lc (v := 0) rfl rfl ?_
  refine zR_s rfl ?_
  first | refine zR_dt rfl rfl (fun c1 => ?_) (fun c1 => ?_) | refine zR_bt rfl rfl (fun c1 => ?_) (fun c1 => ?_) | refine zR_lne rfl rfl (fun c1 => ?_) (fun c1 => ?_)
  · refine zR_cst (v := 0) rfl rfl rfl ?_
    first | refine zR_rete rfl rfl ?_ ?_ | refine zR_retb rfl rfl ?_ ?_
    all_goals (first | rfl | simp [bI, c1, e0.mp c2] | simp [bI, c1, show ¬ zcnt (zqW K i) M = 0 from fun q => c2 (e0.mpr q)] | simp [bI, c1])
  · refine zR_s rfl ?_
    refine zR_s rfl ?_
    refine zR_call rfl rfl rfl rfl (zcallok_v (zc0) rfl rfl) (m_unitsWithin hK hM hm) ?_
    first | refine zR_dt rfl rfl (fun c2 => ?_) (fun c2 => ?_) | refine zR_bt rfl rfl (fun c2 => ?_) (fun c2 => ?_) | refine zR_ifne rfl rfl (fun c2 => ?_) (fun c2 => ?_)
    · refine zR_cst (v := 0) rfl rfl rfl ?_
      first | refine zR_rete rfl rfl ?_ ?_ | refine zR_retb rfl rfl ?_ ?_
      all_goals (first | rfl | simp [bI, c1, e0.mp c2] | simp [bI, c1, show ¬ zcnt (zqW K i) M = 0 from fun q => c2 (e0.mpr q)] | simp [bI, c1])
    · refine zR_cst (v := 1) rfl rfl rfl ?_
      refine zR_s rfl ?_
      first | refine zR_rete rfl rfl ?_ ?_ | refine zR_retb rfl rfl ?_ ?_
      all_goals (first | rfl | simp [bI, c1, e0.mp c2] | simp [bI, c1, show ¬ zcnt (zqW K i) M = 0 from fun q => c2 (e0.mpr q)] | simp [bI, c1])
theorem m_canLieIn {w : Nat} (hK : zKb K) (hM : N 1 = nI M) (hm : M ≤ 64) (hi : i < 64) (hw : w < 64) : zMe sL sx (d + 3) 58 [.ref 0, .ref (i + 11), .ref (w + 11)] (zCs N F G K Z ++ tl) (.returned (some (.int (bI (decide (zst (G i) = true ∧ zst (G w) = true ∧ G i 6 = G w 6 ∧ ¬ K i = some w ∧ ¬ i = w ∧ zlw K i 4 (K w) = false ∧ nI (zdq G K w) + (nI (zmx (zqW K i) (zdq G K) (zdq G K i) M) - nI (zdq G K i) + 1) ≤ 5)))))) (zCs N F G K Z ++ tl) := by
  show zR sL sx _ 58 0 [.ref 0, .ref (i + 11), .ref (w + 11)] [] _ _ _
  refine zR_s rfl ?_
  first | refine zR_call rfl rfl rfl rfl (zcallok_v (zcU hi) rfl rfl) (m_stands (zcU hi)) ?_ | refine zR_call rfl rfl rfl rfl (zcallok_v (zcU hw) rfl rfl) (m_stands (zcU hw)) ?_
  first | refine zR_df rfl rfl (fun c1 => ?_) (fun c1 => ?_) | refine zR_bf rfl rfl (fun c1 => ?_) (fun c1 => ?_) | refine zR_ifeq rfl rfl (fun c1 => ?_) (fun c1 => ?_)
  · refine zR_cst (v := 0) rfl rfl rfl ?_
    first | refine zR_rete rfl rfl ?_ ?_ | refine zR_retb rfl rfl ?_ ?_
    all_goals (first | rfl | simp [bI, zst, *])
  · refine zR_s rfl ?_
    first | refine zR_call rfl rfl rfl rfl (zcallok_v (zcU hi) rfl rfl) (m_stands (zcU hi)) ?_ | refine zR_call rfl rfl rfl rfl (zcallok_v (zcU hw) rfl rfl) (m_stands (zcU hw)) ?_
    first | refine zR_df rfl rfl (fun c2 => ?_) (fun c2 => ?_) | refine zR_bf rfl rfl (fun c2 => ?_) (fun c2 => ?_) | refine zR_ifeq rfl rfl (fun c2 => ?_) (fun c2 => ?_)
    · refine zR_cst (v := 0) rfl rfl rfl ?_
      first | refine zR_rete rfl rfl ?_ ?_ | refine zR_retb rfl rfl ?_ ?_
      all_goals (first | rfl | simp [bI, zst, *])
    · refine zR_s rfl ?_
      first | refine zR_get rfl rfl (zcU hi) rfl ?_ | refine zR_get rfl rfl (zcU hw) rfl ?_
      refine zR_s rfl ?_
      first | refine zR_get rfl rfl (zcU hi) rfl ?_ | refine zR_get rfl rfl (zcU hw) rfl ?_
      refine zR_icne rfl rfl (fun c3 => ?_) (fun c3 => ?_)
      · refine zR_cst (v := 0) rfl rfl rfl ?_
        first | refine zR_rete rfl rfl ?_ ?_ | refine zR_retb rfl rfl ?_ ?_
        all_goals (first | rfl | simp [bI, zst, *])
      · refine zR_s rfl ?_
        first | refine zR_get rfl rfl (zcU hi) rfl ?_ | refine zR_get rfl rfl (zcU hw) rfl ?_
        refine zR_s rfl ?_
        first | refine zR_aeqr rfl rfl (fun c4 => ?_) (fun c4 => ?_) | refine zR_aeq (b := some w) rfl rfl (fun c4 => ?_) (fun c4 => ?_) | refine zR_aeq rfl rfl (fun c4 => ?_) (fun c4 => ?_)
        · refine zR_cst (v := 0) rfl rfl rfl ?_
          first | refine zR_rete rfl rfl ?_ ?_ | refine zR_retb rfl rfl ?_ ?_
          all_goals (first | rfl | simp [bI, zst, *])
        · refine zR_s rfl ?_
          refine zR_s rfl ?_
          first | refine zR_aeqr rfl rfl (fun c5 => ?_) (fun c5 => ?_) | refine zR_aeq (b := some w) rfl rfl (fun c5 => ?_) (fun c5 => ?_) | refine zR_aeq rfl rfl (fun c5 => ?_) (fun c5 => ?_)
          · refine zR_cst (v := 0) rfl rfl rfl ?_
            first | refine zR_rete rfl rfl ?_ ?_ | refine zR_retb rfl rfl ?_ ?_
            all_goals (first | rfl | simp [bI, zst, *])
          · refine zR_s rfl ?_
            refine zR_s rfl ?_
            refine zR_call rfl rfl rfl rfl (zcallok_v (zcU hw) rfl rfl) (m_liesWithin hK hw) ?_
            first | refine zR_dt rfl rfl (fun c6 => ?_) (fun c6 => ?_) | refine zR_bt rfl rfl (fun c6 => ?_) (fun c6 => ?_) | refine zR_ifne rfl rfl (fun c6 => ?_) (fun c6 => ?_)
            · refine zR_cst (v := 0) rfl rfl rfl ?_
              first | refine zR_rete rfl rfl ?_ ?_ | refine zR_retb rfl rfl ?_ ?_
              all_goals (first | rfl | simp [bI, zst, *])
            · refine zR_s rfl ?_
              refine zR_call rfl rfl rfl rfl (zcallok_v (zcU hw) rfl rfl) (m_depth2 hK hw) ?_
              refine zR_s rfl ?_
              refine zR_s rfl ?_
              refine zR_call rfl rfl rfl rfl (zcallok_v (zc0) rfl rfl) (m_levels hK hM hm hi) ?_
              refine zR_iadd rfl ?_
              refine zR_cst (v := 5) rfl rfl rfl ?_
              refine zR_mgt rfl rfl (fun c7 => ?_) (fun c7 => ?_)
              · refine zR_cst (v := 0) rfl rfl rfl ?_
                first | refine zR_rete rfl rfl ?_ ?_ | refine zR_retb rfl rfl ?_ ?_
                all_goals (first | rfl | simp [bI, zst, *])
              · refine zR_cst (v := 1) rfl rfl rfl ?_
                refine zR_s rfl ?_
                first | refine zR_rete rfl rfl ?_ ?_ | refine zR_retb rfl rfl ?_ ?_
                all_goals (first | rfl | simp [bI, zst, *])
theorem m_canJoin {w : Nat} (hK : zKb K) (hM : N 1 = nI M) (hm : M ≤ 64) (hi : i < 64) (hw : w < 64) : zMe sL sx (d + 3) 59 [.ref 0, .ref (i + 11), .ref (w + 11)] (zCs N F G K Z ++ tl) (.returned (some (.int (bI (decide (¬ i = w ∧ zst (G i) = true ∧ zst (G w) = true ∧ (G i 0 = G w 0 ∧ G i 3 = G w 3 ∧ G i 5 = G w 5 ∧ G i 6 = G w 6 ∧ K i = K w) ∧ (Z i = 0 ∧ zcnt (zqW K i) M = 0) ∧ (Z w = 0 ∧ zcnt (zqW K w) M = 0) ∧ G i 4 + G w 4 ≤ 1000)))))) (zCs N F G K Z ++ tl) := by
  show zR sL sx _ 59 0 [.ref 0, .ref (i + 11), .ref (w + 11)] [] _ _ _
  refine zR_s rfl ?_
  refine zR_s rfl ?_
  first | refine zR_aeqr rfl rfl (fun c1 => ?_) (fun c1 => ?_) | refine zR_aeq rfl rfl (fun c1 => ?_) (fun c1 => ?_)
  · refine zR_cst (v := 0) rfl rfl rfl ?_
    first | refine zR_rete rfl rfl ?_ ?_ | refine zR_retb rfl rfl ?_ ?_
    all_goals (first | rfl | simp [bI, zst, *])
  · refine zR_s rfl ?_
    first | refine zR_call rfl rfl rfl rfl (zcallok_v (zcU hi) rfl rfl) (m_stands (zcU hi)) ?_ | refine zR_call rfl rfl rfl rfl (zcallok_v (zcU hw) rfl rfl) (m_stands (zcU hw)) ?_
    first | refine zR_df rfl rfl (fun c2 => ?_) (fun c2 => ?_) | refine zR_bf rfl rfl (fun c2 => ?_) (fun c2 => ?_) | refine zR_ifeq rfl rfl (fun c2 => ?_) (fun c2 => ?_)
    · refine zR_cst (v := 0) rfl rfl rfl ?_
      first | refine zR_rete rfl rfl ?_ ?_ | refine zR_retb rfl rfl ?_ ?_
      all_goals (first | rfl | simp [bI, zst, *])
    · refine zR_s rfl ?_
      first | refine zR_call rfl rfl rfl rfl (zcallok_v (zcU hi) rfl rfl) (m_stands (zcU hi)) ?_ | refine zR_call rfl rfl rfl rfl (zcallok_v (zcU hw) rfl rfl) (m_stands (zcU hw)) ?_
      first | refine zR_df rfl rfl (fun c3 => ?_) (fun c3 => ?_) | refine zR_bf rfl rfl (fun c3 => ?_) (fun c3 => ?_) | refine zR_ifeq rfl rfl (fun c3 => ?_) (fun c3 => ?_)
      · refine zR_cst (v := 0) rfl rfl rfl ?_
        first | refine zR_rete rfl rfl ?_ ?_ | refine zR_retb rfl rfl ?_ ?_
        all_goals (first | rfl | simp [bI, zst, *])
      · refine zR_s rfl ?_
        refine zR_s rfl ?_
        refine zR_call rfl rfl rfl rfl (zcallok_v (zcU hi) rfl rfl) (m_isLike hi hw) ?_
        first | refine zR_df rfl rfl (fun c4 => ?_) (fun c4 => ?_) | refine zR_bf rfl rfl (fun c4 => ?_) (fun c4 => ?_) | refine zR_ifeq rfl rfl (fun c4 => ?_) (fun c4 => ?_)
        · refine zR_cst (v := 0) rfl rfl rfl ?_
          first | refine zR_rete rfl rfl ?_ ?_ | refine zR_retb rfl rfl ?_ ?_
          all_goals (first | rfl | simp [bI, zst, *])
        · refine zR_s rfl ?_
          refine zR_s rfl ?_
          first | refine zR_call rfl rfl rfl rfl (zcallok_v (zc0) rfl rfl) (m_isPlain hK hM hm hi) ?_ | refine zR_call rfl rfl rfl rfl (zcallok_v (zc0) rfl rfl) (m_isPlain hK hM hm hw) ?_
          first | refine zR_df rfl rfl (fun c5 => ?_) (fun c5 => ?_) | refine zR_bf rfl rfl (fun c5 => ?_) (fun c5 => ?_) | refine zR_ifeq rfl rfl (fun c5 => ?_) (fun c5 => ?_)
          · refine zR_cst (v := 0) rfl rfl rfl ?_
            first | refine zR_rete rfl rfl ?_ ?_ | refine zR_retb rfl rfl ?_ ?_
            all_goals (first | rfl | simp [bI, zst, *])
          · refine zR_s rfl ?_
            refine zR_s rfl ?_
            first | refine zR_call rfl rfl rfl rfl (zcallok_v (zc0) rfl rfl) (m_isPlain hK hM hm hi) ?_ | refine zR_call rfl rfl rfl rfl (zcallok_v (zc0) rfl rfl) (m_isPlain hK hM hm hw) ?_
            first | refine zR_df rfl rfl (fun c6 => ?_) (fun c6 => ?_) | refine zR_bf rfl rfl (fun c6 => ?_) (fun c6 => ?_) | refine zR_ifeq rfl rfl (fun c6 => ?_) (fun c6 => ?_)
            · refine zR_cst (v := 0) rfl rfl rfl ?_
              first | refine zR_rete rfl rfl ?_ ?_ | refine zR_retb rfl rfl ?_ ?_
              all_goals (first | rfl | simp [bI, zst, *])
            · refine zR_s rfl ?_
              first | refine zR_get rfl rfl (zcU hi) rfl ?_ | refine zR_get rfl rfl (zcU hw) rfl ?_
              refine zR_s rfl ?_
              first | refine zR_get rfl rfl (zcU hi) rfl ?_ | refine zR_get rfl rfl (zcU hw) rfl ?_
              refine zR_iadd rfl ?_
              refine zR_cst (v := 1000) rfl rfl rfl ?_
              refine zR_mgt rfl rfl (fun c7 => ?_) (fun c7 => ?_)
              · refine zR_cst (v := 0) rfl rfl rfl ?_
                first | refine zR_rete rfl rfl ?_ ?_ | refine zR_retb rfl rfl ?_ ?_
                all_goals (first | rfl | simp [bI, zst, *])
              · refine zR_cst (v := 1) rfl rfl rfl ?_
                refine zR_s rfl ?_
                first | refine zR_rete rfl rfl ?_ ?_ | refine zR_retb rfl rfl ?_ ?_
                all_goals (first | rfl | simp [bI, zst, *])
theorem m_isSerialInUse {n : Int64} (hM : N 1 = nI M) (hm : M ≤ 64) : zMe sL sx d 61 [.ref 0, .long n] (zCs N F G K Z ++ tl) (.returned (some (.int (bI (@decide (∃ i, i < M ∧ Z i = n ∧ ¬ G i 5 = 5) (Classical.propDecidable _)))))) (zCs N F G K Z ++ tl) := by
  show zR sL sx _ 61 0 [.ref 0, .long n, .retAddr 0, .retAddr 0] [] _ _ _
  refine zR_cst (v := 0) rfl rfl rfl ?_
  refine zR_s rfl ?_
  skip
  refine zR_loop0 (M := M) (fun j => [.ref 0, .long n, .retAddr 0, .int (nI j)]) (fun _ => zCs N F G K Z ++ tl) (fun j => ∀ i, i < j → ¬ (Z i = n ∧ ¬ G i 5 = 5)) rfl rfl (fun i hi => absurd hi (by omega)) (fun hI => ?_) (fun j hj hI ih => ?_)
  · refine zR_s rfl ?_
    refine zR_s rfl ?_
    refine zR_get rfl rfl (zc0) rfl ?_
    refine zR_icge rfl rfl (fun _ => ?_) (fun c => by first | exact absurd ((by rw [hM]; exact Int32.le_refl _)) c | exact absurd c ((by rw [hM]; exact Int32.le_refl _)))
    (rw [bI_n _ _ (fun ⟨i, h1, h2⟩ => hI i h1 h2)]; refine zR_s rfl ?_; exact zR_ret rfl rfl)
  · refine zR_s rfl ?_
    refine zR_s rfl ?_
    first | refine zR_get rfl rfl (zc0) rfl ?_ | refine zR_get rfl rfl (zcU (show j < 64 by omega)) rfl ?_
    refine zR_icge rfl rfl (fun c => by first | exact absurd c ((by rw [hM]; exact nI_ge hj (by omega))) | exact absurd ((by rw [hM]; exact nI_ge hj (by omega))) c) (fun _ => ?_)
    refine zR_s rfl ?_
    first | refine zR_get rfl rfl (zc0) rfl ?_ | refine zR_get rfl rfl (zcU (show j < 64 by omega)) rfl ?_
    refine zR_s rfl ?_
    refine zR_aldU rfl (by omega) ?_
    first | refine zR_get rfl rfl (zc0) rfl ?_ | refine zR_get rfl rfl (zcU (show j < 64 by omega)) rfl ?_
    refine zR_s rfl ?_
    refine zR_s rfl ?_
    first | refine zR_dt rfl rfl (fun c1 => ?_) (fun c1 => ?_) | refine zR_bt rfl rfl (fun c1 => ?_) (fun c1 => ?_) | refine zR_lne rfl rfl (fun c1 => ?_) (fun c1 => ?_)
    · first | refine zR_incn rfl rfl rfl ?_ | refine zR_s rfl ?_
      refine zR_goto rfl rfl ?_
      exact ih (fun i hi => by by_cases e : i = j; { subst e; intro q; first | exact c1 q.1 | exact q.2 c2 }; exact hI i (by omega))
    · refine zR_s rfl ?_
      first | refine zR_get rfl rfl (zc0) rfl ?_ | refine zR_get rfl rfl (zcU (show j < 64 by omega)) rfl ?_
      refine zR_s rfl ?_
      refine zR_aldU rfl (by omega) ?_
      first | refine zR_get rfl rfl (zc0) rfl ?_ | refine zR_get rfl rfl (zcU (show j < 64 by omega)) rfl ?_
      refine zR_cst (v := 5) rfl rfl rfl ?_
      refine zR_iceq rfl rfl (fun c2 => ?_) (fun c2 => ?_)
      · first | refine zR_incn rfl rfl rfl ?_ | refine zR_s rfl ?_
        refine zR_goto rfl rfl ?_
        exact ih (fun i hi => by by_cases e : i = j; { subst e; intro q; first | exact c1 q.1 | exact q.2 c2 }; exact hI i (by omega))
      · (rw [bI_d _ _ ⟨j, hj, c1, c2⟩]; refine zR_s rfl ?_; exact zR_ret rfl rfl)
end ZCL
