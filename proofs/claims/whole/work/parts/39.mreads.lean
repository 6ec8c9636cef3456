/-! the reference's reads, and its day -/
theorem i32_s0 (i : Int32) : i - nI 0 = i := by rw [show nI 0 = 0 from rfl]; simp
theorem i32_sz {i x : Int32} : i - x = 0 ↔ x = i := by
  constructor
  · intro h
    have : i - x + x = 0 + x := by rw [h]
    rw [Int32.sub_add_cancel, Int32.zero_add] at this
    exact this.symm
  · intro h; subst h; exact Int32.sub_self _
theorem i32_dec {i : Int32} {k : Nat} : i - nI k + Int32.ofInt (-1) = i - nI (k + 1) := by
  rw [nI_succ, show Int32.ofInt (-1) = -1 from rfl, Int32.sub_eq_add_neg, Int32.sub_eq_add_neg, Int32.neg_add, Int32.sub_eq_add_neg, Int32.add_assoc]
theorem zfst_s {p : Nat → Bool} {w : Int32} {j : Nat} (e : p j = false ∨ ¬ nI (zcnt p j) = w) : zfst p w (j + 1) = zfst p w j := by
  simp only [zfst]
  cases zfst p w j with
  | some r => rfl
  | none => rcases e with e | e <;> simp [e]
theorem zcnt_mono {p : Nat → Bool} {a b : Nat} (h : a ≤ b) : zcnt p a ≤ zcnt p b := by
  induction b with
  | zero => have : a = 0 := by omega
            subst this; exact Nat.le_refl _
  | succ b ih =>
    by_cases e : a = b + 1
    · subst e; exact Nat.le_refl _
    · have := ih (by omega); simp only [zcnt]; omega
theorem zfst_u {p : Nat → Bool} {w : Int32} {j : Nat} (hj : j < 1000) (e : nI (zcnt p j) = w) : zfst p w j = none := by
  cases hq : zfst p w j with
  | none => rfl
  | some r =>
    obtain ⟨h1, h2, h3⟩ := zfst_lt hq
    have h4 := zcnt_mono (p := p) (show r + 1 ≤ j by omega)
    rw [zcnt_t h2] at h4
    have h5 := zcnt_le p j
    have h6 := (nI_eq (a := zcnt p r) (b := zcnt p j) (by omega) (by omega)).mp (h3.trans e.symm)
    omega
theorem zfst_neg {p : Nat → Bool} {w : Int32} (hw : ¬ 0 ≤ w) : ∀ n, n < 1000 → zfst p w n = none := by
  intro n hn
  cases hq : zfst p w n with
  | none => rfl
  | some r =>
    obtain ⟨h1, h2, h3⟩ := zfst_lt hq
    have h5 := zcnt_le p r
    exact absurd (by rw [← h3]; exact nI_pos' (by omega)) hw
section ZME
variable {sL : Nat} {sx : Nat → Int32} {d : Nat} {h : zH}
variable {N N' : Nat → Int32} {F F' G G' : Nat → Nat → Int32} {K : Nat → Option Nat} {H : Nat → Int32} {Z : Nat → Int64} {c : Int32} {B : Nat → Int32} {hc t : zH} {M A l R u i : Nat}
theorem d_day {e : Int32} (h75 : hc.length = 75) (hI : zInv N F G K Z M A l R) (hH : zHK M K H) : zMe sL sx 11 93 [.ref 75, .int e] (hc ++ (zMd N F G H Z c B ++ t)) (zOm (some (.int 0)) (q_day N F G K Z M e)) (zHm kfP hc t N F G H Z B H B (q_day N F G K Z M e)) := by
  have hA := hI.2.2.1
  have hM := i_m1 hI
  have hm := i_m hI
  have lp : N 3 ≤ e ∧ e ≤ 1000 → zR sL sx 11 93 42 [.ref 75, .int e, .int 0, .int 0] [] (hc ++ (zMd (upd N 3 e) F G H Z 0 B ++ t)) (zOm (some (.int 0)) (q_day N F G K Z M e)) (zHm kfP hc t N F G H Z B H B (q_day N F G K Z M e)) := by
    intro a1
    have hM2 : upd N 3 e 1 = nI M := hM
    refine zR_loop0 (M := M) (fun k => [.ref 75, .int e, .int (nI (zcnt (zqX G e) k)), .int (nI k)]) (fun k => hc ++ (zMd (upd N 3 e) F (zxp G e k) H Z 0 B ++ t)) (fun _ => True) rfl (by rw [zxp_0]) trivial (fun _ => ?_) (fun k hk _ ih => ?_)
    · refine zR_s rfl ?_
      refine zR_s rfl ?_
      refine zR_get rfl rfl (zm0 h75) rfl ?_
      refine zR_icge rfl rfl (fun _ => ?_) (fun c => by first | exact absurd ((by rw [hM2]; exact Int32.le_refl _)) c | exact absurd c ((by rw [hM2]; exact Int32.le_refl _)))
      refine zR_s rfl ?_
      first | refine zR_rete rfl rfl ?_ ?_ | refine zR_retb rfl rfl ?_ ?_
      all_goals (simp only [zOm, zHm, q_day, if_pos a1])
    · obtain ⟨a, ha, e0, e1, e2⟩ := (i_un hI hk).1
      have hl := hI.1.2
      have ek : zxp G e k k = G k := by simp [zxp]
      have w := ih trivial
      have x1 : ¬ G k 5 ≤ 1 → zqX G e k = false := by
        intro q
        refine decide_eq_false fun q2 => q ?_
        rcases q2.1 with q3 | q3 <;> rw [q3] <;> decide
      have x2 : ¬ F 3 a < upd N 3 e 3 → zqX G e k = false := fun q => decide_eq_false fun q2 => q (by rw [← e2]; exact q2.2)
      have x3 : G k 5 ≤ 1 → F 3 a < upd N 3 e 3 → zqX G e k = true := by
        intro q1 q2
        refine decide_eq_true ⟨?_, by rw [e2]; exact q2⟩
        rcases i_st hI hk with q3 | q3 | q3 | q3 | q3 | q3
        · exact Or.inl q3
        · exact Or.inr q3
        all_goals (rw [q3] at q1; exact absurd q1 (by decide))
      have y0 : zqX G e k = false → zxp G e (k + 1) = zxp G e k := fun q => by rw [zxp_s, if_neg (of_decide_eq_false q)]
      have y1 : zqX G e k = true → zxp G e (k + 1) = updG (zxp G e k) k 5 3 := fun q => by rw [zxp_s, if_pos (of_decide_eq_true q)]
      refine zR_s rfl ?_
      refine zR_s rfl ?_
      refine zR_get rfl rfl (zm0 h75) rfl ?_
      refine zR_icge rfl rfl (fun c => by first | exact absurd c ((by rw [hM2]; exact nI_ge hk (by omega))) | exact absurd ((by rw [hM2]; exact nI_ge hk (by omega))) c) (fun _ => ?_)
      refine zR_s rfl ?_
      refine zR_get rfl rfl (zm0 h75) rfl ?_
      refine zR_s rfl ?_
      refine zR_ildMG 5 rfl h75 (by decide) ((show k < 64 by omega)) ?_
      rw [ek]
      refine zR_cst (v := 1) rfl rfl rfl ?_
      refine zR_mgt rfl rfl (fun c1 => ?_) (fun c1 => ?_)
      · first | refine zR_incn rfl rfl rfl ?_ | refine zR_s rfl ?_
        refine zR_goto rfl rfl ?_
        first | (rw [zcnt_f (x1 c1), y0 (x1 c1)] at w; exact w) | (rw [zcnt_f (x2 c2), y0 (x2 c2)] at w; exact w) | (rw [zcnt_t (x3 c1 c2), y1 (x3 c1 c2)] at w; exact w)
      · refine zR_s rfl ?_
        refine zR_s rfl ?_
        refine zR_get rfl rfl (zm0 h75) rfl ?_
        refine zR_s rfl ?_
        refine zR_ildMG 0 rfl h75 (by decide) ((show k < 64 by omega)) ?_
        rw [ek, e0]
        refine zR_call rfl rfl rfl rfl (zcallok_v (zm0 h75) rfl rfl) (m_misOver h75 (show a < 16 by omega)) ?_
        first | refine zR_dt rfl rfl (fun c2 => ?_) (fun c2 => ?_) | refine zR_bt rfl rfl (fun c2 => ?_) (fun c2 => ?_) | refine zR_ifne rfl rfl (fun c2 => ?_) (fun c2 => ?_)
        · refine zR_s rfl ?_
          refine zR_get rfl rfl (zm0 h75) rfl ?_
          refine zR_s rfl ?_
          refine zR_cst (v := 3) rfl rfl rfl ?_
          refine zR_istMG 5 rfl h75 (by decide) ((show k < 64 by omega)) ?_
          first | refine zR_incn rfl rfl rfl ?_ | refine zR_s rfl ?_
          first | refine zR_incn rfl rfl rfl ?_ | refine zR_s rfl ?_
          refine zR_goto rfl rfl ?_
          first | (rw [zcnt_f (x1 c1), y0 (x1 c1)] at w; exact w) | (rw [zcnt_f (x2 c2), y0 (x2 c2)] at w; exact w) | (rw [zcnt_t (x3 c1 c2), y1 (x3 c1 c2)] at w; exact w)
        · refine zR_s rfl ?_
          first | refine zR_incn rfl rfl rfl ?_ | refine zR_s rfl ?_
          refine zR_goto rfl rfl ?_
          first | (rw [zcnt_f (x1 c1), y0 (x1 c1)] at w; exact w) | (rw [zcnt_f (x2 c2), y0 (x2 c2)] at w; exact w) | (rw [zcnt_t (x3 c1 c2), y1 (x3 c1 c2)] at w; exact w)
  show zR sL sx _ 93 0 [.ref 75, .int e, .retAddr 0, .retAddr 0] [] _ _ _
  refine zR_s rfl ?_
  refine zR_s rfl ?_
  refine zR_s rfl ?_
  refine zR_get rfl rfl (zm0 h75) rfl ?_
  refine zR_mlt rfl rfl (fun c1 => ?_) (fun c1 => ?_)
  · refine zR_cst (v := 1) rfl rfl rfl ?_
    refine zR_s rfl ?_
    refine zR_putC rfl rfl h75 rfl ?_
    refine zR_s rfl ?_
    refine zR_get rfl rfl (zm0 h75) rfl ?_
    refine zR_ifle rfl rfl (fun c => absurd c (by decide)) (fun _ => ?_)
    refine zR_cst (v := 0) rfl rfl rfl ?_
    first | refine zR_rete rfl rfl ?_ ?_ | refine zR_retb rfl rfl ?_ ?_
    all_goals (first | contradiction | (simp only [zOm, zHm, q_day, kfP, c1, if_true, if_false, not_true_eq_false, not_false_eq_true, and_self, and_true, true_and, or_true, true_or, or_false, false_or, and_false, false_and, reduceCtorEq, Bool.false_eq_true, Bool.true_eq_false, ite_self, eq_self]; done) | (simp only [zOm, zHm, q_day, kfP, c1, if_true, if_false, not_true_eq_false, not_false_eq_true, and_self, and_true, true_and, or_true, true_or, or_false, false_or, and_false, false_and, reduceCtorEq, Bool.false_eq_true, Bool.true_eq_false, ite_self, eq_self]; done))
  · refine zR_s rfl ?_
    refine zR_cst (v := 1000) rfl rfl rfl ?_
    refine zR_icle rfl rfl (fun c2 => ?_) (fun c2 => ?_)
    · refine zR_cst (v := 0) rfl rfl rfl ?_
      refine zR_putC rfl rfl h75 rfl ?_
      refine zR_s rfl ?_
      refine zR_get rfl rfl (zm0 h75) rfl ?_
      refine zR_ifle rfl rfl (fun _ => ?_) (fun c => absurd c (by decide))
      refine zR_s rfl ?_
      refine zR_s rfl ?_
      refine zR_putMN 3 rfl rfl h75 (by decide) rfl ?_
      refine zR_cst (v := 0) rfl rfl rfl ?_
      refine zR_s rfl ?_
      refine zR_cst (v := 0) rfl rfl rfl ?_
      refine zR_s rfl ?_
      exact lp ⟨c1, c2⟩
    · refine zR_cst (v := 1) rfl rfl rfl ?_
      refine zR_s rfl ?_
      refine zR_putC rfl rfl h75 rfl ?_
      refine zR_s rfl ?_
      refine zR_get rfl rfl (zm0 h75) rfl ?_
      refine zR_ifle rfl rfl (fun c => absurd c (by decide)) (fun _ => ?_)
      refine zR_cst (v := 0) rfl rfl rfl ?_
      first | refine zR_rete rfl rfl ?_ ?_ | refine zR_retb rfl rfl ?_ ?_
      all_goals (first | contradiction | (simp only [zOm, zHm, q_day, kfP, c1, c2, if_true, if_false, not_true_eq_false, not_false_eq_true, and_self, and_true, true_and, or_true, true_or, or_false, false_or, and_false, false_and, reduceCtorEq, Bool.false_eq_true, Bool.true_eq_false, ite_self, eq_self]; done) | (simp only [zOm, zHm, q_day, kfP, c1, c2, if_true, if_false, not_true_eq_false, not_false_eq_true, and_self, and_true, true_and, or_true, true_or, or_false, false_or, and_false, false_and, reduceCtorEq, Bool.false_eq_true, Bool.true_eq_false, ite_self, eq_self]; done))
theorem d_at {p i : Int32} (h75 : hc.length = 75) (hI : zInv N F G K Z M A l R) (hH : zHK M K H) : zMe sL sx 11 94 [.ref 75, .int p, .int i] (hc ++ (zMd N F G H Z c B ++ t)) (zOm (some (.int 0)) (q_at N F G K Z M p i)) (zHm kfP hc t N F G H Z B H B (q_at N F G K Z M p i)) := by
  have hA := hI.2.2.1
  have hM := i_m1 hI
  have hm := i_m hI
  have lp : 0 ≤ p ∧ p ≤ 15 → zR sL sx 11 94 35 [.ref 75, .int p, .int i, .int i, .int 0] [] (hc ++ (zMd N F G H Z 0 B ++ t)) (zOm (some (.int 0)) (q_at N F G K Z M p i)) (zHm kfP hc t N F G H Z B H B (q_at N F G K Z M p i)) := by
    intro a1
    refine zR_loop0 (M := M) (fun k => [.ref 75, .int p, .int i, .int (i - nI (zcnt (zqA G K p) k)), .int (nI k)]) (fun k => (hc ++ (zMd N F G H Z 0 B ++ t))) (fun k => zfst (zqA G K p) i k = none) (by simp only [zcnt, i32_s0]; rfl) rfl rfl (fun hX => ?_) (fun k hk hX ih => ?_)
    · refine zR_s rfl ?_
      refine zR_s rfl ?_
      refine zR_get rfl rfl (zm0 h75) rfl ?_
      refine zR_icge rfl rfl (fun _ => ?_) (fun c => by first | exact absurd ((by rw [hM]; exact Int32.le_refl _)) c | exact absurd c ((by rw [hM]; exact Int32.le_refl _)))
      refine zR_s rfl ?_
      refine zR_cst (v := 2) rfl rfl rfl ?_
      refine zR_putC rfl rfl h75 rfl ?_
      refine zR_cst (v := 0) rfl rfl rfl ?_
      first | refine zR_rete rfl rfl ?_ ?_ | refine zR_retb rfl rfl ?_ ?_
      all_goals (simp only [zOm, zHm, kfP, q_at, if_pos a1, hX])
    · have x0 : zst (G k) = false → zqA G K p k = false := by
        intro q
        refine zqA_f1 fun q2 => ?_
        rw [((i_un hI hk).2.2.2.2.2.1 q).1] at q2
        rw [← q2] at a1
        exact absurd a1.1 (by decide)
      refine zR_s rfl ?_
      refine zR_s rfl ?_
      refine zR_get rfl rfl (zm0 h75) rfl ?_
      refine zR_icge rfl rfl (fun c => by first | exact absurd c ((by rw [hM]; exact nI_ge hk (by omega))) | exact absurd ((by rw [hM]; exact nI_ge hk (by omega))) c) (fun _ => ?_)
      refine zR_s rfl ?_
      refine zR_s rfl ?_
      refine zR_call rfl rfl rfl rfl (zcallok_v (zm0 h75) rfl rfl) (m_mstands h75 (show k < 64 by omega)) ?_
      refine zR_bf rfl rfl (fun c1 => ?_) (fun c1 => ?_)
      · first | refine zR_incn rfl rfl rfl ?_ | refine zR_s rfl ?_
        refine zR_goto rfl rfl ?_
        first | (have w := ih (zfst_f hX (x0 c1)); rw [zcnt_f (x0 c1)] at w; exact w) | (have w := ih (zfst_f hX (zqA_f1 c2)); rw [zcnt_f (zqA_f1 c2)] at w; exact w) | (have w := ih (zfst_f hX (zqA_f2 (i_h2 hI hH hk c3))); rw [zcnt_f (zqA_f2 (i_h2 hI hH hk c3))] at w; exact w) | (have w := ih (zfst_n hX (fun q => c4 (i32_sz.mpr q))); rw [zcnt_t (zqA_t c2 (i_h1 hI hH hk c3)), ← i32_dec] at w; exact w)
      · refine zR_s rfl ?_
        refine zR_get rfl rfl (zm0 h75) rfl ?_
        refine zR_s rfl ?_
        refine zR_ildMG 6 rfl h75 (by decide) ((show k < 64 by omega)) ?_
        refine zR_s rfl ?_
        refine zR_icne rfl rfl (fun c2 => ?_) (fun c2 => ?_)
        · first | refine zR_incn rfl rfl rfl ?_ | refine zR_s rfl ?_
          refine zR_goto rfl rfl ?_
          first | (have w := ih (zfst_f hX (x0 c1)); rw [zcnt_f (x0 c1)] at w; exact w) | (have w := ih (zfst_f hX (zqA_f1 c2)); rw [zcnt_f (zqA_f1 c2)] at w; exact w) | (have w := ih (zfst_f hX (zqA_f2 (i_h2 hI hH hk c3))); rw [zcnt_f (zqA_f2 (i_h2 hI hH hk c3))] at w; exact w) | (have w := ih (zfst_n hX (fun q => c4 (i32_sz.mpr q))); rw [zcnt_t (zqA_t c2 (i_h1 hI hH hk c3)), ← i32_dec] at w; exact w)
        · refine zR_s rfl ?_
          refine zR_get rfl rfl (zm0 h75) rfl ?_
          refine zR_s rfl ?_
          refine zR_ildMH rfl h75 ((show k < 64 by omega)) ?_
          refine zR_cst (v := (-1)) rfl rfl rfl ?_
          refine zR_iceq rfl rfl (fun c3 => ?_) (fun c3 => ?_)
          · refine zR_s rfl ?_
            first | refine zR_dt rfl rfl (fun c4 => ?_) (fun c4 => ?_) | refine zR_bt rfl rfl (fun c4 => ?_) (fun c4 => ?_) | refine zR_ifne rfl rfl (fun c4 => ?_) (fun c4 => ?_)
            · refine zR_s rfl ?_
              first | refine zR_incn rfl rfl rfl ?_ | refine zR_s rfl ?_
              refine zR_goto rfl rfl ?_
              first | (have w := ih (zfst_f hX (x0 c1)); rw [zcnt_f (x0 c1)] at w; exact w) | (have w := ih (zfst_f hX (zqA_f1 c2)); rw [zcnt_f (zqA_f1 c2)] at w; exact w) | (have w := ih (zfst_f hX (zqA_f2 (i_h2 hI hH hk c3))); rw [zcnt_f (zqA_f2 (i_h2 hI hH hk c3))] at w; exact w) | (have w := ih (zfst_n hX (fun q => c4 (i32_sz.mpr q))); rw [zcnt_t (zqA_t c2 (i_h1 hI hH hk c3)), ← i32_dec] at w; exact w)
            · refine zR_s rfl ?_
              first | refine zR_rete rfl rfl ?_ ?_ | refine zR_retb rfl rfl ?_ ?_
              all_goals (simp only [zOm, zHm, q_at, if_pos a1, zfst_t hX (zqA_t c2 (i_h1 hI hH hk c3)) (i32_sz.mp c4) hk])
          · refine zR_s rfl ?_
            first | refine zR_incn rfl rfl rfl ?_ | refine zR_s rfl ?_
            refine zR_goto rfl rfl ?_
            first | (have w := ih (zfst_f hX (x0 c1)); rw [zcnt_f (x0 c1)] at w; exact w) | (have w := ih (zfst_f hX (zqA_f1 c2)); rw [zcnt_f (zqA_f1 c2)] at w; exact w) | (have w := ih (zfst_f hX (zqA_f2 (i_h2 hI hH hk c3))); rw [zcnt_f (zqA_f2 (i_h2 hI hH hk c3))] at w; exact w) | (have w := ih (zfst_n hX (fun q => c4 (i32_sz.mpr q))); rw [zcnt_t (zqA_t c2 (i_h1 hI hH hk c3)), ← i32_dec] at w; exact w)
  show zR sL sx _ 94 0 [.ref 75, .int p, .int i, .retAddr 0, .retAddr 0] [] _ _ _
  refine zR_s rfl ?_
  refine zR_s rfl ?_
  refine zR_s rfl ?_
  refine zR_lc (v := 0) rfl rfl ?_
  refine zR_ldc2 (v := 15) rfl rfl ?_
  refine zR_call rfl rfl rfl rfl (zcallok_s rfl) (m_in (b := 0) (c := 15)) ?_
  first | refine zR_df rfl rfl (fun c1 => ?_) (fun c1 => ?_) | refine zR_bf rfl rfl (fun c1 => ?_) (fun c1 => ?_) | refine zR_ifeq rfl rfl (fun c1 => ?_) (fun c1 => ?_)
  · refine zR_cst (v := 1) rfl rfl rfl ?_
    refine zR_putC rfl rfl h75 rfl ?_
    refine zR_s rfl ?_
    refine zR_get rfl rfl (zm0 h75) rfl ?_
    refine zR_ifle rfl rfl (fun c => absurd c (by decide)) (fun _ => ?_)
    refine zR_cst (v := 0) rfl rfl rfl ?_
    first | refine zR_rete rfl rfl ?_ ?_ | refine zR_retb rfl rfl ?_ ?_
    all_goals (first | contradiction | (simp only [zOm, zHm, q_at, kfP, c1, if_true, if_false, not_true_eq_false, not_false_eq_true, and_self, and_true, true_and, or_true, true_or, or_false, false_or, and_false, false_and, reduceCtorEq, Bool.false_eq_true, Bool.true_eq_false, ite_self, eq_self]; done) | (simp only [zOm, zHm, q_at, kfP, c1, if_true, if_false, not_true_eq_false, not_false_eq_true, and_self, and_true, true_and, or_true, true_or, or_false, false_or, and_false, false_and, reduceCtorEq, Bool.false_eq_true, Bool.true_eq_false, ite_self, eq_self]; done))
  · refine zR_cst (v := 0) rfl rfl rfl ?_
    refine zR_s rfl ?_
    refine zR_putC rfl rfl h75 rfl ?_
    refine zR_s rfl ?_
    refine zR_get rfl rfl (zm0 h75) rfl ?_
    refine zR_ifle rfl rfl (fun _ => ?_) (fun c => absurd c (by decide))
    refine zR_s rfl ?_
    refine zR_s rfl ?_
    refine zR_cst (v := 0) rfl rfl rfl ?_
    refine zR_s rfl ?_
    exact lp c1
/-- the truth that a loop came to last -/
def zlb (p : Nat → Bool) : Nat → Value
  | 0 => .retAddr 0
  | n + 1 => .int (bI (p n))
theorem zany_1 {w x : Int32} (h : w = -1) : zany1 w x = true := by simp [zany1, h]
theorem zany_2 {w x : Int32} (h : x = w) : zany1 w x = true := by simp [zany1, h]
theorem zany_0 {w x : Int32} (h : ¬ w = -1) (h2 : ¬ x = w) : zany1 w x = false := by
  refine decide_eq_false ?_
  rintro (q | q)
  · exact h q
  · exact h2 q.symm
theorem d_find {a b e i : Int32} (h75 : hc.length = 75) (hI : zInv N F G K Z M A l R) (hH : zHK M K H) : zMe sL sx 11 95 [.ref 75, .int a, .int b, .int e, .int i] (hc ++ (zMd N F G H Z c B ++ t)) (zOm (some (.int 0)) (q_find N F G K Z M a b e i)) (zHm kfP hc t N F G H Z B H B (q_find N F G K Z M a b e i)) := by
  have hA := hI.2.2.1
  have hM := i_m1 hI
  have hm := i_m hI
  have lp : 0 ≤ i → zR sL sx 11 95 30 [.ref 75, .int a, .int b, .int e, .int i, .int i, .int 0, .retAddr 0] [] (hc ++ (zMd N F G H Z 0 B ++ t)) (zOm (some (.int 0)) (q_find N F G K Z M a b e i)) (zHm kfP hc t N F G H Z B H B (q_find N F G K Z M a b e i)) := by
    intro a1
    refine zR_loop0 (M := M) (fun k => [.ref 75, .int a, .int b, .int e, .int i, .int (i - nI (zcnt (zqF G a b e) k)), .int (nI k), zlb (zqF G a b e) k]) (fun k => (hc ++ (zMd N F G H Z 0 B ++ t))) (fun k => zfst (zqF G a b e) i k = none) (by simp only [zcnt, i32_s0]; rfl) rfl rfl (fun hX => ?_) (fun k hk hX ih => ?_)
    · refine zR_s rfl ?_
      refine zR_s rfl ?_
      refine zR_get rfl rfl (zm0 h75) rfl ?_
      refine zR_icge rfl rfl (fun _ => ?_) (fun c => by first | exact absurd ((by rw [hM]; exact Int32.le_refl _)) c | exact absurd c ((by rw [hM]; exact Int32.le_refl _)))
      refine zR_cst (v := (-1)) rfl rfl rfl ?_
      first | refine zR_rete rfl rfl ?_ ?_ | refine zR_retb rfl rfl ?_ ?_
      all_goals (simp only [zOm, zHm, kfP, q_find, if_pos a1, hX, zsk])
    · have hF : zqF G a b e k = false → zR sL sx 11 95 91 [.ref 75, .int a, .int b, .int e, .int i, .int (i - nI (zcnt (zqF G a b e) k)), .int (nI k), zlb (zqF G a b e) k] [] (hc ++ (zMd N F G H Z 0 B ++ t)) (zOm (some (.int 0)) (q_find N F G K Z M a b e i)) (zHm kfP hc t N F G H Z B H B (q_find N F G K Z M a b e i)) := by
        intro q
        have w := ih (zfst_f hX q)
        rw [zcnt_f q, show zlb (zqF G a b e) (k + 1) = .int (bI (zqF G a b e k)) from rfl, q] at w
        cases k with
        | zero =>
          refine zR_cst (v := 0) rfl rfl rfl ?_
          refine zR_s rfl ?_
          refine zR_s rfl ?_
          refine zR_ifne rfl rfl (fun c => absurd c (by decide)) (fun _ => ?_)
          refine zR_s rfl ?_
          first | refine zR_incn rfl rfl rfl ?_ | refine zR_s rfl ?_
          refine zR_goto rfl rfl ?_
          exact w
        | succ k =>
          refine zR_cst (v := 0) rfl rfl rfl ?_
          refine zR_s rfl ?_
          refine zR_s rfl ?_
          refine zR_ifne rfl rfl (fun c => absurd c (by decide)) (fun _ => ?_)
          refine zR_s rfl ?_
          first | refine zR_incn rfl rfl rfl ?_ | refine zR_s rfl ?_
          refine zR_goto rfl rfl ?_
          exact w
      have hT : zqF G a b e k = true → zR sL sx 11 95 87 [.ref 75, .int a, .int b, .int e, .int i, .int (i - nI (zcnt (zqF G a b e) k)), .int (nI k), zlb (zqF G a b e) k] [] (hc ++ (zMd N F G H Z 0 B ++ t)) (zOm (some (.int 0)) (q_find N F G K Z M a b e i)) (zHm kfP hc t N F G H Z B H B (q_find N F G K Z M a b e i)) := by
        intro q
        have w : ¬ nI (zcnt (zqF G a b e) k) = i → _ := fun q2 => ih (zfst_n hX q2)
        rw [zcnt_t q, ← i32_dec, show zlb (zqF G a b e) (k + 1) = .int (bI (zqF G a b e k)) from rfl, q] at w
        refine zR_cst (v := 1) rfl rfl rfl ?_
        refine zR_s rfl ?_
        refine zR_s rfl ?_
        refine zR_s rfl ?_
        refine zR_ifne rfl rfl (fun _ => ?_) (fun c => absurd c (by decide))
        refine zR_s rfl ?_
        first | refine zR_dt rfl rfl (fun c1 => ?_) (fun c1 => ?_) | refine zR_bt rfl rfl (fun c1 => ?_) (fun c1 => ?_) | refine zR_ifne rfl rfl (fun c1 => ?_) (fun c1 => ?_)
        · refine zR_s rfl ?_
          first | refine zR_incn rfl rfl rfl ?_ | refine zR_s rfl ?_
          refine zR_goto rfl rfl ?_
          exact w (fun q => c1 (i32_sz.mpr q))
        · refine zR_s rfl ?_
          first | refine zR_rete rfl rfl ?_ ?_ | refine zR_retb rfl rfl ?_ ?_
          all_goals (simp only [zOm, zHm, q_find, if_pos a1, zfst_t hX q (i32_sz.mp c1) hk, zsk])
      have h3 : zany1 a (G k 0) = true → zany1 b (G k 3) = true → zR sL sx 11 95 71 [.ref 75, .int a, .int b, .int e, .int i, .int (i - nI (zcnt (zqF G a b e) k)), .int (nI k), zlb (zqF G a b e) k] [] (hc ++ (zMd N F G H Z 0 B ++ t)) (zOm (some (.int 0)) (q_find N F G K Z M a b e i)) (zHm kfP hc t N F G H Z B H B (q_find N F G K Z M a b e i)) := by
        intro q1 q2
        have f3 : zany1 e (G k 5) = false → zqF G a b e k = false := fun q => by simp [zqF, q]
        have t3 : zany1 e (G k 5) = true → zqF G a b e k = true := fun q => by simp [zqF, q, q1, q2]
        refine zR_s rfl ?_
        refine zR_cst (v := (-1)) rfl rfl rfl ?_
        refine zR_iceq rfl rfl (fun c1 => ?_) (fun c1 => ?_)
        · first | exact hT (t3 (zany_1 c1)) | exact hT (t3 (zany_2 c2))
        · refine zR_s rfl ?_
          refine zR_get rfl rfl (zm0 h75) rfl ?_
          refine zR_s rfl ?_
          refine zR_ildMG 5 rfl h75 (by decide) ((show k < 64 by omega)) ?_
          refine zR_s rfl ?_
          refine zR_icne rfl rfl (fun c2 => ?_) (fun c2 => ?_)
          · exact hF (f3 (zany_0 c1 c2))
          · first | exact hT (t3 (zany_1 c1)) | exact hT (t3 (zany_2 c2))
      have h2 : zany1 a (G k 0) = true → zR sL sx 11 95 55 [.ref 75, .int a, .int b, .int e, .int i, .int (i - nI (zcnt (zqF G a b e) k)), .int (nI k), zlb (zqF G a b e) k] [] (hc ++ (zMd N F G H Z 0 B ++ t)) (zOm (some (.int 0)) (q_find N F G K Z M a b e i)) (zHm kfP hc t N F G H Z B H B (q_find N F G K Z M a b e i)) := by
        intro q1
        have f3 : zany1 b (G k 3) = false → zqF G a b e k = false := fun q => by simp [zqF, q]
        refine zR_s rfl ?_
        refine zR_cst (v := (-1)) rfl rfl rfl ?_
        refine zR_iceq rfl rfl (fun c1 => ?_) (fun c1 => ?_)
        · first | exact h3 q1 (zany_1 c1) | exact h3 q1 (zany_2 c2)
        · refine zR_s rfl ?_
          refine zR_get rfl rfl (zm0 h75) rfl ?_
          refine zR_s rfl ?_
          refine zR_ildMG 3 rfl h75 (by decide) ((show k < 64 by omega)) ?_
          refine zR_s rfl ?_
          refine zR_icne rfl rfl (fun c2 => ?_) (fun c2 => ?_)
          · exact hF (f3 (zany_0 c1 c2))
          · first | exact h3 q1 (zany_1 c1) | exact h3 q1 (zany_2 c2)
      have f3 : zany1 a (G k 0) = false → zqF G a b e k = false := fun q => by simp [zqF, q]
      refine zR_s rfl ?_
      refine zR_s rfl ?_
      refine zR_get rfl rfl (zm0 h75) rfl ?_
      refine zR_icge rfl rfl (fun c => by first | exact absurd c ((by rw [hM]; exact nI_ge hk (by omega))) | exact absurd ((by rw [hM]; exact nI_ge hk (by omega))) c) (fun _ => ?_)
      refine zR_s rfl ?_
      refine zR_cst (v := (-1)) rfl rfl rfl ?_
      refine zR_iceq rfl rfl (fun c1 => ?_) (fun c1 => ?_)
      · first | exact h2 (zany_1 c1) | exact h2 (zany_2 c2)
      · refine zR_s rfl ?_
        refine zR_get rfl rfl (zm0 h75) rfl ?_
        refine zR_s rfl ?_
        refine zR_ildMG 0 rfl h75 (by decide) ((show k < 64 by omega)) ?_
        refine zR_s rfl ?_
        refine zR_icne rfl rfl (fun c2 => ?_) (fun c2 => ?_)
        · exact hF (f3 (zany_0 c1 c2))
        · first | exact h2 (zany_1 c1) | exact h2 (zany_2 c2)
  show zR sL sx _ 95 0 [.ref 75, .int a, .int b, .int e, .int i, .retAddr 0, .retAddr 0, .retAddr 0] [] _ _ _
  refine zR_s rfl ?_
  refine zR_s rfl ?_
  refine zR_ifge rfl rfl (fun c1 => ?_) (fun c1 => ?_)
  · refine zR_cst (v := 0) rfl rfl rfl ?_
    refine zR_putC rfl rfl h75 rfl ?_
    refine zR_s rfl ?_
    refine zR_get rfl rfl (zm0 h75) rfl ?_
    refine zR_ifle rfl rfl (fun _ => ?_) (fun c => absurd c (by decide))
    refine zR_s rfl ?_
    refine zR_s rfl ?_
    refine zR_cst (v := 0) rfl rfl rfl ?_
    refine zR_s rfl ?_
    exact lp c1
  · refine zR_cst (v := 1) rfl rfl rfl ?_
    refine zR_s rfl ?_
    refine zR_putC rfl rfl h75 rfl ?_
    refine zR_s rfl ?_
    refine zR_get rfl rfl (zm0 h75) rfl ?_
    refine zR_ifle rfl rfl (fun c => absurd c (by decide)) (fun _ => ?_)
    refine zR_cst (v := 0) rfl rfl rfl ?_
    first | refine zR_rete rfl rfl ?_ ?_ | refine zR_retb rfl rfl ?_ ?_
    all_goals (first | contradiction | (simp only [zOm, zHm, q_find, kfP, c1, if_true, if_false, not_true_eq_false, not_false_eq_true, and_self, and_true, true_and, or_true, true_or, or_false, false_or, and_false, false_and, reduceCtorEq, Bool.false_eq_true, Bool.true_eq_false, ite_self, eq_self]; done) | (simp only [zOm, zHm, q_find, kfP, c1, if_true, if_false, not_true_eq_false, not_false_eq_true, and_self, and_true, true_and, or_true, true_or, or_false, false_or, and_false, false_and, reduceCtorEq, Bool.false_eq_true, Bool.true_eq_false, ite_self, eq_self]; done))
theorem i64_a0 (x : Int64) : x + 0 = x := by simp
theorem d_sum {g p : Int32} (h75 : hc.length = 75) (hI : zInv N F G K Z M A l R) (hH : zHK M K H) : zMe sL sx 11 96 [.ref 75, .int g, .int p] (hc ++ (zMd N F G H Z c B ++ t)) (zOm (some (.long 0)) (q_sum N F G K Z M g p)) (zHm kfP hc t N F G H Z B H B (q_sum N F G K Z M g p)) := by
  have hA := hI.2.2.1
  have hM := i_m1 hI
  have hm := i_m hI
  have lp : 0 ≤ g ∧ g ≤ 7 → 0 ≤ p ∧ p ≤ 15 → zR sL sx 11 96 38 [.ref 75, .int g, .int p, .long 0, .retAddr 0, .int 0] [] (hc ++ (zMd N F G H Z 0 B ++ t)) (zOm (some (.long 0)) (q_sum N F G K Z M g p)) (zHm kfP hc t N F G H Z B H B (q_sum N F G K Z M g p)) := by
    intro a1 a2
    refine zR_loop0 (M := M) (fun k => [.ref 75, .int g, .int p, .long (zsm (zqG G g p) (fun k => (G k 4).toInt64) k), .retAddr 0, .int (nI k)]) (fun k => (hc ++ (zMd N F G H Z 0 B ++ t))) (fun k => True) rfl rfl trivial (fun hX => ?_) (fun k hk hX ih => ?_)
    · refine zR_s rfl ?_
      refine zR_s rfl ?_
      refine zR_get rfl rfl (zm0 h75) rfl ?_
      refine zR_icge rfl rfl (fun _ => ?_) (fun c => by first | exact absurd ((by rw [hM]; exact Int32.le_refl _)) c | exact absurd c ((by rw [hM]; exact Int32.le_refl _)))
      refine zR_s rfl ?_
      refine zR_rete rfl rfl ?_ ?_
      all_goals (simp only [zOm, zHm, kfP, q_sum, if_pos a1, if_pos a2])
    · obtain ⟨a, ha, e0, e1, e2⟩ := (i_un hI hk).1
      have hl := hI.1.2
      have w := ih trivial
      simp only [zsm] at w
      have wf : zqG G g p k = false → zR sL sx 11 96 103 [.ref 75, .int g, .int p, .long (zsm (zqG G g p) (fun k => (G k 4).toInt64) k), .retAddr 0, .int (nI k)] [.long (zsm (zqG G g p) (fun k => (G k 4).toInt64) k)] (hc ++ (zMd N F G H Z 0 B ++ t)) (zOm (some (.long 0)) (q_sum N F G K Z M g p)) (zHm kfP hc t N F G H Z B H B (q_sum N F G K Z M g p)) := by
        intro q
        rw [q, cond_false, ← i64_a0 (zsm (zqG G g p) (fun k => (G k 4).toInt64) k)] at w
        refine zR_lc (v := 0) rfl rfl ?_
        refine zR_ladd rfl ?_
        refine zR_s rfl ?_
        first | refine zR_incn rfl rfl rfl ?_ | refine zR_s rfl ?_
        refine zR_goto rfl rfl ?_
        exact w
      refine zR_s rfl ?_
      refine zR_s rfl ?_
      refine zR_get rfl rfl (zm0 h75) rfl ?_
      refine zR_icge rfl rfl (fun c => by first | exact absurd c ((by rw [hM]; exact nI_ge hk (by omega))) | exact absurd ((by rw [hM]; exact nI_ge hk (by omega))) c) (fun _ => ?_)
      refine zR_s rfl ?_
      refine zR_get rfl rfl (zm0 h75) rfl ?_
      refine zR_ifne rfl rfl (fun c => absurd c (by decide)) (fun _ => ?_)
      refine zR_s rfl ?_
      refine zR_s rfl ?_
      refine zR_get rfl rfl (zm0 h75) rfl ?_
      refine zR_s rfl ?_
      first | refine zR_ildMG 5 rfl h75 (by decide) ((show k < 64 by omega)) ?_ | refine zR_ildMG 5 rfl h75 (by decide) ((show a < 16 by omega)) ?_
      first | refine zR_dt rfl rfl (fun c1 => ?_) (fun c1 => ?_) | refine zR_bt rfl rfl (fun c1 => ?_) (fun c1 => ?_) | refine zR_ifne rfl rfl (fun c1 => ?_) (fun c1 => ?_)
      · first | exact wf (zqG_f3 c1) | exact wf (zqG_f2 c2) | exact wf (zqG_f1 c3)
      · refine zR_s rfl ?_
        refine zR_get rfl rfl (zm0 h75) rfl ?_
        refine zR_s rfl ?_
        first | refine zR_ildMG 6 rfl h75 (by decide) ((show k < 64 by omega)) ?_ | refine zR_ildMG 6 rfl h75 (by decide) ((show a < 16 by omega)) ?_
        refine zR_s rfl ?_
        refine zR_icne rfl rfl (fun c2 => ?_) (fun c2 => ?_)
        · first | exact wf (zqG_f3 c1) | exact wf (zqG_f2 c2) | exact wf (zqG_f1 c3)
        · refine zR_s rfl ?_
          refine zR_get rfl rfl (zm0 h75) rfl ?_
          refine zR_s rfl ?_
          refine zR_get rfl rfl (zm0 h75) rfl ?_
          refine zR_s rfl ?_
          first | refine zR_ildMG 0 rfl h75 (by decide) ((show k < 64 by omega)) ?_ | refine zR_ildMG 0 rfl h75 (by decide) ((show a < 16 by omega)) ?_
          rw [e0]
          first | refine zR_ildMF 2 rfl h75 (by decide) ((show k < 64 by omega)) ?_ | refine zR_ildMF 2 rfl h75 (by decide) ((show a < 16 by omega)) ?_
          rw [← e1]
          refine zR_s rfl ?_
          refine zR_icne rfl rfl (fun c3 => ?_) (fun c3 => ?_)
          · first | exact wf (zqG_f3 c1) | exact wf (zqG_f2 c2) | exact wf (zqG_f1 c3)
          · rw [zqG_t c3 c2 c1, cond_true] at w
            refine zR_s rfl ?_
            refine zR_get rfl rfl (zm0 h75) rfl ?_
            refine zR_s rfl ?_
            first | refine zR_ildMG 4 rfl h75 (by decide) ((show k < 64 by omega)) ?_ | refine zR_ildMG 4 rfl h75 (by decide) ((show a < 16 by omega)) ?_
            refine zR_s rfl ?_
            refine zR_s rfl ?_
            refine zR_ladd rfl ?_
            refine zR_s rfl ?_
            first | refine zR_incn rfl rfl rfl ?_ | refine zR_s rfl ?_
            refine zR_goto rfl rfl ?_
            exact w
  show zR sL sx _ 96 0 [.ref 75, .int g, .int p, .retAddr 0, .retAddr 0, .retAddr 0] [] _ _ _
  refine zR_s rfl ?_
  refine zR_s rfl ?_
  refine zR_s rfl ?_
  refine zR_lc (v := 0) rfl rfl ?_
  refine zR_ldc2 (v := 7) rfl rfl ?_
  refine zR_call rfl rfl rfl rfl (zcallok_s rfl) (m_in (b := 0) (c := 7)) ?_
  first | refine zR_df rfl rfl (fun c1 => ?_) (fun c1 => ?_) | refine zR_bf rfl rfl (fun c1 => ?_) (fun c1 => ?_) | refine zR_ifeq rfl rfl (fun c1 => ?_) (fun c1 => ?_)
  · refine zR_cst (v := 1) rfl rfl rfl ?_
    refine zR_putC rfl rfl h75 rfl ?_
    refine zR_lc (v := 0) rfl rfl ?_
    refine zR_s rfl ?_
    refine zR_cst (v := 0) rfl rfl rfl ?_
    refine zR_s rfl ?_
    refine zR_s rfl ?_
    refine zR_s rfl ?_
    refine zR_get rfl rfl (zm0 h75) rfl ?_
    refine zR_icge rfl rfl (fun c2 => ?_) (fun c2 => ?_)
    · refine zR_s rfl ?_
      refine zR_rete rfl rfl ?_ ?_
      all_goals (first | contradiction | (simp only [zOm, zHm, q_sum, kfP, c1, c2, if_true, if_false, not_true_eq_false, not_false_eq_true, and_self, and_true, true_and, or_true, true_or, or_false, false_or, and_false, false_and, reduceCtorEq, Bool.false_eq_true, Bool.true_eq_false, ite_self, eq_self]; done) | (simp only [zOm, zHm, q_sum, kfP, c1, c2, if_true, if_false, not_true_eq_false, not_false_eq_true, and_self, and_true, true_and, or_true, true_or, or_false, false_or, and_false, false_and, reduceCtorEq, Bool.false_eq_true, Bool.true_eq_false, ite_self, eq_self]; done))
    · refine zR_s rfl ?_
      refine zR_get rfl rfl (zm0 h75) rfl ?_
      refine zR_ifne rfl rfl (fun _ => ?_) (fun c => absurd c (by decide))
      refine zR_s rfl ?_
      refine zR_rete rfl rfl ?_ ?_
      all_goals (first | contradiction | (simp only [zOm, zHm, q_sum, kfP, c1, c2, if_true, if_false, not_true_eq_false, not_false_eq_true, and_self, and_true, true_and, or_true, true_or, or_false, false_or, and_false, false_and, reduceCtorEq, Bool.false_eq_true, Bool.true_eq_false, ite_self, eq_self]; done) | (simp only [zOm, zHm, q_sum, kfP, c1, c2, if_true, if_false, not_true_eq_false, not_false_eq_true, and_self, and_true, true_and, or_true, true_or, or_false, false_or, and_false, false_and, reduceCtorEq, Bool.false_eq_true, Bool.true_eq_false, ite_self, eq_self]; done))
  · refine zR_s rfl ?_
    refine zR_s rfl ?_
    refine zR_lc (v := 0) rfl rfl ?_
    refine zR_ldc2 (v := 15) rfl rfl ?_
    refine zR_call rfl rfl rfl rfl (zcallok_s rfl) (m_in (b := 0) (c := 15)) ?_
    first | refine zR_df rfl rfl (fun c2 => ?_) (fun c2 => ?_) | refine zR_bf rfl rfl (fun c2 => ?_) (fun c2 => ?_) | refine zR_ifeq rfl rfl (fun c2 => ?_) (fun c2 => ?_)
    · refine zR_cst (v := 1) rfl rfl rfl ?_
      refine zR_putC rfl rfl h75 rfl ?_
      refine zR_lc (v := 0) rfl rfl ?_
      refine zR_s rfl ?_
      refine zR_cst (v := 0) rfl rfl rfl ?_
      refine zR_s rfl ?_
      refine zR_s rfl ?_
      refine zR_s rfl ?_
      refine zR_get rfl rfl (zm0 h75) rfl ?_
      refine zR_icge rfl rfl (fun c3 => ?_) (fun c3 => ?_)
      · refine zR_s rfl ?_
        refine zR_rete rfl rfl ?_ ?_
        all_goals (first | contradiction | (simp only [zOm, zHm, q_sum, kfP, c1, c2, c3, if_true, if_false, not_true_eq_false, not_false_eq_true, and_self, and_true, true_and, or_true, true_or, or_false, false_or, and_false, false_and, reduceCtorEq, Bool.false_eq_true, Bool.true_eq_false, ite_self, eq_self]; done) | (simp only [zOm, zHm, q_sum, kfP, c1, c2, c3, if_true, if_false, not_true_eq_false, not_false_eq_true, and_self, and_true, true_and, or_true, true_or, or_false, false_or, and_false, false_and, reduceCtorEq, Bool.false_eq_true, Bool.true_eq_false, ite_self, eq_self]; done))
      · refine zR_s rfl ?_
        refine zR_get rfl rfl (zm0 h75) rfl ?_
        refine zR_ifne rfl rfl (fun _ => ?_) (fun c => absurd c (by decide))
        refine zR_s rfl ?_
        refine zR_rete rfl rfl ?_ ?_
        all_goals (first | contradiction | (simp only [zOm, zHm, q_sum, kfP, c1, c2, c3, if_true, if_false, not_true_eq_false, not_false_eq_true, and_self, and_true, true_and, or_true, true_or, or_false, false_or, and_false, false_and, reduceCtorEq, Bool.false_eq_true, Bool.true_eq_false, ite_self, eq_self]; done) | (simp only [zOm, zHm, q_sum, kfP, c1, c2, c3, if_true, if_false, not_true_eq_false, not_false_eq_true, and_self, and_true, true_and, or_true, true_or, or_false, false_or, and_false, false_and, reduceCtorEq, Bool.false_eq_true, Bool.true_eq_false, ite_self, eq_self]; done))
    · refine zR_cst (v := 0) rfl rfl rfl ?_
      refine zR_s rfl ?_
      refine zR_putC rfl rfl h75 rfl ?_
      refine zR_lc (v := 0) rfl rfl ?_
      refine zR_s rfl ?_
      refine zR_cst (v := 0) rfl rfl rfl ?_
      refine zR_s rfl ?_
      exact lp c1 c2
end ZME
