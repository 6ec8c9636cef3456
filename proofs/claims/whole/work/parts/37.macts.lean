/-! the reference's acts, the rest -/
section ZMC
variable {sL : Nat} {sx : Nat → Int32} {d : Nat} {h : zH}
variable {N N' : Nat → Int32} {F F' G G' : Nat → Nat → Int32} {K : Nat → Option Nat} {H : Nat → Int32} {Z : Nat → Int64} {c : Int32} {B : Nat → Int32} {hc t : zH} {M A l R u i : Nat}
theorem zmx_congr {p : Nat → Bool} {f g : Nat → Nat} {b b' : Nat} (hb : b = b') : ∀ n, (∀ i, i < n → p i = true → f i = g i) → zmx p f b n = zmx p g b' n := by
  intro n
  induction n with
  | zero => intro _; exact hb
  | succ n ih =>
    intro h
    simp only [zmx, ih fun i hi => h i (by omega)]
    cases hp : p n with
    | false => rfl
    | true => rw [h n (by omega) hp]
theorem zdq_st {i : Nat} (hs : zst (G i) = true) : zdq G K i = zde K i := by simp [zdq, zde, hs]
theorem i_lev (hI : zInv N F G K Z M A l R) {j w : Nat} (h1 : zst (G j) = true) (h2 : zst (G w) = true) : nI (zde K w) + (nI (zmx (zqW K j) (zde K) (zde K j) M) - nI (zde K j) + 1) = nI (zdq G K w) + (nI (zmx (zqW K j) (zdq G K) (zdq G K j) M) - nI (zdq G K j) + 1) := by
  rw [zdq_st h1, zdq_st h2, zmx_congr (f := zde K) (g := zdq G K) (b' := zde K j) rfl M]
  intro i hi hp
  refine (zdq_st ?_).symm
  cases hs : zst (G i) with
  | true => rfl
  | false =>
    have e := ((i_un hI hi).2.2.2.2.2.1 hs).2
    simp [zqW, e, zlw] at hp
theorem d_out {j : Nat}  (h75 : hc.length = 75) (hI : zInv N F G K Z M A l R) (hH : zHK M K H) (hj : j < M) : zMe sL sx 11 82 [.ref 75, .int (nI j)] (hc ++ (zMd N F G H Z c B ++ t)) (zOm none (q_out N F G K Z A j)) (zHm kfB hc t N F G H Z B (upd H j (-1)) B (q_out N F G K Z A j)) := by
  have hA := hI.2.2.1
  have hM := i_m1 hI
  have hm := i_m hI
  have hj2 : j < 64 := by omega
  show zR sL sx _ 82 0 [.ref 75, .int (nI j)] [] _ _ _
  refine zR_s rfl ?_
  refine zR_s rfl ?_
  refine zR_s rfl ?_
  refine zR_call rfl rfl rfl rfl (zcallok_v (zm0 h75) rfl rfl) (m_isUnit h75) ?_
  first | refine zR_dt rfl rfl (fun c1 => ?_) (fun c1 => absurd (i_v hI hj) c1) | refine zR_bt rfl rfl (fun c1 => ?_) (fun c1 => absurd (i_v hI hj) c1) | refine zR_ifne rfl rfl (fun c1 => ?_) (fun c1 => absurd (i_v hI hj) c1)
  refine zR_cst (v := 0) rfl rfl rfl ?_
  refine zR_putC rfl rfl h75 rfl ?_
  refine zR_s rfl ?_
  refine zR_get rfl rfl (zm0 h75) rfl ?_
  refine zR_ifne rfl rfl (fun c => absurd c (by decide)) (fun _ => ?_)
  refine zR_s rfl ?_
  refine zR_s rfl ?_
  refine zR_get rfl rfl (zm0 h75) rfl ?_
  refine zR_s rfl ?_
  refine zR_ildMH rfl h75 (hj2) ?_
  refine zR_cst (v := (-1)) rfl rfl rfl ?_
  refine zR_icne rfl rfl (fun c2 => ?_) (fun c2 => ?_)
  · replace c2 := i_h2 hI hH hj c2
    refine zR_s rfl ?_
    refine zR_get rfl rfl (zm0 h75) rfl ?_
    refine zR_cst (v := 400) rfl rfl rfl ?_
    refine zR_icne rfl rfl (fun c3 => ?_) (fun c3 => ?_)
    · replace c3 := i_r2 hI c3
      refine zR_cst (v := 0) rfl rfl rfl ?_
      refine zR_putC rfl rfl h75 rfl ?_
      refine zR_s rfl ?_
      refine zR_get rfl rfl (zm0 h75) rfl ?_
      refine zR_ifle rfl rfl (fun _ => ?_) (fun c => absurd c (by decide))
      have hA5 := zroom1 hA.1 hA.2 c3
      refine zR_s rfl ?_
      refine zR_s rfl ?_
      refine zR_cst (v := 4) rfl rfl rfl ?_
      refine zR_s rfl ?_
      refine zR_get rfl rfl (zm0 h75) rfl ?_
      refine zR_s rfl ?_
      refine zR_ildMG 6 rfl h75 (by decide) (hj2) ?_
      refine zR_call rfl rfl rfl rfl (zcallok_v (zm0 h75) rfl rfl) (m_act h75 hA.1 hA5) ?_
      refine zR_s rfl ?_
      refine zR_get rfl rfl (zm0 h75) rfl ?_
      refine zR_s rfl ?_
      refine zR_cst (v := (-1)) rfl rfl rfl ?_
      refine zR_istMH rfl h75 (hj2) ?_
      refine zR_rete rfl rfl ?_ ?_
      all_goals (first | contradiction | (simp only [zOm, zHm, q_out, kfB, c1, c2, c3, if_true, if_false, not_true_eq_false, not_false_eq_true, and_self, and_true, true_and, or_true, true_or, or_false, false_or, and_false, false_and, reduceCtorEq, Bool.false_eq_true, Bool.true_eq_false, ite_self, eq_self]; done) | (simp only [zOm, zHm, q_out, kfB, c1, c2, c3, if_true, if_false, not_true_eq_false, not_false_eq_true, and_self, and_true, true_and, or_true, true_or, or_false, false_or, and_false, false_and, reduceCtorEq, Bool.false_eq_true, Bool.true_eq_false, ite_self, eq_self]; done))
    · replace c3 := i_r1 hI c3
      refine zR_cst (v := 3) rfl rfl rfl ?_
      refine zR_s rfl ?_
      refine zR_putC rfl rfl h75 rfl ?_
      refine zR_s rfl ?_
      refine zR_get rfl rfl (zm0 h75) rfl ?_
      refine zR_ifle rfl rfl (fun c => absurd c (by decide)) (fun _ => ?_)
      refine zR_rete rfl rfl ?_ ?_
      all_goals (first | contradiction | (simp only [zOm, zHm, q_out, kfB, c1, c2, c3, if_true, if_false, not_true_eq_false, not_false_eq_true, and_self, and_true, true_and, or_true, true_or, or_false, false_or, and_false, false_and, reduceCtorEq, Bool.false_eq_true, Bool.true_eq_false, ite_self, eq_self]; done) | (simp only [zOm, zHm, q_out, kfB, c1, c2, c3, if_true, if_false, not_true_eq_false, not_false_eq_true, and_self, and_true, true_and, or_true, true_or, or_false, false_or, and_false, false_and, reduceCtorEq, Bool.false_eq_true, Bool.true_eq_false, ite_self, eq_self]; done))
  · replace c2 := i_h1 hI hH hj c2
    refine zR_cst (v := 2) rfl rfl rfl ?_
    refine zR_s rfl ?_
    refine zR_putC rfl rfl h75 rfl ?_
    refine zR_s rfl ?_
    refine zR_get rfl rfl (zm0 h75) rfl ?_
    refine zR_ifle rfl rfl (fun c => absurd c (by decide)) (fun _ => ?_)
    refine zR_rete rfl rfl ?_ ?_
    all_goals (first | contradiction | (simp only [zOm, zHm, q_out, kfB, c1, c2, if_true, if_false, not_true_eq_false, not_false_eq_true, and_self, and_true, true_and, or_true, true_or, or_false, false_or, and_false, false_and, reduceCtorEq, Bool.false_eq_true, Bool.true_eq_false, ite_self, eq_self]; done) | (simp only [zOm, zHm, q_out, kfB, c1, c2, if_true, if_false, not_true_eq_false, not_false_eq_true, and_self, and_true, true_and, or_true, true_or, or_false, false_or, and_false, false_and, reduceCtorEq, Bool.false_eq_true, Bool.true_eq_false, ite_self, eq_self]; done))
theorem d_into {j : Nat} {w : Nat} (h75 : hc.length = 75) (hI : zInv N F G K Z M A l R) (hH : zHK M K H) (hj : j < M) (hw : w < M) : zMe sL sx 11 81 [.ref 75, .int (nI j), .int (nI w)] (hc ++ (zMd N F G H Z c B ++ t)) (zOm none (q_into N F G K Z M A j w)) (zHm kfB hc t N F G H Z B (upd H j (nI w)) B (q_into N F G K Z M A j w)) := by
  have hA := hI.2.2.1
  have hM := i_m1 hI
  have hm := i_m hI
  have hj2 : j < 64 := by omega
  have hw2 : w < 64 := by omega
  show zR sL sx _ 81 0 [.ref 75, .int (nI j), .int (nI w)] [] _ _ _
  refine zR_s rfl ?_
  refine zR_s rfl ?_
  refine zR_s rfl ?_
  refine zR_call rfl rfl rfl rfl (zcallok_v (zm0 h75) rfl rfl) (m_isUnit h75) ?_
  first | refine zR_df rfl rfl (fun c1 => absurd (i_v hI hj) c1) (fun c1 => ?_) | refine zR_bf rfl rfl (fun c1 => absurd (i_v hI hj) c1) (fun c1 => ?_) | refine zR_ifeq rfl rfl (fun c1 => absurd (i_v hI hj) c1) (fun c1 => ?_)
  refine zR_s rfl ?_
  refine zR_s rfl ?_
  refine zR_call rfl rfl rfl rfl (zcallok_v (zm0 h75) rfl rfl) (m_isUnit h75) ?_
  first | refine zR_dt rfl rfl (fun c2 => ?_) (fun c2 => absurd (i_v hI hw) c2) | refine zR_bt rfl rfl (fun c2 => ?_) (fun c2 => absurd (i_v hI hw) c2) | refine zR_ifne rfl rfl (fun c2 => ?_) (fun c2 => absurd (i_v hI hw) c2)
  refine zR_cst (v := 0) rfl rfl rfl ?_
  refine zR_putC rfl rfl h75 rfl ?_
  refine zR_s rfl ?_
  refine zR_get rfl rfl (zm0 h75) rfl ?_
  refine zR_ifne rfl rfl (fun c => absurd c (by decide)) (fun _ => ?_)
  refine zR_s rfl ?_
  refine zR_s rfl ?_
  first | refine zR_call rfl rfl rfl rfl (zcallok_v (zm0 h75) rfl rfl) (m_mstands h75 hj2) ?_ | refine zR_call rfl rfl rfl rfl (zcallok_v (zm0 h75) rfl rfl) (m_mstands h75 hw2) ?_
  refine zR_bf rfl rfl (fun c3 => ?_) (fun c3 => ?_)
  · try replace c3 : j = w := (nI_eq (by omega) (by omega)).mp c3
    refine zR_s rfl ?_
    refine zR_cst (v := 2) rfl rfl rfl ?_
    refine zR_putC rfl rfl h75 rfl ?_
    try replace c3 : ¬ j = w := fun e => c3 (congrArg nI e)
    refine zR_s rfl ?_
    refine zR_get rfl rfl (zm0 h75) rfl ?_
    refine zR_ifne rfl rfl (fun _ => ?_) (fun c => absurd c (by decide))
    refine zR_s rfl ?_
    refine zR_get rfl rfl (zm0 h75) rfl ?_
    refine zR_ifne rfl rfl (fun _ => ?_) (fun c => absurd c (by decide))
    try replace c3 := i_r2 hI c3
    refine zR_s rfl ?_
    refine zR_get rfl rfl (zm0 h75) rfl ?_
    refine zR_ifle rfl rfl (fun c => absurd c (by decide)) (fun _ => ?_)
    refine zR_rete rfl rfl ?_ ?_
    all_goals (first | contradiction | (simp only [zOm, zHm, q_into, kfB, c1, c2, c3, if_true, if_false, not_true_eq_false, not_false_eq_true, and_self, and_true, true_and, or_true, true_or, or_false, false_or, and_false, false_and, reduceCtorEq, Bool.false_eq_true, Bool.true_eq_false, ite_self, eq_self]; done) | (simp only [zOm, zHm, q_into, kfB, c1, c2, c3, if_true, if_false, not_true_eq_false, not_false_eq_true, and_self, and_true, true_and, or_true, true_or, or_false, false_or, and_false, false_and, reduceCtorEq, Bool.false_eq_true, Bool.true_eq_false, ite_self, eq_self]; done))
  · refine zR_s rfl ?_
    refine zR_s rfl ?_
    first | refine zR_call rfl rfl rfl rfl (zcallok_v (zm0 h75) rfl rfl) (m_mstands h75 hj2) ?_ | refine zR_call rfl rfl rfl rfl (zcallok_v (zm0 h75) rfl rfl) (m_mstands h75 hw2) ?_
    refine zR_bf rfl rfl (fun c4 => ?_) (fun c4 => ?_)
    · try replace c4 : j = w := (nI_eq (by omega) (by omega)).mp c4
      refine zR_s rfl ?_
      refine zR_cst (v := 2) rfl rfl rfl ?_
      refine zR_putC rfl rfl h75 rfl ?_
      try replace c4 : ¬ j = w := fun e => c4 (congrArg nI e)
      refine zR_s rfl ?_
      refine zR_get rfl rfl (zm0 h75) rfl ?_
      refine zR_ifne rfl rfl (fun _ => ?_) (fun c => absurd c (by decide))
      refine zR_s rfl ?_
      refine zR_get rfl rfl (zm0 h75) rfl ?_
      refine zR_ifne rfl rfl (fun _ => ?_) (fun c => absurd c (by decide))
      try replace c4 := i_r2 hI c4
      refine zR_s rfl ?_
      refine zR_get rfl rfl (zm0 h75) rfl ?_
      refine zR_ifle rfl rfl (fun c => absurd c (by decide)) (fun _ => ?_)
      refine zR_rete rfl rfl ?_ ?_
      all_goals (first | contradiction | (simp only [zOm, zHm, q_into, kfB, c1, c2, c3, c4, if_true, if_false, not_true_eq_false, not_false_eq_true, and_self, and_true, true_and, or_true, true_or, or_false, false_or, and_false, false_and, reduceCtorEq, Bool.false_eq_true, Bool.true_eq_false, ite_self, eq_self]; done) | (simp only [zOm, zHm, q_into, kfB, c1, c2, c3, c4, if_true, if_false, not_true_eq_false, not_false_eq_true, and_self, and_true, true_and, or_true, true_or, or_false, false_or, and_false, false_and, reduceCtorEq, Bool.false_eq_true, Bool.true_eq_false, ite_self, eq_self]; done))
    · refine zR_s rfl ?_
      refine zR_get rfl rfl (zm0 h75) rfl ?_
      refine zR_s rfl ?_
      first | refine zR_ildMG 6 rfl h75 (by decide) (hj2) ?_ | refine zR_ildMG 6 rfl h75 (by decide) (hw2) ?_
      refine zR_s rfl ?_
      refine zR_get rfl rfl (zm0 h75) rfl ?_
      refine zR_s rfl ?_
      first | refine zR_ildMG 6 rfl h75 (by decide) (hj2) ?_ | refine zR_ildMG 6 rfl h75 (by decide) (hw2) ?_
      refine zR_icne rfl rfl (fun c5 => ?_) (fun c5 => ?_)
      · try replace c5 : j = w := (nI_eq (by omega) (by omega)).mp c5
        refine zR_s rfl ?_
        refine zR_cst (v := 2) rfl rfl rfl ?_
        refine zR_putC rfl rfl h75 rfl ?_
        try replace c5 : ¬ j = w := fun e => c5 (congrArg nI e)
        refine zR_s rfl ?_
        refine zR_get rfl rfl (zm0 h75) rfl ?_
        refine zR_ifne rfl rfl (fun _ => ?_) (fun c => absurd c (by decide))
        refine zR_s rfl ?_
        refine zR_get rfl rfl (zm0 h75) rfl ?_
        refine zR_ifne rfl rfl (fun _ => ?_) (fun c => absurd c (by decide))
        try replace c5 := i_r2 hI c5
        refine zR_s rfl ?_
        refine zR_get rfl rfl (zm0 h75) rfl ?_
        refine zR_ifle rfl rfl (fun c => absurd c (by decide)) (fun _ => ?_)
        refine zR_rete rfl rfl ?_ ?_
        all_goals (first | contradiction | (simp only [zOm, zHm, q_into, kfB, c1, c2, c3, c4, c5, if_true, if_false, not_true_eq_false, not_false_eq_true, and_self, and_true, true_and, or_true, true_or, or_false, false_or, and_false, false_and, reduceCtorEq, Bool.false_eq_true, Bool.true_eq_false, ite_self, eq_self]; done) | (simp only [zOm, zHm, q_into, kfB, c1, c2, c3, c4, c5, if_true, if_false, not_true_eq_false, not_false_eq_true, and_self, and_true, true_and, or_true, true_or, or_false, false_or, and_false, false_and, reduceCtorEq, Bool.false_eq_true, Bool.true_eq_false, ite_self, eq_self]; done))
      · refine zR_s rfl ?_
        refine zR_s rfl ?_
        refine zR_icne rfl rfl (fun c6 => ?_) (fun c6 => ?_)
        · try replace c6 : ¬ j = w := fun e => c6 (congrArg nI e)
          refine zR_s rfl ?_
          refine zR_get rfl rfl (zm0 h75) rfl ?_
          refine zR_ifne rfl rfl (fun c => absurd c (by decide)) (fun _ => ?_)
          refine zR_s rfl ?_
          refine zR_get rfl rfl (zm0 h75) rfl ?_
          refine zR_s rfl ?_
          first | refine zR_ildMH rfl h75 (hj2) ?_ | refine zR_ildMH rfl h75 (hw2) ?_
          refine zR_s rfl ?_
          refine zR_iceq rfl rfl (fun c7 => ?_) (fun c7 => ?_)
          · try replace c7 := i_h3 hI hH hj hw c7
            refine zR_s rfl ?_
            refine zR_cst (v := 2) rfl rfl rfl ?_
            refine zR_putC rfl rfl h75 rfl ?_
            refine zR_s rfl ?_
            refine zR_get rfl rfl (zm0 h75) rfl ?_
            refine zR_ifne rfl rfl (fun _ => ?_) (fun c => absurd c (by decide))
            try replace c7 := i_r2 hI c7
            refine zR_s rfl ?_
            refine zR_get rfl rfl (zm0 h75) rfl ?_
            refine zR_ifle rfl rfl (fun c => absurd c (by decide)) (fun _ => ?_)
            refine zR_rete rfl rfl ?_ ?_
            all_goals (first | contradiction | (simp only [zOm, zHm, q_into, kfB, c1, c2, c3, c4, c5, c6, c7, if_true, if_false, not_true_eq_false, not_false_eq_true, and_self, and_true, true_and, or_true, true_or, or_false, false_or, and_false, false_and, reduceCtorEq, Bool.false_eq_true, Bool.true_eq_false, ite_self, eq_self]; done) | (simp only [zOm, zHm, q_into, kfB, c1, c2, c3, c4, c5, c6, c7, if_true, if_false, not_true_eq_false, not_false_eq_true, and_self, and_true, true_and, or_true, true_or, or_false, false_or, and_false, false_and, reduceCtorEq, Bool.false_eq_true, Bool.true_eq_false, ite_self, eq_self]; done))
          · replace c7 := i_h4 hI hH hj c7
            refine zR_s rfl ?_
            refine zR_s rfl ?_
            refine zR_s rfl ?_
            refine zR_call rfl rfl rfl rfl (zcallok_v (zm0 h75) rfl rfl) (m_isIn h75 hm hH (i_ch hI) hw hj) ?_
            first | refine zR_dt rfl rfl (fun c8 => ?_) (fun c8 => ?_) | refine zR_bt rfl rfl (fun c8 => ?_) (fun c8 => ?_) | refine zR_ifne rfl rfl (fun c8 => ?_) (fun c8 => ?_)
            · try replace c8 := i_h3 hI hH hj hw c8
              refine zR_s rfl ?_
              refine zR_cst (v := 2) rfl rfl rfl ?_
              refine zR_putC rfl rfl h75 rfl ?_
              refine zR_s rfl ?_
              refine zR_get rfl rfl (zm0 h75) rfl ?_
              refine zR_ifne rfl rfl (fun _ => ?_) (fun c => absurd c (by decide))
              try replace c8 := i_r2 hI c8
              refine zR_s rfl ?_
              refine zR_get rfl rfl (zm0 h75) rfl ?_
              refine zR_ifle rfl rfl (fun c => absurd c (by decide)) (fun _ => ?_)
              refine zR_rete rfl rfl ?_ ?_
              all_goals (first | contradiction | (simp only [zOm, zHm, q_into, kfB, c1, c2, c3, c4, c5, c6, c7, c8, if_true, if_false, not_true_eq_false, not_false_eq_true, and_self, and_true, true_and, or_true, true_or, or_false, false_or, and_false, false_and, reduceCtorEq, Bool.false_eq_true, Bool.true_eq_false, ite_self, eq_self]; done) | (simp only [zOm, zHm, q_into, kfB, c1, c2, c3, c4, c5, c6, c7, c8, if_true, if_false, not_true_eq_false, not_false_eq_true, and_self, and_true, true_and, or_true, true_or, or_false, false_or, and_false, false_and, reduceCtorEq, Bool.false_eq_true, Bool.true_eq_false, ite_self, eq_self]; done))
            · refine zR_s rfl ?_
              refine zR_s rfl ?_
              refine zR_call rfl rfl rfl rfl (zcallok_v (zm0 h75) rfl rfl) (m_mdepth2 h75 hm hH (i_ch hI) hw) ?_
              refine zR_s rfl ?_
              refine zR_s rfl ?_
              refine zR_call rfl rfl rfl rfl (zcallok_v (zm0 h75) rfl rfl) (m_tall h75 hM hm hH (i_ch hI) hj) ?_
              refine zR_iadd rfl ?_
              rw [i_lev hI c3 c4]
              refine zR_cst (v := 5) rfl rfl rfl ?_
              refine zR_icle rfl rfl (fun c9 => ?_) (fun c9 => ?_)
              · refine zR_s rfl ?_
                refine zR_get rfl rfl (zm0 h75) rfl ?_
                refine zR_ifne rfl rfl (fun c => absurd c (by decide)) (fun _ => ?_)
                refine zR_s rfl ?_
                refine zR_get rfl rfl (zm0 h75) rfl ?_
                refine zR_cst (v := 400) rfl rfl rfl ?_
                refine zR_icne rfl rfl (fun c10 => ?_) (fun c10 => ?_)
                · try replace c10 := i_r2 hI c10
                  refine zR_s rfl ?_
                  refine zR_get rfl rfl (zm0 h75) rfl ?_
                  refine zR_ifle rfl rfl (fun _ => ?_) (fun c => absurd c (by decide))
                  have hA5 := zroom1 hA.1 hA.2 c10
                  refine zR_s rfl ?_
                  refine zR_get rfl rfl (zm0 h75) rfl ?_
                  refine zR_s rfl ?_
                  refine zR_s rfl ?_
                  first | refine zR_istMH rfl h75 (hj2) ?_ | refine zR_istMH rfl h75 (hw2) ?_
                  refine zR_s rfl ?_
                  refine zR_s rfl ?_
                  refine zR_cst (v := 3) rfl rfl rfl ?_
                  refine zR_s rfl ?_
                  refine zR_call rfl rfl rfl rfl (zcallok_v (zm0 h75) rfl rfl) (m_act h75 hA.1 hA5) ?_
                  refine zR_rete rfl rfl ?_ ?_
                  all_goals (first | contradiction | (simp only [zOm, zHm, q_into, kfB, c1, c2, c3, c4, c5, c6, c7, c8, c9, c10, if_true, if_false, not_true_eq_false, not_false_eq_true, and_self, and_true, true_and, or_true, true_or, or_false, false_or, and_false, false_and, reduceCtorEq, Bool.false_eq_true, Bool.true_eq_false, ite_self, eq_self]; done) | (simp only [zOm, zHm, q_into, kfB, c1, c2, c3, c4, c5, c6, c7, c8, c9, c10, if_true, if_false, not_true_eq_false, not_false_eq_true, and_self, and_true, true_and, or_true, true_or, or_false, false_or, and_false, false_and, reduceCtorEq, Bool.false_eq_true, Bool.true_eq_false, ite_self, eq_self]; done))
                · replace c10 := i_r1 hI c10
                  refine zR_s rfl ?_
                  refine zR_cst (v := 3) rfl rfl rfl ?_
                  refine zR_putC rfl rfl h75 rfl ?_
                  try replace c10 := i_r2 hI c10
                  refine zR_s rfl ?_
                  refine zR_get rfl rfl (zm0 h75) rfl ?_
                  refine zR_ifle rfl rfl (fun c => absurd c (by decide)) (fun _ => ?_)
                  refine zR_rete rfl rfl ?_ ?_
                  all_goals (first | contradiction | (simp only [zOm, zHm, q_into, kfB, c1, c2, c3, c4, c5, c6, c7, c8, c9, c10, if_true, if_false, not_true_eq_false, not_false_eq_true, and_self, and_true, true_and, or_true, true_or, or_false, false_or, and_false, false_and, reduceCtorEq, Bool.false_eq_true, Bool.true_eq_false, ite_self, eq_self]; done) | (simp only [zOm, zHm, q_into, kfB, c1, c2, c3, c4, c5, c6, c7, c8, c9, c10, if_true, if_false, not_true_eq_false, not_false_eq_true, and_self, and_true, true_and, or_true, true_or, or_false, false_or, and_false, false_and, reduceCtorEq, Bool.false_eq_true, Bool.true_eq_false, ite_self, eq_self]; done))
              · try replace c9 := i_h3 hI hH hj hw c9
                refine zR_s rfl ?_
                refine zR_cst (v := 2) rfl rfl rfl ?_
                refine zR_putC rfl rfl h75 rfl ?_
                refine zR_s rfl ?_
                refine zR_get rfl rfl (zm0 h75) rfl ?_
                refine zR_ifne rfl rfl (fun _ => ?_) (fun c => absurd c (by decide))
                try replace c9 := i_r2 hI c9
                refine zR_s rfl ?_
                refine zR_get rfl rfl (zm0 h75) rfl ?_
                refine zR_ifle rfl rfl (fun c => absurd c (by decide)) (fun _ => ?_)
                refine zR_rete rfl rfl ?_ ?_
                all_goals (first | contradiction | (simp only [zOm, zHm, q_into, kfB, c1, c2, c3, c4, c5, c6, c7, c8, c9, if_true, if_false, not_true_eq_false, not_false_eq_true, and_self, and_true, true_and, or_true, true_or, or_false, false_or, and_false, false_and, reduceCtorEq, Bool.false_eq_true, Bool.true_eq_false, ite_self, eq_self]; done) | (simp only [zOm, zHm, q_into, kfB, c1, c2, c3, c4, c5, c6, c7, c8, c9, if_true, if_false, not_true_eq_false, not_false_eq_true, and_self, and_true, true_and, or_true, true_or, or_false, false_or, and_false, false_and, reduceCtorEq, Bool.false_eq_true, Bool.true_eq_false, ite_self, eq_self]; done))
        · try replace c6 : j = w := (nI_eq (by omega) (by omega)).mp c6
          refine zR_s rfl ?_
          refine zR_cst (v := 2) rfl rfl rfl ?_
          refine zR_putC rfl rfl h75 rfl ?_
          try replace c6 : ¬ j = w := fun e => c6 (congrArg nI e)
          refine zR_s rfl ?_
          refine zR_get rfl rfl (zm0 h75) rfl ?_
          refine zR_ifne rfl rfl (fun _ => ?_) (fun c => absurd c (by decide))
          refine zR_s rfl ?_
          refine zR_get rfl rfl (zm0 h75) rfl ?_
          refine zR_ifne rfl rfl (fun _ => ?_) (fun c => absurd c (by decide))
          try replace c6 := i_r2 hI c6
          refine zR_s rfl ?_
          refine zR_get rfl rfl (zm0 h75) rfl ?_
          refine zR_ifle rfl rfl (fun c => absurd c (by decide)) (fun _ => ?_)
          refine zR_rete rfl rfl ?_ ?_
          all_goals (first | contradiction | (simp only [zOm, zHm, q_into, kfB, c1, c2, c3, c4, c5, c6, if_true, if_false, not_true_eq_false, not_false_eq_true, and_self, and_true, true_and, or_true, true_or, or_false, false_or, and_false, false_and, reduceCtorEq, Bool.false_eq_true, Bool.true_eq_false, ite_self, eq_self]; done) | (simp only [zOm, zHm, q_into, kfB, c1, c2, c3, c4, c5, c6, if_true, if_false, not_true_eq_false, not_false_eq_true, and_self, and_true, true_and, or_true, true_or, or_false, false_or, and_false, false_and, reduceCtorEq, Bool.false_eq_true, Bool.true_eq_false, ite_self, eq_self]; done))
theorem d_lost {j : Nat} {r : Int32} (h75 : hc.length = 75) (hI : zInv N F G K Z M A l R) (hH : zHK M K H) (hj : j < M) : zMe sL sx 11 90 [.ref 75, .int (nI j), .int r] (hc ++ (zMd N F G H Z c B ++ t)) (zOm none (q_lost N F G K Z M A j r)) (zHm kfA hc t N F G H Z B (zhl H K j M) (zbl B K j M) (q_lost N F G K Z M A j r)) := by
  have hA := hI.2.2.1
  have hM := i_m1 hI
  have hm := i_m hI
  have hj2 : j < 64 := by omega
  show zR sL sx _ 90 0 [.ref 75, .int (nI j), .int r] [] _ _ _
  refine zR_s rfl ?_
  refine zR_s rfl ?_
  refine zR_s rfl ?_
  refine zR_call rfl rfl rfl rfl (zcallok_v (zm0 h75) rfl rfl) (m_isUnit h75) ?_
  first | refine zR_dt rfl rfl (fun c1 => ?_) (fun c1 => absurd (i_v hI hj) c1) | refine zR_bt rfl rfl (fun c1 => ?_) (fun c1 => absurd (i_v hI hj) c1) | refine zR_ifne rfl rfl (fun c1 => ?_) (fun c1 => absurd (i_v hI hj) c1)
  refine zR_s rfl ?_
  refine zR_s rfl ?_
  refine zR_lc (v := 1) rfl rfl ?_
  refine zR_ldc2 (v := 9) rfl rfl ?_
  refine zR_call rfl rfl rfl rfl (zcallok_s rfl) (m_in (b := 1) (c := 9)) ?_
  first | refine zR_dt rfl rfl (fun c2 => ?_) (fun c2 => ?_) | refine zR_bt rfl rfl (fun c2 => ?_) (fun c2 => ?_) | refine zR_ifne rfl rfl (fun c2 => ?_) (fun c2 => ?_)
  · refine zR_cst (v := 0) rfl rfl rfl ?_
    refine zR_putC rfl rfl h75 rfl ?_
    refine zR_s rfl ?_
    refine zR_get rfl rfl (zm0 h75) rfl ?_
    refine zR_ifne rfl rfl (fun c => absurd c (by decide)) (fun _ => ?_)
    refine zR_s rfl ?_
    refine zR_s rfl ?_
    refine zR_s rfl ?_
    refine zR_call rfl rfl rfl rfl (zcallok_v (zm0 h75) rfl rfl) (m_mstands h75 hj2) ?_
    refine zR_bt rfl rfl (fun c3 => ?_) (fun c3 => ?_)
    · refine zR_s rfl ?_
      refine zR_get rfl rfl (zm0 h75) rfl ?_
      refine zR_cst (v := 400) rfl rfl rfl ?_
      refine zR_icne rfl rfl (fun c4 => ?_) (fun c4 => ?_)
      · replace c4 := i_r2 hI c4
        refine zR_cst (v := 0) rfl rfl rfl ?_
        refine zR_putC rfl rfl h75 rfl ?_
        refine zR_s rfl ?_
        refine zR_get rfl rfl (zm0 h75) rfl ?_
        refine zR_ifle rfl rfl (fun _ => ?_) (fun c => absurd c (by decide))
        have hA5 := zroom1 hA.1 hA.2 c4
        refine zR_s rfl ?_
        refine zR_s rfl ?_
        refine zR_cst (v := 9) rfl rfl rfl ?_
        refine zR_s rfl ?_
        refine zR_call rfl rfl rfl rfl (zcallok_v (zm0 h75) rfl rfl) (m_act h75 hA.1 hA5) ?_
        refine zR_s rfl ?_
        refine zR_s rfl ?_
        refine zR_cst (v := 4) rfl rfl rfl ?_
        refine zR_call rfl rfl rfl rfl (zcallok_v (zm0 h75) rfl rfl) (m_leave h75 (show upd N 4 _ 1 = nI M from hM) hm hH (i_ch hI) hj) ?_
        refine zR_rete rfl rfl ?_ ?_
        all_goals (first | contradiction | (simp only [zOm, zHm, q_lost, kfA, c1, c2, c3, c4, if_true, if_false, not_true_eq_false, not_false_eq_true, and_self, and_true, true_and, or_true, true_or, or_false, false_or, and_false, false_and, reduceCtorEq, Bool.false_eq_true, Bool.true_eq_false, ite_self, eq_self]; done) | (simp only [zOm, zHm, q_lost, kfA, c1, c2, c3, c4, if_true, if_false, not_true_eq_false, not_false_eq_true, and_self, and_true, true_and, or_true, true_or, or_false, false_or, and_false, false_and, reduceCtorEq, Bool.false_eq_true, Bool.true_eq_false, ite_self, eq_self]; done))
      · replace c4 := i_r1 hI c4
        refine zR_cst (v := 4) rfl rfl rfl ?_
        refine zR_s rfl ?_
        refine zR_putC rfl rfl h75 rfl ?_
        refine zR_s rfl ?_
        refine zR_get rfl rfl (zm0 h75) rfl ?_
        refine zR_ifle rfl rfl (fun c => absurd c (by decide)) (fun _ => ?_)
        refine zR_rete rfl rfl ?_ ?_
        all_goals (first | contradiction | (simp only [zOm, zHm, q_lost, kfA, c1, c2, c3, c4, if_true, if_false, not_true_eq_false, not_false_eq_true, and_self, and_true, true_and, or_true, true_or, or_false, false_or, and_false, false_and, reduceCtorEq, Bool.false_eq_true, Bool.true_eq_false, ite_self, eq_self]; done) | (simp only [zOm, zHm, q_lost, kfA, c1, c2, c3, c4, if_true, if_false, not_true_eq_false, not_false_eq_true, and_self, and_true, true_and, or_true, true_or, or_false, false_or, and_false, false_and, reduceCtorEq, Bool.false_eq_true, Bool.true_eq_false, ite_self, eq_self]; done))
    · refine zR_cst (v := 3) rfl rfl rfl ?_
      refine zR_s rfl ?_
      refine zR_putC rfl rfl h75 rfl ?_
      refine zR_s rfl ?_
      refine zR_get rfl rfl (zm0 h75) rfl ?_
      refine zR_ifle rfl rfl (fun c => absurd c (by decide)) (fun _ => ?_)
      refine zR_rete rfl rfl ?_ ?_
      all_goals (first | contradiction | (simp only [zOm, zHm, q_lost, kfA, c1, c2, c3, if_true, if_false, not_true_eq_false, not_false_eq_true, and_self, and_true, true_and, or_true, true_or, or_false, false_or, and_false, false_and, reduceCtorEq, Bool.false_eq_true, Bool.true_eq_false, ite_self, eq_self]; done) | (simp only [zOm, zHm, q_lost, kfA, c1, c2, c3, if_true, if_false, not_true_eq_false, not_false_eq_true, and_self, and_true, true_and, or_true, true_or, or_false, false_or, and_false, false_and, reduceCtorEq, Bool.false_eq_true, Bool.true_eq_false, ite_self, eq_self]; done))
  · refine zR_cst (v := 2) rfl rfl rfl ?_
    refine zR_s rfl ?_
    refine zR_putC rfl rfl h75 rfl ?_
    refine zR_s rfl ?_
    refine zR_get rfl rfl (zm0 h75) rfl ?_
    refine zR_ifne rfl rfl (fun _ => ?_) (fun c => absurd c (by decide))
    refine zR_s rfl ?_
    refine zR_get rfl rfl (zm0 h75) rfl ?_
    refine zR_ifle rfl rfl (fun c => absurd c (by decide)) (fun _ => ?_)
    refine zR_rete rfl rfl ?_ ?_
    all_goals (first | contradiction | (simp only [zOm, zHm, q_lost, kfA, c1, c2, if_true, if_false, not_true_eq_false, not_false_eq_true, and_self, and_true, true_and, or_true, true_or, or_false, false_or, and_false, false_and, reduceCtorEq, Bool.false_eq_true, Bool.true_eq_false, ite_self, eq_self]; done) | (simp only [zOm, zHm, q_lost, kfA, c1, c2, if_true, if_false, not_true_eq_false, not_false_eq_true, and_self, and_true, true_and, or_true, true_or, or_false, false_or, and_false, false_and, reduceCtorEq, Bool.false_eq_true, Bool.true_eq_false, ite_self, eq_self]; done))
theorem d_state {j : Nat} {r : Int32} (h75 : hc.length = 75) (hI : zInv N F G K Z M A l R) (hH : zHK M K H) (hj : j < M) : zMe sL sx 11 88 [.ref 75, .int (nI j), .int r] (hc ++ (zMd N F G H Z c B ++ t)) (zOm none (q_state N F G K Z M A j r)) (zHm kfA hc t N F G H Z B (if r = 5 then zhl H K j M else H) (if r = 5 then zbl B K j M else B) (q_state N F G K Z M A j r)) := by
  have hA := hI.2.2.1
  have hM := i_m1 hI
  have hm := i_m hI
  have hj2 : j < 64 := by omega
  obtain ⟨a, ha, e0, e1, e2⟩ := (i_un hI hj).1
  have hl := hI.1.2
  show zR sL sx _ 88 0 [.ref 75, .int (nI j), .int r] [] _ _ _
  refine zR_s rfl ?_
  refine zR_s rfl ?_
  refine zR_s rfl ?_
  refine zR_call rfl rfl rfl rfl (zcallok_v (zm0 h75) rfl rfl) (m_isUnit h75) ?_
  first | refine zR_dt rfl rfl (fun c1 => ?_) (fun c1 => absurd (i_v hI hj) c1) | refine zR_bt rfl rfl (fun c1 => ?_) (fun c1 => absurd (i_v hI hj) c1) | refine zR_ifne rfl rfl (fun c1 => ?_) (fun c1 => absurd (i_v hI hj) c1)
  refine zR_s rfl ?_
  refine zR_s rfl ?_
  refine zR_lc (v := 0) rfl rfl ?_
  refine zR_ldc2 (v := 5) rfl rfl ?_
  refine zR_call rfl rfl rfl rfl (zcallok_s rfl) (m_in (b := 0) (c := 5)) ?_
  first | refine zR_dt rfl rfl (fun c2 => ?_) (fun c2 => ?_) | refine zR_bt rfl rfl (fun c2 => ?_) (fun c2 => ?_) | refine zR_ifne rfl rfl (fun c2 => ?_) (fun c2 => ?_)
  · refine zR_cst (v := 0) rfl rfl rfl ?_
    refine zR_putC rfl rfl h75 rfl ?_
    refine zR_s rfl ?_
    refine zR_get rfl rfl (zm0 h75) rfl ?_
    refine zR_ifne rfl rfl (fun c => absurd c (by decide)) (fun _ => ?_)
    refine zR_s rfl ?_
    refine zR_s rfl ?_
    refine zR_s rfl ?_
    refine zR_s rfl ?_
    refine zR_call rfl rfl rfl rfl (zcallok_v (zm0 h75) rfl rfl) (m_mayBecome h75 hj2 e0 (by omega) e2.symm (i_st hI hj)) ?_
    first | refine zR_dt rfl rfl (fun c3 => ?_) (fun c3 => ?_) | refine zR_bt rfl rfl (fun c3 => ?_) (fun c3 => ?_) | refine zR_ifne rfl rfl (fun c3 => ?_) (fun c3 => ?_)
    · refine zR_s rfl ?_
      refine zR_get rfl rfl (zm0 h75) rfl ?_
      refine zR_cst (v := 400) rfl rfl rfl ?_
      refine zR_icne rfl rfl (fun c4 => ?_) (fun c4 => ?_)
      · replace c4 := i_r2 hI c4
        refine zR_cst (v := 0) rfl rfl rfl ?_
        refine zR_putC rfl rfl h75 rfl ?_
        refine zR_s rfl ?_
        refine zR_get rfl rfl (zm0 h75) rfl ?_
        refine zR_ifle rfl rfl (fun _ => ?_) (fun c => absurd c (by decide))
        have hA5 := zroom1 hA.1 hA.2 c4
        refine zR_s rfl ?_
        refine zR_s rfl ?_
        refine zR_cst (v := 7) rfl rfl rfl ?_
        refine zR_s rfl ?_
        refine zR_call rfl rfl rfl rfl (zcallok_v (zm0 h75) rfl rfl) (m_act h75 hA.1 hA5) ?_
        refine zR_s rfl ?_
        refine zR_cst (v := 5) rfl rfl rfl ?_
        refine zR_icne rfl rfl (fun c5 => ?_) (fun c5 => ?_)
        · refine zR_s rfl ?_
          refine zR_get rfl rfl (zm0 h75) rfl ?_
          refine zR_s rfl ?_
          refine zR_s rfl ?_
          refine zR_istMG 5 rfl h75 (by decide) (hj2) ?_
          refine zR_rete rfl rfl ?_ ?_
          all_goals (first | contradiction | (simp only [zOm, zHm, q_state, kfA, c1, c2, c3, c4, c5, if_true, if_false, not_true_eq_false, not_false_eq_true, and_self, and_true, true_and, or_true, true_or, or_false, false_or, and_false, false_and, reduceCtorEq, Bool.false_eq_true, Bool.true_eq_false, ite_self, eq_self]; done) | (simp only [zOm, zHm, q_state, kfA, c1, c2, c3, c4, c5, if_true, if_false, not_true_eq_false, not_false_eq_true, and_self, and_true, true_and, or_true, true_or, or_false, false_or, and_false, false_and, reduceCtorEq, Bool.false_eq_true, Bool.true_eq_false, ite_self, eq_self]; done) | (simp only [zOm, zHm, q_state, if_pos c2, if_pos c3, if_pos c4, if_pos c5]; done))
        · refine zR_s rfl ?_
          refine zR_s rfl ?_
          refine zR_cst (v := 5) rfl rfl rfl ?_
          refine zR_call rfl rfl rfl rfl (zcallok_v (zm0 h75) rfl rfl) (m_leave h75 (show upd N 4 _ 1 = nI M from hM) hm hH (i_ch hI) hj) ?_
          refine zR_s rfl ?_
          refine zR_rete rfl rfl ?_ ?_
          all_goals (first | contradiction | (simp only [zOm, zHm, q_state, kfA, c1, c2, c3, c4, c5, if_true, if_false, not_true_eq_false, not_false_eq_true, and_self, and_true, true_and, or_true, true_or, or_false, false_or, and_false, false_and, reduceCtorEq, Bool.false_eq_true, Bool.true_eq_false, ite_self, eq_self]; done) | (simp only [zOm, zHm, q_state, kfA, c1, c2, c3, c4, c5, if_true, if_false, not_true_eq_false, not_false_eq_true, and_self, and_true, true_and, or_true, true_or, or_false, false_or, and_false, false_and, reduceCtorEq, Bool.false_eq_true, Bool.true_eq_false, ite_self, eq_self]; done) | (simp only [zOm, zHm, q_state, if_pos c2, if_pos c3, if_pos c4, if_pos c5]; done))
      · replace c4 := i_r1 hI c4
        refine zR_cst (v := 4) rfl rfl rfl ?_
        refine zR_s rfl ?_
        refine zR_putC rfl rfl h75 rfl ?_
        refine zR_s rfl ?_
        refine zR_get rfl rfl (zm0 h75) rfl ?_
        refine zR_ifle rfl rfl (fun c => absurd c (by decide)) (fun _ => ?_)
        refine zR_rete rfl rfl ?_ ?_
        all_goals (first | contradiction | (simp only [zOm, zHm, q_state, kfA, c1, c2, c3, c4, if_true, if_false, not_true_eq_false, not_false_eq_true, and_self, and_true, true_and, or_true, true_or, or_false, false_or, and_false, false_and, reduceCtorEq, Bool.false_eq_true, Bool.true_eq_false, ite_self, eq_self]; done) | (simp only [zOm, zHm, q_state, kfA, c1, c2, c3, c4, if_true, if_false, not_true_eq_false, not_false_eq_true, and_self, and_true, true_and, or_true, true_or, or_false, false_or, and_false, false_and, reduceCtorEq, Bool.false_eq_true, Bool.true_eq_false, ite_self, eq_self]; done) | (simp only [zOm, zHm, q_state, if_pos c2, if_pos c3, if_pos c4, if_pos c5]; done))
    · refine zR_cst (v := 3) rfl rfl rfl ?_
      refine zR_s rfl ?_
      refine zR_putC rfl rfl h75 rfl ?_
      refine zR_s rfl ?_
      refine zR_get rfl rfl (zm0 h75) rfl ?_
      refine zR_ifle rfl rfl (fun c => absurd c (by decide)) (fun _ => ?_)
      refine zR_rete rfl rfl ?_ ?_
      all_goals (first | contradiction | (simp only [zOm, zHm, q_state, kfA, c1, c2, c3, if_true, if_false, not_true_eq_false, not_false_eq_true, and_self, and_true, true_and, or_true, true_or, or_false, false_or, and_false, false_and, reduceCtorEq, Bool.false_eq_true, Bool.true_eq_false, ite_self, eq_self]; done) | (simp only [zOm, zHm, q_state, kfA, c1, c2, c3, if_true, if_false, not_true_eq_false, not_false_eq_true, and_self, and_true, true_and, or_true, true_or, or_false, false_or, and_false, false_and, reduceCtorEq, Bool.false_eq_true, Bool.true_eq_false, ite_self, eq_self]; done) | (simp only [zOm, zHm, q_state, if_pos c2, if_pos c3, if_pos c4, if_pos c5]; done))
  · refine zR_cst (v := 2) rfl rfl rfl ?_
    refine zR_s rfl ?_
    refine zR_putC rfl rfl h75 rfl ?_
    refine zR_s rfl ?_
    refine zR_get rfl rfl (zm0 h75) rfl ?_
    refine zR_ifne rfl rfl (fun _ => ?_) (fun c => absurd c (by decide))
    refine zR_s rfl ?_
    refine zR_get rfl rfl (zm0 h75) rfl ?_
    refine zR_ifle rfl rfl (fun c => absurd c (by decide)) (fun _ => ?_)
    refine zR_rete rfl rfl ?_ ?_
    all_goals (first | contradiction | (simp only [zOm, zHm, q_state, kfA, c1, c2, if_true, if_false, not_true_eq_false, not_false_eq_true, and_self, and_true, true_and, or_true, true_or, or_false, false_or, and_false, false_and, reduceCtorEq, Bool.false_eq_true, Bool.true_eq_false, ite_self, eq_self]; done) | (simp only [zOm, zHm, q_state, kfA, c1, c2, if_true, if_false, not_true_eq_false, not_false_eq_true, and_self, and_true, true_and, or_true, true_or, or_false, false_or, and_false, false_and, reduceCtorEq, Bool.false_eq_true, Bool.true_eq_false, ite_self, eq_self]; done) | (simp only [zOm, zHm, q_state, if_pos c2, if_pos c3, if_pos c4, if_pos c5]; done))
theorem d_found {j : Nat} {p : Int32} (h75 : hc.length = 75) (hI : zInv N F G K Z M A l R) (hH : zHK M K H) (hj : j < M) : zMe sL sx 11 91 [.ref 75, .int (nI j), .int p] (hc ++ (zMd N F G H Z c B ++ t)) (zOm none (q_found N F G K Z M A j p)) (zHm kfA hc t N F G H Z B H B (q_found N F G K Z M A j p)) := by
  have hA := hI.2.2.1
  have hM := i_m1 hI
  have hm := i_m hI
  have hj2 : j < 64 := by omega
  obtain ⟨a, ha, e0, e1, e2⟩ := (i_un hI hj).1
  have hl := hI.1.2
  show zR sL sx _ 91 0 [.ref 75, .int (nI j), .int p] [] _ _ _
  refine zR_s rfl ?_
  refine zR_s rfl ?_
  refine zR_s rfl ?_
  refine zR_call rfl rfl rfl rfl (zcallok_v (zm0 h75) rfl rfl) (m_isUnit h75) ?_
  first | refine zR_dt rfl rfl (fun c1 => ?_) (fun c1 => absurd (i_v hI hj) c1) | refine zR_bt rfl rfl (fun c1 => ?_) (fun c1 => absurd (i_v hI hj) c1) | refine zR_ifne rfl rfl (fun c1 => ?_) (fun c1 => absurd (i_v hI hj) c1)
  refine zR_s rfl ?_
  refine zR_s rfl ?_
  refine zR_lc (v := 0) rfl rfl ?_
  refine zR_ldc2 (v := 15) rfl rfl ?_
  refine zR_call rfl rfl rfl rfl (zcallok_s rfl) (m_in (b := 0) (c := 15)) ?_
  first | refine zR_dt rfl rfl (fun c2 => ?_) (fun c2 => ?_) | refine zR_bt rfl rfl (fun c2 => ?_) (fun c2 => ?_) | refine zR_ifne rfl rfl (fun c2 => ?_) (fun c2 => ?_)
  · obtain ⟨p', hp, rfl, ep⟩ := zpl (n := 15) rfl (by decide) c2
    refine zR_cst (v := 0) rfl rfl rfl ?_
    refine zR_putC rfl rfl h75 rfl ?_
    refine zR_s rfl ?_
    refine zR_get rfl rfl (zm0 h75) rfl ?_
    refine zR_ifne rfl rfl (fun c => absurd c (by decide)) (fun _ => ?_)
    refine zR_s rfl ?_
    refine zR_s rfl ?_
    refine zR_get rfl rfl (zm0 h75) rfl ?_
    refine zR_s rfl ?_
    first | refine zR_ildMG 5 rfl h75 (by decide) (hj2) ?_ | refine zR_ildMG 5 rfl h75 (by decide) ((show p' < 16 by omega)) ?_
    refine zR_cst (v := 4) rfl rfl rfl ?_
    refine zR_iceq rfl rfl (fun c3 => ?_) (fun c3 => ?_)
    · refine zR_s rfl ?_
      refine zR_get rfl rfl (zm0 h75) rfl ?_
      refine zR_cst (v := 400) rfl rfl rfl ?_
      refine zR_iceq rfl rfl (fun c4 => ?_) (fun c4 => ?_)
      · first | replace c4 := i_r1 hI c4 | replace c4 := i_p1 hI (show p' < 16 by omega) c4
        refine zR_cst (v := 4) rfl rfl rfl ?_
        refine zR_s rfl ?_
        refine zR_putC rfl rfl h75 rfl ?_
        refine zR_s rfl ?_
        refine zR_get rfl rfl (zm0 h75) rfl ?_
        refine zR_ifle rfl rfl (fun c => absurd c (by decide)) (fun _ => ?_)
        refine zR_rete rfl rfl ?_ ?_
        all_goals (first | contradiction | (simp only [zOm, zHm, q_found, kfA, ep, e2, c1, c2, c3, c4, if_true, if_false, not_true_eq_false, not_false_eq_true, and_self, and_true, true_and, or_true, true_or, or_false, false_or, and_false, false_and, reduceCtorEq, Bool.false_eq_true, Bool.true_eq_false, ite_self, eq_self]; done) | (simp only [zOm, zHm, q_found, kfA, c1, c2, c3, c4, if_true, if_false, not_true_eq_false, not_false_eq_true, and_self, and_true, true_and, or_true, true_or, or_false, false_or, and_false, false_and, reduceCtorEq, Bool.false_eq_true, Bool.true_eq_false, ite_self, eq_self]; done))
      · replace c4 := i_r2 hI c4
        refine zR_s rfl ?_
        refine zR_s rfl ?_
        refine zR_call rfl rfl rfl rfl (zcallok_v (zm0 h75) rfl rfl) (m_standingAt h75 hM hm) ?_
        rw [i_T hI (show p' < 16 by omega)]
        refine zR_s rfl ?_
        refine zR_get rfl rfl (zm0 h75) rfl ?_
        refine zR_s rfl ?_
        first | refine zR_ildMF 0 rfl h75 (by decide) (hj2) ?_ | refine zR_ildMF 0 rfl h75 (by decide) ((show p' < 16 by omega)) ?_
        refine zR_icne rfl rfl (fun c5 => ?_) (fun c5 => ?_)
        · replace c5 := i_p2 hI (show p' < 16 by omega) c5
          refine zR_cst (v := 0) rfl rfl rfl ?_
          refine zR_putC rfl rfl h75 rfl ?_
          refine zR_s rfl ?_
          refine zR_get rfl rfl (zm0 h75) rfl ?_
          refine zR_ifle rfl rfl (fun _ => ?_) (fun c => absurd c (by decide))
          have hA5 := zroom1 hA.1 hA.2 c4
          refine zR_s rfl ?_
          refine zR_get rfl rfl (zm0 h75) rfl ?_
          refine zR_s rfl ?_
          refine zR_s rfl ?_
          refine zR_s rfl ?_
          refine zR_get rfl rfl (zm0 h75) rfl ?_
          refine zR_s rfl ?_
          first | refine zR_ildMG 0 rfl h75 (by decide) (hj2) ?_ | refine zR_ildMG 0 rfl h75 (by decide) ((show p' < 16 by omega)) ?_
          rw [e0]
          refine zR_call rfl rfl rfl rfl (zcallok_v (zm0 h75) rfl rfl) (m_misOver h75 (show a < 16 by omega)) ?_
          first | refine zR_df rfl rfl (fun c6 => ?_) (fun c6 => ?_) | refine zR_bf rfl rfl (fun c6 => ?_) (fun c6 => ?_) | refine zR_ifeq rfl rfl (fun c6 => ?_) (fun c6 => ?_)
          · refine zR_cst (v := 1) rfl rfl rfl ?_
            first | refine zR_istMG 5 rfl h75 (by decide) (hj2) ?_ | refine zR_istMG 5 rfl h75 (by decide) ((show p' < 16 by omega)) ?_
            refine zR_s rfl ?_
            refine zR_get rfl rfl (zm0 h75) rfl ?_
            refine zR_s rfl ?_
            refine zR_s rfl ?_
            first | refine zR_istMG 6 rfl h75 (by decide) (hj2) ?_ | refine zR_istMG 6 rfl h75 (by decide) ((show p' < 16 by omega)) ?_
            refine zR_s rfl ?_
            refine zR_s rfl ?_
            refine zR_cst (v := 10) rfl rfl rfl ?_
            refine zR_s rfl ?_
            refine zR_call rfl rfl rfl rfl (zcallok_v (zm0 h75) rfl rfl) (m_act h75 hA.1 hA5) ?_
            refine zR_rete rfl rfl ?_ ?_
            all_goals (first | contradiction | (simp only [zOm, zHm, q_found, kfA, ep, e2, c1, c2, c3, c4, c5, c6, if_true, if_false, not_true_eq_false, not_false_eq_true, and_self, and_true, true_and, or_true, true_or, or_false, false_or, and_false, false_and, reduceCtorEq, Bool.false_eq_true, Bool.true_eq_false, ite_self, eq_self]; done) | (simp only [zOm, zHm, q_found, kfA, c1, c2, c3, c4, c5, c6, if_true, if_false, not_true_eq_false, not_false_eq_true, and_self, and_true, true_and, or_true, true_or, or_false, false_or, and_false, false_and, reduceCtorEq, Bool.false_eq_true, Bool.true_eq_false, ite_self, eq_self]; done))
          · refine zR_cst (v := 3) rfl rfl rfl ?_
            refine zR_s rfl ?_
            first | refine zR_istMG 5 rfl h75 (by decide) (hj2) ?_ | refine zR_istMG 5 rfl h75 (by decide) ((show p' < 16 by omega)) ?_
            refine zR_s rfl ?_
            refine zR_get rfl rfl (zm0 h75) rfl ?_
            refine zR_s rfl ?_
            refine zR_s rfl ?_
            first | refine zR_istMG 6 rfl h75 (by decide) (hj2) ?_ | refine zR_istMG 6 rfl h75 (by decide) ((show p' < 16 by omega)) ?_
            refine zR_s rfl ?_
            refine zR_s rfl ?_
            refine zR_cst (v := 10) rfl rfl rfl ?_
            refine zR_s rfl ?_
            refine zR_call rfl rfl rfl rfl (zcallok_v (zm0 h75) rfl rfl) (m_act h75 hA.1 hA5) ?_
            refine zR_rete rfl rfl ?_ ?_
            all_goals (first | contradiction | (simp only [zOm, zHm, q_found, kfA, ep, e2, c1, c2, c3, c4, c5, c6, if_true, if_false, not_true_eq_false, not_false_eq_true, and_self, and_true, true_and, or_true, true_or, or_false, false_or, and_false, false_and, reduceCtorEq, Bool.false_eq_true, Bool.true_eq_false, ite_self, eq_self]; done) | (simp only [zOm, zHm, q_found, kfA, c1, c2, c3, c4, c5, c6, if_true, if_false, not_true_eq_false, not_false_eq_true, and_self, and_true, true_and, or_true, true_or, or_false, false_or, and_false, false_and, reduceCtorEq, Bool.false_eq_true, Bool.true_eq_false, ite_self, eq_self]; done))
        · first | replace c5 := i_r1 hI c5 | replace c5 := i_p1 hI (show p' < 16 by omega) c5
          refine zR_cst (v := 4) rfl rfl rfl ?_
          refine zR_s rfl ?_
          refine zR_putC rfl rfl h75 rfl ?_
          refine zR_s rfl ?_
          refine zR_get rfl rfl (zm0 h75) rfl ?_
          refine zR_ifle rfl rfl (fun c => absurd c (by decide)) (fun _ => ?_)
          refine zR_rete rfl rfl ?_ ?_
          all_goals (first | contradiction | (simp only [zOm, zHm, q_found, kfA, ep, e2, c1, c2, c3, c4, c5, if_true, if_false, not_true_eq_false, not_false_eq_true, and_self, and_true, true_and, or_true, true_or, or_false, false_or, and_false, false_and, reduceCtorEq, Bool.false_eq_true, Bool.true_eq_false, ite_self, eq_self]; done) | (simp only [zOm, zHm, q_found, kfA, c1, c2, c3, c4, c5, if_true, if_false, not_true_eq_false, not_false_eq_true, and_self, and_true, true_and, or_true, true_or, or_false, false_or, and_false, false_and, reduceCtorEq, Bool.false_eq_true, Bool.true_eq_false, ite_self, eq_self]; done))
    · refine zR_cst (v := 3) rfl rfl rfl ?_
      refine zR_s rfl ?_
      refine zR_putC rfl rfl h75 rfl ?_
      refine zR_s rfl ?_
      refine zR_get rfl rfl (zm0 h75) rfl ?_
      refine zR_ifle rfl rfl (fun c => absurd c (by decide)) (fun _ => ?_)
      refine zR_rete rfl rfl ?_ ?_
      all_goals (first | contradiction | (simp only [zOm, zHm, q_found, kfA, ep, e2, c1, c2, c3, if_true, if_false, not_true_eq_false, not_false_eq_true, and_self, and_true, true_and, or_true, true_or, or_false, false_or, and_false, false_and, reduceCtorEq, Bool.false_eq_true, Bool.true_eq_false, ite_self, eq_self]; done) | (simp only [zOm, zHm, q_found, kfA, c1, c2, c3, if_true, if_false, not_true_eq_false, not_false_eq_true, and_self, and_true, true_and, or_true, true_or, or_false, false_or, and_false, false_and, reduceCtorEq, Bool.false_eq_true, Bool.true_eq_false, ite_self, eq_self]; done))
  · refine zR_cst (v := 2) rfl rfl rfl ?_
    refine zR_s rfl ?_
    refine zR_putC rfl rfl h75 rfl ?_
    refine zR_s rfl ?_
    refine zR_get rfl rfl (zm0 h75) rfl ?_
    refine zR_ifne rfl rfl (fun _ => ?_) (fun c => absurd c (by decide))
    refine zR_s rfl ?_
    refine zR_get rfl rfl (zm0 h75) rfl ?_
    refine zR_ifle rfl rfl (fun c => absurd c (by decide)) (fun _ => ?_)
    refine zR_rete rfl rfl ?_ ?_
    all_goals (first | contradiction | (simp only [zOm, zHm, q_found, kfA, ep, e2, c1, c2, if_true, if_false, not_true_eq_false, not_false_eq_true, and_self, and_true, true_and, or_true, true_or, or_false, false_or, and_false, false_and, reduceCtorEq, Bool.false_eq_true, Bool.true_eq_false, ite_self, eq_self]; done) | (simp only [zOm, zHm, q_found, kfA, c1, c2, if_true, if_false, not_true_eq_false, not_false_eq_true, and_self, and_true, true_and, or_true, true_or, or_false, false_or, and_false, false_and, reduceCtorEq, Bool.false_eq_true, Bool.true_eq_false, ite_self, eq_self]; done))
theorem d_weigh {j : Nat} {r : Int32} (h75 : hc.length = 75) (hI : zInv N F G K Z M A l R) (hH : zHK M K H) (hj : j < M) : zMe sL sx 11 92 [.ref 75, .int (nI j), .int r] (hc ++ (zMd N F G H Z c B ++ t)) (zOm (some (.int 0)) (q_weigh N F G K Z A j r)) (zHm kfA hc t N F G H Z B H B (q_weigh N F G K Z A j r)) := by
  have hA := hI.2.2.1
  have hM := i_m1 hI
  have hm := i_m hI
  have hj2 : j < 64 := by omega
  obtain ⟨a, ha, e0, e1, e2⟩ := (i_un hI hj).1
  have hl := hI.1.2
  obtain ⟨g, hg, eg⟩ := hI.2.2.2.2.2.2.2 a ha
  have eg2 : (G j 1).toNatClampNeg = g := by rw [e1, eg]; exact nI_clamp (by omega)
  show zR sL sx _ 92 0 [.ref 75, .int (nI j), .int r] [] _ _ _
  refine zR_s rfl ?_
  refine zR_s rfl ?_
  refine zR_s rfl ?_
  refine zR_call rfl rfl rfl rfl (zcallok_v (zm0 h75) rfl rfl) (m_isUnit h75) ?_
  first | refine zR_dt rfl rfl (fun c1 => ?_) (fun c1 => absurd (i_v hI hj) c1) | refine zR_bt rfl rfl (fun c1 => ?_) (fun c1 => absurd (i_v hI hj) c1) | refine zR_ifne rfl rfl (fun c1 => ?_) (fun c1 => absurd (i_v hI hj) c1)
  refine zR_s rfl ?_
  refine zR_s rfl ?_
  refine zR_lc (v := 1) rfl rfl ?_
  refine zR_ldc2 (v := 100000000) rfl rfl ?_
  refine zR_call rfl rfl rfl rfl (zcallok_s rfl) (m_in (b := 1) (c := 100000000)) ?_
  first | refine zR_dt rfl rfl (fun c2 => ?_) (fun c2 => ?_) | refine zR_bt rfl rfl (fun c2 => ?_) (fun c2 => ?_) | refine zR_ifne rfl rfl (fun c2 => ?_) (fun c2 => ?_)
  · refine zR_cst (v := 0) rfl rfl rfl ?_
    refine zR_putC rfl rfl h75 rfl ?_
    refine zR_s rfl ?_
    refine zR_get rfl rfl (zm0 h75) rfl ?_
    refine zR_ifne rfl rfl (fun c => absurd c (by decide)) (fun _ => ?_)
    refine zR_s rfl ?_
    refine zR_s rfl ?_
    refine zR_s rfl ?_
    refine zR_call rfl rfl rfl rfl (zcallok_v (zm0 h75) rfl rfl) (m_mstands h75 hj2) ?_
    refine zR_bt rfl rfl (fun c3 => ?_) (fun c3 => ?_)
    · refine zR_s rfl ?_
      refine zR_get rfl rfl (zm0 h75) rfl ?_
      refine zR_cst (v := 400) rfl rfl rfl ?_
      refine zR_icne rfl rfl (fun c4 => ?_) (fun c4 => ?_)
      · replace c4 := i_r2 hI c4
        refine zR_cst (v := 0) rfl rfl rfl ?_
        refine zR_putC rfl rfl h75 rfl ?_
        refine zR_s rfl ?_
        refine zR_get rfl rfl (zm0 h75) rfl ?_
        refine zR_ifle rfl rfl (fun _ => ?_) (fun c => absurd c (by decide))
        have hA5 := zroom1 hA.1 hA.2 c4
        refine zR_s rfl ?_
        refine zR_s rfl ?_
        refine zR_cst (v := 11) rfl rfl rfl ?_
        refine zR_s rfl ?_
        refine zR_call rfl rfl rfl rfl (zcallok_v (zm0 h75) rfl rfl) (m_act h75 hA.1 hA5) ?_
        refine zR_s rfl ?_
        refine zR_s rfl ?_
        refine zR_get rfl rfl (zm0 h75) rfl ?_
        refine zR_s rfl ?_
        first | refine zR_ildMG 4 rfl h75 (by decide) (hj2) ?_ | refine zR_ildMG 4 rfl h75 (by decide) ((show a < 16 by omega)) ?_ | refine zR_ildMG 4 rfl h75 (by decide) (hg) ?_
        refine zR_s rfl ?_
        refine zR_get rfl rfl (zm0 h75) rfl ?_
        refine zR_s rfl ?_
        refine zR_get rfl rfl (zm0 h75) rfl ?_
        refine zR_s rfl ?_
        refine zR_get rfl rfl (zm0 h75) rfl ?_
        refine zR_s rfl ?_
        first | refine zR_ildMG 0 rfl h75 (by decide) (hj2) ?_ | refine zR_ildMG 0 rfl h75 (by decide) ((show a < 16 by omega)) ?_ | refine zR_ildMG 0 rfl h75 (by decide) (hg) ?_
        rw [e0]
        first | refine zR_ildMF 2 rfl h75 (by decide) (hj2) ?_ | refine zR_ildMF 2 rfl h75 (by decide) ((show a < 16 by omega)) ?_ | refine zR_ildMF 2 rfl h75 (by decide) (hg) ?_
        rw [show zadd F A (nI j) 11 (N 3) r 2 a = nI g from eg]
        first | refine zR_ildMF 1 rfl h75 (by decide) (hj2) ?_ | refine zR_ildMF 1 rfl h75 (by decide) ((show a < 16 by omega)) ?_ | refine zR_ildMF 1 rfl h75 (by decide) (hg) ?_
        refine zR_imul rfl ?_
        refine zR_isub rfl ?_
        first | refine zR_rete rfl rfl ?_ ?_ | refine zR_retb rfl rfl ?_ ?_
        all_goals (first | contradiction | (simp only [zOm, zHm, q_weigh, kfA, eg2, c1, c2, c3, c4, if_true, if_false, not_true_eq_false, not_false_eq_true, and_self, and_true, true_and, or_true, true_or, or_false, false_or, and_false, false_and, reduceCtorEq, Bool.false_eq_true, Bool.true_eq_false, ite_self, eq_self]; done) | (simp only [zOm, zHm, q_weigh, kfA, c1, c2, c3, c4, if_true, if_false, not_true_eq_false, not_false_eq_true, and_self, and_true, true_and, or_true, true_or, or_false, false_or, and_false, false_and, reduceCtorEq, Bool.false_eq_true, Bool.true_eq_false, ite_self, eq_self]; done) | (simp only [zOm, zHm, q_weigh, eg2, c1, c2, c3, c4, if_true, and_self]; rfl))
      · replace c4 := i_r1 hI c4
        refine zR_cst (v := 4) rfl rfl rfl ?_
        refine zR_s rfl ?_
        refine zR_putC rfl rfl h75 rfl ?_
        refine zR_s rfl ?_
        refine zR_get rfl rfl (zm0 h75) rfl ?_
        refine zR_ifle rfl rfl (fun c => absurd c (by decide)) (fun _ => ?_)
        refine zR_cst (v := 0) rfl rfl rfl ?_
        first | refine zR_rete rfl rfl ?_ ?_ | refine zR_retb rfl rfl ?_ ?_
        all_goals (first | contradiction | (simp only [zOm, zHm, q_weigh, kfA, eg2, c1, c2, c3, c4, if_true, if_false, not_true_eq_false, not_false_eq_true, and_self, and_true, true_and, or_true, true_or, or_false, false_or, and_false, false_and, reduceCtorEq, Bool.false_eq_true, Bool.true_eq_false, ite_self, eq_self]; done) | (simp only [zOm, zHm, q_weigh, kfA, c1, c2, c3, c4, if_true, if_false, not_true_eq_false, not_false_eq_true, and_self, and_true, true_and, or_true, true_or, or_false, false_or, and_false, false_and, reduceCtorEq, Bool.false_eq_true, Bool.true_eq_false, ite_self, eq_self]; done) | (simp only [zOm, zHm, q_weigh, eg2, c1, c2, c3, c4, if_true, and_self]; rfl))
    · refine zR_cst (v := 3) rfl rfl rfl ?_
      refine zR_s rfl ?_
      refine zR_putC rfl rfl h75 rfl ?_
      refine zR_s rfl ?_
      refine zR_get rfl rfl (zm0 h75) rfl ?_
      refine zR_ifle rfl rfl (fun c => absurd c (by decide)) (fun _ => ?_)
      refine zR_cst (v := 0) rfl rfl rfl ?_
      first | refine zR_rete rfl rfl ?_ ?_ | refine zR_retb rfl rfl ?_ ?_
      all_goals (first | contradiction | (simp only [zOm, zHm, q_weigh, kfA, eg2, c1, c2, c3, if_true, if_false, not_true_eq_false, not_false_eq_true, and_self, and_true, true_and, or_true, true_or, or_false, false_or, and_false, false_and, reduceCtorEq, Bool.false_eq_true, Bool.true_eq_false, ite_self, eq_self]; done) | (simp only [zOm, zHm, q_weigh, kfA, c1, c2, c3, if_true, if_false, not_true_eq_false, not_false_eq_true, and_self, and_true, true_and, or_true, true_or, or_false, false_or, and_false, false_and, reduceCtorEq, Bool.false_eq_true, Bool.true_eq_false, ite_self, eq_self]; done) | (simp only [zOm, zHm, q_weigh, eg2, c1, c2, c3, if_true, and_self]; rfl))
  · refine zR_cst (v := 2) rfl rfl rfl ?_
    refine zR_s rfl ?_
    refine zR_putC rfl rfl h75 rfl ?_
    refine zR_s rfl ?_
    refine zR_get rfl rfl (zm0 h75) rfl ?_
    refine zR_ifne rfl rfl (fun _ => ?_) (fun c => absurd c (by decide))
    refine zR_s rfl ?_
    refine zR_get rfl rfl (zm0 h75) rfl ?_
    refine zR_ifle rfl rfl (fun c => absurd c (by decide)) (fun _ => ?_)
    refine zR_cst (v := 0) rfl rfl rfl ?_
    first | refine zR_rete rfl rfl ?_ ?_ | refine zR_retb rfl rfl ?_ ?_
    all_goals (first | contradiction | (simp only [zOm, zHm, q_weigh, kfA, eg2, c1, c2, if_true, if_false, not_true_eq_false, not_false_eq_true, and_self, and_true, true_and, or_true, true_or, or_false, false_or, and_false, false_and, reduceCtorEq, Bool.false_eq_true, Bool.true_eq_false, ite_self, eq_self]; done) | (simp only [zOm, zHm, q_weigh, kfA, c1, c2, if_true, if_false, not_true_eq_false, not_false_eq_true, and_self, and_true, true_and, or_true, true_or, or_false, false_or, and_false, false_and, reduceCtorEq, Bool.false_eq_true, Bool.true_eq_false, ite_self, eq_self]; done) | (simp only [zOm, zHm, q_weigh, eg2, c1, c2, if_true, and_self]; rfl))
theorem d_split {j : Nat} {n : Int32} (h75 : hc.length = 75) (hI : zInv N F G K Z M A l R) (hH : zHK M K H) (hj : j < M) : zMe sL sx 11 83 [.ref 75, .int (nI j), .int n] (hc ++ (zMd N F G H Z c B ++ t)) (zOm (some (.int 0)) (q_split N F G K Z M A j n)) (zHm kfA hc t N F G H Z B (upd H M (H j)) B (q_split N F G K Z M A j n)) := by
  have hA := hI.2.2.1
  have hM := i_m1 hI
  have hm := i_m hI
  have hj2 : j < 64 := by omega
  have hjM : j ≠ M := by omega
  obtain ⟨k, hk1, hk2, ek⟩ := (i_un hI hj).2.2.1
  have hz0 := (i_un hI hj).2.2.2.2.2.2.1
  have hp5 := (i_un hI hj).2.2.2.2.1
  have ek1 : G j 4 - 1 = nI (k - 1) := by
    rw [ek]
    obtain ⟨k', rfl⟩ : ∃ k', k = k' + 1 := ⟨k - 1, by omega⟩
    rw [nI_pred]
    rfl
  have p1 : ¬ G j 4 ≤ n → n ≤ G j 4 - 1 := by
    intro q
    rw [ek1]
    rw [ek] at q
    rw [Int32.le_iff_toInt_le, nI_toInt (by omega)] at q ⊢
    omega
  have p2 : G j 4 ≤ n → ¬ n ≤ G j 4 - 1 := by
    intro q q2
    rw [ek1] at q2
    rw [ek] at q
    rw [Int32.le_iff_toInt_le, nI_toInt (by omega)] at q
    rw [Int32.le_iff_toInt_le, nI_toInt (by omega)] at q2
    omega
  have cn : zcnt (zqW K j) M ≤ 64 := Nat.le_trans (zcnt_le _ _) hm
  show zR sL sx _ 83 0 [.ref 75, .int (nI j), .int n] [] _ _ _
  refine zR_s rfl ?_
  refine zR_s rfl ?_
  refine zR_s rfl ?_
  refine zR_call rfl rfl rfl rfl (zcallok_v (zm0 h75) rfl rfl) (m_isUnit h75) ?_
  first | refine zR_dt rfl rfl (fun c1 => ?_) (fun c1 => absurd (i_v hI hj) c1) | refine zR_bt rfl rfl (fun c1 => ?_) (fun c1 => absurd (i_v hI hj) c1) | refine zR_ifne rfl rfl (fun c1 => ?_) (fun c1 => absurd (i_v hI hj) c1)
  refine zR_cst (v := 0) rfl rfl rfl ?_
  refine zR_putC rfl rfl h75 rfl ?_
  refine zR_s rfl ?_
  refine zR_get rfl rfl (zm0 h75) rfl ?_
  refine zR_ifne rfl rfl (fun c => absurd c (by decide)) (fun _ => ?_)
  refine zR_s rfl ?_
  refine zR_s rfl ?_
  refine zR_cst (v := 1) rfl rfl rfl ?_
  refine zR_mlt rfl rfl (fun c2 => ?_) (fun c2 => ?_)
  · try replace c2 := p2 c2
    refine zR_cst (v := 2) rfl rfl rfl ?_
    refine zR_s rfl ?_
    refine zR_putC rfl rfl h75 rfl ?_
    refine zR_s rfl ?_
    refine zR_get rfl rfl (zm0 h75) rfl ?_
    refine zR_ifne rfl rfl (fun _ => ?_) (fun c => absurd c (by decide))
    refine zR_s rfl ?_
    refine zR_get rfl rfl (zm0 h75) rfl ?_
    refine zR_ifne rfl rfl (fun _ => ?_) (fun c => absurd c (by decide))
    try (replace c2 := i_p2 hI hp c2; rw [← ep1] at c2)
    refine zR_s rfl ?_
    refine zR_get rfl rfl (zm0 h75) rfl ?_
    refine zR_ifle rfl rfl (fun c => absurd c (by decide)) (fun _ => ?_)
    refine zR_cst (v := 0) rfl rfl rfl ?_
    first | refine zR_rete rfl rfl ?_ ?_ | refine zR_retb rfl rfl ?_ ?_
    all_goals (first | contradiction | (simp only [zOm, zHm, q_split, kfA, ep, c1, c2, if_true, if_false, not_true_eq_false, not_false_eq_true, and_self, and_true, true_and, or_true, true_or, or_false, false_or, and_false, false_and, reduceCtorEq, Bool.false_eq_true, Bool.true_eq_false, ite_self, eq_self]; done) | (simp only [zOm, zHm, q_split, kfA, c1, c2, if_true, if_false, not_true_eq_false, not_false_eq_true, and_self, and_true, true_and, or_true, true_or, or_false, false_or, and_false, false_and, reduceCtorEq, Bool.false_eq_true, Bool.true_eq_false, ite_self, eq_self]; done) | (simp only [zOm, zHm, q_split, kfA, ep, c1, c2, if_true, if_false, not_true_eq_false, not_false_eq_true, and_self, and_true, true_and, or_true, true_or, or_false, false_or, and_false, false_and, reduceCtorEq, Bool.false_eq_true, Bool.true_eq_false, ite_self, eq_self]; exact zMd_app2 (by rw [updN_2, updN_c (N := N) (a := 4) (b := 1) (by decide), updN_2]) (by simp [updG, upd, hjM, Ne.symm hjM]) (by intro i k hk; have hj3 : M ≠ j := Ne.symm hjM; by_cases e : i = M; { rw [e]; rcases zcolc hk with rfl | rfl | rfl | rfl | rfl <;> simp [updG, upd, hjM, hj3] }; { by_cases e3 : i = j; { rw [e3]; rcases zcolc hk with rfl | rfl | rfl | rfl | rfl <;> simp [updG, upd, hjM] }; { simp [updG, e, e3] } })))
  · refine zR_s rfl ?_
    refine zR_s rfl ?_
    refine zR_get rfl rfl (zm0 h75) rfl ?_
    refine zR_s rfl ?_
    first | refine zR_ildMG 4 rfl h75 (by decide) (hj2) ?_ | refine zR_ildMG 4 rfl h75 (by decide) (hp) ?_
    refine zR_mlt rfl rfl (fun c3 => ?_) (fun c3 => ?_)
    · replace c3 := p1 c3
      refine zR_cst (v := 0) rfl rfl rfl ?_
      refine zR_putC rfl rfl h75 rfl ?_
      refine zR_s rfl ?_
      refine zR_get rfl rfl (zm0 h75) rfl ?_
      refine zR_ifne rfl rfl (fun c => absurd c (by decide)) (fun _ => ?_)
      refine zR_s rfl ?_
      refine zR_s rfl ?_
      refine zR_s rfl ?_
      refine zR_call rfl rfl rfl rfl (zcallok_v (zm0 h75) rfl rfl) (m_mstands h75 hj2) ?_
      refine zR_bf rfl rfl (fun c4 => ?_) (fun c4 => ?_)
      · first | replace c4 := i_n1 cn c4 | replace c4 := i_z2 c4 | skip
        refine zR_cst (v := 3) rfl rfl rfl ?_
        refine zR_s rfl ?_
        refine zR_putC rfl rfl h75 rfl ?_
        refine zR_s rfl ?_
        refine zR_get rfl rfl (zm0 h75) rfl ?_
        refine zR_ifne rfl rfl (fun _ => ?_) (fun c => absurd c (by decide))
        try (replace c4 := i_p2 hI hp c4; rw [← ep1] at c4)
        refine zR_s rfl ?_
        refine zR_get rfl rfl (zm0 h75) rfl ?_
        refine zR_ifle rfl rfl (fun c => absurd c (by decide)) (fun _ => ?_)
        refine zR_cst (v := 0) rfl rfl rfl ?_
        first | refine zR_rete rfl rfl ?_ ?_ | refine zR_retb rfl rfl ?_ ?_
        all_goals (first | contradiction | (simp only [zOm, zHm, q_split, kfA, ep, c1, c2, c3, c4, if_true, if_false, not_true_eq_false, not_false_eq_true, and_self, and_true, true_and, or_true, true_or, or_false, false_or, and_false, false_and, reduceCtorEq, Bool.false_eq_true, Bool.true_eq_false, ite_self, eq_self]; done) | (simp only [zOm, zHm, q_split, kfA, c1, c2, c3, c4, if_true, if_false, not_true_eq_false, not_false_eq_true, and_self, and_true, true_and, or_true, true_or, or_false, false_or, and_false, false_and, reduceCtorEq, Bool.false_eq_true, Bool.true_eq_false, ite_self, eq_self]; done) | (simp only [zOm, zHm, q_split, kfA, ep, c1, c2, c3, c4, if_true, if_false, not_true_eq_false, not_false_eq_true, and_self, and_true, true_and, or_true, true_or, or_false, false_or, and_false, false_and, reduceCtorEq, Bool.false_eq_true, Bool.true_eq_false, ite_self, eq_self]; exact zMd_app2 (by rw [updN_2, updN_c (N := N) (a := 4) (b := 1) (by decide), updN_2]) (by simp [updG, upd, hjM, Ne.symm hjM]) (by intro i k hk; have hj3 : M ≠ j := Ne.symm hjM; by_cases e : i = M; { rw [e]; rcases zcolc hk with rfl | rfl | rfl | rfl | rfl <;> simp [updG, upd, hjM, hj3] }; { by_cases e3 : i = j; { rw [e3]; rcases zcolc hk with rfl | rfl | rfl | rfl | rfl <;> simp [updG, upd, hjM] }; { simp [updG, e, e3] } })))
      · obtain ⟨p', hp, ep1⟩ := hp5 c4; have ep : (G j 6).toNatClampNeg = p' := (by rw [ep1]; exact nI_clamp (by omega))
        refine zR_s rfl ?_
        refine zR_s rfl ?_
        refine zR_call rfl rfl rfl rfl (zcallok_v (zm0 h75) rfl rfl) (m_load h75 hM hm hH (i_ch hI) hj) ?_
        refine zR_ngt rfl rfl (fun c5 => ?_) (fun c5 => ?_)
        · first | replace c5 := i_n1 cn c5 | replace c5 := i_z2 c5 | skip
          refine zR_cst (v := 3) rfl rfl rfl ?_
          refine zR_s rfl ?_
          refine zR_putC rfl rfl h75 rfl ?_
          refine zR_s rfl ?_
          refine zR_get rfl rfl (zm0 h75) rfl ?_
          refine zR_ifne rfl rfl (fun _ => ?_) (fun c => absurd c (by decide))
          try (replace c5 := i_p2 hI hp c5; rw [← ep1] at c5)
          refine zR_s rfl ?_
          refine zR_get rfl rfl (zm0 h75) rfl ?_
          refine zR_ifle rfl rfl (fun c => absurd c (by decide)) (fun _ => ?_)
          refine zR_cst (v := 0) rfl rfl rfl ?_
          first | refine zR_rete rfl rfl ?_ ?_ | refine zR_retb rfl rfl ?_ ?_
          all_goals (first | contradiction | (simp only [zOm, zHm, q_split, kfA, ep, c1, c2, c3, c4, c5, if_true, if_false, not_true_eq_false, not_false_eq_true, and_self, and_true, true_and, or_true, true_or, or_false, false_or, and_false, false_and, reduceCtorEq, Bool.false_eq_true, Bool.true_eq_false, ite_self, eq_self]; done) | (simp only [zOm, zHm, q_split, kfA, c1, c2, c3, c4, c5, if_true, if_false, not_true_eq_false, not_false_eq_true, and_self, and_true, true_and, or_true, true_or, or_false, false_or, and_false, false_and, reduceCtorEq, Bool.false_eq_true, Bool.true_eq_false, ite_self, eq_self]; done) | (simp only [zOm, zHm, q_split, kfA, ep, c1, c2, c3, c4, c5, if_true, if_false, not_true_eq_false, not_false_eq_true, and_self, and_true, true_and, or_true, true_or, or_false, false_or, and_false, false_and, reduceCtorEq, Bool.false_eq_true, Bool.true_eq_false, ite_self, eq_self]; exact zMd_app2 (by rw [updN_2, updN_c (N := N) (a := 4) (b := 1) (by decide), updN_2]) (by simp [updG, upd, hjM, Ne.symm hjM]) (by intro i k hk; have hj3 : M ≠ j := Ne.symm hjM; by_cases e : i = M; { rw [e]; rcases zcolc hk with rfl | rfl | rfl | rfl | rfl <;> simp [updG, upd, hjM, hj3] }; { by_cases e3 : i = j; { rw [e3]; rcases zcolc hk with rfl | rfl | rfl | rfl | rfl <;> simp [updG, upd, hjM] }; { simp [updG, e, e3] } })))
        · replace c5 := i_n2 cn c5
          refine zR_s rfl ?_
          refine zR_get rfl rfl (zm0 h75) rfl ?_
          refine zR_s rfl ?_
          first | refine zR_lldMZ rfl h75 (hj2) ?_ | refine zR_lldMZ rfl h75 (hp) ?_
          refine zR_lc (v := 0) rfl rfl ?_
          refine zR_s rfl ?_
          refine zR_lle rfl rfl (fun c6 => ?_) (fun c6 => ?_)
          · replace c6 := i_z1 hz0 c6
            refine zR_cst (v := 0) rfl rfl rfl ?_
            refine zR_putC rfl rfl h75 rfl ?_
            refine zR_s rfl ?_
            refine zR_get rfl rfl (zm0 h75) rfl ?_
            refine zR_ifne rfl rfl (fun c => absurd c (by decide)) (fun _ => ?_)
            refine zR_s rfl ?_
            refine zR_get rfl rfl (zm0 h75) rfl ?_
            refine zR_s rfl ?_
            refine zR_get rfl rfl (zm0 h75) rfl ?_
            refine zR_iceq rfl rfl (fun c7 => ?_) (fun c7 => ?_)
            · first | replace c7 := i_u1 hI c7 | replace c7 := i_s1 hI c7 | (replace c7 := i_p1 hI hp c7; rw [← ep1] at c7)
              refine zR_s rfl ?_
              refine zR_cst (v := 4) rfl rfl rfl ?_
              refine zR_putC rfl rfl h75 rfl ?_
              try (replace c7 := i_p2 hI hp c7; rw [← ep1] at c7)
              refine zR_s rfl ?_
              refine zR_get rfl rfl (zm0 h75) rfl ?_
              refine zR_ifle rfl rfl (fun c => absurd c (by decide)) (fun _ => ?_)
              refine zR_cst (v := 0) rfl rfl rfl ?_
              first | refine zR_rete rfl rfl ?_ ?_ | refine zR_retb rfl rfl ?_ ?_
              all_goals (first | contradiction | (simp only [zOm, zHm, q_split, kfA, ep, c1, c2, c3, c4, c5, c6, c7, if_true, if_false, not_true_eq_false, not_false_eq_true, and_self, and_true, true_and, or_true, true_or, or_false, false_or, and_false, false_and, reduceCtorEq, Bool.false_eq_true, Bool.true_eq_false, ite_self, eq_self]; done) | (simp only [zOm, zHm, q_split, kfA, c1, c2, c3, c4, c5, c6, c7, if_true, if_false, not_true_eq_false, not_false_eq_true, and_self, and_true, true_and, or_true, true_or, or_false, false_or, and_false, false_and, reduceCtorEq, Bool.false_eq_true, Bool.true_eq_false, ite_self, eq_self]; done) | (simp only [zOm, zHm, q_split, kfA, ep, c1, c2, c3, c4, c5, c6, c7, if_true, if_false, not_true_eq_false, not_false_eq_true, and_self, and_true, true_and, or_true, true_or, or_false, false_or, and_false, false_and, reduceCtorEq, Bool.false_eq_true, Bool.true_eq_false, ite_self, eq_self]; exact zMd_app2 (by rw [updN_2, updN_c (N := N) (a := 4) (b := 1) (by decide), updN_2]) (by simp [updG, upd, hjM, Ne.symm hjM]) (by intro i k hk; have hj3 : M ≠ j := Ne.symm hjM; by_cases e : i = M; { rw [e]; rcases zcolc hk with rfl | rfl | rfl | rfl | rfl <;> simp [updG, upd, hjM, hj3] }; { by_cases e3 : i = j; { rw [e3]; rcases zcolc hk with rfl | rfl | rfl | rfl | rfl <;> simp [updG, upd, hjM] }; { simp [updG, e, e3] } })))
            · replace c7 := i_u2 hI c7
              refine zR_s rfl ?_
              refine zR_get rfl rfl (zm0 h75) rfl ?_
              refine zR_cst (v := 398) rfl rfl rfl ?_
              refine zR_mgt rfl rfl (fun c8 => ?_) (fun c8 => ?_)
              · first | replace c8 := i_u1 hI c8 | replace c8 := i_s1 hI c8 | (replace c8 := i_p1 hI hp c8; rw [← ep1] at c8)
                refine zR_s rfl ?_
                refine zR_cst (v := 4) rfl rfl rfl ?_
                refine zR_putC rfl rfl h75 rfl ?_
                try (replace c8 := i_p2 hI hp c8; rw [← ep1] at c8)
                refine zR_s rfl ?_
                refine zR_get rfl rfl (zm0 h75) rfl ?_
                refine zR_ifle rfl rfl (fun c => absurd c (by decide)) (fun _ => ?_)
                refine zR_cst (v := 0) rfl rfl rfl ?_
                first | refine zR_rete rfl rfl ?_ ?_ | refine zR_retb rfl rfl ?_ ?_
                all_goals (first | contradiction | (simp only [zOm, zHm, q_split, kfA, ep, c1, c2, c3, c4, c5, c6, c7, c8, if_true, if_false, not_true_eq_false, not_false_eq_true, and_self, and_true, true_and, or_true, true_or, or_false, false_or, and_false, false_and, reduceCtorEq, Bool.false_eq_true, Bool.true_eq_false, ite_self, eq_self]; done) | (simp only [zOm, zHm, q_split, kfA, c1, c2, c3, c4, c5, c6, c7, c8, if_true, if_false, not_true_eq_false, not_false_eq_true, and_self, and_true, true_and, or_true, true_or, or_false, false_or, and_false, false_and, reduceCtorEq, Bool.false_eq_true, Bool.true_eq_false, ite_self, eq_self]; done) | (simp only [zOm, zHm, q_split, kfA, ep, c1, c2, c3, c4, c5, c6, c7, c8, if_true, if_false, not_true_eq_false, not_false_eq_true, and_self, and_true, true_and, or_true, true_or, or_false, false_or, and_false, false_and, reduceCtorEq, Bool.false_eq_true, Bool.true_eq_false, ite_self, eq_self]; exact zMd_app2 (by rw [updN_2, updN_c (N := N) (a := 4) (b := 1) (by decide), updN_2]) (by simp [updG, upd, hjM, Ne.symm hjM]) (by intro i k hk; have hj3 : M ≠ j := Ne.symm hjM; by_cases e : i = M; { rw [e]; rcases zcolc hk with rfl | rfl | rfl | rfl | rfl <;> simp [updG, upd, hjM, hj3] }; { by_cases e3 : i = j; { rw [e3]; rcases zcolc hk with rfl | rfl | rfl | rfl | rfl <;> simp [updG, upd, hjM] }; { simp [updG, e, e3] } })))
              · replace c8 := i_s2 hI c8
                refine zR_s rfl ?_
                refine zR_s rfl ?_
                refine zR_get rfl rfl (zm0 h75) rfl ?_
                refine zR_s rfl ?_
                first | refine zR_ildMG 6 rfl h75 (by decide) (hj2) ?_ | refine zR_ildMG 6 rfl h75 (by decide) (hp) ?_
                rw [ep1]
                refine zR_call rfl rfl rfl rfl (zcallok_v (zm0 h75) rfl rfl) (m_standingAt h75 hM hm) ?_
                rw [i_T hI hp]
                refine zR_s rfl ?_
                refine zR_get rfl rfl (zm0 h75) rfl ?_
                refine zR_s rfl ?_
                refine zR_get rfl rfl (zm0 h75) rfl ?_
                refine zR_s rfl ?_
                first | refine zR_ildMG 6 rfl h75 (by decide) (hj2) ?_ | refine zR_ildMG 6 rfl h75 (by decide) (hp) ?_
                rw [ep1]
                first | refine zR_ildMF 0 rfl h75 (by decide) (hj2) ?_ | refine zR_ildMF 0 rfl h75 (by decide) (hp) ?_
                refine zR_icne rfl rfl (fun c9 => ?_) (fun c9 => ?_)
                · try (replace c9 := i_p2 hI hp c9; rw [← ep1] at c9)
                  refine zR_s rfl ?_
                  refine zR_get rfl rfl (zm0 h75) rfl ?_
                  refine zR_ifle rfl rfl (fun _ => ?_) (fun c => absurd c (by decide))
                  have hA5 := zroom2 hA.1 hA.2 c8
                  refine zR_s rfl ?_
                  refine zR_s rfl ?_
                  refine zR_cst (v := 5) rfl rfl rfl ?_
                  refine zR_s rfl ?_
                  refine zR_get rfl rfl (zm0 h75) rfl ?_
                  rw [hM]
                  refine zR_call rfl rfl rfl rfl (zcallok_v (zm0 h75) rfl rfl) (m_act h75 hA.1 (show A < 400 by omega)) ?_
                  refine zR_s rfl ?_
                  refine zR_get rfl rfl (zm0 h75) rfl ?_
                  refine zR_s rfl ?_
                  refine zR_s rfl ?_
                  first | refine zR_ildMG 4 rfl h75 (by decide) (hj2) ?_ | refine zR_ildMG 4 rfl h75 (by decide) (hp) ?_
                  refine zR_s rfl ?_
                  refine zR_isub rfl ?_
                  first | refine zR_istMG 4 rfl h75 (by decide) (hj2) ?_ | refine zR_istMG 4 rfl h75 (by decide) (hp) ?_
                  refine zR_s rfl ?_
                  refine zR_s rfl ?_
                  refine zR_get rfl rfl (zm0 h75) rfl ?_
                  refine zR_s rfl ?_
                  first | refine zR_ildMG 0 rfl h75 (by decide) (hj2) ?_ | refine zR_ildMG 0 rfl h75 (by decide) (hp) ?_
                  refine zR_s rfl ?_
                  refine zR_get rfl rfl (zm0 h75) rfl ?_
                  refine zR_s rfl ?_
                  first | refine zR_ildMG 6 rfl h75 (by decide) (hj2) ?_ | refine zR_ildMG 6 rfl h75 (by decide) (hp) ?_
                  refine zR_s rfl ?_
                  refine zR_get rfl rfl (zm0 h75) rfl ?_
                  refine zR_s rfl ?_
                  first | refine zR_ildMG 3 rfl h75 (by decide) (hj2) ?_ | refine zR_ildMG 3 rfl h75 (by decide) (hp) ?_
                  refine zR_s rfl ?_
                  refine zR_s rfl ?_
                  refine zR_get rfl rfl (zm0 h75) rfl ?_
                  refine zR_s rfl ?_
                  first | refine zR_ildMG 5 rfl h75 (by decide) (hj2) ?_ | refine zR_ildMG 5 rfl h75 (by decide) (hp) ?_
                  refine zR_s rfl ?_
                  refine zR_get rfl rfl (zm0 h75) rfl ?_
                  refine zR_s rfl ?_
                  first | refine zR_ildMH rfl h75 (hj2) ?_ | refine zR_ildMH rfl h75 (hp) ?_
                  refine zR_call rfl rfl rfl rfl (zcallok_v (zm0 h75) rfl rfl) (m_make h75 (show upd N 4 _ 1 = nI M from hM) c7.2 (show _ = nI (A + 1) from rfl) hA5) ?_
                  first | refine zR_rete rfl rfl ?_ ?_ | refine zR_retb rfl rfl ?_ ?_
                  all_goals (first | contradiction | (simp only [zOm, zHm, q_split, kfA, ep, c1, c2, c3, c4, c5, c6, c7, c8, c9, if_true, if_false, not_true_eq_false, not_false_eq_true, and_self, and_true, true_and, or_true, true_or, or_false, false_or, and_false, false_and, reduceCtorEq, Bool.false_eq_true, Bool.true_eq_false, ite_self, eq_self]; done) | (simp only [zOm, zHm, q_split, kfA, c1, c2, c3, c4, c5, c6, c7, c8, c9, if_true, if_false, not_true_eq_false, not_false_eq_true, and_self, and_true, true_and, or_true, true_or, or_false, false_or, and_false, false_and, reduceCtorEq, Bool.false_eq_true, Bool.true_eq_false, ite_self, eq_self]; done) | (simp only [zOm, zHm, q_split, kfA, ep, c1, c2, c3, c4, c5, c6, c7, c8, c9, if_true, if_false, not_true_eq_false, not_false_eq_true, and_self, and_true, true_and, or_true, true_or, or_false, false_or, and_false, false_and, reduceCtorEq, Bool.false_eq_true, Bool.true_eq_false, ite_self, eq_self]; exact zMd_app2 (by rw [updN_2, updN_c (N := N) (a := 4) (b := 1) (by decide), updN_2]) (by simp [updG, upd, hjM, Ne.symm hjM]) (by intro i k hk; have hj3 : M ≠ j := Ne.symm hjM; by_cases e : i = M; { rw [e]; rcases zcolc hk with rfl | rfl | rfl | rfl | rfl <;> simp [updG, upd, hjM, hj3] }; { by_cases e3 : i = j; { rw [e3]; rcases zcolc hk with rfl | rfl | rfl | rfl | rfl <;> simp [updG, upd, hjM] }; { simp [updG, e, e3] } })))
                · first | replace c9 := i_u1 hI c9 | replace c9 := i_s1 hI c9 | (replace c9 := i_p1 hI hp c9; rw [← ep1] at c9)
                  refine zR_s rfl ?_
                  refine zR_cst (v := 4) rfl rfl rfl ?_
                  refine zR_putC rfl rfl h75 rfl ?_
                  try (replace c9 := i_p2 hI hp c9; rw [← ep1] at c9)
                  refine zR_s rfl ?_
                  refine zR_get rfl rfl (zm0 h75) rfl ?_
                  refine zR_ifle rfl rfl (fun c => absurd c (by decide)) (fun _ => ?_)
                  refine zR_cst (v := 0) rfl rfl rfl ?_
                  first | refine zR_rete rfl rfl ?_ ?_ | refine zR_retb rfl rfl ?_ ?_
                  all_goals (first | contradiction | (simp only [zOm, zHm, q_split, kfA, ep, c1, c2, c3, c4, c5, c6, c7, c8, c9, if_true, if_false, not_true_eq_false, not_false_eq_true, and_self, and_true, true_and, or_true, true_or, or_false, false_or, and_false, false_and, reduceCtorEq, Bool.false_eq_true, Bool.true_eq_false, ite_self, eq_self]; done) | (simp only [zOm, zHm, q_split, kfA, c1, c2, c3, c4, c5, c6, c7, c8, c9, if_true, if_false, not_true_eq_false, not_false_eq_true, and_self, and_true, true_and, or_true, true_or, or_false, false_or, and_false, false_and, reduceCtorEq, Bool.false_eq_true, Bool.true_eq_false, ite_self, eq_self]; done) | (simp only [zOm, zHm, q_split, kfA, ep, c1, c2, c3, c4, c5, c6, c7, c8, c9, if_true, if_false, not_true_eq_false, not_false_eq_true, and_self, and_true, true_and, or_true, true_or, or_false, false_or, and_false, false_and, reduceCtorEq, Bool.false_eq_true, Bool.true_eq_false, ite_self, eq_self]; exact zMd_app2 (by rw [updN_2, updN_c (N := N) (a := 4) (b := 1) (by decide), updN_2]) (by simp [updG, upd, hjM, Ne.symm hjM]) (by intro i k hk; have hj3 : M ≠ j := Ne.symm hjM; by_cases e : i = M; { rw [e]; rcases zcolc hk with rfl | rfl | rfl | rfl | rfl <;> simp [updG, upd, hjM, hj3] }; { by_cases e3 : i = j; { rw [e3]; rcases zcolc hk with rfl | rfl | rfl | rfl | rfl <;> simp [updG, upd, hjM] }; { simp [updG, e, e3] } })))
          · first | replace c6 := i_n1 cn c6 | replace c6 := i_z2 c6 | skip
            refine zR_cst (v := 3) rfl rfl rfl ?_
            refine zR_s rfl ?_
            refine zR_putC rfl rfl h75 rfl ?_
            refine zR_s rfl ?_
            refine zR_get rfl rfl (zm0 h75) rfl ?_
            refine zR_ifne rfl rfl (fun _ => ?_) (fun c => absurd c (by decide))
            try (replace c6 := i_p2 hI hp c6; rw [← ep1] at c6)
            refine zR_s rfl ?_
            refine zR_get rfl rfl (zm0 h75) rfl ?_
            refine zR_ifle rfl rfl (fun c => absurd c (by decide)) (fun _ => ?_)
            refine zR_cst (v := 0) rfl rfl rfl ?_
            first | refine zR_rete rfl rfl ?_ ?_ | refine zR_retb rfl rfl ?_ ?_
            all_goals (first | contradiction | (simp only [zOm, zHm, q_split, kfA, ep, c1, c2, c3, c4, c5, c6, if_true, if_false, not_true_eq_false, not_false_eq_true, and_self, and_true, true_and, or_true, true_or, or_false, false_or, and_false, false_and, reduceCtorEq, Bool.false_eq_true, Bool.true_eq_false, ite_self, eq_self]; done) | (simp only [zOm, zHm, q_split, kfA, c1, c2, c3, c4, c5, c6, if_true, if_false, not_true_eq_false, not_false_eq_true, and_self, and_true, true_and, or_true, true_or, or_false, false_or, and_false, false_and, reduceCtorEq, Bool.false_eq_true, Bool.true_eq_false, ite_self, eq_self]; done) | (simp only [zOm, zHm, q_split, kfA, ep, c1, c2, c3, c4, c5, c6, if_true, if_false, not_true_eq_false, not_false_eq_true, and_self, and_true, true_and, or_true, true_or, or_false, false_or, and_false, false_and, reduceCtorEq, Bool.false_eq_true, Bool.true_eq_false, ite_self, eq_self]; exact zMd_app2 (by rw [updN_2, updN_c (N := N) (a := 4) (b := 1) (by decide), updN_2]) (by simp [updG, upd, hjM, Ne.symm hjM]) (by intro i k hk; have hj3 : M ≠ j := Ne.symm hjM; by_cases e : i = M; { rw [e]; rcases zcolc hk with rfl | rfl | rfl | rfl | rfl <;> simp [updG, upd, hjM, hj3] }; { by_cases e3 : i = j; { rw [e3]; rcases zcolc hk with rfl | rfl | rfl | rfl | rfl <;> simp [updG, upd, hjM] }; { simp [updG, e, e3] } })))
    · try replace c3 := p2 c3
      refine zR_cst (v := 2) rfl rfl rfl ?_
      refine zR_s rfl ?_
      refine zR_putC rfl rfl h75 rfl ?_
      refine zR_s rfl ?_
      refine zR_get rfl rfl (zm0 h75) rfl ?_
      refine zR_ifne rfl rfl (fun _ => ?_) (fun c => absurd c (by decide))
      refine zR_s rfl ?_
      refine zR_get rfl rfl (zm0 h75) rfl ?_
      refine zR_ifne rfl rfl (fun _ => ?_) (fun c => absurd c (by decide))
      try (replace c3 := i_p2 hI hp c3; rw [← ep1] at c3)
      refine zR_s rfl ?_
      refine zR_get rfl rfl (zm0 h75) rfl ?_
      refine zR_ifle rfl rfl (fun c => absurd c (by decide)) (fun _ => ?_)
      refine zR_cst (v := 0) rfl rfl rfl ?_
      first | refine zR_rete rfl rfl ?_ ?_ | refine zR_retb rfl rfl ?_ ?_
      all_goals (first | contradiction | (simp only [zOm, zHm, q_split, kfA, ep, c1, c2, c3, if_true, if_false, not_true_eq_false, not_false_eq_true, and_self, and_true, true_and, or_true, true_or, or_false, false_or, and_false, false_and, reduceCtorEq, Bool.false_eq_true, Bool.true_eq_false, ite_self, eq_self]; done) | (simp only [zOm, zHm, q_split, kfA, c1, c2, c3, if_true, if_false, not_true_eq_false, not_false_eq_true, and_self, and_true, true_and, or_true, true_or, or_false, false_or, and_false, false_and, reduceCtorEq, Bool.false_eq_true, Bool.true_eq_false, ite_self, eq_self]; done) | (simp only [zOm, zHm, q_split, kfA, ep, c1, c2, c3, if_true, if_false, not_true_eq_false, not_false_eq_true, and_self, and_true, true_and, or_true, true_or, or_false, false_or, and_false, false_and, reduceCtorEq, Bool.false_eq_true, Bool.true_eq_false, ite_self, eq_self]; exact zMd_app2 (by rw [updN_2, updN_c (N := N) (a := 4) (b := 1) (by decide), updN_2]) (by simp [updG, upd, hjM, Ne.symm hjM]) (by intro i k hk; have hj3 : M ≠ j := Ne.symm hjM; by_cases e : i = M; { rw [e]; rcases zcolc hk with rfl | rfl | rfl | rfl | rfl <;> simp [updG, upd, hjM, hj3] }; { by_cases e3 : i = j; { rw [e3]; rcases zcolc hk with rfl | rfl | rfl | rfl | rfl <;> simp [updG, upd, hjM] }; { simp [updG, e, e3] } })))
end ZMC
