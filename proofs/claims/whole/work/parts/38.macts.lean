/-! the reference's join and serial -/
section ZMD
variable {sL : Nat} {sx : Nat → Int32} {d : Nat} {h : zH}
variable {N N' : Nat → Int32} {F F' G G' : Nat → Nat → Int32} {K : Nat → Option Nat} {H : Nat → Int32} {Z : Nat → Int64} {c : Int32} {B : Nat → Int32} {hc t : zH} {M A l R u i : Nat}
theorem i_HK (hI : zInv N F G K Z M A l R) (hH : zHK M K H) {j w : Nat} (hj : j < M) (hw : w < M) : H j = H w ↔ K j = K w := by
  rw [hH j hj, hH w hw]
  exact zsk_inj (fun c e => i_kb hI _ _ e) (fun c e => i_kb hI _ _ e)
theorem d_join {j : Nat} {w : Nat} (h75 : hc.length = 75) (hI : zInv N F G K Z M A l R) (hH : zHK M K H) (hj : j < M) (hw : w < M) : zMe sL sx 11 85 [.ref 75, .int (nI j), .int (nI w)] (hc ++ (zMd N F G H Z c B ++ t)) (zOm none (q_join N F G K Z M A j w)) (zHm kfB hc t N F G H Z B (zhl H K w M) (zbl B K w M) (q_join N F G K Z M A j w)) := by
  have hA := hI.2.2.1
  have hM := i_m1 hI
  have hm := i_m hI
  have hj2 : j < 64 := by omega
  have hw2 : w < 64 := by omega
  have cnj : zcnt (zqW K j) M ≤ 64 := Nat.le_trans (zcnt_le _ _) hm
  have cnw : zcnt (zqW K w) M ≤ 64 := Nat.le_trans (zcnt_le _ _) hm
  have hzj := (i_un hI hj).2.2.2.2.2.2.1
  have hzw := (i_un hI hw).2.2.2.2.2.2.1
  have ia : (G j 0 = G w 0 ∧ G j 3 = G w 3 ∧ G j 5 = G w 5 ∧ G j 6 = G w 6 ∧ H j = H w) → (G j 0 = G w 0 ∧ G j 3 = G w 3 ∧ G j 5 = G w 5 ∧ G j 6 = G w 6 ∧ K j = K w) := by rw [i_HK hI hH hj hw]; exact id
  have ib : ¬ (G j 0 = G w 0 ∧ G j 3 = G w 3 ∧ G j 5 = G w 5 ∧ G j 6 = G w 6 ∧ H j = H w) → ¬ (G j 0 = G w 0 ∧ G j 3 = G w 3 ∧ G j 5 = G w 5 ∧ G j 6 = G w 6 ∧ K j = K w) := by rw [i_HK hI hH hj hw]; exact id
  show zR sL sx _ 85 0 [.ref 75, .int (nI j), .int (nI w)] [] _ _ _
  refine zR_s rfl ?_
  refine zR_s rfl ?_
  refine zR_s rfl ?_
  refine zR_call rfl rfl rfl rfl (zcallok_v (zm0 h75) rfl rfl) (m_isUnit h75) ?_
  first | refine zR_df rfl rfl (fun c1 => absurd (i_v hI hj) c1) (fun c1 => ?_) | refine zR_bf rfl rfl (fun c1 => absurd (i_v hI hj) c1) (fun c1 => ?_) | refine zR_ifeq rfl rfl (fun c1 => absurd (i_v hI hj) c1) (fun c1 => ?_)
  refine zR_s rfl ?_
  refine zR_s rfl ?_
  refine zR_call rfl rfl rfl rfl (zcallok_v (zm0 h75) rfl rfl) (m_isUnit h75) ?_
  first | refine zR_dt rfl rfl (fun c2 => ?_) (fun c2 => absurd (i_v hI hw) c2) | refine zR_bt rfl rfl (fun c2 => ?_) (fun c2 => absurd (i_v hI hw) c2) | refine zR_ifne rfl rfl (fun c2 => ?_) (fun c2 => absurd (i_v hI hw) c2)
  refine zR_cst (v := 0) rfl rfl rfl ?_
  refine zR_putC rfl rfl h75 rfl ?_
  refine zR_s rfl ?_
  refine zR_get rfl rfl (zm0 h75) rfl ?_
  refine zR_ifne rfl rfl (fun c => absurd c (by decide)) (fun _ => ?_)
  refine zR_s rfl ?_
  refine zR_s rfl ?_
  refine zR_iceq rfl rfl (fun c3 => ?_) (fun c3 => ?_)
  · first | replace c3 : j = w := (nI_eq (by omega) (by omega)).mp c3 | replace c3 := ib c3 | skip
    refine zR_s rfl ?_
    refine zR_cst (v := 2) rfl rfl rfl ?_
    refine zR_putC rfl rfl h75 rfl ?_
    try replace c3 := ia c3
    refine zR_s rfl ?_
    refine zR_get rfl rfl (zm0 h75) rfl ?_
    refine zR_ifne rfl rfl (fun _ => ?_) (fun c => absurd c (by decide))
    refine zR_s rfl ?_
    refine zR_get rfl rfl (zm0 h75) rfl ?_
    refine zR_ifne rfl rfl (fun _ => ?_) (fun c => absurd c (by decide))
    try replace c3 := i_s2 hI c3
    refine zR_s rfl ?_
    refine zR_get rfl rfl (zm0 h75) rfl ?_
    refine zR_ifle rfl rfl (fun c => absurd c (by decide)) (fun _ => ?_)
    refine zR_rete rfl rfl ?_ ?_
    all_goals (first | contradiction | (simp only [zOm, zHm, q_join, kfB, c1, c2, c3, if_true, if_false, not_true_eq_false, not_false_eq_true, and_self, and_true, true_and, or_true, true_or, or_false, false_or, and_false, false_and, reduceCtorEq, Bool.false_eq_true, Bool.true_eq_false, ite_self, eq_self]; done) | (simp only [zOm, zHm, q_join, kfB, c1, c2, c3, if_true, if_false, not_true_eq_false, not_false_eq_true, and_self, and_true, true_and, or_true, true_or, or_false, false_or, and_false, false_and, reduceCtorEq, Bool.false_eq_true, Bool.true_eq_false, ite_self, eq_self]; done))
  · replace c3 : ¬ j = w := fun e => c3 (congrArg nI e)
    refine zR_s rfl ?_
    refine zR_s rfl ?_
    first | refine zR_call rfl rfl rfl rfl (zcallok_v (zm0 h75) rfl rfl) (m_mstands h75 hj2) ?_ | refine zR_call rfl rfl rfl rfl (zcallok_v (zm0 h75) rfl rfl) (m_mstands h75 hw2) ?_
    refine zR_bf rfl rfl (fun c4 => ?_) (fun c4 => ?_)
    · first | replace c4 : j = w := (nI_eq (by omega) (by omega)).mp c4 | replace c4 := ib c4 | skip
      refine zR_s rfl ?_
      refine zR_cst (v := 2) rfl rfl rfl ?_
      refine zR_putC rfl rfl h75 rfl ?_
      try replace c4 := ia c4
      refine zR_s rfl ?_
      refine zR_get rfl rfl (zm0 h75) rfl ?_
      refine zR_ifne rfl rfl (fun _ => ?_) (fun c => absurd c (by decide))
      refine zR_s rfl ?_
      refine zR_get rfl rfl (zm0 h75) rfl ?_
      refine zR_ifne rfl rfl (fun _ => ?_) (fun c => absurd c (by decide))
      try replace c4 := i_s2 hI c4
      refine zR_s rfl ?_
      refine zR_get rfl rfl (zm0 h75) rfl ?_
      refine zR_ifle rfl rfl (fun c => absurd c (by decide)) (fun _ => ?_)
      refine zR_rete rfl rfl ?_ ?_
      all_goals (first | contradiction | (simp only [zOm, zHm, q_join, kfB, c1, c2, c3, c4, if_true, if_false, not_true_eq_false, not_false_eq_true, and_self, and_true, true_and, or_true, true_or, or_false, false_or, and_false, false_and, reduceCtorEq, Bool.false_eq_true, Bool.true_eq_false, ite_self, eq_self]; done) | (simp only [zOm, zHm, q_join, kfB, c1, c2, c3, c4, if_true, if_false, not_true_eq_false, not_false_eq_true, and_self, and_true, true_and, or_true, true_or, or_false, false_or, and_false, false_and, reduceCtorEq, Bool.false_eq_true, Bool.true_eq_false, ite_self, eq_self]; done))
    · refine zR_s rfl ?_
      refine zR_s rfl ?_
      first | refine zR_call rfl rfl rfl rfl (zcallok_v (zm0 h75) rfl rfl) (m_mstands h75 hj2) ?_ | refine zR_call rfl rfl rfl rfl (zcallok_v (zm0 h75) rfl rfl) (m_mstands h75 hw2) ?_
      refine zR_bf rfl rfl (fun c5 => ?_) (fun c5 => ?_)
      · first | replace c5 : j = w := (nI_eq (by omega) (by omega)).mp c5 | replace c5 := ib c5 | skip
        refine zR_s rfl ?_
        refine zR_cst (v := 2) rfl rfl rfl ?_
        refine zR_putC rfl rfl h75 rfl ?_
        try replace c5 := ia c5
        refine zR_s rfl ?_
        refine zR_get rfl rfl (zm0 h75) rfl ?_
        refine zR_ifne rfl rfl (fun _ => ?_) (fun c => absurd c (by decide))
        refine zR_s rfl ?_
        refine zR_get rfl rfl (zm0 h75) rfl ?_
        refine zR_ifne rfl rfl (fun _ => ?_) (fun c => absurd c (by decide))
        try replace c5 := i_s2 hI c5
        refine zR_s rfl ?_
        refine zR_get rfl rfl (zm0 h75) rfl ?_
        refine zR_ifle rfl rfl (fun c => absurd c (by decide)) (fun _ => ?_)
        refine zR_rete rfl rfl ?_ ?_
        all_goals (first | contradiction | (simp only [zOm, zHm, q_join, kfB, c1, c2, c3, c4, c5, if_true, if_false, not_true_eq_false, not_false_eq_true, and_self, and_true, true_and, or_true, true_or, or_false, false_or, and_false, false_and, reduceCtorEq, Bool.false_eq_true, Bool.true_eq_false, ite_self, eq_self]; done) | (simp only [zOm, zHm, q_join, kfB, c1, c2, c3, c4, c5, if_true, if_false, not_true_eq_false, not_false_eq_true, and_self, and_true, true_and, or_true, true_or, or_false, false_or, and_false, false_and, reduceCtorEq, Bool.false_eq_true, Bool.true_eq_false, ite_self, eq_self]; done))
      · refine zR_s rfl ?_
        refine zR_s rfl ?_
        refine zR_s rfl ?_
        refine zR_call rfl rfl rfl rfl (zcallok_v (zm0 h75) rfl rfl) (m_areAlike h75 hj2 hw2) ?_
        first | refine zR_dt rfl rfl (fun c6 => ?_) (fun c6 => ?_) | refine zR_bt rfl rfl (fun c6 => ?_) (fun c6 => ?_) | refine zR_ifne rfl rfl (fun c6 => ?_) (fun c6 => ?_)
        · try replace c6 := ia c6
          refine zR_s rfl ?_
          refine zR_get rfl rfl (zm0 h75) rfl ?_
          refine zR_ifne rfl rfl (fun c => absurd c (by decide)) (fun _ => ?_)
          refine zR_s rfl ?_
          refine zR_s rfl ?_
          first | refine zR_call rfl rfl rfl rfl (zcallok_v (zm0 h75) rfl rfl) (m_load h75 hM hm hH (i_ch hI) hj) ?_ | refine zR_call rfl rfl rfl rfl (zcallok_v (zm0 h75) rfl rfl) (m_load h75 hM hm hH (i_ch hI) hw) ?_
          refine zR_ngt rfl rfl (fun c7 => ?_) (fun c7 => ?_)
          · first | replace c7 := i_n1 cnj c7 | replace c7 := i_n1 cnw c7 | replace c7 := i_z2 c7 | skip
            refine zR_s rfl ?_
            refine zR_cst (v := 2) rfl rfl rfl ?_
            refine zR_putC rfl rfl h75 rfl ?_
            refine zR_s rfl ?_
            refine zR_get rfl rfl (zm0 h75) rfl ?_
            refine zR_ifne rfl rfl (fun _ => ?_) (fun c => absurd c (by decide))
            try replace c7 := i_s2 hI c7
            refine zR_s rfl ?_
            refine zR_get rfl rfl (zm0 h75) rfl ?_
            refine zR_ifle rfl rfl (fun c => absurd c (by decide)) (fun _ => ?_)
            refine zR_rete rfl rfl ?_ ?_
            all_goals (first | contradiction | (simp only [zOm, zHm, q_join, kfB, c1, c2, c3, c4, c5, c6, c7, if_true, if_false, not_true_eq_false, not_false_eq_true, and_self, and_true, true_and, or_true, true_or, or_false, false_or, and_false, false_and, reduceCtorEq, Bool.false_eq_true, Bool.true_eq_false, ite_self, eq_self]; done) | (simp only [zOm, zHm, q_join, kfB, c1, c2, c3, c4, c5, c6, c7, if_true, if_false, not_true_eq_false, not_false_eq_true, and_self, and_true, true_and, or_true, true_or, or_false, false_or, and_false, false_and, reduceCtorEq, Bool.false_eq_true, Bool.true_eq_false, ite_self, eq_self]; done))
          · replace c7 := i_n2 cnj c7
            refine zR_s rfl ?_
            refine zR_s rfl ?_
            first | refine zR_call rfl rfl rfl rfl (zcallok_v (zm0 h75) rfl rfl) (m_load h75 hM hm hH (i_ch hI) hj) ?_ | refine zR_call rfl rfl rfl rfl (zcallok_v (zm0 h75) rfl rfl) (m_load h75 hM hm hH (i_ch hI) hw) ?_
            refine zR_ngt rfl rfl (fun c8 => ?_) (fun c8 => ?_)
            · first | replace c8 := i_n1 cnj c8 | replace c8 := i_n1 cnw c8 | replace c8 := i_z2 c8 | skip
              refine zR_s rfl ?_
              refine zR_cst (v := 2) rfl rfl rfl ?_
              refine zR_putC rfl rfl h75 rfl ?_
              refine zR_s rfl ?_
              refine zR_get rfl rfl (zm0 h75) rfl ?_
              refine zR_ifne rfl rfl (fun _ => ?_) (fun c => absurd c (by decide))
              try replace c8 := i_s2 hI c8
              refine zR_s rfl ?_
              refine zR_get rfl rfl (zm0 h75) rfl ?_
              refine zR_ifle rfl rfl (fun c => absurd c (by decide)) (fun _ => ?_)
              refine zR_rete rfl rfl ?_ ?_
              all_goals (first | contradiction | (simp only [zOm, zHm, q_join, kfB, c1, c2, c3, c4, c5, c6, c7, c8, if_true, if_false, not_true_eq_false, not_false_eq_true, and_self, and_true, true_and, or_true, true_or, or_false, false_or, and_false, false_and, reduceCtorEq, Bool.false_eq_true, Bool.true_eq_false, ite_self, eq_self]; done) | (simp only [zOm, zHm, q_join, kfB, c1, c2, c3, c4, c5, c6, c7, c8, if_true, if_false, not_true_eq_false, not_false_eq_true, and_self, and_true, true_and, or_true, true_or, or_false, false_or, and_false, false_and, reduceCtorEq, Bool.false_eq_true, Bool.true_eq_false, ite_self, eq_self]; done))
            · replace c8 := i_n2 cnw c8
              refine zR_s rfl ?_
              refine zR_get rfl rfl (zm0 h75) rfl ?_
              refine zR_s rfl ?_
              first | refine zR_lldMZ rfl h75 (hj2) ?_ | refine zR_lldMZ rfl h75 (hw2) ?_
              refine zR_lc (v := 0) rfl rfl ?_
              refine zR_s rfl ?_
              refine zR_lgt rfl rfl (fun c9 => ?_) (fun c9 => ?_)
              · first | replace c9 := i_n1 cnj c9 | replace c9 := i_n1 cnw c9 | replace c9 := i_z2 c9 | skip
                refine zR_s rfl ?_
                refine zR_cst (v := 2) rfl rfl rfl ?_
                refine zR_putC rfl rfl h75 rfl ?_
                refine zR_s rfl ?_
                refine zR_get rfl rfl (zm0 h75) rfl ?_
                refine zR_ifne rfl rfl (fun _ => ?_) (fun c => absurd c (by decide))
                try replace c9 := i_s2 hI c9
                refine zR_s rfl ?_
                refine zR_get rfl rfl (zm0 h75) rfl ?_
                refine zR_ifle rfl rfl (fun c => absurd c (by decide)) (fun _ => ?_)
                refine zR_rete rfl rfl ?_ ?_
                all_goals (first | contradiction | (simp only [zOm, zHm, q_join, kfB, c1, c2, c3, c4, c5, c6, c7, c8, c9, if_true, if_false, not_true_eq_false, not_false_eq_true, and_self, and_true, true_and, or_true, true_or, or_false, false_or, and_false, false_and, reduceCtorEq, Bool.false_eq_true, Bool.true_eq_false, ite_self, eq_self]; done) | (simp only [zOm, zHm, q_join, kfB, c1, c2, c3, c4, c5, c6, c7, c8, c9, if_true, if_false, not_true_eq_false, not_false_eq_true, and_self, and_true, true_and, or_true, true_or, or_false, false_or, and_false, false_and, reduceCtorEq, Bool.false_eq_true, Bool.true_eq_false, ite_self, eq_self]; done))
              · replace c9 := i_z1 hzj c9
                refine zR_s rfl ?_
                refine zR_get rfl rfl (zm0 h75) rfl ?_
                refine zR_s rfl ?_
                first | refine zR_lldMZ rfl h75 (hj2) ?_ | refine zR_lldMZ rfl h75 (hw2) ?_
                refine zR_lc (v := 0) rfl rfl ?_
                refine zR_s rfl ?_
                refine zR_lgt rfl rfl (fun c10 => ?_) (fun c10 => ?_)
                · first | replace c10 := i_n1 cnj c10 | replace c10 := i_n1 cnw c10 | replace c10 := i_z2 c10 | skip
                  refine zR_s rfl ?_
                  refine zR_cst (v := 2) rfl rfl rfl ?_
                  refine zR_putC rfl rfl h75 rfl ?_
                  refine zR_s rfl ?_
                  refine zR_get rfl rfl (zm0 h75) rfl ?_
                  refine zR_ifne rfl rfl (fun _ => ?_) (fun c => absurd c (by decide))
                  try replace c10 := i_s2 hI c10
                  refine zR_s rfl ?_
                  refine zR_get rfl rfl (zm0 h75) rfl ?_
                  refine zR_ifle rfl rfl (fun c => absurd c (by decide)) (fun _ => ?_)
                  refine zR_rete rfl rfl ?_ ?_
                  all_goals (first | contradiction | (simp only [zOm, zHm, q_join, kfB, c1, c2, c3, c4, c5, c6, c7, c8, c9, c10, if_true, if_false, not_true_eq_false, not_false_eq_true, and_self, and_true, true_and, or_true, true_or, or_false, false_or, and_false, false_and, reduceCtorEq, Bool.false_eq_true, Bool.true_eq_false, ite_self, eq_self]; done) | (simp only [zOm, zHm, q_join, kfB, c1, c2, c3, c4, c5, c6, c7, c8, c9, c10, if_true, if_false, not_true_eq_false, not_false_eq_true, and_self, and_true, true_and, or_true, true_or, or_false, false_or, and_false, false_and, reduceCtorEq, Bool.false_eq_true, Bool.true_eq_false, ite_self, eq_self]; done))
                · replace c10 := i_z1 hzw c10
                  refine zR_s rfl ?_
                  refine zR_get rfl rfl (zm0 h75) rfl ?_
                  refine zR_s rfl ?_
                  first | refine zR_ildMG 4 rfl h75 (by decide) (hj2) ?_ | refine zR_ildMG 4 rfl h75 (by decide) (hw2) ?_
                  refine zR_s rfl ?_
                  refine zR_get rfl rfl (zm0 h75) rfl ?_
                  refine zR_s rfl ?_
                  first | refine zR_ildMG 4 rfl h75 (by decide) (hj2) ?_ | refine zR_ildMG 4 rfl h75 (by decide) (hw2) ?_
                  refine zR_iadd rfl ?_
                  refine zR_cst (v := 1000) rfl rfl rfl ?_
                  refine zR_icle rfl rfl (fun c11 => ?_) (fun c11 => ?_)
                  · refine zR_s rfl ?_
                    refine zR_get rfl rfl (zm0 h75) rfl ?_
                    refine zR_ifne rfl rfl (fun c => absurd c (by decide)) (fun _ => ?_)
                    refine zR_s rfl ?_
                    refine zR_get rfl rfl (zm0 h75) rfl ?_
                    refine zR_cst (v := 398) rfl rfl rfl ?_
                    refine zR_icle rfl rfl (fun c12 => ?_) (fun c12 => ?_)
                    · try replace c12 := i_s2 hI c12
                      refine zR_s rfl ?_
                      refine zR_get rfl rfl (zm0 h75) rfl ?_
                      refine zR_ifle rfl rfl (fun _ => ?_) (fun c => absurd c (by decide))
                      have hA5 := zroom2 hA.1 hA.2 c12
                      refine zR_s rfl ?_
                      refine zR_get rfl rfl (zm0 h75) rfl ?_
                      refine zR_s rfl ?_
                      refine zR_s rfl ?_
                      first | refine zR_ildMG 4 rfl h75 (by decide) (hj2) ?_ | refine zR_ildMG 4 rfl h75 (by decide) (hw2) ?_
                      refine zR_s rfl ?_
                      refine zR_get rfl rfl (zm0 h75) rfl ?_
                      refine zR_s rfl ?_
                      first | refine zR_ildMG 4 rfl h75 (by decide) (hj2) ?_ | refine zR_ildMG 4 rfl h75 (by decide) (hw2) ?_
                      refine zR_iadd rfl ?_
                      first | refine zR_istMG 4 rfl h75 (by decide) (hj2) ?_ | refine zR_istMG 4 rfl h75 (by decide) (hw2) ?_
                      refine zR_s rfl ?_
                      refine zR_s rfl ?_
                      refine zR_cst (v := 6) rfl rfl rfl ?_
                      refine zR_s rfl ?_
                      first | refine zR_call rfl rfl rfl rfl (zcallok_v (zm0 h75) rfl rfl) (m_act h75 hA.1 (show A < 400 by omega)) ?_ | refine zR_call rfl rfl rfl rfl (zcallok_v (zm0 h75) rfl rfl) (m_act h75 (show _ = nI (A + 1) from rfl) hA5) ?_
                      refine zR_s rfl ?_
                      refine zR_s rfl ?_
                      refine zR_cst (v := 6) rfl rfl rfl ?_
                      refine zR_s rfl ?_
                      first | refine zR_call rfl rfl rfl rfl (zcallok_v (zm0 h75) rfl rfl) (m_act h75 hA.1 (show A < 400 by omega)) ?_ | refine zR_call rfl rfl rfl rfl (zcallok_v (zm0 h75) rfl rfl) (m_act h75 (show _ = nI (A + 1) from rfl) hA5) ?_
                      refine zR_s rfl ?_
                      refine zR_s rfl ?_
                      refine zR_cst (v := 5) rfl rfl rfl ?_
                      refine zR_call rfl rfl rfl rfl (zcallok_v (zm0 h75) rfl rfl) (m_leave h75 (show upd (upd N 4 _) 4 _ 1 = nI M from hM) hm hH (i_ch hI) hw) ?_
                      refine zR_rete rfl rfl ?_ ?_
                      all_goals (first | contradiction | (simp only [zOm, zHm, q_join, kfB, c1, c2, c3, c4, c5, c6, c7, c8, c9, c10, c11, c12, if_true, if_false, not_true_eq_false, not_false_eq_true, and_self, and_true, true_and, or_true, true_or, or_false, false_or, and_false, false_and, reduceCtorEq, Bool.false_eq_true, Bool.true_eq_false, ite_self, eq_self]; done) | (simp only [zOm, zHm, q_join, kfB, c1, c2, c3, c4, c5, c6, c7, c8, c9, c10, c11, c12, if_true, if_false, not_true_eq_false, not_false_eq_true, and_self, and_true, true_and, or_true, true_or, or_false, false_or, and_false, false_and, reduceCtorEq, Bool.false_eq_true, Bool.true_eq_false, ite_self, eq_self]; done))
                    · replace c12 := i_s1 hI c12
                      refine zR_s rfl ?_
                      refine zR_cst (v := 3) rfl rfl rfl ?_
                      refine zR_putC rfl rfl h75 rfl ?_
                      try replace c12 := i_s2 hI c12
                      refine zR_s rfl ?_
                      refine zR_get rfl rfl (zm0 h75) rfl ?_
                      refine zR_ifle rfl rfl (fun c => absurd c (by decide)) (fun _ => ?_)
                      refine zR_rete rfl rfl ?_ ?_
                      all_goals (first | contradiction | (simp only [zOm, zHm, q_join, kfB, c1, c2, c3, c4, c5, c6, c7, c8, c9, c10, c11, c12, if_true, if_false, not_true_eq_false, not_false_eq_true, and_self, and_true, true_and, or_true, true_or, or_false, false_or, and_false, false_and, reduceCtorEq, Bool.false_eq_true, Bool.true_eq_false, ite_self, eq_self]; done) | (simp only [zOm, zHm, q_join, kfB, c1, c2, c3, c4, c5, c6, c7, c8, c9, c10, c11, c12, if_true, if_false, not_true_eq_false, not_false_eq_true, and_self, and_true, true_and, or_true, true_or, or_false, false_or, and_false, false_and, reduceCtorEq, Bool.false_eq_true, Bool.true_eq_false, ite_self, eq_self]; done))
                  · first | replace c11 := i_n1 cnj c11 | replace c11 := i_n1 cnw c11 | replace c11 := i_z2 c11 | skip
                    refine zR_s rfl ?_
                    refine zR_cst (v := 2) rfl rfl rfl ?_
                    refine zR_putC rfl rfl h75 rfl ?_
                    refine zR_s rfl ?_
                    refine zR_get rfl rfl (zm0 h75) rfl ?_
                    refine zR_ifne rfl rfl (fun _ => ?_) (fun c => absurd c (by decide))
                    try replace c11 := i_s2 hI c11
                    refine zR_s rfl ?_
                    refine zR_get rfl rfl (zm0 h75) rfl ?_
                    refine zR_ifle rfl rfl (fun c => absurd c (by decide)) (fun _ => ?_)
                    refine zR_rete rfl rfl ?_ ?_
                    all_goals (first | contradiction | (simp only [zOm, zHm, q_join, kfB, c1, c2, c3, c4, c5, c6, c7, c8, c9, c10, c11, if_true, if_false, not_true_eq_false, not_false_eq_true, and_self, and_true, true_and, or_true, true_or, or_false, false_or, and_false, false_and, reduceCtorEq, Bool.false_eq_true, Bool.true_eq_false, ite_self, eq_self]; done) | (simp only [zOm, zHm, q_join, kfB, c1, c2, c3, c4, c5, c6, c7, c8, c9, c10, c11, if_true, if_false, not_true_eq_false, not_false_eq_true, and_self, and_true, true_and, or_true, true_or, or_false, false_or, and_false, false_and, reduceCtorEq, Bool.false_eq_true, Bool.true_eq_false, ite_self, eq_self]; done))
        · first | replace c6 : j = w := (nI_eq (by omega) (by omega)).mp c6 | replace c6 := ib c6 | skip
          refine zR_s rfl ?_
          refine zR_cst (v := 2) rfl rfl rfl ?_
          refine zR_putC rfl rfl h75 rfl ?_
          try replace c6 := ia c6
          refine zR_s rfl ?_
          refine zR_get rfl rfl (zm0 h75) rfl ?_
          refine zR_ifne rfl rfl (fun _ => ?_) (fun c => absurd c (by decide))
          refine zR_s rfl ?_
          refine zR_get rfl rfl (zm0 h75) rfl ?_
          refine zR_ifne rfl rfl (fun _ => ?_) (fun c => absurd c (by decide))
          try replace c6 := i_s2 hI c6
          refine zR_s rfl ?_
          refine zR_get rfl rfl (zm0 h75) rfl ?_
          refine zR_ifle rfl rfl (fun c => absurd c (by decide)) (fun _ => ?_)
          refine zR_rete rfl rfl ?_ ?_
          all_goals (first | contradiction | (simp only [zOm, zHm, q_join, kfB, c1, c2, c3, c4, c5, c6, if_true, if_false, not_true_eq_false, not_false_eq_true, and_self, and_true, true_and, or_true, true_or, or_false, false_or, and_false, false_and, reduceCtorEq, Bool.false_eq_true, Bool.true_eq_false, ite_self, eq_self]; done) | (simp only [zOm, zHm, q_join, kfB, c1, c2, c3, c4, c5, c6, if_true, if_false, not_true_eq_false, not_false_eq_true, and_self, and_true, true_and, or_true, true_or, or_false, false_or, and_false, false_and, reduceCtorEq, Bool.false_eq_true, Bool.true_eq_false, ite_self, eq_self]; done))
theorem d_serial_no {a : Int32} {n : Int64} (h75 : hc.length = 75) (hM : N 1 = nI M) (hno : ¬ (0 ≤ a ∧ a ≤ nI M - 1)) : zMe sL sx 11 89 [.ref 75, .int a, .long n] (hc ++ (zMd N F G H Z c B ++ t)) (.returned none) (hc ++ (zMd N F G H Z 1 B ++ t)) := by
  rw [← hM] at hno
  show zR sL sx _ 89 0 [.ref 75, .int a, .long n, .retAddr 0, .retAddr 0] [] _ _ _
  refine zR_s rfl ?_
  refine zR_s rfl ?_
  refine zR_s rfl ?_
  refine zR_call rfl rfl rfl rfl (zcallok_v (zm0 h75) rfl rfl) (m_isUnit h75) ?_
  first | refine zR_dt rfl rfl (fun c1 => absurd c1 hno) (fun c1 => ?_) | refine zR_bt rfl rfl (fun c1 => absurd c1 hno) (fun c1 => ?_) | refine zR_ifne rfl rfl (fun c1 => absurd c1 hno) (fun c1 => ?_)
  refine zR_cst (v := 1) rfl rfl rfl ?_
  refine zR_s rfl ?_
  refine zR_putC rfl rfl h75 rfl ?_
  refine zR_s rfl ?_
  refine zR_get rfl rfl (zm0 h75) rfl ?_
  refine zR_ifne rfl rfl (fun _ => ?_) (fun c => absurd c (by decide))
  refine zR_cst (v := 0) rfl rfl rfl ?_
  refine zR_s rfl ?_
  refine zR_s rfl ?_
  refine zR_s rfl ?_
  refine zR_get rfl rfl (zm0 h75) rfl ?_
  refine zR_icge rfl rfl (fun c2 => ?_) (fun c2 => ?_)
  · refine zR_s rfl ?_
    refine zR_get rfl rfl (zm0 h75) rfl ?_
    refine zR_ifne rfl rfl (fun _ => ?_) (fun c => absurd c (by decide))
    refine zR_s rfl ?_
    refine zR_get rfl rfl (zm0 h75) rfl ?_
    refine zR_ifle rfl rfl (fun c => absurd c (by decide)) (fun _ => ?_)
    refine zR_rete rfl rfl ?_ ?_
    all_goals (rfl)
  · refine zR_s rfl ?_
    refine zR_get rfl rfl (zm0 h75) rfl ?_
    refine zR_ifne rfl rfl (fun _ => ?_) (fun c => absurd c (by decide))
    refine zR_s rfl ?_
    refine zR_get rfl rfl (zm0 h75) rfl ?_
    refine zR_ifne rfl rfl (fun _ => ?_) (fun c => absurd c (by decide))
    refine zR_s rfl ?_
    refine zR_get rfl rfl (zm0 h75) rfl ?_
    refine zR_ifle rfl rfl (fun c => absurd c (by decide)) (fun _ => ?_)
    refine zR_rete rfl rfl ?_ ?_
    all_goals (rfl)
theorem d_serial {j : Nat} {n : Int64} (h75 : hc.length = 75) (hI : zInv N F G K Z M A l R) (hH : zHK M K H) (hj : j < M) : zMe sL sx 11 89 [.ref 75, .int (nI j), .long n] (hc ++ (zMd N F G H Z c B ++ t)) (zOm none (q_serial N F G K Z M A j n)) (zHm kfA hc t N F G H Z B H B (q_serial N F G K Z M A j n)) := by
  have hA := hI.2.2.1
  have hM := i_m1 hI
  have hm := i_m hI
  have hj2 : j < 64 := by omega
  have hz0 := (i_un hI hj).2.2.2.2.2.2.1
  have tail : 1 ≤ n ∧ n ≤ 9999999999 → zst (G j) = true → G j 4 ≤ 1 → Z j = 0 → zR sL sx 11 89 76 [.ref 75, .int (nI j), .long n, .retAddr 0, .int 0] [] (hc ++ (zMd N F G H Z 0 B ++ t)) (zOm none (q_serial N F G K Z M A j n)) (zHm kfA hc t N F G H Z B H B (q_serial N F G K Z M A j n)) := by
    intro a1 a2 a3 a4
    have hqx : (∃ i, i < M ∧ Z i = n ∧ ¬ G i 5 = 5) → (q_serial N F G K Z M A j n) = .error 2 := by
      intro hx
      rw [q_serial, if_pos a1, if_pos a2, if_neg]
      rintro ⟨_, _, q⟩
      exact @of_decide_eq_false _ (Classical.propDecidable _) q hx
    refine zR_loop0 (M := M) (fun k => [.ref 75, .int (nI j), .long n, .retAddr 0, .int (nI k)]) (fun k => hc ++ (zMd N F G H Z 0 B ++ t)) (fun k => ∀ i, i < k → ¬ (Z i = n ∧ ¬ G i 5 = 5)) rfl rfl (fun i hi => absurd hi (by omega)) (fun hX => ?_) (fun k hk hX ih => ?_)
    · have ed : @decide (∃ i, i < M ∧ Z i = n ∧ ¬ G i 5 = 5) (Classical.propDecidable _) = false := @decide_eq_false _ (Classical.propDecidable _) fun ⟨i, h1, h2⟩ => hX i h1 h2
      refine zR_s rfl ?_
      refine zR_s rfl ?_
      refine zR_get rfl rfl (zm0 h75) rfl ?_
      refine zR_icge rfl rfl (fun _ => ?_) (fun c => by first | exact absurd ((by rw [hM]; exact Int32.le_refl _)) c | exact absurd c ((by rw [hM]; exact Int32.le_refl _)))
      refine zR_s rfl ?_
      refine zR_get rfl rfl (zm0 h75) rfl ?_
      refine zR_ifne rfl rfl (fun c => absurd c (by decide)) (fun _ => ?_)
      refine zR_s rfl ?_
      refine zR_get rfl rfl (zm0 h75) rfl ?_
      refine zR_cst (v := 400) rfl rfl rfl ?_
      refine zR_icne rfl rfl (fun c1 => ?_) (fun c1 => ?_)
      · try replace c1 := i_r2 hI c1
        refine zR_s rfl ?_
        refine zR_get rfl rfl (zm0 h75) rfl ?_
        refine zR_ifle rfl rfl (fun _ => ?_) (fun c => absurd c (by decide))
        have hA5 := zroom1 hA.1 hA.2 c1
        refine zR_s rfl ?_
        refine zR_get rfl rfl (zm0 h75) rfl ?_
        refine zR_s rfl ?_
        refine zR_s rfl ?_
        refine zR_lstMZ rfl h75 (hj2) ?_
        refine zR_s rfl ?_
        refine zR_s rfl ?_
        refine zR_cst (v := 8) rfl rfl rfl ?_
        refine zR_cst (v := 0) rfl rfl rfl ?_
        refine zR_call rfl rfl rfl rfl (zcallok_v (zm0 h75) rfl rfl) (m_act h75 hA.1 hA5) ?_
        refine zR_rete rfl rfl ?_ ?_
        all_goals (first | (simp only [zOm, zHm, q_serial, kfA, if_pos a1, if_pos a2, if_pos (⟨a3, a4, ed⟩ : _ ∧ _ ∧ _), if_pos c1]; done) | (simp only [zOm, zHm, q_serial, kfA, if_pos a1, if_pos a2, if_pos (⟨a3, a4, ed⟩ : _ ∧ _ ∧ _), if_neg c1]; done))
      · replace c1 := i_r1 hI c1
        refine zR_s rfl ?_
        refine zR_cst (v := 4) rfl rfl rfl ?_
        refine zR_putC rfl rfl h75 rfl ?_
        try replace c1 := i_r2 hI c1
        refine zR_s rfl ?_
        refine zR_get rfl rfl (zm0 h75) rfl ?_
        refine zR_ifle rfl rfl (fun c => absurd c (by decide)) (fun _ => ?_)
        refine zR_rete rfl rfl ?_ ?_
        all_goals (first | (simp only [zOm, zHm, q_serial, kfA, if_pos a1, if_pos a2, if_pos (⟨a3, a4, ed⟩ : _ ∧ _ ∧ _), if_pos c1]; done) | (simp only [zOm, zHm, q_serial, kfA, if_pos a1, if_pos a2, if_pos (⟨a3, a4, ed⟩ : _ ∧ _ ∧ _), if_neg c1]; done))
    · refine zR_s rfl ?_
      refine zR_s rfl ?_
      refine zR_get rfl rfl (zm0 h75) rfl ?_
      refine zR_icge rfl rfl (fun c => by first | exact absurd c ((by rw [hM]; exact nI_ge hk (by omega))) | exact absurd ((by rw [hM]; exact nI_ge hk (by omega))) c) (fun _ => ?_)
      refine zR_s rfl ?_
      refine zR_get rfl rfl (zm0 h75) rfl ?_
      refine zR_ifne rfl rfl (fun c => absurd c (by decide)) (fun _ => ?_)
      refine zR_s rfl ?_
      refine zR_get rfl rfl (zm0 h75) rfl ?_
      refine zR_s rfl ?_
      refine zR_ildMG 5 rfl h75 (by decide) ((show k < 64 by omega)) ?_
      refine zR_cst (v := 5) rfl rfl rfl ?_
      refine zR_iceq rfl rfl (fun c1 => ?_) (fun c1 => ?_)
      · first | refine zR_incn rfl rfl rfl ?_ | refine zR_s rfl ?_
        refine zR_goto rfl rfl ?_
        exact ih (fun i hi => by by_cases e : i = k; { subst e; intro q; first | exact q.2 c1 | exact c2 q.1 }; exact hX i (by omega))
      · refine zR_s rfl ?_
        refine zR_get rfl rfl (zm0 h75) rfl ?_
        refine zR_s rfl ?_
        refine zR_lldMZ rfl h75 ((show k < 64 by omega)) ?_
        refine zR_s rfl ?_
        refine zR_s rfl ?_
        refine zR_lne rfl rfl (fun c2 => ?_) (fun c2 => ?_)
        · first | refine zR_incn rfl rfl rfl ?_ | refine zR_s rfl ?_
          refine zR_goto rfl rfl ?_
          exact ih (fun i hi => by by_cases e : i = k; { subst e; intro q; first | exact q.2 c1 | exact c2 q.1 }; exact hX i (by omega))
        · rw [hqx ⟨k, hk, c2, c1⟩]
          refine zR_s rfl ?_
          refine zR_cst (v := 3) rfl rfl rfl ?_
          refine zR_putC rfl rfl h75 rfl ?_
          first | refine zR_incn rfl rfl rfl ?_ | refine zR_s rfl ?_
          refine zR_goto rfl rfl ?_
          refine zR_s rfl ?_
          refine zR_s rfl ?_
          refine zR_get rfl rfl (zm0 h75) rfl ?_
          refine zR_icge rfl rfl (fun c3 => ?_) (fun c3 => ?_)
          · refine zR_s rfl ?_
            refine zR_get rfl rfl (zm0 h75) rfl ?_
            refine zR_ifne rfl rfl (fun _ => ?_) (fun c => absurd c (by decide))
            refine zR_s rfl ?_
            refine zR_get rfl rfl (zm0 h75) rfl ?_
            refine zR_ifle rfl rfl (fun c => absurd c (by decide)) (fun _ => ?_)
            refine zR_rete rfl rfl ?_ ?_
            all_goals (rfl)
          · refine zR_s rfl ?_
            refine zR_get rfl rfl (zm0 h75) rfl ?_
            refine zR_ifne rfl rfl (fun _ => ?_) (fun c => absurd c (by decide))
            refine zR_s rfl ?_
            refine zR_get rfl rfl (zm0 h75) rfl ?_
            refine zR_ifne rfl rfl (fun _ => ?_) (fun c => absurd c (by decide))
            refine zR_s rfl ?_
            refine zR_get rfl rfl (zm0 h75) rfl ?_
            refine zR_ifle rfl rfl (fun c => absurd c (by decide)) (fun _ => ?_)
            refine zR_rete rfl rfl ?_ ?_
            all_goals (rfl)
  show zR sL sx _ 89 0 [.ref 75, .int (nI j), .long n, .retAddr 0, .retAddr 0] [] _ _ _
  refine zR_s rfl ?_
  refine zR_s rfl ?_
  refine zR_s rfl ?_
  refine zR_call rfl rfl rfl rfl (zcallok_v (zm0 h75) rfl rfl) (m_isUnit h75) ?_
  first | refine zR_dt rfl rfl (fun c1 => ?_) (fun c1 => absurd (i_v hI hj) c1) | refine zR_bt rfl rfl (fun c1 => ?_) (fun c1 => absurd (i_v hI hj) c1) | refine zR_ifne rfl rfl (fun c1 => ?_) (fun c1 => absurd (i_v hI hj) c1)
  refine zR_s rfl ?_
  refine zR_lc (v := 1) rfl rfl ?_
  refine zR_ldc2 (v := 9999999999) rfl rfl ?_
  refine zR_call rfl rfl rfl rfl (zcallok_s rfl) (m_inL) ?_
  first | refine zR_dt rfl rfl (fun c2 => ?_) (fun c2 => ?_) | refine zR_bt rfl rfl (fun c2 => ?_) (fun c2 => ?_) | refine zR_ifne rfl rfl (fun c2 => ?_) (fun c2 => ?_)
  · refine zR_cst (v := 0) rfl rfl rfl ?_
    refine zR_putC rfl rfl h75 rfl ?_
    refine zR_s rfl ?_
    refine zR_get rfl rfl (zm0 h75) rfl ?_
    refine zR_ifne rfl rfl (fun c => absurd c (by decide)) (fun _ => ?_)
    refine zR_s rfl ?_
    refine zR_s rfl ?_
    refine zR_call rfl rfl rfl rfl (zcallok_v (zm0 h75) rfl rfl) (m_mstands h75 hj2) ?_
    refine zR_bf rfl rfl (fun c3 => ?_) (fun c3 => ?_)
    · try replace c3 := i_z2 c3
      refine zR_s rfl ?_
      refine zR_cst (v := 3) rfl rfl rfl ?_
      refine zR_putC rfl rfl h75 rfl ?_
      refine zR_cst (v := 0) rfl rfl rfl ?_
      refine zR_s rfl ?_
      refine zR_s rfl ?_
      refine zR_s rfl ?_
      refine zR_get rfl rfl (zm0 h75) rfl ?_
      refine zR_icge rfl rfl (fun c4 => ?_) (fun c4 => ?_)
      · refine zR_s rfl ?_
        refine zR_get rfl rfl (zm0 h75) rfl ?_
        refine zR_ifne rfl rfl (fun _ => ?_) (fun c => absurd c (by decide))
        refine zR_s rfl ?_
        refine zR_get rfl rfl (zm0 h75) rfl ?_
        refine zR_ifle rfl rfl (fun c => absurd c (by decide)) (fun _ => ?_)
        refine zR_rete rfl rfl ?_ ?_
        all_goals (first | contradiction | (simp only [zOm, zHm, q_serial, kfA, c1, c2, c3, c4, if_true, if_false, not_true_eq_false, not_false_eq_true, and_self, and_true, true_and, or_true, true_or, or_false, false_or, and_false, false_and, reduceCtorEq, Bool.false_eq_true, Bool.true_eq_false, ite_self, eq_self]; done) | (simp only [zOm, zHm, q_serial, kfA, c1, c2, c3, c4, if_true, if_false, not_true_eq_false, not_false_eq_true, and_self, and_true, true_and, or_true, true_or, or_false, false_or, and_false, false_and, reduceCtorEq, Bool.false_eq_true, Bool.true_eq_false, ite_self, eq_self]; done))
      · refine zR_s rfl ?_
        refine zR_get rfl rfl (zm0 h75) rfl ?_
        refine zR_ifne rfl rfl (fun _ => ?_) (fun c => absurd c (by decide))
        refine zR_s rfl ?_
        refine zR_get rfl rfl (zm0 h75) rfl ?_
        refine zR_ifne rfl rfl (fun _ => ?_) (fun c => absurd c (by decide))
        refine zR_s rfl ?_
        refine zR_get rfl rfl (zm0 h75) rfl ?_
        refine zR_ifle rfl rfl (fun c => absurd c (by decide)) (fun _ => ?_)
        refine zR_rete rfl rfl ?_ ?_
        all_goals (first | contradiction | (simp only [zOm, zHm, q_serial, kfA, c1, c2, c3, c4, if_true, if_false, not_true_eq_false, not_false_eq_true, and_self, and_true, true_and, or_true, true_or, or_false, false_or, and_false, false_and, reduceCtorEq, Bool.false_eq_true, Bool.true_eq_false, ite_self, eq_self]; done) | (simp only [zOm, zHm, q_serial, kfA, c1, c2, c3, c4, if_true, if_false, not_true_eq_false, not_false_eq_true, and_self, and_true, true_and, or_true, true_or, or_false, false_or, and_false, false_and, reduceCtorEq, Bool.false_eq_true, Bool.true_eq_false, ite_self, eq_self]; done))
    · refine zR_s rfl ?_
      refine zR_get rfl rfl (zm0 h75) rfl ?_
      refine zR_s rfl ?_
      refine zR_ildMG 4 rfl h75 (by decide) (hj2) ?_
      refine zR_cst (v := 1) rfl rfl rfl ?_
      refine zR_mgt rfl rfl (fun c4 => ?_) (fun c4 => ?_)
      · try replace c4 := i_z2 c4
        refine zR_s rfl ?_
        refine zR_cst (v := 3) rfl rfl rfl ?_
        refine zR_putC rfl rfl h75 rfl ?_
        refine zR_cst (v := 0) rfl rfl rfl ?_
        refine zR_s rfl ?_
        refine zR_s rfl ?_
        refine zR_s rfl ?_
        refine zR_get rfl rfl (zm0 h75) rfl ?_
        refine zR_icge rfl rfl (fun c5 => ?_) (fun c5 => ?_)
        · refine zR_s rfl ?_
          refine zR_get rfl rfl (zm0 h75) rfl ?_
          refine zR_ifne rfl rfl (fun _ => ?_) (fun c => absurd c (by decide))
          refine zR_s rfl ?_
          refine zR_get rfl rfl (zm0 h75) rfl ?_
          refine zR_ifle rfl rfl (fun c => absurd c (by decide)) (fun _ => ?_)
          refine zR_rete rfl rfl ?_ ?_
          all_goals (first | contradiction | (simp only [zOm, zHm, q_serial, kfA, c1, c2, c3, c4, c5, if_true, if_false, not_true_eq_false, not_false_eq_true, and_self, and_true, true_and, or_true, true_or, or_false, false_or, and_false, false_and, reduceCtorEq, Bool.false_eq_true, Bool.true_eq_false, ite_self, eq_self]; done) | (simp only [zOm, zHm, q_serial, kfA, c1, c2, c3, c4, c5, if_true, if_false, not_true_eq_false, not_false_eq_true, and_self, and_true, true_and, or_true, true_or, or_false, false_or, and_false, false_and, reduceCtorEq, Bool.false_eq_true, Bool.true_eq_false, ite_self, eq_self]; done))
        · refine zR_s rfl ?_
          refine zR_get rfl rfl (zm0 h75) rfl ?_
          refine zR_ifne rfl rfl (fun _ => ?_) (fun c => absurd c (by decide))
          refine zR_s rfl ?_
          refine zR_get rfl rfl (zm0 h75) rfl ?_
          refine zR_ifne rfl rfl (fun _ => ?_) (fun c => absurd c (by decide))
          refine zR_s rfl ?_
          refine zR_get rfl rfl (zm0 h75) rfl ?_
          refine zR_ifle rfl rfl (fun c => absurd c (by decide)) (fun _ => ?_)
          refine zR_rete rfl rfl ?_ ?_
          all_goals (first | contradiction | (simp only [zOm, zHm, q_serial, kfA, c1, c2, c3, c4, c5, if_true, if_false, not_true_eq_false, not_false_eq_true, and_self, and_true, true_and, or_true, true_or, or_false, false_or, and_false, false_and, reduceCtorEq, Bool.false_eq_true, Bool.true_eq_false, ite_self, eq_self]; done) | (simp only [zOm, zHm, q_serial, kfA, c1, c2, c3, c4, c5, if_true, if_false, not_true_eq_false, not_false_eq_true, and_self, and_true, true_and, or_true, true_or, or_false, false_or, and_false, false_and, reduceCtorEq, Bool.false_eq_true, Bool.true_eq_false, ite_self, eq_self]; done))
      · refine zR_s rfl ?_
        refine zR_get rfl rfl (zm0 h75) rfl ?_
        refine zR_s rfl ?_
        refine zR_lldMZ rfl h75 (hj2) ?_
        refine zR_lc (v := 0) rfl rfl ?_
        refine zR_s rfl ?_
        refine zR_lle rfl rfl (fun c5 => ?_) (fun c5 => ?_)
        · refine zR_cst (v := 0) rfl rfl rfl ?_
          refine zR_s rfl ?_
          exact tail c2 c3 c4 (i_z1 hz0 c5)
        · try replace c5 := i_z2 c5
          refine zR_s rfl ?_
          refine zR_cst (v := 3) rfl rfl rfl ?_
          refine zR_putC rfl rfl h75 rfl ?_
          refine zR_cst (v := 0) rfl rfl rfl ?_
          refine zR_s rfl ?_
          refine zR_s rfl ?_
          refine zR_s rfl ?_
          refine zR_get rfl rfl (zm0 h75) rfl ?_
          refine zR_icge rfl rfl (fun c6 => ?_) (fun c6 => ?_)
          · refine zR_s rfl ?_
            refine zR_get rfl rfl (zm0 h75) rfl ?_
            refine zR_ifne rfl rfl (fun _ => ?_) (fun c => absurd c (by decide))
            refine zR_s rfl ?_
            refine zR_get rfl rfl (zm0 h75) rfl ?_
            refine zR_ifle rfl rfl (fun c => absurd c (by decide)) (fun _ => ?_)
            refine zR_rete rfl rfl ?_ ?_
            all_goals (first | contradiction | (simp only [zOm, zHm, q_serial, kfA, c1, c2, c3, c4, c5, c6, if_true, if_false, not_true_eq_false, not_false_eq_true, and_self, and_true, true_and, or_true, true_or, or_false, false_or, and_false, false_and, reduceCtorEq, Bool.false_eq_true, Bool.true_eq_false, ite_self, eq_self]; done) | (simp only [zOm, zHm, q_serial, kfA, c1, c2, c3, c4, c5, c6, if_true, if_false, not_true_eq_false, not_false_eq_true, and_self, and_true, true_and, or_true, true_or, or_false, false_or, and_false, false_and, reduceCtorEq, Bool.false_eq_true, Bool.true_eq_false, ite_self, eq_self]; done))
          · refine zR_s rfl ?_
            refine zR_get rfl rfl (zm0 h75) rfl ?_
            refine zR_ifne rfl rfl (fun _ => ?_) (fun c => absurd c (by decide))
            refine zR_s rfl ?_
            refine zR_get rfl rfl (zm0 h75) rfl ?_
            refine zR_ifne rfl rfl (fun _ => ?_) (fun c => absurd c (by decide))
            refine zR_s rfl ?_
            refine zR_get rfl rfl (zm0 h75) rfl ?_
            refine zR_ifle rfl rfl (fun c => absurd c (by decide)) (fun _ => ?_)
            refine zR_rete rfl rfl ?_ ?_
            all_goals (first | contradiction | (simp only [zOm, zHm, q_serial, kfA, c1, c2, c3, c4, c5, c6, if_true, if_false, not_true_eq_false, not_false_eq_true, and_self, and_true, true_and, or_true, true_or, or_false, false_or, and_false, false_and, reduceCtorEq, Bool.false_eq_true, Bool.true_eq_false, ite_self, eq_self]; done) | (simp only [zOm, zHm, q_serial, kfA, c1, c2, c3, c4, c5, c6, if_true, if_false, not_true_eq_false, not_false_eq_true, and_self, and_true, true_and, or_true, true_or, or_false, false_or, and_false, false_and, reduceCtorEq, Bool.false_eq_true, Bool.true_eq_false, ite_self, eq_self]; done))
  · refine zR_cst (v := 2) rfl rfl rfl ?_
    refine zR_s rfl ?_
    refine zR_putC rfl rfl h75 rfl ?_
    refine zR_s rfl ?_
    refine zR_get rfl rfl (zm0 h75) rfl ?_
    refine zR_ifne rfl rfl (fun _ => ?_) (fun c => absurd c (by decide))
    refine zR_cst (v := 0) rfl rfl rfl ?_
    refine zR_s rfl ?_
    refine zR_s rfl ?_
    refine zR_s rfl ?_
    refine zR_get rfl rfl (zm0 h75) rfl ?_
    refine zR_icge rfl rfl (fun c3 => ?_) (fun c3 => ?_)
    · refine zR_s rfl ?_
      refine zR_get rfl rfl (zm0 h75) rfl ?_
      refine zR_ifne rfl rfl (fun _ => ?_) (fun c => absurd c (by decide))
      refine zR_s rfl ?_
      refine zR_get rfl rfl (zm0 h75) rfl ?_
      refine zR_ifle rfl rfl (fun c => absurd c (by decide)) (fun _ => ?_)
      refine zR_rete rfl rfl ?_ ?_
      all_goals (first | contradiction | (simp only [zOm, zHm, q_serial, kfA, c1, c2, c3, if_true, if_false, not_true_eq_false, not_false_eq_true, and_self, and_true, true_and, or_true, true_or, or_false, false_or, and_false, false_and, reduceCtorEq, Bool.false_eq_true, Bool.true_eq_false, ite_self, eq_self]; done) | (simp only [zOm, zHm, q_serial, kfA, c1, c2, c3, if_true, if_false, not_true_eq_false, not_false_eq_true, and_self, and_true, true_and, or_true, true_or, or_false, false_or, and_false, false_and, reduceCtorEq, Bool.false_eq_true, Bool.true_eq_false, ite_self, eq_self]; done))
    · refine zR_s rfl ?_
      refine zR_get rfl rfl (zm0 h75) rfl ?_
      refine zR_ifne rfl rfl (fun _ => ?_) (fun c => absurd c (by decide))
      refine zR_s rfl ?_
      refine zR_get rfl rfl (zm0 h75) rfl ?_
      refine zR_ifne rfl rfl (fun _ => ?_) (fun c => absurd c (by decide))
      refine zR_s rfl ?_
      refine zR_get rfl rfl (zm0 h75) rfl ?_
      refine zR_ifle rfl rfl (fun c => absurd c (by decide)) (fun _ => ?_)
      refine zR_rete rfl rfl ?_ ?_
      all_goals (first | contradiction | (simp only [zOm, zHm, q_serial, kfA, c1, c2, c3, if_true, if_false, not_true_eq_false, not_false_eq_true, and_self, and_true, true_and, or_true, true_or, or_false, false_or, and_false, false_and, reduceCtorEq, Bool.false_eq_true, Bool.true_eq_false, ite_self, eq_self]; done) | (simp only [zOm, zHm, q_serial, kfA, c1, c2, c3, if_true, if_false, not_true_eq_false, not_false_eq_true, and_self, and_true, true_and, or_true, true_or, or_false, false_or, and_false, false_and, reduceCtorEq, Bool.false_eq_true, Bool.true_eq_false, ite_self, eq_self]; done))
end ZMD
