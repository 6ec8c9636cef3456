/-! count, as the law calls it -/
section ZCT
variable {sL : Nat} {sx : Nat → Int32} {N : Nat → Int32} {F G : Nat → Nat → Int32} {K : Nat → Option Nat} {Z : Nat → Int64} {tl : zH} {M : Nat}
theorem c_count2 {w : Int32} (hM : N 1 = nI M) (hm : M ≤ 64) : zMe sL sx 11 41 [.ref 0, .int w] (zCs N F G K Z ++ tl) (.returned (some (.int (q_count N G M w)))) (zCs N F G K Z ++ tl) := by
  rcases zswc w 4 (by omega) with hw | ⟨k, hk, rfl⟩
  · have n0 : ¬ w = 0 := by rintro rfl; simp at hw
    have n1 : ¬ w = 1 := by rintro rfl; simp at hw
    have n2 : ¬ w = 2 := by rintro rfl; simp at hw
    have n3 : ¬ w = 3 := by rintro rfl; simp at hw
    have n4 : ¬ w = 4 := by rintro rfl; simp at hw
    show zR sL sx _ 41 0 [.ref 0, .int w] [] _ _ _
    refine zR_s rfl ?_
    refine zR_sw (tgt := 64) rfl (zsw_d hw) ?_
    rw [q_count, if_neg n0, if_neg n1, if_neg n2, if_neg n3, if_neg n4]
    refine zR_cst (v := (-1)) rfl rfl rfl ?_
    first | refine zR_rete rfl rfl ?_ ?_ | refine zR_retb rfl rfl ?_ ?_
    all_goals (first | rfl | simp [bI, *])
  · show zR sL sx _ 41 0 [.ref 0, .int (nI k)] [] _ _ _
    refine zR_s rfl ?_
    rcases (show k = 0 ∨ k = 1 ∨ k = 2 ∨ k = 3 ∨ k = 4 by omega) with rfl | rfl | rfl | rfl | rfl
    · refine zR_sw (tgt := 36) rfl rfl ?_
      refine zR_s rfl ?_
      refine zR_get rfl rfl (zc0) rfl ?_
      first | refine zR_rete rfl rfl ?_ ?_ | refine zR_retb rfl rfl ?_ ?_
      all_goals (first | rfl | simp [bI, *])
    · refine zR_sw (tgt := 41) rfl rfl ?_
      refine zR_s rfl ?_
      refine zR_call rfl rfl rfl rfl (zcallok_v (zc0) rfl rfl) (m_unitsStanding hM hm) ?_
      first | refine zR_rete rfl rfl ?_ ?_ | refine zR_retb rfl rfl ?_ ?_
      all_goals (first | rfl | simp [bI, *])
    · refine zR_sw (tgt := 46) rfl rfl ?_
      refine zR_s rfl ?_
      refine zR_get rfl rfl (zc0) rfl ?_
      first | refine zR_rete rfl rfl ?_ ?_ | refine zR_retb rfl rfl ?_ ?_
      all_goals (first | rfl | simp [bI, *])
    · refine zR_sw (tgt := 51) rfl rfl ?_
      refine zR_s rfl ?_
      first | refine zR_get rfl rfl (zc0) rfl ?_ | refine zR_get rfl rfl (zc6) rfl ?_
      first | refine zR_get rfl rfl (zc0) rfl ?_ | refine zR_get rfl rfl (zc6) rfl ?_
      first | refine zR_rete rfl rfl ?_ ?_ | refine zR_retb rfl rfl ?_ ?_
      all_goals (first | rfl | simp [bI, *])
    · refine zR_sw (tgt := 59) rfl rfl ?_
      refine zR_s rfl ?_
      refine zR_get rfl rfl (zc0) rfl ?_
      first | refine zR_rete rfl rfl ?_ ?_ | refine zR_retb rfl rfl ?_ ?_
      all_goals (first | rfl | simp [bI, *])
end ZCT
