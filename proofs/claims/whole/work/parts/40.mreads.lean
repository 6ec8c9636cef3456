/-! the reference's row, told, packed, count -/
section ZMF
variable {sL : Nat} {sx : Nat → Int32} {d : Nat} {h : zH}
variable {N N' : Nat → Int32} {F F' G G' : Nat → Nat → Int32} {K : Nat → Option Nat} {H : Nat → Int32} {Z : Nat → Int64} {c : Int32} {B : Nat → Int32} {hc t : zH} {M A l R u i : Nat}
theorem d_row {j : Nat} {i w : Int32} (h75 : hc.length = 75) (hI : zInv N F G K Z M A l R) (hH : zHK M K H) (hj : j < M) : zMe sL sx 11 97 [.ref 75, .int (nI j), .int i, .int w] (hc ++ (zMd N F G H Z c B ++ t)) (zOm (some (.int 0)) (q_row N F G K Z A j i w)) (zHm kfW hc t N F G H Z B H B (q_row N F G K Z A j i w)) := by
  have hA := hI.2.2.1
  have hM := i_m1 hI
  have hm := i_m hI
  have hj2 : j < 64 := by omega
  have fin : ∀ x y, zR sL sx 11 97 62 [.ref 75, .int (nI j), .int i, .int w, .int (zsk (zfst (zqR F j) i A)), .int x, .int y] [] (hc ++ (zMd N F G H Z c B ++ t)) (zOm (some (.int 0)) (q_row N F G K Z A j i w)) (zHm kfW hc t N F G H Z B H B (q_row N F G K Z A j i w)) := by
    intro x y
    cases hz : zfst (zqR F j) i A with
    | none =>
      refine zR_s rfl ?_
      refine zR_s rfl ?_
      refine zR_cst (v := (-1)) rfl rfl rfl ?_
      refine zR_icne rfl rfl (fun c => by first | exact absurd c ((show zsk none = -1 from rfl)) | exact absurd ((show zsk none = -1 from rfl)) c) (fun _ => ?_)
      refine zR_cst (v := 1) rfl rfl rfl ?_
      refine zR_s rfl ?_
      refine zR_putC rfl rfl h75 rfl ?_
      refine zR_s rfl ?_
      refine zR_get rfl rfl (zm0 h75) rfl ?_
      refine zR_ifle rfl rfl (fun c => absurd c (by decide)) (fun _ => ?_)
      refine zR_cst (v := 0) rfl rfl rfl ?_
      first | refine zR_rete rfl rfl ?_ ?_ | refine zR_retb rfl rfl ?_ ?_
      all_goals (simp only [zOm, zHm, kfW, q_row, hz])
    | some r =>
      have hr := (zfst_lt hz).1
      rw [show zsk (some r) = nI r from rfl]
      refine zR_s rfl ?_
      refine zR_s rfl ?_
      refine zR_cst (v := (-1)) rfl rfl rfl ?_
      refine zR_icne rfl rfl (fun _ => ?_) (fun c => by first | exact absurd ((zsk_ne (c := r) (by omega))) c | exact absurd c ((zsk_ne (c := r) (by omega))))
      refine zR_s rfl ?_
      refine zR_s rfl ?_
      refine zR_lc (v := 0) rfl rfl ?_
      refine zR_ldc2 (v := 2) rfl rfl ?_
      refine zR_call rfl rfl rfl rfl (zcallok_s rfl) (m_in (b := 0) (c := 2)) ?_
      first | refine zR_dt rfl rfl (fun c1 => ?_) (fun c1 => ?_) | refine zR_bt rfl rfl (fun c1 => ?_) (fun c1 => ?_) | refine zR_ifne rfl rfl (fun c1 => ?_) (fun c1 => ?_)
      · refine zR_cst (v := 0) rfl rfl rfl ?_
        refine zR_putC rfl rfl h75 rfl ?_
        refine zR_s rfl ?_
        refine zR_get rfl rfl (zm0 h75) rfl ?_
        refine zR_ifle rfl rfl (fun _ => ?_) (fun c => absurd c (by decide))
        refine zR_s rfl ?_
        first | refine zR_dt rfl rfl (fun c2 => ?_) (fun c2 => ?_) | refine zR_bt rfl rfl (fun c2 => ?_) (fun c2 => ?_) | refine zR_ifne rfl rfl (fun c2 => ?_) (fun c2 => ?_)
        · refine zR_s rfl ?_
          refine zR_cst (v := 1) rfl rfl rfl ?_
          refine zR_icne rfl rfl (fun c3 => ?_) (fun c3 => ?_)
          · refine zR_s rfl ?_
            refine zR_get rfl rfl (zm0 h75) rfl ?_
            refine zR_s rfl ?_
            refine zR_ildMF 7 rfl h75 (by decide) ((show r < 400 by omega)) ?_
            first | refine zR_rete rfl rfl ?_ ?_ | refine zR_retb rfl rfl ?_ ?_
            all_goals (first | (simp only [zOm, zHm, kfW, q_row, hz, if_pos c1, if_pos c2]; done) | (simp only [zOm, zHm, kfW, q_row, hz, if_pos c1, if_neg c2, if_pos c3]; done) | (simp only [zOm, zHm, kfW, q_row, hz, if_pos c1, if_neg c2, if_neg c3]; done) | (simp only [zOm, zHm, kfW, q_row, hz, if_neg c1]; done))
          · refine zR_s rfl ?_
            refine zR_get rfl rfl (zm0 h75) rfl ?_
            refine zR_s rfl ?_
            refine zR_ildMF 6 rfl h75 (by decide) ((show r < 400 by omega)) ?_
            refine zR_s rfl ?_
            first | refine zR_rete rfl rfl ?_ ?_ | refine zR_retb rfl rfl ?_ ?_
            all_goals (first | (simp only [zOm, zHm, kfW, q_row, hz, if_pos c1, if_pos c2]; done) | (simp only [zOm, zHm, kfW, q_row, hz, if_pos c1, if_neg c2, if_pos c3]; done) | (simp only [zOm, zHm, kfW, q_row, hz, if_pos c1, if_neg c2, if_neg c3]; done) | (simp only [zOm, zHm, kfW, q_row, hz, if_neg c1]; done))
        · refine zR_s rfl ?_
          refine zR_get rfl rfl (zm0 h75) rfl ?_
          refine zR_s rfl ?_
          refine zR_ildMF 5 rfl h75 (by decide) ((show r < 400 by omega)) ?_
          refine zR_s rfl ?_
          first | refine zR_rete rfl rfl ?_ ?_ | refine zR_retb rfl rfl ?_ ?_
          all_goals (first | (simp only [zOm, zHm, kfW, q_row, hz, if_pos c1, if_pos c2]; done) | (simp only [zOm, zHm, kfW, q_row, hz, if_pos c1, if_neg c2, if_pos c3]; done) | (simp only [zOm, zHm, kfW, q_row, hz, if_pos c1, if_neg c2, if_neg c3]; done) | (simp only [zOm, zHm, kfW, q_row, hz, if_neg c1]; done))
      · refine zR_cst (v := 2) rfl rfl rfl ?_
        refine zR_s rfl ?_
        refine zR_putC rfl rfl h75 rfl ?_
        refine zR_s rfl ?_
        refine zR_get rfl rfl (zm0 h75) rfl ?_
        refine zR_ifle rfl rfl (fun c => absurd c (by decide)) (fun _ => ?_)
        refine zR_cst (v := 0) rfl rfl rfl ?_
        first | refine zR_rete rfl rfl ?_ ?_ | refine zR_retb rfl rfl ?_ ?_
        all_goals (first | (simp only [zOm, zHm, kfW, q_row, hz, if_pos c1, if_pos c2]; done) | (simp only [zOm, zHm, kfW, q_row, hz, if_pos c1, if_neg c2, if_pos c3]; done) | (simp only [zOm, zHm, kfW, q_row, hz, if_pos c1, if_neg c2, if_neg c3]; done) | (simp only [zOm, zHm, kfW, q_row, hz, if_neg c1]; done))
  by_cases hi : 0 ≤ i
  · show zR sL sx _ 97 0 [.ref 75, .int (nI j), .int i, .int w, .retAddr 0, .retAddr 0, .retAddr 0] [] _ _ _
    refine zR_cst (v := (-1)) rfl rfl rfl ?_
    refine zR_s rfl ?_
    refine zR_s rfl ?_
    refine zR_s rfl ?_
    refine zR_cst (v := 0) rfl rfl rfl ?_
    refine zR_s rfl ?_
    skip
    refine zR_loop0 (M := A) (fun k => [.ref 75, .int (nI j), .int i, .int w, .int (zsk (zfst (zqR F j) i k)), .int (i - nI (zcnt (zqR F j) k)), .int (nI k)]) (fun k => (hc ++ (zMd N F G H Z c B ++ t))) (fun k => True) (by simp only [zcnt, i32_s0]; rfl) rfl trivial (fun hX => ?_) (fun k hk hX ih => ?_)
    · refine zR_s rfl ?_
      refine zR_s rfl ?_
      refine zR_get rfl rfl (zm0 h75) rfl ?_
      refine zR_icge rfl rfl (fun _ => ?_) (fun c => by first | exact absurd ((by rw [hA.1]; exact Int32.le_refl _)) c | exact absurd c ((by rw [hA.1]; exact Int32.le_refl _)))
      exact fin _ _
    · have w2 := ih trivial
      have x1 : ¬ F 4 k = nI j → zqR F j k = false := fun q => decide_eq_false q
      have x2 : F 4 k = nI j → zqR F j k = true := fun q => decide_eq_true q
      refine zR_s rfl ?_
      refine zR_s rfl ?_
      refine zR_get rfl rfl (zm0 h75) rfl ?_
      refine zR_icge rfl rfl (fun c => by first | exact absurd c ((by rw [hA.1]; exact nI_ge hk (by omega))) | exact absurd ((by rw [hA.1]; exact nI_ge hk (by omega))) c) (fun _ => ?_)
      refine zR_s rfl ?_
      refine zR_s rfl ?_
      refine zR_call rfl rfl rfl rfl (zcallok_v (zm0 h75) rfl rfl) (m_isUnit h75) ?_
      first | refine zR_df rfl rfl (fun c1 => absurd (i_v hI hj) c1) (fun c1 => ?_) | refine zR_bf rfl rfl (fun c1 => absurd (i_v hI hj) c1) (fun c1 => ?_) | refine zR_ifeq rfl rfl (fun c1 => absurd (i_v hI hj) c1) (fun c1 => ?_)
      refine zR_s rfl ?_
      refine zR_nlt rfl rfl (fun c => by first | exact absurd c ((show ¬ ¬ 0 ≤ i from fun q => q hi)) | exact absurd ((show ¬ ¬ 0 ≤ i from fun q => q hi)) c) (fun _ => ?_)
      refine zR_s rfl ?_
      refine zR_get rfl rfl (zm0 h75) rfl ?_
      refine zR_s rfl ?_
      refine zR_ildMF 4 rfl h75 (by decide) ((show k < 400 by omega)) ?_
      refine zR_s rfl ?_
      refine zR_iceq rfl rfl (fun c2 => ?_) (fun c2 => ?_)
      · refine zR_s rfl ?_
        first | refine zR_dt rfl rfl (fun c3 => ?_) (fun c3 => ?_) | refine zR_bt rfl rfl (fun c3 => ?_) (fun c3 => ?_) | refine zR_ifne rfl rfl (fun c3 => ?_) (fun c3 => ?_)
        · refine zR_s rfl ?_
          first | refine zR_incn rfl rfl rfl ?_ | refine zR_incn rfl rfl rfl ?_ | refine zR_s rfl ?_
          refine zR_goto rfl rfl ?_
          first | (rw [zcnt_f (x1 c2), zfst_s (Or.inl (x1 c2))] at w2; exact w2) | (rw [zcnt_t (x2 c2), zfst_s (Or.inr (fun q => c3 (i32_sz.mpr q))), ← i32_dec] at w2; exact w2) | (rw [zcnt_t (x2 c2), zfst_t (M := k + 1) (zfst_u (show k < 1000 by omega) (i32_sz.mp c3)) (x2 c2) (i32_sz.mp c3) (by omega), ← i32_dec] at w2; exact w2)
        · refine zR_s rfl ?_
          refine zR_s rfl ?_
          refine zR_s rfl ?_
          first | refine zR_incn rfl rfl rfl ?_ | refine zR_incn rfl rfl rfl ?_ | refine zR_s rfl ?_
          refine zR_goto rfl rfl ?_
          first | (rw [zcnt_f (x1 c2), zfst_s (Or.inl (x1 c2))] at w2; exact w2) | (rw [zcnt_t (x2 c2), zfst_s (Or.inr (fun q => c3 (i32_sz.mpr q))), ← i32_dec] at w2; exact w2) | (rw [zcnt_t (x2 c2), zfst_t (M := k + 1) (zfst_u (show k < 1000 by omega) (i32_sz.mp c3)) (x2 c2) (i32_sz.mp c3) (by omega), ← i32_dec] at w2; exact w2)
      · refine zR_s rfl ?_
        first | refine zR_incn rfl rfl rfl ?_ | refine zR_incn rfl rfl rfl ?_ | refine zR_s rfl ?_
        refine zR_goto rfl rfl ?_
        first | (rw [zcnt_f (x1 c2), zfst_s (Or.inl (x1 c2))] at w2; exact w2) | (rw [zcnt_t (x2 c2), zfst_s (Or.inr (fun q => c3 (i32_sz.mpr q))), ← i32_dec] at w2; exact w2) | (rw [zcnt_t (x2 c2), zfst_t (M := k + 1) (zfst_u (show k < 1000 by omega) (i32_sz.mp c3)) (x2 c2) (i32_sz.mp c3) (by omega), ← i32_dec] at w2; exact w2)
  · have hz : zfst (zqR F j) i A = none := zfst_neg hi A (by omega)
    have f2 := fin
    rw [hz] at f2
    show zR sL sx _ 97 0 [.ref 75, .int (nI j), .int i, .int w, .retAddr 0, .retAddr 0, .retAddr 0] [] _ _ _
    refine zR_cst (v := (-1)) rfl rfl rfl ?_
    refine zR_s rfl ?_
    refine zR_s rfl ?_
    refine zR_s rfl ?_
    refine zR_cst (v := 0) rfl rfl rfl ?_
    refine zR_s rfl ?_
    refine zR_s rfl ?_
    refine zR_s rfl ?_
    refine zR_get rfl rfl (zm0 h75) rfl ?_
    refine zR_icge rfl rfl (fun c1 => ?_) (fun c1 => ?_)
    · exact f2 _ _
    · refine zR_s rfl ?_
      refine zR_s rfl ?_
      refine zR_call rfl rfl rfl rfl (zcallok_v (zm0 h75) rfl rfl) (m_isUnit h75) ?_
      first | refine zR_df rfl rfl (fun c2 => absurd (i_v hI hj) c2) (fun c2 => ?_) | refine zR_bf rfl rfl (fun c2 => absurd (i_v hI hj) c2) (fun c2 => ?_) | refine zR_ifeq rfl rfl (fun c2 => absurd (i_v hI hj) c2) (fun c2 => ?_)
      refine zR_s rfl ?_
      refine zR_nlt rfl rfl (fun _ => ?_) (fun c => by first | exact absurd (hi) c | exact absurd c (hi))
      exact f2 _ _
theorem d_told_bad {j : Nat} {w : Int32} (h75 : hc.length = 75) (hI : zInv N F G K Z M A l R) (hH : zHK M K H) (hj : j < M) (hw : w.toInt < 0 ∨ 7 < w.toInt) : zMe sL sx 11 98 [.ref 75, .int (nI j), .int w] (hc ++ (zMd N F G H Z c B ++ t)) (.returned (some (.int 0))) (hc ++ (zMd N F G H Z 2 B ++ t)) := by
  have hno : ¬ (0 ≤ w ∧ w ≤ 7) := by
    rintro ⟨q1, q2⟩
    rw [Int32.le_iff_toInt_le] at q1 q2
    simp at q1 q2
    omega
  show zR sL sx _ 98 0 [.ref 75, .int (nI j), .int w] [] _ _ _
  refine zR_s rfl ?_
  refine zR_s rfl ?_
  refine zR_s rfl ?_
  refine zR_call rfl rfl rfl rfl (zcallok_v (zm0 h75) rfl rfl) (m_isUnit h75) ?_
  first | refine zR_dt rfl rfl (fun c1 => ?_) (fun c1 => absurd (i_v hI hj) c1) | refine zR_bt rfl rfl (fun c1 => ?_) (fun c1 => absurd (i_v hI hj) c1) | refine zR_ifne rfl rfl (fun c1 => ?_) (fun c1 => absurd (i_v hI hj) c1)
  refine zR_s rfl ?_
  refine zR_s rfl ?_
  refine zR_lc (v := 0) rfl rfl ?_
  refine zR_ldc2 (v := 7) rfl rfl ?_
  refine zR_call rfl rfl rfl rfl (zcallok_s rfl) (m_in (b := 0) (c := 7)) ?_
  first | refine zR_dt rfl rfl (fun c2 => absurd c2 hno) (fun c2 => ?_) | refine zR_bt rfl rfl (fun c2 => absurd c2 hno) (fun c2 => ?_) | refine zR_ifne rfl rfl (fun c2 => absurd c2 hno) (fun c2 => ?_)
  refine zR_cst (v := 2) rfl rfl rfl ?_
  refine zR_s rfl ?_
  refine zR_putC rfl rfl h75 rfl ?_
  refine zR_s rfl ?_
  refine zR_get rfl rfl (zm0 h75) rfl ?_
  refine zR_ifle rfl rfl (fun c => absurd c (by decide)) (fun _ => ?_)
  refine zR_cst (v := 0) rfl rfl rfl ?_
  first | refine zR_rete rfl rfl ?_ ?_ | refine zR_retb rfl rfl ?_ ?_
  all_goals (rfl)
theorem d_told {j k : Nat} (h75 : hc.length = 75) (hI : zInv N F G K Z M A l R) (hH : zHK M K H) (hj : j < M) (hk : k ≤ 7) : zMe sL sx 11 98 [.ref 75, .int (nI j), .int (nI k)] (hc ++ (zMd N F G H Z c B ++ t)) (.returned (some (.int (q_told G K M j k)))) (hc ++ (zMd N F G H Z 0 B ++ t)) := by
  have hM := i_m1 hI
  have hm := i_m hI
  have hj2 : j < 64 := by omega
  have hin : 0 ≤ nI k ∧ nI k ≤ 7 := ⟨nI_pos' (by omega), nI_le (b := 7) (by omega) (by omega)⟩
  show zR sL sx _ 98 0 [.ref 75, .int (nI j), .int (nI k)] [] _ _ _
  refine zR_s rfl ?_
  refine zR_s rfl ?_
  refine zR_s rfl ?_
  refine zR_call rfl rfl rfl rfl (zcallok_v (zm0 h75) rfl rfl) (m_isUnit h75) ?_
  first | refine zR_dt rfl rfl (fun c1 => ?_) (fun c1 => absurd (i_v hI hj) c1) | refine zR_bt rfl rfl (fun c1 => ?_) (fun c1 => absurd (i_v hI hj) c1) | refine zR_ifne rfl rfl (fun c1 => ?_) (fun c1 => absurd (i_v hI hj) c1)
  refine zR_s rfl ?_
  refine zR_s rfl ?_
  refine zR_lc (v := 0) rfl rfl ?_
  refine zR_ldc2 (v := 7) rfl rfl ?_
  refine zR_call rfl rfl rfl rfl (zcallok_s rfl) (m_in (b := 0) (c := 7)) ?_
  first | refine zR_dt rfl rfl (fun c2 => ?_) (fun c2 => absurd hin c2) | refine zR_bt rfl rfl (fun c2 => ?_) (fun c2 => absurd hin c2) | refine zR_ifne rfl rfl (fun c2 => ?_) (fun c2 => absurd hin c2)
  refine zR_cst (v := 0) rfl rfl rfl ?_
  refine zR_putC rfl rfl h75 rfl ?_
  refine zR_s rfl ?_
  refine zR_get rfl rfl (zm0 h75) rfl ?_
  refine zR_ifle rfl rfl (fun _ => ?_) (fun c => absurd c (by decide))
  skip
  rcases (show k = 0 ∨ k = 1 ∨ k = 2 ∨ k = 3 ∨ k = 4 ∨ k = 5 ∨ k = 6 ∨ k = 7 by omega) with rfl | rfl | rfl | rfl | rfl | rfl | rfl | rfl
  · refine zR_s rfl ?_
    refine zR_ifne rfl rfl (fun c => by first | exact absurd c ((show nI 0 = 0 by decide)) | exact absurd ((show nI 0 = 0 by decide)) c) (fun _ => ?_)
    refine zR_s rfl ?_
    refine zR_get rfl rfl (zm0 h75) rfl ?_
    refine zR_s rfl ?_
    refine zR_ildMG 5 rfl h75 (by decide) (hj2) ?_
    first | refine zR_rete rfl rfl ?_ ?_ | refine zR_retb rfl rfl ?_ ?_
    all_goals (rfl)
  · refine zR_s rfl ?_
    refine zR_ifne rfl rfl (fun _ => ?_) (fun c => by first | exact absurd ((show ¬ nI 1 = 0 by decide)) c | exact absurd c ((show ¬ nI 1 = 0 by decide)))
    refine zR_s rfl ?_
    refine zR_cst (v := 1) rfl rfl rfl ?_
    refine zR_icne rfl rfl (fun c => by first | exact absurd c ((show nI 1 = 1 by decide)) | exact absurd ((show nI 1 = 1 by decide)) c) (fun _ => ?_)
    refine zR_s rfl ?_
    refine zR_s rfl ?_
    refine zR_call rfl rfl rfl rfl (zcallok_v (zm0 h75) rfl rfl) (m_mstands h75 hj2) ?_
    refine zR_bf rfl rfl (fun c1 => ?_) (fun c1 => ?_)
    · refine zR_cst (v := (-1)) rfl rfl rfl ?_
      first | refine zR_rete rfl rfl ?_ ?_ | refine zR_retb rfl rfl ?_ ?_
      all_goals (first | rfl | (simp only [q_told, ((i_un hI hj).2.2.2.2.2.1 c1).1]; done))
    · refine zR_s rfl ?_
      refine zR_get rfl rfl (zm0 h75) rfl ?_
      refine zR_s rfl ?_
      refine zR_ildMG 6 rfl h75 (by decide) (hj2) ?_
      refine zR_s rfl ?_
      first | refine zR_rete rfl rfl ?_ ?_ | refine zR_retb rfl rfl ?_ ?_
      all_goals (first | rfl | (simp only [q_told, ((i_un hI hj).2.2.2.2.2.1 c1).1]; done))
  · refine zR_s rfl ?_
    refine zR_ifne rfl rfl (fun _ => ?_) (fun c => by first | exact absurd ((show ¬ nI 2 = 0 by decide)) c | exact absurd c ((show ¬ nI 2 = 0 by decide)))
    refine zR_s rfl ?_
    refine zR_cst (v := 1) rfl rfl rfl ?_
    refine zR_icne rfl rfl (fun _ => ?_) (fun c => by first | exact absurd ((show ¬ nI 2 = 1 by decide)) c | exact absurd c ((show ¬ nI 2 = 1 by decide)))
    refine zR_s rfl ?_
    refine zR_cst (v := 2) rfl rfl rfl ?_
    refine zR_icne rfl rfl (fun c => by first | exact absurd c ((show nI 2 = 2 by decide)) | exact absurd ((show nI 2 = 2 by decide)) c) (fun _ => ?_)
    refine zR_s rfl ?_
    refine zR_get rfl rfl (zm0 h75) rfl ?_
    refine zR_s rfl ?_
    refine zR_ildMH rfl h75 (hj2) ?_
    first | refine zR_rete rfl rfl ?_ ?_ | refine zR_retb rfl rfl ?_ ?_
    all_goals (first | rfl | (simp only [q_told, hH j hj]; done))
  · refine zR_s rfl ?_
    refine zR_ifne rfl rfl (fun _ => ?_) (fun c => by first | exact absurd ((show ¬ nI 3 = 0 by decide)) c | exact absurd c ((show ¬ nI 3 = 0 by decide)))
    refine zR_s rfl ?_
    refine zR_cst (v := 1) rfl rfl rfl ?_
    refine zR_icne rfl rfl (fun _ => ?_) (fun c => by first | exact absurd ((show ¬ nI 3 = 1 by decide)) c | exact absurd c ((show ¬ nI 3 = 1 by decide)))
    refine zR_s rfl ?_
    refine zR_cst (v := 2) rfl rfl rfl ?_
    refine zR_icne rfl rfl (fun _ => ?_) (fun c => by first | exact absurd ((show ¬ nI 3 = 2 by decide)) c | exact absurd c ((show ¬ nI 3 = 2 by decide)))
    refine zR_s rfl ?_
    refine zR_cst (v := 3) rfl rfl rfl ?_
    refine zR_icne rfl rfl (fun c => by first | exact absurd c ((show nI 3 = 3 by decide)) | exact absurd ((show nI 3 = 3 by decide)) c) (fun _ => ?_)
    refine zR_s rfl ?_
    refine zR_get rfl rfl (zm0 h75) rfl ?_
    refine zR_s rfl ?_
    refine zR_ildMG 4 rfl h75 (by decide) (hj2) ?_
    first | refine zR_rete rfl rfl ?_ ?_ | refine zR_retb rfl rfl ?_ ?_
    all_goals (rfl)
  · refine zR_s rfl ?_
    refine zR_ifne rfl rfl (fun _ => ?_) (fun c => by first | exact absurd ((show ¬ nI 4 = 0 by decide)) c | exact absurd c ((show ¬ nI 4 = 0 by decide)))
    refine zR_s rfl ?_
    refine zR_cst (v := 1) rfl rfl rfl ?_
    refine zR_icne rfl rfl (fun _ => ?_) (fun c => by first | exact absurd ((show ¬ nI 4 = 1 by decide)) c | exact absurd c ((show ¬ nI 4 = 1 by decide)))
    refine zR_s rfl ?_
    refine zR_cst (v := 2) rfl rfl rfl ?_
    refine zR_icne rfl rfl (fun _ => ?_) (fun c => by first | exact absurd ((show ¬ nI 4 = 2 by decide)) c | exact absurd c ((show ¬ nI 4 = 2 by decide)))
    refine zR_s rfl ?_
    refine zR_cst (v := 3) rfl rfl rfl ?_
    refine zR_icne rfl rfl (fun _ => ?_) (fun c => by first | exact absurd ((show ¬ nI 4 = 3 by decide)) c | exact absurd c ((show ¬ nI 4 = 3 by decide)))
    refine zR_s rfl ?_
    refine zR_cst (v := 4) rfl rfl rfl ?_
    refine zR_icne rfl rfl (fun c => by first | exact absurd c ((show nI 4 = 4 by decide)) | exact absurd ((show nI 4 = 4 by decide)) c) (fun _ => ?_)
    refine zR_s rfl ?_
    refine zR_get rfl rfl (zm0 h75) rfl ?_
    refine zR_s rfl ?_
    refine zR_ildMG 0 rfl h75 (by decide) (hj2) ?_
    first | refine zR_rete rfl rfl ?_ ?_ | refine zR_retb rfl rfl ?_ ?_
    all_goals (rfl)
  · refine zR_s rfl ?_
    refine zR_ifne rfl rfl (fun _ => ?_) (fun c => by first | exact absurd ((show ¬ nI 5 = 0 by decide)) c | exact absurd c ((show ¬ nI 5 = 0 by decide)))
    refine zR_s rfl ?_
    refine zR_cst (v := 1) rfl rfl rfl ?_
    refine zR_icne rfl rfl (fun _ => ?_) (fun c => by first | exact absurd ((show ¬ nI 5 = 1 by decide)) c | exact absurd c ((show ¬ nI 5 = 1 by decide)))
    refine zR_s rfl ?_
    refine zR_cst (v := 2) rfl rfl rfl ?_
    refine zR_icne rfl rfl (fun _ => ?_) (fun c => by first | exact absurd ((show ¬ nI 5 = 2 by decide)) c | exact absurd c ((show ¬ nI 5 = 2 by decide)))
    refine zR_s rfl ?_
    refine zR_cst (v := 3) rfl rfl rfl ?_
    refine zR_icne rfl rfl (fun _ => ?_) (fun c => by first | exact absurd ((show ¬ nI 5 = 3 by decide)) c | exact absurd c ((show ¬ nI 5 = 3 by decide)))
    refine zR_s rfl ?_
    refine zR_cst (v := 4) rfl rfl rfl ?_
    refine zR_icne rfl rfl (fun _ => ?_) (fun c => by first | exact absurd ((show ¬ nI 5 = 4 by decide)) c | exact absurd c ((show ¬ nI 5 = 4 by decide)))
    refine zR_s rfl ?_
    refine zR_cst (v := 5) rfl rfl rfl ?_
    refine zR_icne rfl rfl (fun c => by first | exact absurd c ((show nI 5 = 5 by decide)) | exact absurd ((show nI 5 = 5 by decide)) c) (fun _ => ?_)
    refine zR_s rfl ?_
    refine zR_get rfl rfl (zm0 h75) rfl ?_
    refine zR_s rfl ?_
    refine zR_ildMG 3 rfl h75 (by decide) (hj2) ?_
    first | refine zR_rete rfl rfl ?_ ?_ | refine zR_retb rfl rfl ?_ ?_
    all_goals (rfl)
  · refine zR_s rfl ?_
    refine zR_ifne rfl rfl (fun _ => ?_) (fun c => by first | exact absurd ((show ¬ nI 6 = 0 by decide)) c | exact absurd c ((show ¬ nI 6 = 0 by decide)))
    refine zR_s rfl ?_
    refine zR_cst (v := 1) rfl rfl rfl ?_
    refine zR_icne rfl rfl (fun _ => ?_) (fun c => by first | exact absurd ((show ¬ nI 6 = 1 by decide)) c | exact absurd c ((show ¬ nI 6 = 1 by decide)))
    refine zR_s rfl ?_
    refine zR_cst (v := 2) rfl rfl rfl ?_
    refine zR_icne rfl rfl (fun _ => ?_) (fun c => by first | exact absurd ((show ¬ nI 6 = 2 by decide)) c | exact absurd c ((show ¬ nI 6 = 2 by decide)))
    refine zR_s rfl ?_
    refine zR_cst (v := 3) rfl rfl rfl ?_
    refine zR_icne rfl rfl (fun _ => ?_) (fun c => by first | exact absurd ((show ¬ nI 6 = 3 by decide)) c | exact absurd c ((show ¬ nI 6 = 3 by decide)))
    refine zR_s rfl ?_
    refine zR_cst (v := 4) rfl rfl rfl ?_
    refine zR_icne rfl rfl (fun _ => ?_) (fun c => by first | exact absurd ((show ¬ nI 6 = 4 by decide)) c | exact absurd c ((show ¬ nI 6 = 4 by decide)))
    refine zR_s rfl ?_
    refine zR_cst (v := 5) rfl rfl rfl ?_
    refine zR_icne rfl rfl (fun _ => ?_) (fun c => by first | exact absurd ((show ¬ nI 6 = 5 by decide)) c | exact absurd c ((show ¬ nI 6 = 5 by decide)))
    refine zR_s rfl ?_
    refine zR_cst (v := 6) rfl rfl rfl ?_
    refine zR_icne rfl rfl (fun c => by first | exact absurd c ((show nI 6 = 6 by decide)) | exact absurd ((show nI 6 = 6 by decide)) c) (fun _ => ?_)
    refine zR_s rfl ?_
    refine zR_s rfl ?_
    refine zR_call rfl rfl rfl rfl (zcallok_v (zm0 h75) rfl rfl) (m_mstands h75 hj2) ?_
    refine zR_bf rfl rfl (fun c1 => ?_) (fun c1 => ?_)
    · refine zR_cst (v := 0) rfl rfl rfl ?_
      refine zR_s rfl ?_
      first | refine zR_rete rfl rfl ?_ ?_ | refine zR_retb rfl rfl ?_ ?_
      all_goals (first | rfl | (simp only [q_told, zdq_st c1]; done) | (simp only [q_told, zdq, c1, cond_false]; rfl))
    · refine zR_s rfl ?_
      refine zR_s rfl ?_
      refine zR_call rfl rfl rfl rfl (zcallok_v (zm0 h75) rfl rfl) (m_mdepth2 h75 hm hH (i_ch hI) hj) ?_
      refine zR_s rfl ?_
      first | refine zR_rete rfl rfl ?_ ?_ | refine zR_retb rfl rfl ?_ ?_
      all_goals (first | rfl | (simp only [q_told, zdq_st c1]; done) | (simp only [q_told, zdq, c1, cond_false]; rfl))
  · refine zR_s rfl ?_
    refine zR_ifne rfl rfl (fun _ => ?_) (fun c => by first | exact absurd ((show ¬ nI 7 = 0 by decide)) c | exact absurd c ((show ¬ nI 7 = 0 by decide)))
    refine zR_s rfl ?_
    refine zR_cst (v := 1) rfl rfl rfl ?_
    refine zR_icne rfl rfl (fun _ => ?_) (fun c => by first | exact absurd ((show ¬ nI 7 = 1 by decide)) c | exact absurd c ((show ¬ nI 7 = 1 by decide)))
    refine zR_s rfl ?_
    refine zR_cst (v := 2) rfl rfl rfl ?_
    refine zR_icne rfl rfl (fun _ => ?_) (fun c => by first | exact absurd ((show ¬ nI 7 = 2 by decide)) c | exact absurd c ((show ¬ nI 7 = 2 by decide)))
    refine zR_s rfl ?_
    refine zR_cst (v := 3) rfl rfl rfl ?_
    refine zR_icne rfl rfl (fun _ => ?_) (fun c => by first | exact absurd ((show ¬ nI 7 = 3 by decide)) c | exact absurd c ((show ¬ nI 7 = 3 by decide)))
    refine zR_s rfl ?_
    refine zR_cst (v := 4) rfl rfl rfl ?_
    refine zR_icne rfl rfl (fun _ => ?_) (fun c => by first | exact absurd ((show ¬ nI 7 = 4 by decide)) c | exact absurd c ((show ¬ nI 7 = 4 by decide)))
    refine zR_s rfl ?_
    refine zR_cst (v := 5) rfl rfl rfl ?_
    refine zR_icne rfl rfl (fun _ => ?_) (fun c => by first | exact absurd ((show ¬ nI 7 = 5 by decide)) c | exact absurd c ((show ¬ nI 7 = 5 by decide)))
    refine zR_s rfl ?_
    refine zR_cst (v := 6) rfl rfl rfl ?_
    refine zR_icne rfl rfl (fun _ => ?_) (fun c => by first | exact absurd ((show ¬ nI 7 = 6 by decide)) c | exact absurd c ((show ¬ nI 7 = 6 by decide)))
    refine zR_s rfl ?_
    refine zR_s rfl ?_
    refine zR_call rfl rfl rfl rfl (zcallok_v (zm0 h75) rfl rfl) (m_load h75 hM hm hH (i_ch hI) hj) ?_
    first | refine zR_rete rfl rfl ?_ ?_ | refine zR_retb rfl rfl ?_ ?_
    all_goals (rfl)
theorem zpk_eq (hI : zInv N F G K Z M A l R) {j : Nat} (hj : j < M) : (G j 0).toInt64 ||| (G j 3).toInt64 <<< ((4 : Int32).toInt64 &&& 63) ||| (G j 4 - 1).toInt64 <<< ((7 : Int32).toInt64 &&& 63) ||| (G j 5).toInt64 <<< ((17 : Int32).toInt64 &&& 63) ||| Z j <<< ((20 : Int32).toInt64 &&& 63) = zpkU (G j) (Z j) := by
  obtain ⟨w, hw, e3⟩ := (i_un hI hj).2.1
  obtain ⟨n, hn1, hn2, e4⟩ := (i_un hI hj).2.2.1
  obtain ⟨s, hs, e5⟩ := (i_un hI hj).2.2.2.1
  obtain ⟨n', rfl⟩ : ∃ n', n = n' + 1 := ⟨n - 1, by omega⟩
  have a3 : (nI w <<< ((4 : Int32) &&& 31)).toInt64 = (nI w).toInt64 <<< ((4 : Int32).toInt64 &&& 63) := by
    rcases (show w = 0 ∨ w = 1 ∨ w = 2 ∨ w = 3 ∨ w = 4 ∨ w = 5 ∨ w = 6 ∨ w = 7 by omega) with rfl | rfl | rfl | rfl | rfl | rfl | rfl | rfl <;> decide +kernel
  have a4 : ∀ k, k < 1000 → (nI k <<< ((7 : Int32) &&& 31)).toInt64 = (nI k).toInt64 <<< ((7 : Int32).toInt64 &&& 63) := by decide +kernel
  have a5 : (nI s <<< ((17 : Int32) &&& 31)).toInt64 = (nI s).toInt64 <<< ((17 : Int32).toInt64 &&& 63) := by
    rcases (show s = 0 ∨ s = 1 ∨ s = 2 ∨ s = 3 ∨ s = 4 ∨ s = 5 by omega) with rfl | rfl | rfl | rfl | rfl | rfl <;> decide +kernel
  have ho : ∀ a b : Int32, (a ||| b).toInt64 = a.toInt64 ||| b.toInt64 := by
    intro a b
    exact Int32.toInt64_or a b
  rw [zpkU, e3, e4, e5, nI_pred, ho, ho, ho, a3, a4 n' (by omega), a5]
theorem d_packed {j : Nat} (h75 : hc.length = 75) (hI : zInv N F G K Z M A l R) (hH : zHK M K H) (hj : j < M) : zMe sL sx 11 99 [.ref 75, .int (nI j)] (hc ++ (zMd N F G H Z c B ++ t)) (.returned (some (.long (zpkU (G j) (Z j))))) (hc ++ (zMd N F G H Z 0 B ++ t)) := by
  have hm := i_m hI
  have hj2 : j < 64 := by omega
  rw [← zpk_eq hI hj]
  show zR sL sx _ 99 0 [.ref 75, .int (nI j)] [] _ _ _
  refine zR_s rfl ?_
  refine zR_s rfl ?_
  refine zR_s rfl ?_
  refine zR_call rfl rfl rfl rfl (zcallok_v (zm0 h75) rfl rfl) (m_isUnit h75) ?_
  first | refine zR_df rfl rfl (fun c1 => absurd (i_v hI hj) c1) (fun c1 => ?_) | refine zR_bf rfl rfl (fun c1 => absurd (i_v hI hj) c1) (fun c1 => ?_) | refine zR_ifeq rfl rfl (fun c1 => absurd (i_v hI hj) c1) (fun c1 => ?_)
  refine zR_cst (v := 0) rfl rfl rfl ?_
  refine zR_s rfl ?_
  refine zR_putC rfl rfl h75 rfl ?_
  refine zR_s rfl ?_
  refine zR_get rfl rfl (zm0 h75) rfl ?_
  refine zR_ifle rfl rfl (fun _ => ?_) (fun c => absurd c (by decide))
  refine zR_s rfl ?_
  refine zR_get rfl rfl (zm0 h75) rfl ?_
  refine zR_s rfl ?_
  refine zR_ildMG 0 rfl h75 (by decide) (hj2) ?_
  refine zR_s rfl ?_
  refine zR_s rfl ?_
  refine zR_get rfl rfl (zm0 h75) rfl ?_
  refine zR_s rfl ?_
  refine zR_ildMG 3 rfl h75 (by decide) (hj2) ?_
  refine zR_s rfl ?_
  refine zR_cst (v := 4) rfl rfl rfl ?_
  refine zR_s rfl ?_
  refine zR_s rfl ?_
  refine zR_s rfl ?_
  refine zR_get rfl rfl (zm0 h75) rfl ?_
  refine zR_s rfl ?_
  refine zR_ildMG 4 rfl h75 (by decide) (hj2) ?_
  refine zR_cst (v := 1) rfl rfl rfl ?_
  refine zR_isub rfl ?_
  refine zR_s rfl ?_
  refine zR_cst (v := 7) rfl rfl rfl ?_
  refine zR_s rfl ?_
  refine zR_s rfl ?_
  refine zR_s rfl ?_
  refine zR_get rfl rfl (zm0 h75) rfl ?_
  refine zR_s rfl ?_
  refine zR_ildMG 5 rfl h75 (by decide) (hj2) ?_
  refine zR_s rfl ?_
  refine zR_cst (v := 17) rfl rfl rfl ?_
  refine zR_s rfl ?_
  refine zR_s rfl ?_
  refine zR_s rfl ?_
  refine zR_get rfl rfl (zm0 h75) rfl ?_
  refine zR_s rfl ?_
  refine zR_lldMZ rfl h75 (hj2) ?_
  refine zR_cst (v := 20) rfl rfl rfl ?_
  refine zR_s rfl ?_
  refine zR_s rfl ?_
  refine zR_rete rfl rfl ?_ ?_
  all_goals (rfl)
theorem d_count {w : Int32} (h75 : hc.length = 75) (hI : zInv N F G K Z M A l R) (hH : zHK M K H) : zMe sL sx 11 100 [.ref 75, .int w] (hc ++ (zMd N F G H Z c B ++ t)) (.returned (some (.int (q_count N G M w)))) (hc ++ (zMd N F G H Z 0 B ++ t)) := by
  have hM := i_m1 hI
  have hm := i_m hI
  have lp : ¬ w = 0 → ¬ w = 2 → ¬ w = 3 → ¬ w = 4 → zR sL sx 11 100 48 [.ref 75, .int w, .int 0, .int 0] [] (hc ++ (zMd N F G H Z 0 B ++ t)) (.returned (some (.int (q_count N G M w)))) (hc ++ (zMd N F G H Z 0 B ++ t)) := by
    intro a1 a2 a3 a4
    refine zR_loop0 (M := M) (fun k => [.ref 75, .int w, .int (nI (zcnt (zqS G) k)), .int (nI k)]) (fun k => (hc ++ (zMd N F G H Z 0 B ++ t))) (fun k => True) rfl rfl trivial (fun hX => ?_) (fun k hk hX ih => ?_)
    · refine zR_s rfl ?_
      refine zR_s rfl ?_
      refine zR_get rfl rfl (zm0 h75) rfl ?_
      refine zR_icge rfl rfl (fun _ => ?_) (fun c => by first | exact absurd ((by rw [hM]; exact Int32.le_refl _)) c | exact absurd c ((by rw [hM]; exact Int32.le_refl _)))
      refine zR_s rfl ?_
      refine zR_cst (v := 1) rfl rfl rfl ?_
      refine zR_icne rfl rfl (fun c1 => ?_) (fun c1 => ?_)
      · refine zR_cst (v := (-1)) rfl rfl rfl ?_
        first | refine zR_rete rfl rfl ?_ ?_ | refine zR_retb rfl rfl ?_ ?_
        all_goals (first | rfl | (simp only [q_count, if_neg a1, if_pos c1]; done) | (simp only [q_count, if_neg a1, if_neg a2, if_neg a3, if_neg a4, if_neg c1]; done))
      · refine zR_s rfl ?_
        refine zR_s rfl ?_
        first | refine zR_rete rfl rfl ?_ ?_ | refine zR_retb rfl rfl ?_ ?_
        all_goals (first | rfl | (simp only [q_count, if_neg a1, if_pos c1]; done) | (simp only [q_count, if_neg a1, if_neg a2, if_neg a3, if_neg a4, if_neg c1]; done))
    · have w2 := ih trivial
      refine zR_s rfl ?_
      refine zR_s rfl ?_
      refine zR_get rfl rfl (zm0 h75) rfl ?_
      refine zR_icge rfl rfl (fun c => by first | exact absurd c ((by rw [hM]; exact nI_ge hk (by omega))) | exact absurd ((by rw [hM]; exact nI_ge hk (by omega))) c) (fun _ => ?_)
      refine zR_s rfl ?_
      refine zR_s rfl ?_
      refine zR_s rfl ?_
      refine zR_call rfl rfl rfl rfl (zcallok_v (zm0 h75) rfl rfl) (m_mstands h75 (show k < 64 by omega)) ?_
      refine zR_bf rfl rfl (fun c1 => ?_) (fun c1 => ?_)
      · refine zR_cst (v := 0) rfl rfl rfl ?_
        refine zR_iadd rfl ?_
        refine zR_s rfl ?_
        first | refine zR_incn rfl rfl rfl ?_ | refine zR_s rfl ?_
        refine zR_goto rfl rfl ?_
        first | (rw [zcnt_f (show zqS G k = false from c1), ← i32_a0 (nI (zcnt (zqS G) k))] at w2; exact w2) | (rw [zcnt_t (show zqS G k = true from c1), nI_succ] at w2; exact w2)
      · refine zR_cst (v := 1) rfl rfl rfl ?_
        refine zR_s rfl ?_
        refine zR_iadd rfl ?_
        refine zR_s rfl ?_
        first | refine zR_incn rfl rfl rfl ?_ | refine zR_s rfl ?_
        refine zR_goto rfl rfl ?_
        first | (rw [zcnt_f (show zqS G k = false from c1), ← i32_a0 (nI (zcnt (zqS G) k))] at w2; exact w2) | (rw [zcnt_t (show zqS G k = true from c1), nI_succ] at w2; exact w2)
  show zR sL sx _ 100 0 [.ref 75, .int w, .retAddr 0, .retAddr 0] [] _ _ _
  refine zR_s rfl ?_
  refine zR_cst (v := 0) rfl rfl rfl ?_
  refine zR_putC rfl rfl h75 rfl ?_
  refine zR_s rfl ?_
  first | refine zR_dt rfl rfl (fun c1 => ?_) (fun c1 => ?_) | refine zR_bt rfl rfl (fun c1 => ?_) (fun c1 => ?_) | refine zR_ifne rfl rfl (fun c1 => ?_) (fun c1 => ?_)
  · refine zR_s rfl ?_
    refine zR_cst (v := 2) rfl rfl rfl ?_
    refine zR_icne rfl rfl (fun c2 => ?_) (fun c2 => ?_)
    · refine zR_s rfl ?_
      refine zR_cst (v := 3) rfl rfl rfl ?_
      refine zR_icne rfl rfl (fun c3 => ?_) (fun c3 => ?_)
      · refine zR_s rfl ?_
        refine zR_cst (v := 4) rfl rfl rfl ?_
        refine zR_icne rfl rfl (fun c4 => ?_) (fun c4 => ?_)
        · refine zR_cst (v := 0) rfl rfl rfl ?_
          refine zR_s rfl ?_
          refine zR_cst (v := 0) rfl rfl rfl ?_
          refine zR_s rfl ?_
          exact lp c1 c2 c3 c4
        · refine zR_s rfl ?_
          refine zR_get rfl rfl (zm0 h75) rfl ?_
          first | refine zR_rete rfl rfl ?_ ?_ | refine zR_retb rfl rfl ?_ ?_
          all_goals (first | rfl | (subst c1; rfl) | (subst c2; rfl) | (subst c3; rfl) | (subst c4; rfl))
      · refine zR_s rfl ?_
        refine zR_get rfl rfl (zm0 h75) rfl ?_
        first | refine zR_rete rfl rfl ?_ ?_ | refine zR_retb rfl rfl ?_ ?_
        all_goals (first | rfl | (subst c1; rfl) | (subst c2; rfl) | (subst c3; rfl) | (subst c4; rfl))
    · refine zR_s rfl ?_
      refine zR_get rfl rfl (zm0 h75) rfl ?_
      first | refine zR_rete rfl rfl ?_ ?_ | refine zR_retb rfl rfl ?_ ?_
      all_goals (first | rfl | (subst c1; rfl) | (subst c2; rfl) | (subst c3; rfl) | (subst c4; rfl))
  · refine zR_s rfl ?_
    refine zR_get rfl rfl (zm0 h75) rfl ?_
    first | refine zR_rete rfl rfl ?_ ?_ | refine zR_retb rfl rfl ?_ ?_
    all_goals (first | rfl | (subst c1; rfl) | (subst c2; rfl) | (subst c3; rfl) | (subst c4; rfl))
end ZMF
