/-! every call of the law -/
section ZSX
variable {sL : Nat} {sx : Nat → Int32}
variable {N : Nat → Int32} {F G : Nat → Nat → Int32} {K : Nat → Option Nat} {H : Nat → Int32} {Z : Nat → Int64} {c : Int32} {B : Nat → Int32} {tl : zH} {v : Int64} {n : Nat} {M A l R : Nat}
theorem i_u3 (hI : zInv N F G K Z M A l R) (q : ¬ N 2 ≤ N 1) : M < R := by
  obtain ⟨h1, h2, h3, h4⟩ := hI.2.1
  rw [h1, h2] at q
  refine Nat.lt_of_le_of_ne h3 fun e => q ?_
  rw [e]
  exact Int32.le_refl _
theorem zbec_ok {s t r e : Int32} (hr : ¬ r = 5) (h : zbec s t r e = true) : (¬ s = 4 ∧ ¬ s = 5) ∧ (r = 0 ∨ r = 1 ∨ r = 2) := by
  rw [zbec, if_neg hr] at h
  split at h
  · cases h
  · split at h
    · rename_i a1
      subst a1
      refine ⟨by decide, ?_⟩
      rcases of_decide_eq_true h with q | q
      · exact Or.inr (Or.inl q)
      · exact Or.inr (Or.inr q)
    · split at h
      · rename_i a1
        subst a1
        refine ⟨by decide, ?_⟩
        rcases of_decide_eq_true h with q | q
        · exact Or.inl q
        · exact Or.inr (Or.inr q)
      · split at h
        · rename_i a1
          subst a1
          exact ⟨by decide, Or.inr (Or.inl (of_decide_eq_true h))⟩
        · cases h
theorem zp1 {p : Int32} {n : Nat} {b : Int32} (hb : b = nI n) (hn : n < 2000) (c : 1 ≤ p ∧ p ≤ b) : ∃ p', 1 ≤ p' ∧ p' ≤ n ∧ p = nI p' := by
  subst hb
  obtain ⟨j, hj, e⟩ := nI_of2 (nI_toInt (n := n) (by omega)) (Int32.not_lt.mpr (Int32.le_trans (by decide) c.1)) c.2
  subst e
  exact ⟨j, (nI_leI (a := 1) (b := j) (by omega) (by omega)).mp c.1, hj, rfl⟩
theorem s_rows {p0 : Int32} (hg : zGd N F G K Z H tl n) : zStp sL sx 101 67 [.ref 0, .int p0] [.ref 75, .int p0] 0 N F G K Z H c B v tl n := by
  have hg' := hg
  obtain ⟨⟨M, A, l, R, hI, hH⟩, ht, hq⟩ := hg'
  have hA := hI.2.2.1
  have hM := i_m1 hI
  have hm := i_m hI
  have hK := i_kb hI
  refine zStp_0 (q := (q_rows N F G K Z p0)) (kf := kfR) (z := 19) (H' := H) (B' := B) (ex := fun e => e = 0 ∨ e = 1) (fun T => c_rows) ?_ (fun e T h1 he h => w_rows_e he h) (fun T h1 h => w_rows h) (fun hc t h75 => d_rows h75) ?_ hg
  · intro e h
    simp only [q_rows] at h
    repeat' split at h
    all_goals first | (cases h; done) | (cases h; decide)
  · intro r h
    simp only [q_rows] at h
    repeat' split at h
    all_goals first | (cases h; done) | skip
    rename_i a1 a2
    cases h
    obtain ⟨n', hn, rfl, ep⟩ := zpl (n := 64) rfl (by decide) ⟨a1, a2⟩
    exact ⟨rfl, 0, 0, l, n', v_rows hn hI, fun i hi => absurd hi (by omega)⟩
theorem s_place {p0 p1 : Int32} (hg : zGd N F G K Z H tl n) : zStp sL sx 102 69 [.ref 0, .int p0, .int p1] [.ref 75, .int p0, .int p1] 0 N F G K Z H c B v tl n := by
  have hg' := hg
  obtain ⟨⟨M, A, l, R, hI, hH⟩, ht, hq⟩ := hg'
  have hA := hI.2.2.1
  have hM := i_m1 hI
  have hm := i_m hI
  have hK := i_kb hI
  refine zStp_0 (q := (q_place N F G K Z M p0 p1)) (kf := kfP) (z := 20) (H' := H) (B' := B) (ex := fun e => e = 1 ∨ e = 2) (fun T => c_place hM hm) ?_ (fun e T h1 he h => w_place_e he h) (fun T h1 h => w_place h) (fun hc t h75 => d_place h75 hI) ?_ hg
  · intro e h
    simp only [q_place] at h
    repeat' split at h
    all_goals first | (cases h; done) | (cases h; decide)
  · intro r h
    simp only [q_place] at h
    repeat' split at h
    all_goals first | (cases h; done) | skip
    rename_i a1 a2 a3
    cases h
    obtain ⟨p', hp, rfl, ep⟩ := zpl (n := 15) rfl (by decide) a1
    obtain ⟨m', hm', rfl, em⟩ := zpl (n := 64) rfl (by decide) a2
    have hcn := zcnt_le (zqP G (nI p')) M
    have h3 := (nI_leI (by omega) (by omega)).mp a3
    rw [ep]
    exact ⟨rfl, M, A, l, R, v_place hm' h3 hI, hH⟩
theorem s_good {p0 p1 : Int32} (hg : zGd N F G K Z H tl n) : zStp sL sx 103 70 [.ref 0, .int p0, .int p1] [.ref 75, .int p0, .int p1] 0 N F G K Z H c B v tl n := by
  have hg' := hg
  obtain ⟨⟨M, A, l, R, hI, hH⟩, ht, hq⟩ := hg'
  have hA := hI.2.2.1
  have hM := i_m1 hI
  have hm := i_m hI
  have hK := i_kb hI
  refine zStp_0 (q := (q_good N F G K Z p0 p1)) (kf := kfP) (z := 21) (H' := H) (B' := B) (ex := fun e => e = 1) (fun T => c_good) ?_ (fun e T h1 he h => w_good_e he h) (fun T h1 h => w_good h) (fun hc t h75 => d_good h75) ?_ hg
  · intro e h
    simp only [q_good] at h
    repeat' split at h
    all_goals first | (cases h; done) | (cases h; decide)
  · intro r h
    simp only [q_good] at h
    repeat' split at h
    all_goals first | (cases h; done) | skip
    rename_i a1 a2
    cases h
    exact ⟨rfl, M, A, l, R, v_good hI, hH⟩
theorem s_lot {p0 p1 : Int32} (hg : zGd N F G K Z H tl n) : zStp sL sx 104 71 [.ref 0, .int p0, .int p1, .ref 92] [.ref 75, .int p0, .int p1] 1 N F G K Z H c B v tl n := by
  have hg' := hg
  obtain ⟨⟨M, A, l, R, hI, hH⟩, ht, hq⟩ := hg'
  have hA := hI.2.2.1
  have hM := i_m1 hI
  have hm := i_m hI
  have hK := i_kb hI
  refine zStp_1 (q := (q_lot N F G K Z l p0 p1)) (kf := kfP) (z := 22) (H' := H) (B' := B) (ex := fun e => e = 1 ∨ e = 3) (fun T => c_lot hI.1.1 hI.1.2) ?_ (fun e T h1 he h => w_lot_e he h) (fun x N1 F1 G1 K1 Z1 h => w_lot zL0 h) (fun hc t h75 => d_lot h75 hI) ?_ ?_ hg
  · intro e h
    simp only [q_lot] at h
    repeat' split at h
    all_goals first | (cases h; done) | (cases h; decide)
  · intro e he
    rcases he with rfl | rfl <;> decide
  · intro r h
    simp only [q_lot] at h
    repeat' split at h
    all_goals first | (cases h; done) | skip
    rename_i a1 a2 a3
    cases h
    obtain ⟨p', hp, rfl, ep⟩ := zpl (n := 7) rfl (by decide) a1
    exact ⟨⟨_, rfl⟩, M, A, l + 1, R, v_lot (by omega) a3 hI, hH⟩
theorem s_unit {p0 p1 p2 p3 : Int32} (hg : zGd N F G K Z H tl n) : zStp sL sx 105 75 [.ref 0, .int p0, .int p1, .int p2, .int p3, .ref 92] [.ref 75, .int p0, .int p1, .int p2, .int p3] 1 N F G K Z H c B v tl n := by
  have hg' := hg
  obtain ⟨⟨M, A, l, R, hI, hH⟩, ht, hq⟩ := hg'
  have hA := hI.2.2.1
  have hM := i_m1 hI
  have hm := i_m hI
  have hK := i_kb hI
  rcases zucase p0 (show l ≤ 64 from Nat.le_trans hI.1.2 (by decide)) with ⟨a, ha, rfl⟩ | hno
  · refine zStp_1 (q := (q_unit N F G K Z M A a p1 p2 p3)) (kf := kfU) (z := 23) (H' := (upd H M (-1))) (B' := B) (ex := fun e => e = 4 ∨ e = 1 ∨ e = 3) (fun T => c_unit hM hm hA.1 hA.2 hI.1.1 hI.1.2 ha) ?_ (fun e T h1 he h => w_unit_e he h) (fun x N1 F1 G1 K1 Z1 h => w_unit zL0 h) (fun hc t h75 => d_unit h75 hI hH ha) ?_ ?_ hg
    · intro e h
      simp only [q_unit] at h
      repeat' split at h
      all_goals first | (cases h; done) | (cases h; decide)
    · intro e he
      rcases he with rfl | rfl | rfl <;> decide
    · intro r h
      simp only [q_unit] at h
      repeat' split at h
      all_goals first | (cases h; done) | skip
      all_goals
        rename_i a1 a2 a3 a4 a5 a6 a7
        cases h
        obtain ⟨p', hp, rfl, ep⟩ := zpl (n := 15) rfl (by decide) a1
        obtain ⟨w', hw, rfl, ew⟩ := zpl (n := 7) rfl (by decide) a2
        obtain ⟨n', hn1, hn2, rfl⟩ := zp1 (n := 1000) rfl (by decide) a3
        rw [ep] at a5
        refine ⟨⟨_, rfl⟩, M + 1, A + 1, l, R, inv_row (v_unit hI (i_u3 hI a6.1) ha (by omega) (by omega) hn1 hn2 ?_ a5) (zroom1 hA.1 hA.2 a4), hk_add hH (fun c hc => va_up_ne K none (by omega)) (by show _ = zsk (va_up K M none M); rw [va_up_self]; rfl)⟩
        first | exact Or.inr rfl | exact Or.inl rfl
  · exact zStp_err (e := 4) (k := 1) (dv := (some (.int 0))) (z := 23) (fun T => c_unit_no hI.1.1 hno) (fun T h1 h => w_unit_e (Or.inl rfl) h) (fun hc t h75 => d_unit_no h75 hI.1.1 hno) (fun v' => ⟨0, rfl, fun q => absurd q (by decide)⟩) hg
theorem s_move {p0 p1 : Int32} (hg : zGd N F G K Z H tl n) : zStp sL sx 106 79 [.ref 0, .int p0, .int p1] [.ref 75, .int p0, .int p1] 0 N F G K Z H c B v tl n := by
  have hg' := hg
  obtain ⟨⟨M, A, l, R, hI, hH⟩, ht, hq⟩ := hg'
  have hA := hI.2.2.1
  have hM := i_m1 hI
  have hm := i_m hI
  have hK := i_kb hI
  rcases zucase p0 hm with ⟨j, hj, rfl⟩ | hno
  · refine zStp_0 (q := (q_move N F G K Z M A j p1)) (kf := kfA) (z := 24) (H' := (upd H j (-1))) (B' := B) (ex := fun e => e = 4 ∨ e = 1 ∨ e = 2 ∨ e = 3) (fun T => c_move hK hM hm hA.1 hA.2 hj) ?_ (fun e T h1 he h => w_move_e he h) (fun T h1 h => w_move h) (fun hc t h75 => d_move h75 hI hH hj) ?_ hg
    · intro e h
      simp only [q_move] at h
      repeat' split at h
      all_goals first | (cases h; done) | (cases h; decide)
    · intro r h
      simp only [q_move] at h
      repeat' split at h
      all_goals first | (cases h; done) | skip
      rename_i a1 a2 a3 a4 a5
      cases h
      obtain ⟨p', hp, rfl, ep⟩ := zpl (n := 15) rfl (by decide) a1
      rw [ep] at a5
      exact ⟨rfl, M, A + 1, l, R, inv_row (v_move hI hj a2 (by omega) a5) (zroom1 hA.1 hA.2 a4), hk_out hH⟩
  · exact zStp_err (e := 4) (k := 1) (dv := none) (z := 24) (fun T => c_move_no hM hno) (fun T h1 h => w_move_e (Or.inl rfl) h) (fun hc t h75 => d_move_no h75 hM hno) (fun v' => rfl) hg
theorem s_into {p0 p1 : Int32} (hg : zGd N F G K Z H tl n) : zStp sL sx 107 81 [.ref 0, .int p0, .int p1] [.ref 75, .int p0, .int p1] 0 N F G K Z H c B v tl n := by
  have hg' := hg
  obtain ⟨⟨M, A, l, R, hI, hH⟩, ht, hq⟩ := hg'
  have hA := hI.2.2.1
  have hM := i_m1 hI
  have hm := i_m hI
  have hK := i_kb hI
  rcases zucase p0 hm with ⟨j, hj, rfl⟩ | hno
  · rcases zucase p1 hm with ⟨w, hw, rfl⟩ | hno
    · refine zStp_0 (q := (q_into N F G K Z M A j w)) (kf := kfB) (z := 25) (H' := (upd H j (nI w))) (B' := B) (ex := fun e => e = 4 ∨ e = 2 ∨ e = 3) (fun T => c_into hK hM hm hA.1 hA.2 hj hw) ?_ (fun e T h1 he h => w_into_e he h) (fun T h1 h => w_into h) (fun hc t h75 => d_into h75 hI hH hj hw) ?_ hg
      · intro e h
        simp only [q_into] at h
        repeat' split at h
        all_goals first | (cases h; done) | (cases h; decide)
      · intro r h
        simp only [q_into] at h
        repeat' split at h
        all_goals first | (cases h; done) | skip
        rename_i a1 a2
        cases h
        exact ⟨rfl, M, A + 1, l, R, inv_row (v_into hI hj hw a1.1 a1.2.1 a1.2.2.1 a1.2.2.2.2.1 a1.2.2.2.2.2.1 a1.2.2.2.2.2.2) (zroom1 hA.1 hA.2 a2), hk_into hH⟩
    · exact zStp_err (e := 4) (k := 1) (dv := none) (z := 25) (fun T => c_into_no2 hM hm hj hno) (fun T h1 h => w_into_e (Or.inl rfl) h) (fun hc t h75 => d_into_no2 h75 hI hj hno) (fun v' => rfl) hg
  · exact zStp_err (e := 4) (k := 1) (dv := none) (z := 25) (fun T => c_into_no hM hno) (fun T h1 h => w_into_e (Or.inl rfl) h) (fun hc t h75 => d_into_no h75 hM hno) (fun v' => rfl) hg
theorem s_out {p0 : Int32} (hg : zGd N F G K Z H tl n) : zStp sL sx 108 82 [.ref 0, .int p0] [.ref 75, .int p0] 0 N F G K Z H c B v tl n := by
  have hg' := hg
  obtain ⟨⟨M, A, l, R, hI, hH⟩, ht, hq⟩ := hg'
  have hA := hI.2.2.1
  have hM := i_m1 hI
  have hm := i_m hI
  have hK := i_kb hI
  rcases zucase p0 hm with ⟨j, hj, rfl⟩ | hno
  · refine zStp_0 (q := (q_out N F G K Z A j)) (kf := kfB) (z := 26) (H' := (upd H j (-1))) (B' := B) (ex := fun e => e = 4 ∨ e = 2 ∨ e = 3) (fun T => c_out hK hM hm hA.1 hA.2 hj) ?_ (fun e T h1 he h => w_out_e he h) (fun T h1 h => w_out h) (fun hc t h75 => d_out h75 hI hH hj) ?_ hg
    · intro e h
      simp only [q_out] at h
      repeat' split at h
      all_goals first | (cases h; done) | (cases h; decide)
    · intro r h
      simp only [q_out] at h
      repeat' split at h
      all_goals first | (cases h; done) | skip
      rename_i a1 a2
      cases h
      exact ⟨rfl, M, A + 1, l, R, inv_row (v_out hI hj) (zroom1 hA.1 hA.2 a2), hk_out hH⟩
  · exact zStp_err (e := 4) (k := 1) (dv := none) (z := 26) (fun T => c_out_no hM hno) (fun T h1 h => w_out_e (Or.inl rfl) h) (fun hc t h75 => d_out_no h75 hM hno) (fun v' => rfl) hg
theorem s_split {p0 p1 : Int32} (hg : zGd N F G K Z H tl n) : zStp sL sx 109 83 [.ref 0, .int p0, .int p1, .ref 92] [.ref 75, .int p0, .int p1] 1 N F G K Z H c B v tl n := by
  have hg' := hg
  obtain ⟨⟨M, A, l, R, hI, hH⟩, ht, hq⟩ := hg'
  have hA := hI.2.2.1
  have hM := i_m1 hI
  have hm := i_m hI
  have hK := i_kb hI
  rcases zucase p0 hm with ⟨j, hj, rfl⟩ | hno
  · have hp0 : ∃ p, zst (G j) = true → G j 6 = nI p ∧ p < 16 := by
      by_cases hs : zst (G j) = true
      · obtain ⟨p, h1, h2⟩ := (i_un hI hj).2.2.2.2.1 hs
        exact ⟨p, fun _ => ⟨h2, h1⟩⟩
      · exact ⟨0, fun h => absurd h hs⟩
    obtain ⟨p, hp⟩ := hp0
    refine zStp_1 (q := (q_split N F G K Z M A j p1)) (kf := kfA) (z := 27) (H' := (upd H M (H j))) (B' := B) (ex := fun e => e = 4 ∨ e = 1 ∨ e = 2 ∨ e = 3) (fun T => c_split hK hM hm hA.1 hA.2 hj hp) ?_ (fun e T h1 he h => w_split_e he h) (fun x N1 F1 G1 K1 Z1 h => w_split zL0 h) (fun hc t h75 => d_split h75 hI hH hj) ?_ ?_ hg
    · intro e h
      simp only [q_split] at h
      repeat' split at h
      all_goals first | (cases h; done) | (cases h; decide)
    · intro e he
      rcases he with rfl | rfl | rfl | rfl <;> decide
    · intro r h
      simp only [q_split] at h
      repeat' split at h
      all_goals first | (cases h; done) | skip
      rename_i a1 a2 a3 a4 a5 a6
      cases h
      have hA5 := zroom2 hA.1 hA.2 a4
      exact ⟨⟨_, rfl⟩, M + 1, A + 1 + 1, l, R, inv_row (inv_row (v_split hI (i_u3 hI a6.1) hj a2 a1 a5) (by omega)) hA5, hk_add hH (fun c hc => va_up_ne K (K j) (by omega)) (by show _ = zsk (va_up K M (K j) M); rw [va_up_self]; exact hH j hj)⟩
  · exact zStp_err (e := 4) (k := 1) (dv := (some (.int 0))) (z := 27) (fun T => c_split_no hM hno) (fun T h1 h => w_split_e (Or.inl rfl) h) (fun hc t h75 => d_split_no h75 hM hno) (fun v' => ⟨0, rfl, fun q => absurd q (by decide)⟩) hg
theorem s_join {p0 p1 : Int32} (hg : zGd N F G K Z H tl n) : zStp sL sx 110 85 [.ref 0, .int p0, .int p1] [.ref 75, .int p0, .int p1] 0 N F G K Z H c B v tl n := by
  have hg' := hg
  obtain ⟨⟨M, A, l, R, hI, hH⟩, ht, hq⟩ := hg'
  have hA := hI.2.2.1
  have hM := i_m1 hI
  have hm := i_m hI
  have hK := i_kb hI
  rcases zucase p0 hm with ⟨j, hj, rfl⟩ | hno
  · rcases zucase p1 hm with ⟨w, hw, rfl⟩ | hno
    · refine zStp_0 (q := (q_join N F G K Z M A j w)) (kf := kfB) (z := 28) (H' := (zhl H K w M)) (B' := (zbl B K w M)) (ex := fun e => e = 4 ∨ e = 2 ∨ e = 3) (fun T => c_join hK hM hm hA.1 hA.2 hj hw) ?_ (fun e T h1 he h => w_join_e he h) (fun T h1 h => w_join h) (fun hc t h75 => d_join h75 hI hH hj hw) ?_ hg
      · intro e h
        simp only [q_join] at h
        repeat' split at h
        all_goals first | (cases h; done) | (cases h; decide)
      · intro r h
        simp only [q_join] at h
        repeat' split at h
        all_goals first | (cases h; done) | skip
        rename_i a1 a2
        cases h
        have hA5 := zroom2 hA.1 hA.2 a2
        obtain ⟨x, hx1, hx2, ex⟩ := (i_un hI hj).2.2.1
        obtain ⟨y, hy1, hy2, ey⟩ := (i_un hI hw).2.2.1
        have h9 := a1.2.2.2.2.2.2
        rw [ex, ey, nI_add] at h9 ⊢
        have h10 := (nI_leI (a := x + y) (b := 1000) (by omega) (by omega)).mp h9
        have hI1 := v_pieces (n := x + y) hI hj (by omega) h10
        exact ⟨rfl, M, A + 1 + 1, l, R, inv_row (inv_row (v_take (s := 5) hI1 (Or.inr rfl)) (by omega)) hA5, hk_take (s := 5) hI1 (Or.inr rfl) hH⟩
    · exact zStp_err (e := 4) (k := 1) (dv := none) (z := 28) (fun T => c_join_no2 hM hm hj hno) (fun T h1 h => w_join_e (Or.inl rfl) h) (fun hc t h75 => d_join_no2 h75 hI hj hno) (fun v' => rfl) hg
  · exact zStp_err (e := 4) (k := 1) (dv := none) (z := 28) (fun T => c_join_no hM hno) (fun T h1 h => w_join_e (Or.inl rfl) h) (fun hc t h75 => d_join_no h75 hM hno) (fun v' => rfl) hg
theorem s_state {p0 p1 : Int32} (hg : zGd N F G K Z H tl n) : zStp sL sx 111 88 [.ref 0, .int p0, .int p1] [.ref 75, .int p0, .int p1] 0 N F G K Z H c B v tl n := by
  have hg' := hg
  obtain ⟨⟨M, A, l, R, hI, hH⟩, ht, hq⟩ := hg'
  have hA := hI.2.2.1
  have hM := i_m1 hI
  have hm := i_m hI
  have hK := i_kb hI
  rcases zucase p0 hm with ⟨j, hj, rfl⟩ | hno
  · refine zStp_0 (q := (q_state N F G K Z M A j p1)) (kf := kfA) (z := 29) (H' := (if p1 = 5 then zhl H K j M else H)) (B' := (if p1 = 5 then zbl B K j M else B)) (ex := fun e => e = 4 ∨ e = 1 ∨ e = 2 ∨ e = 3) (fun T => c_state hK hM hm hA.1 hA.2 hj) ?_ (fun e T h1 he h => w_state_e he h) (fun T h1 h => w_state h) (fun hc t h75 => d_state h75 hI hH hj) ?_ hg
    · intro e h
      simp only [q_state] at h
      repeat' split at h
      all_goals first | (cases h; done) | (cases h; decide)
    · intro r h
      simp only [q_state] at h
      repeat' split at h
      all_goals first | (cases h; done) | skip
      · rename_i a1 a2 a3 a4
        cases h
        rw [if_pos a4]
        exact ⟨rfl, M, A + 1, l, R, inv_row (v_take (s := 5) hI (Or.inr rfl)) (zroom1 hA.1 hA.2 a3), hk_take (s := 5) hI (Or.inr rfl) hH⟩
      · rename_i a1 a2 a3 a4
        cases h
        rw [if_neg a4]
        obtain ⟨h1, h2⟩ := zbec_ok a4 a2
        exact ⟨rfl, M, A + 1, l, R, inv_row (v_state hI hj (decide_eq_true h1) h2) (zroom1 hA.1 hA.2 a3), hH⟩
  · exact zStp_err (e := 4) (k := 1) (dv := none) (z := 29) (fun T => c_state_no hM hno) (fun T h1 h => w_state_e (Or.inl rfl) h) (fun hc t h75 => d_state_no h75 hM hno) (fun v' => rfl) hg
theorem s_serial {p0 : Int32} {nn : Int64} (hg : zGd N F G K Z H tl n) : zStp sL sx 112 89 [.ref 0, .int p0, .long nn] [.ref 75, .int p0, .long nn] 0 N F G K Z H c B v tl n := by
  have hg' := hg
  obtain ⟨⟨M, A, l, R, hI, hH⟩, ht, hq⟩ := hg'
  have hA := hI.2.2.1
  have hM := i_m1 hI
  have hm := i_m hI
  have hK := i_kb hI
  rcases zucase p0 hm with ⟨j, hj, rfl⟩ | hno
  · refine zStp_0 (q := (q_serial N F G K Z M A j nn)) (kf := kfA) (z := 30) (H' := H) (B' := B) (ex := fun e => e = 4 ∨ e = 1 ∨ e = 2 ∨ e = 3) (fun T => c_serial hK hM hm hA.1 hA.2 hj) ?_ (fun e T h1 he h => w_serial_e he h) (fun T h1 h => w_serial h) (fun hc t h75 => d_serial h75 hI hH hj) ?_ hg
    · intro e h
      simp only [q_serial] at h
      repeat' split at h
      all_goals first | (cases h; done) | (cases h; decide)
    · intro r h
      simp only [q_serial] at h
      repeat' split at h
      all_goals first | (cases h; done) | skip
      rename_i a1 a2 a3 a4
      cases h
      exact ⟨rfl, M, A + 1, l, R, inv_row (v_Z (Int64.le_trans (by decide) a1.1) hI) (zroom1 hA.1 hA.2 a4), hH⟩
  · exact zStp_err (e := 4) (k := 1) (dv := none) (z := 30) (fun T => c_serial_no hM hno) (fun T h1 h => w_serial_e (Or.inl rfl) h) (fun hc t h75 => d_serial_no h75 hM hno) (fun v' => rfl) hg
theorem s_lost {p0 p1 : Int32} (hg : zGd N F G K Z H tl n) : zStp sL sx 113 90 [.ref 0, .int p0, .int p1] [.ref 75, .int p0, .int p1] 0 N F G K Z H c B v tl n := by
  have hg' := hg
  obtain ⟨⟨M, A, l, R, hI, hH⟩, ht, hq⟩ := hg'
  have hA := hI.2.2.1
  have hM := i_m1 hI
  have hm := i_m hI
  have hK := i_kb hI
  rcases zucase p0 hm with ⟨j, hj, rfl⟩ | hno
  · refine zStp_0 (q := (q_lost N F G K Z M A j p1)) (kf := kfA) (z := 31) (H' := (zhl H K j M)) (B' := (zbl B K j M)) (ex := fun e => e = 4 ∨ e = 1 ∨ e = 2 ∨ e = 3) (fun T => c_lost hK hM hm hA.1 hA.2 hj) ?_ (fun e T h1 he h => w_lost_e he h) (fun T h1 h => w_lost h) (fun hc t h75 => d_lost h75 hI hH hj) ?_ hg
    · intro e h
      simp only [q_lost] at h
      repeat' split at h
      all_goals first | (cases h; done) | (cases h; decide)
    · intro r h
      simp only [q_lost] at h
      repeat' split at h
      all_goals first | (cases h; done) | skip
      rename_i a1 a2 a3
      cases h
      exact ⟨rfl, M, A + 1, l, R, inv_row (v_take (s := 4) hI (Or.inl rfl)) (zroom1 hA.1 hA.2 a3), hk_take (s := 4) hI (Or.inl rfl) hH⟩
  · exact zStp_err (e := 4) (k := 1) (dv := none) (z := 31) (fun T => c_lost_no hM hno) (fun T h1 h => w_lost_e (Or.inl rfl) h) (fun hc t h75 => d_lost_no h75 hM hno) (fun v' => rfl) hg
theorem s_found {p0 p1 : Int32} (hg : zGd N F G K Z H tl n) : zStp sL sx 114 91 [.ref 0, .int p0, .int p1] [.ref 75, .int p0, .int p1] 0 N F G K Z H c B v tl n := by
  have hg' := hg
  obtain ⟨⟨M, A, l, R, hI, hH⟩, ht, hq⟩ := hg'
  have hA := hI.2.2.1
  have hM := i_m1 hI
  have hm := i_m hI
  have hK := i_kb hI
  rcases zucase p0 hm with ⟨j, hj, rfl⟩ | hno
  · refine zStp_0 (q := (q_found N F G K Z M A j p1)) (kf := kfA) (z := 32) (H' := H) (B' := B) (ex := fun e => e = 4 ∨ e = 1 ∨ e = 2 ∨ e = 3) (fun T => c_found hK hM hm hA.1 hA.2 hj) ?_ (fun e T h1 he h => w_found_e he h) (fun T h1 h => w_found h) (fun hc t h75 => d_found h75 hI hH hj) ?_ hg
    · intro e h
      simp only [q_found] at h
      repeat' split at h
      all_goals first | (cases h; done) | (cases h; decide)
    · intro r h
      simp only [q_found] at h
      repeat' split at h
      all_goals first | (cases h; done) | skip
      all_goals
        rename_i a1 a2 a3 a4 a5
        cases h
        obtain ⟨p', hp, rfl, ep⟩ := zpl (n := 15) rfl (by decide) a1
        rw [ep] at a4
        refine ⟨rfl, M, A + 1, l, R, ?_, hk_found hH hI hj a2⟩
        refine inv_row ?_ (zroom1 hA.1 hA.2 a3)
        first | exact v_found (s := 3) hI hj a2 (Or.inr rfl) (by omega) a4 | exact v_found (s := 1) hI hj a2 (Or.inl rfl) (by omega) a4
  · exact zStp_err (e := 4) (k := 1) (dv := none) (z := 32) (fun T => c_found_no hM hno) (fun T h1 h => w_found_e (Or.inl rfl) h) (fun hc t h75 => d_found_no h75 hM hno) (fun v' => rfl) hg
theorem s_weigh {p0 p1 : Int32} (hg : zGd N F G K Z H tl n) : zStp sL sx 115 92 [.ref 0, .int p0, .int p1, .ref 92] [.ref 75, .int p0, .int p1] 1 N F G K Z H c B v tl n := by
  have hg' := hg
  obtain ⟨⟨M, A, l, R, hI, hH⟩, ht, hq⟩ := hg'
  have hA := hI.2.2.1
  have hM := i_m1 hI
  have hm := i_m hI
  have hK := i_kb hI
  rcases zucase p0 hm with ⟨j, hj, rfl⟩ | hno
  · obtain ⟨a, ha, e0, e1, e2⟩ := (i_un hI hj).1
    obtain ⟨g, hg2, eg⟩ := hI.2.2.2.2.2.2.2 a ha
    refine zStp_1 (q := (q_weigh N F G K Z A j p1)) (kf := kfA) (z := 33) (H' := H) (B' := B) (ex := fun e => e = 4 ∨ e = 1 ∨ e = 2 ∨ e = 3) (fun T => c_weigh hK hM hm hA.1 hA.2 hj (e1.trans eg) hg2) ?_ (fun e T h1 he h => w_weigh_e he h) (fun x N1 F1 G1 K1 Z1 h => w_weigh zL0 h) (fun hc t h75 => d_weigh h75 hI hH hj) ?_ ?_ hg
    · intro e h
      simp only [q_weigh] at h
      repeat' split at h
      all_goals first | (cases h; done) | (cases h; decide)
    · intro e he
      rcases he with rfl | rfl | rfl | rfl <;> decide
    · intro r h
      simp only [q_weigh] at h
      repeat' split at h
      all_goals first | (cases h; done) | skip
      rename_i a1 a2 a3
      cases h
      exact ⟨⟨_, rfl⟩, M, A + 1, l, R, inv_row hI (zroom1 hA.1 hA.2 a3), hH⟩
  · exact zStp_err (e := 4) (k := 1) (dv := (some (.int 0))) (z := 33) (fun T => c_weigh_no hM hno) (fun T h1 h => w_weigh_e (Or.inl rfl) h) (fun hc t h75 => d_weigh_no h75 hM hno) (fun v' => ⟨0, rfl, fun q => absurd q (by decide)⟩) hg
theorem s_day {p0 : Int32} (hg : zGd N F G K Z H tl n) : zStp sL sx 116 93 [.ref 0, .int p0, .ref 92] [.ref 75, .int p0] 1 N F G K Z H c B v tl n := by
  have hg' := hg
  obtain ⟨⟨M, A, l, R, hI, hH⟩, ht, hq⟩ := hg'
  have hA := hI.2.2.1
  have hM := i_m1 hI
  have hm := i_m hI
  have hK := i_kb hI
  refine zStp_1 (q := (q_day N F G K Z M p0)) (kf := kfP) (z := 34) (H' := H) (B' := B) (ex := fun e => e = 1) (fun T => c_day hM hm) ?_ (fun e T h1 he h => w_day_e he h) (fun x N1 F1 G1 K1 Z1 h => w_day zL0 h) (fun hc t h75 => d_day h75 hI hH) ?_ ?_ hg
  · intro e h
    simp only [q_day] at h
    repeat' split at h
    all_goals first | (cases h; done) | (cases h; decide)
  · intro e he
    rcases he with rfl <;> decide
  · intro r h
    simp only [q_day] at h
    repeat' split at h
    all_goals first | (cases h; done) | skip
    rename_i a1
    cases h
    exact ⟨⟨_, rfl⟩, M, A, l, R, v_day hI, hH⟩
theorem s_at {p0 p1 : Int32} (hg : zGd N F G K Z H tl n) : zStp sL sx 117 94 [.ref 0, .int p0, .int p1, .ref 92] [.ref 75, .int p0, .int p1] 1 N F G K Z H c B v tl n := by
  have hg' := hg
  obtain ⟨⟨M, A, l, R, hI, hH⟩, ht, hq⟩ := hg'
  have hA := hI.2.2.1
  have hM := i_m1 hI
  have hm := i_m hI
  have hK := i_kb hI
  refine zStp_1 (q := (q_at N F G K Z M p0 p1)) (kf := kfP) (z := 35) (H' := H) (B' := B) (ex := fun e => e = 1 ∨ e = 5) (fun T => c_at hM hm) ?_ (fun e T h1 he h => w_at_e he h) (fun x N1 F1 G1 K1 Z1 h => w_at zL0 h) (fun hc t h75 => d_at h75 hI hH) ?_ ?_ hg
  · intro e h
    simp only [q_at] at h
    repeat' split at h
    all_goals first | (cases h; done) | (cases h; decide)
  · intro e he
    rcases he with rfl | rfl <;> decide
  · intro r h
    simp only [q_at] at h
    repeat' split at h
    all_goals first | (cases h; done) | skip
    all_goals
      cases h
      exact ⟨⟨_, rfl⟩, M, A, l, R, hI, hH⟩
theorem s_find {p0 p1 p2 p3 : Int32} (hg : zGd N F G K Z H tl n) : zStp sL sx 118 95 [.ref 0, .int p0, .int p1, .int p2, .int p3, .ref 92] [.ref 75, .int p0, .int p1, .int p2, .int p3] 1 N F G K Z H c B v tl n := by
  have hg' := hg
  obtain ⟨⟨M, A, l, R, hI, hH⟩, ht, hq⟩ := hg'
  have hA := hI.2.2.1
  have hM := i_m1 hI
  have hm := i_m hI
  have hK := i_kb hI
  refine zStp_1 (q := (q_find N F G K Z M p0 p1 p2 p3)) (kf := kfP) (z := 36) (H' := H) (B' := B) (ex := fun e => e = 1) (fun T => c_find hM hm) ?_ (fun e T h1 he h => w_find_e he h) (fun x N1 F1 G1 K1 Z1 h => w_find zL0 h) (fun hc t h75 => d_find h75 hI hH) ?_ ?_ hg
  · intro e h
    simp only [q_find] at h
    repeat' split at h
    all_goals first | (cases h; done) | (cases h; decide)
  · intro e he
    rcases he with rfl <;> decide
  · intro r h
    simp only [q_find] at h
    repeat' split at h
    all_goals first | (cases h; done) | skip
    all_goals
      cases h
      exact ⟨⟨_, rfl⟩, M, A, l, R, hI, hH⟩
theorem s_sum {p0 p1 : Int32} (hg : zGd N F G K Z H tl n) : zStp sL sx 119 96 [.ref 0, .int p0, .int p1, .ref 92] [.ref 75, .int p0, .int p1] 2 N F G K Z H c B v tl n := by
  have hg' := hg
  obtain ⟨⟨M, A, l, R, hI, hH⟩, ht, hq⟩ := hg'
  have hA := hI.2.2.1
  have hM := i_m1 hI
  have hm := i_m hI
  have hK := i_kb hI
  refine zStp_2 (q := (q_sum N F G K Z M p0 p1)) (kf := kfP) (z := 37) (H' := H) (B' := B) (ex := fun e => e = 1) (fun T => c_sum hM hm) ?_ (fun e T h1 he h => w_sum_e he h) (fun x N1 F1 G1 K1 Z1 h => w_sum zL0 h) (fun hc t h75 => d_sum h75 hI hH) ?_ ?_ hg
  · intro e h
    simp only [q_sum] at h
    repeat' split at h
    all_goals first | (cases h; done) | (cases h; decide)
  · intro e he
    rcases he with rfl <;> decide
  · intro r h
    simp only [q_sum] at h
    repeat' split at h
    all_goals first | (cases h; done) | skip
    all_goals
      cases h
      exact ⟨⟨_, rfl⟩, M, A, l, R, hI, hH⟩
theorem s_row {p0 p1 p2 : Int32} (hg : zGd N F G K Z H tl n) : zStp sL sx 120 97 [.ref 0, .int p0, .int p1, .int p2, .ref 92] [.ref 75, .int p0, .int p1, .int p2] 1 N F G K Z H c B v tl n := by
  have hg' := hg
  obtain ⟨⟨M, A, l, R, hI, hH⟩, ht, hq⟩ := hg'
  have hA := hI.2.2.1
  have hM := i_m1 hI
  have hm := i_m hI
  have hK := i_kb hI
  rcases zucase p0 hm with ⟨j, hj, rfl⟩ | hno
  · refine zStp_1 (q := (q_row N F G K Z A j p1 p2)) (kf := kfW) (z := 38) (H' := H) (B' := B) (ex := fun e => e = 4 ∨ e = 1) (fun T => c_row hM hm hA.1 hA.2 hj) ?_ (fun e T h1 he h => w_row_e he h) (fun x N1 F1 G1 K1 Z1 h => w_row zL0 h) (fun hc t h75 => d_row h75 hI hH hj) ?_ ?_ hg
    · intro e h
      simp only [q_row] at h
      repeat' split at h
      all_goals first | (cases h; done) | (cases h; decide)
    · intro e he
      rcases he with rfl | rfl <;> decide
    · intro r h
      simp only [q_row] at h
      repeat' split at h
      all_goals first | (cases h; done) | skip
      all_goals
        cases h
        exact ⟨⟨_, rfl⟩, M, A, l, R, hI, hH⟩
  · exact zStp_err (e := 4) (k := 1) (dv := (some (.int 0))) (z := 38) (fun T => c_row_no hM hno) (fun T h1 h => w_row_e (Or.inl rfl) h) (fun hc t h75 => d_row_no h75 hM hno) (fun v' => ⟨0, rfl, fun q => absurd q (by decide)⟩) hg
theorem s_told {p0 p1 : Int32} (hg : zGd N F G K Z H tl n) : zStp sL sx 121 98 [.ref 0, .int p0, .int p1, .ref 92] [.ref 75, .int p0, .int p1] 1 N F G K Z H c B v tl n := by
  have hg' := hg
  obtain ⟨⟨M, A, l, R, hI, hH⟩, ht, hq⟩ := hg'
  have hA := hI.2.2.1
  have hM := i_m1 hI
  have hm := i_m hI
  have hK := i_kb hI
  rcases zucase p0 hm with ⟨j, hj, rfl⟩ | hno
  · rcases zswc p1 7 (by decide) with hw | ⟨k, hk, rfl⟩
    · exact zStp_err (e := 1) (k := 2) (dv := (some (.int 0))) (z := 39) (fun T => c_told_bad hM hm hj hw) (fun T h1 h => w_told_e (Or.inr rfl) h) (fun hc t h75 => d_told_bad h75 hI hH hj hw) (fun v' => ⟨0, rfl, fun q => absurd q (by decide)⟩) hg
    · refine zStp_1 (q := .ok (some (.int (q_told G K M j k)), N, F, G, K, Z)) (kf := kfW) (z := 39) (H' := H) (B' := B) (ex := fun e => e = 4 ∨ e = 1) (fun T => c_told hK hM hm hj hk) (fun e h => by cases h) (fun e T h1 he h => w_told_e he h) (fun x N1 F1 G1 K1 Z1 h => w_told zL0 h) (fun hc t h75 => d_told h75 hI hH hj hk) (fun e he => by rcases he with rfl | rfl <;> decide) (fun r h => ?_) hg
      cases h
      exact ⟨⟨_, rfl⟩, M, A, l, R, hI, hH⟩
  · exact zStp_err (e := 4) (k := 1) (dv := (some (.int 0))) (z := 39) (fun T => c_told_no hM hno) (fun T h1 h => w_told_e (Or.inl rfl) h) (fun hc t h75 => d_told_no h75 hM hno) (fun v' => ⟨0, rfl, fun q => absurd q (by decide)⟩) hg
theorem s_packed {p0 : Int32} (hg : zGd N F G K Z H tl n) : zStp sL sx 122 99 [.ref 0, .int p0, .ref 92] [.ref 75, .int p0] 2 N F G K Z H c B v tl n := by
  have hg' := hg
  obtain ⟨⟨M, A, l, R, hI, hH⟩, ht, hq⟩ := hg'
  have hA := hI.2.2.1
  have hM := i_m1 hI
  have hm := i_m hI
  have hK := i_kb hI
  rcases zucase p0 hm with ⟨j, hj, rfl⟩ | hno
  · refine zStp_2 (q := .ok (some (.long (zpkU (G j) (Z j))), N, F, G, K, Z)) (kf := kfW) (z := 40) (H' := H) (B' := B) (ex := fun e => e = 4) (fun T => c_packed hM hm hj) (fun e h => by cases h) (fun e T h1 he h => w_packed_e he h) (fun x N1 F1 G1 K1 Z1 h => w_packed zL0 h) (fun hc t h75 => d_packed h75 hI hH hj) (fun e he => by rcases he with rfl; decide) (fun r h => ?_) hg
    cases h
    exact ⟨⟨_, rfl⟩, M, A, l, R, hI, hH⟩
  · exact zStp_err (e := 4) (k := 1) (dv := (some (.long 0))) (z := 40) (fun T => c_packed_no hM hno) (fun T h1 h => w_packed_e rfl h) (fun hc t h75 => d_packed_no h75 hM hno) (fun v' => ⟨0, rfl, fun q => absurd q (by decide)⟩) hg
end ZSX
