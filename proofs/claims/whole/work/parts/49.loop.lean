/-! the law's loop -/
section ZLQ
variable {sL : Nat} {sx : Nat → Int32} {h hF : zH} {o : Outcome} {i : Nat}
set_option maxRecDepth 100000 in
theorem zw_count {N : Nat → Int32} {F G : Nat → Nat → Int32} {K : Nat → Option Nat} {H : Nat → Int32} {Z : Nat → Int64} {c b : Int32} {B : Nat → Int32} {tl : zH} {v : Int64} {a5 a6 a7 : Value} (hi : i + 5 ≤ sL) (hn : sL < 2 ^ 31) (h1 : zMe sL sx 11 41 [.ref 0, .int (sx (i + 1))] (zL N F G K Z N F G H Z c B v tl) (.returned (some (.int b))) (zL N F G K Z N F G H Z c B v tl)) (h2 : zMe sL sx 11 100 [.ref 75, .int (sx (i + 1))] (zL N F G K Z N F G H Z c B v tl) (.returned (some (.int b))) h) (ih : ∀ a b e : Value, zR sL sx 12 123 1487 [.retAddr 1, .ref 0, .ref 75, .ref 92, .int (nI i), a, b, e] [] h o hF) : zR sL sx 12 123 1462 [.retAddr 1, .ref 0, .ref 75, .ref 92, .int (nI i), a5, a6, a7] [] (zL N F G K Z N F G H Z c B v tl) o hF := by
  refine zR_s rfl ?_
  refine zR_s rfl ?_
  refine zR_s rfl ?_
  refine zR_cst (v := 1) rfl rfl rfl ?_
  refine zR_iadd rfl ?_
  refine zR_scrk (K := 1) rfl rfl (by omega) hn ?_
  refine zR_call rfl rfl rfl rfl (zcallok_v (zL0) rfl rfl) (h1) ?_
  refine zR_s rfl ?_
  refine zR_s rfl ?_
  refine zR_s rfl ?_
  refine zR_cst (v := 1) rfl rfl rfl ?_
  refine zR_iadd rfl ?_
  refine zR_scrk (K := 1) rfl rfl (by omega) hn ?_
  refine zR_call rfl rfl rfl rfl (zcallok_v (zL75) rfl rfl) (h2) ?_
  refine zR_iceq rfl rfl (fun _ => ?_) (fun c => by first | exact absurd (rfl) c | exact absurd c (rfl))
  exact ih _ _ _
theorem zw_le {sL : Nat} (hL : sL ≤ 2560) (hi : i ≤ sL) : nI i ≤ nI sL - 5 ↔ i + 5 ≤ sL := by
  by_cases h5 : 5 ≤ sL
  · have e : nI sL = nI (sL - 5) + 5 := by
      have e1 := nI_add (sL - 5) 5
      rw [Nat.sub_add_cancel h5] at e1
      exact e1.symm
    rw [e, Int32.add_sub_cancel, nI_leI (by omega) (by omega)]
    omega
  · rcases (show sL = 0 ∨ sL = 1 ∨ sL = 2 ∨ sL = 3 ∨ sL = 4 by omega) with rfl | rfl | rfl | rfl | rfl <;> rcases (show i = 0 ∨ i = 1 ∨ i = 2 ∨ i = 3 ∨ i = 4 by omega) with rfl | rfl | rfl | rfl | rfl <;> decide
set_option maxRecDepth 100000 in
theorem zw_head {a5 a6 a7 : Value} (hL : sL ≤ 2560) (hi : i + 5 ≤ sL) (kk : zR sL sx 12 123 39 [.retAddr 1, .ref 0, .ref 75, .ref 92, .int (nI i), a5, a6, a7] [.int (sx i &&& 31)] h o hF) : zR sL sx 12 123 23 [.retAddr 1, .ref 0, .ref 75, .ref 92, .int (nI i), a5, a6, a7] [] h o hF := by
  refine zR_s rfl ?_
  refine zR_s rfl ?_
  refine zR_len rfl ?_
  refine zR_cst (v := 5) rfl rfl rfl ?_
  refine zR_isub rfl ?_
  refine zR_mgt rfl rfl (fun c => by first | exact absurd c (((zw_le hL (by omega)).mpr hi)) | exact absurd (((zw_le hL (by omega)).mpr hi)) c) (fun _ => ?_)
  refine zR_s rfl ?_
  refine zR_s rfl ?_
  refine zR_scr rfl (by omega) (by omega) ?_
  refine zR_cst (v := 31) rfl rfl rfl ?_
  refine zR_s rfl ?_
  exact kk
set_option maxRecDepth 100000 in
theorem zw_end {a5 a6 a7 : Value} (hL : sL ≤ 2560) (hi : i ≤ sL) (hj : ¬ i + 5 ≤ sL) : zR sL sx 12 123 23 [.retAddr 1, .ref 0, .ref 75, .ref 92, .int (nI i), a5, a6, a7] [] h (.returned (some (.int 1))) h := by
  refine zR_s rfl ?_
  refine zR_s rfl ?_
  refine zR_len rfl ?_
  refine zR_cst (v := 5) rfl rfl rfl ?_
  refine zR_isub rfl ?_
  refine zR_mgt rfl rfl (fun _ => ?_) (fun c => by first | exact absurd ((fun q => hj ((zw_le hL hi).mp q))) c | exact absurd c ((fun q => hj ((zw_le hL hi).mp q))))
  refine zR_cst (v := 1) rfl rfl rfl ?_
  first | refine zR_rete rfl rfl ?_ ?_ | refine zR_retb rfl rfl ?_ ?_
  all_goals (rfl)
set_option maxRecDepth 100000 in
theorem zw_next {a5 a6 a7 : Value} (kk : zR sL sx 12 123 23 [.retAddr 1, .ref 0, .ref 75, .ref 92, .int (nI (i + 5)), a5, a6, a7] [] h o hF) : zR sL sx 12 123 1487 [.retAddr 1, .ref 0, .ref 75, .ref 92, .int (nI i), a5, a6, a7] [] h o hF := by
  rw [show nI (i + 5) = nI i + 5 from (nI_add i 5).symm] at kk
  refine zR_s rfl ?_
  refine zR_goto rfl rfl ?_
  exact kk
theorem zGd_up {N : Nat → Int32} {F G : Nat → Nat → Int32} {K : Nat → Option Nat} {H : Nat → Int32} {Z : Nat → Int64} {tl : zH} {n : Nat} (hg : zGd N F G K Z H tl n) : zGd N F G K Z H tl (n + 1) := ⟨hg.1, Nat.le_succ_of_le hg.2.1, hg.2.2⟩
/-- the law's heap at its end -/
def zFn (m : Nat) (hF : zH) : Prop := ∃ (N : Nat → Int32) (F G : Nat → Nat → Int32) (K : Nat → Option Nat) (Z : Nat → Int64) (H : Nat → Int32) (c : Int32) (B : Nat → Int32) (v : Int64) (tl : zH), hF = zL N F G K Z N F G H Z c B v tl ∧ tl.length ≤ m ∧ ∀ q ∈ tl, 100 ≤ q.1
set_option maxRecDepth 100000 in
theorem zw_loop (hL : sL ≤ 2560) : ∀ (r n i : Nat) (N : Nat → Int32) (F G : Nat → Nat → Int32) (K : Nat → Option Nat) (Z : Nat → Int64) (H : Nat → Int32) (c : Int32) (B : Nat → Int32) (v : Int64) (tl : zH), sL - i < r → i = 5 * n → i ≤ sL → zGd N F G K Z H tl n → ∃ hF, (∀ a b e : Value, zR sL sx 12 123 23 [.retAddr 1, .ref 0, .ref 75, .ref 92, .int (nI i), a, b, e] [] (zL N F G K Z N F G H Z c B v tl) (.returned (some (.int 1))) hF) ∧ zFn 512 hF := by
  have hn : sL < 2 ^ 31 := by omega
  intro r
  induction r with
  | zero => intro n i N F G K Z H c B v tl h; omega
  | succ r ih =>
    intro n i N F G K Z H c B v tl hr hin hi hg
    by_cases hq : i + 5 ≤ sL
    · have ih' : ∀ (N : Nat → Int32) (F G : Nat → Nat → Int32) (K : Nat → Option Nat) (Z : Nat → Int64) (H : Nat → Int32) (c : Int32) (B : Nat → Int32) (v : Int64) (tl : zH), zGd N F G K Z H tl (n + 1) → ∃ hF, (∀ a b e : Value, zR sL sx 12 123 1487 [.retAddr 1, .ref 0, .ref 75, .ref 92, .int (nI i), a, b, e] [] (zL N F G K Z N F G H Z c B v tl) (.returned (some (.int 1))) hF) ∧ zFn 512 hF := by
        intro N F G K Z H c B v tl hg'
        obtain ⟨hF, h1, h2⟩ := ih (n + 1) (i + 5) N F G K Z H c B v tl (by omega) (by omega) hq hg'
        exact ⟨hF, fun a b e => zw_next (h1 a b e), h2⟩
      rcases zswc (sx i &&& 31) 22 (by decide) with hw | ⟨k, hk, ek⟩
      · obtain ⟨hF, h1, h2⟩ := ih' N F G K Z H c B v tl (zGd_up hg)
        exact ⟨hF, fun a b e => zw_head hL hq (zR_sw (tgt := 1487) rfl (zsw_d hw) (h1 a b e)), h2⟩
      · rcases (show k = 0 ∨ k = 1 ∨ k = 2 ∨ k = 3 ∨ k = 4 ∨ k = 5 ∨ k = 6 ∨ k = 7 ∨ k = 8 ∨ k = 9 ∨ k = 10 ∨ k = 11 ∨ k = 12 ∨ k = 13 ∨ k = 14 ∨ k = 15 ∨ k = 16 ∨ k = 17 ∨ k = 18 ∨ k = 19 ∨ k = 20 ∨ k = 21 ∨ k = 22 by omega) with rfl | rfl | rfl | rfl | rfl | rfl | rfl | rfl | rfl | rfl | rfl | rfl | rfl | rfl | rfl | rfl | rfl | rfl | rfl | rfl | rfl | rfl | rfl
        · obtain ⟨N1, F1, G1, K1, Z1, H1, B1, k1, v1, tl1, mv, h1, h2, hg1, hv⟩ := s_rows (sL := sL) (sx := sx) (p0 := sx (i + 1)) (c := c) (B := B) (v := v) hg
          have e1 : mv = none := hv
          subst e1
          obtain ⟨hF, h3, h4⟩ := ih' _ _ _ _ _ _ k1 B1 v1 tl1 hg1
          exact ⟨hF, fun a b e => zw_head hL hq (by rw [ek]; exact zR_sw (tgt := 144) rfl rfl (zw_rows hq hn h1 zL75 h2 h3)), h4⟩
        · obtain ⟨N1, F1, G1, K1, Z1, H1, B1, k1, v1, tl1, mv, h1, h2, hg1, hv⟩ := s_place (sL := sL) (sx := sx) (p0 := sx (i + 1)) (p1 := sx (i + 2)) (c := c) (B := B) (v := v) hg
          have e1 : mv = none := hv
          subst e1
          obtain ⟨hF, h3, h4⟩ := ih' _ _ _ _ _ _ k1 B1 v1 tl1 hg1
          exact ⟨hF, fun a b e => zw_head hL hq (by rw [ek]; exact zR_sw (tgt := 180) rfl rfl (zw_place hq hn h1 zL75 h2 h3)), h4⟩
        · obtain ⟨N1, F1, G1, K1, Z1, H1, B1, k1, v1, tl1, mv, h1, h2, hg1, hv⟩ := s_good (sL := sL) (sx := sx) (p0 := sx (i + 1)) (p1 := sx (i + 2)) (c := c) (B := B) (v := v) hg
          have e1 : mv = none := hv
          subst e1
          obtain ⟨hF, h3, h4⟩ := ih' _ _ _ _ _ _ k1 B1 v1 tl1 hg1
          exact ⟨hF, fun a b e => zw_head hL hq (by rw [ek]; exact zR_sw (tgt := 228) rfl rfl (zw_good hq hn h1 zL75 h2 h3)), h4⟩
        · obtain ⟨N1, F1, G1, K1, Z1, H1, B1, k1, v1, tl1, mv, h1, h2, hg1, hv⟩ := s_lot (sL := sL) (sx := sx) (p0 := sx (i + 1)) (p1 := sx (i + 2)) (c := c) (B := B) (v := v) hg
          obtain ⟨b1, e1, hv1⟩ : ∃ b : Int32, mv = some (.int b) ∧ (k1 = 0 → v1 = b.toInt64) := hv
          subst e1
          obtain ⟨hF, h3, h4⟩ := ih' _ _ _ _ _ _ k1 B1 v1 tl1 hg1
          exact ⟨hF, fun a b e => zw_head hL hq (by rw [ek]; exact zR_sw (tgt := 276) rfl rfl (zw_lot hq hn h1 zL75 h2 hv1 h3)), h4⟩
        · obtain ⟨N1, F1, G1, K1, Z1, H1, B1, k1, v1, tl1, mv, h1, h2, hg1, hv⟩ := s_unit (sL := sL) (sx := sx) (p0 := sx (i + 1)) (p1 := sx (i + 2)) (p2 := sx (i + 3)) (p3 := sx (i + 4)) (c := c) (B := B) (v := v) hg
          obtain ⟨b1, e1, hv1⟩ : ∃ b : Int32, mv = some (.int b) ∧ (k1 = 0 → v1 = b.toInt64) := hv
          subst e1
          obtain ⟨hF, h3, h4⟩ := ih' _ _ _ _ _ _ k1 B1 v1 tl1 hg1
          exact ⟨hF, fun a b e => zw_head hL hq (by rw [ek]; exact zR_sw (tgt := 344) rfl rfl (zw_unit hq hn h1 zL75 h2 hv1 h3)), h4⟩
        · obtain ⟨N1, F1, G1, K1, Z1, H1, B1, k1, v1, tl1, mv, h1, h2, hg1, hv⟩ := s_move (sL := sL) (sx := sx) (p0 := sx (i + 1)) (p1 := sx (i + 2)) (c := c) (B := B) (v := v) hg
          have e1 : mv = none := hv
          subst e1
          obtain ⟨hF, h3, h4⟩ := ih' _ _ _ _ _ _ k1 B1 v1 tl1 hg1
          exact ⟨hF, fun a b e => zw_head hL hq (by rw [ek]; exact zR_sw (tgt := 436) rfl rfl (zw_move hq hn h1 zL75 h2 h3)), h4⟩
        · obtain ⟨N1, F1, G1, K1, Z1, H1, B1, k1, v1, tl1, mv, h1, h2, hg1, hv⟩ := s_into (sL := sL) (sx := sx) (p0 := sx (i + 1)) (p1 := sx (i + 2)) (c := c) (B := B) (v := v) hg
          have e1 : mv = none := hv
          subst e1
          obtain ⟨hF, h3, h4⟩ := ih' _ _ _ _ _ _ k1 B1 v1 tl1 hg1
          exact ⟨hF, fun a b e => zw_head hL hq (by rw [ek]; exact zR_sw (tgt := 484) rfl rfl (zw_into hq hn h1 zL75 h2 h3)), h4⟩
        · obtain ⟨N1, F1, G1, K1, Z1, H1, B1, k1, v1, tl1, mv, h1, h2, hg1, hv⟩ := s_out (sL := sL) (sx := sx) (p0 := sx (i + 1)) (c := c) (B := B) (v := v) hg
          have e1 : mv = none := hv
          subst e1
          obtain ⟨hF, h3, h4⟩ := ih' _ _ _ _ _ _ k1 B1 v1 tl1 hg1
          exact ⟨hF, fun a b e => zw_head hL hq (by rw [ek]; exact zR_sw (tgt := 532) rfl rfl (zw_out hq hn h1 zL75 h2 h3)), h4⟩
        · obtain ⟨N1, F1, G1, K1, Z1, H1, B1, k1, v1, tl1, mv, h1, h2, hg1, hv⟩ := s_split (sL := sL) (sx := sx) (p0 := sx (i + 1)) (p1 := sx (i + 2)) (c := c) (B := B) (v := v) hg
          obtain ⟨b1, e1, hv1⟩ : ∃ b : Int32, mv = some (.int b) ∧ (k1 = 0 → v1 = b.toInt64) := hv
          subst e1
          obtain ⟨hF, h3, h4⟩ := ih' _ _ _ _ _ _ k1 B1 v1 tl1 hg1
          exact ⟨hF, fun a b e => zw_head hL hq (by rw [ek]; exact zR_sw (tgt := 568) rfl rfl (zw_split hq hn h1 zL75 h2 hv1 h3)), h4⟩
        · obtain ⟨N1, F1, G1, K1, Z1, H1, B1, k1, v1, tl1, mv, h1, h2, hg1, hv⟩ := s_join (sL := sL) (sx := sx) (p0 := sx (i + 1)) (p1 := sx (i + 2)) (c := c) (B := B) (v := v) hg
          have e1 : mv = none := hv
          subst e1
          obtain ⟨hF, h3, h4⟩ := ih' _ _ _ _ _ _ k1 B1 v1 tl1 hg1
          exact ⟨hF, fun a b e => zw_head hL hq (by rw [ek]; exact zR_sw (tgt := 636) rfl rfl (zw_join hq hn h1 zL75 h2 h3)), h4⟩
        · obtain ⟨N1, F1, G1, K1, Z1, H1, B1, k1, v1, tl1, mv, h1, h2, hg1, hv⟩ := s_state (sL := sL) (sx := sx) (p0 := sx (i + 1)) (p1 := sx (i + 2)) (c := c) (B := B) (v := v) hg
          have e1 : mv = none := hv
          subst e1
          obtain ⟨hF, h3, h4⟩ := ih' _ _ _ _ _ _ k1 B1 v1 tl1 hg1
          exact ⟨hF, fun a b e => zw_head hL hq (by rw [ek]; exact zR_sw (tgt := 684) rfl rfl (zw_state hq hn h1 zL75 h2 h3)), h4⟩
        · obtain ⟨N1, F1, G1, K1, Z1, H1, B1, k1, v1, tl1, mv, h1, h2, hg1, hv⟩ := s_serial (sL := sL) (sx := sx) (p0 := sx (i + 1)) (nn := zser (sx (i + 2)) (sx (i + 3))) (c := c) (B := B) (v := v) hg
          have e1 : mv = none := hv
          subst e1
          obtain ⟨hF, h3, h4⟩ := ih' _ _ _ _ _ _ k1 B1 v1 tl1 hg1
          exact ⟨hF, fun a b e => zw_head hL hq (by rw [ek]; exact zR_sw (tgt := 732) rfl rfl (zw_serial hq hn h1 zL75 h2 h3)), h4⟩
        · obtain ⟨N1, F1, G1, K1, Z1, H1, B1, k1, v1, tl1, mv, h1, h2, hg1, hv⟩ := s_lost (sL := sL) (sx := sx) (p0 := sx (i + 1)) (p1 := sx (i + 2)) (c := c) (B := B) (v := v) hg
          have e1 : mv = none := hv
          subst e1
          obtain ⟨hF, h3, h4⟩ := ih' _ _ _ _ _ _ k1 B1 v1 tl1 hg1
          exact ⟨hF, fun a b e => zw_head hL hq (by rw [ek]; exact zR_sw (tgt := 812) rfl rfl (zw_lost hq hn h1 zL75 h2 h3)), h4⟩
        · obtain ⟨N1, F1, G1, K1, Z1, H1, B1, k1, v1, tl1, mv, h1, h2, hg1, hv⟩ := s_found (sL := sL) (sx := sx) (p0 := sx (i + 1)) (p1 := sx (i + 2)) (c := c) (B := B) (v := v) hg
          have e1 : mv = none := hv
          subst e1
          obtain ⟨hF, h3, h4⟩ := ih' _ _ _ _ _ _ k1 B1 v1 tl1 hg1
          exact ⟨hF, fun a b e => zw_head hL hq (by rw [ek]; exact zR_sw (tgt := 860) rfl rfl (zw_found hq hn h1 zL75 h2 h3)), h4⟩
        · obtain ⟨N1, F1, G1, K1, Z1, H1, B1, k1, v1, tl1, mv, h1, h2, hg1, hv⟩ := s_weigh (sL := sL) (sx := sx) (p0 := sx (i + 1)) (p1 := sx (i + 2)) (c := c) (B := B) (v := v) hg
          obtain ⟨b1, e1, hv1⟩ : ∃ b : Int32, mv = some (.int b) ∧ (k1 = 0 → v1 = b.toInt64) := hv
          subst e1
          obtain ⟨hF, h3, h4⟩ := ih' _ _ _ _ _ _ k1 B1 v1 tl1 hg1
          exact ⟨hF, fun a b e => zw_head hL hq (by rw [ek]; exact zR_sw (tgt := 908) rfl rfl (zw_weigh hq hn h1 zL75 h2 hv1 h3)), h4⟩
        · obtain ⟨N1, F1, G1, K1, Z1, H1, B1, k1, v1, tl1, mv, h1, h2, hg1, hv⟩ := s_day (sL := sL) (sx := sx) (p0 := sx (i + 1)) (c := c) (B := B) (v := v) hg
          obtain ⟨b1, e1, hv1⟩ : ∃ b : Int32, mv = some (.int b) ∧ (k1 = 0 → v1 = b.toInt64) := hv
          subst e1
          obtain ⟨hF, h3, h4⟩ := ih' _ _ _ _ _ _ k1 B1 v1 tl1 hg1
          exact ⟨hF, fun a b e => zw_head hL hq (by rw [ek]; exact zR_sw (tgt := 976) rfl rfl (zw_day hq hn h1 zL75 h2 hv1 h3)), h4⟩
        · obtain ⟨N1, F1, G1, K1, Z1, H1, B1, k1, v1, tl1, mv, h1, h2, hg1, hv⟩ := s_at (sL := sL) (sx := sx) (p0 := sx (i + 1)) (p1 := sx (i + 2)) (c := c) (B := B) (v := v) hg
          obtain ⟨b1, e1, hv1⟩ : ∃ b : Int32, mv = some (.int b) ∧ (k1 = 0 → v1 = b.toInt64) := hv
          subst e1
          obtain ⟨hF, h3, h4⟩ := ih' _ _ _ _ _ _ k1 B1 v1 tl1 hg1
          exact ⟨hF, fun a b e => zw_head hL hq (by rw [ek]; exact zR_sw (tgt := 1032) rfl rfl (zw_at hq hn h1 zL75 h2 hv1 h3)), h4⟩
        · obtain ⟨N1, F1, G1, K1, Z1, H1, B1, k1, v1, tl1, mv, h1, h2, hg1, hv⟩ := s_find (sL := sL) (sx := sx) (p0 := sx (i + 1)) (p1 := sx (i + 2)) (p2 := sx (i + 3)) (p3 := sx (i + 4)) (c := c) (B := B) (v := v) hg
          obtain ⟨b1, e1, hv1⟩ : ∃ b : Int32, mv = some (.int b) ∧ (k1 = 0 → v1 = b.toInt64) := hv
          subst e1
          obtain ⟨hF, h3, h4⟩ := ih' _ _ _ _ _ _ k1 B1 v1 tl1 hg1
          exact ⟨hF, fun a b e => zw_head hL hq (by rw [ek]; exact zR_sw (tgt := 1100) rfl rfl (zw_find hq hn h1 zL75 h2 hv1 h3)), h4⟩
        · obtain ⟨N1, F1, G1, K1, Z1, H1, B1, k1, v1, tl1, mv, h1, h2, hg1, hv⟩ := s_sum (sL := sL) (sx := sx) (p0 := sx (i + 1)) (p1 := sx (i + 2)) (c := c) (B := B) (v := v) hg
          obtain ⟨b1, e1, hv1⟩ : ∃ b : Int64, mv = some (.long b) ∧ (k1 = 0 → v1 = b) := hv
          subst e1
          obtain ⟨hF, h3, h4⟩ := ih' _ _ _ _ _ _ k1 B1 v1 tl1 hg1
          exact ⟨hF, fun a b e => zw_head hL hq (by rw [ek]; exact zR_sw (tgt := 1192) rfl rfl (zw_sum hq hn h1 zL75 h2 hv1 h3)), h4⟩
        · obtain ⟨N1, F1, G1, K1, Z1, H1, B1, k1, v1, tl1, mv, h1, h2, hg1, hv⟩ := s_row (sL := sL) (sx := sx) (p0 := sx (i + 1)) (p1 := sx (i + 2)) (p2 := sx (i + 3)) (c := c) (B := B) (v := v) hg
          obtain ⟨b1, e1, hv1⟩ : ∃ b : Int32, mv = some (.int b) ∧ (k1 = 0 → v1 = b.toInt64) := hv
          subst e1
          obtain ⟨hF, h3, h4⟩ := ih' _ _ _ _ _ _ k1 B1 v1 tl1 hg1
          exact ⟨hF, fun a b e => zw_head hL hq (by rw [ek]; exact zR_sw (tgt := 1259) rfl rfl (zw_row hq hn h1 zL75 h2 hv1 h3)), h4⟩
        · obtain ⟨N1, F1, G1, K1, Z1, H1, B1, k1, v1, tl1, mv, h1, h2, hg1, hv⟩ := s_told (sL := sL) (sx := sx) (p0 := sx (i + 1)) (p1 := sx (i + 2)) (c := c) (B := B) (v := v) hg
          obtain ⟨b1, e1, hv1⟩ : ∃ b : Int32, mv = some (.int b) ∧ (k1 = 0 → v1 = b.toInt64) := hv
          subst e1
          obtain ⟨hF, h3, h4⟩ := ih' _ _ _ _ _ _ k1 B1 v1 tl1 hg1
          exact ⟨hF, fun a b e => zw_head hL hq (by rw [ek]; exact zR_sw (tgt := 1339) rfl rfl (zw_told hq hn h1 zL75 h2 hv1 h3)), h4⟩
        · obtain ⟨N1, F1, G1, K1, Z1, H1, B1, k1, v1, tl1, mv, h1, h2, hg1, hv⟩ := s_packed (sL := sL) (sx := sx) (p0 := sx (i + 1)) (c := c) (B := B) (v := v) hg
          obtain ⟨b1, e1, hv1⟩ : ∃ b : Int64, mv = some (.long b) ∧ (k1 = 0 → v1 = b) := hv
          subst e1
          obtain ⟨hF, h3, h4⟩ := ih' _ _ _ _ _ _ k1 B1 v1 tl1 hg1
          exact ⟨hF, fun a b e => zw_head hL hq (by rw [ek]; exact zR_sw (tgt := 1407) rfl rfl (zw_packed hq hn h1 zL75 h2 hv1 h3)), h4⟩
        · obtain ⟨⟨M, A, l, R, hI, hH⟩, ht, hk2⟩ := hg
          obtain ⟨hF, h3, h4⟩ := ih' N F G K Z H 0 B v tl (zGd_up ⟨⟨M, A, l, R, hI, hH⟩, ht, hk2⟩)
          have h1 : zMe sL sx 11 41 [.ref 0, .int (sx (i + 1))] (zL N F G K Z N F G H Z c B v tl) (.returned (some (.int (q_count N G M (sx (i + 1)))))) (zL N F G K Z N F G H Z c B v tl) := c_count2 (i_m1 hI) (i_m hI)
          have h2 : zMe sL sx 11 100 [.ref 75, .int (sx (i + 1))] (zL N F G K Z N F G H Z c B v tl) (.returned (some (.int (q_count N G M (sx (i + 1)))))) (zL N F G K Z N F G H Z 0 B v tl) := d_count zCs_len hI hH
          exact ⟨hF, fun a b e => zw_head hL hq (by rw [ek]; exact zR_sw (tgt := 1462) rfl rfl (zw_count hq hn h1 h2 h3)), h4⟩
    · exact ⟨_, fun a b e => zw_end hL hi hq, N, F, G, K, Z, H, c, B, v, tl, rfl, by have := hg.2.1; omega, hg.2.2⟩
end ZLQ
