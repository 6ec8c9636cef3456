/-! the reference's leave and mayBecome -/
def zgb (K : Nat → Option Nat) (u k : Nat) : Bool := decide (k = u) || zlw K u 4 (K k)
def zbl (B : Nat → Int32) (K : Nat → Option Nat) (u j : Nat) : Nat → Int32 := fun k => bif decide (k < j) then bI (zgb K u k) else B k
def zhl (H : Nat → Int32) (K : Nat → Option Nat) (u j : Nat) : Nat → Int32 := fun k => bif decide (k < j) && zgb K u k then -1 else H k
section ZMV
variable {sL : Nat} {sx : Nat → Int32} {d : Nat} {h : zH}
variable {N : Nat → Int32} {F G : Nat → Nat → Int32} {K : Nat → Option Nat} {H : Nat → Int32} {Z : Nat → Int64} {c : Int32} {B : Nat → Int32} {hc t : zH} {M A u i : Nat}
theorem zbl_0 : zbl B K u 0 = B := by funext i; simp [zbl]
theorem zbl_s {j : Nat} : zbl B K u (j + 1) = upd (zbl B K u j) j (bI (zgb K u j)) := by
  funext i
  simp only [zbl, upd]
  by_cases e : i = j
  · subst e; simp
  · rw [if_neg e, show decide (i < j + 1) = decide (i < j) from by simp; omega]
theorem zhl_0 : zhl H K u 0 = H := by funext i; simp [zhl]
theorem zhl_s {j : Nat} : zhl H K u (j + 1) = bif zgb K u j then upd (zhl H K u j) j (-1) else zhl H K u j := by
  cases hb : zgb K u j
  · funext i
    simp only [zhl, cond_false]
    by_cases e : i = j
    · subst e; simp [hb]
    · rw [show decide (i < j + 1) = decide (i < j) from by simp; omega]
  · funext i
    simp only [zhl, cond_true, upd]
    by_cases e : i = j
    · subst e; simp [hb]
    · rw [if_neg e, show decide (i < j + 1) = decide (i < j) from by simp; omega]
theorem zgb_t1 {k : Nat} (hk : k < 2 ^ 31) (hu : u < 2 ^ 31) (e : nI k = nI u) : zgb K u k = true := by simp [zgb, (nI_eq hk hu).mp e]
theorem zgb_w {k : Nat} {b : Bool} (hk : k < 2 ^ 31) (hu : u < 2 ^ 31) (e : ¬ nI k = nI u) (e2 : zlw K u 4 (K k) = b) : zgb K u k = b := by
  have : ¬ k = u := fun q => e (by rw [q])
  simp [zgb, this, e2]
theorem m_leave {s : Int32} (h75 : hc.length = 75) (hM : N 1 = nI M) (hm : M ≤ 64) (hH : zHK M K H) (hC : zCh K M) (hu : u < M) : zMe sL sx (d + 1) 86 [.ref 75, .int (nI u), .int s] (hc ++ (zMd N F G H Z c B ++ t)) (.returned none) (hc ++ (zMd N F (ztak G K u s M) (zhl H K u M) Z c (zbl B K u M) ++ t)) := by
  show zR sL sx _ 86 0 [.ref 75, .int (nI u), .int s, .retAddr 0] [] _ _ _
  refine zR_cst (v := 0) rfl rfl rfl ?_
  refine zR_s rfl ?_
  skip
  refine zR_loop0 (M := M) (fun j => [.ref 75, .int (nI u), .int s, .int (nI j)]) (fun j => hc ++ (zMd N F G H Z c (zbl B K u j) ++ t)) (fun _ => True) rfl (by rw [zbl_0]) trivial (fun _ => ?_) (fun j hj _ ih => ?_)
  · refine zR_s rfl ?_
    refine zR_s rfl ?_
    refine zR_get rfl rfl (zm0 h75) rfl ?_
    refine zR_icge rfl rfl (fun _ => ?_) (fun c => by first | exact absurd ((by rw [hM]; exact Int32.le_refl _)) c | exact absurd c ((by rw [hM]; exact Int32.le_refl _)))
    refine zR_cst (v := 0) rfl rfl rfl ?_
    refine zR_s rfl ?_
    skip
    refine zR_loop0 (M := M) (fun j => [.ref 75, .int (nI u), .int s, .int (nI j)]) (fun j => hc ++ (zMd N F (ztak G K u s j) (zhl H K u j) Z c (zbl B K u M) ++ t)) (fun _ => True) rfl (by rw [zhl_0, ztak_0]) trivial (fun _ => ?_) (fun j hj _ ih => ?_)
    · refine zR_s rfl ?_
      refine zR_s rfl ?_
      refine zR_get rfl rfl (zm0 h75) rfl ?_
      refine zR_icge rfl rfl (fun _ => ?_) (fun c => by first | exact absurd ((by rw [hM]; exact Int32.le_refl _)) c | exact absurd c ((by rw [hM]; exact Int32.le_refl _)))
      refine zR_rete rfl rfl ?_ ?_
      all_goals (first | rfl | simp [bI, *])
    · have eb : zbl B K u M j = bI (zgb K u j) := by simp [zbl, hj]
      have w := ih trivial
      rw [ztak_s, zhl_s] at w
      refine zR_s rfl ?_
      refine zR_s rfl ?_
      refine zR_get rfl rfl (zm0 h75) rfl ?_
      refine zR_icge rfl rfl (fun c => by first | exact absurd c ((by rw [hM]; exact nI_ge hj (by omega))) | exact absurd ((by rw [hM]; exact nI_ge hj (by omega))) c) (fun _ => ?_)
      refine zR_s rfl ?_
      refine zR_get rfl rfl (zm0 h75) rfl ?_
      refine zR_s rfl ?_
      refine zR_bldMB rfl h75 (by omega) ?_
      rw [eb]
      first | refine zR_dt rfl rfl (fun c1 => ?_) (fun c1 => ?_) | refine zR_bt rfl rfl (fun c1 => ?_) (fun c1 => ?_) | refine zR_ifne rfl rfl (fun c1 => ?_) (fun c1 => ?_)
      · refine zR_s rfl ?_
        refine zR_get rfl rfl (zm0 h75) rfl ?_
        refine zR_s rfl ?_
        refine zR_s rfl ?_
        refine zR_istMG 5 rfl h75 (by decide) (by omega) ?_
        refine zR_s rfl ?_
        refine zR_get rfl rfl (zm0 h75) rfl ?_
        refine zR_s rfl ?_
        refine zR_cst (v := (-1)) rfl rfl rfl ?_
        refine zR_istMG 6 rfl h75 (by decide) (by omega) ?_
        refine zR_s rfl ?_
        refine zR_get rfl rfl (zm0 h75) rfl ?_
        refine zR_s rfl ?_
        refine zR_cst (v := (-1)) rfl rfl rfl ?_
        refine zR_istMH rfl h75 (by omega) ?_
        first | refine zR_incn rfl rfl rfl ?_ | refine zR_s rfl ?_
        refine zR_goto rfl rfl ?_
        (rw [show (decide (j = u) || zlw K u 4 (K j)) = _ from c1, show zgb K u j = _ from c1] at w; exact w)
      · refine zR_s rfl ?_
        first | refine zR_incn rfl rfl rfl ?_ | refine zR_s rfl ?_
        refine zR_goto rfl rfl ?_
        (rw [show (decide (j = u) || zlw K u 4 (K j)) = _ from c1, show zgb K u j = _ from c1] at w; exact w)
  · have w := ih trivial
    rw [zbl_s] at w
    refine zR_s rfl ?_
    refine zR_s rfl ?_
    refine zR_get rfl rfl (zm0 h75) rfl ?_
    refine zR_icge rfl rfl (fun c => by first | exact absurd c ((by rw [hM]; exact nI_ge hj (by omega))) | exact absurd ((by rw [hM]; exact nI_ge hj (by omega))) c) (fun _ => ?_)
    refine zR_s rfl ?_
    refine zR_get rfl rfl (zm0 h75) rfl ?_
    refine zR_s rfl ?_
    refine zR_s rfl ?_
    refine zR_s rfl ?_
    refine zR_iceq rfl rfl (fun c1 => ?_) (fun c1 => ?_)
    · refine zR_cst (v := 1) rfl rfl rfl ?_
      refine zR_s rfl ?_
      refine zR_bstMB rfl h75 (by omega) (by decide) ?_
      first | refine zR_incn rfl rfl rfl ?_ | refine zR_s rfl ?_
      refine zR_goto rfl rfl ?_
      first | (rw [zgb_t1 (by omega) (by omega) c1] at w; exact w) | (rw [zgb_w (by omega) (by omega) c1 c2] at w; exact w)
    · refine zR_s rfl ?_
      refine zR_s rfl ?_
      refine zR_s rfl ?_
      refine zR_call rfl rfl rfl rfl (zcallok_v (zm0 h75) rfl rfl) (m_isIn h75 hm hH hC hj hu) ?_
      first | refine zR_df rfl rfl (fun c2 => ?_) (fun c2 => ?_) | refine zR_bf rfl rfl (fun c2 => ?_) (fun c2 => ?_) | refine zR_ifeq rfl rfl (fun c2 => ?_) (fun c2 => ?_)
      · refine zR_cst (v := 0) rfl rfl rfl ?_
        refine zR_bstMB rfl h75 (by omega) (by decide) ?_
        first | refine zR_incn rfl rfl rfl ?_ | refine zR_s rfl ?_
        refine zR_goto rfl rfl ?_
        first | (rw [zgb_t1 (by omega) (by omega) c1] at w; exact w) | (rw [zgb_w (by omega) (by omega) c1 c2] at w; exact w)
      · refine zR_cst (v := 1) rfl rfl rfl ?_
        refine zR_s rfl ?_
        refine zR_bstMB rfl h75 (by omega) (by decide) ?_
        first | refine zR_incn rfl rfl rfl ?_ | refine zR_s rfl ?_
        refine zR_goto rfl rfl ?_
        first | (rw [zgb_t1 (by omega) (by omega) c1] at w; exact w) | (rw [zgb_w (by omega) (by omega) c1 c2] at w; exact w)
theorem m_mayBecome {s : Int32} {l : Nat} (h75 : hc.length = 75) (hu : u < 64) (hg : G u 0 = nI l) (hl : l < 16) (hf : F 3 l = G u 2) (hst : G u 5 = 0 ∨ G u 5 = 1 ∨ G u 5 = 2 ∨ G u 5 = 3 ∨ G u 5 = 4 ∨ G u 5 = 5) : zMe sL sx (d + 1) 87 [.ref 75, .int (nI u), .int s] (hc ++ (zMd N F G H Z c B ++ t)) (.returned (some (.int (bI (zbec (G u 5) (G u 2) s (N 3)))))) (hc ++ (zMd N F G H Z c B ++ t)) := by
  show zR sL sx _ 87 0 [.ref 75, .int (nI u), .int s, .retAddr 0] [] _ _ _
  refine zR_s rfl ?_
  refine zR_get rfl rfl (zm0 h75) rfl ?_
  refine zR_s rfl ?_
  refine zR_ildMG 5 rfl h75 (by decide) (hu) ?_
  refine zR_s rfl ?_
  refine zR_s rfl ?_
  refine zR_cst (v := 5) rfl rfl rfl ?_
  refine zR_icne rfl rfl (fun c1 => ?_) (fun c1 => ?_)
  · refine zR_s rfl ?_
    first | refine zR_dt rfl rfl (fun c2 => ?_) (fun c2 => ?_) | refine zR_bt rfl rfl (fun c2 => ?_) (fun c2 => ?_) | refine zR_ifne rfl rfl (fun c2 => ?_) (fun c2 => ?_)
    · refine zR_s rfl ?_
      refine zR_cst (v := 1) rfl rfl rfl ?_
      refine zR_icne rfl rfl (fun c3 => ?_) (fun c3 => ?_)
      · refine zR_s rfl ?_
        refine zR_cst (v := 2) rfl rfl rfl ?_
        refine zR_icne rfl rfl (fun c4 => ?_) (fun c4 => ?_)
        · refine zR_cst (v := 0) rfl rfl rfl ?_
          first | refine zR_rete rfl rfl ?_ ?_ | refine zR_retb rfl rfl ?_ ?_
          all_goals (first | rfl | (rw [← hf]; rcases hst with e | e | e | e | e | e <;> first | (simp_all [zbec, bI]; done) | (simp_all [zbec, bI]; rw [decide_eq_false (Int32.not_lt.mpr (by assumption))]; rfl)))
        · refine zR_s rfl ?_
          first | refine zR_df rfl rfl (fun c5 => ?_) (fun c5 => ?_) | refine zR_bf rfl rfl (fun c5 => ?_) (fun c5 => ?_) | refine zR_ifeq rfl rfl (fun c5 => ?_) (fun c5 => ?_)
          · refine zR_cst (v := 1) rfl rfl rfl ?_
            refine zR_s rfl ?_
            first | refine zR_rete rfl rfl ?_ ?_ | refine zR_retb rfl rfl ?_ ?_
            all_goals (first | rfl | (rw [← hf]; rcases hst with e | e | e | e | e | e <;> first | (simp_all [zbec, bI]; done) | (simp_all [zbec, bI]; rw [decide_eq_false (Int32.not_lt.mpr (by assumption))]; rfl)))
          · refine zR_s rfl ?_
            refine zR_cst (v := 1) rfl rfl rfl ?_
            refine zR_icne rfl rfl (fun c6 => ?_) (fun c6 => ?_)
            · refine zR_cst (v := 0) rfl rfl rfl ?_
              first | refine zR_rete rfl rfl ?_ ?_ | refine zR_retb rfl rfl ?_ ?_
              all_goals (first | rfl | (rw [← hf]; rcases hst with e | e | e | e | e | e <;> first | (simp_all [zbec, bI]; done) | (simp_all [zbec, bI]; rw [decide_eq_false (Int32.not_lt.mpr (by assumption))]; rfl)))
            · refine zR_cst (v := 1) rfl rfl rfl ?_
              refine zR_s rfl ?_
              first | refine zR_rete rfl rfl ?_ ?_ | refine zR_retb rfl rfl ?_ ?_
              all_goals (first | rfl | (rw [← hf]; rcases hst with e | e | e | e | e | e <;> first | (simp_all [zbec, bI]; done) | (simp_all [zbec, bI]; rw [decide_eq_false (Int32.not_lt.mpr (by assumption))]; rfl)))
      · refine zR_s rfl ?_
        first | refine zR_df rfl rfl (fun c4 => ?_) (fun c4 => ?_) | refine zR_bf rfl rfl (fun c4 => ?_) (fun c4 => ?_) | refine zR_ifeq rfl rfl (fun c4 => ?_) (fun c4 => ?_)
        · refine zR_s rfl ?_
          refine zR_s rfl ?_
          refine zR_get rfl rfl (zm0 h75) rfl ?_
          refine zR_s rfl ?_
          refine zR_ildMG 0 rfl h75 (by decide) (hu) ?_
          rw [hg]
          refine zR_call rfl rfl rfl rfl (zcallok_v (zm0 h75) rfl rfl) (m_misOver h75 hl) ?_
          first | refine zR_dt rfl rfl (fun c5 => ?_) (fun c5 => ?_) | refine zR_bt rfl rfl (fun c5 => ?_) (fun c5 => ?_) | refine zR_ifne rfl rfl (fun c5 => ?_) (fun c5 => ?_)
          · refine zR_cst (v := 0) rfl rfl rfl ?_
            first | refine zR_rete rfl rfl ?_ ?_ | refine zR_retb rfl rfl ?_ ?_
            all_goals (first | rfl | (rw [← hf]; rcases hst with e | e | e | e | e | e <;> first | (simp_all [zbec, bI]; done) | (simp_all [zbec, bI]; rw [decide_eq_false (Int32.not_lt.mpr (by assumption))]; rfl)))
          · refine zR_cst (v := 1) rfl rfl rfl ?_
            refine zR_s rfl ?_
            first | refine zR_rete rfl rfl ?_ ?_ | refine zR_retb rfl rfl ?_ ?_
            all_goals (first | rfl | (rw [← hf]; rcases hst with e | e | e | e | e | e <;> first | (simp_all [zbec, bI]; done) | (simp_all [zbec, bI]; rw [decide_eq_false (Int32.not_lt.mpr (by assumption))]; rfl)))
        · refine zR_s rfl ?_
          refine zR_cst (v := 2) rfl rfl rfl ?_
          refine zR_icne rfl rfl (fun c5 => ?_) (fun c5 => ?_)
          · refine zR_cst (v := 0) rfl rfl rfl ?_
            first | refine zR_rete rfl rfl ?_ ?_ | refine zR_retb rfl rfl ?_ ?_
            all_goals (first | rfl | (rw [← hf]; rcases hst with e | e | e | e | e | e <;> first | (simp_all [zbec, bI]; done) | (simp_all [zbec, bI]; rw [decide_eq_false (Int32.not_lt.mpr (by assumption))]; rfl)))
          · refine zR_s rfl ?_
            refine zR_s rfl ?_
            refine zR_get rfl rfl (zm0 h75) rfl ?_
            refine zR_s rfl ?_
            refine zR_ildMG 0 rfl h75 (by decide) (hu) ?_
            rw [hg]
            refine zR_call rfl rfl rfl rfl (zcallok_v (zm0 h75) rfl rfl) (m_misOver h75 hl) ?_
            first | refine zR_dt rfl rfl (fun c6 => ?_) (fun c6 => ?_) | refine zR_bt rfl rfl (fun c6 => ?_) (fun c6 => ?_) | refine zR_ifne rfl rfl (fun c6 => ?_) (fun c6 => ?_)
            · refine zR_cst (v := 0) rfl rfl rfl ?_
              first | refine zR_rete rfl rfl ?_ ?_ | refine zR_retb rfl rfl ?_ ?_
              all_goals (first | rfl | (rw [← hf]; rcases hst with e | e | e | e | e | e <;> first | (simp_all [zbec, bI]; done) | (simp_all [zbec, bI]; rw [decide_eq_false (Int32.not_lt.mpr (by assumption))]; rfl)))
            · refine zR_cst (v := 1) rfl rfl rfl ?_
              refine zR_s rfl ?_
              first | refine zR_rete rfl rfl ?_ ?_ | refine zR_retb rfl rfl ?_ ?_
              all_goals (first | rfl | (rw [← hf]; rcases hst with e | e | e | e | e | e <;> first | (simp_all [zbec, bI]; done) | (simp_all [zbec, bI]; rw [decide_eq_false (Int32.not_lt.mpr (by assumption))]; rfl)))
    · refine zR_s rfl ?_
      refine zR_cst (v := 1) rfl rfl rfl ?_
      refine zR_icne rfl rfl (fun c3 => ?_) (fun c3 => ?_)
      · refine zR_cst (v := 0) rfl rfl rfl ?_
        first | refine zR_rete rfl rfl ?_ ?_ | refine zR_retb rfl rfl ?_ ?_
        all_goals (first | rfl | (rw [← hf]; rcases hst with e | e | e | e | e | e <;> first | (simp_all [zbec, bI]; done) | (simp_all [zbec, bI]; rw [decide_eq_false (Int32.not_lt.mpr (by assumption))]; rfl)))
      · refine zR_s rfl ?_
        refine zR_s rfl ?_
        refine zR_get rfl rfl (zm0 h75) rfl ?_
        refine zR_s rfl ?_
        refine zR_ildMG 0 rfl h75 (by decide) (hu) ?_
        rw [hg]
        refine zR_call rfl rfl rfl rfl (zcallok_v (zm0 h75) rfl rfl) (m_misOver h75 hl) ?_
        first | refine zR_dt rfl rfl (fun c4 => ?_) (fun c4 => ?_) | refine zR_bt rfl rfl (fun c4 => ?_) (fun c4 => ?_) | refine zR_ifne rfl rfl (fun c4 => ?_) (fun c4 => ?_)
        · refine zR_cst (v := 0) rfl rfl rfl ?_
          first | refine zR_rete rfl rfl ?_ ?_ | refine zR_retb rfl rfl ?_ ?_
          all_goals (first | rfl | (rw [← hf]; rcases hst with e | e | e | e | e | e <;> first | (simp_all [zbec, bI]; done) | (simp_all [zbec, bI]; rw [decide_eq_false (Int32.not_lt.mpr (by assumption))]; rfl)))
        · refine zR_cst (v := 1) rfl rfl rfl ?_
          refine zR_s rfl ?_
          first | refine zR_rete rfl rfl ?_ ?_ | refine zR_retb rfl rfl ?_ ?_
          all_goals (first | rfl | (rw [← hf]; rcases hst with e | e | e | e | e | e <;> first | (simp_all [zbec, bI]; done) | (simp_all [zbec, bI]; rw [decide_eq_false (Int32.not_lt.mpr (by assumption))]; rfl)))
  · refine zR_s rfl ?_
    refine zR_cst (v := 4) rfl rfl rfl ?_
    refine zR_icge rfl rfl (fun c2 => ?_) (fun c2 => ?_)
    · refine zR_cst (v := 0) rfl rfl rfl ?_
      first | refine zR_rete rfl rfl ?_ ?_ | refine zR_retb rfl rfl ?_ ?_
      all_goals (first | rfl | (rw [← hf]; rcases hst with e | e | e | e | e | e <;> first | (simp_all [zbec, bI]; done) | (simp_all [zbec, bI]; rw [decide_eq_false (Int32.not_lt.mpr (by assumption))]; rfl)))
    · refine zR_cst (v := 1) rfl rfl rfl ?_
      refine zR_s rfl ?_
      first | refine zR_rete rfl rfl ?_ ?_ | refine zR_retb rfl rfl ?_ ?_
      all_goals (first | rfl | (rw [← hf]; rcases hst with e | e | e | e | e | e <;> first | (simp_all [zbec, bI]; done) | (simp_all [zbec, bI]; rw [decide_eq_false (Int32.not_lt.mpr (by assumption))]; rfl)))
end ZMV
