/-! the reference's loops -/
theorem i32_a0 (x : Int32) : x + 0 = x := by simp
def zqT (G : Nat → Nat → Int32) (p : Int32) : Nat → Bool := fun i => zst (G i) && decide (G i 6 = p)
section ZML
variable {sL : Nat} {sx : Nat → Int32} {d : Nat} {h : zH}
variable {N : Nat → Int32} {F G : Nat → Nat → Int32} {K : Nat → Option Nat} {H : Nat → Int32} {Z : Nat → Int64} {c : Int32} {B : Nat → Int32} {hc t : zH} {M A u i : Nat}
theorem zqT_f1 {p : Int32} {j : Nat} (h : ¬ (¬ G j 5 = 4 ∧ ¬ G j 5 = 5)) : zqT G p j = false := by simp only [zqT, zst, decide_eq_false h, Bool.false_and]
theorem zqT_f2 {p : Int32} {j : Nat} (h : ¬ G j 6 = p) : zqT G p j = false := by simp [zqT, h]
theorem zqT_t {p : Int32} {j : Nat} (h : ¬ G j 5 = 4 ∧ ¬ G j 5 = 5) (h2 : G j 6 = p) : zqT G p j = true := by simp only [zqT, zst, decide_eq_true h, decide_eq_true h2, Bool.and_self]
theorem m_standingAt {p : Int32} (h75 : hc.length = 75) (hM : N 1 = nI M) (hm : M ≤ 64) : zMe sL sx (d + 1) 68 [.ref 75, .int p] (hc ++ (zMd N F G H Z c B ++ t)) (.returned (some (.int (nI (zcnt (zqT G p) M))))) (hc ++ (zMd N F G H Z c B ++ t)) := by
  show zR sL sx _ 68 0 [.ref 75, .int p, .retAddr 0, .retAddr 0] [] _ _ _
  refine zR_cst (v := 0) rfl rfl rfl ?_
  refine zR_s rfl ?_
  refine zR_cst (v := 0) rfl rfl rfl ?_
  refine zR_s rfl ?_
  skip
  refine zR_loop0 (M := M) (fun j => [.ref 75, .int p, .int (nI (zcnt (zqT G p) j)), .int (nI j)]) (fun _ => hc ++ (zMd N F G H Z c B ++ t)) (fun _ => True) rfl rfl trivial (fun _ => ?_) (fun j hj _ ih => ?_)
  · refine zR_s rfl ?_
    refine zR_s rfl ?_
    refine zR_get rfl rfl (zm0 h75) rfl ?_
    refine zR_icge rfl rfl (fun _ => ?_) (fun c => by first | exact absurd ((by rw [hM]; exact Int32.le_refl _)) c | exact absurd c ((by rw [hM]; exact Int32.le_refl _)))
    refine zR_s rfl ?_
    first | refine zR_rete rfl rfl ?_ ?_ | refine zR_retb rfl rfl ?_ ?_
    all_goals (first | rfl | simp [bI, *])
  · refine zR_s rfl ?_
    refine zR_s rfl ?_
    refine zR_get rfl rfl (zm0 h75) rfl ?_
    refine zR_icge rfl rfl (fun c => by first | exact absurd c ((by rw [hM]; exact nI_ge hj (by omega))) | exact absurd ((by rw [hM]; exact nI_ge hj (by omega))) c) (fun _ => ?_)
    refine zR_s rfl ?_
    refine zR_s rfl ?_
    refine zR_s rfl ?_
    refine zR_call rfl rfl rfl rfl (zcallok_v (zm0 h75) rfl rfl) (m_mstands h75 (show j < 64 by omega)) ?_
    first | refine zR_df rfl rfl (fun c1 => ?_) (fun c1 => ?_) | refine zR_bf rfl rfl (fun c1 => ?_) (fun c1 => ?_) | refine zR_ifeq rfl rfl (fun c1 => ?_) (fun c1 => ?_)
    · refine zR_cst (v := 0) rfl rfl rfl ?_
      refine zR_iadd rfl ?_
      refine zR_s rfl ?_
      first | refine zR_incn rfl rfl rfl ?_ | refine zR_s rfl ?_
      refine zR_goto rfl rfl ?_
      first | (have w := ih trivial; rw [zcnt_f (zqT_f1 c1), ← i32_a0 (nI (zcnt (zqT G p) j))] at w; exact w) | (have w := ih trivial; rw [zcnt_f (zqT_f2 c2), ← i32_a0 (nI (zcnt (zqT G p) j))] at w; exact w) | (have w := ih trivial; rw [zcnt_t (zqT_t c1 c2), nI_succ] at w; exact w)
    · refine zR_s rfl ?_
      refine zR_get rfl rfl (zm0 h75) rfl ?_
      refine zR_s rfl ?_
      refine zR_ildMG 6 rfl h75 (by decide) (by omega) ?_
      refine zR_s rfl ?_
      refine zR_icne rfl rfl (fun c2 => ?_) (fun c2 => ?_)
      · refine zR_cst (v := 0) rfl rfl rfl ?_
        refine zR_iadd rfl ?_
        refine zR_s rfl ?_
        first | refine zR_incn rfl rfl rfl ?_ | refine zR_s rfl ?_
        refine zR_goto rfl rfl ?_
        first | (have w := ih trivial; rw [zcnt_f (zqT_f1 c1), ← i32_a0 (nI (zcnt (zqT G p) j))] at w; exact w) | (have w := ih trivial; rw [zcnt_f (zqT_f2 c2), ← i32_a0 (nI (zcnt (zqT G p) j))] at w; exact w) | (have w := ih trivial; rw [zcnt_t (zqT_t c1 c2), nI_succ] at w; exact w)
      · refine zR_cst (v := 1) rfl rfl rfl ?_
        refine zR_s rfl ?_
        refine zR_iadd rfl ?_
        refine zR_s rfl ?_
        first | refine zR_incn rfl rfl rfl ?_ | refine zR_s rfl ?_
        refine zR_goto rfl rfl ?_
        first | (have w := ih trivial; rw [zcnt_f (zqT_f1 c1), ← i32_a0 (nI (zcnt (zqT G p) j))] at w; exact w) | (have w := ih trivial; rw [zcnt_f (zqT_f2 c2), ← i32_a0 (nI (zcnt (zqT G p) j))] at w; exact w) | (have w := ih trivial; rw [zcnt_t (zqT_t c1 c2), nI_succ] at w; exact w)
theorem m_make {a b e f g k : Int32} (h75 : hc.length = 75) (hM : N 1 = nI M) (hm : M < 64) (hN : N 4 = nI A) (hA : A < 400) : zMe sL sx (d + 1) 74 [.ref 75, .int a, .int b, .int e, .int f, .int g, .int k] (hc ++ (zMd N F G H Z c B ++ t)) (.returned (some (.int (nI M)))) (hc ++ (zMd (upd (upd N 1 (nI (M + 1))) 4 (nI (A + 1))) (zadd F A (nI M) 1 (N 3) b) (updG (updG (updG (updG (updG G M 0 a) M 6 b) M 3 e) M 4 f) M 5 g) (upd H M k) (vp_updL Z M 0) c B ++ t)) := by
  have h1 := updN_id hM
  have e1 : upd N 1 (nI (M + 1)) = upd (upd N 1 (nI M)) 1 (nI (M + 1)) := updN_2.symm
  have e3 : N 3 = upd N 1 (nI M) 3 := rfl
  have hN2 : upd (upd N 1 (nI M)) 1 (nI M + 1) 4 = nI A := hN
  rw [e1, e3]
  suffices hs : zMe sL sx (d + 1) 74 [.ref 75, .int a, .int b, .int e, .int f, .int g, .int k] (hc ++ (zMd (upd N 1 (nI M)) F G H Z c B ++ t)) (.returned (some (.int (nI M)))) (hc ++ (zMd (upd (upd (upd N 1 (nI M)) 1 (nI (M + 1))) 4 (nI (A + 1))) (zadd F A (nI M) 1 (upd N 1 (nI M) 3) b) (updG (updG (updG (updG (updG G M 0 a) M 6 b) M 3 e) M 4 f) M 5 g) (upd H M k) (vp_updL Z M 0) c B ++ t)) by
    rw [← h1] at hs ⊢
    exact hs
  show zR sL sx _ 74 0 [.ref 75, .int a, .int b, .int e, .int f, .int g, .int k, .retAddr 0] [] _ _ _
  refine zR_s rfl ?_
  refine zR_get rfl rfl (zm0 h75) rfl ?_
  refine zR_s rfl ?_
  refine zR_s rfl ?_
  refine zR_get rfl rfl (zm0 h75) rfl ?_
  refine zR_s rfl ?_
  refine zR_s rfl ?_
  refine zR_istMG 0 rfl h75 (by decide) ((show M < 64 from hm)) ?_
  refine zR_s rfl ?_
  refine zR_get rfl rfl (zm0 h75) rfl ?_
  refine zR_s rfl ?_
  refine zR_s rfl ?_
  refine zR_istMG 6 rfl h75 (by decide) ((show M < 64 from hm)) ?_
  refine zR_s rfl ?_
  refine zR_get rfl rfl (zm0 h75) rfl ?_
  refine zR_s rfl ?_
  refine zR_s rfl ?_
  refine zR_istMG 3 rfl h75 (by decide) ((show M < 64 from hm)) ?_
  refine zR_s rfl ?_
  refine zR_get rfl rfl (zm0 h75) rfl ?_
  refine zR_s rfl ?_
  refine zR_s rfl ?_
  refine zR_istMG 4 rfl h75 (by decide) ((show M < 64 from hm)) ?_
  refine zR_s rfl ?_
  refine zR_get rfl rfl (zm0 h75) rfl ?_
  refine zR_s rfl ?_
  refine zR_s rfl ?_
  refine zR_istMG 5 rfl h75 (by decide) ((show M < 64 from hm)) ?_
  refine zR_s rfl ?_
  refine zR_get rfl rfl (zm0 h75) rfl ?_
  refine zR_s rfl ?_
  refine zR_s rfl ?_
  refine zR_istMH rfl h75 ((show M < 64 from hm)) ?_
  refine zR_s rfl ?_
  refine zR_get rfl rfl (zm0 h75) rfl ?_
  refine zR_s rfl ?_
  refine zR_lc (v := 0) rfl rfl ?_
  refine zR_lstMZ rfl h75 ((show M < 64 from hm)) ?_
  refine zR_s rfl ?_
  refine zR_s rfl ?_
  refine zR_get rfl rfl (zm0 h75) rfl ?_
  refine zR_cst (v := 1) rfl rfl rfl ?_
  refine zR_iadd rfl ?_
  refine zR_putMN 1 rfl rfl h75 (by decide) rfl ?_
  refine zR_s rfl ?_
  refine zR_s rfl ?_
  refine zR_cst (v := 1) rfl rfl rfl ?_
  refine zR_s rfl ?_
  refine zR_call rfl rfl rfl rfl (zcallok_v (zm0 h75) rfl rfl) (m_act h75 hN2 hA) ?_
  refine zR_s rfl ?_
  first | refine zR_rete rfl rfl ?_ ?_ | refine zR_retb rfl rfl ?_ ?_
  all_goals (first | rfl | (rw [show nI (M + 1) = nI M + 1 from nI_succ M]; rfl))
theorem m_isIn {k : Nat} (h75 : hc.length = 75) (hm : M ≤ 64) (hH : zHK M K H) (hC : zCh K M) (hk : k < M) (hu : u < M) : zMe sL sx d 76 [.ref 75, .int (nI k), .int (nI u)] (hc ++ (zMd N F G H Z c B ++ t)) (.returned (some (.int (bI (zlw K u 4 (K k)))))) (hc ++ (zMd N F G H Z c B ++ t)) := by
  obtain ⟨n, hn, hl⟩ := hC k hk
  rw [zlw_fuel hl hn]
  have key : ∀ n x, zchn K M n x → zR sL sx d 76 7 [.ref 75, .int (nI k), .int (nI u), .int (zsk x)] [] (hc ++ (zMd N F G H Z c B ++ t)) (.returned (some (.int (bI (zlw K u n x))))) (hc ++ (zMd N F G H Z c B ++ t)) := by
    intro n
    induction n with
    | zero =>
      intro x hx
      cases hx
      refine zR_s rfl ?_
      refine zR_cst (v := (-1)) rfl rfl rfl ?_
      refine zR_iceq rfl rfl (fun _ => ?_) (fun c => by first | exact absurd ((show zsk none = -1 from rfl)) c | exact absurd c ((show zsk none = -1 from rfl)))
      refine zR_s rfl ?_
      refine zR_s rfl ?_
      refine zR_icne rfl rfl (fun _ => ?_) (fun c => by first | exact absurd ((show ¬ zsk none = nI u from fun q => zsk_ne (c := u) (by omega) q.symm)) c | exact absurd c ((show ¬ zsk none = nI u from fun q => zsk_ne (c := u) (by omega) q.symm)))
      refine zR_cst (v := 0) rfl rfl rfl ?_
      first | refine zR_rete rfl rfl ?_ ?_ | refine zR_retb rfl rfl ?_ ?_
      all_goals (rfl)
    | succ n ih =>
      intro x hx
      obtain ⟨c1, hc1, rfl, h3⟩ := hx
      have e0 : ¬ zsk (some c1) = -1 := zsk_ne (c := c1) (by omega)
      have w := ih (K c1) h3
      rw [← hH c1 hc1] at w
      by_cases q : c1 = u
      · subst q
        have e1 : zlw K c1 (n + 1) (some c1) = true := by simp [zlw]
        rw [e1]
        refine zR_s rfl ?_
        refine zR_cst (v := (-1)) rfl rfl rfl ?_
        refine zR_iceq rfl rfl (fun c => by first | exact absurd c (e0) | exact absurd (e0) c) (fun _ => ?_)
        refine zR_s rfl ?_
        refine zR_s rfl ?_
        refine zR_iceq rfl rfl (fun _ => ?_) (fun c => by first | exact absurd ((show zsk (some c1) = nI c1 from rfl)) c | exact absurd c ((show zsk (some c1) = nI c1 from rfl)))
        refine zR_s rfl ?_
        refine zR_s rfl ?_
        refine zR_icne rfl rfl (fun c => by first | exact absurd c ((show zsk (some c1) = nI c1 from rfl)) | exact absurd ((show zsk (some c1) = nI c1 from rfl)) c) (fun _ => ?_)
        refine zR_cst (v := 1) rfl rfl rfl ?_
        refine zR_s rfl ?_
        first | refine zR_rete rfl rfl ?_ ?_ | refine zR_retb rfl rfl ?_ ?_
        all_goals (rfl)
      · have e1 : zlw K u (n + 1) (some c1) = zlw K u n (K c1) := by simp [zlw, q]
        rw [e1]
        rw [show zsk (some c1) = nI c1 from rfl] at e0 ⊢
        refine zR_s rfl ?_
        refine zR_cst (v := (-1)) rfl rfl rfl ?_
        refine zR_iceq rfl rfl (fun c => by first | exact absurd c (e0) | exact absurd (e0) c) (fun _ => ?_)
        refine zR_s rfl ?_
        refine zR_s rfl ?_
        refine zR_iceq rfl rfl (fun c => by first | exact absurd c ((show ¬ nI c1 = nI u from fun e => q ((nI_eq (by omega) (by omega)).mp e))) | exact absurd ((show ¬ nI c1 = nI u from fun e => q ((nI_eq (by omega) (by omega)).mp e))) c) (fun _ => ?_)
        refine zR_s rfl ?_
        refine zR_get rfl rfl (zm0 h75) rfl ?_
        refine zR_s rfl ?_
        refine zR_ildMH rfl h75 ((show c1 < 64 by omega)) ?_
        refine zR_s rfl ?_
        refine zR_goto rfl rfl ?_
        exact w
  have w := key n (K k) hl
  rw [← hH k hk] at w
  show zR sL sx _ 76 0 [.ref 75, .int (nI k), .int (nI u), .retAddr 0] [] _ _ _
  refine zR_s rfl ?_
  refine zR_get rfl rfl (zm0 h75) rfl ?_
  refine zR_s rfl ?_
  refine zR_ildMH rfl h75 ((show k < 64 by omega)) ?_
  refine zR_s rfl ?_
  exact w
theorem m_mdepth {n : Nat} (h75 : hc.length = 75) (hm : M ≤ 64) (hH : zHK M K H) (hu : u < M) (hl : zchn K M n (K u)) : zMe sL sx d 78 [.ref 75, .int (nI u)] (hc ++ (zMd N F G H Z c B ++ t)) (.returned (some (.int (nI (n + 1))))) (hc ++ (zMd N F G H Z c B ++ t)) := by
  have key : ∀ n q x, zchn K M n x → zR sL sx d 78 9 [.ref 75, .int (nI u), .int (nI q), .int (zsk x)] [] (hc ++ (zMd N F G H Z c B ++ t)) (.returned (some (.int (nI (n + q))))) (hc ++ (zMd N F G H Z c B ++ t)) := by
    intro n
    induction n with
    | zero =>
      intro q x hx
      cases hx
      rw [Nat.zero_add]
      refine zR_s rfl ?_
      refine zR_cst (v := (-1)) rfl rfl rfl ?_
      refine zR_iceq rfl rfl (fun _ => ?_) (fun c => by first | exact absurd ((show zsk none = -1 from rfl)) c | exact absurd c ((show zsk none = -1 from rfl)))
      refine zR_s rfl ?_
      first | refine zR_rete rfl rfl ?_ ?_ | refine zR_retb rfl rfl ?_ ?_
      all_goals (rfl)
    | succ n ih =>
      intro q x hx
      obtain ⟨c1, hc1, rfl, h3⟩ := hx
      have e0 : ¬ zsk (some c1) = -1 := zsk_ne (c := c1) (by omega)
      have w := ih (q + 1) (K c1) h3
      rw [← hH c1 hc1, show n + (q + 1) = n + 1 + q by omega] at w
      rw [show zsk (some c1) = nI c1 from rfl] at e0 ⊢
      refine zR_s rfl ?_
      refine zR_cst (v := (-1)) rfl rfl rfl ?_
      refine zR_iceq rfl rfl (fun c => by first | exact absurd c (e0) | exact absurd (e0) c) (fun _ => ?_)
      first | refine zR_incn rfl rfl rfl ?_ | refine zR_s rfl ?_
      refine zR_s rfl ?_
      refine zR_get rfl rfl (zm0 h75) rfl ?_
      refine zR_s rfl ?_
      refine zR_ildMH rfl h75 ((show c1 < 64 by omega)) ?_
      refine zR_s rfl ?_
      refine zR_goto rfl rfl ?_
      exact w
  have w := key n 1 (K u) hl
  rw [← hH u hu] at w
  show zR sL sx _ 78 0 [.ref 75, .int (nI u), .retAddr 0, .retAddr 0] [] _ _ _
  refine zR_cst (v := 1) rfl rfl rfl ?_
  refine zR_s rfl ?_
  refine zR_s rfl ?_
  refine zR_get rfl rfl (zm0 h75) rfl ?_
  refine zR_s rfl ?_
  refine zR_ildMH rfl h75 ((show u < 64 by omega)) ?_
  refine zR_s rfl ?_
  exact w
theorem m_load (h75 : hc.length = 75) (hM : N 1 = nI M) (hm : M ≤ 64) (hH : zHK M K H) (hC : zCh K M) (hu : u < M) : zMe sL sx (d + 1) 77 [.ref 75, .int (nI u)] (hc ++ (zMd N F G H Z c B ++ t)) (.returned (some (.int (nI (zcnt (zqW K u) M))))) (hc ++ (zMd N F G H Z c B ++ t)) := by
  show zR sL sx _ 77 0 [.ref 75, .int (nI u), .retAddr 0, .retAddr 0] [] _ _ _
  refine zR_cst (v := 0) rfl rfl rfl ?_
  refine zR_s rfl ?_
  refine zR_cst (v := 0) rfl rfl rfl ?_
  refine zR_s rfl ?_
  skip
  refine zR_loop0 (M := M) (fun j => [.ref 75, .int (nI u), .int (nI (zcnt (zqW K u) j)), .int (nI j)]) (fun _ => hc ++ (zMd N F G H Z c B ++ t)) (fun _ => True) rfl rfl trivial (fun _ => ?_) (fun j hj _ ih => ?_)
  · refine zR_s rfl ?_
    refine zR_s rfl ?_
    refine zR_get rfl rfl (zm0 h75) rfl ?_
    refine zR_icge rfl rfl (fun _ => ?_) (fun c => by first | exact absurd ((by rw [hM]; exact Int32.le_refl _)) c | exact absurd c ((by rw [hM]; exact Int32.le_refl _)))
    refine zR_s rfl ?_
    first | refine zR_rete rfl rfl ?_ ?_ | refine zR_retb rfl rfl ?_ ?_
    all_goals (first | rfl | simp [bI, *])
  · have e9 : nI j = nI u → zqW K u j = false := by
      intro e
      have := (nI_eq (a := j) (b := u) (by omega) (by omega)).mp e
      subst this
      exact zlw_self hC hu
    refine zR_s rfl ?_
    refine zR_s rfl ?_
    refine zR_get rfl rfl (zm0 h75) rfl ?_
    refine zR_icge rfl rfl (fun c => by first | exact absurd c ((by rw [hM]; exact nI_ge hj (by omega))) | exact absurd ((by rw [hM]; exact nI_ge hj (by omega))) c) (fun _ => ?_)
    refine zR_s rfl ?_
    refine zR_s rfl ?_
    refine zR_s rfl ?_
    refine zR_iceq rfl rfl (fun c1 => ?_) (fun c1 => ?_)
    · refine zR_cst (v := 0) rfl rfl rfl ?_
      refine zR_iadd rfl ?_
      refine zR_s rfl ?_
      first | refine zR_incn rfl rfl rfl ?_ | refine zR_s rfl ?_
      refine zR_goto rfl rfl ?_
      first | (have w := ih trivial; rw [zcnt_f (e9 c1), ← i32_a0 (nI (zcnt (zqW K u) j))] at w; exact w) | (have w := ih trivial; rw [zcnt_f (show zqW K u j = false from c2), ← i32_a0 (nI (zcnt (zqW K u) j))] at w; exact w) | (have w := ih trivial; rw [zcnt_t (show zqW K u j = true from c2), nI_succ] at w; exact w)
    · refine zR_s rfl ?_
      refine zR_s rfl ?_
      refine zR_s rfl ?_
      refine zR_call rfl rfl rfl rfl (zcallok_v (zm0 h75) rfl rfl) (m_isIn h75 hm hH hC hj hu) ?_
      first | refine zR_df rfl rfl (fun c2 => ?_) (fun c2 => ?_) | refine zR_bf rfl rfl (fun c2 => ?_) (fun c2 => ?_) | refine zR_ifeq rfl rfl (fun c2 => ?_) (fun c2 => ?_)
      · refine zR_cst (v := 0) rfl rfl rfl ?_
        refine zR_iadd rfl ?_
        refine zR_s rfl ?_
        first | refine zR_incn rfl rfl rfl ?_ | refine zR_s rfl ?_
        refine zR_goto rfl rfl ?_
        first | (have w := ih trivial; rw [zcnt_f (e9 c1), ← i32_a0 (nI (zcnt (zqW K u) j))] at w; exact w) | (have w := ih trivial; rw [zcnt_f (show zqW K u j = false from c2), ← i32_a0 (nI (zcnt (zqW K u) j))] at w; exact w) | (have w := ih trivial; rw [zcnt_t (show zqW K u j = true from c2), nI_succ] at w; exact w)
      · refine zR_cst (v := 1) rfl rfl rfl ?_
        refine zR_s rfl ?_
        refine zR_iadd rfl ?_
        refine zR_s rfl ?_
        first | refine zR_incn rfl rfl rfl ?_ | refine zR_s rfl ?_
        refine zR_goto rfl rfl ?_
        first | (have w := ih trivial; rw [zcnt_f (e9 c1), ← i32_a0 (nI (zcnt (zqW K u) j))] at w; exact w) | (have w := ih trivial; rw [zcnt_f (show zqW K u j = false from c2), ← i32_a0 (nI (zcnt (zqW K u) j))] at w; exact w) | (have w := ih trivial; rw [zcnt_t (show zqW K u j = true from c2), nI_succ] at w; exact w)
/-- depth without a look at the state -/
def zde (K : Nat → Option Nat) (i : Nat) : Nat := zdp K 4 (K i) + 1
theorem zde_le (K : Nat → Option Nat) (i : Nat) : zde K i ≤ 5 := by have := zdp_le K 4 (K i); simp only [zde]; omega
theorem m_mdepth2 (h75 : hc.length = 75) (hm : M ≤ 64) (hH : zHK M K H) (hC : zCh K M) (hu : u < M) : zMe sL sx d 78 [.ref 75, .int (nI u)] (hc ++ (zMd N F G H Z c B ++ t)) (.returned (some (.int (nI (zde K u))))) (hc ++ (zMd N F G H Z c B ++ t)) := by
  obtain ⟨n, hn, hl⟩ := hC u hu
  rw [zde, zdp_fuel hl hn]
  exact m_mdepth h75 hm hH hu hl
theorem zmx_ge {p : Nat → Bool} {f : Nat → Nat} {b : Nat} : ∀ n, b ≤ zmx p f b n := by
  intro n
  induction n with
  | zero => exact Nat.le_refl _
  | succ n ih => simp only [zmx]; cases p n <;> simp <;> omega
theorem nI_sub1 {a b : Nat} (h : b ≤ a) : nI a - nI b + 1 = nI (a - b + 1) := by
  obtain ⟨k, rfl⟩ := Nat.exists_eq_add_of_le h
  rw [← nI_add, Nat.add_sub_cancel_left, ← nI_1]
  congr 1
  rw [Int32.add_comm, Int32.add_sub_cancel]
theorem zde_lt (hC : zCh K M) {k : Nat} (hk : k < M) (hw : zlw K u 4 (K k) = true) : zde K u < zde K k := by
  obtain ⟨n, hn, hl⟩ := hC k hk
  obtain ⟨m, hm, h2⟩ := zchn_mem hl hw
  rw [zde, zde, zdp_fuel hl hn, zdp_fuel h2 (show m ≤ 4 by omega)]
  omega
theorem m_tall (h75 : hc.length = 75) (hM : N 1 = nI M) (hm : M ≤ 64) (hH : zHK M K H) (hC : zCh K M) (hu : u < M) : zMe sL sx (d + 1) 80 [.ref 75, .int (nI u)] (hc ++ (zMd N F G H Z c B ++ t)) (.returned (some (.int (nI (zmx (zqW K u) (zde K) (zde K u) M) - nI (zde K u) + 1)))) (hc ++ (zMd N F G H Z c B ++ t)) := by
  have hge : ∀ j, zde K u ≤ zmx (zqW K u) (zde K) (zde K u) j := fun j => zmx_ge j
  have hle : ∀ j, zmx (zqW K u) (zde K) (zde K u) j ≤ 5 := fun j => zmx_le (zde_le K u) (zde_le K) j
  rw [nI_sub1 (hge M)]
  show zR sL sx _ 80 0 [.ref 75, .int (nI u), .retAddr 0, .retAddr 0] [] _ _ _
  refine zR_cst (v := 1) rfl rfl rfl ?_
  refine zR_s rfl ?_
  refine zR_cst (v := 0) rfl rfl rfl ?_
  refine zR_s rfl ?_
  skip
  refine zR_loop0 (M := M) (fun j => [.ref 75, .int (nI u), .int (nI (zmx (zqW K u) (zde K) (zde K u) j - zde K u + 1)), .int (nI j)]) (fun _ => hc ++ (zMd N F G H Z c B ++ t)) (fun _ => True) (by simp only [zmx, Nat.sub_self]; rfl) rfl trivial (fun _ => ?_) (fun j hj _ ih => ?_)
  · refine zR_s rfl ?_
    refine zR_s rfl ?_
    refine zR_get rfl rfl (zm0 h75) rfl ?_
    refine zR_icge rfl rfl (fun _ => ?_) (fun c => by first | exact absurd ((by rw [hM]; exact Int32.le_refl _)) c | exact absurd c ((by rw [hM]; exact Int32.le_refl _)))
    refine zR_s rfl ?_
    first | refine zR_rete rfl rfl ?_ ?_ | refine zR_retb rfl rfl ?_ ?_
    all_goals (first | rfl | simp [bI, *])
  · have g1 := hge j
    have g2 := hle j
    have g3 := zde_le K j
    have w := ih trivial
    have wf : zqW K u j = false → zmx (zqW K u) (zde K) (zde K u) (j + 1) = zmx (zqW K u) (zde K) (zde K u) j := by intro e; simp [zmx, e]
    have wt : zqW K u j = true → zmx (zqW K u) (zde K) (zde K u) (j + 1) = max (zmx (zqW K u) (zde K) (zde K u) j) (zde K j) := by intro e; simp [zmx, e]
    cases hb : zqW K u j with
    | false =>
      rw [wf hb] at w
      refine zR_s rfl ?_
      refine zR_s rfl ?_
      refine zR_get rfl rfl (zm0 h75) rfl ?_
      refine zR_icge rfl rfl (fun c => by first | exact absurd c ((by rw [hM]; exact nI_ge hj (by omega))) | exact absurd ((by rw [hM]; exact nI_ge hj (by omega))) c) (fun _ => ?_)
      refine zR_s rfl ?_
      refine zR_s rfl ?_
      refine zR_s rfl ?_
      refine zR_call rfl rfl rfl rfl (zcallok_v (zm0 h75) rfl rfl) (m_isIn h75 hm hH hC hj hu) ?_
      first | refine zR_df rfl rfl (fun c1 => ?_) (fun c1 => absurd (c1.symm.trans hb) (by decide)) | refine zR_bf rfl rfl (fun c1 => ?_) (fun c1 => absurd (c1.symm.trans hb) (by decide)) | refine zR_ifeq rfl rfl (fun c1 => ?_) (fun c1 => absurd (c1.symm.trans hb) (by decide))
      first | refine zR_incn rfl rfl rfl ?_ | refine zR_s rfl ?_
      refine zR_goto rfl rfl ?_
      exact w
    | true =>
      have g4 := zde_lt hC hj hb
      have e5 : nI (zde K j) - nI (zde K u) + 1 = nI (zde K j - zde K u + 1) := nI_sub1 (by omega)
      by_cases q : zde K j ≤ zmx (zqW K u) (zde K) (zde K u) j
      · rw [wt hb, Nat.max_eq_left q] at w
        refine zR_s rfl ?_
        refine zR_s rfl ?_
        refine zR_get rfl rfl (zm0 h75) rfl ?_
        refine zR_icge rfl rfl (fun c => by first | exact absurd c ((by rw [hM]; exact nI_ge hj (by omega))) | exact absurd ((by rw [hM]; exact nI_ge hj (by omega))) c) (fun _ => ?_)
        refine zR_s rfl ?_
        refine zR_s rfl ?_
        refine zR_s rfl ?_
        refine zR_call rfl rfl rfl rfl (zcallok_v (zm0 h75) rfl rfl) (m_isIn h75 hm hH hC hj hu) ?_
        first | refine zR_df rfl rfl (fun c1 => absurd (c1.symm.trans hb) (by decide)) (fun c1 => ?_) | refine zR_bf rfl rfl (fun c1 => absurd (c1.symm.trans hb) (by decide)) (fun c1 => ?_) | refine zR_ifeq rfl rfl (fun c1 => absurd (c1.symm.trans hb) (by decide)) (fun c1 => ?_)
        refine zR_s rfl ?_
        refine zR_s rfl ?_
        first | refine zR_call rfl rfl rfl rfl (zcallok_v (zm0 h75) rfl rfl) (m_mdepth2 h75 hm hH hC hj) ?_ | refine zR_call rfl rfl rfl rfl (zcallok_v (zm0 h75) rfl rfl) (m_mdepth2 h75 hm hH hC hu) ?_
        refine zR_s rfl ?_
        refine zR_s rfl ?_
        first | refine zR_call rfl rfl rfl rfl (zcallok_v (zm0 h75) rfl rfl) (m_mdepth2 h75 hm hH hC hj) ?_ | refine zR_call rfl rfl rfl rfl (zcallok_v (zm0 h75) rfl rfl) (m_mdepth2 h75 hm hH hC hu) ?_
        refine zR_isub rfl ?_
        refine zR_cst (v := 1) rfl rfl rfl ?_
        refine zR_iadd rfl ?_
        refine zR_s rfl ?_
        refine zR_icle rfl rfl (fun _ => ?_) (fun c => by first | exact absurd ((by rw [e5]; exact nI_le (by omega) (by omega))) c | exact absurd c ((by rw [e5]; exact nI_le (by omega) (by omega))))
        first | refine zR_incn rfl rfl rfl ?_ | refine zR_s rfl ?_
        refine zR_goto rfl rfl ?_
        exact w
      · rw [wt hb, Nat.max_eq_right (by omega), ← e5] at w
        refine zR_s rfl ?_
        refine zR_s rfl ?_
        refine zR_get rfl rfl (zm0 h75) rfl ?_
        refine zR_icge rfl rfl (fun c => by first | exact absurd c ((by rw [hM]; exact nI_ge hj (by omega))) | exact absurd ((by rw [hM]; exact nI_ge hj (by omega))) c) (fun _ => ?_)
        refine zR_s rfl ?_
        refine zR_s rfl ?_
        refine zR_s rfl ?_
        refine zR_call rfl rfl rfl rfl (zcallok_v (zm0 h75) rfl rfl) (m_isIn h75 hm hH hC hj hu) ?_
        first | refine zR_df rfl rfl (fun c1 => absurd (c1.symm.trans hb) (by decide)) (fun c1 => ?_) | refine zR_bf rfl rfl (fun c1 => absurd (c1.symm.trans hb) (by decide)) (fun c1 => ?_) | refine zR_ifeq rfl rfl (fun c1 => absurd (c1.symm.trans hb) (by decide)) (fun c1 => ?_)
        refine zR_s rfl ?_
        refine zR_s rfl ?_
        first | refine zR_call rfl rfl rfl rfl (zcallok_v (zm0 h75) rfl rfl) (m_mdepth2 h75 hm hH hC hj) ?_ | refine zR_call rfl rfl rfl rfl (zcallok_v (zm0 h75) rfl rfl) (m_mdepth2 h75 hm hH hC hu) ?_
        refine zR_s rfl ?_
        refine zR_s rfl ?_
        first | refine zR_call rfl rfl rfl rfl (zcallok_v (zm0 h75) rfl rfl) (m_mdepth2 h75 hm hH hC hj) ?_ | refine zR_call rfl rfl rfl rfl (zcallok_v (zm0 h75) rfl rfl) (m_mdepth2 h75 hm hH hC hu) ?_
        refine zR_isub rfl ?_
        refine zR_cst (v := 1) rfl rfl rfl ?_
        refine zR_iadd rfl ?_
        refine zR_s rfl ?_
        refine zR_icle rfl rfl (fun c => by first | exact absurd c ((by rw [e5]; exact nI_ge (by omega) (by omega))) | exact absurd ((by rw [e5]; exact nI_ge (by omega) (by omega))) c) (fun _ => ?_)
        refine zR_s rfl ?_
        refine zR_s rfl ?_
        first | refine zR_call rfl rfl rfl rfl (zcallok_v (zm0 h75) rfl rfl) (m_mdepth2 h75 hm hH hC hj) ?_ | refine zR_call rfl rfl rfl rfl (zcallok_v (zm0 h75) rfl rfl) (m_mdepth2 h75 hm hH hC hu) ?_
        refine zR_s rfl ?_
        refine zR_s rfl ?_
        first | refine zR_call rfl rfl rfl rfl (zcallok_v (zm0 h75) rfl rfl) (m_mdepth2 h75 hm hH hC hj) ?_ | refine zR_call rfl rfl rfl rfl (zcallok_v (zm0 h75) rfl rfl) (m_mdepth2 h75 hm hH hC hu) ?_
        refine zR_isub rfl ?_
        refine zR_cst (v := 1) rfl rfl rfl ?_
        refine zR_iadd rfl ?_
        refine zR_s rfl ?_
        first | refine zR_incn rfl rfl rfl ?_ | refine zR_s rfl ?_
        refine zR_goto rfl rfl ?_
        exact w
theorem m_areAlike {w : Nat} (h75 : hc.length = 75) (hu : u < 64) (hw : w < 64) : zMe sL sx d 84 [.ref 75, .int (nI u), .int (nI w)] (hc ++ (zMd N F G H Z c B ++ t)) (.returned (some (.int (bI (decide (G u 0 = G w 0 ∧ G u 3 = G w 3 ∧ G u 5 = G w 5 ∧ G u 6 = G w 6 ∧ H u = H w)))))) (hc ++ (zMd N F G H Z c B ++ t)) := by
  show zR sL sx _ 84 0 [.ref 75, .int (nI u), .int (nI w)] [] _ _ _
  refine zR_s rfl ?_
  refine zR_get rfl rfl (zm0 h75) rfl ?_
  refine zR_s rfl ?_
  first | refine zR_ildMG 0 rfl h75 (by decide) (hu) ?_ | refine zR_ildMG 0 rfl h75 (by decide) (hw) ?_
  refine zR_s rfl ?_
  refine zR_get rfl rfl (zm0 h75) rfl ?_
  refine zR_s rfl ?_
  first | refine zR_ildMG 0 rfl h75 (by decide) (hu) ?_ | refine zR_ildMG 0 rfl h75 (by decide) (hw) ?_
  refine zR_icne rfl rfl (fun c1 => ?_) (fun c1 => ?_)
  · refine zR_cst (v := 0) rfl rfl rfl ?_
    first | refine zR_rete rfl rfl ?_ ?_ | refine zR_retb rfl rfl ?_ ?_
    all_goals (first | rfl | simp [bI, *])
  · refine zR_s rfl ?_
    refine zR_get rfl rfl (zm0 h75) rfl ?_
    refine zR_s rfl ?_
    first | refine zR_ildMG 3 rfl h75 (by decide) (hu) ?_ | refine zR_ildMG 3 rfl h75 (by decide) (hw) ?_
    refine zR_s rfl ?_
    refine zR_get rfl rfl (zm0 h75) rfl ?_
    refine zR_s rfl ?_
    first | refine zR_ildMG 3 rfl h75 (by decide) (hu) ?_ | refine zR_ildMG 3 rfl h75 (by decide) (hw) ?_
    refine zR_icne rfl rfl (fun c2 => ?_) (fun c2 => ?_)
    · refine zR_cst (v := 0) rfl rfl rfl ?_
      first | refine zR_rete rfl rfl ?_ ?_ | refine zR_retb rfl rfl ?_ ?_
      all_goals (first | rfl | simp [bI, *])
    · refine zR_s rfl ?_
      refine zR_get rfl rfl (zm0 h75) rfl ?_
      refine zR_s rfl ?_
      first | refine zR_ildMG 5 rfl h75 (by decide) (hu) ?_ | refine zR_ildMG 5 rfl h75 (by decide) (hw) ?_
      refine zR_s rfl ?_
      refine zR_get rfl rfl (zm0 h75) rfl ?_
      refine zR_s rfl ?_
      first | refine zR_ildMG 5 rfl h75 (by decide) (hu) ?_ | refine zR_ildMG 5 rfl h75 (by decide) (hw) ?_
      refine zR_icne rfl rfl (fun c3 => ?_) (fun c3 => ?_)
      · refine zR_cst (v := 0) rfl rfl rfl ?_
        first | refine zR_rete rfl rfl ?_ ?_ | refine zR_retb rfl rfl ?_ ?_
        all_goals (first | rfl | simp [bI, *])
      · refine zR_s rfl ?_
        refine zR_get rfl rfl (zm0 h75) rfl ?_
        refine zR_s rfl ?_
        first | refine zR_ildMG 6 rfl h75 (by decide) (hu) ?_ | refine zR_ildMG 6 rfl h75 (by decide) (hw) ?_
        refine zR_s rfl ?_
        refine zR_get rfl rfl (zm0 h75) rfl ?_
        refine zR_s rfl ?_
        first | refine zR_ildMG 6 rfl h75 (by decide) (hu) ?_ | refine zR_ildMG 6 rfl h75 (by decide) (hw) ?_
        refine zR_icne rfl rfl (fun c4 => ?_) (fun c4 => ?_)
        · refine zR_cst (v := 0) rfl rfl rfl ?_
          first | refine zR_rete rfl rfl ?_ ?_ | refine zR_retb rfl rfl ?_ ?_
          all_goals (first | rfl | simp [bI, *])
        · refine zR_s rfl ?_
          refine zR_get rfl rfl (zm0 h75) rfl ?_
          refine zR_s rfl ?_
          first | refine zR_ildMH rfl h75 (hu) ?_ | refine zR_ildMH rfl h75 (hw) ?_
          refine zR_s rfl ?_
          refine zR_get rfl rfl (zm0 h75) rfl ?_
          refine zR_s rfl ?_
          first | refine zR_ildMH rfl h75 (hu) ?_ | refine zR_ildMH rfl h75 (hw) ?_
          refine zR_icne rfl rfl (fun c5 => ?_) (fun c5 => ?_)
          · refine zR_cst (v := 0) rfl rfl rfl ?_
            first | refine zR_rete rfl rfl ?_ ?_ | refine zR_retb rfl rfl ?_ ?_
            all_goals (first | rfl | simp [bI, *])
          · refine zR_cst (v := 1) rfl rfl rfl ?_
            refine zR_s rfl ?_
            first | refine zR_rete rfl rfl ?_ ?_ | refine zR_retb rfl rfl ?_ ?_
            all_goals (first | rfl | simp [bI, *])
end ZML
