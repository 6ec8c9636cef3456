/-! the class's small methods -/
section ZCS
variable {sL : Nat} {sx : Nat → Int32} {d : Nat} {N : Nat → Int32} {F G : Nat → Nat → Int32} {K : Nat → Option Nat} {Z : Nat → Int64} {tl : zH} {M i : Nat}
theorem m_clear : zMe sL sx d 1 [.ref 6] (zCs N F G K Z ++ tl) (.returned none) (zCs (upd N 4 0) F G K Z ++ tl) := by
  show zR sL sx _ 1 0 [.ref 6] [] _ _ _
  refine zR_s rfl ?_
  refine zR_cst (v := 0) rfl rfl rfl ?_
  refine zR_putH rfl rfl rfl ?_
  refine zR_rete rfl rfl ?_ ?_
  all_goals (first | rfl | simp [bI, *])
theorem m_hasRoom {a : Int32} : zMe sL sx d 2 [.ref 6, .int a] (zCs N F G K Z ++ tl) (.returned (some (.int (bI (decide (N 4 + a ≤ 400)))))) (zCs N F G K Z ++ tl) := by
  show zR sL sx _ 2 0 [.ref 6, .int a] [] _ _ _
  refine zR_s rfl ?_
  refine zR_get rfl rfl (zc6) rfl ?_
  refine zR_s rfl ?_
  refine zR_iadd rfl ?_
  refine zR_cst (v := 400) rfl rfl rfl ?_
  refine zR_mgt rfl rfl (fun c1 => ?_) (fun c1 => ?_)
  · refine zR_cst (v := 0) rfl rfl rfl ?_
    first | refine zR_rete rfl rfl ?_ ?_ | refine zR_retb rfl rfl ?_ ?_
    all_goals (first | rfl | simp [bI, *])
  · refine zR_cst (v := 1) rfl rfl rfl ?_
    refine zR_s rfl ?_
    first | refine zR_rete rfl rfl ?_ ?_ | refine zR_retb rfl rfl ?_ ?_
    all_goals (first | rfl | simp [bI, *])
/-- a row more in the history -/
def zadd (F : Nat → Nat → Int32) (A : Nat) (a b c e : Int32) : Nat → Nat → Int32 := updF (updF (updF (updF F 4 (upd (F 4) A a)) 5 (upd (F 5) A b)) 6 (upd (F 6) A c)) 7 (upd (F 7) A e)
theorem m_add {A : Nat} {a b c e : Int32} (hN : N 4 = nI A) (hA : A < 400) : zMe sL sx (d + 1) 3 [.ref 6, .int a, .int b, .int c, .int e] (zCs N F G K Z ++ tl) (.returned none) (zCs (upd N 4 (nI (A + 1))) (zadd F A a b c e) G K Z ++ tl) := by
  show zR sL sx _ 3 0 [.ref 6, .int a, .int b, .int c, .int e] [] _ _ _
  have h1 : N 4 + 1 ≤ 400 := by rw [hN, nI_1]; exact nI_le (b := 400) (by omega) (by omega)
  refine zR_s rfl ?_
  refine zR_cst (v := 1) rfl rfl rfl ?_
  refine zR_call rfl rfl rfl rfl (zcallok_v (zc6) rfl rfl) (m_hasRoom) ?_
  first | refine zR_df rfl rfl (fun c1 => absurd h1 c1) (fun c1 => ?_) | refine zR_bf rfl rfl (fun c1 => absurd h1 c1) (fun c1 => ?_) | refine zR_ifeq rfl rfl (fun c1 => absurd h1 c1) (fun c1 => ?_)
  skip
  rw [show N = upd N 4 (nI A) from by funext q; simp only [upd]; split; rename_i e1; rw [e1, hN]; rfl]
  refine zR_s rfl ?_
  refine zR_get rfl rfl (zc6) rfl ?_
  refine zR_s rfl ?_
  refine zR_get rfl rfl (zc6) rfl ?_
  refine zR_s rfl ?_
  first | refine zR_istF 4 (j := A) rfl (by decide) hA ?_ | refine zR_istF 5 (j := A) rfl (by decide) hA ?_ | refine zR_istF 6 (j := A) rfl (by decide) hA ?_ | refine zR_istF 7 (j := A) rfl (by decide) hA ?_
  refine zR_s rfl ?_
  refine zR_get rfl rfl (zc6) rfl ?_
  refine zR_s rfl ?_
  refine zR_get rfl rfl (zc6) rfl ?_
  refine zR_s rfl ?_
  first | refine zR_istF 4 (j := A) rfl (by decide) hA ?_ | refine zR_istF 5 (j := A) rfl (by decide) hA ?_ | refine zR_istF 6 (j := A) rfl (by decide) hA ?_ | refine zR_istF 7 (j := A) rfl (by decide) hA ?_
  refine zR_s rfl ?_
  refine zR_get rfl rfl (zc6) rfl ?_
  refine zR_s rfl ?_
  refine zR_get rfl rfl (zc6) rfl ?_
  refine zR_s rfl ?_
  first | refine zR_istF 4 (j := A) rfl (by decide) hA ?_ | refine zR_istF 5 (j := A) rfl (by decide) hA ?_ | refine zR_istF 6 (j := A) rfl (by decide) hA ?_ | refine zR_istF 7 (j := A) rfl (by decide) hA ?_
  refine zR_s rfl ?_
  refine zR_get rfl rfl (zc6) rfl ?_
  refine zR_s rfl ?_
  refine zR_get rfl rfl (zc6) rfl ?_
  refine zR_s rfl ?_
  first | refine zR_istF 4 (j := A) rfl (by decide) hA ?_ | refine zR_istF 5 (j := A) rfl (by decide) hA ?_ | refine zR_istF 6 (j := A) rfl (by decide) hA ?_ | refine zR_istF 7 (j := A) rfl (by decide) hA ?_
  refine zR_s rfl ?_
  refine zR_s rfl ?_
  refine zR_get rfl rfl (zc6) rfl ?_
  refine zR_cst (v := 1) rfl rfl rfl ?_
  refine zR_iadd rfl ?_
  refine zR_putH rfl rfl rfl ?_
  skip
  refine zR_rete rfl rfl rfl ?_
  have e1 : upd N 4 (nI (A + 1)) = upd (upd N 4 (nI A)) 4 (upd N 4 (nI A) 4 + 1) := by
    funext q
    simp only [upd, if_pos]
    split
    · rw [nI_1]
    · rfl
  have e2 : upd (upd N 4 (nI A)) 4 (nI (A + 1)) = upd N 4 (nI (A + 1)) := by
    funext q
    simp only [upd]
    split <;> rfl
  rw [e2, e1]
  rfl
theorem m_read {A r : Nat} {w : Int32} (hN : N 4 = nI A) (hA : A ≤ 400) (hr : r < A) : zMe sL sx (d + 1) 5 [.ref 6, .int (nI r), .int w] (zCs N F G K Z ++ tl) (.returned (some (.int (if w = 0 then F 5 r else if w = 1 then F 6 r else F 7 r)))) (zCs N F G K Z ++ tl) := by
  show zR sL sx _ 5 0 [.ref 6, .int (nI r), .int w] [] _ _ _
  have h1 : 0 ≤ nI r ∧ nI r ≤ N 4 - 1 := by
    refine ⟨nI_pos' (by omega), ?_⟩
    obtain ⟨A', rfl⟩ : ∃ A', A = A' + 1 := ⟨A - 1, by omega⟩
    rw [hN, nI_pred]
    exact nI_le (by omega) (by omega)
  refine zR_s rfl ?_
  refine zR_cst (v := 0) rfl rfl rfl ?_
  refine zR_s rfl ?_
  refine zR_get rfl rfl (zc6) rfl ?_
  refine zR_cst (v := 1) rfl rfl rfl ?_
  refine zR_isub rfl ?_
  refine zR_call rfl rfl rfl rfl (zcallok_s rfl) (m_isWithin) ?_
  first | refine zR_dt rfl rfl (fun c1 => ?_) (fun c1 => absurd h1 c1) | refine zR_bt rfl rfl (fun c1 => ?_) (fun c1 => absurd h1 c1) | refine zR_ifne rfl rfl (fun c1 => ?_) (fun c1 => absurd h1 c1)
  refine zR_s rfl ?_
  first | refine zR_dt rfl rfl (fun c2 => ?_) (fun c2 => ?_) | refine zR_bt rfl rfl (fun c2 => ?_) (fun c2 => ?_) | refine zR_ifne rfl rfl (fun c2 => ?_) (fun c2 => ?_)
  · refine zR_s rfl ?_
    refine zR_cst (v := 1) rfl rfl rfl ?_
    refine zR_icne rfl rfl (fun c3 => ?_) (fun c3 => ?_)
    · refine zR_s rfl ?_
      refine zR_get rfl rfl (zc6) rfl ?_
      refine zR_s rfl ?_
      first | refine zR_ildF 5 rfl (by decide) (show r < 400 by omega) ?_ | refine zR_ildF 6 rfl (by decide) (show r < 400 by omega) ?_ | refine zR_ildF 7 rfl (by decide) (show r < 400 by omega) ?_
      first | refine zR_rete rfl rfl ?_ ?_ | refine zR_retb rfl rfl ?_ ?_
      all_goals (first | rfl | simp [c2, c3] | simp [c2])
    · refine zR_s rfl ?_
      refine zR_get rfl rfl (zc6) rfl ?_
      refine zR_s rfl ?_
      first | refine zR_ildF 5 rfl (by decide) (show r < 400 by omega) ?_ | refine zR_ildF 6 rfl (by decide) (show r < 400 by omega) ?_ | refine zR_ildF 7 rfl (by decide) (show r < 400 by omega) ?_
      refine zR_s rfl ?_
      first | refine zR_rete rfl rfl ?_ ?_ | refine zR_retb rfl rfl ?_ ?_
      all_goals (first | rfl | simp [c2, c3] | simp [c2])
  · refine zR_s rfl ?_
    refine zR_get rfl rfl (zc6) rfl ?_
    refine zR_s rfl ?_
    first | refine zR_ildF 5 rfl (by decide) (show r < 400 by omega) ?_ | refine zR_ildF 6 rfl (by decide) (show r < 400 by omega) ?_ | refine zR_ildF 7 rfl (by decide) (show r < 400 by omega) ?_
    refine zR_s rfl ?_
    first | refine zR_rete rfl rfl ?_ ?_ | refine zR_retb rfl rfl ?_ ?_
    all_goals (first | rfl | simp [c2, c3] | simp [c2])
theorem m_be {a b c e f : Int32} (hi : i < 64) : zMe sL sx d 7 [.ref (i + 11), .int a, .int b, .int c, .int e, .int f] (zCs N F G K Z ++ tl) (.returned none) (zCs N F (updG (updG (updG (updG (updG G i 0 a) i 1 b) i 2 c) i 3 e) i 4 f) K (vp_updL Z i 0) ++ tl) := by
  show zR sL sx _ 7 0 [.ref (i + 11), .int a, .int b, .int c, .int e, .int f] [] _ _ _
  refine zR_s rfl ?_
  refine zR_s rfl ?_
  first | refine zR_putG rfl rfl hi (by decide) rfl ?_ | refine zR_putZ rfl rfl hi rfl ?_
  refine zR_s rfl ?_
  refine zR_s rfl ?_
  first | refine zR_putG rfl rfl hi (by decide) rfl ?_ | refine zR_putZ rfl rfl hi rfl ?_
  refine zR_s rfl ?_
  refine zR_s rfl ?_
  first | refine zR_putG rfl rfl hi (by decide) rfl ?_ | refine zR_putZ rfl rfl hi rfl ?_
  refine zR_s rfl ?_
  refine zR_s rfl ?_
  first | refine zR_putG rfl rfl hi (by decide) rfl ?_ | refine zR_putZ rfl rfl hi rfl ?_
  refine zR_s rfl ?_
  refine zR_s rfl ?_
  first | refine zR_putG rfl rfl hi (by decide) rfl ?_ | refine zR_putZ rfl rfl hi rfl ?_
  refine zR_s rfl ?_
  refine zR_lc (v := 0) rfl rfl ?_
  first | refine zR_putG rfl rfl hi (by decide) rfl ?_ | refine zR_putZ rfl rfl hi rfl ?_
  refine zR_rete rfl rfl ?_ ?_
  all_goals (first | rfl | simp [bI, *])
theorem m_stand {a b : Int32} {c : Option Nat} (hi : i < 64) : zMe sL sx d 8 [.ref (i + 11), .int a, .int b, zopt c] (zCs N F G K Z ++ tl) (.returned none) (zCs N F (updG (updG G i 5 a) i 6 b) (va_up K i c) Z ++ tl) := by
  have e : zent (zmax 8) [.ref (i + 11), .int a, .int b, zopt c] = [.ref (i + 11), .int a, .int b, zopt c] := by cases c <;> rfl
  rw [zMe, e]
  first | refine zR_s rfl ?_ | refine zR_alo rfl rfl rfl ?_
  refine zR_s rfl ?_
  first | refine zR_putG rfl rfl hi (by decide) rfl ?_ | refine zR_putK rfl rfl hi rfl ?_
  first | refine zR_s rfl ?_ | refine zR_alo rfl rfl rfl ?_
  refine zR_s rfl ?_
  first | refine zR_putG rfl rfl hi (by decide) rfl ?_ | refine zR_putK rfl rfl hi rfl ?_
  first | refine zR_s rfl ?_ | refine zR_alo rfl rfl rfl ?_
  first | refine zR_s rfl ?_ | refine zR_alo rfl rfl rfl ?_
  first | refine zR_putG rfl rfl hi (by decide) rfl ?_ | refine zR_putK rfl rfl hi rfl ?_
  refine zR_rete rfl rfl ?_ ?_
  all_goals (first | rfl | simp [bI, *])
theorem m_expire {a : Int32} (hi : i < 64) : zMe sL sx (d + 1) 11 [.ref (i + 11), .int a] (zCs N F G K Z ++ tl) (.returned (some (.int (bI (decide ((G i 5 = 0 ∨ G i 5 = 1) ∧ G i 2 < a)))))) (zCs N F (if (G i 5 = 0 ∨ G i 5 = 1) ∧ G i 2 < a then updG G i 5 3 else G) K Z ++ tl) := by
  show zR sL sx _ 11 0 [.ref (i + 11), .int a, .retAddr 0] [] _ _ _
  refine zR_s rfl ?_
  refine zR_get rfl rfl (zcU hi) rfl ?_
  first | refine zR_df rfl rfl (fun c1 => ?_) (fun c1 => ?_) | refine zR_bf rfl rfl (fun c1 => ?_) (fun c1 => ?_) | refine zR_ifeq rfl rfl (fun c1 => ?_) (fun c1 => ?_)
  · refine zR_s rfl ?_
    refine zR_s rfl ?_
    refine zR_call rfl rfl rfl rfl (zcallok_v (zcU hi) rfl rfl) (m_isOver (zcU hi)) ?_
    first | refine zR_df rfl rfl (fun c2 => ?_) (fun c2 => ?_) | refine zR_bf rfl rfl (fun c2 => ?_) (fun c2 => ?_) | refine zR_ifeq rfl rfl (fun c2 => ?_) (fun c2 => ?_)
    · refine zR_cst (v := 0) rfl rfl rfl ?_
      refine zR_s rfl ?_
      refine zR_s rfl ?_
      refine zR_ifeq rfl rfl (fun _ => ?_) (fun c => absurd c (by decide))
      refine zR_s rfl ?_
      first | refine zR_rete rfl rfl ?_ ?_ | refine zR_retb rfl rfl ?_ ?_
      all_goals (first | rfl | simp [bI, *])
    · refine zR_cst (v := 1) rfl rfl rfl ?_
      refine zR_s rfl ?_
      refine zR_s rfl ?_
      refine zR_s rfl ?_
      refine zR_ifeq rfl rfl (fun c => absurd c (by decide)) (fun _ => ?_)
      refine zR_s rfl ?_
      refine zR_cst (v := 3) rfl rfl rfl ?_
      refine zR_putG rfl rfl hi (by decide) rfl ?_
      refine zR_s rfl ?_
      first | refine zR_rete rfl rfl ?_ ?_ | refine zR_retb rfl rfl ?_ ?_
      all_goals (first | rfl | simp [bI, *])
  · refine zR_s rfl ?_
    refine zR_get rfl rfl (zcU hi) rfl ?_
    refine zR_cst (v := 1) rfl rfl rfl ?_
    refine zR_icne rfl rfl (fun c2 => ?_) (fun c2 => ?_)
    · refine zR_cst (v := 0) rfl rfl rfl ?_
      refine zR_s rfl ?_
      refine zR_s rfl ?_
      refine zR_ifeq rfl rfl (fun _ => ?_) (fun c => absurd c (by decide))
      refine zR_s rfl ?_
      first | refine zR_rete rfl rfl ?_ ?_ | refine zR_retb rfl rfl ?_ ?_
      all_goals (first | rfl | simp [bI, *])
    · refine zR_s rfl ?_
      refine zR_s rfl ?_
      refine zR_call rfl rfl rfl rfl (zcallok_v (zcU hi) rfl rfl) (m_isOver (zcU hi)) ?_
      first | refine zR_df rfl rfl (fun c3 => ?_) (fun c3 => ?_) | refine zR_bf rfl rfl (fun c3 => ?_) (fun c3 => ?_) | refine zR_ifeq rfl rfl (fun c3 => ?_) (fun c3 => ?_)
      · refine zR_cst (v := 0) rfl rfl rfl ?_
        refine zR_s rfl ?_
        refine zR_s rfl ?_
        refine zR_ifeq rfl rfl (fun _ => ?_) (fun c => absurd c (by decide))
        refine zR_s rfl ?_
        first | refine zR_rete rfl rfl ?_ ?_ | refine zR_retb rfl rfl ?_ ?_
        all_goals (first | rfl | simp [bI, *])
      · refine zR_cst (v := 1) rfl rfl rfl ?_
        refine zR_s rfl ?_
        refine zR_s rfl ?_
        refine zR_s rfl ?_
        refine zR_ifeq rfl rfl (fun c => absurd c (by decide)) (fun _ => ?_)
        refine zR_s rfl ?_
        refine zR_cst (v := 3) rfl rfl rfl ?_
        refine zR_putG rfl rfl hi (by decide) rfl ?_
        refine zR_s rfl ?_
        first | refine zR_rete rfl rfl ?_ ?_ | refine zR_retb rfl rfl ?_ ?_
        all_goals (first | rfl | simp [bI, *])
def zbec (s l n t : Int32) : Bool := if n = 5 then decide (¬ s = 4 ∧ ¬ s = 5) else if (n = 0 ∨ n = 1) ∧ l < t then false else if s = 0 then decide (n = 1 ∨ n = 2) else if s = 1 then decide (n = 0 ∨ n = 2) else if s = 2 then decide (n = 1) else false
theorem zsw_d {pc : Nat} {df lo hi : Int} {offs : Array Int} {v : Int32} (h : v.toInt < lo ∨ hi < v.toInt) : zsw pc df lo hi offs v = some (zto pc df) := if_pos h
theorem i32_ne {v : Int32} {n : Int32} (h : ¬ v = n) : v.toInt ≠ n.toInt := fun q => h (Int32.toInt_inj.mp q)
theorem m_canBecome {n t : Int32} (hi : i < 64) : zMe sL sx (d + 1) 12 [.ref (i + 11), .int n, .int t] (zCs N F G K Z ++ tl) (.returned (some (.int (bI (zbec (G i 5) (G i 2) n t))))) (zCs N F G K Z ++ tl) := by
  show zR sL sx _ 12 0 [.ref (i + 11), .int n, .int t] [] _ _ _
  have sw : ¬ n = 5 → ¬ ((n = 0 ∨ n = 1) ∧ G i 2 < t) → zR sL sx (d + 1) 12 29 [.ref (i + 11), .int n, .int t] [] (zCs N F G K Z ++ tl) (.returned (some (.int (bI (zbec (G i 5) (G i 2) n t))))) (zCs N F G K Z ++ tl) := by
    intro e1 e2
    have e3 : zbec (G i 5) (G i 2) n t = (if G i 5 = 0 then decide (n = 1 ∨ n = 2) else if G i 5 = 1 then decide (n = 0 ∨ n = 2) else if G i 5 = 2 then decide (n = 1) else false) := by
      rw [zbec, if_neg e1, if_neg e2]
    rw [e3]
    refine zR_s rfl ?_
    refine zR_get rfl rfl (zcU hi) rfl ?_
    by_cases s0 : G i 5 = 0
    · refine zR_sw (tgt := 60) rfl (by show zsw _ _ _ _ _ (G i 5) = _; rw [s0]; rfl) ?_
      rw [if_pos s0]
      refine zR_s rfl ?_
      refine zR_cst (v := 1) rfl rfl rfl ?_
      refine zR_iceq rfl rfl (fun c1 => ?_) (fun c1 => ?_)
      · refine zR_cst (v := 1) rfl rfl rfl ?_
        refine zR_s rfl ?_
        first | refine zR_rete rfl rfl ?_ ?_ | refine zR_retb rfl rfl ?_ ?_
        all_goals (first | rfl | simp [bI, *])
      · refine zR_s rfl ?_
        refine zR_cst (v := 2) rfl rfl rfl ?_
        refine zR_icne rfl rfl (fun c2 => ?_) (fun c2 => ?_)
        · refine zR_cst (v := 0) rfl rfl rfl ?_
          first | refine zR_rete rfl rfl ?_ ?_ | refine zR_retb rfl rfl ?_ ?_
          all_goals (first | rfl | simp [bI, *])
        · refine zR_cst (v := 1) rfl rfl rfl ?_
          refine zR_s rfl ?_
          first | refine zR_rete rfl rfl ?_ ?_ | refine zR_retb rfl rfl ?_ ?_
          all_goals (first | rfl | simp [bI, *])
    by_cases s1 : G i 5 = 1
    · refine zR_sw (tgt := 76) rfl (by show zsw _ _ _ _ _ (G i 5) = _; rw [s1]; rfl) ?_
      rw [if_neg s0, if_pos s1]
      refine zR_s rfl ?_
      first | refine zR_df rfl rfl (fun c1 => ?_) (fun c1 => ?_) | refine zR_bf rfl rfl (fun c1 => ?_) (fun c1 => ?_) | refine zR_ifeq rfl rfl (fun c1 => ?_) (fun c1 => ?_)
      · refine zR_cst (v := 1) rfl rfl rfl ?_
        refine zR_s rfl ?_
        first | refine zR_rete rfl rfl ?_ ?_ | refine zR_retb rfl rfl ?_ ?_
        all_goals (first | rfl | simp [bI, *])
      · refine zR_s rfl ?_
        refine zR_cst (v := 2) rfl rfl rfl ?_
        refine zR_icne rfl rfl (fun c2 => ?_) (fun c2 => ?_)
        · refine zR_cst (v := 0) rfl rfl rfl ?_
          first | refine zR_rete rfl rfl ?_ ?_ | refine zR_retb rfl rfl ?_ ?_
          all_goals (first | rfl | simp [bI, *])
        · refine zR_cst (v := 1) rfl rfl rfl ?_
          refine zR_s rfl ?_
          first | refine zR_rete rfl rfl ?_ ?_ | refine zR_retb rfl rfl ?_ ?_
          all_goals (first | rfl | simp [bI, *])
    by_cases s2 : G i 5 = 2
    · refine zR_sw (tgt := 91) rfl (by show zsw _ _ _ _ _ (G i 5) = _; rw [s2]; rfl) ?_
      rw [if_neg s0, if_neg s1, if_pos s2]
      refine zR_s rfl ?_
      refine zR_cst (v := 1) rfl rfl rfl ?_
      refine zR_icne rfl rfl (fun c1 => ?_) (fun c1 => ?_)
      · refine zR_cst (v := 0) rfl rfl rfl ?_
        first | refine zR_rete rfl rfl ?_ ?_ | refine zR_retb rfl rfl ?_ ?_
        all_goals (first | rfl | simp [bI, *])
      · refine zR_cst (v := 1) rfl rfl rfl ?_
        refine zR_s rfl ?_
        first | refine zR_rete rfl rfl ?_ ?_ | refine zR_retb rfl rfl ?_ ?_
        all_goals (first | rfl | simp [bI, *])
    rw [if_neg s0, if_neg s1, if_neg s2]
    have q0 := i32_ne s0
    have q1 := i32_ne s1
    have q2 := i32_ne s2
    simp at q0 q1 q2
    refine zR_sw (tgt := 102) rfl (zsw_d (v := G i 5) (by omega)) ?_
    refine zR_cst (v := 0) rfl rfl rfl ?_
    first | refine zR_rete rfl rfl ?_ ?_ | refine zR_retb rfl rfl ?_ ?_
    all_goals (first | rfl | simp [bI, *])
  refine zR_s rfl ?_
  refine zR_cst (v := 5) rfl rfl rfl ?_
  refine zR_icne rfl rfl (fun c1 => ?_) (fun c1 => ?_)
  · refine zR_s rfl ?_
    first | refine zR_df rfl rfl (fun c2 => ?_) (fun c2 => ?_) | refine zR_bf rfl rfl (fun c2 => ?_) (fun c2 => ?_) | refine zR_ifeq rfl rfl (fun c2 => ?_) (fun c2 => ?_)
    · refine zR_s rfl ?_
      refine zR_s rfl ?_
      refine zR_call rfl rfl rfl rfl (zcallok_v (zcU hi) rfl rfl) (m_isOver (zcU hi)) ?_
      first | refine zR_df rfl rfl (fun c3 => ?_) (fun c3 => ?_) | refine zR_bf rfl rfl (fun c3 => ?_) (fun c3 => ?_) | refine zR_ifeq rfl rfl (fun c3 => ?_) (fun c3 => ?_)
      · exact sw (by assumption) (by simp [*])
      · refine zR_cst (v := 0) rfl rfl rfl ?_
        first | refine zR_rete rfl rfl ?_ ?_ | refine zR_retb rfl rfl ?_ ?_
        all_goals (first | rfl | simp [zbec, zst, bI, *])
    · refine zR_s rfl ?_
      refine zR_cst (v := 1) rfl rfl rfl ?_
      refine zR_icne rfl rfl (fun c3 => ?_) (fun c3 => ?_)
      · exact sw (by assumption) (by simp [*])
      · refine zR_s rfl ?_
        refine zR_s rfl ?_
        refine zR_call rfl rfl rfl rfl (zcallok_v (zcU hi) rfl rfl) (m_isOver (zcU hi)) ?_
        first | refine zR_df rfl rfl (fun c4 => ?_) (fun c4 => ?_) | refine zR_bf rfl rfl (fun c4 => ?_) (fun c4 => ?_) | refine zR_ifeq rfl rfl (fun c4 => ?_) (fun c4 => ?_)
        · exact sw (by assumption) (by simp [*])
        · refine zR_cst (v := 0) rfl rfl rfl ?_
          first | refine zR_rete rfl rfl ?_ ?_ | refine zR_retb rfl rfl ?_ ?_
          all_goals (first | rfl | simp [zbec, zst, bI, *])
  · refine zR_s rfl ?_
    refine zR_call rfl rfl rfl rfl (zcallok_v (zcU hi) rfl rfl) (m_stands (zcU hi)) ?_
    first | refine zR_rete rfl rfl ?_ ?_ | refine zR_retb rfl rfl ?_ ?_
    all_goals (first | rfl | simp [zbec, zst, bI, *])
/-- is u among the next n containers? -/
def zlw (K : Nat → Option Nat) (u : Nat) : Nat → Option Nat → Bool
  | 0, _ => false
  | _ + 1, none => false
  | n + 1, some c => decide (c = u) || zlw K u n (K c)
/-- how many containers, n at most -/
def zdp (K : Nat → Option Nat) : Nat → Option Nat → Nat
  | 0, _ => 0
  | _ + 1, none => 0
  | n + 1, some c => zdp K n (K c) + 1
def zKb (K : Nat → Option Nat) : Prop := ∀ c c', K c = some c' → c' < 64
theorem zR_cv {sL : Nat} {sx : Nat → Int32} {d y pc : Nat} {L L' S : List Value} {h hF : zH} {o : Outcome} (e : L = L') (k : zR sL sx d y pc L' S h o hF) : zR sL sx d y pc L S h o hF := by subst e; exact k
theorem zR_aner {sL : Nat} {sx : Nat → Int32} {d y pc : Nat} {L S : List Value} {h hF : zH} {o : Outcome} {off : Int} {tgt : Nat} {a b : Nat} (hz : zat y pc = some (.if_acmp .ne off, 3)) (ht : zto pc off = tgt) (kt : ¬ a = b → zR sL sx d y tgt L S h o hF) (kf : a = b → zR sL sx d y (pc + 3) L S h o hF) : zR sL sx d y pc L (.ref (b + 11) :: .ref (a + 11) :: S) h o hF := zR_ane (a := some a) (b := some b) hz ht (fun c => kt (fun e => c (by rw [e]))) (fun c => kf (Option.some.inj c))
theorem zR_aeqr {sL : Nat} {sx : Nat → Int32} {d y pc : Nat} {L S : List Value} {h hF : zH} {o : Outcome} {off : Int} {tgt : Nat} {a b : Nat} (hz : zat y pc = some (.if_acmp .eq off, 3)) (ht : zto pc off = tgt) (kt : a = b → zR sL sx d y tgt L S h o hF) (kf : ¬ a = b → zR sL sx d y (pc + 3) L S h o hF) : zR sL sx d y pc L (.ref (b + 11) :: .ref (a + 11) :: S) h o hF := zR_aeq (a := some a) (b := some b) hz ht (fun c => kt (Option.some.inj c)) (fun c => kf (fun e => c (by rw [e])))
theorem m_liesWithin {u : Nat} (hK : zKb K) (hi : i < 64) : zMe sL sx d 14 [.ref (i + 11), .ref (u + 11)] (zCs N F G K Z ++ tl) (.returned (some (.int (bI (zlw K u 4 (K i)))))) (zCs N F G K Z ++ tl) := by
  have key : ∀ f t x, f + t = 4 → (∀ c, x = some c → c < 64) → zR sL sx d 14 7 [.ref (i + 11), .ref (u + 11), zopt x, .int (nI (t + 1))] [] (zCs N F G K Z ++ tl) (.returned (some (.int (bI (zlw K u f x))))) (zCs N F G K Z ++ tl) := by
    intro f
    induction f with
    | zero =>
      intro t x e hx
      have ht : t = 4 := by omega
      subst ht
      first | refine zR_s rfl ?_ | refine zR_alo rfl rfl rfl ?_
      refine zR_null1 rfl rfl (fun c1 => ?_) (fun c1 => ?_)
      · refine zR_cst (v := 0) rfl rfl rfl ?_
        first | refine zR_rete rfl rfl ?_ ?_ | refine zR_retb rfl rfl ?_ ?_
        all_goals (first | rfl)
      · refine zR_s rfl ?_
        refine zR_cst (v := 5) rfl rfl rfl ?_
        refine zR_icge rfl rfl (fun c2 => ?_) (fun c2 => absurd (show (5 : Int32) ≤ nI (4 + 1) by decide) c2)
        refine zR_cst (v := 0) rfl rfl rfl ?_
        first | refine zR_rete rfl rfl ?_ ?_ | refine zR_retb rfl rfl ?_ ?_
        all_goals (first | rfl)
    | succ f ih =>
      intro t x e hx
      first | refine zR_s rfl ?_ | refine zR_alo rfl rfl rfl ?_
      refine zR_null1 rfl rfl (fun c1 => ?_) (fun c1 => ?_)
      · refine zR_cst (v := 0) rfl rfl rfl ?_
        first | refine zR_rete rfl rfl ?_ ?_ | refine zR_retb rfl rfl ?_ ?_
        all_goals (first | rfl | simp [zlw, bI, *])
      · obtain ⟨c, rfl⟩ : ∃ c, x = some c := by { cases x; exact absurd rfl c1; exact ⟨_, rfl⟩ }
        refine zR_s rfl ?_
        refine zR_cst (v := 5) rfl rfl rfl ?_
        refine zR_icge rfl rfl (fun c => by first | exact absurd c ((nI_ge (a := t + 1) (b := 5) (by omega) (by omega))) | exact absurd ((nI_ge (a := t + 1) (b := 5) (by omega) (by omega))) c) (fun _ => ?_)
        first | refine zR_s rfl ?_ | refine zR_alo rfl rfl rfl ?_
        first | refine zR_s rfl ?_ | refine zR_alo rfl rfl rfl ?_
        first | refine zR_aner rfl rfl (fun c2 => ?_) (fun c2 => ?_) | refine zR_ane rfl rfl (fun c2 => ?_) (fun c2 => ?_)
        · first | refine zR_s rfl ?_ | refine zR_alo rfl rfl rfl ?_
          refine zR_get rfl rfl (zcU (hx _ rfl)) rfl ?_
          first | refine zR_s rfl ?_ | refine zR_aso rfl rfl rfl ?_
          first | refine zR_incn rfl rfl rfl ?_ | refine zR_s rfl ?_
          refine zR_goto rfl rfl ?_
          (have w := ih (t + 1) (K c) (by omega) (fun c2 e2 => hK _ _ e2); simp only [zlw, c2, decide_false, Bool.false_or]; exact zR_cv (by cases (K c) <;> rfl) w)
        · refine zR_cst (v := 1) rfl rfl rfl ?_
          first | refine zR_rete rfl rfl ?_ ?_ | refine zR_retb rfl rfl ?_ ?_
          all_goals (first | rfl | simp [zlw, bI, *])
  show zR sL sx _ 14 0 [.ref (i + 11), .ref (u + 11), .retAddr 0, .retAddr 0] [] _ _ _
  first | refine zR_s rfl ?_ | refine zR_alo rfl rfl rfl ?_
  refine zR_get rfl rfl (zcU hi) rfl ?_
  first | refine zR_s rfl ?_ | refine zR_aso rfl rfl rfl ?_
  refine zR_cst (v := 1) rfl rfl rfl ?_
  refine zR_s rfl ?_
  exact zR_cv (by cases (K i) <;> rfl) (key 4 0 (K i) rfl (fun c e => hK _ _ e))
theorem m_depth (hK : zKb K) (hi : i < 64) : zMe sL sx (d + 1) 13 [.ref (i + 11)] (zCs N F G K Z ++ tl) (.returned (some (.int (nI (bif zst (G i) then zdp K 4 (K i) + 1 else 0))))) (zCs N F G K Z ++ tl) := by
  have key : ∀ f t x, f + t = 4 → (∀ c, x = some c → c < 64) → zR sL sx (d + 1) 13 16 [.ref (i + 11), .int (nI (t + 1)), zopt x] [] (zCs N F G K Z ++ tl) (.returned (some (.int (nI (zdp K f x + t + 1))))) (zCs N F G K Z ++ tl) := by
    intro f
    induction f with
    | zero =>
      intro t x e hx
      have ht : t = 4 := by omega
      subst ht
      first | refine zR_s rfl ?_ | refine zR_alo rfl rfl rfl ?_
      refine zR_null1 rfl rfl (fun c1 => ?_) (fun c1 => ?_)
      · refine zR_s rfl ?_
        first | refine zR_rete rfl rfl ?_ ?_ | refine zR_retb rfl rfl ?_ ?_
        all_goals (first | rfl | simp [zdp])
      · refine zR_s rfl ?_
        refine zR_cst (v := 5) rfl rfl rfl ?_
        refine zR_icge rfl rfl (fun c2 => ?_) (fun c2 => absurd (show (5 : Int32) ≤ nI (4 + 1) by decide) c2)
        refine zR_s rfl ?_
        first | refine zR_rete rfl rfl ?_ ?_ | refine zR_retb rfl rfl ?_ ?_
        all_goals (first | rfl | simp [zdp])
    | succ f ih =>
      intro t x e hx
      first | refine zR_s rfl ?_ | refine zR_alo rfl rfl rfl ?_
      refine zR_null1 rfl rfl (fun c1 => ?_) (fun c1 => ?_)
      · refine zR_s rfl ?_
        first | refine zR_rete rfl rfl ?_ ?_ | refine zR_retb rfl rfl ?_ ?_
        all_goals (first | rfl | simp [zdp, *])
      · obtain ⟨c, rfl⟩ : ∃ c, x = some c := by { cases x; exact absurd rfl c1; exact ⟨_, rfl⟩ }
        refine zR_s rfl ?_
        refine zR_cst (v := 5) rfl rfl rfl ?_
        refine zR_icge rfl rfl (fun c => by first | exact absurd c ((nI_ge (a := t + 1) (b := 5) (by omega) (by omega))) | exact absurd ((nI_ge (a := t + 1) (b := 5) (by omega) (by omega))) c) (fun _ => ?_)
        first | refine zR_incn rfl rfl rfl ?_ | refine zR_s rfl ?_
        first | refine zR_s rfl ?_ | refine zR_alo rfl rfl rfl ?_
        refine zR_get rfl rfl (zcU (hx _ rfl)) rfl ?_
        first | refine zR_s rfl ?_ | refine zR_aso rfl rfl rfl ?_
        refine zR_goto rfl rfl ?_
        (have w := ih (t + 1) (K c) (by omega) (fun c2 e2 => hK _ _ e2); rw [show zdp K f (K c) + (t + 1) + 1 = zdp K (f + 1) (some c) + t + 1 by simp only [zdp]; omega] at w; exact w)
  show zR sL sx _ 13 0 [.ref (i + 11), .retAddr 0, .retAddr 0] [] _ _ _
  first | refine zR_s rfl ?_ | refine zR_alo rfl rfl rfl ?_
  refine zR_call rfl rfl rfl rfl (zcallok_v (zcU hi) rfl rfl) (m_stands (zcU hi)) ?_
  first | refine zR_dt rfl rfl (fun c1 => ?_) (fun c1 => ?_) | refine zR_bt rfl rfl (fun c1 => ?_) (fun c1 => ?_) | refine zR_ifne rfl rfl (fun c1 => ?_) (fun c1 => ?_)
  · refine zR_cst (v := 1) rfl rfl rfl ?_
    refine zR_s rfl ?_
    first | refine zR_s rfl ?_ | refine zR_alo rfl rfl rfl ?_
    refine zR_get rfl rfl (zcU hi) rfl ?_
    first | refine zR_s rfl ?_ | refine zR_aso rfl rfl rfl ?_
    (rw [show zst (G i) = true from decide_eq_true c1]; exact key 4 0 (K i) rfl (fun c e => hK _ _ e))
  · refine zR_cst (v := 0) rfl rfl rfl ?_
    first | refine zR_rete rfl rfl ?_ ?_ | refine zR_retb rfl rfl ?_ ?_
    all_goals (first | rfl | (rw [show zst (G i) = false from decide_eq_false c1]; rfl))
theorem m_isLike {j : Nat} (hi : i < 64) (hj : j < 64) : zMe sL sx d 16 [.ref (i + 11), .ref (j + 11)] (zCs N F G K Z ++ tl) (.returned (some (.int (bI (decide (G i 0 = G j 0 ∧ G i 3 = G j 3 ∧ G i 5 = G j 5 ∧ G i 6 = G j 6 ∧ K i = K j)))))) (zCs N F G K Z ++ tl) := by
  show zR sL sx _ 16 0 [.ref (i + 11), .ref (j + 11)] [] _ _ _
  refine zR_s rfl ?_
  first | refine zR_get rfl rfl (zcU hi) rfl ?_ | refine zR_get rfl rfl (zcU hj) rfl ?_
  refine zR_s rfl ?_
  first | refine zR_get rfl rfl (zcU hi) rfl ?_ | refine zR_get rfl rfl (zcU hj) rfl ?_
  refine zR_icne rfl rfl (fun c1 => ?_) (fun c1 => ?_)
  · refine zR_cst (v := 0) rfl rfl rfl ?_
    first | refine zR_rete rfl rfl ?_ ?_ | refine zR_retb rfl rfl ?_ ?_
    all_goals (first | rfl | simp [bI, *])
  · refine zR_s rfl ?_
    first | refine zR_get rfl rfl (zcU hi) rfl ?_ | refine zR_get rfl rfl (zcU hj) rfl ?_
    refine zR_s rfl ?_
    first | refine zR_get rfl rfl (zcU hi) rfl ?_ | refine zR_get rfl rfl (zcU hj) rfl ?_
    refine zR_icne rfl rfl (fun c2 => ?_) (fun c2 => ?_)
    · refine zR_cst (v := 0) rfl rfl rfl ?_
      first | refine zR_rete rfl rfl ?_ ?_ | refine zR_retb rfl rfl ?_ ?_
      all_goals (first | rfl | simp [bI, *])
    · refine zR_s rfl ?_
      first | refine zR_get rfl rfl (zcU hi) rfl ?_ | refine zR_get rfl rfl (zcU hj) rfl ?_
      refine zR_s rfl ?_
      first | refine zR_get rfl rfl (zcU hi) rfl ?_ | refine zR_get rfl rfl (zcU hj) rfl ?_
      refine zR_icne rfl rfl (fun c3 => ?_) (fun c3 => ?_)
      · refine zR_cst (v := 0) rfl rfl rfl ?_
        first | refine zR_rete rfl rfl ?_ ?_ | refine zR_retb rfl rfl ?_ ?_
        all_goals (first | rfl | simp [bI, *])
      · refine zR_s rfl ?_
        first | refine zR_get rfl rfl (zcU hi) rfl ?_ | refine zR_get rfl rfl (zcU hj) rfl ?_
        refine zR_s rfl ?_
        first | refine zR_get rfl rfl (zcU hi) rfl ?_ | refine zR_get rfl rfl (zcU hj) rfl ?_
        refine zR_icne rfl rfl (fun c4 => ?_) (fun c4 => ?_)
        · refine zR_cst (v := 0) rfl rfl rfl ?_
          first | refine zR_rete rfl rfl ?_ ?_ | refine zR_retb rfl rfl ?_ ?_
          all_goals (first | rfl | simp [bI, *])
        · refine zR_s rfl ?_
          first | refine zR_get rfl rfl (zcU hi) rfl ?_ | refine zR_get rfl rfl (zcU hj) rfl ?_
          refine zR_s rfl ?_
          first | refine zR_get rfl rfl (zcU hi) rfl ?_ | refine zR_get rfl rfl (zcU hj) rfl ?_
          refine zR_ane rfl rfl (fun c5 => ?_) (fun c5 => ?_)
          · refine zR_cst (v := 0) rfl rfl rfl ?_
            first | refine zR_rete rfl rfl ?_ ?_ | refine zR_retb rfl rfl ?_ ?_
            all_goals (first | rfl | simp [bI, *])
          · refine zR_cst (v := 1) rfl rfl rfl ?_
            refine zR_s rfl ?_
            first | refine zR_rete rfl rfl ?_ ?_ | refine zR_retb rfl rfl ?_ ?_
            all_goals (first | rfl | simp [bI, *])
def zpkU (g : Nat → Int32) (z : Int64) : Int64 := ((g 0 ||| g 3 <<< ((4 : Int32) &&& 31) ||| (g 4 - 1) <<< ((7 : Int32) &&& 31) ||| g 5 <<< ((17 : Int32) &&& 31)).toInt64) ||| z <<< ((20 : Int32).toInt64 &&& 63)
theorem m_pack (hi : i < 64) : zMe sL sx d 17 [.ref (i + 11)] (zCs N F G K Z ++ tl) (.returned (some (.long (zpkU (G i) (Z i))))) (zCs N F G K Z ++ tl) := by
  show zR sL sx _ 17 0 [.ref (i + 11), .retAddr 0, .retAddr 0] [] _ _ _
  refine zR_s rfl ?_
  refine zR_get rfl rfl (zcU hi) rfl ?_
  refine zR_s rfl ?_
  refine zR_get rfl rfl (zcU hi) rfl ?_
  refine zR_cst (v := 4) rfl rfl rfl ?_
  refine zR_s rfl ?_
  refine zR_s rfl ?_
  refine zR_s rfl ?_
  refine zR_get rfl rfl (zcU hi) rfl ?_
  refine zR_cst (v := 1) rfl rfl rfl ?_
  refine zR_isub rfl ?_
  refine zR_cst (v := 7) rfl rfl rfl ?_
  refine zR_s rfl ?_
  refine zR_s rfl ?_
  refine zR_s rfl ?_
  refine zR_get rfl rfl (zcU hi) rfl ?_
  refine zR_cst (v := 17) rfl rfl rfl ?_
  refine zR_s rfl ?_
  refine zR_s rfl ?_
  refine zR_s rfl ?_
  refine zR_s rfl ?_
  refine zR_s rfl ?_
  refine zR_s rfl ?_
  refine zR_get rfl rfl (zcU hi) rfl ?_
  refine zR_cst (v := 20) rfl rfl rfl ?_
  refine zR_s rfl ?_
  refine zR_s rfl ?_
  refine zR_rete rfl rfl ?_ ?_
  all_goals (first | rfl | simp [bI, *])
end ZCS
