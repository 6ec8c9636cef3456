/-! what each method of the class does, as a function; and that it does it -/
abbrev zQ : Type := Except Nat (Option Value × (Nat → Int32) × (Nat → Nat → Int32) × (Nat → Nat → Int32) × (Nat → Option Nat) × (Nat → Int64))
def zO (q : zQ) : Outcome := match q with
  | .ok r => .returned r.1
  | .error e => .threw e
def zHc (h : zH) (tl : zH) (q : zQ) : zH := match q with
  | .ok r => zCs r.2.1 r.2.2.1 r.2.2.2.1 r.2.2.2.2.1 r.2.2.2.2.2 ++ tl
  | .error e => h ++ [(100 + e, [])]
theorem zpl {p : Int32} {n : Nat} {b : Int32} (hb : b = nI n) (hn : n < 1000) (c : 0 ≤ p ∧ p ≤ b) : ∃ p', p' ≤ n ∧ p = nI p' ∧ (nI p').toNatClampNeg = p' := by
  subst hb
  obtain ⟨j, hj, e⟩ := nI_of2 (nI_toInt (n := n) (by omega)) (Int32.not_lt.mpr c.1) c.2
  exact ⟨j, hj, e, nI_clamp (by omega)⟩
theorem zroom1 {x : Int32} {A : Nat} (hA : x = nI A) (h4 : A ≤ 400) (c : x + 1 ≤ 400) : A < 400 := by
  subst hA
  rw [nI_1] at c
  have := (nI_leI (a := A + 1) (b := 400) (by omega) (by omega)).mp c
  omega
theorem zroom2 {x : Int32} {A : Nat} (hA : x = nI A) (h4 : A ≤ 400) (c : x + 2 ≤ 400) : A + 1 < 400 := by
  subst hA
  rw [show nI A + 2 = nI (A + 2) from nI_add A 2] at c
  have := (nI_leI (a := A + 2) (b := 400) (by omega) (by omega)).mp c
  omega
section ZAC
variable {sL : Nat} {sx : Nat → Int32} {N : Nat → Int32} {F G : Nat → Nat → Int32} {K : Nat → Option Nat} {Z : Nat → Int64} {tl : zH} {M A l i u : Nat}
def q_rows (N : Nat → Int32) (F G : Nat → Nat → Int32) (K : Nat → Option Nat) (Z : Nat → Int64) (n : Int32) : zQ :=
  if 0 ≤ n then if n ≤ 64 then .ok (none, upd (upd (upd N 1 0) 2 n) 4 0, F, G, K, Z) else .error 1 else .error 0
theorem c_rows {n : Int32} : zMe sL sx 10 19 [.ref 0, .int n] (zCs N F G K Z ++ tl) (zO (q_rows N F G K Z n)) (zHc (zCs N F G K Z ++ tl) tl (q_rows N F G K Z n)) := by
  show zR sL sx _ 19 0 [.ref 0, .int n] [] _ _ _
  refine zR_s rfl ?_
  refine zR_ifge rfl rfl (fun c1 => ?_) (fun c1 => ?_)
  · refine zR_s rfl ?_
    refine zR_cst (v := 0) rfl rfl rfl ?_
    refine zR_cst (v := 64) rfl rfl rfl ?_
    refine zR_callt rfl rfl rfl rfl (zcallok_s rfl) rfl (m_checkRange (by decide)) (fun c2 => ?_) (fun c2 => ?_)
    · refine zR_s rfl ?_
      refine zR_cst (v := 0) rfl rfl rfl ?_
      refine zR_putN rfl rfl (by decide) rfl ?_
      refine zR_s rfl ?_
      refine zR_s rfl ?_
      refine zR_putN rfl rfl (by decide) rfl ?_
      refine zR_s rfl ?_
      refine zR_get rfl rfl (zc0) rfl ?_
      refine zR_call rfl rfl rfl rfl (zcallok_v (zc6) rfl rfl) (m_clear) ?_
      refine zR_rete rfl rfl ?_ ?_
      all_goals (first | simp [zO, zHc, q_rows, *]; done | (have c3 : ¬ n ≤ 64 := fun q => c2 ⟨c1, q⟩; simp [zO, zHc, q_rows, *]))
    · first | simp [zO, zHc, q_rows, *]; done | (have c3 : ¬ n ≤ 64 := fun q => c2 ⟨c1, q⟩; simp [zO, zHc, q_rows, *])
  · refine zR_throwe (by omega) rfl rfl rfl ?_ ?_
    all_goals (first | simp [zO, zHc, q_rows, *]; done | (have c3 : ¬ n ≤ 64 := fun q => c2 ⟨c1, q⟩; simp [zO, zHc, q_rows, *]))
def q_place (N : Nat → Int32) (F G : Nat → Nat → Int32) (K : Nat → Option Nat) (Z : Nat → Int64) (M : Nat) (p m : Int32) : zQ :=
  if 0 ≤ p ∧ p ≤ 15 then if 0 ≤ m ∧ m ≤ 64 then if nI (zcnt (zqP G p) M) ≤ m then .ok (none, N, updF F 0 (upd (F 0) p.toNatClampNeg m), G, K, Z) else .error 2 else .error 1 else .error 1
theorem c_place {p m : Int32} (hM : N 1 = nI M) (hm : M ≤ 64) : zMe sL sx 10 20 [.ref 0, .int p, .int m] (zCs N F G K Z ++ tl) (zO (q_place N F G K Z M p m)) (zHc (zCs N F G K Z ++ tl) tl (q_place N F G K Z M p m)) := by
  show zR sL sx _ 20 0 [.ref 0, .int p, .int m] [] _ _ _
  refine zR_s rfl ?_
  refine zR_callt rfl rfl rfl rfl (zcallok_s rfl) rfl (m_checkPlace (by decide)) (fun c1 => ?_) (fun c1 => ?_)
  · refine zR_s rfl ?_
    refine zR_cst (v := 0) rfl rfl rfl ?_
    refine zR_cst (v := 64) rfl rfl rfl ?_
    refine zR_callt rfl rfl rfl rfl (zcallok_s rfl) rfl (m_checkRange (by decide)) (fun c2 => ?_) (fun c2 => ?_)
    · refine zR_s rfl ?_
      refine zR_s rfl ?_
      refine zR_call rfl rfl rfl rfl (zcallok_v (zc0) rfl rfl) (m_unitsAt hM hm) ?_
      refine zR_s rfl ?_
      refine zR_icle rfl rfl (fun c3 => ?_) (fun c3 => ?_)
      · obtain ⟨p', hp, rfl, ep⟩ := zpl (n := 15) rfl (by decide) c1
        refine zR_s rfl ?_
        refine zR_get rfl rfl (zc0) rfl ?_
        refine zR_s rfl ?_
        refine zR_s rfl ?_
        refine zR_istF 0 rfl (by decide) (show p' < 16 by omega) ?_
        refine zR_rete rfl rfl ?_ ?_
        all_goals (simp [zO, zHc, q_place, *])
      · refine zR_throwe (by omega) rfl rfl rfl ?_ ?_
        all_goals (simp [zO, zHc, q_place, *])
    · simp [zO, zHc, q_place, *]
  · simp [zO, zHc, q_place, *]
def q_good (N : Nat → Int32) (F G : Nat → Nat → Int32) (K : Nat → Option Nat) (Z : Nat → Int64) (p m : Int32) : zQ :=
  if 0 ≤ p ∧ p ≤ 7 then if 1 ≤ m ∧ m ≤ 30000 then .ok (none, N, updF F 1 (upd (F 1) p.toNatClampNeg m), G, K, Z) else .error 1 else .error 1
theorem c_good {p m : Int32} : zMe sL sx 10 21 [.ref 0, .int p, .int m] (zCs N F G K Z ++ tl) (zO (q_good N F G K Z p m)) (zHc (zCs N F G K Z ++ tl) tl (q_good N F G K Z p m)) := by
  show zR sL sx _ 21 0 [.ref 0, .int p, .int m] [] _ _ _
  refine zR_s rfl ?_
  refine zR_cst (v := 0) rfl rfl rfl ?_
  refine zR_cst (v := 7) rfl rfl rfl ?_
  refine zR_callt rfl rfl rfl rfl (zcallok_s rfl) rfl (m_checkRange (by decide)) (fun c1 => ?_) (fun c1 => ?_)
  · refine zR_s rfl ?_
    refine zR_cst (v := 1) rfl rfl rfl ?_
    refine zR_cst (v := 30000) rfl rfl rfl ?_
    refine zR_callt rfl rfl rfl rfl (zcallok_s rfl) rfl (m_checkRange (by decide)) (fun c2 => ?_) (fun c2 => ?_)
    · obtain ⟨p', hp, rfl, ep⟩ := zpl (n := 7) rfl (by decide) c1
      refine zR_s rfl ?_
      refine zR_get rfl rfl (zc0) rfl ?_
      refine zR_s rfl ?_
      refine zR_s rfl ?_
      refine zR_istF 1 rfl (by decide) (show p' < 8 by omega) ?_
      refine zR_rete rfl rfl ?_ ?_
      all_goals (simp [zO, zHc, q_good, *])
    · simp [zO, zHc, q_good, *]
  · simp [zO, zHc, q_good, *]
def q_lot (N : Nat → Int32) (F G : Nat → Nat → Int32) (K : Nat → Option Nat) (Z : Nat → Int64) (l : Nat) (p m : Int32) : zQ :=
  if 0 ≤ p ∧ p ≤ 7 then if 0 ≤ m ∧ m ≤ 1000 then if l < 16 then .ok (some (.int (nI l)), upd N 0 (nI (l + 1)), updF (updF F 2 (upd (F 2) l p)) 3 (upd (F 3) l m), G, K, Z) else .error 3 else .error 1 else .error 1
theorem c_lot {p m : Int32} (hl : N 0 = nI l) (hl2 : l ≤ 16) : zMe sL sx 10 22 [.ref 0, .int p, .int m] (zCs N F G K Z ++ tl) (zO (q_lot N F G K Z l p m)) (zHc (zCs N F G K Z ++ tl) tl (q_lot N F G K Z l p m)) := by
  have h1 : (16 : Int32) ≤ N 0 ↔ ¬ l < 16 := by
    rw [hl, show (16 : Int32) = nI 16 from rfl, nI_leI (by omega) (by omega)]
    omega
  have tail : 0 ≤ p ∧ p ≤ 7 → 0 ≤ m ∧ m ≤ 1000 → l < 16 → zR sL sx 10 22 34 [.ref 0, .int p, .int m, .retAddr 0] [] (zCs N F G K Z ++ tl) (zO (q_lot N F G K Z l p m)) (zHc (zCs N F G K Z ++ tl) tl (q_lot N F G K Z l p m)) := by
    intro c1 c2 c4
    have e1 : zO (q_lot N F G K Z l p m) = .returned (some (.int (N 0))) := by simp [zO, q_lot, *]
    have e2 : zHc (zCs N F G K Z ++ tl) tl (q_lot N F G K Z l p m) = zCs (upd N 0 (N 0 + 1)) (updF (updF F 2 (upd (F 2) l p)) 3 (upd (F 3) l m)) G K Z ++ tl := by
      rw [show N 0 + 1 = nI (l + 1) by rw [hl]; exact nI_1 l]
      simp [zHc, q_lot, *]
    rw [e1, e2]
    refine zR_s rfl ?_
    refine zR_get rfl rfl (zc0) rfl ?_
    refine zR_s rfl ?_
    rw [hl]
    refine zR_s rfl ?_
    refine zR_get rfl rfl (zc0) rfl ?_
    refine zR_s rfl ?_
    refine zR_s rfl ?_
    first | refine zR_istF 2 rfl (by decide) (show l < 16 by omega) ?_ | refine zR_istF 3 rfl (by decide) (show l < 16 by omega) ?_
    refine zR_s rfl ?_
    refine zR_get rfl rfl (zc0) rfl ?_
    refine zR_s rfl ?_
    refine zR_s rfl ?_
    first | refine zR_istF 2 rfl (by decide) (show l < 16 by omega) ?_ | refine zR_istF 3 rfl (by decide) (show l < 16 by omega) ?_
    refine zR_s rfl ?_
    refine zR_s rfl ?_
    refine zR_cst (v := 1) rfl rfl rfl ?_
    refine zR_iadd rfl ?_
    refine zR_putN rfl rfl (by decide) rfl ?_
    refine zR_s rfl ?_
    first | refine zR_rete rfl rfl ?_ ?_ | refine zR_retb rfl rfl ?_ ?_
    all_goals (first | rfl | simp [bI, *])
  show zR sL sx _ 22 0 [.ref 0, .int p, .int m, .retAddr 0] [] _ _ _
  refine zR_s rfl ?_
  refine zR_cst (v := 0) rfl rfl rfl ?_
  refine zR_cst (v := 7) rfl rfl rfl ?_
  refine zR_callt rfl rfl rfl rfl (zcallok_s rfl) rfl (m_checkRange (by decide)) (fun c1 => ?_) (fun c1 => ?_)
  · refine zR_s rfl ?_
    refine zR_cst (v := 0) rfl rfl rfl ?_
    refine zR_cst (v := 1000) rfl rfl rfl ?_
    refine zR_callt rfl rfl rfl rfl (zcallok_s rfl) rfl (m_checkRange (by decide)) (fun c2 => ?_) (fun c2 => ?_)
    · refine zR_s rfl ?_
      refine zR_get rfl rfl (zc0) rfl ?_
      refine zR_cst (v := 16) rfl rfl rfl ?_
      refine zR_mlt rfl rfl (fun c3 => ?_) (fun c3 => ?_)
      · exact tail c1 c2 (Classical.not_not.mp fun q => c3 (h1.mpr q))
      · refine zR_throwe (by omega) rfl rfl rfl ?_ ?_
        all_goals (first | simp [zO, zHc, q_lot, *]; done | (rw [h1] at c3; simp [zO, zHc, q_lot, *]))
    · first | simp [zO, zHc, q_lot, *]; done | (rw [h1] at c3; simp [zO, zHc, q_lot, *])
  · first | simp [zO, zHc, q_lot, *]; done | (rw [h1] at c3; simp [zO, zHc, q_lot, *])
def q_unit (N : Nat → Int32) (F G : Nat → Nat → Int32) (K : Nat → Option Nat) (Z : Nat → Int64) (M A a : Nat) (p w n : Int32) : zQ :=
  if 0 ≤ p ∧ p ≤ 15 then if 0 ≤ w ∧ w ≤ 7 then if 1 ≤ n ∧ n ≤ 1000 then if N 4 + 1 ≤ 400 then if nI (zcnt (zqP G p) M) + 1 ≤ F 0 p.toNatClampNeg then if ¬ N 2 ≤ N 1 ∧ M < 64 then
    .ok (some (.int (nI M)), upd (upd N 1 (nI (M + 1))) 4 (nI (A + 1)), zadd F A (nI M) 1 (upd N 1 (nI (M + 1)) 3) p, updG (updG (updG (updG (updG (updG (updG G M 0 (nI a)) M 1 (F 2 a)) M 2 (F 3 a)) M 3 w) M 4 n) M 5 (if F 3 a < N 3 then 3 else 0)) M 6 p, va_up K M none, vp_updL Z M 0)
  else .error 3 else .error 3 else .error 3 else .error 1 else .error 1 else .error 1
theorem c_unit_no {a p w n : Int32} (hl : N 0 = nI l) (hno : ¬ (0 ≤ a ∧ a ≤ nI l - 1)) : zMe sL sx 10 23 [.ref 0, .int a, .int p, .int w, .int n] (zCs N F G K Z ++ tl) (.threw 4) (zCs N F G K Z ++ tl ++ [(104, [])]) := by
  rw [← hl] at hno
  show zR sL sx _ 23 0 [.ref 0, .int a, .int p, .int w, .int n, .retAddr 0] [] _ _ _
  refine zR_s rfl ?_
  refine zR_cst (v := 0) rfl rfl rfl ?_
  refine zR_s rfl ?_
  refine zR_get rfl rfl (zc0) rfl ?_
  refine zR_cst (v := 1) rfl rfl rfl ?_
  refine zR_isub rfl ?_
  refine zR_call rfl rfl rfl rfl (zcallok_s rfl) (m_isWithin) ?_
  first | refine zR_dt rfl rfl (fun c1 => absurd c1 hno) (fun c1 => ?_) | refine zR_bt rfl rfl (fun c1 => absurd c1 hno) (fun c1 => ?_) | refine zR_ifne rfl rfl (fun c1 => absurd c1 hno) (fun c1 => ?_)
  refine zR_throwe (by omega) rfl rfl rfl ?_ ?_
  all_goals (first | rfl | simp [bI, *])
theorem c_unit {a : Nat} {p w n : Int32} (hM : N 1 = nI M) (hm : M ≤ 64) (hA : N 4 = nI A) (hA4 : A ≤ 400) (hl : N 0 = nI l) (hl2 : l ≤ 16) (ha : a < l) : zMe sL sx 10 23 [.ref 0, .int (nI a), .int p, .int w, .int n] (zCs N F G K Z ++ tl) (zO (q_unit N F G K Z M A a p w n)) (zHc (zCs N F G K Z ++ tl) tl (q_unit N F G K Z M A a p w n)) := by
  have h1 : 0 ≤ nI a ∧ nI a ≤ N 0 - 1 := by
    refine ⟨nI_pos' (by omega), ?_⟩
    obtain ⟨A', rfl⟩ : ∃ A', l = A' + 1 := ⟨l - 1, by omega⟩
    rw [hl, nI_pred]
    exact nI_le (by omega) (by omega)
  have ec : ∀ w n : Int32, updG (updG (updG (updG (updG G M 0 (nI a)) M 1 (F 2 a)) M 2 (F 3 a)) M 3 w) M 4 n M 2 = F 3 a := by intro w n; simp [updG, upd]
  show zR sL sx _ 23 0 [.ref 0, .int (nI a), .int p, .int w, .int n, .retAddr 0] [] _ _ _
  refine zR_s rfl ?_
  refine zR_cst (v := 0) rfl rfl rfl ?_
  first | refine zR_s rfl ?_ | refine zR_alo rfl rfl rfl ?_
  first | refine zR_get rfl rfl (zc0) rfl ?_ | refine zR_get rfl rfl (zcU hM2) rfl ?_
  refine zR_cst (v := 1) rfl rfl rfl ?_
  refine zR_isub rfl ?_
  refine zR_call rfl rfl rfl rfl (zcallok_s rfl) (m_isWithin) ?_
  first | refine zR_dt rfl rfl (fun c1 => ?_) (fun c1 => absurd h1 c1) | refine zR_bt rfl rfl (fun c1 => ?_) (fun c1 => absurd h1 c1) | refine zR_ifne rfl rfl (fun c1 => ?_) (fun c1 => absurd h1 c1)
  refine zR_s rfl ?_
  refine zR_callt rfl rfl rfl rfl (zcallok_s rfl) rfl (m_checkPlace (by decide)) (fun c2 => ?_) (fun c2 => ?_)
  · obtain ⟨p', hp, rfl, ep⟩ := zpl (n := 15) rfl (by decide) c2
    refine zR_s rfl ?_
    refine zR_cst (v := 0) rfl rfl rfl ?_
    refine zR_cst (v := 7) rfl rfl rfl ?_
    refine zR_callt rfl rfl rfl rfl (zcallok_s rfl) rfl (m_checkRange (by decide)) (fun c3 => ?_) (fun c3 => ?_)
    · refine zR_s rfl ?_
      refine zR_cst (v := 1) rfl rfl rfl ?_
      refine zR_cst (v := 1000) rfl rfl rfl ?_
      refine zR_callt rfl rfl rfl rfl (zcallok_s rfl) rfl (m_checkRange (by decide)) (fun c4 => ?_) (fun c4 => ?_)
      · first | refine zR_s rfl ?_ | refine zR_alo rfl rfl rfl ?_
        refine zR_cst (v := 1) rfl rfl rfl ?_
        refine zR_callt rfl rfl rfl rfl (zcallok_v (zc0) rfl rfl) rfl (m_needRows (by decide)) (fun c5 => ?_) (fun c5 => ?_)
        · have hA5 := zroom1 hA hA4 c5
          first | refine zR_s rfl ?_ | refine zR_alo rfl rfl rfl ?_
          refine zR_s rfl ?_
          refine zR_cst (v := 1) rfl rfl rfl ?_
          refine zR_callt rfl rfl rfl rfl (zcallok_v (zc0) rfl rfl) rfl (m_needSpace hM hm (show p' < 16 by omega) (by decide)) (fun c6 => ?_) (fun c6 => ?_)
          · first | refine zR_s rfl ?_ | refine zR_alo rfl rfl rfl ?_
            refine zR_callt rfl rfl rfl rfl (zcallok_v (zc0) rfl rfl) rfl (m_nextUnit hM hm (by decide)) (fun c7 => ?_) (fun c7 => ?_)
            · have hM2 : M < 64 := c7.2
              first | refine zR_s rfl ?_ | refine zR_aso rfl rfl rfl ?_
              first | refine zR_s rfl ?_ | refine zR_alo rfl rfl rfl ?_
              refine zR_s rfl ?_
              first | refine zR_s rfl ?_ | refine zR_alo rfl rfl rfl ?_
              first | refine zR_get rfl rfl (zc0) rfl ?_ | refine zR_get rfl rfl (zcU hM2) rfl ?_
              refine zR_s rfl ?_
              first | refine zR_ildF 2 rfl (by decide) (show a < 16 by omega) ?_ | refine zR_ildF 3 rfl (by decide) (show a < 16 by omega) ?_
              first | refine zR_s rfl ?_ | refine zR_alo rfl rfl rfl ?_
              first | refine zR_get rfl rfl (zc0) rfl ?_ | refine zR_get rfl rfl (zcU hM2) rfl ?_
              refine zR_s rfl ?_
              first | refine zR_ildF 2 rfl (by decide) (show a < 16 by omega) ?_ | refine zR_ildF 3 rfl (by decide) (show a < 16 by omega) ?_
              refine zR_s rfl ?_
              refine zR_s rfl ?_
              refine zR_call rfl rfl rfl rfl (zcallok_v (zcU hM2) rfl rfl) (m_be hM2) ?_
              first | refine zR_s rfl ?_ | refine zR_alo rfl rfl rfl ?_
              first | refine zR_s rfl ?_ | refine zR_alo rfl rfl rfl ?_
              first | refine zR_s rfl ?_ | refine zR_alo rfl rfl rfl ?_
              first | refine zR_get rfl rfl (zc0) rfl ?_ | refine zR_get rfl rfl (zcU hM2) rfl ?_
              refine zR_call rfl rfl rfl rfl (zcallok_v (zcU hM2) rfl rfl) (m_isOver (zcU hM2)) ?_
              first | refine zR_df rfl rfl (fun c8 => ?_) (fun c8 => ?_) | refine zR_bf rfl rfl (fun c8 => ?_) (fun c8 => ?_) | refine zR_ifeq rfl rfl (fun c8 => ?_) (fun c8 => ?_)
              · replace c8 : ¬ F 3 a < N 3 := by { rw [ec] at c8; exact c8 }
                refine zR_cst (v := 0) rfl rfl rfl ?_
                refine zR_s rfl ?_
                refine zR_nul rfl ?_
                refine zR_call rfl rfl rfl rfl (zcallok_v (zcU hM2) rfl rfl) (m_stand (c := none) hM2) ?_
                first | refine zR_s rfl ?_ | refine zR_alo rfl rfl rfl ?_
                first | refine zR_s rfl ?_ | refine zR_alo rfl rfl rfl ?_
                refine zR_cst (v := 1) rfl rfl rfl ?_
                refine zR_s rfl ?_
                refine zR_call rfl rfl rfl rfl (zcallok_v (zc0) rfl rfl) (m_addRow hM2 (show _ = nI A from hA) hA5) ?_
                first | refine zR_s rfl ?_ | refine zR_alo rfl rfl rfl ?_
                first | refine zR_get rfl rfl (zc0) rfl ?_ | refine zR_get rfl rfl (zcU hM2) rfl ?_
                first | refine zR_rete rfl rfl ?_ ?_ | refine zR_retb rfl rfl ?_ ?_
                all_goals (first | contradiction | (simp only [zO, zHc, q_unit, ep, c1, c2, c3, c4, c5, c6, c7, c8, if_true, if_false, not_true_eq_false, not_false_eq_true, and_self, and_true, true_and, or_true, true_or, or_false, false_or, and_false, false_and, reduceCtorEq]; done) | (simp only [zO, zHc, q_unit, c1, c2, c3, c4, c5, c6, c7, c8, if_true, if_false, not_true_eq_false, not_false_eq_true, and_self, and_true, true_and, or_true, true_or, or_false, false_or, and_false, false_and, reduceCtorEq]; done))
              · replace c8 : F 3 a < N 3 := by { rw [ec] at c8; exact c8 }
                refine zR_cst (v := 3) rfl rfl rfl ?_
                refine zR_s rfl ?_
                refine zR_s rfl ?_
                refine zR_nul rfl ?_
                refine zR_call rfl rfl rfl rfl (zcallok_v (zcU hM2) rfl rfl) (m_stand (c := none) hM2) ?_
                first | refine zR_s rfl ?_ | refine zR_alo rfl rfl rfl ?_
                first | refine zR_s rfl ?_ | refine zR_alo rfl rfl rfl ?_
                refine zR_cst (v := 1) rfl rfl rfl ?_
                refine zR_s rfl ?_
                refine zR_call rfl rfl rfl rfl (zcallok_v (zc0) rfl rfl) (m_addRow hM2 (show _ = nI A from hA) hA5) ?_
                first | refine zR_s rfl ?_ | refine zR_alo rfl rfl rfl ?_
                first | refine zR_get rfl rfl (zc0) rfl ?_ | refine zR_get rfl rfl (zcU hM2) rfl ?_
                first | refine zR_rete rfl rfl ?_ ?_ | refine zR_retb rfl rfl ?_ ?_
                all_goals (first | contradiction | (simp only [zO, zHc, q_unit, ep, c1, c2, c3, c4, c5, c6, c7, c8, if_true, if_false, not_true_eq_false, not_false_eq_true, and_self, and_true, true_and, or_true, true_or, or_false, false_or, and_false, false_and, reduceCtorEq]; done) | (simp only [zO, zHc, q_unit, c1, c2, c3, c4, c5, c6, c7, c8, if_true, if_false, not_true_eq_false, not_false_eq_true, and_self, and_true, true_and, or_true, true_or, or_false, false_or, and_false, false_and, reduceCtorEq]; done))
            · first | contradiction | (simp only [zO, zHc, q_unit, ep, c1, c2, c3, c4, c5, c6, c7, if_true, if_false, not_true_eq_false, not_false_eq_true, and_self, and_true, true_and, or_true, true_or, or_false, false_or, and_false, false_and, reduceCtorEq]; done) | (simp only [zO, zHc, q_unit, c1, c2, c3, c4, c5, c6, c7, if_true, if_false, not_true_eq_false, not_false_eq_true, and_self, and_true, true_and, or_true, true_or, or_false, false_or, and_false, false_and, reduceCtorEq]; done)
          · first | contradiction | (simp only [zO, zHc, q_unit, ep, c1, c2, c3, c4, c5, c6, if_true, if_false, not_true_eq_false, not_false_eq_true, and_self, and_true, true_and, or_true, true_or, or_false, false_or, and_false, false_and, reduceCtorEq]; done) | (simp only [zO, zHc, q_unit, c1, c2, c3, c4, c5, c6, if_true, if_false, not_true_eq_false, not_false_eq_true, and_self, and_true, true_and, or_true, true_or, or_false, false_or, and_false, false_and, reduceCtorEq]; done)
        · first | contradiction | (simp only [zO, zHc, q_unit, ep, c1, c2, c3, c4, c5, if_true, if_false, not_true_eq_false, not_false_eq_true, and_self, and_true, true_and, or_true, true_or, or_false, false_or, and_false, false_and, reduceCtorEq]; done) | (simp only [zO, zHc, q_unit, c1, c2, c3, c4, c5, if_true, if_false, not_true_eq_false, not_false_eq_true, and_self, and_true, true_and, or_true, true_or, or_false, false_or, and_false, false_and, reduceCtorEq]; done)
      · first | contradiction | (simp only [zO, zHc, q_unit, ep, c1, c2, c3, c4, if_true, if_false, not_true_eq_false, not_false_eq_true, and_self, and_true, true_and, or_true, true_or, or_false, false_or, and_false, false_and, reduceCtorEq]; done) | (simp only [zO, zHc, q_unit, c1, c2, c3, c4, if_true, if_false, not_true_eq_false, not_false_eq_true, and_self, and_true, true_and, or_true, true_or, or_false, false_or, and_false, false_and, reduceCtorEq]; done)
    · first | contradiction | (simp only [zO, zHc, q_unit, ep, c1, c2, c3, if_true, if_false, not_true_eq_false, not_false_eq_true, and_self, and_true, true_and, or_true, true_or, or_false, false_or, and_false, false_and, reduceCtorEq]; done) | (simp only [zO, zHc, q_unit, c1, c2, c3, if_true, if_false, not_true_eq_false, not_false_eq_true, and_self, and_true, true_and, or_true, true_or, or_false, false_or, and_false, false_and, reduceCtorEq]; done)
  · first | contradiction | (simp only [zO, zHc, q_unit, ep, c1, c2, if_true, if_false, not_true_eq_false, not_false_eq_true, and_self, and_true, true_and, or_true, true_or, or_false, false_or, and_false, false_and, reduceCtorEq]; done) | (simp only [zO, zHc, q_unit, c1, c2, if_true, if_false, not_true_eq_false, not_false_eq_true, and_self, and_true, true_and, or_true, true_or, or_false, false_or, and_false, false_and, reduceCtorEq]; done)
def q_move (N : Nat → Int32) (F G : Nat → Nat → Int32) (K : Nat → Option Nat) (Z : Nat → Int64) (M A j : Nat) (p : Int32) : zQ :=
  if 0 ≤ p ∧ p ≤ 15 then if zst (G j) = true then if G j 6 = p ∧ K j = none then .error 2 else if N 4 + 1 ≤ 400 then if G j 6 = p ∨ nI (zcnt (zqP G p) M) + (1 + nI (zcnt (zqW K j) M)) ≤ F 0 p.toNatClampNeg then
    .ok (none, upd N 4 (nI (A + 1)), zadd F A (nI j) 2 (N 3) p, zcar G (va_up K j none) j p M, va_up K j none, Z)
  else .error 3 else .error 3 else .error 2 else .error 1
theorem zKb_up {K : Nat → Option Nat} {j : Nat} {v : Option Nat} (hK : zKb K) (hv : ∀ w, v = some w → w < 64) : zKb (va_up K j v) := by
  intro c c' e
  simp only [va_up] at e
  split at e
  · exact hv _ e
  · exact hK _ _ e
theorem c_move {j : Nat} {p : Int32} (hK : zKb K) (hM : N 1 = nI M) (hm : M ≤ 64) (hA : N 4 = nI A) (hA4 : A ≤ 400) (hj : j < M) : zMe sL sx 10 24 [.ref 0, .int (nI j), .int p] (zCs N F G K Z ++ tl) (zO (q_move N F G K Z M A j p)) (zHc (zCs N F G K Z ++ tl) tl (q_move N F G K Z M A j p)) := by
  have hj2 : j < 64 := by omega
  show zR sL sx _ 24 0 [.ref 0, .int (nI j), .int p, .retAddr 0] [] _ _ _
  first | refine zR_s rfl ?_ | refine zR_alo rfl rfl rfl ?_
  refine zR_s rfl ?_
  refine zR_call rfl rfl rfl rfl (zcallok_v (zc0) rfl rfl) (m_unitOf hM hm hj) ?_
  first | refine zR_s rfl ?_ | refine zR_aso rfl rfl rfl ?_
  refine zR_s rfl ?_
  refine zR_callt rfl rfl rfl rfl (zcallok_s rfl) rfl (m_checkPlace (by decide)) (fun c1 => ?_) (fun c1 => ?_)
  · obtain ⟨p', hp, rfl, ep⟩ := zpl (n := 15) rfl (by decide) c1
    first | refine zR_s rfl ?_ | refine zR_alo rfl rfl rfl ?_
    refine zR_callt rfl rfl rfl rfl (zcallok_s rfl) rfl (m_checkStands (zcU hj2) (by decide)) (fun c2 => ?_) (fun c2 => ?_)
    · first | refine zR_s rfl ?_ | refine zR_alo rfl rfl rfl ?_
      first | refine zR_get rfl rfl (zc0) rfl ?_ | refine zR_get rfl rfl (zcU hj2) rfl ?_
      refine zR_s rfl ?_
      refine zR_icne rfl rfl (fun c3 => ?_) (fun c3 => ?_)
      · first | refine zR_s rfl ?_ | refine zR_alo rfl rfl rfl ?_
        refine zR_cst (v := 1) rfl rfl rfl ?_
        refine zR_callt rfl rfl rfl rfl (zcallok_v (zc0) rfl rfl) rfl (m_needRows (by decide)) (fun c4 => ?_) (fun c4 => ?_)
        · have hA5 := zroom1 hA hA4 c4
          first | refine zR_s rfl ?_ | refine zR_alo rfl rfl rfl ?_
          first | refine zR_get rfl rfl (zc0) rfl ?_ | refine zR_get rfl rfl (zcU hj2) rfl ?_
          refine zR_s rfl ?_
          refine zR_iceq rfl rfl (fun c5 => ?_) (fun c5 => ?_)
          · first | refine zR_s rfl ?_ | refine zR_alo rfl rfl rfl ?_
            refine zR_nul rfl ?_
            refine zR_putK rfl rfl hj2 rfl ?_
            first | refine zR_s rfl ?_ | refine zR_alo rfl rfl rfl ?_
            first | refine zR_s rfl ?_ | refine zR_alo rfl rfl rfl ?_
            refine zR_s rfl ?_
            refine zR_call rfl rfl rfl rfl (zcallok_v (zc0) rfl rfl) (m_carry (zKb_up hK (by simp)) hM hm) ?_
            first | refine zR_s rfl ?_ | refine zR_alo rfl rfl rfl ?_
            first | refine zR_s rfl ?_ | refine zR_alo rfl rfl rfl ?_
            refine zR_cst (v := 2) rfl rfl rfl ?_
            refine zR_s rfl ?_
            refine zR_call rfl rfl rfl rfl (zcallok_v (zc0) rfl rfl) (m_addRow hj2 hA hA5) ?_
            refine zR_rete rfl rfl ?_ ?_
            all_goals (first | contradiction | (simp only [zO, zHc, q_move, ep, c1, c2, c3, c4, c5, if_true, if_false, not_true_eq_false, not_false_eq_true, and_self, and_true, true_and, or_true, true_or, or_false, false_or, and_false, false_and, reduceCtorEq]; done) | (simp only [zO, zHc, q_move, c1, c2, c3, c4, c5, if_true, if_false, not_true_eq_false, not_false_eq_true, and_self, and_true, true_and, or_true, true_or, or_false, false_or, and_false, false_and, reduceCtorEq]; done))
          · first | refine zR_s rfl ?_ | refine zR_alo rfl rfl rfl ?_
            refine zR_s rfl ?_
            refine zR_cst (v := 1) rfl rfl rfl ?_
            first | refine zR_s rfl ?_ | refine zR_alo rfl rfl rfl ?_
            first | refine zR_s rfl ?_ | refine zR_alo rfl rfl rfl ?_
            refine zR_call rfl rfl rfl rfl (zcallok_v (zc0) rfl rfl) (m_unitsWithin hK hM hm) ?_
            refine zR_iadd rfl ?_
            refine zR_callt rfl rfl rfl rfl (zcallok_v (zc0) rfl rfl) rfl (m_needSpace hM hm (show p' < 16 by omega) (by decide)) (fun c6 => ?_) (fun c6 => ?_)
            · first | refine zR_s rfl ?_ | refine zR_alo rfl rfl rfl ?_
              refine zR_nul rfl ?_
              refine zR_putK rfl rfl hj2 rfl ?_
              first | refine zR_s rfl ?_ | refine zR_alo rfl rfl rfl ?_
              first | refine zR_s rfl ?_ | refine zR_alo rfl rfl rfl ?_
              refine zR_s rfl ?_
              refine zR_call rfl rfl rfl rfl (zcallok_v (zc0) rfl rfl) (m_carry (zKb_up hK (by simp)) hM hm) ?_
              first | refine zR_s rfl ?_ | refine zR_alo rfl rfl rfl ?_
              first | refine zR_s rfl ?_ | refine zR_alo rfl rfl rfl ?_
              refine zR_cst (v := 2) rfl rfl rfl ?_
              refine zR_s rfl ?_
              refine zR_call rfl rfl rfl rfl (zcallok_v (zc0) rfl rfl) (m_addRow hj2 hA hA5) ?_
              refine zR_rete rfl rfl ?_ ?_
              all_goals (first | contradiction | (simp only [zO, zHc, q_move, ep, c1, c2, c3, c4, c5, c6, if_true, if_false, not_true_eq_false, not_false_eq_true, and_self, and_true, true_and, or_true, true_or, or_false, false_or, and_false, false_and, reduceCtorEq]; done) | (simp only [zO, zHc, q_move, c1, c2, c3, c4, c5, c6, if_true, if_false, not_true_eq_false, not_false_eq_true, and_self, and_true, true_and, or_true, true_or, or_false, false_or, and_false, false_and, reduceCtorEq]; done))
            · first | contradiction | (simp only [zO, zHc, q_move, ep, c1, c2, c3, c4, c5, c6, if_true, if_false, not_true_eq_false, not_false_eq_true, and_self, and_true, true_and, or_true, true_or, or_false, false_or, and_false, false_and, reduceCtorEq]; done) | (simp only [zO, zHc, q_move, c1, c2, c3, c4, c5, c6, if_true, if_false, not_true_eq_false, not_false_eq_true, and_self, and_true, true_and, or_true, true_or, or_false, false_or, and_false, false_and, reduceCtorEq]; done)
        · first | contradiction | (simp only [zO, zHc, q_move, ep, c1, c2, c3, c4, if_true, if_false, not_true_eq_false, not_false_eq_true, and_self, and_true, true_and, or_true, true_or, or_false, false_or, and_false, false_and, reduceCtorEq]; done) | (simp only [zO, zHc, q_move, c1, c2, c3, c4, if_true, if_false, not_true_eq_false, not_false_eq_true, and_self, and_true, true_and, or_true, true_or, or_false, false_or, and_false, false_and, reduceCtorEq]; done)
      · first | refine zR_s rfl ?_ | refine zR_alo rfl rfl rfl ?_
        first | refine zR_get rfl rfl (zc0) rfl ?_ | refine zR_get rfl rfl (zcU hj2) rfl ?_
        refine zR_nonnull1 rfl rfl (fun c4 => ?_) (fun c4 => ?_)
        · first | refine zR_s rfl ?_ | refine zR_alo rfl rfl rfl ?_
          refine zR_cst (v := 1) rfl rfl rfl ?_
          refine zR_callt rfl rfl rfl rfl (zcallok_v (zc0) rfl rfl) rfl (m_needRows (by decide)) (fun c5 => ?_) (fun c5 => ?_)
          · have hA5 := zroom1 hA hA4 c5
            first | refine zR_s rfl ?_ | refine zR_alo rfl rfl rfl ?_
            first | refine zR_get rfl rfl (zc0) rfl ?_ | refine zR_get rfl rfl (zcU hj2) rfl ?_
            refine zR_s rfl ?_
            refine zR_iceq rfl rfl (fun c6 => ?_) (fun c6 => ?_)
            · first | refine zR_s rfl ?_ | refine zR_alo rfl rfl rfl ?_
              refine zR_nul rfl ?_
              refine zR_putK rfl rfl hj2 rfl ?_
              first | refine zR_s rfl ?_ | refine zR_alo rfl rfl rfl ?_
              first | refine zR_s rfl ?_ | refine zR_alo rfl rfl rfl ?_
              refine zR_s rfl ?_
              refine zR_call rfl rfl rfl rfl (zcallok_v (zc0) rfl rfl) (m_carry (zKb_up hK (by simp)) hM hm) ?_
              first | refine zR_s rfl ?_ | refine zR_alo rfl rfl rfl ?_
              first | refine zR_s rfl ?_ | refine zR_alo rfl rfl rfl ?_
              refine zR_cst (v := 2) rfl rfl rfl ?_
              refine zR_s rfl ?_
              refine zR_call rfl rfl rfl rfl (zcallok_v (zc0) rfl rfl) (m_addRow hj2 hA hA5) ?_
              refine zR_rete rfl rfl ?_ ?_
              all_goals (first | contradiction | (simp only [zO, zHc, q_move, ep, c1, c2, c3, c4, c5, c6, if_true, if_false, not_true_eq_false, not_false_eq_true, and_self, and_true, true_and, or_true, true_or, or_false, false_or, and_false, false_and, reduceCtorEq]; done) | (simp only [zO, zHc, q_move, c1, c2, c3, c4, c5, c6, if_true, if_false, not_true_eq_false, not_false_eq_true, and_self, and_true, true_and, or_true, true_or, or_false, false_or, and_false, false_and, reduceCtorEq]; done))
            · first | refine zR_s rfl ?_ | refine zR_alo rfl rfl rfl ?_
              refine zR_s rfl ?_
              refine zR_cst (v := 1) rfl rfl rfl ?_
              first | refine zR_s rfl ?_ | refine zR_alo rfl rfl rfl ?_
              first | refine zR_s rfl ?_ | refine zR_alo rfl rfl rfl ?_
              refine zR_call rfl rfl rfl rfl (zcallok_v (zc0) rfl rfl) (m_unitsWithin hK hM hm) ?_
              refine zR_iadd rfl ?_
              refine zR_callt rfl rfl rfl rfl (zcallok_v (zc0) rfl rfl) rfl (m_needSpace hM hm (show p' < 16 by omega) (by decide)) (fun c7 => ?_) (fun c7 => ?_)
              · first | refine zR_s rfl ?_ | refine zR_alo rfl rfl rfl ?_
                refine zR_nul rfl ?_
                refine zR_putK rfl rfl hj2 rfl ?_
                first | refine zR_s rfl ?_ | refine zR_alo rfl rfl rfl ?_
                first | refine zR_s rfl ?_ | refine zR_alo rfl rfl rfl ?_
                refine zR_s rfl ?_
                refine zR_call rfl rfl rfl rfl (zcallok_v (zc0) rfl rfl) (m_carry (zKb_up hK (by simp)) hM hm) ?_
                first | refine zR_s rfl ?_ | refine zR_alo rfl rfl rfl ?_
                first | refine zR_s rfl ?_ | refine zR_alo rfl rfl rfl ?_
                refine zR_cst (v := 2) rfl rfl rfl ?_
                refine zR_s rfl ?_
                refine zR_call rfl rfl rfl rfl (zcallok_v (zc0) rfl rfl) (m_addRow hj2 hA hA5) ?_
                refine zR_rete rfl rfl ?_ ?_
                all_goals (first | contradiction | (simp only [zO, zHc, q_move, ep, c1, c2, c3, c4, c5, c6, c7, if_true, if_false, not_true_eq_false, not_false_eq_true, and_self, and_true, true_and, or_true, true_or, or_false, false_or, and_false, false_and, reduceCtorEq]; done) | (simp only [zO, zHc, q_move, c1, c2, c3, c4, c5, c6, c7, if_true, if_false, not_true_eq_false, not_false_eq_true, and_self, and_true, true_and, or_true, true_or, or_false, false_or, and_false, false_and, reduceCtorEq]; done))
              · first | contradiction | (simp only [zO, zHc, q_move, ep, c1, c2, c3, c4, c5, c6, c7, if_true, if_false, not_true_eq_false, not_false_eq_true, and_self, and_true, true_and, or_true, true_or, or_false, false_or, and_false, false_and, reduceCtorEq]; done) | (simp only [zO, zHc, q_move, c1, c2, c3, c4, c5, c6, c7, if_true, if_false, not_true_eq_false, not_false_eq_true, and_self, and_true, true_and, or_true, true_or, or_false, false_or, and_false, false_and, reduceCtorEq]; done)
          · first | contradiction | (simp only [zO, zHc, q_move, ep, c1, c2, c3, c4, c5, if_true, if_false, not_true_eq_false, not_false_eq_true, and_self, and_true, true_and, or_true, true_or, or_false, false_or, and_false, false_and, reduceCtorEq]; done) | (simp only [zO, zHc, q_move, c1, c2, c3, c4, c5, if_true, if_false, not_true_eq_false, not_false_eq_true, and_self, and_true, true_and, or_true, true_or, or_false, false_or, and_false, false_and, reduceCtorEq]; done)
        · refine zR_throwe (by omega) rfl rfl rfl ?_ ?_
          all_goals (first | contradiction | (simp only [zO, zHc, q_move, ep, c1, c2, c3, c4, if_true, if_false, not_true_eq_false, not_false_eq_true, and_self, and_true, true_and, or_true, true_or, or_false, false_or, and_false, false_and, reduceCtorEq]; done) | (simp only [zO, zHc, q_move, c1, c2, c3, c4, if_true, if_false, not_true_eq_false, not_false_eq_true, and_self, and_true, true_and, or_true, true_or, or_false, false_or, and_false, false_and, reduceCtorEq]; done))
    · first | contradiction | (simp only [zO, zHc, q_move, ep, c1, c2, if_true, if_false, not_true_eq_false, not_false_eq_true, and_self, and_true, true_and, or_true, true_or, or_false, false_or, and_false, false_and, reduceCtorEq]; done) | (simp only [zO, zHc, q_move, c1, c2, if_true, if_false, not_true_eq_false, not_false_eq_true, and_self, and_true, true_and, or_true, true_or, or_false, false_or, and_false, false_and, reduceCtorEq]; done)
  · first | contradiction | (simp only [zO, zHc, q_move, ep, c1, if_true, if_false, not_true_eq_false, not_false_eq_true, and_self, and_true, true_and, or_true, true_or, or_false, false_or, and_false, false_and, reduceCtorEq]; done) | (simp only [zO, zHc, q_move, c1, if_true, if_false, not_true_eq_false, not_false_eq_true, and_self, and_true, true_and, or_true, true_or, or_false, false_or, and_false, false_and, reduceCtorEq]; done)
def q_into (N : Nat → Int32) (F G : Nat → Nat → Int32) (K : Nat → Option Nat) (Z : Nat → Int64) (M A j w : Nat) : zQ :=
  if zst (G j) = true ∧ zst (G w) = true ∧ G j 6 = G w 6 ∧ ¬ K j = some w ∧ ¬ j = w ∧ zlw K j 4 (K w) = false ∧ nI (zdq G K w) + (nI (zmx (zqW K j) (zdq G K) (zdq G K j) M) - nI (zdq G K j) + 1) ≤ 5 then if N 4 + 1 ≤ 400 then
    .ok (none, upd N 4 (nI (A + 1)), zadd F A (nI j) 3 (N 3) (nI w), G, va_up K j (some w), Z)
  else .error 3 else .error 2
theorem c_into {j w : Nat} (hK : zKb K) (hM : N 1 = nI M) (hm : M ≤ 64) (hA : N 4 = nI A) (hA4 : A ≤ 400) (hj : j < M) (hw : w < M) : zMe sL sx 10 25 [.ref 0, .int (nI j), .int (nI w)] (zCs N F G K Z ++ tl) (zO (q_into N F G K Z M A j w)) (zHc (zCs N F G K Z ++ tl) tl (q_into N F G K Z M A j w)) := by
  have hj2 : j < 64 := by omega
  have hw2 : w < 64 := by omega
  show zR sL sx _ 25 0 [.ref 0, .int (nI j), .int (nI w), .retAddr 0, .retAddr 0] [] _ _ _
  refine zR_s rfl ?_
  refine zR_s rfl ?_
  first | refine zR_call rfl rfl rfl rfl (zcallok_v (zc0) rfl rfl) (m_unitOf hM hm hj) ?_ | refine zR_call rfl rfl rfl rfl (zcallok_v (zc0) rfl rfl) (m_unitOf hM hm hw) ?_
  refine zR_s rfl ?_
  refine zR_s rfl ?_
  refine zR_s rfl ?_
  first | refine zR_call rfl rfl rfl rfl (zcallok_v (zc0) rfl rfl) (m_unitOf hM hm hj) ?_ | refine zR_call rfl rfl rfl rfl (zcallok_v (zc0) rfl rfl) (m_unitOf hM hm hw) ?_
  refine zR_s rfl ?_
  refine zR_s rfl ?_
  refine zR_s rfl ?_
  refine zR_s rfl ?_
  refine zR_call rfl rfl rfl rfl (zcallok_v (zc0) rfl rfl) (m_canLieIn hK hM hm hj2 hw2) ?_
  first | refine zR_dt rfl rfl (fun c1 => ?_) (fun c1 => ?_) | refine zR_bt rfl rfl (fun c1 => ?_) (fun c1 => ?_) | refine zR_ifne rfl rfl (fun c1 => ?_) (fun c1 => ?_)
  · refine zR_s rfl ?_
    refine zR_cst (v := 1) rfl rfl rfl ?_
    refine zR_callt rfl rfl rfl rfl (zcallok_v (zc0) rfl rfl) rfl (m_needRows (by decide)) (fun c2 => ?_) (fun c2 => ?_)
    · have hA5 := zroom1 hA hA4 c2
      refine zR_s rfl ?_
      refine zR_s rfl ?_
      refine zR_putK (v := some w) rfl rfl hj2 rfl ?_
      refine zR_s rfl ?_
      refine zR_s rfl ?_
      refine zR_cst (v := 3) rfl rfl rfl ?_
      refine zR_s rfl ?_
      first | refine zR_get rfl rfl (zc0) rfl ?_ | refine zR_get rfl rfl (zcU hj2) rfl ?_ | refine zR_get rfl rfl (zcU hw2) rfl ?_
      refine zR_call rfl rfl rfl rfl (zcallok_v (zc0) rfl rfl) (m_addRow hj2 hA hA5) ?_
      refine zR_rete rfl rfl ?_ ?_
      all_goals (first | contradiction | (simp only [zO, zHc, q_into, c1, c2, if_true, if_false, not_true_eq_false, not_false_eq_true, and_self, and_true, true_and, or_true, true_or, or_false, false_or, and_false, false_and, reduceCtorEq]; done) | (simp only [zO, zHc, q_into, c1, c2, if_true, if_false, not_true_eq_false, not_false_eq_true, and_self, and_true, true_and, or_true, true_or, or_false, false_or, and_false, false_and, reduceCtorEq]; done))
    · first | contradiction | (simp only [zO, zHc, q_into, c1, c2, if_true, if_false, not_true_eq_false, not_false_eq_true, and_self, and_true, true_and, or_true, true_or, or_false, false_or, and_false, false_and, reduceCtorEq]; done) | (simp only [zO, zHc, q_into, c1, c2, if_true, if_false, not_true_eq_false, not_false_eq_true, and_self, and_true, true_and, or_true, true_or, or_false, false_or, and_false, false_and, reduceCtorEq]; done)
  · refine zR_throwe (by omega) rfl rfl rfl ?_ ?_
    all_goals (first | contradiction | (simp only [zO, zHc, q_into, c1, if_true, if_false, not_true_eq_false, not_false_eq_true, and_self, and_true, true_and, or_true, true_or, or_false, false_or, and_false, false_and, reduceCtorEq]; done) | (simp only [zO, zHc, q_into, c1, if_true, if_false, not_true_eq_false, not_false_eq_true, and_self, and_true, true_and, or_true, true_or, or_false, false_or, and_false, false_and, reduceCtorEq]; done))
end ZAC
