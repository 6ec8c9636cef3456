/-! the reference's small methods -/
theorem i64_le (a b : Int32) : a.toInt64 ≤ b.toInt64 ↔ a ≤ b := by
  rw [Int64.le_iff_toInt_le, Int32.le_iff_toInt_le, Int32.toInt_toInt64, Int32.toInt_toInt64]
/-- the chain x, K x .. has n members, all below M -/
def zchn (K : Nat → Option Nat) (M : Nat) : Nat → Option Nat → Prop
  | 0, x => x = none
  | n + 1, x => ∃ c, c < M ∧ x = some c ∧ zchn K M n (K c)
theorem zchn_none {K : Nat → Option Nat} {M n : Nat} (h : zchn K M n none) : n = 0 := by
  cases n with
  | zero => rfl
  | succ n => obtain ⟨c, _, e, _⟩ := h; cases e
theorem zchn_some {K : Nat → Option Nat} {M n c : Nat} (h : zchn K M n (some c)) : ∃ m, n = m + 1 ∧ c < M ∧ zchn K M m (K c) := by
  cases n with
  | zero => cases h
  | succ n => obtain ⟨c2, h1, e, h2⟩ := h; cases e; exact ⟨n, rfl, h1, h2⟩
theorem zchn_det {K : Nat → Option Nat} {M : Nat} : ∀ {n m : Nat} {x : Option Nat}, zchn K M n x → zchn K M m x → n = m := by
  intro n
  induction n with
  | zero => intro m x h1 h2; cases h1; exact (zchn_none h2).symm
  | succ n ih =>
    intro m x h1 h2
    obtain ⟨c, _, rfl, h3⟩ := h1
    obtain ⟨m2, rfl, _, h4⟩ := zchn_some h2
    rw [ih h3 h4]
theorem zchn_mem {K : Nat → Option Nat} {M u : Nat} : ∀ {n f : Nat} {x : Option Nat}, zchn K M n x → zlw K u f x = true → ∃ m, m < n ∧ zchn K M m (K u) := by
  intro n
  induction n with
  | zero => intro f x h1 h2; cases h1; cases f <;> simp [zlw] at h2
  | succ n ih =>
    intro f x h1 h2
    obtain ⟨c, _, rfl, h3⟩ := h1
    cases f with
    | zero => simp [zlw] at h2
    | succ f =>
      simp only [zlw, Bool.or_eq_true, decide_eq_true_eq] at h2
      rcases h2 with rfl | h2
      · exact ⟨n, by omega, h3⟩
      · obtain ⟨m, hm, h4⟩ := ih h3 h2
        exact ⟨m, by omega, h4⟩
theorem zlw_fuel {K : Nat → Option Nat} {M u : Nat} : ∀ {n f : Nat} {x : Option Nat}, zchn K M n x → n ≤ f → zlw K u f x = zlw K u n x := by
  intro n
  induction n with
  | zero => intro f x h1 h2; cases h1; cases f <;> simp [zlw]
  | succ n ih =>
    intro f x h1 h2
    obtain ⟨c, _, rfl, h3⟩ := h1
    cases f with
    | zero => omega
    | succ f => simp only [zlw, ih h3 (show n ≤ f by omega)]
theorem zdp_fuel {K : Nat → Option Nat} {M : Nat} : ∀ {n f : Nat} {x : Option Nat}, zchn K M n x → n ≤ f → zdp K f x = n := by
  intro n
  induction n with
  | zero => intro f x h1 h2; cases h1; cases f <;> simp [zdp]
  | succ n ih =>
    intro f x h1 h2
    obtain ⟨c, _, rfl, h3⟩ := h1
    cases f with
    | zero => omega
    | succ f => simp only [zdp, ih h3 (show n ≤ f by omega)]
/-- every chain ends within four -/
def zCh (K : Nat → Option Nat) (M : Nat) : Prop := ∀ i, i < M → ∃ n, n ≤ 4 ∧ zchn K M n (K i)
theorem zlw_self {K : Nat → Option Nat} {M u : Nat} (h : zCh K M) (hu : u < M) : zlw K u 4 (K u) = false := by
  obtain ⟨n, hn, h1⟩ := h u hu
  cases hb : zlw K u 4 (K u) with
  | false => rfl
  | true =>
    obtain ⟨m, hm, h2⟩ := zchn_mem h1 hb
    have := zchn_det h1 h2
    omega
def zHK (M : Nat) (K : Nat → Option Nat) (H : Nat → Int32) : Prop := ∀ i, i < M → H i = zsk (K i)
theorem zsk_ne {c : Nat} (h : c < 2 ^ 31) : ¬ nI c = -1 := fun q => absurd (nI_pos' h) (by rw [q]; decide)
theorem zsk_inj {x y : Option Nat} (hx : ∀ c, x = some c → c < 64) (hy : ∀ c, y = some c → c < 64) : zsk x = zsk y ↔ x = y := by
  cases x with
  | none =>
    cases y with
    | none => simp
    | some b => simp only [zsk]; exact ⟨fun q => absurd q.symm (zsk_ne (by have := hy b rfl; omega)), fun q => by cases q⟩
  | some a =>
    cases y with
    | none => simp only [zsk]; exact ⟨fun q => absurd q (zsk_ne (by have := hx a rfl; omega)), fun q => by cases q⟩
    | some b =>
      have h1 := hx a rfl
      have h2 := hy b rfl
      simp only [zsk, nI_eq (show a < 2 ^ 31 by omega) (show b < 2 ^ 31 by omega), Option.some.injEq]
section ZMH
variable {sL : Nat} {sx : Nat → Int32} {d : Nat} {h : zH}
variable {N : Nat → Int32} {F G : Nat → Nat → Int32} {K : Nat → Option Nat} {H : Nat → Int32} {Z : Nat → Int64} {c : Int32} {B : Nat → Int32} {hc t : zH} {M A u i : Nat}
theorem m_thrown (h75 : hc.length = 75) : zMe sL sx d 63 [.ref 75] (hc ++ (zMd N F G H Z c B ++ t)) (.returned (some (.int c))) (hc ++ (zMd N F G H Z c B ++ t)) := by
  show zR sL sx _ 63 0 [.ref 75] [] _ _ _
  refine zR_s rfl ?_
  refine zR_get rfl rfl (zm0 h75) rfl ?_
  first | refine zR_rete rfl rfl ?_ ?_ | refine zR_retb rfl rfl ?_ ?_
  all_goals (first | rfl | simp [bI, *])
theorem m_inL {a b c : Int64} : zMe sL sx d 64 [.long a, .long b, .long c] h (.returned (some (.int (bI (decide (b ≤ a ∧ a ≤ c)))))) h := by
  show zR sL sx _ 64 0 [.long a, .retAddr 0, .long b, .retAddr 0, .long c, .retAddr 0] [] _ _ _
  refine zR_s rfl ?_
  refine zR_s rfl ?_
  refine zR_s rfl ?_
  refine zR_llt rfl rfl (fun c1 => ?_) (fun c1 => ?_)
  · refine zR_cst (v := 0) rfl rfl rfl ?_
    first | refine zR_rete rfl rfl ?_ ?_ | refine zR_retb rfl rfl ?_ ?_
    all_goals (first | rfl | simp [bI, *])
  · refine zR_s rfl ?_
    refine zR_s rfl ?_
    refine zR_s rfl ?_
    refine zR_lgt rfl rfl (fun c2 => ?_) (fun c2 => ?_)
    · refine zR_cst (v := 0) rfl rfl rfl ?_
      first | refine zR_rete rfl rfl ?_ ?_ | refine zR_retb rfl rfl ?_ ?_
      all_goals (first | rfl | simp [bI, *])
    · refine zR_cst (v := 1) rfl rfl rfl ?_
      refine zR_s rfl ?_
      first | refine zR_rete rfl rfl ?_ ?_ | refine zR_retb rfl rfl ?_ ?_
      all_goals (first | rfl | simp [bI, *])
theorem m_in {a b c : Int32} : zMe sL sx d 64 [.long a.toInt64, .long b.toInt64, .long c.toInt64] h (.returned (some (.int (bI (decide (b ≤ a ∧ a ≤ c)))))) h := by
  have w := m_inL (sL := sL) (sx := sx) (d := d) (h := h) (a := a.toInt64) (b := b.toInt64) (c := c.toInt64)
  simp only [i64_le] at w
  exact w
theorem m_isUnit {a : Int32} (h75 : hc.length = 75) : zMe sL sx (d + 1) 65 [.ref 75, .int a] (hc ++ (zMd N F G H Z c B ++ t)) (.returned (some (.int (bI (decide (0 ≤ a ∧ a ≤ N 1 - 1)))))) (hc ++ (zMd N F G H Z c B ++ t)) := by
  show zR sL sx _ 65 0 [.ref 75, .int a] [] _ _ _
  refine zR_s rfl ?_
  refine zR_s rfl ?_
  refine zR_lc (v := 0) rfl rfl ?_
  refine zR_s rfl ?_
  refine zR_get rfl rfl (zm0 h75) rfl ?_
  refine zR_cst (v := 1) rfl rfl rfl ?_
  refine zR_isub rfl ?_
  refine zR_s rfl ?_
  refine zR_call rfl rfl rfl rfl (zcallok_s rfl) (m_in (b := 0) ) ?_
  first | refine zR_rete rfl rfl ?_ ?_ | refine zR_retb rfl rfl ?_ ?_
  all_goals (first | rfl | simp [bI, *])
theorem m_mstands (h75 : hc.length = 75) (hu : u < 64) : zMe sL sx d 66 [.ref 75, .int (nI u)] (hc ++ (zMd N F G H Z c B ++ t)) (.returned (some (.int (bI (zst (G u)))))) (hc ++ (zMd N F G H Z c B ++ t)) := by
  show zR sL sx _ 66 0 [.ref 75, .int (nI u)] [] _ _ _
  refine zR_s rfl ?_
  refine zR_get rfl rfl (zm0 h75) rfl ?_
  refine zR_s rfl ?_
  refine zR_ildMG 5 rfl h75 (by decide) (by omega) ?_
  refine zR_cst (v := 4) rfl rfl rfl ?_
  refine zR_iceq rfl rfl (fun c1 => ?_) (fun c1 => ?_)
  · refine zR_cst (v := 0) rfl rfl rfl ?_
    first | refine zR_rete rfl rfl ?_ ?_ | refine zR_retb rfl rfl ?_ ?_
    all_goals (first | rfl | simp [bI, zst, *])
  · refine zR_s rfl ?_
    refine zR_get rfl rfl (zm0 h75) rfl ?_
    refine zR_s rfl ?_
    refine zR_ildMG 5 rfl h75 (by decide) (by omega) ?_
    refine zR_cst (v := 5) rfl rfl rfl ?_
    refine zR_iceq rfl rfl (fun c2 => ?_) (fun c2 => ?_)
    · refine zR_cst (v := 0) rfl rfl rfl ?_
      first | refine zR_rete rfl rfl ?_ ?_ | refine zR_retb rfl rfl ?_ ?_
      all_goals (first | rfl | simp [bI, zst, *])
    · refine zR_cst (v := 1) rfl rfl rfl ?_
      refine zR_s rfl ?_
      first | refine zR_rete rfl rfl ?_ ?_ | refine zR_retb rfl rfl ?_ ?_
      all_goals (first | rfl | simp [bI, zst, *])
theorem m_misOver {l : Nat} (h75 : hc.length = 75) (hl : l < 16) : zMe sL sx d 72 [.ref 75, .int (nI l)] (hc ++ (zMd N F G H Z c B ++ t)) (.returned (some (.int (bI (decide (F 3 l < N 3)))))) (hc ++ (zMd N F G H Z c B ++ t)) := by
  show zR sL sx _ 72 0 [.ref 75, .int (nI l)] [] _ _ _
  refine zR_s rfl ?_
  refine zR_get rfl rfl (zm0 h75) rfl ?_
  refine zR_s rfl ?_
  refine zR_get rfl rfl (zm0 h75) rfl ?_
  refine zR_s rfl ?_
  refine zR_ildMF 3 rfl h75 (by decide) (hl) ?_
  refine zR_icle rfl rfl (fun c1 => ?_) (fun c1 => ?_)
  · refine zR_cst (v := 0) rfl rfl rfl ?_
    first | refine zR_rete rfl rfl ?_ ?_ | refine zR_retb rfl rfl ?_ ?_
    all_goals (first | rfl | (rw [bI_n _ _ (Int32.not_lt.mpr c1)]) | (rw [bI_d _ _ (Int32.not_le.mp c1)]))
  · refine zR_cst (v := 1) rfl rfl rfl ?_
    refine zR_s rfl ?_
    first | refine zR_rete rfl rfl ?_ ?_ | refine zR_retb rfl rfl ?_ ?_
    all_goals (first | rfl | (rw [bI_n _ _ (Int32.not_lt.mpr c1)]) | (rw [bI_d _ _ (Int32.not_le.mp c1)]))
theorem updN_id {N : Nat → Int32} {j : Nat} {v : Int32} (h : N j = v) : N = upd N j v := by funext q; simp only [upd]; split; rename_i e1; rw [e1, h]; rfl
theorem updN_2 {N : Nat → Int32} {j : Nat} {v w : Int32} : upd (upd N j v) j w = upd N j w := by funext q; simp only [upd]; split <;> rfl
theorem m_act {a b e : Int32} (h75 : hc.length = 75) (hN : N 4 = nI A) (hA : A < 400) : zMe sL sx d 73 [.ref 75, .int a, .int b, .int e] (hc ++ (zMd N F G H Z c B ++ t)) (.returned none) (hc ++ (zMd (upd N 4 (nI (A + 1))) (zadd F A a b (N 3) e) G H Z c B ++ t)) := by
  have h1 := updN_id hN
  have e1 : upd N 4 (nI (A + 1)) = upd (upd N 4 (nI A)) 4 (nI (A + 1)) := updN_2.symm
  have e3 : N 3 = upd N 4 (nI A) 3 := rfl
  rw [e1, e3]
  suffices hs : zMe sL sx d 73 [.ref 75, .int a, .int b, .int e] (hc ++ (zMd (upd N 4 (nI A)) F G H Z c B ++ t)) (.returned none) (hc ++ (zMd (upd (upd N 4 (nI A)) 4 (nI (A + 1))) (zadd F A a b (upd N 4 (nI A) 3) e) G H Z c B ++ t)) by
    rw [← h1] at hs ⊢
    exact hs
  show zR sL sx _ 73 0 [.ref 75, .int a, .int b, .int e] [] _ _ _
  refine zR_s rfl ?_
  refine zR_get rfl rfl (zm0 h75) rfl ?_
  refine zR_s rfl ?_
  refine zR_get rfl rfl (zm0 h75) rfl ?_
  refine zR_s rfl ?_
  refine zR_istMF 4 rfl h75 (by decide) ((show A < 400 from hA)) ?_
  refine zR_s rfl ?_
  refine zR_get rfl rfl (zm0 h75) rfl ?_
  refine zR_s rfl ?_
  refine zR_get rfl rfl (zm0 h75) rfl ?_
  refine zR_s rfl ?_
  refine zR_istMF 5 rfl h75 (by decide) ((show A < 400 from hA)) ?_
  refine zR_s rfl ?_
  refine zR_get rfl rfl (zm0 h75) rfl ?_
  refine zR_s rfl ?_
  refine zR_get rfl rfl (zm0 h75) rfl ?_
  refine zR_s rfl ?_
  refine zR_get rfl rfl (zm0 h75) rfl ?_
  refine zR_istMF 6 rfl h75 (by decide) ((show A < 400 from hA)) ?_
  refine zR_s rfl ?_
  refine zR_get rfl rfl (zm0 h75) rfl ?_
  refine zR_s rfl ?_
  refine zR_get rfl rfl (zm0 h75) rfl ?_
  refine zR_s rfl ?_
  refine zR_istMF 7 rfl h75 (by decide) ((show A < 400 from hA)) ?_
  refine zR_s rfl ?_
  refine zR_s rfl ?_
  refine zR_get rfl rfl (zm0 h75) rfl ?_
  refine zR_cst (v := 1) rfl rfl rfl ?_
  refine zR_iadd rfl ?_
  refine zR_putMN 4 rfl rfl h75 (by decide) rfl ?_
  refine zR_rete rfl rfl ?_ ?_
  all_goals (first | rfl | (rw [show nI (A + 1) = nI A + 1 from nI_succ A]; rfl))
end ZMH
