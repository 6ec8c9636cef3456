/-! what holds of the cells throughout, and the reference's acts held against the class's -/
def zUn (F G : Nat → Nat → Int32) (K : Nat → Option Nat) (Z : Nat → Int64) (M l i : Nat) : Prop := (∃ a, a < l ∧ G i 0 = nI a ∧ G i 1 = F 2 a ∧ G i 2 = F 3 a) ∧ (∃ w, w < 8 ∧ G i 3 = nI w) ∧ (∃ n, 1 ≤ n ∧ n ≤ 1000 ∧ G i 4 = nI n) ∧ (∃ s, s ≤ 5 ∧ G i 5 = nI s) ∧ (zst (G i) = true → ∃ p, p < 16 ∧ G i 6 = nI p) ∧ (zst (G i) = false → G i 6 = -1 ∧ K i = none) ∧ 0 ≤ Z i ∧ (∀ c, K i = some c → c < M ∧ G i 6 = G c 6)
def zInv (N : Nat → Int32) (F G : Nat → Nat → Int32) (K : Nat → Option Nat) (Z : Nat → Int64) (M A l R : Nat) : Prop :=
  (N 0 = nI l ∧ l ≤ 16) ∧ (N 1 = nI M ∧ N 2 = nI R ∧ M ≤ R ∧ R ≤ 64) ∧ (N 4 = nI A ∧ A ≤ 400) ∧ (∀ i, i < M → zUn F G K Z M l i) ∧ zCh K M ∧ zKb K ∧ (∀ p, p < 16 → ∃ m, m ≤ 64 ∧ F 0 p = nI m ∧ zcnt (zqP G (nI p)) M ≤ m) ∧ (∀ a, a < l → ∃ g, g < 8 ∧ F 2 a = nI g)
def zOm (dv : Option Value) (q : zQ) : Outcome := match q with
  | .ok r => .returned r.1
  | .error _ => .returned dv
def zHm (kf : Nat → Int32) (hc t : zH) (N : Nat → Int32) (F G : Nat → Nat → Int32) (H : Nat → Int32) (Z : Nat → Int64) (B H' B' : Nat → Int32) (q : zQ) : zH := match q with
  | .ok r => hc ++ (zMd r.2.1 r.2.2.1 r.2.2.2.1 H' r.2.2.2.2.2 0 B' ++ t)
  | .error e => hc ++ (zMd N F G H Z (kf e) B ++ t)
def kfR (e : Nat) : Int32 := match e with
  | 0 => 1
  | _ => 2
def kfP (e : Nat) : Int32 := match e with
  | 1 => 1
  | _ => 2
def kfU (e : Nat) : Int32 := match e with
  | 4 => 1
  | 1 => 2
  | _ => 3
def kfA (e : Nat) : Int32 := match e with
  | 4 => 1
  | 1 => 2
  | 2 => 3
  | _ => 4
def kfB (e : Nat) : Int32 := match e with
  | 4 => 1
  | 2 => 2
  | _ => 3
def kfW (e : Nat) : Int32 := match e with
  | 4 => 1
  | _ => 2
theorem zcolc {j : Nat} (h : zcolok j = true) : j = 0 ∨ j = 3 ∨ j = 4 ∨ j = 5 ∨ j = 6 := by
  rcases j with _ | _ | _ | _ | _ | _ | _ | j
  all_goals simp [zcolok] at h ⊢
section ZMA
variable {sL : Nat} {sx : Nat → Int32} {d : Nat} {h : zH}
variable {N N' : Nat → Int32} {F F' G G' : Nat → Nat → Int32} {K : Nat → Option Nat} {H : Nat → Int32} {Z : Nat → Int64} {c : Int32} {B : Nat → Int32} {hc t : zH} {M A l R u i : Nat}
theorem zMd_app (h : ∀ i j, zcolok j = true → G i j = G' i j) : hc ++ (zMd N F G H Z c B ++ t) = hc ++ (zMd N F G' H Z c B ++ t) := by
  have : zMd N F G H Z c B = zMd N F G' H Z c B := by
    simp only [zMd]
    refine List.map_congr_left fun k hk => ?_
    rcases k with _ | _ | _ | _ | _ | _ | _ | _ | _ | _ | _ | _ | _ | _ | _ | _ | _ | n
    all_goals first | rfl | simp only [zmcell, h _ 0 rfl, h _ 3 rfl, h _ 4 rfl, h _ 5 rfl, h _ 6 rfl]
  rw [this]
theorem i_m1 (hI : zInv N F G K Z M A l R) : N 1 = nI M := hI.2.1.1
theorem i_m (hI : zInv N F G K Z M A l R) : M ≤ 64 := Nat.le_trans hI.2.1.2.2.1 hI.2.1.2.2.2
theorem i_un (hI : zInv N F G K Z M A l R) {i : Nat} (hi : i < M) : zUn F G K Z M l i := hI.2.2.2.1 i hi
theorem i_ch (hI : zInv N F G K Z M A l R) : zCh K M := hI.2.2.2.2.1
theorem i_kb (hI : zInv N F G K Z M A l R) : zKb K := hI.2.2.2.2.2.1
theorem i_st (hI : zInv N F G K Z M A l R) {i : Nat} (hi : i < M) : G i 5 = 0 ∨ G i 5 = 1 ∨ G i 5 = 2 ∨ G i 5 = 3 ∨ G i 5 = 4 ∨ G i 5 = 5 := by
  obtain ⟨s, hs, e⟩ := (i_un hI hi).2.2.2.1
  rw [e]
  rcases (show s = 0 ∨ s = 1 ∨ s = 2 ∨ s = 3 ∨ s = 4 ∨ s = 5 by omega) with rfl | rfl | rfl | rfl | rfl | rfl <;> decide
/-- standing at a place is being at it -/
theorem i_T (hI : zInv N F G K Z M A l R) {p : Nat} (hp : p < 16) : zcnt (zqT G (nI p)) M = zcnt (zqP G (nI p)) M := by
  refine zcnt_congr fun i hi => ?_
  simp only [zqT, zqP]
  cases hs : zst (G i) with
  | true => simp
  | false =>
    rw [((i_un hI hi).2.2.2.2.2.1 hs).1]
    simp only [Bool.false_and]
    exact (decide_eq_false fun q => zsk_ne (c := p) (by omega) q.symm).symm
theorem i_T2 (hI : zInv N F G K Z M A l R) {p : Int32} (hp : 0 ≤ p ∧ p ≤ 15) : zcnt (zqT G p) M = zcnt (zqP G p) M := by
  obtain ⟨p', h1, rfl, _⟩ := zpl (n := 15) rfl (by decide) hp
  exact i_T hI (by omega)
/-- rows: full or not -/
theorem i_r1 (hI : zInv N F G K Z M A l R) (q : N 4 = 400) : ¬ N 4 + 1 ≤ 400 := by
  rw [q]; decide
theorem i_r2 (hI : zInv N F G K Z M A l R) (q : ¬ N 4 = 400) : N 4 + 1 ≤ 400 := by
  have h1 := hI.2.2.1
  rw [h1.1] at q ⊢
  have : A ≠ 400 := fun e => q (by rw [e]; rfl)
  rw [nI_1]
  exact nI_le (b := 400) (by omega) (by omega)
theorem i_s1 (hI : zInv N F G K Z M A l R) (q : ¬ N 4 ≤ 398) : ¬ N 4 + 2 ≤ 400 := by
  have h1 := hI.2.2.1
  rw [h1.1] at q ⊢
  rw [show nI A + 2 = nI (A + 2) from nI_add A 2]
  intro q2
  have := (nI_leI (a := A + 2) (b := 400) (by omega) (by omega)).mp q2
  exact q (nI_le (b := 398) (by omega) (by omega))
theorem i_s2 (hI : zInv N F G K Z M A l R) (q : N 4 ≤ 398) : N 4 + 2 ≤ 400 := by
  have h1 := hI.2.2.1
  rw [h1.1] at q ⊢
  have := (nI_leI (a := A) (b := 398) (by omega) (by omega)).mp q
  rw [show nI A + 2 = nI (A + 2) from nI_add A 2]
  exact nI_le (b := 400) (by omega) (by omega)
/-- units: full or not -/
theorem i_u1 (hI : zInv N F G K Z M A l R) (q : N 1 = N 2) : ¬ (¬ N 2 ≤ N 1 ∧ M < 64) := fun h => h.1 (by rw [q]; exact Int32.le_refl _)
theorem i_u2 (hI : zInv N F G K Z M A l R) (q : ¬ N 1 = N 2) : ¬ N 2 ≤ N 1 ∧ M < 64 := by
  obtain ⟨h1, h2, h3, h4⟩ := hI.2.1
  rw [h1, h2] at q ⊢
  have : M ≠ R := fun e => q (by rw [e])
  exact ⟨nI_ge (by omega) (by omega), by omega⟩
/-- a place: full or not -/
theorem i_p1 (hI : zInv N F G K Z M A l R) {p : Nat} (hp : p < 16) (q : nI (zcnt (zqP G (nI p)) M) = F 0 p) : ¬ nI (zcnt (zqP G (nI p)) M) + 1 ≤ F 0 p := by
  rw [← q, nI_1]
  have := zcnt_le (zqP G (nI p)) M
  have := i_m hI
  exact nI_ge (by omega) (by omega)
theorem i_p2 (hI : zInv N F G K Z M A l R) {p : Nat} (hp : p < 16) (q : ¬ nI (zcnt (zqP G (nI p)) M) = F 0 p) : nI (zcnt (zqP G (nI p)) M) + 1 ≤ F 0 p := by
  obtain ⟨m, h1, h2, h3⟩ := hI.2.2.2.2.2.2.1 p hp
  rw [h2] at q ⊢
  have : zcnt (zqP G (nI p)) M ≠ m := fun e => q (by rw [e])
  rw [nI_1]
  exact nI_le (by omega) (by omega)
theorem updN_c {a b : Nat} {v w : Int32} (h : a ≠ b) : upd (upd N a v) b w = upd (upd N b w) a v := by
  funext q
  simp only [upd]
  by_cases h1 : q = a <;> by_cases h2 : q = b <;> simp [h1, h2]
  · omega
  · intro e; omega
  · intro e; omega
theorem d_rows {n : Int32} (h75 : hc.length = 75) : zMe sL sx 11 67 [.ref 75, .int n] (hc ++ (zMd N F G H Z c B ++ t)) (zOm none (q_rows N F G K Z n)) (zHm kfR hc t N F G H Z B H B (q_rows N F G K Z n)) := by
  have e1 : upd (upd N 2 n) 1 0 = upd (upd N 1 0) 2 n := updN_c (by decide)
  show zR sL sx _ 67 0 [.ref 75, .int n] [] _ _ _
  refine zR_s rfl ?_
  refine zR_s rfl ?_
  refine zR_ifge rfl rfl (fun c1 => ?_) (fun c1 => ?_)
  · refine zR_s rfl ?_
    refine zR_cst (v := 64) rfl rfl rfl ?_
    refine zR_icle rfl rfl (fun c2 => ?_) (fun c2 => ?_)
    · refine zR_cst (v := 0) rfl rfl rfl ?_
      refine zR_putC rfl rfl h75 rfl ?_
      refine zR_s rfl ?_
      refine zR_get rfl rfl (zm0 h75) rfl ?_
      refine zR_ifle rfl rfl (fun _ => ?_) (fun c => absurd c (by decide))
      refine zR_s rfl ?_
      refine zR_s rfl ?_
      refine zR_putMN 2 rfl rfl h75 (by decide) rfl ?_
      refine zR_s rfl ?_
      refine zR_cst (v := 0) rfl rfl rfl ?_
      refine zR_putMN 1 rfl rfl h75 (by decide) rfl ?_
      refine zR_s rfl ?_
      refine zR_cst (v := 0) rfl rfl rfl ?_
      refine zR_putMN 4 rfl rfl h75 (by decide) rfl ?_
      refine zR_rete rfl rfl ?_ ?_
      all_goals (first | contradiction | (simp only [zOm, zHm, q_rows, kfR, e1, c1, c2, if_true, if_false, not_true_eq_false, not_false_eq_true, and_self, and_true, true_and, or_true, true_or, or_false, false_or, and_false, false_and, reduceCtorEq, Bool.false_eq_true, ite_self]; done) | (simp only [zOm, zHm, q_rows, kfR, c1, c2, if_true, if_false, not_true_eq_false, not_false_eq_true, and_self, and_true, true_and, or_true, true_or, or_false, false_or, and_false, false_and, reduceCtorEq, Bool.false_eq_true, ite_self]; done))
    · refine zR_cst (v := 2) rfl rfl rfl ?_
      refine zR_s rfl ?_
      refine zR_putC rfl rfl h75 rfl ?_
      refine zR_s rfl ?_
      refine zR_get rfl rfl (zm0 h75) rfl ?_
      refine zR_ifle rfl rfl (fun c => absurd c (by decide)) (fun _ => ?_)
      refine zR_rete rfl rfl ?_ ?_
      all_goals (first | contradiction | (simp only [zOm, zHm, q_rows, kfR, e1, c1, c2, if_true, if_false, not_true_eq_false, not_false_eq_true, and_self, and_true, true_and, or_true, true_or, or_false, false_or, and_false, false_and, reduceCtorEq, Bool.false_eq_true, ite_self]; done) | (simp only [zOm, zHm, q_rows, kfR, c1, c2, if_true, if_false, not_true_eq_false, not_false_eq_true, and_self, and_true, true_and, or_true, true_or, or_false, false_or, and_false, false_and, reduceCtorEq, Bool.false_eq_true, ite_self]; done))
  · refine zR_cst (v := 1) rfl rfl rfl ?_
    refine zR_s rfl ?_
    refine zR_putC rfl rfl h75 rfl ?_
    refine zR_s rfl ?_
    refine zR_get rfl rfl (zm0 h75) rfl ?_
    refine zR_ifle rfl rfl (fun c => absurd c (by decide)) (fun _ => ?_)
    refine zR_rete rfl rfl ?_ ?_
    all_goals (first | contradiction | (simp only [zOm, zHm, q_rows, kfR, e1, c1, if_true, if_false, not_true_eq_false, not_false_eq_true, and_self, and_true, true_and, or_true, true_or, or_false, false_or, and_false, false_and, reduceCtorEq, Bool.false_eq_true, ite_self]; done) | (simp only [zOm, zHm, q_rows, kfR, c1, if_true, if_false, not_true_eq_false, not_false_eq_true, and_self, and_true, true_and, or_true, true_or, or_false, false_or, and_false, false_and, reduceCtorEq, Bool.false_eq_true, ite_self]; done))
theorem d_place {p m : Int32} (h75 : hc.length = 75) (hI : zInv N F G K Z M A l R) : zMe sL sx 11 69 [.ref 75, .int p, .int m] (hc ++ (zMd N F G H Z c B ++ t)) (zOm none (q_place N F G K Z M p m)) (zHm kfP hc t N F G H Z B H B (q_place N F G K Z M p m)) := by
  show zR sL sx _ 69 0 [.ref 75, .int p, .int m] [] _ _ _
  refine zR_s rfl ?_
  refine zR_s rfl ?_
  refine zR_s rfl ?_
  refine zR_lc (v := 0) rfl rfl ?_
  refine zR_ldc2 (v := 15) rfl rfl ?_
  refine zR_call rfl rfl rfl rfl (zcallok_s rfl) (m_in (b := 0) (c := 15)) ?_
  first | refine zR_df rfl rfl (fun c1 => ?_) (fun c1 => ?_) | refine zR_bf rfl rfl (fun c1 => ?_) (fun c1 => ?_) | refine zR_ifeq rfl rfl (fun c1 => ?_) (fun c1 => ?_)
  · refine zR_cst (v := 1) rfl rfl rfl ?_
    refine zR_s rfl ?_
    refine zR_putC rfl rfl h75 rfl ?_
    refine zR_s rfl ?_
    refine zR_get rfl rfl (zm0 h75) rfl ?_
    refine zR_ifne rfl rfl (fun _ => ?_) (fun c => absurd c (by decide))
    refine zR_rete rfl rfl ?_ ?_
    all_goals (first | contradiction | (simp only [zOm, zHm, q_place, kfP, ep, c1, if_true, if_false, not_true_eq_false, not_false_eq_true, and_self, and_true, true_and, or_true, true_or, or_false, false_or, and_false, false_and, reduceCtorEq, Bool.false_eq_true, ite_self]; done) | (simp only [zOm, zHm, q_place, kfP, c1, if_true, if_false, not_true_eq_false, not_false_eq_true, and_self, and_true, true_and, or_true, true_or, or_false, false_or, and_false, false_and, reduceCtorEq, Bool.false_eq_true, ite_self]; done))
  · refine zR_s rfl ?_
    refine zR_s rfl ?_
    refine zR_lc (v := 0) rfl rfl ?_
    refine zR_ldc2 (v := 64) rfl rfl ?_
    refine zR_call rfl rfl rfl rfl (zcallok_s rfl) (m_in (b := 0) (c := 64)) ?_
    first | refine zR_dt rfl rfl (fun c2 => ?_) (fun c2 => ?_) | refine zR_bt rfl rfl (fun c2 => ?_) (fun c2 => ?_) | refine zR_ifne rfl rfl (fun c2 => ?_) (fun c2 => ?_)
    · refine zR_s rfl ?_
      refine zR_s rfl ?_
      refine zR_call rfl rfl rfl rfl (zcallok_v (zm0 h75) rfl rfl) (m_standingAt h75 (i_m1 hI) (i_m hI)) ?_
      rw [i_T2 hI c1]
      refine zR_s rfl ?_
      refine zR_icle rfl rfl (fun c3 => ?_) (fun c3 => ?_)
      · refine zR_cst (v := 0) rfl rfl rfl ?_
        refine zR_putC rfl rfl h75 rfl ?_
        refine zR_s rfl ?_
        refine zR_get rfl rfl (zm0 h75) rfl ?_
        refine zR_ifne rfl rfl (fun c => absurd c (by decide)) (fun _ => ?_)
        obtain ⟨p', hp, rfl, ep⟩ := zpl (n := 15) rfl (by decide) c1
        refine zR_s rfl ?_
        refine zR_get rfl rfl (zm0 h75) rfl ?_
        refine zR_s rfl ?_
        refine zR_s rfl ?_
        refine zR_istMF 0 rfl h75 (by decide) ((show p' < 16 by omega)) ?_
        refine zR_rete rfl rfl ?_ ?_
        all_goals (first | contradiction | (simp only [zOm, zHm, q_place, kfP, ep, c1, c2, c3, if_true, if_false, not_true_eq_false, not_false_eq_true, and_self, and_true, true_and, or_true, true_or, or_false, false_or, and_false, false_and, reduceCtorEq, Bool.false_eq_true, ite_self]; done) | (simp only [zOm, zHm, q_place, kfP, c1, c2, c3, if_true, if_false, not_true_eq_false, not_false_eq_true, and_self, and_true, true_and, or_true, true_or, or_false, false_or, and_false, false_and, reduceCtorEq, Bool.false_eq_true, ite_self]; done))
      · refine zR_cst (v := 2) rfl rfl rfl ?_
        refine zR_s rfl ?_
        refine zR_putC rfl rfl h75 rfl ?_
        refine zR_s rfl ?_
        refine zR_get rfl rfl (zm0 h75) rfl ?_
        refine zR_ifne rfl rfl (fun _ => ?_) (fun c => absurd c (by decide))
        refine zR_rete rfl rfl ?_ ?_
        all_goals (first | contradiction | (simp only [zOm, zHm, q_place, kfP, ep, c1, c2, c3, if_true, if_false, not_true_eq_false, not_false_eq_true, and_self, and_true, true_and, or_true, true_or, or_false, false_or, and_false, false_and, reduceCtorEq, Bool.false_eq_true, ite_self]; done) | (simp only [zOm, zHm, q_place, kfP, c1, c2, c3, if_true, if_false, not_true_eq_false, not_false_eq_true, and_self, and_true, true_and, or_true, true_or, or_false, false_or, and_false, false_and, reduceCtorEq, Bool.false_eq_true, ite_self]; done))
    · refine zR_cst (v := 1) rfl rfl rfl ?_
      refine zR_s rfl ?_
      refine zR_putC rfl rfl h75 rfl ?_
      refine zR_s rfl ?_
      refine zR_get rfl rfl (zm0 h75) rfl ?_
      refine zR_ifne rfl rfl (fun _ => ?_) (fun c => absurd c (by decide))
      refine zR_rete rfl rfl ?_ ?_
      all_goals (first | contradiction | (simp only [zOm, zHm, q_place, kfP, ep, c1, c2, if_true, if_false, not_true_eq_false, not_false_eq_true, and_self, and_true, true_and, or_true, true_or, or_false, false_or, and_false, false_and, reduceCtorEq, Bool.false_eq_true, ite_self]; done) | (simp only [zOm, zHm, q_place, kfP, c1, c2, if_true, if_false, not_true_eq_false, not_false_eq_true, and_self, and_true, true_and, or_true, true_or, or_false, false_or, and_false, false_and, reduceCtorEq, Bool.false_eq_true, ite_self]; done))
theorem d_good {p m : Int32} (h75 : hc.length = 75) : zMe sL sx 11 70 [.ref 75, .int p, .int m] (hc ++ (zMd N F G H Z c B ++ t)) (zOm none (q_good N F G K Z p m)) (zHm kfP hc t N F G H Z B H B (q_good N F G K Z p m)) := by
  show zR sL sx _ 70 0 [.ref 75, .int p, .int m] [] _ _ _
  refine zR_s rfl ?_
  refine zR_s rfl ?_
  refine zR_s rfl ?_
  refine zR_lc (v := 0) rfl rfl ?_
  refine zR_ldc2 (v := 7) rfl rfl ?_
  refine zR_call rfl rfl rfl rfl (zcallok_s rfl) (m_in (b := 0) (c := 7)) ?_
  first | refine zR_df rfl rfl (fun c1 => ?_) (fun c1 => ?_) | refine zR_bf rfl rfl (fun c1 => ?_) (fun c1 => ?_) | refine zR_ifeq rfl rfl (fun c1 => ?_) (fun c1 => ?_)
  · refine zR_cst (v := 1) rfl rfl rfl ?_
    refine zR_putC rfl rfl h75 rfl ?_
    refine zR_s rfl ?_
    refine zR_get rfl rfl (zm0 h75) rfl ?_
    refine zR_ifne rfl rfl (fun _ => ?_) (fun c => absurd c (by decide))
    refine zR_rete rfl rfl ?_ ?_
    all_goals (first | contradiction | (simp only [zOm, zHm, q_good, kfP, ep, c1, if_true, if_false, not_true_eq_false, not_false_eq_true, and_self, and_true, true_and, or_true, true_or, or_false, false_or, and_false, false_and, reduceCtorEq, Bool.false_eq_true, ite_self]; done) | (simp only [zOm, zHm, q_good, kfP, c1, if_true, if_false, not_true_eq_false, not_false_eq_true, and_self, and_true, true_and, or_true, true_or, or_false, false_or, and_false, false_and, reduceCtorEq, Bool.false_eq_true, ite_self]; done))
  · refine zR_s rfl ?_
    refine zR_s rfl ?_
    refine zR_lc (v := 1) rfl rfl ?_
    refine zR_ldc2 (v := 30000) rfl rfl ?_
    refine zR_call rfl rfl rfl rfl (zcallok_s rfl) (m_in (b := 1) (c := 30000)) ?_
    first | refine zR_df rfl rfl (fun c2 => ?_) (fun c2 => ?_) | refine zR_bf rfl rfl (fun c2 => ?_) (fun c2 => ?_) | refine zR_ifeq rfl rfl (fun c2 => ?_) (fun c2 => ?_)
    · refine zR_cst (v := 1) rfl rfl rfl ?_
      refine zR_putC rfl rfl h75 rfl ?_
      refine zR_s rfl ?_
      refine zR_get rfl rfl (zm0 h75) rfl ?_
      refine zR_ifne rfl rfl (fun _ => ?_) (fun c => absurd c (by decide))
      refine zR_rete rfl rfl ?_ ?_
      all_goals (first | contradiction | (simp only [zOm, zHm, q_good, kfP, ep, c1, c2, if_true, if_false, not_true_eq_false, not_false_eq_true, and_self, and_true, true_and, or_true, true_or, or_false, false_or, and_false, false_and, reduceCtorEq, Bool.false_eq_true, ite_self]; done) | (simp only [zOm, zHm, q_good, kfP, c1, c2, if_true, if_false, not_true_eq_false, not_false_eq_true, and_self, and_true, true_and, or_true, true_or, or_false, false_or, and_false, false_and, reduceCtorEq, Bool.false_eq_true, ite_self]; done))
    · refine zR_cst (v := 0) rfl rfl rfl ?_
      refine zR_s rfl ?_
      refine zR_putC rfl rfl h75 rfl ?_
      refine zR_s rfl ?_
      refine zR_get rfl rfl (zm0 h75) rfl ?_
      refine zR_ifne rfl rfl (fun c => absurd c (by decide)) (fun _ => ?_)
      obtain ⟨p', hp, rfl, ep⟩ := zpl (n := 7) rfl (by decide) c1
      refine zR_s rfl ?_
      refine zR_get rfl rfl (zm0 h75) rfl ?_
      refine zR_s rfl ?_
      refine zR_s rfl ?_
      refine zR_istMF 1 rfl h75 (by decide) ((show p' < 8 by omega)) ?_
      refine zR_rete rfl rfl ?_ ?_
      all_goals (first | contradiction | (simp only [zOm, zHm, q_good, kfP, ep, c1, c2, if_true, if_false, not_true_eq_false, not_false_eq_true, and_self, and_true, true_and, or_true, true_or, or_false, false_or, and_false, false_and, reduceCtorEq, Bool.false_eq_true, ite_self]; done) | (simp only [zOm, zHm, q_good, kfP, c1, c2, if_true, if_false, not_true_eq_false, not_false_eq_true, and_self, and_true, true_and, or_true, true_or, or_false, false_or, and_false, false_and, reduceCtorEq, Bool.false_eq_true, ite_self]; done))
theorem d_lot {p m : Int32} (h75 : hc.length = 75) (hI : zInv N F G K Z M A l R) : zMe sL sx 11 71 [.ref 75, .int p, .int m] (hc ++ (zMd N F G H Z c B ++ t)) (zOm (some (.int 0)) (q_lot N F G K Z l p m)) (zHm kfP hc t N F G H Z B H B (q_lot N F G K Z l p m)) := by
  have hl := hI.1
  have h1 : N 0 = 16 → ¬ l < 16 := fun q q2 => by
    rw [hl.1] at q
    have := (nI_eq (a := l) (b := 16) (by omega) (by omega)).mp q
    omega
  have h2 : ¬ N 0 = 16 → l < 16 := fun q => Nat.lt_of_le_of_ne hl.2 fun e => q (by rw [hl.1, e]; rfl)
  have tail : 0 ≤ p ∧ p ≤ 7 → 0 ≤ m ∧ m ≤ 1000 → l < 16 → zR sL sx 11 71 55 [.ref 75, .int p, .int m] [] (hc ++ (zMd N F G H Z 0 B ++ t)) (zOm (some (.int 0)) (q_lot N F G K Z l p m)) (zHm kfP hc t N F G H Z B H B (q_lot N F G K Z l p m)) := by
    intro c1 c2 c3
    have e1 : zOm (some (.int 0)) (q_lot N F G K Z l p m) = .returned (some (.int (nI (l + 1) - 1))) := by
      rw [nI_pred]
      simp only [zOm, q_lot, if_pos c1, if_pos c2, if_pos c3]
    have e2 : zHm kfP hc t N F G H Z B H B (q_lot N F G K Z l p m) = hc ++ (zMd (upd (upd N 0 (nI l)) 0 (nI (l + 1))) (updF (updF F 2 (upd (F 2) l p)) 3 (upd (F 3) l m)) G H Z 0 B ++ t) := by
      rw [updN_2]
      simp only [zHm, q_lot, if_pos c1, if_pos c2, if_pos c3]
    rw [e1, e2, show nI (l + 1) = nI l + 1 from nI_succ l]
    suffices hs : zR sL sx 11 71 55 [.ref 75, .int p, .int m] [] (hc ++ (zMd (upd N 0 (nI l)) F G H Z 0 B ++ t)) (.returned (some (.int (nI l + 1 - 1)))) (hc ++ (zMd (upd (upd N 0 (nI l)) 0 (nI l + 1)) (updF (updF F 2 (upd (F 2) l p)) 3 (upd (F 3) l m)) G H Z 0 B ++ t)) by
      rw [← updN_id hl.1] at hs ⊢
      exact hs
    refine zR_s rfl ?_
    refine zR_get rfl rfl (zm0 h75) rfl ?_
    refine zR_s rfl ?_
    refine zR_get rfl rfl (zm0 h75) rfl ?_
    refine zR_s rfl ?_
    refine zR_istMF 2 rfl h75 (by decide) ((show l < 16 from c3)) ?_
    refine zR_s rfl ?_
    refine zR_get rfl rfl (zm0 h75) rfl ?_
    refine zR_s rfl ?_
    refine zR_get rfl rfl (zm0 h75) rfl ?_
    refine zR_s rfl ?_
    refine zR_istMF 3 rfl h75 (by decide) ((show l < 16 from c3)) ?_
    refine zR_s rfl ?_
    refine zR_s rfl ?_
    refine zR_get rfl rfl (zm0 h75) rfl ?_
    refine zR_cst (v := 1) rfl rfl rfl ?_
    refine zR_iadd rfl ?_
    refine zR_putMN 0 rfl rfl h75 (by decide) rfl ?_
    refine zR_s rfl ?_
    refine zR_get rfl rfl (zm0 h75) rfl ?_
    refine zR_cst (v := 1) rfl rfl rfl ?_
    refine zR_isub rfl ?_
    first | refine zR_rete rfl rfl ?_ ?_ | refine zR_retb rfl rfl ?_ ?_
    all_goals (rfl)
  show zR sL sx _ 71 0 [.ref 75, .int p, .int m] [] _ _ _
  refine zR_s rfl ?_
  refine zR_s rfl ?_
  refine zR_s rfl ?_
  refine zR_lc (v := 0) rfl rfl ?_
  refine zR_ldc2 (v := 7) rfl rfl ?_
  refine zR_call rfl rfl rfl rfl (zcallok_s rfl) (m_in (b := 0) (c := 7)) ?_
  first | refine zR_df rfl rfl (fun c1 => ?_) (fun c1 => ?_) | refine zR_bf rfl rfl (fun c1 => ?_) (fun c1 => ?_) | refine zR_ifeq rfl rfl (fun c1 => ?_) (fun c1 => ?_)
  · refine zR_cst (v := 1) rfl rfl rfl ?_
    refine zR_s rfl ?_
    refine zR_putC rfl rfl h75 rfl ?_
    refine zR_s rfl ?_
    refine zR_get rfl rfl (zm0 h75) rfl ?_
    refine zR_ifle rfl rfl (fun c => absurd c (by decide)) (fun _ => ?_)
    refine zR_cst (v := 0) rfl rfl rfl ?_
    first | refine zR_rete rfl rfl ?_ ?_ | refine zR_retb rfl rfl ?_ ?_
    all_goals (first | contradiction | (simp only [zOm, zHm, q_lot, kfP, c1, if_true, if_false, not_true_eq_false, not_false_eq_true, and_self, and_true, true_and, or_true, true_or, or_false, false_or, and_false, false_and, reduceCtorEq, Bool.false_eq_true, ite_self]; done) | (simp only [zOm, zHm, q_lot, kfP, c1, if_true, if_false, not_true_eq_false, not_false_eq_true, and_self, and_true, true_and, or_true, true_or, or_false, false_or, and_false, false_and, reduceCtorEq, Bool.false_eq_true, ite_self]; done))
  · refine zR_s rfl ?_
    refine zR_s rfl ?_
    refine zR_lc (v := 0) rfl rfl ?_
    refine zR_ldc2 (v := 1000) rfl rfl ?_
    refine zR_call rfl rfl rfl rfl (zcallok_s rfl) (m_in (b := 0) (c := 1000)) ?_
    first | refine zR_dt rfl rfl (fun c2 => ?_) (fun c2 => ?_) | refine zR_bt rfl rfl (fun c2 => ?_) (fun c2 => ?_) | refine zR_ifne rfl rfl (fun c2 => ?_) (fun c2 => ?_)
    · refine zR_s rfl ?_
      refine zR_get rfl rfl (zm0 h75) rfl ?_
      refine zR_cst (v := 16) rfl rfl rfl ?_
      refine zR_icne rfl rfl (fun c3 => ?_) (fun c3 => ?_)
      · refine zR_cst (v := 0) rfl rfl rfl ?_
        refine zR_putC rfl rfl h75 rfl ?_
        refine zR_s rfl ?_
        refine zR_get rfl rfl (zm0 h75) rfl ?_
        refine zR_ifle rfl rfl (fun _ => ?_) (fun c => absurd c (by decide))
        exact tail c1 c2 (h2 c3)
      · replace c3 := h1 c3
        refine zR_cst (v := 2) rfl rfl rfl ?_
        refine zR_s rfl ?_
        refine zR_putC rfl rfl h75 rfl ?_
        refine zR_s rfl ?_
        refine zR_get rfl rfl (zm0 h75) rfl ?_
        refine zR_ifle rfl rfl (fun c => absurd c (by decide)) (fun _ => ?_)
        refine zR_cst (v := 0) rfl rfl rfl ?_
        first | refine zR_rete rfl rfl ?_ ?_ | refine zR_retb rfl rfl ?_ ?_
        all_goals (first | contradiction | (simp only [zOm, zHm, q_lot, kfP, c1, c2, c3, if_true, if_false, not_true_eq_false, not_false_eq_true, and_self, and_true, true_and, or_true, true_or, or_false, false_or, and_false, false_and, reduceCtorEq, Bool.false_eq_true, ite_self]; done) | (simp only [zOm, zHm, q_lot, kfP, c1, c2, c3, if_true, if_false, not_true_eq_false, not_false_eq_true, and_self, and_true, true_and, or_true, true_or, or_false, false_or, and_false, false_and, reduceCtorEq, Bool.false_eq_true, ite_self]; done))
    · refine zR_cst (v := 1) rfl rfl rfl ?_
      refine zR_s rfl ?_
      refine zR_putC rfl rfl h75 rfl ?_
      refine zR_s rfl ?_
      refine zR_get rfl rfl (zm0 h75) rfl ?_
      refine zR_ifle rfl rfl (fun c => absurd c (by decide)) (fun _ => ?_)
      refine zR_cst (v := 0) rfl rfl rfl ?_
      first | refine zR_rete rfl rfl ?_ ?_ | refine zR_retb rfl rfl ?_ ?_
      all_goals (first | contradiction | (simp only [zOm, zHm, q_lot, kfP, c1, c2, if_true, if_false, not_true_eq_false, not_false_eq_true, and_self, and_true, true_and, or_true, true_or, or_false, false_or, and_false, false_and, reduceCtorEq, Bool.false_eq_true, ite_self]; done) | (simp only [zOm, zHm, q_lot, kfP, c1, c2, if_true, if_false, not_true_eq_false, not_false_eq_true, and_self, and_true, true_and, or_true, true_or, or_false, false_or, and_false, false_and, reduceCtorEq, Bool.false_eq_true, ite_self]; done))
end ZMA
