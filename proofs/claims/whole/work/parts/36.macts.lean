/-! the reference's acts, further -/
section ZMB
variable {sL : Nat} {sx : Nat → Int32} {d : Nat} {h : zH}
variable {N N' : Nat → Int32} {F F' G G' : Nat → Nat → Int32} {K : Nat → Option Nat} {H : Nat → Int32} {Z : Nat → Int64} {c : Int32} {B : Nat → Int32} {hc t : zH} {M A l R u i : Nat}
theorem zMd_app2 (e1 : N = N') (e2 : F = F') (h : ∀ i j, zcolok j = true → G i j = G' i j) : hc ++ (zMd N F G H Z c B ++ t) = hc ++ (zMd N' F' G' H Z c B ++ t) := by
  subst e1; subst e2; exact zMd_app h
theorem i_v (hI : zInv N F G K Z M A l R) {j : Nat} (hj : j < M) : 0 ≤ nI j ∧ nI j ≤ N 1 - 1 := by
  have := i_m hI
  refine ⟨nI_pos' (by omega), ?_⟩
  obtain ⟨A', rfl⟩ : ∃ A', M = A' + 1 := ⟨M - 1, by omega⟩
  rw [i_m1 hI, nI_pred]
  exact nI_le (by omega) (by omega)
theorem i_h1 (hI : zInv N F G K Z M A l R) (hH : zHK M K H) {j : Nat} (hj : j < M) (q : H j = -1) : K j = none := by
  rw [hH j hj] at q
  cases e : K j with
  | none => rfl
  | some b => rw [e] at q; exact absurd q (zsk_ne (c := b) (by have := i_kb hI _ _ e; omega))
theorem i_h2 (hI : zInv N F G K Z M A l R) (hH : zHK M K H) {j : Nat} (hj : j < M) (q : ¬ H j = -1) : ¬ K j = none := by
  rw [hH j hj] at q
  intro e
  rw [e] at q
  exact q rfl
theorem i_h3 (hI : zInv N F G K Z M A l R) (hH : zHK M K H) {j w : Nat} (hj : j < M) (hw : w < M) (q : H j = nI w) : K j = some w := by
  have := i_m hI
  rw [hH j hj] at q
  exact (zsk_inj (fun c e => i_kb hI _ _ e) (fun c e => by cases e; omega)).mp (show zsk (K j) = zsk (some w) from q)
theorem i_h4 (hI : zInv N F G K Z M A l R) (hH : zHK M K H) {j w : Nat} (hj : j < M) (q : ¬ H j = nI w) : ¬ K j = some w := by
  intro e
  rw [hH j hj, e] at q
  exact q rfl
theorem i_n1 {k : Nat} (hk : k ≤ 64) (q : ¬ nI k ≤ 0) : ¬ k = 0 := by
  rintro rfl; exact q (by decide)
theorem i_n2 {k : Nat} (hk : k ≤ 64) (q : nI k ≤ 0) : k = 0 := (nI_leI (a := k) (b := 0) (by omega) (by omega)).mp q |> Nat.le_zero.mp
theorem i_z1 {z : Int64} (hz : 0 ≤ z) (q : z ≤ 0) : z = 0 := Int64.le_antisymm q hz
theorem i_z2 {z : Int64} (q : ¬ z ≤ 0) : ¬ z = 0 := fun e => q (by rw [e]; exact Int64.le_refl _)
theorem d_move_no {a p : Int32} (h75 : hc.length = 75) (hM : N 1 = nI M) (hno : ¬ (0 ≤ a ∧ a ≤ nI M - 1)) : zMe sL sx 11 79 [.ref 75, .int a, .int p] (hc ++ (zMd N F G H Z c B ++ t)) (.returned none) (hc ++ (zMd N F G H Z 1 B ++ t)) := by
  rw [← hM] at hno
  show zR sL sx _ 79 0 [.ref 75, .int a, .int p, .retAddr 0] [] _ _ _
  refine zR_s rfl ?_
  refine zR_s rfl ?_
  refine zR_s rfl ?_
  refine zR_call rfl rfl rfl rfl (zcallok_v (zm0 h75) rfl rfl) (m_isUnit h75) ?_
  first | refine zR_dt rfl rfl (fun c1 => absurd (by assumption) hno) (fun c1 => ?_) | refine zR_bt rfl rfl (fun c1 => absurd (by assumption) hno) (fun c1 => ?_) | refine zR_ifne rfl rfl (fun c1 => absurd (by assumption) hno) (fun c1 => ?_)
  refine zR_cst (v := 1) rfl rfl rfl ?_
  refine zR_s rfl ?_
  refine zR_putC rfl rfl h75 rfl ?_
  refine zR_s rfl ?_
  refine zR_get rfl rfl (zm0 h75) rfl ?_
  refine zR_ifne rfl rfl (fun _ => ?_) (fun c => absurd c (by decide))
  refine zR_s rfl ?_
  refine zR_get rfl rfl (zm0 h75) rfl ?_
  refine zR_ifne rfl rfl (fun _ => ?_) (fun c => absurd c (by decide))
  refine zR_s rfl ?_
  refine zR_get rfl rfl (zm0 h75) rfl ?_
  refine zR_ifle rfl rfl (fun c => absurd c (by decide)) (fun _ => ?_)
  refine zR_rete rfl rfl ?_ ?_
  all_goals (rfl)
theorem d_out_no {a : Int32} (h75 : hc.length = 75) (hM : N 1 = nI M) (hno : ¬ (0 ≤ a ∧ a ≤ nI M - 1)) : zMe sL sx 11 82 [.ref 75, .int a] (hc ++ (zMd N F G H Z c B ++ t)) (.returned none) (hc ++ (zMd N F G H Z 1 B ++ t)) := by
  rw [← hM] at hno
  show zR sL sx _ 82 0 [.ref 75, .int a] [] _ _ _
  refine zR_s rfl ?_
  refine zR_s rfl ?_
  refine zR_s rfl ?_
  refine zR_call rfl rfl rfl rfl (zcallok_v (zm0 h75) rfl rfl) (m_isUnit h75) ?_
  first | refine zR_dt rfl rfl (fun c1 => absurd (by assumption) hno) (fun c1 => ?_) | refine zR_bt rfl rfl (fun c1 => absurd (by assumption) hno) (fun c1 => ?_) | refine zR_ifne rfl rfl (fun c1 => absurd (by assumption) hno) (fun c1 => ?_)
  refine zR_cst (v := 1) rfl rfl rfl ?_
  refine zR_s rfl ?_
  refine zR_putC rfl rfl h75 rfl ?_
  refine zR_s rfl ?_
  refine zR_get rfl rfl (zm0 h75) rfl ?_
  refine zR_ifne rfl rfl (fun _ => ?_) (fun c => absurd c (by decide))
  refine zR_s rfl ?_
  refine zR_get rfl rfl (zm0 h75) rfl ?_
  refine zR_ifle rfl rfl (fun c => absurd c (by decide)) (fun _ => ?_)
  refine zR_rete rfl rfl ?_ ?_
  all_goals (rfl)
theorem d_split_no {a p : Int32} (h75 : hc.length = 75) (hM : N 1 = nI M) (hno : ¬ (0 ≤ a ∧ a ≤ nI M - 1)) : zMe sL sx 11 83 [.ref 75, .int a, .int p] (hc ++ (zMd N F G H Z c B ++ t)) (.returned (some (.int 0))) (hc ++ (zMd N F G H Z 1 B ++ t)) := by
  rw [← hM] at hno
  show zR sL sx _ 83 0 [.ref 75, .int a, .int p] [] _ _ _
  refine zR_s rfl ?_
  refine zR_s rfl ?_
  refine zR_s rfl ?_
  refine zR_call rfl rfl rfl rfl (zcallok_v (zm0 h75) rfl rfl) (m_isUnit h75) ?_
  first | refine zR_dt rfl rfl (fun c1 => absurd (by assumption) hno) (fun c1 => ?_) | refine zR_bt rfl rfl (fun c1 => absurd (by assumption) hno) (fun c1 => ?_) | refine zR_ifne rfl rfl (fun c1 => absurd (by assumption) hno) (fun c1 => ?_)
  refine zR_cst (v := 1) rfl rfl rfl ?_
  refine zR_s rfl ?_
  refine zR_putC rfl rfl h75 rfl ?_
  refine zR_s rfl ?_
  refine zR_get rfl rfl (zm0 h75) rfl ?_
  refine zR_ifne rfl rfl (fun _ => ?_) (fun c => absurd c (by decide))
  refine zR_s rfl ?_
  refine zR_get rfl rfl (zm0 h75) rfl ?_
  refine zR_ifne rfl rfl (fun _ => ?_) (fun c => absurd c (by decide))
  refine zR_s rfl ?_
  refine zR_get rfl rfl (zm0 h75) rfl ?_
  refine zR_ifne rfl rfl (fun _ => ?_) (fun c => absurd c (by decide))
  refine zR_s rfl ?_
  refine zR_get rfl rfl (zm0 h75) rfl ?_
  refine zR_ifle rfl rfl (fun c => absurd c (by decide)) (fun _ => ?_)
  refine zR_cst (v := 0) rfl rfl rfl ?_
  first | refine zR_rete rfl rfl ?_ ?_ | refine zR_retb rfl rfl ?_ ?_
  all_goals (rfl)
theorem d_state_no {a p : Int32} (h75 : hc.length = 75) (hM : N 1 = nI M) (hno : ¬ (0 ≤ a ∧ a ≤ nI M - 1)) : zMe sL sx 11 88 [.ref 75, .int a, .int p] (hc ++ (zMd N F G H Z c B ++ t)) (.returned none) (hc ++ (zMd N F G H Z 1 B ++ t)) := by
  rw [← hM] at hno
  show zR sL sx _ 88 0 [.ref 75, .int a, .int p] [] _ _ _
  refine zR_s rfl ?_
  refine zR_s rfl ?_
  refine zR_s rfl ?_
  refine zR_call rfl rfl rfl rfl (zcallok_v (zm0 h75) rfl rfl) (m_isUnit h75) ?_
  first | refine zR_dt rfl rfl (fun c1 => absurd (by assumption) hno) (fun c1 => ?_) | refine zR_bt rfl rfl (fun c1 => absurd (by assumption) hno) (fun c1 => ?_) | refine zR_ifne rfl rfl (fun c1 => absurd (by assumption) hno) (fun c1 => ?_)
  refine zR_cst (v := 1) rfl rfl rfl ?_
  refine zR_s rfl ?_
  refine zR_putC rfl rfl h75 rfl ?_
  refine zR_s rfl ?_
  refine zR_get rfl rfl (zm0 h75) rfl ?_
  refine zR_ifne rfl rfl (fun _ => ?_) (fun c => absurd c (by decide))
  refine zR_s rfl ?_
  refine zR_get rfl rfl (zm0 h75) rfl ?_
  refine zR_ifle rfl rfl (fun c => absurd c (by decide)) (fun _ => ?_)
  refine zR_rete rfl rfl ?_ ?_
  all_goals (rfl)
theorem d_lost_no {a p : Int32} (h75 : hc.length = 75) (hM : N 1 = nI M) (hno : ¬ (0 ≤ a ∧ a ≤ nI M - 1)) : zMe sL sx 11 90 [.ref 75, .int a, .int p] (hc ++ (zMd N F G H Z c B ++ t)) (.returned none) (hc ++ (zMd N F G H Z 1 B ++ t)) := by
  rw [← hM] at hno
  show zR sL sx _ 90 0 [.ref 75, .int a, .int p] [] _ _ _
  refine zR_s rfl ?_
  refine zR_s rfl ?_
  refine zR_s rfl ?_
  refine zR_call rfl rfl rfl rfl (zcallok_v (zm0 h75) rfl rfl) (m_isUnit h75) ?_
  first | refine zR_dt rfl rfl (fun c1 => absurd (by assumption) hno) (fun c1 => ?_) | refine zR_bt rfl rfl (fun c1 => absurd (by assumption) hno) (fun c1 => ?_) | refine zR_ifne rfl rfl (fun c1 => absurd (by assumption) hno) (fun c1 => ?_)
  refine zR_cst (v := 1) rfl rfl rfl ?_
  refine zR_s rfl ?_
  refine zR_putC rfl rfl h75 rfl ?_
  refine zR_s rfl ?_
  refine zR_get rfl rfl (zm0 h75) rfl ?_
  refine zR_ifne rfl rfl (fun _ => ?_) (fun c => absurd c (by decide))
  refine zR_s rfl ?_
  refine zR_get rfl rfl (zm0 h75) rfl ?_
  refine zR_ifle rfl rfl (fun c => absurd c (by decide)) (fun _ => ?_)
  refine zR_rete rfl rfl ?_ ?_
  all_goals (rfl)
theorem d_found_no {a p : Int32} (h75 : hc.length = 75) (hM : N 1 = nI M) (hno : ¬ (0 ≤ a ∧ a ≤ nI M - 1)) : zMe sL sx 11 91 [.ref 75, .int a, .int p] (hc ++ (zMd N F G H Z c B ++ t)) (.returned none) (hc ++ (zMd N F G H Z 1 B ++ t)) := by
  rw [← hM] at hno
  show zR sL sx _ 91 0 [.ref 75, .int a, .int p] [] _ _ _
  refine zR_s rfl ?_
  refine zR_s rfl ?_
  refine zR_s rfl ?_
  refine zR_call rfl rfl rfl rfl (zcallok_v (zm0 h75) rfl rfl) (m_isUnit h75) ?_
  first | refine zR_dt rfl rfl (fun c1 => absurd (by assumption) hno) (fun c1 => ?_) | refine zR_bt rfl rfl (fun c1 => absurd (by assumption) hno) (fun c1 => ?_) | refine zR_ifne rfl rfl (fun c1 => absurd (by assumption) hno) (fun c1 => ?_)
  refine zR_cst (v := 1) rfl rfl rfl ?_
  refine zR_s rfl ?_
  refine zR_putC rfl rfl h75 rfl ?_
  refine zR_s rfl ?_
  refine zR_get rfl rfl (zm0 h75) rfl ?_
  refine zR_ifne rfl rfl (fun _ => ?_) (fun c => absurd c (by decide))
  refine zR_s rfl ?_
  refine zR_get rfl rfl (zm0 h75) rfl ?_
  refine zR_ifle rfl rfl (fun c => absurd c (by decide)) (fun _ => ?_)
  refine zR_rete rfl rfl ?_ ?_
  all_goals (rfl)
theorem d_weigh_no {a p : Int32} (h75 : hc.length = 75) (hM : N 1 = nI M) (hno : ¬ (0 ≤ a ∧ a ≤ nI M - 1)) : zMe sL sx 11 92 [.ref 75, .int a, .int p] (hc ++ (zMd N F G H Z c B ++ t)) (.returned (some (.int 0))) (hc ++ (zMd N F G H Z 1 B ++ t)) := by
  rw [← hM] at hno
  show zR sL sx _ 92 0 [.ref 75, .int a, .int p] [] _ _ _
  refine zR_s rfl ?_
  refine zR_s rfl ?_
  refine zR_s rfl ?_
  refine zR_call rfl rfl rfl rfl (zcallok_v (zm0 h75) rfl rfl) (m_isUnit h75) ?_
  first | refine zR_dt rfl rfl (fun c1 => absurd (by assumption) hno) (fun c1 => ?_) | refine zR_bt rfl rfl (fun c1 => absurd (by assumption) hno) (fun c1 => ?_) | refine zR_ifne rfl rfl (fun c1 => absurd (by assumption) hno) (fun c1 => ?_)
  refine zR_cst (v := 1) rfl rfl rfl ?_
  refine zR_s rfl ?_
  refine zR_putC rfl rfl h75 rfl ?_
  refine zR_s rfl ?_
  refine zR_get rfl rfl (zm0 h75) rfl ?_
  refine zR_ifne rfl rfl (fun _ => ?_) (fun c => absurd c (by decide))
  refine zR_s rfl ?_
  refine zR_get rfl rfl (zm0 h75) rfl ?_
  refine zR_ifle rfl rfl (fun c => absurd c (by decide)) (fun _ => ?_)
  refine zR_cst (v := 0) rfl rfl rfl ?_
  first | refine zR_rete rfl rfl ?_ ?_ | refine zR_retb rfl rfl ?_ ?_
  all_goals (rfl)
theorem d_told_no {a p : Int32} (h75 : hc.length = 75) (hM : N 1 = nI M) (hno : ¬ (0 ≤ a ∧ a ≤ nI M - 1)) : zMe sL sx 11 98 [.ref 75, .int a, .int p] (hc ++ (zMd N F G H Z c B ++ t)) (.returned (some (.int 0))) (hc ++ (zMd N F G H Z 1 B ++ t)) := by
  rw [← hM] at hno
  show zR sL sx _ 98 0 [.ref 75, .int a, .int p] [] _ _ _
  refine zR_s rfl ?_
  refine zR_s rfl ?_
  refine zR_s rfl ?_
  refine zR_call rfl rfl rfl rfl (zcallok_v (zm0 h75) rfl rfl) (m_isUnit h75) ?_
  first | refine zR_dt rfl rfl (fun c1 => absurd (by assumption) hno) (fun c1 => ?_) | refine zR_bt rfl rfl (fun c1 => absurd (by assumption) hno) (fun c1 => ?_) | refine zR_ifne rfl rfl (fun c1 => absurd (by assumption) hno) (fun c1 => ?_)
  refine zR_cst (v := 1) rfl rfl rfl ?_
  refine zR_s rfl ?_
  refine zR_putC rfl rfl h75 rfl ?_
  refine zR_s rfl ?_
  refine zR_get rfl rfl (zm0 h75) rfl ?_
  refine zR_ifle rfl rfl (fun c => absurd c (by decide)) (fun _ => ?_)
  refine zR_cst (v := 0) rfl rfl rfl ?_
  first | refine zR_rete rfl rfl ?_ ?_ | refine zR_retb rfl rfl ?_ ?_
  all_goals (rfl)
theorem d_into_no {a p : Int32} (h75 : hc.length = 75) (hM : N 1 = nI M) (hno : ¬ (0 ≤ a ∧ a ≤ nI M - 1)) : zMe sL sx 11 81 [.ref 75, .int a, .int p] (hc ++ (zMd N F G H Z c B ++ t)) (.returned none) (hc ++ (zMd N F G H Z 1 B ++ t)) := by
  rw [← hM] at hno
  show zR sL sx _ 81 0 [.ref 75, .int a, .int p] [] _ _ _
  refine zR_s rfl ?_
  refine zR_s rfl ?_
  refine zR_s rfl ?_
  refine zR_call rfl rfl rfl rfl (zcallok_v (zm0 h75) rfl rfl) (m_isUnit h75) ?_
  first | refine zR_df rfl rfl (fun c1 => ?_) (fun c1 => absurd (by assumption) hno) | refine zR_bf rfl rfl (fun c1 => ?_) (fun c1 => absurd (by assumption) hno) | refine zR_ifeq rfl rfl (fun c1 => ?_) (fun c1 => absurd (by assumption) hno)
  refine zR_cst (v := 1) rfl rfl rfl ?_
  refine zR_s rfl ?_
  refine zR_putC rfl rfl h75 rfl ?_
  refine zR_s rfl ?_
  refine zR_get rfl rfl (zm0 h75) rfl ?_
  refine zR_ifne rfl rfl (fun _ => ?_) (fun c => absurd c (by decide))
  refine zR_s rfl ?_
  refine zR_get rfl rfl (zm0 h75) rfl ?_
  refine zR_ifne rfl rfl (fun _ => ?_) (fun c => absurd c (by decide))
  refine zR_s rfl ?_
  refine zR_get rfl rfl (zm0 h75) rfl ?_
  refine zR_ifne rfl rfl (fun _ => ?_) (fun c => absurd c (by decide))
  refine zR_s rfl ?_
  refine zR_get rfl rfl (zm0 h75) rfl ?_
  refine zR_ifle rfl rfl (fun c => absurd c (by decide)) (fun _ => ?_)
  refine zR_rete rfl rfl ?_ ?_
  all_goals (rfl)
theorem d_join_no {a p : Int32} (h75 : hc.length = 75) (hM : N 1 = nI M) (hno : ¬ (0 ≤ a ∧ a ≤ nI M - 1)) : zMe sL sx 11 85 [.ref 75, .int a, .int p] (hc ++ (zMd N F G H Z c B ++ t)) (.returned none) (hc ++ (zMd N F G H Z 1 B ++ t)) := by
  rw [← hM] at hno
  show zR sL sx _ 85 0 [.ref 75, .int a, .int p] [] _ _ _
  refine zR_s rfl ?_
  refine zR_s rfl ?_
  refine zR_s rfl ?_
  refine zR_call rfl rfl rfl rfl (zcallok_v (zm0 h75) rfl rfl) (m_isUnit h75) ?_
  first | refine zR_df rfl rfl (fun c1 => ?_) (fun c1 => absurd (by assumption) hno) | refine zR_bf rfl rfl (fun c1 => ?_) (fun c1 => absurd (by assumption) hno) | refine zR_ifeq rfl rfl (fun c1 => ?_) (fun c1 => absurd (by assumption) hno)
  refine zR_cst (v := 1) rfl rfl rfl ?_
  refine zR_s rfl ?_
  refine zR_putC rfl rfl h75 rfl ?_
  refine zR_s rfl ?_
  refine zR_get rfl rfl (zm0 h75) rfl ?_
  refine zR_ifne rfl rfl (fun _ => ?_) (fun c => absurd c (by decide))
  refine zR_s rfl ?_
  refine zR_get rfl rfl (zm0 h75) rfl ?_
  refine zR_ifne rfl rfl (fun _ => ?_) (fun c => absurd c (by decide))
  refine zR_s rfl ?_
  refine zR_get rfl rfl (zm0 h75) rfl ?_
  refine zR_ifne rfl rfl (fun _ => ?_) (fun c => absurd c (by decide))
  refine zR_s rfl ?_
  refine zR_get rfl rfl (zm0 h75) rfl ?_
  refine zR_ifle rfl rfl (fun c => absurd c (by decide)) (fun _ => ?_)
  refine zR_rete rfl rfl ?_ ?_
  all_goals (rfl)
theorem d_packed_no {a : Int32} (h75 : hc.length = 75) (hM : N 1 = nI M) (hno : ¬ (0 ≤ a ∧ a ≤ nI M - 1)) : zMe sL sx 11 99 [.ref 75, .int a] (hc ++ (zMd N F G H Z c B ++ t)) (.returned (some (.long 0))) (hc ++ (zMd N F G H Z 1 B ++ t)) := by
  rw [← hM] at hno
  show zR sL sx _ 99 0 [.ref 75, .int a] [] _ _ _
  refine zR_s rfl ?_
  refine zR_s rfl ?_
  refine zR_s rfl ?_
  refine zR_call rfl rfl rfl rfl (zcallok_v (zm0 h75) rfl rfl) (m_isUnit h75) ?_
  first | refine zR_df rfl rfl (fun c1 => ?_) (fun c1 => absurd (by assumption) hno) | refine zR_bf rfl rfl (fun c1 => ?_) (fun c1 => absurd (by assumption) hno) | refine zR_ifeq rfl rfl (fun c1 => ?_) (fun c1 => absurd (by assumption) hno)
  refine zR_cst (v := 1) rfl rfl rfl ?_
  refine zR_putC rfl rfl h75 rfl ?_
  refine zR_s rfl ?_
  refine zR_get rfl rfl (zm0 h75) rfl ?_
  refine zR_ifle rfl rfl (fun c => absurd c (by decide)) (fun _ => ?_)
  refine zR_lc (v := 0) rfl rfl ?_
  refine zR_rete rfl rfl ?_ ?_
  all_goals (rfl)
theorem d_row_no {a p w : Int32} (h75 : hc.length = 75) (hM : N 1 = nI M) (hno : ¬ (0 ≤ a ∧ a ≤ nI M - 1)) : zMe sL sx 11 97 [.ref 75, .int a, .int p, .int w] (hc ++ (zMd N F G H Z c B ++ t)) (.returned (some (.int 0))) (hc ++ (zMd N F G H Z 1 B ++ t)) := by
  rw [← hM] at hno
  show zR sL sx _ 97 0 [.ref 75, .int a, .int p, .int w, .retAddr 0, .retAddr 0, .retAddr 0] [] _ _ _
  refine zR_cst (v := (-1)) rfl rfl rfl ?_
  refine zR_s rfl ?_
  refine zR_s rfl ?_
  refine zR_s rfl ?_
  refine zR_cst (v := 0) rfl rfl rfl ?_
  refine zR_s rfl ?_
  refine zR_s rfl ?_
  refine zR_s rfl ?_
  refine zR_get rfl rfl (zm0 h75) rfl ?_
  refine zR_icge rfl rfl (fun c1 => ?_) (fun c1 => ?_)
  · refine zR_s rfl ?_
    refine zR_s rfl ?_
    refine zR_cst (v := (-1)) rfl rfl rfl ?_
    refine zR_icne rfl rfl (fun c => absurd c (by decide)) (fun _ => ?_)
    refine zR_cst (v := 1) rfl rfl rfl ?_
    refine zR_s rfl ?_
    refine zR_putC rfl rfl h75 rfl ?_
    refine zR_s rfl ?_
    refine zR_get rfl rfl (zm0 h75) rfl ?_
    refine zR_ifle rfl rfl (fun c => absurd c (by decide)) (fun _ => ?_)
    refine zR_cst (v := 0) rfl rfl rfl ?_
    first | refine zR_rete rfl rfl ?_ ?_ | refine zR_retb rfl rfl ?_ ?_
    all_goals (rfl)
  · refine zR_s rfl ?_
    refine zR_s rfl ?_
    refine zR_call rfl rfl rfl rfl (zcallok_v (zm0 h75) rfl rfl) (m_isUnit h75) ?_
    first | refine zR_df rfl rfl (fun c2 => ?_) (fun c2 => absurd (by assumption) hno) | refine zR_bf rfl rfl (fun c2 => ?_) (fun c2 => absurd (by assumption) hno) | refine zR_ifeq rfl rfl (fun c2 => ?_) (fun c2 => absurd (by assumption) hno)
    refine zR_s rfl ?_
    refine zR_s rfl ?_
    refine zR_cst (v := (-1)) rfl rfl rfl ?_
    refine zR_icne rfl rfl (fun c => absurd c (by decide)) (fun _ => ?_)
    refine zR_cst (v := 1) rfl rfl rfl ?_
    refine zR_s rfl ?_
    refine zR_putC rfl rfl h75 rfl ?_
    refine zR_s rfl ?_
    refine zR_get rfl rfl (zm0 h75) rfl ?_
    refine zR_ifle rfl rfl (fun c => absurd c (by decide)) (fun _ => ?_)
    refine zR_cst (v := 0) rfl rfl rfl ?_
    first | refine zR_rete rfl rfl ?_ ?_ | refine zR_retb rfl rfl ?_ ?_
    all_goals (rfl)
theorem d_into_no2 {j : Nat} {a : Int32} (h75 : hc.length = 75) (hI : zInv N F G K Z M A l R) (hj : j < M) (hno : ¬ (0 ≤ a ∧ a ≤ nI M - 1)) : zMe sL sx 11 81 [.ref 75, .int (nI j), .int a] (hc ++ (zMd N F G H Z c B ++ t)) (.returned none) (hc ++ (zMd N F G H Z 1 B ++ t)) := by
  rw [← i_m1 hI] at hno
  show zR sL sx _ 81 0 [.ref 75, .int (nI j), .int a] [] _ _ _
  refine zR_s rfl ?_
  refine zR_s rfl ?_
  refine zR_s rfl ?_
  refine zR_call rfl rfl rfl rfl (zcallok_v (zm0 h75) rfl rfl) (m_isUnit h75) ?_
  first | refine zR_df rfl rfl (fun c1 => absurd (i_v hI hj) c1) (fun c1 => ?_) | refine zR_bf rfl rfl (fun c1 => absurd (i_v hI hj) c1) (fun c1 => ?_) | refine zR_ifeq rfl rfl (fun c1 => absurd (i_v hI hj) c1) (fun c1 => ?_)
  refine zR_s rfl ?_
  refine zR_s rfl ?_
  refine zR_call rfl rfl rfl rfl (zcallok_v (zm0 h75) rfl rfl) (m_isUnit h75) ?_
  first | refine zR_dt rfl rfl (fun c2 => absurd c2 hno) (fun c2 => ?_) | refine zR_bt rfl rfl (fun c2 => absurd c2 hno) (fun c2 => ?_) | refine zR_ifne rfl rfl (fun c2 => absurd c2 hno) (fun c2 => ?_)
  refine zR_cst (v := 1) rfl rfl rfl ?_
  refine zR_s rfl ?_
  refine zR_putC rfl rfl h75 rfl ?_
  refine zR_s rfl ?_
  refine zR_get rfl rfl (zm0 h75) rfl ?_
  refine zR_ifne rfl rfl (fun _ => ?_) (fun c => absurd c (by decide))
  refine zR_s rfl ?_
  refine zR_get rfl rfl (zm0 h75) rfl ?_
  refine zR_ifne rfl rfl (fun _ => ?_) (fun c => absurd c (by decide))
  refine zR_s rfl ?_
  refine zR_get rfl rfl (zm0 h75) rfl ?_
  refine zR_ifne rfl rfl (fun _ => ?_) (fun c => absurd c (by decide))
  refine zR_s rfl ?_
  refine zR_get rfl rfl (zm0 h75) rfl ?_
  refine zR_ifle rfl rfl (fun c => absurd c (by decide)) (fun _ => ?_)
  refine zR_rete rfl rfl ?_ ?_
  all_goals (rfl)
theorem d_join_no2 {j : Nat} {a : Int32} (h75 : hc.length = 75) (hI : zInv N F G K Z M A l R) (hj : j < M) (hno : ¬ (0 ≤ a ∧ a ≤ nI M - 1)) : zMe sL sx 11 85 [.ref 75, .int (nI j), .int a] (hc ++ (zMd N F G H Z c B ++ t)) (.returned none) (hc ++ (zMd N F G H Z 1 B ++ t)) := by
  rw [← i_m1 hI] at hno
  show zR sL sx _ 85 0 [.ref 75, .int (nI j), .int a] [] _ _ _
  refine zR_s rfl ?_
  refine zR_s rfl ?_
  refine zR_s rfl ?_
  refine zR_call rfl rfl rfl rfl (zcallok_v (zm0 h75) rfl rfl) (m_isUnit h75) ?_
  first | refine zR_df rfl rfl (fun c1 => absurd (i_v hI hj) c1) (fun c1 => ?_) | refine zR_bf rfl rfl (fun c1 => absurd (i_v hI hj) c1) (fun c1 => ?_) | refine zR_ifeq rfl rfl (fun c1 => absurd (i_v hI hj) c1) (fun c1 => ?_)
  refine zR_s rfl ?_
  refine zR_s rfl ?_
  refine zR_call rfl rfl rfl rfl (zcallok_v (zm0 h75) rfl rfl) (m_isUnit h75) ?_
  first | refine zR_dt rfl rfl (fun c2 => absurd c2 hno) (fun c2 => ?_) | refine zR_bt rfl rfl (fun c2 => absurd c2 hno) (fun c2 => ?_) | refine zR_ifne rfl rfl (fun c2 => absurd c2 hno) (fun c2 => ?_)
  refine zR_cst (v := 1) rfl rfl rfl ?_
  refine zR_s rfl ?_
  refine zR_putC rfl rfl h75 rfl ?_
  refine zR_s rfl ?_
  refine zR_get rfl rfl (zm0 h75) rfl ?_
  refine zR_ifne rfl rfl (fun _ => ?_) (fun c => absurd c (by decide))
  refine zR_s rfl ?_
  refine zR_get rfl rfl (zm0 h75) rfl ?_
  refine zR_ifne rfl rfl (fun _ => ?_) (fun c => absurd c (by decide))
  refine zR_s rfl ?_
  refine zR_get rfl rfl (zm0 h75) rfl ?_
  refine zR_ifne rfl rfl (fun _ => ?_) (fun c => absurd c (by decide))
  refine zR_s rfl ?_
  refine zR_get rfl rfl (zm0 h75) rfl ?_
  refine zR_ifle rfl rfl (fun c => absurd c (by decide)) (fun _ => ?_)
  refine zR_rete rfl rfl ?_ ?_
  all_goals (rfl)
theorem d_unit_no {a p w n : Int32} (h75 : hc.length = 75) (hl : N 0 = nI l) (hno : ¬ (0 ≤ a ∧ a ≤ nI l - 1)) : zMe sL sx 11 75 [.ref 75, .int a, .int p, .int w, .int n] (hc ++ (zMd N F G H Z c B ++ t)) (.returned (some (.int 0))) (hc ++ (zMd N F G H Z 1 B ++ t)) := by
  rw [← hl] at hno
  show zR sL sx _ 75 0 [.ref 75, .int a, .int p, .int w, .int n] [] _ _ _
  refine zR_s rfl ?_
  refine zR_s rfl ?_
  refine zR_s rfl ?_
  refine zR_lc (v := 0) rfl rfl ?_
  refine zR_s rfl ?_
  refine zR_get rfl rfl (zm0 h75) rfl ?_
  refine zR_cst (v := 1) rfl rfl rfl ?_
  refine zR_isub rfl ?_
  refine zR_s rfl ?_
  refine zR_call rfl rfl rfl rfl (zcallok_s rfl) (m_in (b := 0) ) ?_
  first | refine zR_dt rfl rfl (fun c1 => absurd c1 hno) (fun c1 => ?_) | refine zR_bt rfl rfl (fun c1 => absurd c1 hno) (fun c1 => ?_) | refine zR_ifne rfl rfl (fun c1 => absurd c1 hno) (fun c1 => ?_)
  refine zR_cst (v := 1) rfl rfl rfl ?_
  refine zR_s rfl ?_
  refine zR_putC rfl rfl h75 rfl ?_
  refine zR_s rfl ?_
  refine zR_get rfl rfl (zm0 h75) rfl ?_
  refine zR_ifne rfl rfl (fun _ => ?_) (fun c => absurd c (by decide))
  refine zR_s rfl ?_
  refine zR_get rfl rfl (zm0 h75) rfl ?_
  refine zR_ifle rfl rfl (fun c => absurd c (by decide)) (fun _ => ?_)
  refine zR_cst (v := 0) rfl rfl rfl ?_
  refine zR_s rfl ?_
  first | refine zR_rete rfl rfl ?_ ?_ | refine zR_retb rfl rfl ?_ ?_
  all_goals (rfl)
theorem zG_unit {a f g p w n x : Int32} : ∀ i j, zcolok j = true → updG (updG (updG (updG (updG (updG (updG G M 0 a) M 1 f) M 2 g) M 3 w) M 4 n) M 5 x) M 6 p i j = updG (updG (updG (updG (updG G M 0 a) M 6 p) M 3 w) M 4 n) M 5 x i j := by
  intro i j hj
  by_cases e : i = M
  · subst e
    rcases zcolc hj with rfl | rfl | rfl | rfl | rfl <;> simp [updG, upd]
  · simp [updG, e]
theorem d_unit {a : Nat} {p w n : Int32} (h75 : hc.length = 75) (hI : zInv N F G K Z M A l R) (hH : zHK M K H) (ha : a < l) : zMe sL sx 11 75 [.ref 75, .int (nI a), .int p, .int w, .int n] (hc ++ (zMd N F G H Z c B ++ t)) (zOm (some (.int 0)) (q_unit N F G K Z M A a p w n)) (zHm kfU hc t N F G H Z B (upd H M (-1)) B (q_unit N F G K Z M A a p w n)) := by
  have hl := hI.1
  have hA := hI.2.2.1
  have h1 : 0 ≤ nI a ∧ nI a ≤ N 0 - 1 := by
    refine ⟨nI_pos' (by omega), ?_⟩
    obtain ⟨A', rfl⟩ : ∃ A', l = A' + 1 := ⟨l - 1, by omega⟩
    rw [hl.1, nI_pred]
    exact nI_le (by omega) (by omega)
  show zR sL sx _ 75 0 [.ref 75, .int (nI a), .int p, .int w, .int n] [] _ _ _
  refine zR_s rfl ?_
  refine zR_s rfl ?_
  refine zR_s rfl ?_
  refine zR_lc (v := 0) rfl rfl ?_
  refine zR_s rfl ?_
  refine zR_get rfl rfl (zm0 h75) rfl ?_
  refine zR_cst (v := 1) rfl rfl rfl ?_
  refine zR_isub rfl ?_
  refine zR_s rfl ?_
  refine zR_call rfl rfl rfl rfl (zcallok_s rfl) (m_in (b := 0) ) ?_
  first | refine zR_dt rfl rfl (fun c1 => ?_) (fun c1 => absurd h1 c1) | refine zR_bt rfl rfl (fun c1 => ?_) (fun c1 => absurd h1 c1) | refine zR_ifne rfl rfl (fun c1 => ?_) (fun c1 => absurd h1 c1)
  refine zR_s rfl ?_
  refine zR_s rfl ?_
  refine zR_lc (v := 0) rfl rfl ?_
  refine zR_ldc2 (v := 15) rfl rfl ?_
  refine zR_call rfl rfl rfl rfl (zcallok_s rfl) (m_in (b := 0) (c := 15)) ?_
  first | refine zR_df rfl rfl (fun c2 => ?_) (fun c2 => ?_) | refine zR_bf rfl rfl (fun c2 => ?_) (fun c2 => ?_) | refine zR_ifeq rfl rfl (fun c2 => ?_) (fun c2 => ?_)
  · refine zR_cst (v := 2) rfl rfl rfl ?_
    refine zR_s rfl ?_
    refine zR_putC rfl rfl h75 rfl ?_
    refine zR_s rfl ?_
    refine zR_get rfl rfl (zm0 h75) rfl ?_
    refine zR_ifne rfl rfl (fun _ => ?_) (fun c => absurd c (by decide))
    try replace c2 := i_p2 hI (show p' < 16 by omega) c2
    refine zR_s rfl ?_
    refine zR_get rfl rfl (zm0 h75) rfl ?_
    refine zR_ifle rfl rfl (fun c => absurd c (by decide)) (fun _ => ?_)
    refine zR_cst (v := 0) rfl rfl rfl ?_
    refine zR_s rfl ?_
    first | refine zR_rete rfl rfl ?_ ?_ | refine zR_retb rfl rfl ?_ ?_
    all_goals (first | contradiction | (simp only [zOm, zHm, q_unit, kfU, ep, c1, c2, if_true, if_false, not_true_eq_false, not_false_eq_true, and_self, and_true, true_and, or_true, true_or, or_false, false_or, and_false, false_and, reduceCtorEq, Bool.false_eq_true, Bool.true_eq_false, ite_self, eq_self]; done) | (simp only [zOm, zHm, q_unit, kfU, c1, c2, if_true, if_false, not_true_eq_false, not_false_eq_true, and_self, and_true, true_and, or_true, true_or, or_false, false_or, and_false, false_and, reduceCtorEq, Bool.false_eq_true, Bool.true_eq_false, ite_self, eq_self]; done) | (simp only [zOm, zHm, q_unit, kfU, ep, c1, c2, if_true, if_false, not_true_eq_false, not_false_eq_true, and_self, and_true, true_and, or_true, true_or, or_false, false_or, and_false, false_and, reduceCtorEq, Bool.false_eq_true, Bool.true_eq_false, ite_self, eq_self]; exact zMd_app zG_unit))
  · obtain ⟨p', hp, rfl, ep⟩ := zpl (n := 15) rfl (by decide) c2
    refine zR_s rfl ?_
    refine zR_s rfl ?_
    refine zR_lc (v := 0) rfl rfl ?_
    refine zR_ldc2 (v := 7) rfl rfl ?_
    refine zR_call rfl rfl rfl rfl (zcallok_s rfl) (m_in (b := 0) (c := 7)) ?_
    first | refine zR_df rfl rfl (fun c3 => ?_) (fun c3 => ?_) | refine zR_bf rfl rfl (fun c3 => ?_) (fun c3 => ?_) | refine zR_ifeq rfl rfl (fun c3 => ?_) (fun c3 => ?_)
    · refine zR_cst (v := 2) rfl rfl rfl ?_
      refine zR_s rfl ?_
      refine zR_putC rfl rfl h75 rfl ?_
      refine zR_s rfl ?_
      refine zR_get rfl rfl (zm0 h75) rfl ?_
      refine zR_ifne rfl rfl (fun _ => ?_) (fun c => absurd c (by decide))
      try replace c3 := i_p2 hI (show p' < 16 by omega) c3
      refine zR_s rfl ?_
      refine zR_get rfl rfl (zm0 h75) rfl ?_
      refine zR_ifle rfl rfl (fun c => absurd c (by decide)) (fun _ => ?_)
      refine zR_cst (v := 0) rfl rfl rfl ?_
      refine zR_s rfl ?_
      first | refine zR_rete rfl rfl ?_ ?_ | refine zR_retb rfl rfl ?_ ?_
      all_goals (first | contradiction | (simp only [zOm, zHm, q_unit, kfU, ep, c1, c2, c3, if_true, if_false, not_true_eq_false, not_false_eq_true, and_self, and_true, true_and, or_true, true_or, or_false, false_or, and_false, false_and, reduceCtorEq, Bool.false_eq_true, Bool.true_eq_false, ite_self, eq_self]; done) | (simp only [zOm, zHm, q_unit, kfU, c1, c2, c3, if_true, if_false, not_true_eq_false, not_false_eq_true, and_self, and_true, true_and, or_true, true_or, or_false, false_or, and_false, false_and, reduceCtorEq, Bool.false_eq_true, Bool.true_eq_false, ite_self, eq_self]; done) | (simp only [zOm, zHm, q_unit, kfU, ep, c1, c2, c3, if_true, if_false, not_true_eq_false, not_false_eq_true, and_self, and_true, true_and, or_true, true_or, or_false, false_or, and_false, false_and, reduceCtorEq, Bool.false_eq_true, Bool.true_eq_false, ite_self, eq_self]; exact zMd_app zG_unit))
    · refine zR_s rfl ?_
      refine zR_s rfl ?_
      refine zR_lc (v := 1) rfl rfl ?_
      refine zR_ldc2 (v := 1000) rfl rfl ?_
      refine zR_call rfl rfl rfl rfl (zcallok_s rfl) (m_in (b := 1) (c := 1000)) ?_
      first | refine zR_dt rfl rfl (fun c4 => ?_) (fun c4 => ?_) | refine zR_bt rfl rfl (fun c4 => ?_) (fun c4 => ?_) | refine zR_ifne rfl rfl (fun c4 => ?_) (fun c4 => ?_)
      · refine zR_cst (v := 0) rfl rfl rfl ?_
        refine zR_putC rfl rfl h75 rfl ?_
        refine zR_s rfl ?_
        refine zR_get rfl rfl (zm0 h75) rfl ?_
        refine zR_ifne rfl rfl (fun c => absurd c (by decide)) (fun _ => ?_)
        refine zR_s rfl ?_
        refine zR_get rfl rfl (zm0 h75) rfl ?_
        refine zR_s rfl ?_
        refine zR_get rfl rfl (zm0 h75) rfl ?_
        refine zR_iceq rfl rfl (fun c5 => ?_) (fun c5 => ?_)
        · first | replace c5 := i_u1 hI c5 | replace c5 := i_r1 hI c5 | replace c5 := i_p1 hI (show p' < 16 by omega) c5
          refine zR_s rfl ?_
          refine zR_cst (v := 3) rfl rfl rfl ?_
          refine zR_putC rfl rfl h75 rfl ?_
          try replace c5 := i_p2 hI (show p' < 16 by omega) c5
          refine zR_s rfl ?_
          refine zR_get rfl rfl (zm0 h75) rfl ?_
          refine zR_ifle rfl rfl (fun c => absurd c (by decide)) (fun _ => ?_)
          refine zR_cst (v := 0) rfl rfl rfl ?_
          refine zR_s rfl ?_
          first | refine zR_rete rfl rfl ?_ ?_ | refine zR_retb rfl rfl ?_ ?_
          all_goals (first | contradiction | (simp only [zOm, zHm, q_unit, kfU, ep, c1, c2, c3, c4, c5, if_true, if_false, not_true_eq_false, not_false_eq_true, and_self, and_true, true_and, or_true, true_or, or_false, false_or, and_false, false_and, reduceCtorEq, Bool.false_eq_true, Bool.true_eq_false, ite_self, eq_self]; done) | (simp only [zOm, zHm, q_unit, kfU, c1, c2, c3, c4, c5, if_true, if_false, not_true_eq_false, not_false_eq_true, and_self, and_true, true_and, or_true, true_or, or_false, false_or, and_false, false_and, reduceCtorEq, Bool.false_eq_true, Bool.true_eq_false, ite_self, eq_self]; done) | (simp only [zOm, zHm, q_unit, kfU, ep, c1, c2, c3, c4, c5, if_true, if_false, not_true_eq_false, not_false_eq_true, and_self, and_true, true_and, or_true, true_or, or_false, false_or, and_false, false_and, reduceCtorEq, Bool.false_eq_true, Bool.true_eq_false, ite_self, eq_self]; exact zMd_app zG_unit))
        · replace c5 := i_u2 hI c5
          refine zR_s rfl ?_
          refine zR_get rfl rfl (zm0 h75) rfl ?_
          refine zR_cst (v := 400) rfl rfl rfl ?_
          refine zR_iceq rfl rfl (fun c6 => ?_) (fun c6 => ?_)
          · first | replace c6 := i_u1 hI c6 | replace c6 := i_r1 hI c6 | replace c6 := i_p1 hI (show p' < 16 by omega) c6
            refine zR_s rfl ?_
            refine zR_cst (v := 3) rfl rfl rfl ?_
            refine zR_putC rfl rfl h75 rfl ?_
            try replace c6 := i_p2 hI (show p' < 16 by omega) c6
            refine zR_s rfl ?_
            refine zR_get rfl rfl (zm0 h75) rfl ?_
            refine zR_ifle rfl rfl (fun c => absurd c (by decide)) (fun _ => ?_)
            refine zR_cst (v := 0) rfl rfl rfl ?_
            refine zR_s rfl ?_
            first | refine zR_rete rfl rfl ?_ ?_ | refine zR_retb rfl rfl ?_ ?_
            all_goals (first | contradiction | (simp only [zOm, zHm, q_unit, kfU, ep, c1, c2, c3, c4, c5, c6, if_true, if_false, not_true_eq_false, not_false_eq_true, and_self, and_true, true_and, or_true, true_or, or_false, false_or, and_false, false_and, reduceCtorEq, Bool.false_eq_true, Bool.true_eq_false, ite_self, eq_self]; done) | (simp only [zOm, zHm, q_unit, kfU, c1, c2, c3, c4, c5, c6, if_true, if_false, not_true_eq_false, not_false_eq_true, and_self, and_true, true_and, or_true, true_or, or_false, false_or, and_false, false_and, reduceCtorEq, Bool.false_eq_true, Bool.true_eq_false, ite_self, eq_self]; done) | (simp only [zOm, zHm, q_unit, kfU, ep, c1, c2, c3, c4, c5, c6, if_true, if_false, not_true_eq_false, not_false_eq_true, and_self, and_true, true_and, or_true, true_or, or_false, false_or, and_false, false_and, reduceCtorEq, Bool.false_eq_true, Bool.true_eq_false, ite_self, eq_self]; exact zMd_app zG_unit))
          · replace c6 := i_r2 hI c6
            refine zR_s rfl ?_
            refine zR_s rfl ?_
            refine zR_call rfl rfl rfl rfl (zcallok_v (zm0 h75) rfl rfl) (m_standingAt h75 (i_m1 hI) (i_m hI)) ?_
            rw [i_T hI (show p' < 16 by omega)]
            refine zR_s rfl ?_
            refine zR_get rfl rfl (zm0 h75) rfl ?_
            refine zR_s rfl ?_
            refine zR_ildMF 0 rfl h75 (by decide) ((show p' < 16 by omega)) ?_
            refine zR_icne rfl rfl (fun c7 => ?_) (fun c7 => ?_)
            · try replace c7 := i_p2 hI (show p' < 16 by omega) c7
              refine zR_s rfl ?_
              refine zR_get rfl rfl (zm0 h75) rfl ?_
              refine zR_ifle rfl rfl (fun _ => ?_) (fun c => absurd c (by decide))
              have hA5 := zroom1 hA.1 hA.2 c6
              refine zR_s rfl ?_
              refine zR_s rfl ?_
              refine zR_s rfl ?_
              refine zR_s rfl ?_
              refine zR_s rfl ?_
              refine zR_s rfl ?_
              refine zR_s rfl ?_
              refine zR_call rfl rfl rfl rfl (zcallok_v (zm0 h75) rfl rfl) (m_misOver h75 (show a < 16 by omega)) ?_
              first | refine zR_df rfl rfl (fun c8 => ?_) (fun c8 => ?_) | refine zR_bf rfl rfl (fun c8 => ?_) (fun c8 => ?_) | refine zR_ifeq rfl rfl (fun c8 => ?_) (fun c8 => ?_)
              · refine zR_cst (v := 0) rfl rfl rfl ?_
                refine zR_cst (v := (-1)) rfl rfl rfl ?_
                refine zR_call rfl rfl rfl rfl (zcallok_v (zm0 h75) rfl rfl) (m_make h75 (i_m1 hI) c5.2 hA.1 hA5) ?_
                first | refine zR_rete rfl rfl ?_ ?_ | refine zR_retb rfl rfl ?_ ?_
                all_goals (first | contradiction | (simp only [zOm, zHm, q_unit, kfU, ep, c1, c2, c3, c4, c5, c6, c7, c8, if_true, if_false, not_true_eq_false, not_false_eq_true, and_self, and_true, true_and, or_true, true_or, or_false, false_or, and_false, false_and, reduceCtorEq, Bool.false_eq_true, Bool.true_eq_false, ite_self, eq_self]; done) | (simp only [zOm, zHm, q_unit, kfU, c1, c2, c3, c4, c5, c6, c7, c8, if_true, if_false, not_true_eq_false, not_false_eq_true, and_self, and_true, true_and, or_true, true_or, or_false, false_or, and_false, false_and, reduceCtorEq, Bool.false_eq_true, Bool.true_eq_false, ite_self, eq_self]; done) | (simp only [zOm, zHm, q_unit, kfU, ep, c1, c2, c3, c4, c5, c6, c7, c8, if_true, if_false, not_true_eq_false, not_false_eq_true, and_self, and_true, true_and, or_true, true_or, or_false, false_or, and_false, false_and, reduceCtorEq, Bool.false_eq_true, Bool.true_eq_false, ite_self, eq_self]; exact zMd_app zG_unit))
              · refine zR_cst (v := 3) rfl rfl rfl ?_
                refine zR_s rfl ?_
                refine zR_cst (v := (-1)) rfl rfl rfl ?_
                refine zR_call rfl rfl rfl rfl (zcallok_v (zm0 h75) rfl rfl) (m_make h75 (i_m1 hI) c5.2 hA.1 hA5) ?_
                first | refine zR_rete rfl rfl ?_ ?_ | refine zR_retb rfl rfl ?_ ?_
                all_goals (first | contradiction | (simp only [zOm, zHm, q_unit, kfU, ep, c1, c2, c3, c4, c5, c6, c7, c8, if_true, if_false, not_true_eq_false, not_false_eq_true, and_self, and_true, true_and, or_true, true_or, or_false, false_or, and_false, false_and, reduceCtorEq, Bool.false_eq_true, Bool.true_eq_false, ite_self, eq_self]; done) | (simp only [zOm, zHm, q_unit, kfU, c1, c2, c3, c4, c5, c6, c7, c8, if_true, if_false, not_true_eq_false, not_false_eq_true, and_self, and_true, true_and, or_true, true_or, or_false, false_or, and_false, false_and, reduceCtorEq, Bool.false_eq_true, Bool.true_eq_false, ite_self, eq_self]; done) | (simp only [zOm, zHm, q_unit, kfU, ep, c1, c2, c3, c4, c5, c6, c7, c8, if_true, if_false, not_true_eq_false, not_false_eq_true, and_self, and_true, true_and, or_true, true_or, or_false, false_or, and_false, false_and, reduceCtorEq, Bool.false_eq_true, Bool.true_eq_false, ite_self, eq_self]; exact zMd_app zG_unit))
            · first | replace c7 := i_u1 hI c7 | replace c7 := i_r1 hI c7 | replace c7 := i_p1 hI (show p' < 16 by omega) c7
              refine zR_s rfl ?_
              refine zR_cst (v := 3) rfl rfl rfl ?_
              refine zR_putC rfl rfl h75 rfl ?_
              try replace c7 := i_p2 hI (show p' < 16 by omega) c7
              refine zR_s rfl ?_
              refine zR_get rfl rfl (zm0 h75) rfl ?_
              refine zR_ifle rfl rfl (fun c => absurd c (by decide)) (fun _ => ?_)
              refine zR_cst (v := 0) rfl rfl rfl ?_
              refine zR_s rfl ?_
              first | refine zR_rete rfl rfl ?_ ?_ | refine zR_retb rfl rfl ?_ ?_
              all_goals (first | contradiction | (simp only [zOm, zHm, q_unit, kfU, ep, c1, c2, c3, c4, c5, c6, c7, if_true, if_false, not_true_eq_false, not_false_eq_true, and_self, and_true, true_and, or_true, true_or, or_false, false_or, and_false, false_and, reduceCtorEq, Bool.false_eq_true, Bool.true_eq_false, ite_self, eq_self]; done) | (simp only [zOm, zHm, q_unit, kfU, c1, c2, c3, c4, c5, c6, c7, if_true, if_false, not_true_eq_false, not_false_eq_true, and_self, and_true, true_and, or_true, true_or, or_false, false_or, and_false, false_and, reduceCtorEq, Bool.false_eq_true, Bool.true_eq_false, ite_self, eq_self]; done) | (simp only [zOm, zHm, q_unit, kfU, ep, c1, c2, c3, c4, c5, c6, c7, if_true, if_false, not_true_eq_false, not_false_eq_true, and_self, and_true, true_and, or_true, true_or, or_false, false_or, and_false, false_and, reduceCtorEq, Bool.false_eq_true, Bool.true_eq_false, ite_self, eq_self]; exact zMd_app zG_unit))
      · refine zR_cst (v := 2) rfl rfl rfl ?_
        refine zR_s rfl ?_
        refine zR_putC rfl rfl h75 rfl ?_
        refine zR_s rfl ?_
        refine zR_get rfl rfl (zm0 h75) rfl ?_
        refine zR_ifne rfl rfl (fun _ => ?_) (fun c => absurd c (by decide))
        try replace c4 := i_p2 hI (show p' < 16 by omega) c4
        refine zR_s rfl ?_
        refine zR_get rfl rfl (zm0 h75) rfl ?_
        refine zR_ifle rfl rfl (fun c => absurd c (by decide)) (fun _ => ?_)
        refine zR_cst (v := 0) rfl rfl rfl ?_
        refine zR_s rfl ?_
        first | refine zR_rete rfl rfl ?_ ?_ | refine zR_retb rfl rfl ?_ ?_
        all_goals (first | contradiction | (simp only [zOm, zHm, q_unit, kfU, ep, c1, c2, c3, c4, if_true, if_false, not_true_eq_false, not_false_eq_true, and_self, and_true, true_and, or_true, true_or, or_false, false_or, and_false, false_and, reduceCtorEq, Bool.false_eq_true, Bool.true_eq_false, ite_self, eq_self]; done) | (simp only [zOm, zHm, q_unit, kfU, c1, c2, c3, c4, if_true, if_false, not_true_eq_false, not_false_eq_true, and_self, and_true, true_and, or_true, true_or, or_false, false_or, and_false, false_and, reduceCtorEq, Bool.false_eq_true, Bool.true_eq_false, ite_self, eq_self]; done) | (simp only [zOm, zHm, q_unit, kfU, ep, c1, c2, c3, c4, if_true, if_false, not_true_eq_false, not_false_eq_true, and_self, and_true, true_and, or_true, true_or, or_false, false_or, and_false, false_and, reduceCtorEq, Bool.false_eq_true, Bool.true_eq_false, ite_self, eq_self]; exact zMd_app zG_unit))
/-- the reference's way of moving what lies within -/
def zcam (G : Nat → Nat → Int32) (K : Nat → Option Nat) (u : Nat) (p : Int32) (j : Nat) : Nat → Nat → Int32 := fun i => bif decide (i < j) && zlw K u 4 (K i) then upd (G i) 6 p else G i
theorem zcam_0 (p : Int32) : zcam G K u p 0 = G := by funext i; simp [zcam]
theorem zcam_s {p : Int32} {j : Nat} : zcam G K u p (j + 1) = bif zlw K u 4 (K j) then updG (zcam G K u p j) j 6 p else zcam G K u p j := by
  cases hb : zlw K u 4 (K j)
  · funext i
    simp only [zcam, cond_false]
    by_cases e : i = j
    · subst e; simp [hb]
    · rw [show decide (i < j + 1) = decide (i < j) from by simp; omega]
  · funext i
    simp only [zcam, updG, cond_true]
    by_cases e : i = j
    · subst e; simp [hb]
    · simp only [if_neg e]
      rw [show decide (i < j + 1) = decide (i < j) from by simp; omega]
theorem zlw_up {v : Option Nat} : ∀ n x, zlw (va_up K u v) u n x = zlw K u n x := by
  intro n
  induction n with
  | zero => intro x; rfl
  | succ n ih =>
    intro x
    cases x with
    | none => rfl
    | some b =>
      simp only [zlw]
      by_cases e : b = u
      · simp [e]
      · rw [ih, va_up_ne K v e]
theorem zG_move {p : Int32} (hu : u < M) : ∀ i j, zcolok j = true → zcar G (va_up K u none) u p M i j = updG (zcam G K u p M) u 6 p i j := by
  intro i j hj
  simp only [zcar, zcam, updG, zlw_up]
  by_cases e : i = u
  · subst e
    simp only [decide_true, Bool.true_or, Bool.and_true, if_true]
    rw [decide_eq_true hu]
    simp only [cond_true, Bool.true_and]
    cases zlw K i 4 (K i) with
    | false => rfl
    | true => simp only [cond_true, upd]; split <;> rfl
  · rw [va_up_ne K none e]
    simp only [e, decide_false, Bool.false_or, if_false]
theorem d_move {j : Nat} {p : Int32} (h75 : hc.length = 75) (hI : zInv N F G K Z M A l R) (hH : zHK M K H) (hj : j < M) : zMe sL sx 11 79 [.ref 75, .int (nI j), .int p] (hc ++ (zMd N F G H Z c B ++ t)) (zOm none (q_move N F G K Z M A j p)) (zHm kfA hc t N F G H Z B (upd H j (-1)) B (q_move N F G K Z M A j p)) := by
  have hA := hI.2.2.1
  have hM := i_m1 hI
  have hm := i_m hI
  have hj2 : j < 64 := by omega
  have tail : ∀ p' : Nat, A < 400 → p' < 16 → q_move N F G K Z M A j (nI p') = .ok (none, upd N 4 (nI (A + 1)), zadd F A (nI j) 2 (N 3) (nI p'), zcar G (va_up K j none) j (nI p') M, va_up K j none, Z) → zR sL sx 11 79 135 [.ref 75, .int (nI j), .int (nI p'), .retAddr 0] [] (hc ++ (zMd N F G H Z 0 B ++ t)) (zOm none (q_move N F G K Z M A j (nI p'))) (zHm kfA hc t N F G H Z B (upd H j (-1)) B (q_move N F G K Z M A j (nI p'))) := by
    intro p' hA5 hp hq
    rw [hq]
    refine zR_cst (v := 0) rfl rfl rfl ?_
    refine zR_s rfl ?_
    skip
    refine zR_loop0 (M := M) (fun k => [.ref 75, .int (nI j), .int (nI p'), .int (nI k)]) (fun k => hc ++ (zMd N F (zcam G K j (nI p') k) H Z 0 B ++ t)) (fun _ => True) rfl (by rw [zcam_0]) trivial (fun _ => ?_) (fun k hk _ ih => ?_)
    · refine zR_s rfl ?_
      refine zR_s rfl ?_
      refine zR_get rfl rfl (zm0 h75) rfl ?_
      refine zR_icge rfl rfl (fun _ => ?_) (fun c => by first | exact absurd ((by rw [hM]; exact Int32.le_refl _)) c | exact absurd c ((by rw [hM]; exact Int32.le_refl _)))
      refine zR_s rfl ?_
      refine zR_get rfl rfl (zm0 h75) rfl ?_
      refine zR_s rfl ?_
      refine zR_s rfl ?_
      refine zR_istMG 6 rfl h75 (by decide) (hj2) ?_
      refine zR_s rfl ?_
      refine zR_get rfl rfl (zm0 h75) rfl ?_
      refine zR_s rfl ?_
      refine zR_cst (v := (-1)) rfl rfl rfl ?_
      refine zR_istMH rfl h75 (hj2) ?_
      refine zR_s rfl ?_
      refine zR_s rfl ?_
      refine zR_cst (v := 2) rfl rfl rfl ?_
      refine zR_s rfl ?_
      refine zR_call rfl rfl rfl rfl (zcallok_v (zm0 h75) rfl rfl) (m_act h75 hA.1 hA5) ?_
      refine zR_rete rfl rfl ?_ ?_
      all_goals (first | rfl | exact zMd_app (zG_move hj))
    · have w := ih trivial
      rw [zcam_s] at w
      refine zR_s rfl ?_
      refine zR_s rfl ?_
      refine zR_get rfl rfl (zm0 h75) rfl ?_
      refine zR_icge rfl rfl (fun c => by first | exact absurd c ((by rw [hM]; exact nI_ge hk (by omega))) | exact absurd ((by rw [hM]; exact nI_ge hk (by omega))) c) (fun _ => ?_)
      refine zR_s rfl ?_
      refine zR_s rfl ?_
      refine zR_s rfl ?_
      refine zR_call rfl rfl rfl rfl (zcallok_v (zm0 h75) rfl rfl) (m_isIn h75 hm hH (i_ch hI) hk hj) ?_
      first | refine zR_df rfl rfl (fun c1 => ?_) (fun c1 => ?_) | refine zR_bf rfl rfl (fun c1 => ?_) (fun c1 => ?_) | refine zR_ifeq rfl rfl (fun c1 => ?_) (fun c1 => ?_)
      · first | refine zR_incn rfl rfl rfl ?_ | refine zR_s rfl ?_
        refine zR_goto rfl rfl ?_
        (rw [c1] at w; exact w)
      · refine zR_s rfl ?_
        refine zR_get rfl rfl (zm0 h75) rfl ?_
        refine zR_s rfl ?_
        refine zR_s rfl ?_
        refine zR_istMG 6 rfl h75 (by decide) ((show k < 64 by omega)) ?_
        first | refine zR_incn rfl rfl rfl ?_ | refine zR_s rfl ?_
        refine zR_goto rfl rfl ?_
        (rw [c1] at w; exact w)
  show zR sL sx _ 79 0 [.ref 75, .int (nI j), .int p, .retAddr 0] [] _ _ _
  refine zR_s rfl ?_
  refine zR_s rfl ?_
  refine zR_s rfl ?_
  refine zR_call rfl rfl rfl rfl (zcallok_v (zm0 h75) rfl rfl) (m_isUnit h75) ?_
  first | refine zR_dt rfl rfl (fun c1 => ?_) (fun c1 => absurd (i_v hI hj) c1) | refine zR_bt rfl rfl (fun c1 => ?_) (fun c1 => absurd (i_v hI hj) c1) | refine zR_ifne rfl rfl (fun c1 => ?_) (fun c1 => absurd (i_v hI hj) c1)
  refine zR_s rfl ?_
  refine zR_s rfl ?_
  refine zR_lc (v := 0) rfl rfl ?_
  refine zR_ldc2 (v := 15) rfl rfl ?_
  refine zR_call rfl rfl rfl rfl (zcallok_s rfl) (m_in (b := 0) (c := 15)) ?_
  first | refine zR_dt rfl rfl (fun c2 => ?_) (fun c2 => ?_) | refine zR_bt rfl rfl (fun c2 => ?_) (fun c2 => ?_) | refine zR_ifne rfl rfl (fun c2 => ?_) (fun c2 => ?_)
  · obtain ⟨p', hp, rfl, ep⟩ := zpl (n := 15) rfl (by decide) c2
    refine zR_cst (v := 0) rfl rfl rfl ?_
    refine zR_putC rfl rfl h75 rfl ?_
    refine zR_s rfl ?_
    refine zR_get rfl rfl (zm0 h75) rfl ?_
    refine zR_ifne rfl rfl (fun c => absurd c (by decide)) (fun _ => ?_)
    refine zR_s rfl ?_
    refine zR_s rfl ?_
    refine zR_call rfl rfl rfl rfl (zcallok_v (zm0 h75) rfl rfl) (m_mstands h75 hj2) ?_
    refine zR_bf rfl rfl (fun c3 => ?_) (fun c3 => ?_)
    · try replace c3 := i_h1 hI hH hj c3
      refine zR_s rfl ?_
      refine zR_cst (v := 3) rfl rfl rfl ?_
      refine zR_putC rfl rfl h75 rfl ?_
      try replace c3 := i_h2 hI hH hj c3
      refine zR_s rfl ?_
      refine zR_get rfl rfl (zm0 h75) rfl ?_
      refine zR_ifne rfl rfl (fun _ => ?_) (fun c => absurd c (by decide))
      refine zR_s rfl ?_
      refine zR_get rfl rfl (zm0 h75) rfl ?_
      refine zR_ifle rfl rfl (fun c => absurd c (by decide)) (fun _ => ?_)
      refine zR_rete rfl rfl ?_ ?_
      all_goals (first | contradiction | (simp only [zOm, zHm, q_move, kfA, ep, c1, c2, c3, if_true, if_false, not_true_eq_false, not_false_eq_true, and_self, and_true, true_and, or_true, true_or, or_false, false_or, and_false, false_and, reduceCtorEq, Bool.false_eq_true, Bool.true_eq_false, ite_self, eq_self]; done) | (simp only [zOm, zHm, q_move, kfA, c1, c2, c3, if_true, if_false, not_true_eq_false, not_false_eq_true, and_self, and_true, true_and, or_true, true_or, or_false, false_or, and_false, false_and, reduceCtorEq, Bool.false_eq_true, Bool.true_eq_false, ite_self, eq_self]; done))
    · refine zR_s rfl ?_
      refine zR_get rfl rfl (zm0 h75) rfl ?_
      refine zR_s rfl ?_
      first | refine zR_ildMG 6 rfl h75 (by decide) (hj2) ?_ | refine zR_ildMG 6 rfl h75 (by decide) ((show p' < 16 by omega)) ?_
      refine zR_s rfl ?_
      refine zR_icne rfl rfl (fun c4 => ?_) (fun c4 => ?_)
      · try replace c4 := i_h2 hI hH hj c4
        refine zR_s rfl ?_
        refine zR_get rfl rfl (zm0 h75) rfl ?_
        refine zR_ifne rfl rfl (fun c => absurd c (by decide)) (fun _ => ?_)
        refine zR_s rfl ?_
        refine zR_get rfl rfl (zm0 h75) rfl ?_
        refine zR_cst (v := 400) rfl rfl rfl ?_
        refine zR_iceq rfl rfl (fun c5 => ?_) (fun c5 => ?_)
        · try replace c5 := i_r1 hI c5
          refine zR_s rfl ?_
          refine zR_cst (v := 4) rfl rfl rfl ?_
          refine zR_putC rfl rfl h75 rfl ?_
          refine zR_s rfl ?_
          refine zR_get rfl rfl (zm0 h75) rfl ?_
          refine zR_ifle rfl rfl (fun c => absurd c (by decide)) (fun _ => ?_)
          refine zR_rete rfl rfl ?_ ?_
          all_goals (first | contradiction | (simp only [zOm, zHm, q_move, kfA, ep, c1, c2, c3, c4, c5, if_true, if_false, not_true_eq_false, not_false_eq_true, and_self, and_true, true_and, or_true, true_or, or_false, false_or, and_false, false_and, reduceCtorEq, Bool.false_eq_true, Bool.true_eq_false, ite_self, eq_self]; done) | (simp only [zOm, zHm, q_move, kfA, c1, c2, c3, c4, c5, if_true, if_false, not_true_eq_false, not_false_eq_true, and_self, and_true, true_and, or_true, true_or, or_false, false_or, and_false, false_and, reduceCtorEq, Bool.false_eq_true, Bool.true_eq_false, ite_self, eq_self]; done))
        · replace c5 := i_r2 hI c5
          refine zR_s rfl ?_
          refine zR_get rfl rfl (zm0 h75) rfl ?_
          refine zR_s rfl ?_
          first | refine zR_ildMG 6 rfl h75 (by decide) (hj2) ?_ | refine zR_ildMG 6 rfl h75 (by decide) ((show p' < 16 by omega)) ?_
          refine zR_s rfl ?_
          refine zR_iceq rfl rfl (fun c6 => ?_) (fun c6 => ?_)
          · refine zR_s rfl ?_
            refine zR_get rfl rfl (zm0 h75) rfl ?_
            refine zR_ifle rfl rfl (fun _ => ?_) (fun c => absurd c (by decide))
            first | contradiction | exact tail p' (by first | exact zroom1 hA.1 hA.2 c5 | exact zroom1 hA.1 hA.2 c4 | exact zroom1 hA.1 hA.2 c6) (by omega) (by simp only [q_move, ep, c1, c2, c3, c4, c5, c6, if_true, if_false, not_true_eq_false, not_false_eq_true, and_self, and_true, true_and, or_true, true_or, or_false, false_or, and_false, false_and, reduceCtorEq, Bool.false_eq_true, Bool.true_eq_false, ite_self, eq_self])
          · refine zR_s rfl ?_
            refine zR_s rfl ?_
            refine zR_call rfl rfl rfl rfl (zcallok_v (zm0 h75) rfl rfl) (m_standingAt h75 hM hm) ?_
            rw [i_T hI (show p' < 16 by omega)]
            refine zR_cst (v := 1) rfl rfl rfl ?_
            refine zR_iadd rfl ?_
            refine zR_s rfl ?_
            refine zR_s rfl ?_
            refine zR_call rfl rfl rfl rfl (zcallok_v (zm0 h75) rfl rfl) (m_load h75 hM hm hH (i_ch hI) hj) ?_
            refine zR_iadd rfl ?_
            refine zR_s rfl ?_
            refine zR_get rfl rfl (zm0 h75) rfl ?_
            refine zR_s rfl ?_
            first | refine zR_ildMF 0 rfl h75 (by decide) (hj2) ?_ | refine zR_ildMF 0 rfl h75 (by decide) ((show p' < 16 by omega)) ?_
            rw [Int32.add_assoc]
            refine zR_icle rfl rfl (fun c7 => ?_) (fun c7 => ?_)
            · refine zR_s rfl ?_
              refine zR_get rfl rfl (zm0 h75) rfl ?_
              refine zR_ifle rfl rfl (fun _ => ?_) (fun c => absurd c (by decide))
              first | contradiction | exact tail p' (by first | exact zroom1 hA.1 hA.2 c5 | exact zroom1 hA.1 hA.2 c4 | exact zroom1 hA.1 hA.2 c6) (by omega) (by simp only [q_move, ep, c1, c2, c3, c4, c5, c6, c7, if_true, if_false, not_true_eq_false, not_false_eq_true, and_self, and_true, true_and, or_true, true_or, or_false, false_or, and_false, false_and, reduceCtorEq, Bool.false_eq_true, Bool.true_eq_false, ite_self, eq_self])
            · try replace c7 := i_r1 hI c7
              refine zR_s rfl ?_
              refine zR_cst (v := 4) rfl rfl rfl ?_
              refine zR_putC rfl rfl h75 rfl ?_
              refine zR_s rfl ?_
              refine zR_get rfl rfl (zm0 h75) rfl ?_
              refine zR_ifle rfl rfl (fun c => absurd c (by decide)) (fun _ => ?_)
              refine zR_rete rfl rfl ?_ ?_
              all_goals (first | contradiction | (simp only [zOm, zHm, q_move, kfA, ep, c1, c2, c3, c4, c5, c6, c7, if_true, if_false, not_true_eq_false, not_false_eq_true, and_self, and_true, true_and, or_true, true_or, or_false, false_or, and_false, false_and, reduceCtorEq, Bool.false_eq_true, Bool.true_eq_false, ite_self, eq_self]; done) | (simp only [zOm, zHm, q_move, kfA, c1, c2, c3, c4, c5, c6, c7, if_true, if_false, not_true_eq_false, not_false_eq_true, and_self, and_true, true_and, or_true, true_or, or_false, false_or, and_false, false_and, reduceCtorEq, Bool.false_eq_true, Bool.true_eq_false, ite_self, eq_self]; done))
      · refine zR_s rfl ?_
        refine zR_get rfl rfl (zm0 h75) rfl ?_
        refine zR_s rfl ?_
        first | refine zR_ildMH rfl h75 (hj2) ?_ | refine zR_ildMH rfl h75 ((show p' < 16 by omega)) ?_
        refine zR_cst (v := (-1)) rfl rfl rfl ?_
        refine zR_icne rfl rfl (fun c5 => ?_) (fun c5 => ?_)
        · try replace c5 := i_h2 hI hH hj c5
          refine zR_s rfl ?_
          refine zR_get rfl rfl (zm0 h75) rfl ?_
          refine zR_ifne rfl rfl (fun c => absurd c (by decide)) (fun _ => ?_)
          refine zR_s rfl ?_
          refine zR_get rfl rfl (zm0 h75) rfl ?_
          refine zR_cst (v := 400) rfl rfl rfl ?_
          refine zR_iceq rfl rfl (fun c6 => ?_) (fun c6 => ?_)
          · try replace c6 := i_r1 hI c6
            refine zR_s rfl ?_
            refine zR_cst (v := 4) rfl rfl rfl ?_
            refine zR_putC rfl rfl h75 rfl ?_
            refine zR_s rfl ?_
            refine zR_get rfl rfl (zm0 h75) rfl ?_
            refine zR_ifle rfl rfl (fun c => absurd c (by decide)) (fun _ => ?_)
            refine zR_rete rfl rfl ?_ ?_
            all_goals (first | contradiction | (simp only [zOm, zHm, q_move, kfA, ep, c1, c2, c3, c4, c5, c6, if_true, if_false, not_true_eq_false, not_false_eq_true, and_self, and_true, true_and, or_true, true_or, or_false, false_or, and_false, false_and, reduceCtorEq, Bool.false_eq_true, Bool.true_eq_false, ite_self, eq_self]; done) | (simp only [zOm, zHm, q_move, kfA, c1, c2, c3, c4, c5, c6, if_true, if_false, not_true_eq_false, not_false_eq_true, and_self, and_true, true_and, or_true, true_or, or_false, false_or, and_false, false_and, reduceCtorEq, Bool.false_eq_true, Bool.true_eq_false, ite_self, eq_self]; done))
          · replace c6 := i_r2 hI c6
            refine zR_s rfl ?_
            refine zR_get rfl rfl (zm0 h75) rfl ?_
            refine zR_s rfl ?_
            first | refine zR_ildMG 6 rfl h75 (by decide) (hj2) ?_ | refine zR_ildMG 6 rfl h75 (by decide) ((show p' < 16 by omega)) ?_
            refine zR_s rfl ?_
            refine zR_iceq rfl rfl (fun c7 => ?_) (fun c7 => ?_)
            · refine zR_s rfl ?_
              refine zR_get rfl rfl (zm0 h75) rfl ?_
              refine zR_ifle rfl rfl (fun _ => ?_) (fun c => absurd c (by decide))
              first | contradiction | exact tail p' (by first | exact zroom1 hA.1 hA.2 c5 | exact zroom1 hA.1 hA.2 c4 | exact zroom1 hA.1 hA.2 c6) (by omega) (by simp only [q_move, ep, c1, c2, c3, c4, c5, c6, c7, if_true, if_false, not_true_eq_false, not_false_eq_true, and_self, and_true, true_and, or_true, true_or, or_false, false_or, and_false, false_and, reduceCtorEq, Bool.false_eq_true, Bool.true_eq_false, ite_self, eq_self])
            · refine zR_s rfl ?_
              refine zR_s rfl ?_
              refine zR_call rfl rfl rfl rfl (zcallok_v (zm0 h75) rfl rfl) (m_standingAt h75 hM hm) ?_
              rw [i_T hI (show p' < 16 by omega)]
              refine zR_cst (v := 1) rfl rfl rfl ?_
              refine zR_iadd rfl ?_
              refine zR_s rfl ?_
              refine zR_s rfl ?_
              refine zR_call rfl rfl rfl rfl (zcallok_v (zm0 h75) rfl rfl) (m_load h75 hM hm hH (i_ch hI) hj) ?_
              refine zR_iadd rfl ?_
              refine zR_s rfl ?_
              refine zR_get rfl rfl (zm0 h75) rfl ?_
              refine zR_s rfl ?_
              first | refine zR_ildMF 0 rfl h75 (by decide) (hj2) ?_ | refine zR_ildMF 0 rfl h75 (by decide) ((show p' < 16 by omega)) ?_
              rw [Int32.add_assoc]
              refine zR_icle rfl rfl (fun c8 => ?_) (fun c8 => ?_)
              · refine zR_s rfl ?_
                refine zR_get rfl rfl (zm0 h75) rfl ?_
                refine zR_ifle rfl rfl (fun _ => ?_) (fun c => absurd c (by decide))
                first | contradiction | exact tail p' (by first | exact zroom1 hA.1 hA.2 c5 | exact zroom1 hA.1 hA.2 c4 | exact zroom1 hA.1 hA.2 c6) (by omega) (by simp only [q_move, ep, c1, c2, c3, c4, c5, c6, c7, c8, if_true, if_false, not_true_eq_false, not_false_eq_true, and_self, and_true, true_and, or_true, true_or, or_false, false_or, and_false, false_and, reduceCtorEq, Bool.false_eq_true, Bool.true_eq_false, ite_self, eq_self])
              · try replace c8 := i_r1 hI c8
                refine zR_s rfl ?_
                refine zR_cst (v := 4) rfl rfl rfl ?_
                refine zR_putC rfl rfl h75 rfl ?_
                refine zR_s rfl ?_
                refine zR_get rfl rfl (zm0 h75) rfl ?_
                refine zR_ifle rfl rfl (fun c => absurd c (by decide)) (fun _ => ?_)
                refine zR_rete rfl rfl ?_ ?_
                all_goals (first | contradiction | (simp only [zOm, zHm, q_move, kfA, ep, c1, c2, c3, c4, c5, c6, c7, c8, if_true, if_false, not_true_eq_false, not_false_eq_true, and_self, and_true, true_and, or_true, true_or, or_false, false_or, and_false, false_and, reduceCtorEq, Bool.false_eq_true, Bool.true_eq_false, ite_self, eq_self]; done) | (simp only [zOm, zHm, q_move, kfA, c1, c2, c3, c4, c5, c6, c7, c8, if_true, if_false, not_true_eq_false, not_false_eq_true, and_self, and_true, true_and, or_true, true_or, or_false, false_or, and_false, false_and, reduceCtorEq, Bool.false_eq_true, Bool.true_eq_false, ite_self, eq_self]; done))
        · try replace c5 := i_h1 hI hH hj c5
          refine zR_s rfl ?_
          refine zR_cst (v := 3) rfl rfl rfl ?_
          refine zR_putC rfl rfl h75 rfl ?_
          try replace c5 := i_h2 hI hH hj c5
          refine zR_s rfl ?_
          refine zR_get rfl rfl (zm0 h75) rfl ?_
          refine zR_ifne rfl rfl (fun _ => ?_) (fun c => absurd c (by decide))
          refine zR_s rfl ?_
          refine zR_get rfl rfl (zm0 h75) rfl ?_
          refine zR_ifle rfl rfl (fun c => absurd c (by decide)) (fun _ => ?_)
          refine zR_rete rfl rfl ?_ ?_
          all_goals (first | contradiction | (simp only [zOm, zHm, q_move, kfA, ep, c1, c2, c3, c4, c5, if_true, if_false, not_true_eq_false, not_false_eq_true, and_self, and_true, true_and, or_true, true_or, or_false, false_or, and_false, false_and, reduceCtorEq, Bool.false_eq_true, Bool.true_eq_false, ite_self, eq_self]; done) | (simp only [zOm, zHm, q_move, kfA, c1, c2, c3, c4, c5, if_true, if_false, not_true_eq_false, not_false_eq_true, and_self, and_true, true_and, or_true, true_or, or_false, false_or, and_false, false_and, reduceCtorEq, Bool.false_eq_true, Bool.true_eq_false, ite_self, eq_self]; done))
  · refine zR_cst (v := 2) rfl rfl rfl ?_
    refine zR_s rfl ?_
    refine zR_putC rfl rfl h75 rfl ?_
    refine zR_s rfl ?_
    refine zR_get rfl rfl (zm0 h75) rfl ?_
    refine zR_ifne rfl rfl (fun _ => ?_) (fun c => absurd c (by decide))
    try replace c2 := i_h2 hI hH hj c2
    refine zR_s rfl ?_
    refine zR_get rfl rfl (zm0 h75) rfl ?_
    refine zR_ifne rfl rfl (fun _ => ?_) (fun c => absurd c (by decide))
    refine zR_s rfl ?_
    refine zR_get rfl rfl (zm0 h75) rfl ?_
    refine zR_ifle rfl rfl (fun c => absurd c (by decide)) (fun _ => ?_)
    refine zR_rete rfl rfl ?_ ?_
    all_goals (first | contradiction | (simp only [zOm, zHm, q_move, kfA, ep, c1, c2, if_true, if_false, not_true_eq_false, not_false_eq_true, and_self, and_true, true_and, or_true, true_or, or_false, false_or, and_false, false_and, reduceCtorEq, Bool.false_eq_true, Bool.true_eq_false, ite_self, eq_self]; done) | (simp only [zOm, zHm, q_move, kfA, c1, c2, if_true, if_false, not_true_eq_false, not_false_eq_true, and_self, and_true, true_and, or_true, true_or, or_false, false_or, and_false, false_and, reduceCtorEq, Bool.false_eq_true, Bool.true_eq_false, ite_self, eq_self]; done))
end ZMB
