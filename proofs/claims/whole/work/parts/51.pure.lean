/-! the end: the small machine's law answers 1, within the room -/
theorem zsl_all {h : zH} {b : Nat} (hb : ∀ q ∈ h, (bif Nat.ble 100 q.1 then 6 else q.2.length) ≤ b) : zsl h ≤ h.length * b := by
  induction h with
  | nil => simp [zsl]
  | cons q r ih =>
    have h1 := hb q (by simp)
    have h2 := ih (fun p hp => hb p (by simp [hp]))
    have e : zsl (q :: r) = (bif Nat.ble 100 q.1 then 6 else q.2.length) + zsl r := by simp [zsl]
    rw [e, List.length_cons, Nat.succ_mul]
    omega
section ZPU
variable {N : Nat → Int32} {F G : Nat → Nat → Int32} {K : Nat → Option Nat} {H : Nat → Int32} {Z : Nat → Int64} {c : Int32} {B : Nat → Int32} {tl : zH} {v : Int64}
theorem zcell_sl {k : Nat} : (bif Nat.ble 100 (zcell N F G K Z k).1 then 6 else (zcell N F G K Z k).2.length) ≤ 400 := by
  unfold zcell
  split <;> simp [zints_len, zrefs, zun, cond]
theorem zmcell_sl {k : Nat} : (bif Nat.ble 100 (zmcell N F G H Z c B k).1 then 6 else (zmcell N F G H Z c B k).2.length) ≤ 400 := by
  unfold zmcell
  split <;> simp [zints_len, zlongs_len, zmob, cond]
theorem zL_sl (ht : tl.length ≤ 512) (hk : ∀ q ∈ tl, 100 ≤ q.1) : (zL N F G K Z N F G H Z c B v tl).length ≤ 605 ∧ zsl (zL N F G K Z N F G H Z c B v tl) ≤ 605 * 400 := by
  have hl : (zL N F G K Z N F G H Z c B v tl).length = 93 + tl.length := by
    rw [zL, List.length_append, List.length_append, zCs_len, zMd_len, List.length_cons]
    omega
  have hs : zsl (zL N F G K Z N F G H Z c B v tl) ≤ (zL N F G K Z N F G H Z c B v tl).length * 400 := by
    refine zsl_all fun q hq => ?_
    rw [zL, List.mem_append, List.mem_append, List.mem_cons] at hq
    rcases hq with hq | hq | hq | hq
    · rw [zCs, List.mem_map] at hq
      obtain ⟨k, -, rfl⟩ := hq
      exact zcell_sl
    · rw [zMd, List.mem_map] at hq
      obtain ⟨k, -, rfl⟩ := hq
      exact zmcell_sl
    · subst hq
      simp [cond]
    · have h1 : Nat.ble 100 q.1 = true := Nat.ble_eq_true_of_le (hk q hq)
      rw [h1, cond_true]
      decide
  refine ⟨by omega, Nat.le_trans hs (Nat.mul_le_mul_right _ (by omega))⟩
end ZPU
theorem z_pure : zPure := by
  intro L xs hL
  obtain ⟨hF, h1, N, F, G, K, Z, H, c, B, v, tl, e, ht, hk⟩ := zw_loop (sL := L) (sx := xs) hL (L + 1) 0 0 bN bF bG bK bZ b0 0 b0 0 [] (by omega) rfl (Nat.zero_le _) b_inv
  obtain ⟨n, hn⟩ := b_start (h1 (.retAddr 0) (.retAddr 0) (.retAddr 0))
  have hb := zL_sl (N := N) (F := F) (G := G) (K := K) (H := H) (Z := Z) (c := c) (B := B) (v := v) ht hk
  rw [← e] at hb
  exact ⟨n, hF, hn, by omega, by omega⟩
