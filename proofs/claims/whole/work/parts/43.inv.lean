/-! .. move, and new units -/
section ZIX
variable {N N' : Nat → Int32} {F F' G G' : Nat → Nat → Int32} {K K' : Nat → Option Nat} {H : Nat → Int32} {Z Z' : Nat → Int64} {M A l R j i : Nat}
theorem zcar_at {p : Int32} (hi : i < M) : zcar G (va_up K j none) j p M i = bif zgb K j i then upd (G i) 6 p else G i := by
  simp only [zcar, zgb, decide_eq_true hi, Bool.true_and, zlw_up]
  by_cases e : i = j
  · simp [e]
  · rw [va_up_ne K none e]
theorem i_same (hI : zInv N F G K Z M A l R) : ∀ {f i : Nat}, i < M → zlw K j f (K i) = true → G i 6 = G j 6 := by
  intro f
  induction f with
  | zero => intro i hi h; simp [zlw] at h
  | succ f ih =>
    intro i hi h
    cases e : K i with
    | none => rw [e] at h; simp [zlw] at h
    | some c =>
      rw [e] at h
      simp only [zlw, Bool.or_eq_true, decide_eq_true_eq] at h
      obtain ⟨c1, c2⟩ := (i_un hI hi).2.2.2.2.2.2.2 c e
      rw [c2]
      rcases h with h | h
      · rw [h]
      · exact ih c1 h
theorem zgb_st (hI : zInv N F G K Z M A l R) (hs : zst (G j) = true) (hi : i < M) (h : zgb K j i = true) : zst (G i) = true := by
  simp only [zgb, Bool.or_eq_true, decide_eq_true_eq] at h
  rcases h with h | h
  · rw [h]; exact hs
  · exact i_cst hI hi fun e => by rw [e] at h; simp [zlw] at h
theorem v_move {p : Nat} (hI : zInv N F G K Z M A l R) (hj : j < M) (hs : zst (G j) = true) (hp : p < 16) (hc : G j 6 = nI p ∨ nI (zcnt (zqP G (nI p)) M) + (1 + nI (zcnt (zqW K j) M)) ≤ F 0 p) : zInv N F (zcar G (va_up K j none) j (nI p) M) (va_up K j none) Z M A l R := by
  have hv := v_out hI hj
  have hz : ∀ i, zst (zcar G (va_up K j none) j (nI p) M i) = zst (G i) := by
    intro i
    simp only [zcar]
    cases (decide (i < M) && (decide (i = j) || zlw (va_up K j none) j 4 (va_up K j none i))) with
    | true => exact zst_up (by decide)
    | false => rfl
  refine ⟨hI.1, hI.2.1, hI.2.2.1, fun i hi => ?_, i_ch hv, i_kb hv, fun p2 hp2 => ?_, hI.2.2.2.2.2.2.2⟩
  · obtain ⟨q1, q2, q3, q4, q5, q6, q7, q8⟩ := i_un hv hi
    rw [zUn, hz, zcar_at hi]
    have hcc : ∀ c, va_up K j none i = some c → c < M ∧ (bif zgb K j i then upd (G i) 6 (nI p) else G i) 6 = zcar G (va_up K j none) j (nI p) M c 6 := by
      intro c hc
      obtain ⟨c1, c2⟩ := q8 c hc
      refine ⟨c1, ?_⟩
      have hij : i ≠ j := fun e => by rw [e, va_up_self] at hc; cases hc
      rw [va_up_ne K none hij] at hc
      have e1 : zgb K j i = zgb K j c := by simp only [zgb, zlw_step (i_ch hI) hi hc, decide_eq_false hij, Bool.false_or]
      rw [zcar_at c1, e1]
      cases zgb K j c with
      | true => rfl
      | false => exact c2
    cases hb : zgb K j i with
    | true =>
      rw [hb] at hcc
      have h1 := zgb_st hI hs hi hb
      refine ⟨q1, q2, q3, q4, fun _ => ⟨p, hp, rfl⟩, fun h => (by rw [h1] at h; cases h), q7, hcc⟩
    | false =>
      rw [hb] at hcc
      exact ⟨q1, q2, q3, q4, q5, q6, q7, hcc⟩
  · by_cases e : p2 = p
    · subst e
      rcases hc with hc | hc
      · obtain ⟨m, h1, h2, h3⟩ := hI.2.2.2.2.2.2.1 p2 hp2
        refine ⟨m, h1, h2, Nat.le_trans (zcnt_sub fun i hi hq => ?_) h3⟩
        simp only [zqP, zcar_at hi] at hq ⊢
        cases hb : zgb K j i with
        | false => rw [hb] at hq; exact hq
        | true =>
          refine decide_eq_true ?_
          simp only [zgb, Bool.or_eq_true, decide_eq_true_eq] at hb
          rcases hb with hb | hb
          · rw [hb]; exact hc
          · rw [i_same hI hi hb]; exact hc
      · have hl := zcnt_le (zqW K j) M
        have hm := i_m hI
        rw [show (1 : Int32) + nI (zcnt (zqW K j) M) = nI (1 + zcnt (zqW K j) M) from nI_add 1 _] at hc
        obtain ⟨m, h1, h2, h3⟩ := hI.2.2.2.2.2.2.1 p2 hp2
        rw [h2, nI_add] at hc
        have h4 := (nI_leI (by omega) (by omega)).mp hc
        refine ⟨m, h1, h2, Nat.le_trans (zcnt_or (q := zqP G (nI p2)) (r := zgb K j) fun i hi hq => ?_) (Nat.le_trans (Nat.add_le_add_left (zcnt_or (q := fun i => decide (i = j)) (r := zqW K j) fun i hi hq => ?_) _) ?_)⟩
        · simp only [zqP, zcar_at hi] at hq
          cases hb : zgb K j i with
          | false => rw [hb] at hq; exact Or.inl hq
          | true => exact Or.inr rfl
        · simp only [zgb, Bool.or_eq_true] at hq
          exact hq
        · have := zcnt_one j M
          omega
    · obtain ⟨m, h1, h2, h3⟩ := hI.2.2.2.2.2.2.1 p2 hp2
      refine ⟨m, h1, h2, Nat.le_trans (zcnt_sub fun i hi hq => ?_) h3⟩
      simp only [zqP, zcar_at hi] at hq ⊢
      cases hb : zgb K j i with
      | true =>
        rw [hb] at hq
        have : nI p = nI p2 := of_decide_eq_true hq
        exact absurd this (nI_ne (by omega) (by omega) (Ne.symm e))
      | false => rw [hb] at hq; exact hq
theorem zchn_ext (h : ∀ c, c < M → K' c = K c) : ∀ {n : Nat} {x : Option Nat}, zchn K M n x → zchn K' (M + 1) n x := by
  intro n
  induction n with
  | zero => intro x hx; exact hx
  | succ n ih =>
    intro x hx
    obtain ⟨c, hc, rfl, h3⟩ := hx
    exact ⟨c, by omega, rfl, by rw [h c hc]; exact ih h3⟩
theorem v_add {p : Nat} (hI : zInv N F G K Z M A l R) (hR : M < R) (hG : ∀ i, i < M → G' i = G i) (hK : ∀ c, c < M → K' c = K c) (hZ : ∀ i, i < M → Z' i = Z i) (hkb : zKb K') (hu : zUn F G' K' Z' (M + 1) l M) (hch : ∃ n, n ≤ 4 ∧ zchn K' (M + 1) n (K' M)) (hp : p < 16) (h6 : G' M 6 = nI p) (q : nI (zcnt (zqP G (nI p)) M) + 1 ≤ F 0 p) : zInv (upd N 1 (nI (M + 1))) F G' K' Z' (M + 1) A l R := by
  refine ⟨hI.1, ⟨rfl, hI.2.1.2.1, by omega, hI.2.1.2.2.2⟩, hI.2.2.1, fun i hi => ?_, fun i hi => ?_, hkb, fun p2 hp2 => ?_, hI.2.2.2.2.2.2.2⟩
  · by_cases e : i = M
    · rw [e]; exact hu
    · have hi2 : i < M := by omega
      obtain ⟨q1, q2, q3, q4, q5, q6, q7, q8⟩ := i_un hI hi2
      rw [zUn, hG i hi2, hK i hi2, hZ i hi2]
      refine ⟨q1, q2, q3, q4, q5, q6, q7, fun c hc => ?_⟩
      obtain ⟨c1, c2⟩ := q8 c hc
      exact ⟨by omega, by rw [hG c c1]; exact c2⟩
  · by_cases e : i = M
    · rw [e]; exact hch
    · have hi2 : i < M := by omega
      obtain ⟨n, hn, h1⟩ := i_ch hI i hi2
      exact ⟨n, hn, by rw [hK i hi2]; exact zchn_ext hK h1⟩
  · have ec : zcnt (zqP G' (nI p2)) M = zcnt (zqP G (nI p2)) M := zcnt_congr fun i hi => by simp only [zqP, hG i hi]
    by_cases e : p2 = p
    · subst e
      obtain ⟨m, h1, h2, h3⟩ := i_cp (x := 1) hI hp2 (by omega) q
      refine ⟨m, h1, h2, ?_⟩
      simp only [zcnt, ec]
      cases zqP G' (nI p2) M <;> simp <;> omega
    · obtain ⟨m, h1, h2, h3⟩ := hI.2.2.2.2.2.2.1 p2 hp2
      refine ⟨m, h1, h2, ?_⟩
      have e2 : zqP G' (nI p2) M = false := decide_eq_false (by rw [h6]; exact nI_ne (by omega) (by omega) (Ne.symm e))
      simp only [zcnt, ec, e2]
      exact h3
theorem hk_add {v : Int32} (hH : zHK M K H) (hK : ∀ c, c < M → K' c = K c) (hv : v = zsk (K' M)) : zHK (M + 1) K' (upd H M v) := by
  intro i hi
  simp only [upd]
  split
  · rename_i e; rw [e]; exact hv
  · rw [hK i (by omega)]; exact hH i (by omega)
theorem v_unit {a p w n : Nat} {x : Int32} (hI : zInv N F G K Z M A l R) (hR : M < R) (ha : a < l) (hp : p < 16) (hw : w < 8) (hn : 1 ≤ n) (hn2 : n ≤ 1000) (hx : x = 0 ∨ x = 3) (q : nI (zcnt (zqP G (nI p)) M) + 1 ≤ F 0 p) : zInv (upd N 1 (nI (M + 1))) F (updG (updG (updG (updG (updG (updG (updG G M 0 (nI a)) M 1 (F 2 a)) M 2 (F 3 a)) M 3 (nI w)) M 4 (nI n)) M 5 x) M 6 (nI p)) (va_up K M none) (vp_updL Z M 0) (M + 1) A l R := by
  refine v_add hI hR (fun i hi => by simp [updG, show i ≠ M by omega]) (fun c hc => va_up_ne K none (by omega)) (fun i hi => by simp [vp_updL, show i ≠ M by omega]) (zKb_up (i_kb hI) (by simp)) ?_ ⟨0, by omega, va_up_self K M none⟩ hp (by simp [updG, upd]) q
  refine ⟨⟨a, ha, by simp [updG, upd], by simp [updG, upd], by simp [updG, upd]⟩, ⟨w, hw, by simp [updG, upd]⟩, ⟨n, hn, hn2, by simp [updG, upd]⟩, ?_, fun _ => ⟨p, hp, by simp [updG, upd]⟩, fun h => ?_, by simp [vp_updL], fun c hc => (by rw [va_up_self] at hc; cases hc)⟩
  · rcases hx with rfl | rfl
    · exact ⟨0, by omega, by simp [updG, upd]; rfl⟩
    · exact ⟨3, by omega, by simp [updG, upd]; rfl⟩
  · rcases hx with rfl | rfl <;> exact absurd h (by simp [zst, updG, upd])
theorem v_split {n : Int32} (hI : zInv N F G K Z M A l R) (hR : M < R) (hj : j < M) (hs : zst (G j) = true) (hn : 1 ≤ n ∧ n ≤ G j 4 - 1) (q : nI (zcnt (zqP G (G j 6)) M) + 1 ≤ F 0 (G j 6).toNatClampNeg) : zInv (upd N 1 (nI (M + 1))) F
    (updG (updG (updG (updG (updG (updG (updG (updG G M 0 (G j 0)) M 1 (G j 1)) M 2 (G j 2)) M 3 (G j 3)) M 4 n) M 5 (updG (updG (updG (updG (updG G M 0 (G j 0)) M 1 (G j 1)) M 2 (G j 2)) M 3 (G j 3)) M 4 n j 5)) M 6 (updG (updG (updG (updG (updG G M 0 (G j 0)) M 1 (G j 1)) M 2 (G j 2)) M 3 (G j 3)) M 4 n j 6)) j 4 (updG (updG (updG (updG (updG (updG (updG G M 0 (G j 0)) M 1 (G j 1)) M 2 (G j 2)) M 3 (G j 3)) M 4 n) M 5 (updG (updG (updG (updG (updG G M 0 (G j 0)) M 1 (G j 1)) M 2 (G j 2)) M 3 (G j 3)) M 4 n j 5)) M 6 (updG (updG (updG (updG (updG G M 0 (G j 0)) M 1 (G j 1)) M 2 (G j 2)) M 3 (G j 3)) M 4 n j 6) j 4 - n))
    (va_up K M (K j)) (vp_updL Z M 0) (M + 1) A l R := by
  have hjM : j ≠ M := by omega
  have hMj : M ≠ j := Ne.symm hjM
  obtain ⟨q1, q2, ⟨k, hk1, hk2, ek⟩, q4, q5, q6, q7, q8⟩ := i_un hI hj
  obtain ⟨p, hp, ep⟩ := q5 hs
  rw [ek] at hn
  obtain ⟨k', rfl⟩ : ∃ k', k = k' + 1 := ⟨k - 1, by omega⟩
  rw [nI_pred] at hn
  obtain ⟨n', h1, rfl⟩ : ∃ n', n' ≤ k' ∧ n = nI n' := by
    obtain ⟨n', h1, h2⟩ := nI_of2 (nI_toInt (n := k') (by omega)) (Int32.not_lt.mpr (Int32.le_trans (by decide) hn.1)) hn.2
    exact ⟨n', h1, h2⟩
  have h2 : 1 ≤ n' := (nI_leI (a := 1) (b := n') (by omega) (by omega)).mp hn.1
  rw [ep, nI_clamp (show p < 2 ^ 31 by omega)] at q
  have e4 : G j 4 - nI n' = nI (k' + 1 - n') := by
    rw [ek]
    obtain ⟨b, hb⟩ : ∃ b, k' + 1 = n' + b := ⟨k' + 1 - n', by omega⟩
    rw [hb, ← nI_add, Nat.add_sub_cancel_left, Int32.add_comm, Int32.add_sub_cancel]
  have hI2 := v_pieces (n := k' + 1 - n') hI hj (by omega) (by omega)
  have hq : nI (zcnt (zqP (updG G j 4 (nI (k' + 1 - n'))) (nI p)) M) + 1 ≤ F 0 p := by
    rw [zcnt_congr (q := zqP G (nI p)) fun i hi => by simp only [zqP, updG]; by_cases e : i = j <;> simp [e, upd]]
    exact q
  refine v_add (G := updG G j 4 (nI (k' + 1 - n'))) hI2 hR (fun i hi => ?_) (fun c hc => va_up_ne K (K j) (by omega)) (fun i hi => by simp [vp_updL, show i ≠ M by omega]) (zKb_up (i_kb hI) (fun w e => i_kb hI _ _ e)) ?_ ?_ hp (by simp [updG, upd, hjM, hMj, ep]) hq
  · have hiM : i ≠ M := by omega
    by_cases e : i = j
    · subst e; simp [updG, upd, hiM, e4]
    · simp [updG, hiM, e]
  · have em : zst (updG (updG (updG (updG (updG (updG (updG (updG G M 0 (G j 0)) M 1 (G j 1)) M 2 (G j 2)) M 3 (G j 3)) M 4 (nI n')) M 5 (updG (updG (updG (updG (updG G M 0 (G j 0)) M 1 (G j 1)) M 2 (G j 2)) M 3 (G j 3)) M 4 (nI n') j 5)) M 6 (updG (updG (updG (updG (updG G M 0 (G j 0)) M 1 (G j 1)) M 2 (G j 2)) M 3 (G j 3)) M 4 (nI n') j 6)) j 4 (updG (updG (updG (updG (updG (updG (updG G M 0 (G j 0)) M 1 (G j 1)) M 2 (G j 2)) M 3 (G j 3)) M 4 (nI n')) M 5 (updG (updG (updG (updG (updG G M 0 (G j 0)) M 1 (G j 1)) M 2 (G j 2)) M 3 (G j 3)) M 4 (nI n') j 5)) M 6 (updG (updG (updG (updG (updG G M 0 (G j 0)) M 1 (G j 1)) M 2 (G j 2)) M 3 (G j 3)) M 4 (nI n') j 6) j 4 - nI n') M) = true := by
      rw [← hs]
      simp [zst, updG, upd, hjM, hMj]
    refine ⟨?_, ?_, ⟨n', h2, by omega, by simp [updG, upd, hMj]⟩, ?_, fun _ => ⟨p, hp, by simp [updG, upd, hjM, hMj, ep]⟩, fun h => (by rw [em] at h; cases h), by simp [vp_updL], fun c hc => ?_⟩
    · obtain ⟨a, ha, b0, b1, b2⟩ := q1
      exact ⟨a, ha, by simp [updG, upd, hMj, b0], by simp [updG, upd, hMj, b1], by simp [updG, upd, hMj, b2]⟩
    · obtain ⟨w, hw, b0⟩ := q2
      exact ⟨w, hw, by simp [updG, upd, hMj, b0]⟩
    · obtain ⟨s, hs3, b0⟩ := q4
      exact ⟨s, hs3, by simp [updG, upd, hjM, hMj, b0]⟩
    · rw [va_up_self] at hc
      obtain ⟨c1, c2⟩ := q8 c hc
      refine ⟨by omega, ?_⟩
      have hcM : c ≠ M := by omega
      by_cases e : c = j
      · subst e; simp [updG, upd, hjM, hMj]
      · simp [updG, upd, hjM, hMj, hcM, e, c2]
  · rw [va_up_self]
    obtain ⟨n, hn, h1⟩ := i_ch hI j hj
    exact ⟨n, hn, zchn_ext (fun c hc => va_up_ne K (K j) (by omega)) h1⟩
end ZIX
