/-! what holds of the cells is kept by every act -/
section ZIV
variable {N N' : Nat → Int32} {F F' G G' : Nat → Nat → Int32} {K K' : Nat → Option Nat} {H : Nat → Int32} {Z : Nat → Int64} {M A l R j i : Nat}
theorem zcnt_sub {p q : Nat → Bool} {n : Nat} (h : ∀ i, i < n → p i = true → q i = true) : zcnt p n ≤ zcnt q n := by
  induction n with
  | zero => exact Nat.le_refl _
  | succ n ih =>
    have h1 := ih fun i hi => h i (by omega)
    have h2 := h n (by omega)
    simp only [zcnt]
    cases hp : p n with
    | false => simp; omega
    | true => simp [h2 hp]; omega
theorem zcnt_or {p q r : Nat → Bool} {n : Nat} (h : ∀ i, i < n → p i = true → q i = true ∨ r i = true) : zcnt p n ≤ zcnt q n + zcnt r n := by
  induction n with
  | zero => exact Nat.le_refl _
  | succ n ih =>
    have h1 := ih fun i hi => h i (by omega)
    have h2 := h n (by omega)
    simp only [zcnt]
    cases hp : p n with
    | false => simp; omega
    | true => rcases h2 hp with q1 | q1 <;> simp [q1] <;> omega
theorem zcnt_one (j n : Nat) : zcnt (fun i => decide (i = j)) n ≤ 1 := by
  have key : ∀ n, zcnt (fun i => decide (i = j)) n ≤ if j < n then 1 else 0 := by
    intro n
    induction n with
    | zero => simp [zcnt]
    | succ n ih =>
      simp only [zcnt]
      by_cases e : n = j
      · subst e
        simp at ih
        simp [ih]
      · simp [e]
        split at ih <;> split <;> omega
  have := key n
  split at this <;> omega
theorem inv_row {a b c e : Int32} (hI : zInv N F G K Z M A l R) (hA : A < 400) : zInv (upd N 4 (nI (A + 1))) (zadd F A a b c e) G K Z M (A + 1) l R := ⟨hI.1, hI.2.1, ⟨rfl, by omega⟩, hI.2.2.2.1, hI.2.2.2.2.1, hI.2.2.2.2.2.1, hI.2.2.2.2.2.2.1, hI.2.2.2.2.2.2.2⟩
theorem v_rows {n : Nat} (hn : n ≤ 64) (hI : zInv N F G K Z M A l R) : zInv (upd (upd (upd N 1 0) 2 (nI n)) 4 0) F G K Z 0 0 l n :=
  ⟨hI.1, ⟨rfl, rfl, by omega, hn⟩, ⟨rfl, by omega⟩, fun i hi => absurd hi (by omega), fun i hi => absurd hi (by omega), hI.2.2.2.2.2.1, fun p hp => by
    obtain ⟨m, h1, h2, h3⟩ := hI.2.2.2.2.2.2.1 p hp
    exact ⟨m, h1, h2, by simp [zcnt]⟩, hI.2.2.2.2.2.2.2⟩
theorem v_place {p m : Nat} (hm : m ≤ 64) (hc : zcnt (zqP G (nI p)) M ≤ m) (hI : zInv N F G K Z M A l R) : zInv N (updF F 0 (upd (F 0) p (nI m))) G K Z M A l R :=
  ⟨hI.1, hI.2.1, hI.2.2.1, hI.2.2.2.1, hI.2.2.2.2.1, hI.2.2.2.2.2.1, fun q hq => by
    obtain ⟨m2, h1, h2, h3⟩ := hI.2.2.2.2.2.2.1 q hq
    by_cases e : q = p
    · subst e
      exact ⟨m, hm, by simp [updF, upd], hc⟩
    · exact ⟨m2, h1, by simp [updF, upd, e, h2], h3⟩, hI.2.2.2.2.2.2.2⟩
theorem v_good {g : Nat → Int32} (hI : zInv N F G K Z M A l R) : zInv N (updF F 1 g) G K Z M A l R := ⟨hI.1, hI.2.1, hI.2.2.1, hI.2.2.2.1, hI.2.2.2.2.1, hI.2.2.2.2.2.1, hI.2.2.2.2.2.2.1, hI.2.2.2.2.2.2.2⟩
theorem v_lot {p : Nat} {m : Int32} (hp : p < 8) (hl : l < 16) (hI : zInv N F G K Z M A l R) : zInv (upd N 0 (nI (l + 1))) (updF (updF F 2 (upd (F 2) l (nI p))) 3 (upd (F 3) l m)) G K Z M A (l + 1) R := by
  have e2 : ∀ a, a < l → updF (updF F 2 (upd (F 2) l (nI p))) 3 (upd (F 3) l m) 2 a = F 2 a := fun a ha => by simp [updF, upd, show a ≠ l by omega]
  have e3 : ∀ a, a < l → updF (updF F 2 (upd (F 2) l (nI p))) 3 (upd (F 3) l m) 3 a = F 3 a := fun a ha => by simp [updF, upd, show a ≠ l by omega]
  refine ⟨⟨rfl, by omega⟩, hI.2.1, hI.2.2.1, fun i hi => ?_, hI.2.2.2.2.1, hI.2.2.2.2.2.1, hI.2.2.2.2.2.2.1, fun a ha => ?_⟩
  · obtain ⟨⟨a, ha, h0, h1, h2⟩, h3⟩ := i_un hI hi
    exact ⟨⟨a, by omega, h0, by rw [e2 a ha]; exact h1, by rw [e3 a ha]; exact h2⟩, h3⟩
  · by_cases e : a = l
    · subst e
      exact ⟨p, hp, by simp [updF, upd]⟩
    · obtain ⟨g, h1, h2⟩ := hI.2.2.2.2.2.2.2 a (by omega)
      exact ⟨g, h1, by rw [e2 a (by omega)]; exact h2⟩
/-- a change of numbers that leaves places and containers, and lets who stood stand -/
theorem v_G (hI : zInv N F G K Z M A l R) (h6 : ∀ i, i < M → G' i 6 = G i 6 ∧ zst (G' i) = zst (G i) ∧ G' i 0 = G i 0 ∧ G' i 1 = G i 1 ∧ G' i 2 = G i 2 ∧ G' i 3 = G i 3) (h4 : ∀ i, i < M → ∃ n, 1 ≤ n ∧ n ≤ 1000 ∧ G' i 4 = nI n) (h5 : ∀ i, i < M → ∃ s, s ≤ 5 ∧ G' i 5 = nI s) : zInv N F G' K Z M A l R := by
  refine ⟨hI.1, hI.2.1, hI.2.2.1, fun i hi => ?_, hI.2.2.2.2.1, hI.2.2.2.2.2.1, fun p hp => ?_, hI.2.2.2.2.2.2.2⟩
  · obtain ⟨q1, q2, q3, q4, q5, q6, q7, q8⟩ := i_un hI hi
    obtain ⟨e6, es, e0, e1, e2, e3⟩ := h6 i hi
    refine ⟨by rw [e0, e1, e2]; exact q1, by rw [e3]; exact q2, h4 i hi, h5 i hi, by rw [es, e6]; exact q5, by rw [es, e6]; exact q6, q7, fun c hc => ?_⟩
    obtain ⟨c1, c2⟩ := q8 c hc
    exact ⟨c1, by rw [e6, (h6 c c1).1]; exact c2⟩
  · obtain ⟨m, h1, h2, h3⟩ := hI.2.2.2.2.2.2.1 p hp
    refine ⟨m, h1, h2, ?_⟩
    rw [zcnt_congr (q := zqP G (nI p)) fun i hi => by simp only [zqP, (h6 i hi).1]]
    exact h3
theorem v_Z {n : Int64} (hn : 0 ≤ n) (hI : zInv N F G K Z M A l R) : zInv N F G K (vp_updL Z j n) M A l R := by
  refine ⟨hI.1, hI.2.1, hI.2.2.1, fun i hi => ?_, hI.2.2.2.2.1, hI.2.2.2.2.2.1, hI.2.2.2.2.2.2.1, hI.2.2.2.2.2.2.2⟩
  obtain ⟨q1, q2, q3, q4, q5, q6, q7, q8⟩ := i_un hI hi
  refine ⟨q1, q2, q3, q4, q5, q6, ?_, q8⟩
  simp only [vp_updL]
  split
  · exact hn
  · exact q7
theorem v_day {e : Int32} (hI : zInv N F G K Z M A l R) : zInv (upd N 3 e) F (zxp G e M) K Z M A l R := by
  have h1 : zInv N F (zxp G e M) K Z M A l R := by
    have hx : ∀ i, zxp G e M i = G i ∨ (zxp G e M i = upd (G i) 5 3 ∧ (G i 5 = 0 ∨ G i 5 = 1)) := by
      intro i
      simp only [zxp]
      cases hb : (decide (i < M) && zqX G e i) with
      | false => exact Or.inl rfl
      | true =>
        simp only [Bool.and_eq_true, zqX, decide_eq_true_eq] at hb
        exact Or.inr ⟨rfl, hb.2.1⟩
    refine v_G hI ?_ ?_ ?_
    · intro i hi
      rcases hx i with h | ⟨h, h2⟩ <;> rw [h]
      · exact ⟨rfl, rfl, rfl, rfl, rfl, rfl⟩
      · refine ⟨rfl, ?_, rfl, rfl, rfl, rfl⟩
        rcases h2 with h2 | h2 <;> simp [zst, upd, h2]
    · intro i hi
      rcases hx i with h | ⟨h, h2⟩ <;> rw [h]
      · exact (i_un hI hi).2.2.1
      · exact (i_un hI hi).2.2.1
    · intro i hi
      rcases hx i with h | ⟨h, h2⟩ <;> rw [h]
      · exact (i_un hI hi).2.2.2.1
      · exact ⟨3, by omega, rfl⟩
  exact ⟨h1.1, h1.2.1, h1.2.2.1, h1.2.2.2⟩
theorem zst_up {g : Nat → Int32} {k : Nat} {x : Int32} (h : k ≠ 5) : zst (upd g k x) = zst g := by simp [zst, upd, Ne.symm h]
theorem v_state {r : Int32} (hI : zInv N F G K Z M A l R) (hj : j < M) (hs : zst (G j) = true) (hr : r = 0 ∨ r = 1 ∨ r = 2) : zInv N F (updG G j 5 r) K Z M A l R := by
  refine v_G hI ?_ ?_ ?_
  · intro i hi
    by_cases e : i = j
    · subst e
      refine ⟨by simp [updG, upd], ?_, by simp [updG, upd], by simp [updG, upd], by simp [updG, upd], by simp [updG, upd]⟩
      rw [hs]
      rcases hr with rfl | rfl | rfl <;> simp [updG, upd, zst]
    · simp [updG, e]
  · intro i hi
    by_cases e : i = j
    · subst e; simp [updG, upd]; exact (i_un hI hi).2.2.1
    · simp [updG, e]; exact (i_un hI hi).2.2.1
  · intro i hi
    by_cases e : i = j
    · subst e
      rcases hr with rfl | rfl | rfl
      · exact ⟨0, by omega, by simp [updG, upd]; rfl⟩
      · exact ⟨1, by omega, by simp [updG, upd]; rfl⟩
      · exact ⟨2, by omega, by simp [updG, upd]; rfl⟩
    · simp [updG, e]; exact (i_un hI hi).2.2.2.1
theorem v_pieces {n : Nat} (hI : zInv N F G K Z M A l R) (hj : j < M) (h1 : 1 ≤ n) (h2 : n ≤ 1000) : zInv N F (updG G j 4 (nI n)) K Z M A l R := by
  refine v_G hI ?_ ?_ ?_
  · intro i hi
    by_cases e : i = j
    · subst e
      refine ⟨by simp [updG, upd], by simp only [updG, if_true]; exact zst_up (by decide), by simp [updG, upd], by simp [updG, upd], by simp [updG, upd], by simp [updG, upd]⟩
    · simp [updG, e]
  · intro i hi
    by_cases e : i = j
    · subst e; exact ⟨n, h1, h2, by simp [updG, upd]⟩
    · simp [updG, e]; exact (i_un hI hi).2.2.1
  · intro i hi
    by_cases e : i = j
    · subst e; simp [updG, upd]; exact (i_un hI hi).2.2.2.1
    · simp [updG, e]; exact (i_un hI hi).2.2.2.1
/-- containers taken away -/
theorem zchn_del (h : ∀ c, c < M → K' c = K c ∨ K' c = none) : ∀ {n : Nat} {x : Option Nat}, zchn K M n x → ∃ m, m ≤ n ∧ zchn K' M m x := by
  intro n
  induction n with
  | zero => intro x hx; exact ⟨0, by omega, hx⟩
  | succ n ih =>
    intro x hx
    obtain ⟨c, hc, rfl, h3⟩ := hx
    rcases h c hc with e | e
    · obtain ⟨m, hm, h4⟩ := ih h3
      exact ⟨m + 1, by omega, c, hc, rfl, by rw [e]; exact h4⟩
    · exact ⟨1, by omega, c, hc, rfl, by rw [e]; rfl⟩
theorem zCh_del (h : ∀ c, c < M → K' c = K c ∨ K' c = none) (hC : zCh K M) : zCh K' M := by
  intro i hi
  rcases h i hi with e | e
  · obtain ⟨n, hn, h1⟩ := hC i hi
    obtain ⟨m, hm, h2⟩ := zchn_del h h1
    exact ⟨m, by omega, by rw [e]; exact h2⟩
  · exact ⟨0, by omega, e⟩
theorem v_out (hI : zInv N F G K Z M A l R) (hj : j < M) : zInv N F G (va_up K j none) Z M A l R := by
  have hd : ∀ c, va_up K j none c = K c ∨ va_up K j none c = none := fun c => by
    simp only [va_up]
    split
    · exact Or.inr rfl
    · exact Or.inl rfl
  refine ⟨hI.1, hI.2.1, hI.2.2.1, fun i hi => ?_, zCh_del (fun c _ => hd c) (i_ch hI), fun c c' e => ?_, hI.2.2.2.2.2.2.1, hI.2.2.2.2.2.2.2⟩
  · obtain ⟨q1, q2, q3, q4, q5, q6, q7, q8⟩ := i_un hI hi
    refine ⟨q1, q2, q3, q4, q5, fun hs => ⟨(q6 hs).1, ?_⟩, q7, fun c hc => ?_⟩
    · rcases hd i with e | e
      · rw [e]; exact (q6 hs).2
      · exact e
    · rcases hd i with e | e
      · rw [e] at hc; exact q8 c hc
      · rw [e] at hc; cases hc
  · rcases hd c with e2 | e2
    · rw [e2] at e; exact i_kb hI _ _ e
    · rw [e2] at e; cases e
theorem hk_out (hH : zHK M K H) : zHK M (va_up K j none) (upd H j (-1)) := by
  intro i hi
  simp only [va_up, upd]
  split
  · rfl
  · exact hH i hi
theorem i_cst (hI : zInv N F G K Z M A l R) {i : Nat} (hi : i < M) (h : ¬ K i = none) : zst (G i) = true := by
  cases hs : zst (G i) with
  | true => rfl
  | false => exact absurd ((i_un hI hi).2.2.2.2.2.1 hs).2 h
end ZIV
