/-! .. the acts that move, put in, take away -/
section ZIW
variable {N N' : Nat → Int32} {F F' G G' : Nat → Nat → Int32} {K K' : Nat → Option Nat} {H : Nat → Int32} {Z : Nat → Int64} {M A l R j i : Nat}
theorem zchn_keep {v : Option Nat} : ∀ {n f : Nat} {x : Option Nat}, zchn K M n x → n ≤ f → zlw K j f x = false → zchn (va_up K j v) M n x := by
  intro n
  induction n with
  | zero => intro f x hx _ _; exact hx
  | succ n ih =>
    intro f x hx hf hz
    obtain ⟨c, hc, rfl, h3⟩ := hx
    cases f with
    | zero => omega
    | succ f =>
      simp only [zlw, Bool.or_eq_false_iff, decide_eq_false_iff_not] at hz
      exact ⟨c, hc, rfl, by rw [va_up_ne K v hz.1]; exact ih h3 (by omega) hz.2⟩
theorem zchn_in {v : Option Nat} {m q : Nat} (hm : zchn K M m (K j)) (hq : zchn (va_up K j v) M q v) : ∀ {n f : Nat} {x : Option Nat}, zchn K M n x → zlw K j f x = true → m + 1 ≤ n ∧ zchn (va_up K j v) M (n - m + q) x := by
  intro n
  induction n with
  | zero => intro f x hx hz; cases hx; cases f <;> simp [zlw] at hz
  | succ n ih =>
    intro f x hx hz
    obtain ⟨c, hc, rfl, h3⟩ := hx
    cases f with
    | zero => simp [zlw] at hz
    | succ f =>
      by_cases e : c = j
      · subst e
        have := zchn_det h3 hm
        subst this
        refine ⟨by omega, ?_⟩
        rw [show n + 1 - n + q = q + 1 by omega]
        exact ⟨c, hc, rfl, by rw [va_up_self]; exact hq⟩
      · simp only [zlw, e, decide_false, Bool.false_or] at hz
        obtain ⟨h4, h5⟩ := ih h3 hz
        refine ⟨by omega, ?_⟩
        rw [show n + 1 - m + q = n - m + q + 1 by omega]
        exact ⟨c, hc, rfl, by rw [va_up_ne K v e]; exact h5⟩
theorem zmx_in {p : Nat → Bool} {f : Nat → Nat} {b : Nat} : ∀ {n i : Nat}, i < n → p i = true → f i ≤ zmx p f b n := by
  intro n
  induction n with
  | zero => intro i hi; omega
  | succ n ih =>
    intro i hi hp
    simp only [zmx]
    by_cases e : i = n
    · subst e; rw [hp]; simp only [cond_true]; omega
    · have := ih (show i < n by omega) hp
      cases p n <;> simp <;> omega
theorem v_into {w : Nat} (hI : zInv N F G K Z M A l R) (hj : j < M) (hw : w < M) (hs : zst (G j) = true) (hs2 : zst (G w) = true) (h6 : G j 6 = G w 6) (hne : ¬ j = w) (hnw : zlw K j 4 (K w) = false) (hd : nI (zdq G K w) + (nI (zmx (zqW K j) (zdq G K) (zdq G K j) M) - nI (zdq G K j) + 1) ≤ 5) : zInv N F G (va_up K j (some w)) Z M A l R := by
  have hC := i_ch hI
  obtain ⟨nw, hnw4, cw⟩ := hC w hw
  obtain ⟨nj, hnj4, cj⟩ := hC j hj
  have ew : zde K w = nw + 1 := by rw [zde, zdp_fuel cw hnw4]
  have ej : zde K j = nj + 1 := by rw [zde, zdp_fuel cj hnj4]
  have hge : zde K j ≤ zmx (zqW K j) (zde K) (zde K j) M := zmx_ge M
  have hle : zmx (zqW K j) (zde K) (zde K j) M ≤ 5 := zmx_le (zde_le K j) (zde_le K) M
  rw [← i_lev hI hs hs2, nI_sub1 hge, nI_add] at hd
  have hd2 : zde K w + (zmx (zqW K j) (zde K) (zde K j) M - zde K j + 1) ≤ 5 := (nI_leI (b := 5) (by omega) (by omega)).mp hd
  have cq1 : zchn (va_up K j (some w)) M (nw + 1) (some w) := ⟨w, hw, rfl, by rw [va_up_ne K (some w) (Ne.symm hne)]; exact zchn_keep cw hnw4 hnw⟩
  refine ⟨hI.1, hI.2.1, hI.2.2.1, fun i hi => ?_, fun i hi => ?_, zKb_up (i_kb hI) (fun c e => by cases e; have := i_m hI; omega), hI.2.2.2.2.2.2.1, hI.2.2.2.2.2.2.2⟩
  · obtain ⟨q1, q2, q3, q4, q5, q6, q7, q8⟩ := i_un hI hi
    by_cases e : i = j
    · subst e
      refine ⟨q1, q2, q3, q4, q5, fun h => (by rw [hs] at h; cases h), q7, fun c hc => ?_⟩
      rw [va_up_self] at hc
      cases hc
      exact ⟨hw, h6⟩
    · rw [zUn, va_up_ne K (some w) e]
      exact i_un hI hi
  · by_cases e : i = j
    · subst e
      rw [va_up_self]
      exact ⟨nw + 1, by omega, cq1⟩
    · rw [va_up_ne K (some w) e]
      obtain ⟨n, hn, cn⟩ := hC i hi
      cases hb : zlw K j 4 (K i) with
      | false => exact ⟨n, hn, zchn_keep cn hn hb⟩
      | true =>
        obtain ⟨h1, h2⟩ := zchn_in cj cq1 cn hb
        refine ⟨n - nj + (nw + 1), ?_, h2⟩
        have h3 : zde K i ≤ zmx (zqW K j) (zde K) (zde K j) M := zmx_in hi hb
        have ei : zde K i = n + 1 := by rw [zde, zdp_fuel cn hn]
        omega
theorem hk_into {w : Nat} (hH : zHK M K H) : zHK M (va_up K j (some w)) (upd H j (nI w)) := by
  intro i hi
  simp only [va_up, upd]
  split
  · rfl
  · exact hH i hi
theorem zlw_step (hC : zCh K M) {c : Nat} (hi : i < M) (e : K i = some c) : zlw K j 4 (K i) = (decide (c = j) || zlw K j 4 (K c)) := by
  obtain ⟨n, hn, h1⟩ := hC i hi
  rw [e] at h1 ⊢
  obtain ⟨m, rfl, hc, h2⟩ := zchn_some h1
  simp only [zlw]
  rw [show zlw K j 3 (K c) = zlw K j m (K c) from zlw_fuel h2 (by omega), show zlw K j 4 (K c) = zlw K j m (K c) from zlw_fuel h2 (by omega)]
theorem ztak_at {s : Int32} (hi : i < M) : ztak G K j s M i = bif zgb K j i then upd (upd (G i) 5 s) 6 (-1) else G i := by simp only [ztak, zgb, decide_eq_true hi, Bool.true_and]
theorem v_take {s : Nat} (hI : zInv N F G K Z M A l R) (hs : s = 4 ∨ s = 5) : zInv N F (ztak G K j (nI s) M) (zKn (ztak G K j (nI s) M) K M) Z M A l R := by
  have hst : ∀ g : Nat → Int32, zst (upd (upd g 5 (nI s)) 6 (-1)) = false := by
    intro g
    rcases hs with rfl | rfl
    · refine decide_eq_false fun q => q.1 rfl
    · refine decide_eq_false fun q => q.2 rfl
  have hk : ∀ i, i < M → zKn (ztak G K j (nI s) M) K M i = bif zgb K j i then none else K i := by
    intro i hi
    simp only [zKn, decide_eq_true hi, Bool.true_and, ztak_at hi]
    cases hb : zgb K j i with
    | true => simp only [cond_true, hst, Bool.not_false]
    | false =>
      simp only [cond_false]
      cases hz : zst (G i) with
      | true => rfl
      | false => simp only [Bool.not_false, cond_true, ((i_un hI hi).2.2.2.2.2.1 hz).2]
  refine ⟨hI.1, hI.2.1, hI.2.2.1, fun i hi => ?_, zCh_del (fun c hc => ?_) (i_ch hI), fun c c' e => ?_, fun p hp => ?_, hI.2.2.2.2.2.2.2⟩
  · obtain ⟨q1, q2, q3, q4, q5, q6, q7, q8⟩ := i_un hI hi
    rw [zUn, ztak_at hi, hk i hi]
    cases hb : zgb K j i with
    | true =>
      simp only [cond_true, hst]
      refine ⟨q1, q2, q3, ⟨s, by omega, rfl⟩, fun h => (by cases h), fun _ => ⟨rfl, by first | rfl | trivial⟩, q7, fun c hc => (by cases hc)⟩
    | false =>
      simp only [cond_false]
      refine ⟨q1, q2, q3, q4, q5, q6, q7, fun c hc => ?_⟩
      obtain ⟨c1, c2⟩ := q8 c hc
      refine ⟨c1, ?_⟩
      have e1 : zgb K j c = false := by
        simp only [zgb, Bool.or_eq_false_iff] at hb
        rw [zlw_step (i_ch hI) hi hc] at hb
        simp only [zgb]
        exact hb.2
      rw [ztak_at c1, e1]
      exact c2
  · rw [hk c hc]
    cases zgb K j c with
    | true => exact Or.inr rfl
    | false => exact Or.inl rfl
  · simp only [zKn] at e
    cases hb : (decide (c < M) && !zst (ztak G K j (nI s) M c)) with
    | true => rw [hb] at e; cases e
    | false => rw [hb] at e; exact i_kb hI _ _ e
  · obtain ⟨m, h1, h2, h3⟩ := hI.2.2.2.2.2.2.1 p hp
    refine ⟨m, h1, h2, Nat.le_trans (zcnt_sub fun i hi hq => ?_) h3⟩
    simp only [zqP, ztak_at hi] at hq ⊢
    cases hb : zgb K j i with
    | true =>
      rw [hb] at hq
      have : (-1 : Int32) = nI p := of_decide_eq_true hq
      exact absurd this.symm (zsk_ne (c := p) (by omega))
    | false => rw [hb] at hq; exact hq
theorem hk_take {s : Nat} (hI : zInv N F G K Z M A l R) (hs : s = 4 ∨ s = 5) (hH : zHK M K H) : zHK M (zKn (ztak G K j (nI s) M) K M) (zhl H K j M) := by
  intro i hi
  have hst : ∀ g : Nat → Int32, zst (upd (upd g 5 (nI s)) 6 (-1)) = false := by
    intro g
    rcases hs with rfl | rfl
    · refine decide_eq_false fun q => q.1 rfl
    · refine decide_eq_false fun q => q.2 rfl
  simp only [zKn, zhl, decide_eq_true hi, Bool.true_and, ztak_at hi]
  cases hb : zgb K j i with
  | true => simp only [cond_true, hst, Bool.not_false]; rfl
  | false =>
    simp only [cond_false]
    cases hz : zst (G i) with
    | true => exact hH i hi
    | false => rw [hH i hi, ((i_un hI hi).2.2.2.2.2.1 hz).2]; rfl
theorem i_cp (hI : zInv N F G K Z M A l R) {p : Nat} (hp : p < 16) {x : Nat} (hx : x ≤ 64) (q : nI (zcnt (zqP G (nI p)) M) + nI x ≤ F 0 p) : ∃ m, m ≤ 64 ∧ F 0 p = nI m ∧ zcnt (zqP G (nI p)) M + x ≤ m := by
  obtain ⟨m, h1, h2, h3⟩ := hI.2.2.2.2.2.2.1 p hp
  refine ⟨m, h1, h2, ?_⟩
  rw [h2, nI_add] at q
  exact (nI_leI (by omega) (by omega)).mp q
theorem nI_ne {a b : Nat} (ha : a < 2 ^ 31) (hb : b < 2 ^ 31) (h : a ≠ b) : ¬ nI a = nI b := fun q => h ((nI_eq ha hb).mp q)
theorem v_found {p s : Nat} (hI : zInv N F G K Z M A l R) (hj : j < M) (h4 : G j 5 = 4) (hs : s = 1 ∨ s = 3) (hp : p < 16) (q : nI (zcnt (zqP G (nI p)) M) + 1 ≤ F 0 p) : zInv N F (updG (updG G j 5 (nI s)) j 6 (nI p)) (va_up K j none) Z M A l R := by
  have hz : zst (G j) = false := decide_eq_false fun q => q.1 h4
  obtain ⟨p6, pk⟩ := (i_un hI hj).2.2.2.2.2.1 hz
  have eK : va_up K j none = K := by
    funext i
    simp only [va_up]
    split
    · rename_i e; rw [e, pk]
    · rfl
  have hno : ∀ i, i < M → ¬ K i = some j := by
    intro i hi e
    have h1 := i_cst hI hi (by rw [e]; simp)
    obtain ⟨p', h2, h3⟩ := (i_un hI hi).2.2.2.2.1 h1
    have h5 := ((i_un hI hi).2.2.2.2.2.2.2 j e).2
    rw [h3, p6] at h5
    exact zsk_ne (c := p') (by omega) h5
  have ej : updG (updG G j 5 (nI s)) j 6 (nI p) j = upd (upd (G j) 5 (nI s)) 6 (nI p) := by simp [updG]
  have ei : ∀ i, i ≠ j → updG (updG G j 5 (nI s)) j 6 (nI p) i = G i := fun i h => by simp [updG, h]
  rw [eK]
  refine ⟨hI.1, hI.2.1, hI.2.2.1, fun i hi => ?_, i_ch hI, i_kb hI, fun p2 hp2 => ?_, hI.2.2.2.2.2.2.2⟩
  · obtain ⟨q1, q2, q3, q4, q5, q6, q7, q8⟩ := i_un hI hi
    by_cases e : i = j
    · subst e
      rw [zUn, ej]
      refine ⟨q1, q2, q3, ⟨s, by omega, rfl⟩, fun _ => ⟨p, hp, rfl⟩, fun h => ?_, q7, fun c hc => (by rw [pk] at hc; cases hc)⟩
      rcases hs with rfl | rfl <;> exact absurd h (by simp [zst, upd, nI])
    · rw [zUn, ei i e]
      refine ⟨q1, q2, q3, q4, q5, q6, q7, fun c hc => ?_⟩
      obtain ⟨c1, c2⟩ := q8 c hc
      refine ⟨c1, ?_⟩
      rw [ei c fun e2 => hno i hi (by rw [hc, e2])]
      exact c2
  · by_cases e : p2 = p
    · subst e
      obtain ⟨m, h1, h2, h3⟩ := i_cp (x := 1) hI hp2 (by omega) q
      refine ⟨m, h1, h2, Nat.le_trans (zcnt_or (q := zqP G (nI p2)) (r := fun i => decide (i = j)) fun i hi hq => ?_) (Nat.le_trans (Nat.add_le_add_left (zcnt_one j M) _) h3)⟩
      by_cases e2 : i = j
      · exact Or.inr (decide_eq_true e2)
      · simp only [zqP, ei i e2] at hq
        exact Or.inl hq
    · obtain ⟨m, h1, h2, h3⟩ := hI.2.2.2.2.2.2.1 p2 hp2
      refine ⟨m, h1, h2, Nat.le_trans (zcnt_sub fun i hi hq => ?_) h3⟩
      by_cases e2 : i = j
      · subst e2
        simp only [zqP, ej] at hq
        have : nI p = nI p2 := of_decide_eq_true hq
        exact absurd this (nI_ne (by omega) (by omega) (Ne.symm e))
      · simp only [zqP, ei i e2] at hq
        exact hq
theorem hk_found (hH : zHK M K H) (hI : zInv N F G K Z M A l R) (hj : j < M) (h4 : G j 5 = 4) : zHK M (va_up K j none) H := by
  have hz : zst (G j) = false := decide_eq_false fun q => q.1 h4
  intro i hi
  simp only [va_up]
  split
  · rename_i e; subst e; rw [hH i hi, ((i_un hI hi).2.2.2.2.2.1 hz).2]
  · exact hH i hi
end ZIW
