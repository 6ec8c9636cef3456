/-! a unit's own methods, reads -/
def zst (g : Nat → Int32) : Bool := decide (¬ g 5 = 4 ∧ ¬ g 5 = 5)
theorem bI_d (P : Prop) (q : Decidable P) (h : P) : bI (@decide P q) = 1 := by rw [decide_eq_true h]; rfl
theorem bI_n (P : Prop) (q : Decidable P) (h : ¬ P) : bI (@decide P q) = 0 := by rw [decide_eq_false h]; rfl
section ZU
variable {sL : Nat} {sx : Nat → Int32} {d : Nat} {h : zH} {n : Nat} {g : Nat → Int32} {k : Option Nat} {z : Int64}
theorem m_stands (hU : h[n + 11]? = some (10 + 1, zun n g k z)) : zMe sL sx d 9 [.ref (n + 11)] h (.returned (some (.int (bI (zst g))))) h := by
  show zR sL sx d 9 0 [.ref (n + 11)] [] h _ _
  repeat (first | refine zR_s rfl ?_ | refine zR_get rfl rfl hU rfl ?_)
  refine zR_iceq rfl rfl (fun c1 => ?_) (fun c1 => ?_)
  · replace c1 : g 5 = 4 := c1
    repeat (first | refine zR_s rfl ?_ | refine zR_get rfl rfl hU rfl ?_)
    rw [zst, bI_n _ _ (by simp [c1])]
    exact zR_ret rfl rfl
  · replace c1 : ¬ g 5 = 4 := c1
    repeat (first | refine zR_s rfl ?_ | refine zR_get rfl rfl hU rfl ?_)
    refine zR_iceq rfl rfl (fun c2 => ?_) (fun c2 => ?_)
    · replace c2 : g 5 = 5 := c2
      repeat (first | refine zR_s rfl ?_ | refine zR_get rfl rfl hU rfl ?_)
      rw [zst, bI_n _ _ (by simp [c2])]
      exact zR_ret rfl rfl
    · replace c2 : ¬ g 5 = 5 := c2
      repeat (first | refine zR_s rfl ?_ | refine zR_get rfl rfl hU rfl ?_)
      rw [zst, bI_d _ _ ⟨c1, c2⟩]
      exact zR_ret rfl rfl
theorem m_isOver {day : Int32} (hU : h[n + 11]? = some (10 + 1, zun n g k z)) : zMe sL sx d 10 [.ref (n + 11), .int day] h (.returned (some (.int (bI (decide (g 2 < day)))))) h := by
  show zR sL sx d 10 0 [.ref (n + 11), .int day] [] h _ _
  repeat (first | refine zR_s rfl ?_ | refine zR_get rfl rfl hU rfl ?_)
  refine zR_icle rfl rfl (fun c1 => ?_) (fun c1 => ?_)
  · repeat (first | refine zR_s rfl ?_ | refine zR_get rfl rfl hU rfl ?_)
    rw [bI_n _ _ (Int32.not_lt.mpr c1)]
    exact zR_ret rfl rfl
  · repeat (first | refine zR_s rfl ?_ | refine zR_get rfl rfl hU rfl ?_)
    rw [bI_d _ _ (Int32.not_le.mp c1)]
    exact zR_ret rfl rfl
/-- does a number that may be -1 for any fit? -/
def zany1 (w x : Int32) : Bool := decide (w = -1 ∨ w = x)
theorem m_matches {a b c : Int32} (hU : h[n + 11]? = some (10 + 1, zun n g k z)) : zMe sL sx d 15 [.ref (n + 11), .int a, .int b, .int c] h (.returned (some (.int (bI (zany1 a (g 0) && zany1 b (g 3) && zany1 c (g 5)))))) h := by
  show zR sL sx d 15 0 [.ref (n + 11), .int a, .int b, .int c] [] h _ _
  have hno : ∀ (q : Bool), q = false → zR sL sx d 15 43 [.ref (n + 11), .int a, .int b, .int c] [] h (.returned (some (.int (bI q)))) h := by
    intro q hq
    subst hq
    repeat (first | refine zR_s rfl ?_ | refine zR_get rfl rfl hU rfl ?_)
    exact zR_ret rfl rfl
  have h3 : zany1 a (g 0) = true → zany1 b (g 3) = true → zR sL sx d 15 26 [.ref (n + 11), .int a, .int b, .int c] [] h (.returned (some (.int (bI (zany1 a (g 0) && zany1 b (g 3) && zany1 c (g 5)))))) h := by
    intro q1 q2
    have yes : zany1 c (g 5) = true → zR sL sx d 15 39 [.ref (n + 11), .int a, .int b, .int c] [] h (.returned (some (.int (bI (zany1 a (g 0) && zany1 b (g 3) && zany1 c (g 5)))))) h := by
      intro q3
      rw [q1, q2, q3]
      repeat (first | refine zR_s rfl ?_ | refine zR_get rfl rfl hU rfl ?_)
      exact zR_ret rfl rfl
    repeat (first | refine zR_s rfl ?_ | refine zR_get rfl rfl hU rfl ?_)
    refine zR_iceq rfl rfl (fun c1 => ?_) (fun c1 => ?_)
    · exact yes (by simp [zany1]; exact Or.inl c1)
    · repeat (first | refine zR_s rfl ?_ | refine zR_get rfl rfl hU rfl ?_)
      refine zR_icne rfl rfl (fun c2 => ?_) (fun c2 => ?_)
      · exact hno _ (by rw [q1, q2]; simp [zany1]; exact ⟨c1, c2⟩)
      · exact yes (by simp [zany1]; exact Or.inr c2)
  have h2 : zany1 a (g 0) = true → zR sL sx d 15 13 [.ref (n + 11), .int a, .int b, .int c] [] h (.returned (some (.int (bI (zany1 a (g 0) && zany1 b (g 3) && zany1 c (g 5)))))) h := by
    intro q1
    repeat (first | refine zR_s rfl ?_ | refine zR_get rfl rfl hU rfl ?_)
    refine zR_iceq rfl rfl (fun c1 => ?_) (fun c1 => ?_)
    · exact h3 q1 (by simp [zany1]; exact Or.inl c1)
    · repeat (first | refine zR_s rfl ?_ | refine zR_get rfl rfl hU rfl ?_)
      refine zR_icne rfl rfl (fun c2 => ?_) (fun c2 => ?_)
      · exact hno _ (by rw [q1]; simp [zany1]; intro q; rcases q with q | q; exact absurd q c1; exact absurd q c2)
      · exact h3 q1 (by simp [zany1]; exact Or.inr c2)
  repeat (first | refine zR_s rfl ?_ | refine zR_get rfl rfl hU rfl ?_)
  refine zR_iceq rfl rfl (fun c1 => ?_) (fun c1 => ?_)
  · exact h2 (by simp [zany1]; exact Or.inl c1)
  · repeat (first | refine zR_s rfl ?_ | refine zR_get rfl rfl hU rfl ?_)
    refine zR_icne rfl rfl (fun c2 => ?_) (fun c2 => ?_)
    · exact hno _ (by simp [zany1]; intro q; rcases q with q | q; exact absurd q c1; exact absurd q c2)
    · exact h2 (by simp [zany1]; exact Or.inr c2)
end ZU
