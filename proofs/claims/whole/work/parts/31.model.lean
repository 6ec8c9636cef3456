/-! the reference's cells: the same numbers as the class's, in rows; H the holders (-1 for none), c the code, B the row 'goes' -/
def zmf (j : Nat) : Nat := match j with
  | 0 => 4
  | 1 => 8
  | 2 => 7
  | 3 => 1
  | _ => 16
def zmob (N : Nat → Int32) (c : Int32) : List Value := [.int c, .int (N 3), .ref 76, .ref 77, .int (N 0), .ref 78, .ref 79, .int (N 2), .int (N 1), .ref 80, .ref 81, .ref 82, .ref 83, .ref 84, .ref 85, .ref 86, .int (N 4), .ref 87, .ref 88, .ref 89, .ref 90, .ref 91]
def zmcell (N : Nat → Int32) (F G : Nat → Nat → Int32) (H : Nat → Int32) (Z : Nat → Int64) (c : Int32) (B : Nat → Int32) (k : Nat) : Nat × List Value := match k with
  | 0 => (13, zmob N c)
  | 1 => (0, zints 16 (F 0))
  | 2 => (0, zints 8 (F 1))
  | 3 => (0, zints 16 (F 2))
  | 4 => (0, zints 16 (F 3))
  | 5 => (0, zints 64 (fun i => G i 0))
  | 6 => (0, zints 64 (fun i => G i 3))
  | 7 => (0, zints 64 (fun i => G i 4))
  | 8 => (0, zints 64 (fun i => G i 5))
  | 9 => (0, zints 64 (fun i => G i 6))
  | 10 => (0, zints 64 H)
  | 11 => (1, zlongs 64 Z)
  | 12 => (0, zints 400 (F 4))
  | 13 => (0, zints 400 (F 5))
  | 14 => (0, zints 400 (F 6))
  | 15 => (0, zints 400 (F 7))
  | _ => (2, zints 64 B)
def zMd (N : Nat → Int32) (F G : Nat → Nat → Int32) (H : Nat → Int32) (Z : Nat → Int64) (c : Int32) (B : Nat → Int32) : zH := (List.range 17).map (zmcell N F G H Z c B)
def zmaF (a : Nat) : Nat := match a with
  | 0 => 76
  | 1 => 77
  | 2 => 78
  | 3 => 79
  | n + 4 => n + 87
def zmaG (j : Nat) : Nat := match j with
  | 0 => 80
  | 3 => 81
  | 4 => 82
  | 5 => 83
  | _ => 84
def zcolok (j : Nat) : Bool := match j with
  | 0 => true
  | 3 => true
  | 4 => true
  | 5 => true
  | 6 => true
  | _ => false
section ZMS
variable {sL : Nat} {sx : Nat → Int32} {d y pc : Nat} {L S : List Value} {hF : zH} {o : Outcome}
variable {N N' : Nat → Int32} {F F' G G' : Nat → Nat → Int32} {H H' : Nat → Int32} {Z Z' : Nat → Int64} {c c' : Int32} {B B' : Nat → Int32} {hc t : zH}
theorem zMd_len : (zMd N F G H Z c B).length = 17 := by simp [zMd]
theorem zmrd (h75 : hc.length = 75) {k : Nat} (hk : k < 17) : (hc ++ (zMd N F G H Z c B ++ t))[k + 75]? = some (zmcell N F G H Z c B k) := by
  rw [List.getElem?_append_right (by omega), h75, Nat.add_sub_cancel, List.getElem?_append_left (by rw [zMd_len]; exact hk)]
  simp [zMd, hk]
theorem zmset (h75 : hc.length = 75) {k : Nat} {q : Nat × List Value} (hk : k < 17) (h1 : zmcell N' F' G' H' Z' c' B' k = q) (h2 : ∀ j, j < 17 → j ≠ k → zmcell N' F' G' H' Z' c' B' j = zmcell N F G H Z c B j) : (hc ++ (zMd N F G H Z c B ++ t)).set (k + 75) q = hc ++ (zMd N' F' G' H' Z' c' B' ++ t) := by
  rw [List.set_append_right _ _ (by omega), h75, Nat.add_sub_cancel, List.set_append_left _ _ (by rw [zMd_len]; exact hk)]
  congr 2
  refine List.ext_getElem? fun i => ?_
  by_cases hi : i < 17
  · by_cases hik : k = i
    · subst hik
      rw [List.getElem?_set_self (by rw [zMd_len]; exact hk)]
      simp [zMd, hk, h1]
    · rw [List.getElem?_set_ne hik]
      simp [zMd, hi, h2 i hi (Ne.symm hik)]
  · rw [List.getElem?_eq_none (by rw [List.length_set, zMd_len]; omega), List.getElem?_eq_none (by rw [zMd_len]; omega)]
theorem zR_hs {h h' : zH} (e : h = h') (k : zR sL sx d y pc L S h' o hF) : zR sL sx d y pc L S h o hF := by subst e; exact k
theorem zm0 (h75 : hc.length = 75) : (hc ++ (zMd N F G H Z c B ++ t))[75]? = some (10 + 3, zmob N c) := zmrd (k := 0) h75 (by omega)
theorem zR_putC {ix : Nat} {v : Int32} (hz : zat y pc = some (.putfield ix, 3)) (hp : zpool y ix = some (0, 3, 0)) (h75 : hc.length = 75) (hf : zputok y 3 0 (.int v) 22 = true) (kk : zR sL sx d y (pc + 3) L S (hc ++ (zMd N F G H Z v B ++ t)) o hF) : zR sL sx d y pc L (.int v :: .ref 75 :: S) (hc ++ (zMd N F G H Z c B ++ t)) o hF := by
  refine zR_put hz hp (zm0 h75) hf ?_
  refine zR_hs (zmset (k := 0) (N' := N) (F' := F) (G' := G) (H' := H) (Z' := Z) (c' := v) (B' := B) h75 (by omega) rfl ?_) kk
  intro j hj h0
  rcases j with _ | _ | _ | _ | _ | _ | _ | _ | _ | _ | _ | _ | _ | _ | _ | _ | _ | n
  all_goals first | rfl | exact absurd rfl h0 | omega
theorem zR_putMN (j : Nat) {ix : Nat} {v : Int32} (hz : zat y pc = some (.putfield ix, 3)) (hp : zpool y ix = some (0, 3, zmf j)) (h75 : hc.length = 75) (hj : j < 5) (hf : zputok y 3 (zmf j) (.int v) 22 = true) (kk : zR sL sx d y (pc + 3) L S (hc ++ (zMd (upd N j v) F G H Z c B ++ t)) o hF) : zR sL sx d y pc L (.int v :: .ref 75 :: S) (hc ++ (zMd N F G H Z c B ++ t)) o hF := by
  refine zR_put hz hp (zm0 h75) hf ?_
  refine zR_hs (zmset (k := 0) (N' := upd N j v) (F' := F) (G' := G) (H' := H) (Z' := Z) (c' := c) (B' := B) h75 (by omega) ?_ ?_) kk
  · rcases (show j = 0 ∨ j = 1 ∨ j = 2 ∨ j = 3 ∨ j = 4 by omega) with rfl | rfl | rfl | rfl | rfl <;> rfl
  · intro j hj h0
    rcases j with _ | _ | _ | _ | _ | _ | _ | _ | _ | _ | _ | _ | _ | _ | _ | _ | _ | n
    all_goals first | rfl | exact absurd rfl h0 | omega
theorem zm8 {a : Nat} (ha : a < 8) : a = 0 ∨ a = 1 ∨ a = 2 ∨ a = 3 ∨ a = 4 ∨ a = 5 ∨ a = 6 ∨ a = 7 := by omega
theorem zmF (h75 : hc.length = 75) {a : Nat} (ha : a < 8) : (hc ++ (zMd N F G H Z c B ++ t))[zmaF a]? = some (0, zints (zfl a) (F a)) := by
  rcases zm8 ha with rfl | rfl | rfl | rfl | rfl | rfl | rfl | rfl
  · exact zmrd (k := 1) h75 (by omega)
  · exact zmrd (k := 2) h75 (by omega)
  · exact zmrd (k := 3) h75 (by omega)
  · exact zmrd (k := 4) h75 (by omega)
  · exact zmrd (k := 12) h75 (by omega)
  · exact zmrd (k := 13) h75 (by omega)
  · exact zmrd (k := 14) h75 (by omega)
  · exact zmrd (k := 15) h75 (by omega)
theorem zfl_lt {a : Nat} (ha : a < 8) : zfl a < 2 ^ 31 := by rcases zm8 ha with rfl | rfl | rfl | rfl | rfl | rfl | rfl | rfl <;> decide
theorem zR_ildMF (a : Nat) {j : Nat} (hz : zat y pc = some (.iaload, 1)) (h75 : hc.length = 75) (ha : a < 8) (hj : j < zfl a) (kk : zR sL sx d y (pc + 1) L (.int (F a j) :: S) (hc ++ (zMd N F G H Z c B ++ t)) o hF) : zR sL sx d y pc L (.int (nI j) :: .ref (zmaF a) :: S) (hc ++ (zMd N F G H Z c B ++ t)) o hF := zR_ild hz (zmF h75 ha) hj (zfl_lt ha) kk
theorem zmFs (h75 : hc.length = 75) {a : Nat} {g : Nat → Int32} (ha : a < 8) : (hc ++ (zMd N F G H Z c B ++ t)).set (zmaF a) (0, zints (zfl a) g) = hc ++ (zMd N (updF F a g) G H Z c B ++ t) := by
  rcases zm8 ha with rfl | rfl | rfl | rfl | rfl | rfl | rfl | rfl
  · refine zmset (k := 1) h75 (by omega) rfl ?_
    intro i hi h0
    rcases i with _ | _ | _ | _ | _ | _ | _ | _ | _ | _ | _ | _ | _ | _ | _ | _ | _ | n
    all_goals first | rfl | exact absurd rfl h0
  · refine zmset (k := 2) h75 (by omega) rfl ?_
    intro i hi h0
    rcases i with _ | _ | _ | _ | _ | _ | _ | _ | _ | _ | _ | _ | _ | _ | _ | _ | _ | n
    all_goals first | rfl | exact absurd rfl h0
  · refine zmset (k := 3) h75 (by omega) rfl ?_
    intro i hi h0
    rcases i with _ | _ | _ | _ | _ | _ | _ | _ | _ | _ | _ | _ | _ | _ | _ | _ | _ | n
    all_goals first | rfl | exact absurd rfl h0
  · refine zmset (k := 4) h75 (by omega) rfl ?_
    intro i hi h0
    rcases i with _ | _ | _ | _ | _ | _ | _ | _ | _ | _ | _ | _ | _ | _ | _ | _ | _ | n
    all_goals first | rfl | exact absurd rfl h0
  · refine zmset (k := 12) h75 (by omega) rfl ?_
    intro i hi h0
    rcases i with _ | _ | _ | _ | _ | _ | _ | _ | _ | _ | _ | _ | _ | _ | _ | _ | _ | n
    all_goals first | rfl | exact absurd rfl h0
  · refine zmset (k := 13) h75 (by omega) rfl ?_
    intro i hi h0
    rcases i with _ | _ | _ | _ | _ | _ | _ | _ | _ | _ | _ | _ | _ | _ | _ | _ | _ | n
    all_goals first | rfl | exact absurd rfl h0
  · refine zmset (k := 14) h75 (by omega) rfl ?_
    intro i hi h0
    rcases i with _ | _ | _ | _ | _ | _ | _ | _ | _ | _ | _ | _ | _ | _ | _ | _ | _ | n
    all_goals first | rfl | exact absurd rfl h0
  · refine zmset (k := 15) h75 (by omega) rfl ?_
    intro i hi h0
    rcases i with _ | _ | _ | _ | _ | _ | _ | _ | _ | _ | _ | _ | _ | _ | _ | _ | _ | n
    all_goals first | rfl | exact absurd rfl h0
theorem zR_istMF (a : Nat) {j : Nat} {x : Int32} (hz : zat y pc = some (.iastore, 1)) (h75 : hc.length = 75) (ha : a < 8) (hj : j < zfl a) (kk : zR sL sx d y (pc + 1) L S (hc ++ (zMd N (updF F a (upd (F a) j x)) G H Z c B ++ t)) o hF) : zR sL sx d y pc L (.int x :: .int (nI j) :: .ref (zmaF a) :: S) (hc ++ (zMd N F G H Z c B ++ t)) o hF := by
  refine zR_ist hz (zmF h75 ha) hj (zfl_lt ha) ?_
  rw [zmFs h75 ha]
  exact kk
theorem zmG (h75 : hc.length = 75) {j : Nat} (hj : zcolok j = true) : (hc ++ (zMd N F G H Z c B ++ t))[zmaG j]? = some (0, zints 64 (fun i => G i j)) := by
  rcases j with _ | _ | _ | _ | _ | _ | _ | j
  · exact zmrd (k := 5) h75 (by omega)
  · exact absurd hj (by decide)
  · exact absurd hj (by decide)
  · exact zmrd (k := 6) h75 (by omega)
  · exact zmrd (k := 7) h75 (by omega)
  · exact zmrd (k := 8) h75 (by omega)
  · exact zmrd (k := 9) h75 (by omega)
  · exact absurd hj (by simp [zcolok])
theorem zR_ildMG (j : Nat) {i : Nat} (hz : zat y pc = some (.iaload, 1)) (h75 : hc.length = 75) (hj : zcolok j = true) (hi : i < 64) (kk : zR sL sx d y (pc + 1) L (.int (G i j) :: S) (hc ++ (zMd N F G H Z c B ++ t)) o hF) : zR sL sx d y pc L (.int (nI i) :: .ref (zmaG j) :: S) (hc ++ (zMd N F G H Z c B ++ t)) o hF := zR_ild hz (zmG h75 hj) hi (by omega) kk
theorem updG_col {i j : Nat} {x : Int32} : (fun a => updG G i j x a j) = upd (fun a => G a j) i x := by
  funext a
  by_cases h : a = i <;> simp [updG, upd, h]
theorem updG_ne {i j k : Nat} {x : Int32} (h : k ≠ j) : (fun a => updG G i j x a k) = fun a => G a k := by
  funext a
  by_cases h2 : a = i <;> simp [updG, upd, h, h2]
theorem zmGs (h75 : hc.length = 75) {i j : Nat} {x : Int32} (hj : zcolok j = true) : (hc ++ (zMd N F G H Z c B ++ t)).set (zmaG j) (0, zints 64 (upd (fun a => G a j) i x)) = hc ++ (zMd N F (updG G i j x) H Z c B ++ t) := by
  rcases j with _ | _ | _ | _ | _ | _ | _ | j
  · refine zmset (k := 5) h75 (by omega) (by simp only [zmcell, updG_col]) ?_
    intro k hk h0
    rcases k with _ | _ | _ | _ | _ | _ | _ | _ | _ | _ | _ | _ | _ | _ | _ | _ | _ | n
    all_goals first | rfl | exact absurd rfl h0 | (simp only [zmcell, updG_ne (show (3 : Nat) ≠ 0 by decide)]; done) | (simp only [zmcell, updG_ne (show (4 : Nat) ≠ 0 by decide)]; done) | (simp only [zmcell, updG_ne (show (5 : Nat) ≠ 0 by decide)]; done) | (simp only [zmcell, updG_ne (show (6 : Nat) ≠ 0 by decide)]; done)
  · exact absurd hj (by decide)
  · exact absurd hj (by decide)
  · refine zmset (k := 6) h75 (by omega) (by simp only [zmcell, updG_col]) ?_
    intro k hk h0
    rcases k with _ | _ | _ | _ | _ | _ | _ | _ | _ | _ | _ | _ | _ | _ | _ | _ | _ | n
    all_goals first | rfl | exact absurd rfl h0 | (simp only [zmcell, updG_ne (show (0 : Nat) ≠ 3 by decide)]; done) | (simp only [zmcell, updG_ne (show (4 : Nat) ≠ 3 by decide)]; done) | (simp only [zmcell, updG_ne (show (5 : Nat) ≠ 3 by decide)]; done) | (simp only [zmcell, updG_ne (show (6 : Nat) ≠ 3 by decide)]; done)
  · refine zmset (k := 7) h75 (by omega) (by simp only [zmcell, updG_col]) ?_
    intro k hk h0
    rcases k with _ | _ | _ | _ | _ | _ | _ | _ | _ | _ | _ | _ | _ | _ | _ | _ | _ | n
    all_goals first | rfl | exact absurd rfl h0 | (simp only [zmcell, updG_ne (show (0 : Nat) ≠ 4 by decide)]; done) | (simp only [zmcell, updG_ne (show (3 : Nat) ≠ 4 by decide)]; done) | (simp only [zmcell, updG_ne (show (5 : Nat) ≠ 4 by decide)]; done) | (simp only [zmcell, updG_ne (show (6 : Nat) ≠ 4 by decide)]; done)
  · refine zmset (k := 8) h75 (by omega) (by simp only [zmcell, updG_col]) ?_
    intro k hk h0
    rcases k with _ | _ | _ | _ | _ | _ | _ | _ | _ | _ | _ | _ | _ | _ | _ | _ | _ | n
    all_goals first | rfl | exact absurd rfl h0 | (simp only [zmcell, updG_ne (show (0 : Nat) ≠ 5 by decide)]; done) | (simp only [zmcell, updG_ne (show (3 : Nat) ≠ 5 by decide)]; done) | (simp only [zmcell, updG_ne (show (4 : Nat) ≠ 5 by decide)]; done) | (simp only [zmcell, updG_ne (show (6 : Nat) ≠ 5 by decide)]; done)
  · refine zmset (k := 9) h75 (by omega) (by simp only [zmcell, updG_col]) ?_
    intro k hk h0
    rcases k with _ | _ | _ | _ | _ | _ | _ | _ | _ | _ | _ | _ | _ | _ | _ | _ | _ | n
    all_goals first | rfl | exact absurd rfl h0 | (simp only [zmcell, updG_ne (show (0 : Nat) ≠ 6 by decide)]; done) | (simp only [zmcell, updG_ne (show (3 : Nat) ≠ 6 by decide)]; done) | (simp only [zmcell, updG_ne (show (4 : Nat) ≠ 6 by decide)]; done) | (simp only [zmcell, updG_ne (show (5 : Nat) ≠ 6 by decide)]; done)
  · exact absurd hj (by simp [zcolok])
theorem zR_istMG (j : Nat) {i : Nat} {x : Int32} (hz : zat y pc = some (.iastore, 1)) (h75 : hc.length = 75) (hj : zcolok j = true) (hi : i < 64) (kk : zR sL sx d y (pc + 1) L S (hc ++ (zMd N F (updG G i j x) H Z c B ++ t)) o hF) : zR sL sx d y pc L (.int x :: .int (nI i) :: .ref (zmaG j) :: S) (hc ++ (zMd N F G H Z c B ++ t)) o hF := by
  refine zR_ist hz (zmG h75 hj) hi (by omega) ?_
  rw [zmGs h75 hj]
  exact kk
theorem zR_ildMH {i : Nat} (hz : zat y pc = some (.iaload, 1)) (h75 : hc.length = 75) (hi : i < 64) (kk : zR sL sx d y (pc + 1) L (.int (H i) :: S) (hc ++ (zMd N F G H Z c B ++ t)) o hF) : zR sL sx d y pc L (.int (nI i) :: .ref 85 :: S) (hc ++ (zMd N F G H Z c B ++ t)) o hF := zR_ild hz (zmrd (k := 10) h75 (by omega)) hi (by omega) kk
theorem zR_istMH {i : Nat} {x : Int32} (hz : zat y pc = some (.iastore, 1)) (h75 : hc.length = 75) (hi : i < 64) (kk : zR sL sx d y (pc + 1) L S (hc ++ (zMd N F G (upd H i x) Z c B ++ t)) o hF) : zR sL sx d y pc L (.int x :: .int (nI i) :: .ref 85 :: S) (hc ++ (zMd N F G H Z c B ++ t)) o hF := by
  refine zR_ist hz (zmrd (k := 10) h75 (by omega)) hi (by omega) ?_
  refine zR_hs (zmset (k := 10) (N' := N) (F' := F) (G' := G) (H' := upd H i x) (Z' := Z) (c' := c) (B' := B) h75 (by omega) rfl ?_) kk
  intro k hk h0
  rcases k with _ | _ | _ | _ | _ | _ | _ | _ | _ | _ | _ | _ | _ | _ | _ | _ | _ | n
  all_goals first | rfl | exact absurd rfl h0
theorem zR_lldMZ {i : Nat} (hz : zat y pc = some (.laload, 1)) (h75 : hc.length = 75) (hi : i < 64) (kk : zR sL sx d y (pc + 1) L (.long (Z i) :: S) (hc ++ (zMd N F G H Z c B ++ t)) o hF) : zR sL sx d y pc L (.int (nI i) :: .ref 86 :: S) (hc ++ (zMd N F G H Z c B ++ t)) o hF := zR_lld hz (zmrd (k := 11) h75 (by omega)) hi (by omega) kk
theorem zR_lstMZ {i : Nat} {x : Int64} (hz : zat y pc = some (.lastore, 1)) (h75 : hc.length = 75) (hi : i < 64) (kk : zR sL sx d y (pc + 1) L S (hc ++ (zMd N F G H (vp_updL Z i x) c B ++ t)) o hF) : zR sL sx d y pc L (.long x :: .int (nI i) :: .ref 86 :: S) (hc ++ (zMd N F G H Z c B ++ t)) o hF := by
  refine zR_lst hz (zmrd (k := 11) h75 (by omega)) hi (by omega) ?_
  refine zR_hs (zmset (k := 11) (N' := N) (F' := F) (G' := G) (H' := H) (Z' := vp_updL Z i x) (c' := c) (B' := B) h75 (by omega) rfl ?_) kk
  intro k hk h0
  rcases k with _ | _ | _ | _ | _ | _ | _ | _ | _ | _ | _ | _ | _ | _ | _ | _ | _ | n
  all_goals first | rfl | exact absurd rfl h0
theorem zR_bldMB {i : Nat} (hz : zat y pc = some (.baload, 1)) (h75 : hc.length = 75) (hi : i < 64) (kk : zR sL sx d y (pc + 1) L (.int (B i) :: S) (hc ++ (zMd N F G H Z c B ++ t)) o hF) : zR sL sx d y pc L (.int (nI i) :: .ref 91 :: S) (hc ++ (zMd N F G H Z c B ++ t)) o hF := zR_bld hz (zmrd (k := 16) h75 (by omega)) hi (by omega) kk
theorem zR_bstMB {i : Nat} {x : Int32} (hz : zat y pc = some (.bastore, 1)) (h75 : hc.length = 75) (hi : i < 64) (hx : x = 0 ∨ x = 1) (kk : zR sL sx d y (pc + 1) L S (hc ++ (zMd N F G H Z c (upd B i x) ++ t)) o hF) : zR sL sx d y pc L (.int x :: .int (nI i) :: .ref 91 :: S) (hc ++ (zMd N F G H Z c B ++ t)) o hF := by
  refine zR_bst hz (zmrd (k := 16) h75 (by omega)) hi (by omega) hx ?_
  refine zR_hs (zmset (k := 16) (N' := N) (F' := F) (G' := G) (H' := H) (Z' := Z) (c' := c) (B' := upd B i x) h75 (by omega) rfl ?_) kk
  intro k hk h0
  rcases k with _ | _ | _ | _ | _ | _ | _ | _ | _ | _ | _ | _ | _ | _ | _ | _ | _ | n
  all_goals first | rfl | exact absurd rfl h0 | omega
end ZMS
