/-! the class's cells: N its numbers (lots, made, room, today, rows), F its rows of numbers (most, grams, lotGood, lotLast; of the history units, kinds, days, numbers), G the units' numbers (lot, good, last, owner, pieces, state, place), K their containers, Z their serials -/
def bI (b : Bool) : Int32 := bif b then 1 else 0
def zun (n : Nat) (g : Nat → Int32) (k : Option Nat) (z : Int64) : List Value := [.int (nI n), .int (g 0), .int (g 1), .int (g 2), .int (g 3), .int (g 4), .int (g 5), .int (g 6), zopt k, .long z]
def zrefs : List Value := (List.range 64).map fun i => .ref (i + 11)
def zcell (N : Nat → Int32) (F G : Nat → Nat → Int32) (K : Nat → Option Nat) (Z : Nat → Int64) (k : Nat) : Nat × List Value := match k with
  | 0 => (12, [.ref 1, .ref 2, .ref 3, .ref 4, .ref 5, .ref 6, .int (N 0), .int (N 1), .int (N 2), .int (N 3)])
  | 1 => (0, zints 16 (F 0))
  | 2 => (0, zints 8 (F 1))
  | 3 => (0, zints 16 (F 2))
  | 4 => (0, zints 16 (F 3))
  | 5 => (3, zrefs)
  | 6 => (10, [.ref 7, .ref 8, .ref 9, .ref 10, .int (N 4)])
  | 7 => (0, zints 400 (F 4))
  | 8 => (0, zints 400 (F 5))
  | 9 => (0, zints 400 (F 6))
  | 10 => (0, zints 400 (F 7))
  | n + 11 => (11, zun n (G n) (K n) (Z n))
def zCs (N : Nat → Int32) (F G : Nat → Nat → Int32) (K : Nat → Option Nat) (Z : Nat → Int64) : zH := (List.range 75).map (zcell N F G K Z)
def updF (F : Nat → Nat → Int32) (a : Nat) (g : Nat → Int32) : Nat → Nat → Int32 := fun b => if b = a then g else F b
def updG (G : Nat → Nat → Int32) (i j : Nat) (v : Int32) : Nat → Nat → Int32 := fun a => if a = i then upd (G a) j v else G a
section ZST
variable {N N' : Nat → Int32} {F F' G G' : Nat → Nat → Int32} {K K' : Nat → Option Nat} {Z Z' : Nat → Int64} {tl : zH}
theorem zCs_len : (zCs N F G K Z).length = 75 := by simp [zCs]
theorem zrd75 {k : Nat} (hk : k < 75) : (zCs N F G K Z ++ tl)[k]? = some (zcell N F G K Z k) := by
  rw [List.getElem?_append_left (by rw [zCs_len]; exact hk)]
  simp [zCs, hk]
theorem zcU {i : Nat} (hi : i < 64) : (zCs N F G K Z ++ tl)[i + 11]? = some (10 + 1, zun i (G i) (K i) (Z i)) := zrd75 (by omega)
theorem zc0 : (zCs N F G K Z ++ tl)[0]? = some (10 + 2, [.ref 1, .ref 2, .ref 3, .ref 4, .ref 5, .ref 6, .int (N 0), .int (N 1), .int (N 2), .int (N 3)]) := zrd75 (k := 0) (by omega)
theorem zc6 : (zCs N F G K Z ++ tl)[6]? = some (10 + 0, [.ref 7, .ref 8, .ref 9, .ref 10, .int (N 4)]) := zrd75 (k := 6) (by omega)
theorem zc5 : (zCs N F G K Z ++ tl)[5]? = some (3, zrefs) := zrd75 (k := 5) (by omega)
theorem zrefs_at {i : Nat} (hi : i < 64) : zrefs[i]? = some (.ref (i + 11)) := by simp [zrefs, hi]
theorem zset75 {k : Nat} {c : Nat × List Value} (hk : k < 75) (h1 : zcell N' F' G' K' Z' k = c) (h2 : ∀ j, j ≠ k → zcell N' F' G' K' Z' j = zcell N F G K Z j) : (zCs N F G K Z ++ tl).set k c = zCs N' F' G' K' Z' ++ tl := by
  refine List.ext_getElem? fun i => ?_
  have hl : (zCs N F G K Z ++ tl).length = 75 + tl.length := by rw [List.length_append, zCs_len]
  by_cases hik : k = i
  · subst hik
    rw [List.getElem?_set_self (by omega), zrd75 hk, h1]
  · rw [List.getElem?_set_ne hik]
    by_cases hi : i < 75
    · rw [zrd75 hi, zrd75 hi, h2 i (Ne.symm hik)]
    · rw [List.getElem?_append_right (by rw [zCs_len]; omega), List.getElem?_append_right (by rw [zCs_len]; omega), zCs_len, zCs_len]
theorem zp_N {j : Nat} {v : Int32} (hj : j < 4) : (zCs N F G K Z ++ tl).set 0 (10 + 2, ([.ref 1, .ref 2, .ref 3, .ref 4, .ref 5, .ref 6, .int (N 0), .int (N 1), .int (N 2), .int (N 3)] : List Value).set (6 + j) (.int v)) = zCs (upd N j v) F G K Z ++ tl := by
  refine zset75 (by omega) ?_ ?_
  · rcases (show j = 0 ∨ j = 1 ∨ j = 2 ∨ j = 3 by omega) with rfl | rfl | rfl | rfl <;> rfl
  · intro i hi
    have h4 : upd N j v 4 = N 4 := by simp [upd]; omega
    rcases i with _ | _ | _ | _ | _ | _ | _ | _ | _ | _ | _ | n
    · exact absurd rfl hi
    all_goals first | rfl | (simp only [zcell, h4])
theorem zp_H {v : Int32} : (zCs N F G K Z ++ tl).set 6 (10 + 0, ([.ref 7, .ref 8, .ref 9, .ref 10, .int (N 4)] : List Value).set 4 (.int v)) = zCs (upd N 4 v) F G K Z ++ tl := by
  refine zset75 (by omega) rfl ?_
  intro i hi
  rcases i with _ | _ | _ | _ | _ | _ | _ | _ | _ | _ | _ | n
  all_goals first | rfl | exact absurd rfl hi
/-- the cell of a row of numbers, and its length -/
def zfa (a : Nat) : Nat := match a with
  | 0 => 1
  | 1 => 2
  | 2 => 3
  | 3 => 4
  | n + 4 => n + 7
def zfl (a : Nat) : Nat := match a with
  | 0 => 16
  | 1 => 8
  | 2 => 16
  | 3 => 16
  | _ + 4 => 400
theorem zcF {a : Nat} (ha : a < 8) : (zCs N F G K Z ++ tl)[zfa a]? = some (0, zints (zfl a) (F a)) := by
  rcases (show a = 0 ∨ a = 1 ∨ a = 2 ∨ a = 3 ∨ a = 4 ∨ a = 5 ∨ a = 6 ∨ a = 7 by omega) with rfl | rfl | rfl | rfl | rfl | rfl | rfl | rfl <;> exact zrd75 (by decide)
theorem zp_F {a : Nat} {g : Nat → Int32} (ha : a < 8) : (zCs N F G K Z ++ tl).set (zfa a) (0, zints (zfl a) g) = zCs N (updF F a g) G K Z ++ tl := by
  rcases (show a = 0 ∨ a = 1 ∨ a = 2 ∨ a = 3 ∨ a = 4 ∨ a = 5 ∨ a = 6 ∨ a = 7 by omega) with rfl | rfl | rfl | rfl | rfl | rfl | rfl | rfl
  all_goals
    refine zset75 (by decide) rfl ?_
    intro i hi
    rcases i with _ | _ | _ | _ | _ | _ | _ | _ | _ | _ | _ | n
    all_goals first | rfl | exact absurd rfl hi
theorem zp_G {i j : Nat} {v : Int32} (hi : i < 64) (hj : j < 7) : (zCs N F G K Z ++ tl).set (i + 11) (10 + 1, (zun i (G i) (K i) (Z i)).set (1 + j) (.int v)) = zCs N F (updG G i j v) K Z ++ tl := by
  refine zset75 (by omega) ?_ ?_
  · have : updG G i j v i = upd (G i) j v := by simp [updG]
    simp only [zcell, this]
    rcases (show j = 0 ∨ j = 1 ∨ j = 2 ∨ j = 3 ∨ j = 4 ∨ j = 5 ∨ j = 6 by omega) with rfl | rfl | rfl | rfl | rfl | rfl | rfl <;> rfl
  · intro k hk
    rcases k with _ | _ | _ | _ | _ | _ | _ | _ | _ | _ | _ | n
    all_goals first | rfl | skip
    have hn : n ≠ i := by omega
    simp only [zcell, updG, hn, if_false]
theorem zp_K {i : Nat} {v : Option Nat} (hi : i < 64) : (zCs N F G K Z ++ tl).set (i + 11) (10 + 1, (zun i (G i) (K i) (Z i)).set 8 (zopt v)) = zCs N F G (va_up K i v) Z ++ tl := by
  refine zset75 (by omega) ?_ ?_
  · simp only [zcell, va_up_self]; rfl
  · intro k hk
    rcases k with _ | _ | _ | _ | _ | _ | _ | _ | _ | _ | _ | n
    all_goals first | rfl | skip
    have hn : n ≠ i := by omega
    simp only [zcell, va_up_ne _ _ hn]
theorem zp_Z {i : Nat} {v : Int64} (hi : i < 64) : (zCs N F G K Z ++ tl).set (i + 11) (10 + 1, (zun i (G i) (K i) (Z i)).set 9 (.long v)) = zCs N F G K (vp_updL Z i v) ++ tl := by
  refine zset75 (by omega) ?_ ?_
  · have : vp_updL Z i v i = v := by simp [vp_updL]
    simp only [zcell, this]; rfl
  · intro k hk
    rcases k with _ | _ | _ | _ | _ | _ | _ | _ | _ | _ | _ | n
    all_goals first | rfl | skip
    have hn : n ≠ i := by omega
    simp only [zcell, vp_updL, hn, if_false]
end ZST
