/-! the class's cells: facts and writes as rules -/
section ZCR
variable {sL : Nat} {sx : Nat → Int32} {d y pc : Nat} {L S : List Value} {hF : zH} {o : Outcome}
variable {N : Nat → Int32} {F G : Nat → Nat → Int32} {K : Nat → Option Nat} {Z : Nat → Int64} {tl : zH}
theorem zc1 : (zCs N F G K Z ++ tl)[1]? = some (0, zints 16 (F 0)) := zrd75 (k := 1) (by omega)
theorem zc2 : (zCs N F G K Z ++ tl)[2]? = some (0, zints 8 (F 1)) := zrd75 (k := 2) (by omega)
theorem zc3 : (zCs N F G K Z ++ tl)[3]? = some (0, zints 16 (F 2)) := zrd75 (k := 3) (by omega)
theorem zc4 : (zCs N F G K Z ++ tl)[4]? = some (0, zints 16 (F 3)) := zrd75 (k := 4) (by omega)
theorem zc7 : (zCs N F G K Z ++ tl)[7]? = some (0, zints 400 (F 4)) := zrd75 (k := 7) (by omega)
theorem zc8 : (zCs N F G K Z ++ tl)[8]? = some (0, zints 400 (F 5)) := zrd75 (k := 8) (by omega)
theorem zc9 : (zCs N F G K Z ++ tl)[9]? = some (0, zints 400 (F 6)) := zrd75 (k := 9) (by omega)
theorem zc10 : (zCs N F G K Z ++ tl)[10]? = some (0, zints 400 (F 7)) := zrd75 (k := 10) (by omega)
theorem zR_putN {ix j : Nat} {v : Int32} (hz : zat y pc = some (.putfield ix, 3)) (hp : zpool y ix = some (0, 2, j + 6)) (hj : j < 4) (hf : zputok y 2 (j + 6) (.int v) 10 = true) (kk : zR sL sx d y (pc + 3) L S (zCs (upd N j v) F G K Z ++ tl) o hF) : zR sL sx d y pc L (.int v :: .ref 0 :: S) (zCs N F G K Z ++ tl) o hF := by
  refine zR_put hz hp zc0 hf ?_
  rw [show j + 6 = 6 + j from Nat.add_comm _ _, zp_N hj]
  exact kk
theorem zR_putH {ix : Nat} {v : Int32} (hz : zat y pc = some (.putfield ix, 3)) (hp : zpool y ix = some (0, 0, 4)) (hf : zputok y 0 4 (.int v) 5 = true) (kk : zR sL sx d y (pc + 3) L S (zCs (upd N 4 v) F G K Z ++ tl) o hF) : zR sL sx d y pc L (.int v :: .ref 6 :: S) (zCs N F G K Z ++ tl) o hF := by
  refine zR_put hz hp zc6 hf ?_
  rw [zp_H]
  exact kk
theorem zR_putG {ix i j : Nat} {v : Int32} (hz : zat y pc = some (.putfield ix, 3)) (hp : zpool y ix = some (0, 1, j + 1)) (hi : i < 64) (hj : j < 7) (hf : zputok y 1 (j + 1) (.int v) 10 = true) (kk : zR sL sx d y (pc + 3) L S (zCs N F (updG G i j v) K Z ++ tl) o hF) : zR sL sx d y pc L (.int v :: .ref (i + 11) :: S) (zCs N F G K Z ++ tl) o hF := by
  refine zR_put hz hp (zcU hi) hf ?_
  rw [show j + 1 = 1 + j from Nat.add_comm _ _, zp_G hi hj]
  exact kk
theorem zR_putK {ix i : Nat} {v : Option Nat} (hz : zat y pc = some (.putfield ix, 3)) (hp : zpool y ix = some (0, 1, 8)) (hi : i < 64) (hf : zputok y 1 8 .null 10 = true) (kk : zR sL sx d y (pc + 3) L S (zCs N F G (va_up K i v) Z ++ tl) o hF) : zR sL sx d y pc L (zopt v :: .ref (i + 11) :: S) (zCs N F G K Z ++ tl) o hF := by
  have hf2 : zputok y 1 8 (zopt v) 10 = true := by
    cases v with
    | none => exact hf
    | some k => simp only [zputok] at hf ⊢; exact hf
  refine zR_put hz hp (zcU hi) hf2 ?_
  rw [zp_K hi]
  exact kk
theorem zR_putZ {ix i : Nat} {v : Int64} (hz : zat y pc = some (.putfield ix, 3)) (hp : zpool y ix = some (0, 1, 9)) (hi : i < 64) (hf : zputok y 1 9 (.long v) 10 = true) (kk : zR sL sx d y (pc + 3) L S (zCs N F G K (vp_updL Z i v) ++ tl) o hF) : zR sL sx d y pc L (.long v :: .ref (i + 11) :: S) (zCs N F G K Z ++ tl) o hF := by
  refine zR_put hz hp (zcU hi) hf ?_
  rw [zp_Z hi]
  exact kk
theorem zR_istF (a : Nat) {j : Nat} {x : Int32} (hz : zat y pc = some (.iastore, 1)) (ha : a < 8) (hj : j < zfl a) (kk : zR sL sx d y (pc + 1) L S (zCs N (updF F a (upd (F a) j x)) G K Z ++ tl) o hF) : zR sL sx d y pc L (.int x :: .int (nI j) :: .ref (zfa a) :: S) (zCs N F G K Z ++ tl) o hF := by
  have hl : zfl a < 2 ^ 31 := by rcases (show a = 0 ∨ a = 1 ∨ a = 2 ∨ a = 3 ∨ a = 4 ∨ a = 5 ∨ a = 6 ∨ a = 7 by omega) with rfl | rfl | rfl | rfl | rfl | rfl | rfl | rfl <;> decide
  refine zR_ist hz (zcF ha) hj hl ?_
  rw [zp_F ha]
  exact kk
theorem zR_ildF (a : Nat) {j : Nat} (hz : zat y pc = some (.iaload, 1)) (ha : a < 8) (hj : j < zfl a) (kk : zR sL sx d y (pc + 1) L (.int (F a j) :: S) (zCs N F G K Z ++ tl) o hF) : zR sL sx d y pc L (.int (nI j) :: .ref (zfa a) :: S) (zCs N F G K Z ++ tl) o hF := by
  have hl : zfl a < 2 ^ 31 := by rcases (show a = 0 ∨ a = 1 ∨ a = 2 ∨ a = 3 ∨ a = 4 ∨ a = 5 ∨ a = 6 ∨ a = 7 by omega) with rfl | rfl | rfl | rfl | rfl | rfl | rfl | rfl <;> decide
  exact zR_ild hz (zcF ha) hj hl kk
theorem zR_aldU {j : Nat} (hz : zat y pc = some (.aaload, 1)) (hj : j < 64) (kk : zR sL sx d y (pc + 1) L (.ref (j + 11) :: S) (zCs N F G K Z ++ tl) o hF) : zR sL sx d y pc L (.int (nI j) :: .ref 5 :: S) (zCs N F G K Z ++ tl) o hF :=
  zR_ald hz zc5 (by omega) (zrefs_at hj) kk
end ZCR
