/-! the law's wrappers -/
/-- the law's heap: the class, the reference, the row for an answer, what was thrown -/
def zL (N : Nat → Int32) (F G : Nat → Nat → Int32) (K : Nat → Option Nat) (Z : Nat → Int64) (N2 : Nat → Int32) (F2 G2 : Nat → Nat → Int32) (H : Nat → Int32) (Z2 : Nat → Int64) (c : Int32) (B : Nat → Int32) (v : Int64) (tl : zH) : zH := zCs N F G K Z ++ (zMd N2 F2 G2 H Z2 c B ++ ((1, [.long v]) :: tl))
section ZLW
variable {sL : Nat} {sx : Nat → Int32} {d y pc : Nat} {L S : List Value} {hF : zH} {o : Outcome}
variable {N N2 : Nat → Int32} {F G F2 G2 : Nat → Nat → Int32} {K : Nat → Option Nat} {H : Nat → Int32} {Z Z2 : Nat → Int64} {c : Int32} {B : Nat → Int32} {T tl : zH} {v0 : Int64}
theorem zL0 : (zL N F G K Z N2 F2 G2 H Z2 c B v0 tl)[0]? = some (10 + 2, [.ref 1, .ref 2, .ref 3, .ref 4, .ref 5, .ref 6, .int (N 0), .int (N 1), .int (N 2), .int (N 3)]) := zc0
theorem zL75 : (zL N F G K Z N2 F2 G2 H Z2 c B v0 tl)[75]? = some (10 + 3, zmob N2 c) := zm0 zCs_len
theorem zL92 : (zL N F G K Z N2 F2 G2 H Z2 c B v0 tl)[92]? = some (1, zlongs 1 (fun _ => v0)) := by
  rw [zL, List.getElem?_append_right (by rw [zCs_len]; omega), zCs_len, List.getElem?_append_right (by rw [zMd_len]; omega), zMd_len]
  rfl
theorem zL92s {x : Int64} : (zL N F G K Z N2 F2 G2 H Z2 c B v0 tl).set 92 (1, zlongs 1 (vp_updL (fun _ => v0) 0 x)) = zL N F G K Z N2 F2 G2 H Z2 c B x tl := by
  rw [zL, List.set_append_right _ _ (by rw [zCs_len]; omega), zCs_len, List.set_append_right _ _ (by rw [zMd_len]; omega), zMd_len]
  rfl
theorem zR_lstO {x : Int64} (hz : zat y pc = some (.lastore, 1)) (kk : zR sL sx d y (pc + 1) L S (zL N F G K Z N2 F2 G2 H Z2 c B x tl) o hF) : zR sL sx d y pc L (.long x :: .int 0 :: .ref 92 :: S) (zL N F G K Z N2 F2 G2 H Z2 c B v0 tl) o hF := by
  refine zR_lst (j := 0) hz zL92 (by omega) (by omega) ?_
  rw [zL92s]
  exact kk
theorem zR_lldO (hz : zat y pc = some (.laload, 1)) (kk : zR sL sx d y (pc + 1) L (.long v0 :: S) (zL N F G K Z N2 F2 G2 H Z2 c B v0 tl) o hF) : zR sL sx d y pc L (.int 0 :: .ref 92 :: S) (zL N F G K Z N2 F2 G2 H Z2 c B v0 tl) o hF := zR_lld (j := 0) hz zL92 (by omega) (by omega) kk
theorem w_rows {p0 : Int32} {h1 : zH} (hM : zMe sL sx 10 19 [.ref 0, .int p0] (zCs N F G K Z ++ T) (.returned none) h1) : zMe sL sx 11 101 [.ref 0, .int p0] (zCs N F G K Z ++ T) (.returned (some (.int 0))) h1 := by
  show zR sL sx _ 101 0 [.ref 0, .int p0, .retAddr 0] [] _ _ _
  refine zR_s rfl ?_
  refine zR_s rfl ?_
  refine zR_call rfl rfl rfl rfl (zcallok_v (zc0) rfl rfl) (hM) ?_
  refine zR_s rfl ?_
  refine zR_cst (v := 0) rfl rfl rfl ?_
  first | refine zR_rete rfl rfl ?_ ?_ | refine zR_retb rfl rfl ?_ ?_
  all_goals (rfl)
theorem w_rows_e {p0 : Int32} {h1 : zH} {e : Nat} (he : e = 0 ∨ e = 1) (hM : zMe sL sx 10 19 [.ref 0, .int p0] (zCs N F G K Z ++ T) (.threw e) h1) : zMe sL sx 11 101 [.ref 0, .int p0] (zCs N F G K Z ++ T) (.returned (some (.int (kfR e)))) h1 := by
  rcases he with rfl | rfl
  · show zR sL sx _ 101 0 [.ref 0, .int p0, .retAddr 0] [] _ _ _
    refine zR_s rfl ?_
    refine zR_s rfl ?_
    refine zR_callc rfl rfl rfl rfl (zcallok_v zc0 rfl rfl) rfl (hp := 8) rfl rfl hM ?_
    refine zR_s rfl ?_
    refine zR_cst (v := 1) rfl rfl rfl ?_
    first | refine zR_rete rfl rfl ?_ ?_ | refine zR_retb rfl rfl ?_ ?_
    all_goals (rfl)
  · show zR sL sx _ 101 0 [.ref 0, .int p0, .retAddr 0] [] _ _ _
    refine zR_s rfl ?_
    refine zR_s rfl ?_
    refine zR_callc rfl rfl rfl rfl (zcallok_v zc0 rfl rfl) rfl (hp := 11) rfl rfl hM ?_
    refine zR_s rfl ?_
    refine zR_cst (v := 2) rfl rfl rfl ?_
    first | refine zR_rete rfl rfl ?_ ?_ | refine zR_retb rfl rfl ?_ ?_
    all_goals (rfl)
theorem w_place {p0 p1 : Int32} {h1 : zH} (hM : zMe sL sx 10 20 [.ref 0, .int p0, .int p1] (zCs N F G K Z ++ T) (.returned none) h1) : zMe sL sx 11 102 [.ref 0, .int p0, .int p1] (zCs N F G K Z ++ T) (.returned (some (.int 0))) h1 := by
  show zR sL sx _ 102 0 [.ref 0, .int p0, .int p1, .retAddr 0] [] _ _ _
  refine zR_s rfl ?_
  refine zR_s rfl ?_
  refine zR_s rfl ?_
  refine zR_call rfl rfl rfl rfl (zcallok_v (zc0) rfl rfl) (hM) ?_
  refine zR_s rfl ?_
  refine zR_cst (v := 0) rfl rfl rfl ?_
  first | refine zR_rete rfl rfl ?_ ?_ | refine zR_retb rfl rfl ?_ ?_
  all_goals (rfl)
theorem w_place_e {p0 p1 : Int32} {h1 : zH} {e : Nat} (he : e = 1 ∨ e = 2) (hM : zMe sL sx 10 20 [.ref 0, .int p0, .int p1] (zCs N F G K Z ++ T) (.threw e) h1) : zMe sL sx 11 102 [.ref 0, .int p0, .int p1] (zCs N F G K Z ++ T) (.returned (some (.int (kfP e)))) h1 := by
  rcases he with rfl | rfl
  · show zR sL sx _ 102 0 [.ref 0, .int p0, .int p1, .retAddr 0] [] _ _ _
    refine zR_s rfl ?_
    refine zR_s rfl ?_
    refine zR_s rfl ?_
    refine zR_callc rfl rfl rfl rfl (zcallok_v zc0 rfl rfl) rfl (hp := 9) rfl rfl hM ?_
    refine zR_s rfl ?_
    refine zR_cst (v := 1) rfl rfl rfl ?_
    first | refine zR_rete rfl rfl ?_ ?_ | refine zR_retb rfl rfl ?_ ?_
    all_goals (rfl)
  · show zR sL sx _ 102 0 [.ref 0, .int p0, .int p1, .retAddr 0] [] _ _ _
    refine zR_s rfl ?_
    refine zR_s rfl ?_
    refine zR_s rfl ?_
    refine zR_callc rfl rfl rfl rfl (zcallok_v zc0 rfl rfl) rfl (hp := 12) rfl rfl hM ?_
    refine zR_s rfl ?_
    refine zR_cst (v := 2) rfl rfl rfl ?_
    first | refine zR_rete rfl rfl ?_ ?_ | refine zR_retb rfl rfl ?_ ?_
    all_goals (rfl)
theorem w_good {p0 p1 : Int32} {h1 : zH} (hM : zMe sL sx 10 21 [.ref 0, .int p0, .int p1] (zCs N F G K Z ++ T) (.returned none) h1) : zMe sL sx 11 103 [.ref 0, .int p0, .int p1] (zCs N F G K Z ++ T) (.returned (some (.int 0))) h1 := by
  show zR sL sx _ 103 0 [.ref 0, .int p0, .int p1, .retAddr 0] [] _ _ _
  refine zR_s rfl ?_
  refine zR_s rfl ?_
  refine zR_s rfl ?_
  refine zR_call rfl rfl rfl rfl (zcallok_v (zc0) rfl rfl) (hM) ?_
  refine zR_s rfl ?_
  refine zR_cst (v := 0) rfl rfl rfl ?_
  first | refine zR_rete rfl rfl ?_ ?_ | refine zR_retb rfl rfl ?_ ?_
  all_goals (rfl)
theorem w_good_e {p0 p1 : Int32} {h1 : zH} {e : Nat} (he : e = 1) (hM : zMe sL sx 10 21 [.ref 0, .int p0, .int p1] (zCs N F G K Z ++ T) (.threw e) h1) : zMe sL sx 11 103 [.ref 0, .int p0, .int p1] (zCs N F G K Z ++ T) (.returned (some (.int (kfP e)))) h1 := by
  rcases he with rfl
  · show zR sL sx _ 103 0 [.ref 0, .int p0, .int p1, .retAddr 0] [] _ _ _
    refine zR_s rfl ?_
    refine zR_s rfl ?_
    refine zR_s rfl ?_
    refine zR_callc rfl rfl rfl rfl (zcallok_v zc0 rfl rfl) rfl (hp := 9) rfl rfl hM ?_
    refine zR_s rfl ?_
    refine zR_cst (v := 1) rfl rfl rfl ?_
    first | refine zR_rete rfl rfl ?_ ?_ | refine zR_retb rfl rfl ?_ ?_
    all_goals (rfl)
theorem w_lot {p0 p1 : Int32} {x : Int32} {h : zH} {N0 : Nat → Int32} (h0 : h[0]? = some (10 + 2, [.ref 1, .ref 2, .ref 3, .ref 4, .ref 5, .ref 6, .int (N0 0), .int (N0 1), .int (N0 2), .int (N0 3)])) (hM : zMe sL sx 10 22 [.ref 0, .int p0, .int p1] h (.returned (some (.int x))) (zL N F G K Z N2 F2 G2 H Z2 c B v0 tl)) : zMe sL sx 11 104 [.ref 0, .int p0, .int p1, .ref 92] h (.returned (some (.int 0))) (zL N F G K Z N2 F2 G2 H Z2 c B x.toInt64 tl) := by
  show zR sL sx _ 104 0 [.ref 0, .int p0, .int p1, .ref 92, .retAddr 0] [] _ _ _
  refine zR_s rfl ?_
  refine zR_cst (v := 0) rfl rfl rfl ?_
  refine zR_s rfl ?_
  refine zR_s rfl ?_
  refine zR_s rfl ?_
  refine zR_call rfl rfl rfl rfl (zcallok_v (h0) rfl rfl) (hM) ?_
  refine zR_s rfl ?_
  refine zR_lstO rfl ?_
  refine zR_s rfl ?_
  refine zR_cst (v := 0) rfl rfl rfl ?_
  first | refine zR_rete rfl rfl ?_ ?_ | refine zR_retb rfl rfl ?_ ?_
  all_goals (rfl)
theorem w_lot_e {p0 p1 : Int32} {h1 : zH} {e : Nat} (he : e = 1 ∨ e = 3) (hM : zMe sL sx 10 22 [.ref 0, .int p0, .int p1] (zCs N F G K Z ++ T) (.threw e) h1) : zMe sL sx 11 104 [.ref 0, .int p0, .int p1, .ref 92] (zCs N F G K Z ++ T) (.returned (some (.int (kfP e)))) h1 := by
  rcases he with rfl | rfl
  · show zR sL sx _ 104 0 [.ref 0, .int p0, .int p1, .ref 92, .retAddr 0] [] _ _ _
    refine zR_s rfl ?_
    refine zR_cst (v := 0) rfl rfl rfl ?_
    refine zR_s rfl ?_
    refine zR_s rfl ?_
    refine zR_s rfl ?_
    refine zR_callc rfl rfl rfl rfl (zcallok_v zc0 rfl rfl) rfl (hp := 13) rfl rfl hM ?_
    refine zR_s rfl ?_
    refine zR_cst (v := 1) rfl rfl rfl ?_
    first | refine zR_rete rfl rfl ?_ ?_ | refine zR_retb rfl rfl ?_ ?_
    all_goals (rfl)
  · show zR sL sx _ 104 0 [.ref 0, .int p0, .int p1, .ref 92, .retAddr 0] [] _ _ _
    refine zR_s rfl ?_
    refine zR_cst (v := 0) rfl rfl rfl ?_
    refine zR_s rfl ?_
    refine zR_s rfl ?_
    refine zR_s rfl ?_
    refine zR_callc rfl rfl rfl rfl (zcallok_v zc0 rfl rfl) rfl (hp := 17) rfl rfl hM ?_
    refine zR_s rfl ?_
    refine zR_cst (v := 2) rfl rfl rfl ?_
    first | refine zR_rete rfl rfl ?_ ?_ | refine zR_retb rfl rfl ?_ ?_
    all_goals (rfl)
theorem w_unit {p0 p1 p2 p3 : Int32} {x : Int32} {h : zH} {N0 : Nat → Int32} (h0 : h[0]? = some (10 + 2, [.ref 1, .ref 2, .ref 3, .ref 4, .ref 5, .ref 6, .int (N0 0), .int (N0 1), .int (N0 2), .int (N0 3)])) (hM : zMe sL sx 10 23 [.ref 0, .int p0, .int p1, .int p2, .int p3] h (.returned (some (.int x))) (zL N F G K Z N2 F2 G2 H Z2 c B v0 tl)) : zMe sL sx 11 105 [.ref 0, .int p0, .int p1, .int p2, .int p3, .ref 92] h (.returned (some (.int 0))) (zL N F G K Z N2 F2 G2 H Z2 c B x.toInt64 tl) := by
  show zR sL sx _ 105 0 [.ref 0, .int p0, .int p1, .int p2, .int p3, .ref 92, .retAddr 0] [] _ _ _
  refine zR_s rfl ?_
  refine zR_cst (v := 0) rfl rfl rfl ?_
  refine zR_s rfl ?_
  refine zR_s rfl ?_
  refine zR_s rfl ?_
  refine zR_s rfl ?_
  refine zR_s rfl ?_
  refine zR_call rfl rfl rfl rfl (zcallok_v (h0) rfl rfl) (hM) ?_
  refine zR_s rfl ?_
  refine zR_lstO rfl ?_
  refine zR_s rfl ?_
  refine zR_cst (v := 0) rfl rfl rfl ?_
  first | refine zR_rete rfl rfl ?_ ?_ | refine zR_retb rfl rfl ?_ ?_
  all_goals (rfl)
theorem w_unit_e {p0 p1 p2 p3 : Int32} {h1 : zH} {e : Nat} (he : e = 4 ∨ e = 1 ∨ e = 3) (hM : zMe sL sx 10 23 [.ref 0, .int p0, .int p1, .int p2, .int p3] (zCs N F G K Z ++ T) (.threw e) h1) : zMe sL sx 11 105 [.ref 0, .int p0, .int p1, .int p2, .int p3, .ref 92] (zCs N F G K Z ++ T) (.returned (some (.int (kfU e)))) h1 := by
  rcases he with rfl | rfl | rfl
  · show zR sL sx _ 105 0 [.ref 0, .int p0, .int p1, .int p2, .int p3, .ref 92, .retAddr 0] [] _ _ _
    refine zR_s rfl ?_
    refine zR_cst (v := 0) rfl rfl rfl ?_
    refine zR_s rfl ?_
    refine zR_s rfl ?_
    refine zR_s rfl ?_
    refine zR_s rfl ?_
    refine zR_s rfl ?_
    refine zR_callc rfl rfl rfl rfl (zcallok_v zc0 rfl rfl) rfl (hp := 17) rfl rfl hM ?_
    refine zR_s rfl ?_
    refine zR_cst (v := 1) rfl rfl rfl ?_
    first | refine zR_rete rfl rfl ?_ ?_ | refine zR_retb rfl rfl ?_ ?_
    all_goals (rfl)
  · show zR sL sx _ 105 0 [.ref 0, .int p0, .int p1, .int p2, .int p3, .ref 92, .retAddr 0] [] _ _ _
    refine zR_s rfl ?_
    refine zR_cst (v := 0) rfl rfl rfl ?_
    refine zR_s rfl ?_
    refine zR_s rfl ?_
    refine zR_s rfl ?_
    refine zR_s rfl ?_
    refine zR_s rfl ?_
    refine zR_callc rfl rfl rfl rfl (zcallok_v zc0 rfl rfl) rfl (hp := 21) rfl rfl hM ?_
    refine zR_s rfl ?_
    refine zR_cst (v := 2) rfl rfl rfl ?_
    first | refine zR_rete rfl rfl ?_ ?_ | refine zR_retb rfl rfl ?_ ?_
    all_goals (rfl)
  · show zR sL sx _ 105 0 [.ref 0, .int p0, .int p1, .int p2, .int p3, .ref 92, .retAddr 0] [] _ _ _
    refine zR_s rfl ?_
    refine zR_cst (v := 0) rfl rfl rfl ?_
    refine zR_s rfl ?_
    refine zR_s rfl ?_
    refine zR_s rfl ?_
    refine zR_s rfl ?_
    refine zR_s rfl ?_
    refine zR_callc rfl rfl rfl rfl (zcallok_v zc0 rfl rfl) rfl (hp := 25) rfl rfl hM ?_
    refine zR_s rfl ?_
    refine zR_cst (v := 3) rfl rfl rfl ?_
    first | refine zR_rete rfl rfl ?_ ?_ | refine zR_retb rfl rfl ?_ ?_
    all_goals (rfl)
theorem w_move {p0 p1 : Int32} {h1 : zH} (hM : zMe sL sx 10 24 [.ref 0, .int p0, .int p1] (zCs N F G K Z ++ T) (.returned none) h1) : zMe sL sx 11 106 [.ref 0, .int p0, .int p1] (zCs N F G K Z ++ T) (.returned (some (.int 0))) h1 := by
  show zR sL sx _ 106 0 [.ref 0, .int p0, .int p1, .retAddr 0] [] _ _ _
  refine zR_s rfl ?_
  refine zR_s rfl ?_
  refine zR_s rfl ?_
  refine zR_call rfl rfl rfl rfl (zcallok_v (zc0) rfl rfl) (hM) ?_
  refine zR_s rfl ?_
  refine zR_cst (v := 0) rfl rfl rfl ?_
  first | refine zR_rete rfl rfl ?_ ?_ | refine zR_retb rfl rfl ?_ ?_
  all_goals (rfl)
theorem w_move_e {p0 p1 : Int32} {h1 : zH} {e : Nat} (he : e = 4 ∨ e = 1 ∨ e = 2 ∨ e = 3) (hM : zMe sL sx 10 24 [.ref 0, .int p0, .int p1] (zCs N F G K Z ++ T) (.threw e) h1) : zMe sL sx 11 106 [.ref 0, .int p0, .int p1] (zCs N F G K Z ++ T) (.returned (some (.int (kfA e)))) h1 := by
  rcases he with rfl | rfl | rfl | rfl
  · show zR sL sx _ 106 0 [.ref 0, .int p0, .int p1, .retAddr 0] [] _ _ _
    refine zR_s rfl ?_
    refine zR_s rfl ?_
    refine zR_s rfl ?_
    refine zR_callc rfl rfl rfl rfl (zcallok_v zc0 rfl rfl) rfl (hp := 9) rfl rfl hM ?_
    refine zR_s rfl ?_
    refine zR_cst (v := 1) rfl rfl rfl ?_
    first | refine zR_rete rfl rfl ?_ ?_ | refine zR_retb rfl rfl ?_ ?_
    all_goals (rfl)
  · show zR sL sx _ 106 0 [.ref 0, .int p0, .int p1, .retAddr 0] [] _ _ _
    refine zR_s rfl ?_
    refine zR_s rfl ?_
    refine zR_s rfl ?_
    refine zR_callc rfl rfl rfl rfl (zcallok_v zc0 rfl rfl) rfl (hp := 12) rfl rfl hM ?_
    refine zR_s rfl ?_
    refine zR_cst (v := 2) rfl rfl rfl ?_
    first | refine zR_rete rfl rfl ?_ ?_ | refine zR_retb rfl rfl ?_ ?_
    all_goals (rfl)
  · show zR sL sx _ 106 0 [.ref 0, .int p0, .int p1, .retAddr 0] [] _ _ _
    refine zR_s rfl ?_
    refine zR_s rfl ?_
    refine zR_s rfl ?_
    refine zR_callc rfl rfl rfl rfl (zcallok_v zc0 rfl rfl) rfl (hp := 15) rfl rfl hM ?_
    refine zR_s rfl ?_
    refine zR_cst (v := 3) rfl rfl rfl ?_
    first | refine zR_rete rfl rfl ?_ ?_ | refine zR_retb rfl rfl ?_ ?_
    all_goals (rfl)
  · show zR sL sx _ 106 0 [.ref 0, .int p0, .int p1, .retAddr 0] [] _ _ _
    refine zR_s rfl ?_
    refine zR_s rfl ?_
    refine zR_s rfl ?_
    refine zR_callc rfl rfl rfl rfl (zcallok_v zc0 rfl rfl) rfl (hp := 18) rfl rfl hM ?_
    refine zR_s rfl ?_
    refine zR_cst (v := 4) rfl rfl rfl ?_
    first | refine zR_rete rfl rfl ?_ ?_ | refine zR_retb rfl rfl ?_ ?_
    all_goals (rfl)
theorem w_into {p0 p1 : Int32} {h1 : zH} (hM : zMe sL sx 10 25 [.ref 0, .int p0, .int p1] (zCs N F G K Z ++ T) (.returned none) h1) : zMe sL sx 11 107 [.ref 0, .int p0, .int p1] (zCs N F G K Z ++ T) (.returned (some (.int 0))) h1 := by
  show zR sL sx _ 107 0 [.ref 0, .int p0, .int p1, .retAddr 0] [] _ _ _
  refine zR_s rfl ?_
  refine zR_s rfl ?_
  refine zR_s rfl ?_
  refine zR_call rfl rfl rfl rfl (zcallok_v (zc0) rfl rfl) (hM) ?_
  refine zR_s rfl ?_
  refine zR_cst (v := 0) rfl rfl rfl ?_
  first | refine zR_rete rfl rfl ?_ ?_ | refine zR_retb rfl rfl ?_ ?_
  all_goals (rfl)
theorem w_into_e {p0 p1 : Int32} {h1 : zH} {e : Nat} (he : e = 4 ∨ e = 2 ∨ e = 3) (hM : zMe sL sx 10 25 [.ref 0, .int p0, .int p1] (zCs N F G K Z ++ T) (.threw e) h1) : zMe sL sx 11 107 [.ref 0, .int p0, .int p1] (zCs N F G K Z ++ T) (.returned (some (.int (kfB e)))) h1 := by
  rcases he with rfl | rfl | rfl
  · show zR sL sx _ 107 0 [.ref 0, .int p0, .int p1, .retAddr 0] [] _ _ _
    refine zR_s rfl ?_
    refine zR_s rfl ?_
    refine zR_s rfl ?_
    refine zR_callc rfl rfl rfl rfl (zcallok_v zc0 rfl rfl) rfl (hp := 9) rfl rfl hM ?_
    refine zR_s rfl ?_
    refine zR_cst (v := 1) rfl rfl rfl ?_
    first | refine zR_rete rfl rfl ?_ ?_ | refine zR_retb rfl rfl ?_ ?_
    all_goals (rfl)
  · show zR sL sx _ 107 0 [.ref 0, .int p0, .int p1, .retAddr 0] [] _ _ _
    refine zR_s rfl ?_
    refine zR_s rfl ?_
    refine zR_s rfl ?_
    refine zR_callc rfl rfl rfl rfl (zcallok_v zc0 rfl rfl) rfl (hp := 12) rfl rfl hM ?_
    refine zR_s rfl ?_
    refine zR_cst (v := 2) rfl rfl rfl ?_
    first | refine zR_rete rfl rfl ?_ ?_ | refine zR_retb rfl rfl ?_ ?_
    all_goals (rfl)
  · show zR sL sx _ 107 0 [.ref 0, .int p0, .int p1, .retAddr 0] [] _ _ _
    refine zR_s rfl ?_
    refine zR_s rfl ?_
    refine zR_s rfl ?_
    refine zR_callc rfl rfl rfl rfl (zcallok_v zc0 rfl rfl) rfl (hp := 15) rfl rfl hM ?_
    refine zR_s rfl ?_
    refine zR_cst (v := 3) rfl rfl rfl ?_
    first | refine zR_rete rfl rfl ?_ ?_ | refine zR_retb rfl rfl ?_ ?_
    all_goals (rfl)
theorem w_out {p0 : Int32} {h1 : zH} (hM : zMe sL sx 10 26 [.ref 0, .int p0] (zCs N F G K Z ++ T) (.returned none) h1) : zMe sL sx 11 108 [.ref 0, .int p0] (zCs N F G K Z ++ T) (.returned (some (.int 0))) h1 := by
  show zR sL sx _ 108 0 [.ref 0, .int p0, .retAddr 0] [] _ _ _
  refine zR_s rfl ?_
  refine zR_s rfl ?_
  refine zR_call rfl rfl rfl rfl (zcallok_v (zc0) rfl rfl) (hM) ?_
  refine zR_s rfl ?_
  refine zR_cst (v := 0) rfl rfl rfl ?_
  first | refine zR_rete rfl rfl ?_ ?_ | refine zR_retb rfl rfl ?_ ?_
  all_goals (rfl)
theorem w_out_e {p0 : Int32} {h1 : zH} {e : Nat} (he : e = 4 ∨ e = 2 ∨ e = 3) (hM : zMe sL sx 10 26 [.ref 0, .int p0] (zCs N F G K Z ++ T) (.threw e) h1) : zMe sL sx 11 108 [.ref 0, .int p0] (zCs N F G K Z ++ T) (.returned (some (.int (kfB e)))) h1 := by
  rcases he with rfl | rfl | rfl
  · show zR sL sx _ 108 0 [.ref 0, .int p0, .retAddr 0] [] _ _ _
    refine zR_s rfl ?_
    refine zR_s rfl ?_
    refine zR_callc rfl rfl rfl rfl (zcallok_v zc0 rfl rfl) rfl (hp := 8) rfl rfl hM ?_
    refine zR_s rfl ?_
    refine zR_cst (v := 1) rfl rfl rfl ?_
    first | refine zR_rete rfl rfl ?_ ?_ | refine zR_retb rfl rfl ?_ ?_
    all_goals (rfl)
  · show zR sL sx _ 108 0 [.ref 0, .int p0, .retAddr 0] [] _ _ _
    refine zR_s rfl ?_
    refine zR_s rfl ?_
    refine zR_callc rfl rfl rfl rfl (zcallok_v zc0 rfl rfl) rfl (hp := 11) rfl rfl hM ?_
    refine zR_s rfl ?_
    refine zR_cst (v := 2) rfl rfl rfl ?_
    first | refine zR_rete rfl rfl ?_ ?_ | refine zR_retb rfl rfl ?_ ?_
    all_goals (rfl)
  · show zR sL sx _ 108 0 [.ref 0, .int p0, .retAddr 0] [] _ _ _
    refine zR_s rfl ?_
    refine zR_s rfl ?_
    refine zR_callc rfl rfl rfl rfl (zcallok_v zc0 rfl rfl) rfl (hp := 14) rfl rfl hM ?_
    refine zR_s rfl ?_
    refine zR_cst (v := 3) rfl rfl rfl ?_
    first | refine zR_rete rfl rfl ?_ ?_ | refine zR_retb rfl rfl ?_ ?_
    all_goals (rfl)
theorem w_split {p0 p1 : Int32} {x : Int32} {h : zH} {N0 : Nat → Int32} (h0 : h[0]? = some (10 + 2, [.ref 1, .ref 2, .ref 3, .ref 4, .ref 5, .ref 6, .int (N0 0), .int (N0 1), .int (N0 2), .int (N0 3)])) (hM : zMe sL sx 10 27 [.ref 0, .int p0, .int p1] h (.returned (some (.int x))) (zL N F G K Z N2 F2 G2 H Z2 c B v0 tl)) : zMe sL sx 11 109 [.ref 0, .int p0, .int p1, .ref 92] h (.returned (some (.int 0))) (zL N F G K Z N2 F2 G2 H Z2 c B x.toInt64 tl) := by
  show zR sL sx _ 109 0 [.ref 0, .int p0, .int p1, .ref 92, .retAddr 0] [] _ _ _
  refine zR_s rfl ?_
  refine zR_cst (v := 0) rfl rfl rfl ?_
  refine zR_s rfl ?_
  refine zR_s rfl ?_
  refine zR_s rfl ?_
  refine zR_call rfl rfl rfl rfl (zcallok_v (h0) rfl rfl) (hM) ?_
  refine zR_s rfl ?_
  refine zR_lstO rfl ?_
  refine zR_s rfl ?_
  refine zR_cst (v := 0) rfl rfl rfl ?_
  first | refine zR_rete rfl rfl ?_ ?_ | refine zR_retb rfl rfl ?_ ?_
  all_goals (rfl)
theorem w_split_e {p0 p1 : Int32} {h1 : zH} {e : Nat} (he : e = 4 ∨ e = 1 ∨ e = 2 ∨ e = 3) (hM : zMe sL sx 10 27 [.ref 0, .int p0, .int p1] (zCs N F G K Z ++ T) (.threw e) h1) : zMe sL sx 11 109 [.ref 0, .int p0, .int p1, .ref 92] (zCs N F G K Z ++ T) (.returned (some (.int (kfA e)))) h1 := by
  rcases he with rfl | rfl | rfl | rfl
  · show zR sL sx _ 109 0 [.ref 0, .int p0, .int p1, .ref 92, .retAddr 0] [] _ _ _
    refine zR_s rfl ?_
    refine zR_cst (v := 0) rfl rfl rfl ?_
    refine zR_s rfl ?_
    refine zR_s rfl ?_
    refine zR_s rfl ?_
    refine zR_callc rfl rfl rfl rfl (zcallok_v zc0 rfl rfl) rfl (hp := 13) rfl rfl hM ?_
    refine zR_s rfl ?_
    refine zR_cst (v := 1) rfl rfl rfl ?_
    first | refine zR_rete rfl rfl ?_ ?_ | refine zR_retb rfl rfl ?_ ?_
    all_goals (rfl)
  · show zR sL sx _ 109 0 [.ref 0, .int p0, .int p1, .ref 92, .retAddr 0] [] _ _ _
    refine zR_s rfl ?_
    refine zR_cst (v := 0) rfl rfl rfl ?_
    refine zR_s rfl ?_
    refine zR_s rfl ?_
    refine zR_s rfl ?_
    refine zR_callc rfl rfl rfl rfl (zcallok_v zc0 rfl rfl) rfl (hp := 17) rfl rfl hM ?_
    refine zR_s rfl ?_
    refine zR_cst (v := 2) rfl rfl rfl ?_
    first | refine zR_rete rfl rfl ?_ ?_ | refine zR_retb rfl rfl ?_ ?_
    all_goals (rfl)
  · show zR sL sx _ 109 0 [.ref 0, .int p0, .int p1, .ref 92, .retAddr 0] [] _ _ _
    refine zR_s rfl ?_
    refine zR_cst (v := 0) rfl rfl rfl ?_
    refine zR_s rfl ?_
    refine zR_s rfl ?_
    refine zR_s rfl ?_
    refine zR_callc rfl rfl rfl rfl (zcallok_v zc0 rfl rfl) rfl (hp := 21) rfl rfl hM ?_
    refine zR_s rfl ?_
    refine zR_cst (v := 3) rfl rfl rfl ?_
    first | refine zR_rete rfl rfl ?_ ?_ | refine zR_retb rfl rfl ?_ ?_
    all_goals (rfl)
  · show zR sL sx _ 109 0 [.ref 0, .int p0, .int p1, .ref 92, .retAddr 0] [] _ _ _
    refine zR_s rfl ?_
    refine zR_cst (v := 0) rfl rfl rfl ?_
    refine zR_s rfl ?_
    refine zR_s rfl ?_
    refine zR_s rfl ?_
    refine zR_callc rfl rfl rfl rfl (zcallok_v zc0 rfl rfl) rfl (hp := 25) rfl rfl hM ?_
    refine zR_s rfl ?_
    refine zR_cst (v := 4) rfl rfl rfl ?_
    first | refine zR_rete rfl rfl ?_ ?_ | refine zR_retb rfl rfl ?_ ?_
    all_goals (rfl)
theorem w_join {p0 p1 : Int32} {h1 : zH} (hM : zMe sL sx 10 28 [.ref 0, .int p0, .int p1] (zCs N F G K Z ++ T) (.returned none) h1) : zMe sL sx 11 110 [.ref 0, .int p0, .int p1] (zCs N F G K Z ++ T) (.returned (some (.int 0))) h1 := by
  show zR sL sx _ 110 0 [.ref 0, .int p0, .int p1, .retAddr 0] [] _ _ _
  refine zR_s rfl ?_
  refine zR_s rfl ?_
  refine zR_s rfl ?_
  refine zR_call rfl rfl rfl rfl (zcallok_v (zc0) rfl rfl) (hM) ?_
  refine zR_s rfl ?_
  refine zR_cst (v := 0) rfl rfl rfl ?_
  first | refine zR_rete rfl rfl ?_ ?_ | refine zR_retb rfl rfl ?_ ?_
  all_goals (rfl)
theorem w_join_e {p0 p1 : Int32} {h1 : zH} {e : Nat} (he : e = 4 ∨ e = 2 ∨ e = 3) (hM : zMe sL sx 10 28 [.ref 0, .int p0, .int p1] (zCs N F G K Z ++ T) (.threw e) h1) : zMe sL sx 11 110 [.ref 0, .int p0, .int p1] (zCs N F G K Z ++ T) (.returned (some (.int (kfB e)))) h1 := by
  rcases he with rfl | rfl | rfl
  · show zR sL sx _ 110 0 [.ref 0, .int p0, .int p1, .retAddr 0] [] _ _ _
    refine zR_s rfl ?_
    refine zR_s rfl ?_
    refine zR_s rfl ?_
    refine zR_callc rfl rfl rfl rfl (zcallok_v zc0 rfl rfl) rfl (hp := 9) rfl rfl hM ?_
    refine zR_s rfl ?_
    refine zR_cst (v := 1) rfl rfl rfl ?_
    first | refine zR_rete rfl rfl ?_ ?_ | refine zR_retb rfl rfl ?_ ?_
    all_goals (rfl)
  · show zR sL sx _ 110 0 [.ref 0, .int p0, .int p1, .retAddr 0] [] _ _ _
    refine zR_s rfl ?_
    refine zR_s rfl ?_
    refine zR_s rfl ?_
    refine zR_callc rfl rfl rfl rfl (zcallok_v zc0 rfl rfl) rfl (hp := 12) rfl rfl hM ?_
    refine zR_s rfl ?_
    refine zR_cst (v := 2) rfl rfl rfl ?_
    first | refine zR_rete rfl rfl ?_ ?_ | refine zR_retb rfl rfl ?_ ?_
    all_goals (rfl)
  · show zR sL sx _ 110 0 [.ref 0, .int p0, .int p1, .retAddr 0] [] _ _ _
    refine zR_s rfl ?_
    refine zR_s rfl ?_
    refine zR_s rfl ?_
    refine zR_callc rfl rfl rfl rfl (zcallok_v zc0 rfl rfl) rfl (hp := 15) rfl rfl hM ?_
    refine zR_s rfl ?_
    refine zR_cst (v := 3) rfl rfl rfl ?_
    first | refine zR_rete rfl rfl ?_ ?_ | refine zR_retb rfl rfl ?_ ?_
    all_goals (rfl)
theorem w_state {p0 p1 : Int32} {h1 : zH} (hM : zMe sL sx 10 29 [.ref 0, .int p0, .int p1] (zCs N F G K Z ++ T) (.returned none) h1) : zMe sL sx 11 111 [.ref 0, .int p0, .int p1] (zCs N F G K Z ++ T) (.returned (some (.int 0))) h1 := by
  show zR sL sx _ 111 0 [.ref 0, .int p0, .int p1, .retAddr 0] [] _ _ _
  refine zR_s rfl ?_
  refine zR_s rfl ?_
  refine zR_s rfl ?_
  refine zR_call rfl rfl rfl rfl (zcallok_v (zc0) rfl rfl) (hM) ?_
  refine zR_s rfl ?_
  refine zR_cst (v := 0) rfl rfl rfl ?_
  first | refine zR_rete rfl rfl ?_ ?_ | refine zR_retb rfl rfl ?_ ?_
  all_goals (rfl)
theorem w_state_e {p0 p1 : Int32} {h1 : zH} {e : Nat} (he : e = 4 ∨ e = 1 ∨ e = 2 ∨ e = 3) (hM : zMe sL sx 10 29 [.ref 0, .int p0, .int p1] (zCs N F G K Z ++ T) (.threw e) h1) : zMe sL sx 11 111 [.ref 0, .int p0, .int p1] (zCs N F G K Z ++ T) (.returned (some (.int (kfA e)))) h1 := by
  rcases he with rfl | rfl | rfl | rfl
  · show zR sL sx _ 111 0 [.ref 0, .int p0, .int p1, .retAddr 0] [] _ _ _
    refine zR_s rfl ?_
    refine zR_s rfl ?_
    refine zR_s rfl ?_
    refine zR_callc rfl rfl rfl rfl (zcallok_v zc0 rfl rfl) rfl (hp := 9) rfl rfl hM ?_
    refine zR_s rfl ?_
    refine zR_cst (v := 1) rfl rfl rfl ?_
    first | refine zR_rete rfl rfl ?_ ?_ | refine zR_retb rfl rfl ?_ ?_
    all_goals (rfl)
  · show zR sL sx _ 111 0 [.ref 0, .int p0, .int p1, .retAddr 0] [] _ _ _
    refine zR_s rfl ?_
    refine zR_s rfl ?_
    refine zR_s rfl ?_
    refine zR_callc rfl rfl rfl rfl (zcallok_v zc0 rfl rfl) rfl (hp := 12) rfl rfl hM ?_
    refine zR_s rfl ?_
    refine zR_cst (v := 2) rfl rfl rfl ?_
    first | refine zR_rete rfl rfl ?_ ?_ | refine zR_retb rfl rfl ?_ ?_
    all_goals (rfl)
  · show zR sL sx _ 111 0 [.ref 0, .int p0, .int p1, .retAddr 0] [] _ _ _
    refine zR_s rfl ?_
    refine zR_s rfl ?_
    refine zR_s rfl ?_
    refine zR_callc rfl rfl rfl rfl (zcallok_v zc0 rfl rfl) rfl (hp := 15) rfl rfl hM ?_
    refine zR_s rfl ?_
    refine zR_cst (v := 3) rfl rfl rfl ?_
    first | refine zR_rete rfl rfl ?_ ?_ | refine zR_retb rfl rfl ?_ ?_
    all_goals (rfl)
  · show zR sL sx _ 111 0 [.ref 0, .int p0, .int p1, .retAddr 0] [] _ _ _
    refine zR_s rfl ?_
    refine zR_s rfl ?_
    refine zR_s rfl ?_
    refine zR_callc rfl rfl rfl rfl (zcallok_v zc0 rfl rfl) rfl (hp := 18) rfl rfl hM ?_
    refine zR_s rfl ?_
    refine zR_cst (v := 4) rfl rfl rfl ?_
    first | refine zR_rete rfl rfl ?_ ?_ | refine zR_retb rfl rfl ?_ ?_
    all_goals (rfl)
theorem w_serial {p0 : Int32} {n : Int64} {h1 : zH} (hM : zMe sL sx 10 30 [.ref 0, .int p0, .long n] (zCs N F G K Z ++ T) (.returned none) h1) : zMe sL sx 11 112 [.ref 0, .int p0, .long n] (zCs N F G K Z ++ T) (.returned (some (.int 0))) h1 := by
  show zR sL sx _ 112 0 [.ref 0, .int p0, .long n, .retAddr 0, .retAddr 0] [] _ _ _
  refine zR_s rfl ?_
  refine zR_s rfl ?_
  refine zR_s rfl ?_
  refine zR_call rfl rfl rfl rfl (zcallok_v (zc0) rfl rfl) (hM) ?_
  refine zR_s rfl ?_
  refine zR_cst (v := 0) rfl rfl rfl ?_
  first | refine zR_rete rfl rfl ?_ ?_ | refine zR_retb rfl rfl ?_ ?_
  all_goals (rfl)
theorem w_serial_e {p0 : Int32} {n : Int64} {h1 : zH} {e : Nat} (he : e = 4 ∨ e = 1 ∨ e = 2 ∨ e = 3) (hM : zMe sL sx 10 30 [.ref 0, .int p0, .long n] (zCs N F G K Z ++ T) (.threw e) h1) : zMe sL sx 11 112 [.ref 0, .int p0, .long n] (zCs N F G K Z ++ T) (.returned (some (.int (kfA e)))) h1 := by
  rcases he with rfl | rfl | rfl | rfl
  · show zR sL sx _ 112 0 [.ref 0, .int p0, .long n, .retAddr 0, .retAddr 0] [] _ _ _
    refine zR_s rfl ?_
    refine zR_s rfl ?_
    refine zR_s rfl ?_
    refine zR_callc rfl rfl rfl rfl (zcallok_v zc0 rfl rfl) rfl (hp := 9) rfl rfl hM ?_
    refine zR_s rfl ?_
    refine zR_cst (v := 1) rfl rfl rfl ?_
    first | refine zR_rete rfl rfl ?_ ?_ | refine zR_retb rfl rfl ?_ ?_
    all_goals (rfl)
  · show zR sL sx _ 112 0 [.ref 0, .int p0, .long n, .retAddr 0, .retAddr 0] [] _ _ _
    refine zR_s rfl ?_
    refine zR_s rfl ?_
    refine zR_s rfl ?_
    refine zR_callc rfl rfl rfl rfl (zcallok_v zc0 rfl rfl) rfl (hp := 13) rfl rfl hM ?_
    refine zR_s rfl ?_
    refine zR_cst (v := 2) rfl rfl rfl ?_
    first | refine zR_rete rfl rfl ?_ ?_ | refine zR_retb rfl rfl ?_ ?_
    all_goals (rfl)
  · show zR sL sx _ 112 0 [.ref 0, .int p0, .long n, .retAddr 0, .retAddr 0] [] _ _ _
    refine zR_s rfl ?_
    refine zR_s rfl ?_
    refine zR_s rfl ?_
    refine zR_callc rfl rfl rfl rfl (zcallok_v zc0 rfl rfl) rfl (hp := 17) rfl rfl hM ?_
    refine zR_s rfl ?_
    refine zR_cst (v := 3) rfl rfl rfl ?_
    first | refine zR_rete rfl rfl ?_ ?_ | refine zR_retb rfl rfl ?_ ?_
    all_goals (rfl)
  · show zR sL sx _ 112 0 [.ref 0, .int p0, .long n, .retAddr 0, .retAddr 0] [] _ _ _
    refine zR_s rfl ?_
    refine zR_s rfl ?_
    refine zR_s rfl ?_
    refine zR_callc rfl rfl rfl rfl (zcallok_v zc0 rfl rfl) rfl (hp := 21) rfl rfl hM ?_
    refine zR_s rfl ?_
    refine zR_cst (v := 4) rfl rfl rfl ?_
    first | refine zR_rete rfl rfl ?_ ?_ | refine zR_retb rfl rfl ?_ ?_
    all_goals (rfl)
theorem w_lost {p0 p1 : Int32} {h1 : zH} (hM : zMe sL sx 10 31 [.ref 0, .int p0, .int p1] (zCs N F G K Z ++ T) (.returned none) h1) : zMe sL sx 11 113 [.ref 0, .int p0, .int p1] (zCs N F G K Z ++ T) (.returned (some (.int 0))) h1 := by
  show zR sL sx _ 113 0 [.ref 0, .int p0, .int p1, .retAddr 0] [] _ _ _
  refine zR_s rfl ?_
  refine zR_s rfl ?_
  refine zR_s rfl ?_
  refine zR_call rfl rfl rfl rfl (zcallok_v (zc0) rfl rfl) (hM) ?_
  refine zR_s rfl ?_
  refine zR_cst (v := 0) rfl rfl rfl ?_
  first | refine zR_rete rfl rfl ?_ ?_ | refine zR_retb rfl rfl ?_ ?_
  all_goals (rfl)
theorem w_lost_e {p0 p1 : Int32} {h1 : zH} {e : Nat} (he : e = 4 ∨ e = 1 ∨ e = 2 ∨ e = 3) (hM : zMe sL sx 10 31 [.ref 0, .int p0, .int p1] (zCs N F G K Z ++ T) (.threw e) h1) : zMe sL sx 11 113 [.ref 0, .int p0, .int p1] (zCs N F G K Z ++ T) (.returned (some (.int (kfA e)))) h1 := by
  rcases he with rfl | rfl | rfl | rfl
  · show zR sL sx _ 113 0 [.ref 0, .int p0, .int p1, .retAddr 0] [] _ _ _
    refine zR_s rfl ?_
    refine zR_s rfl ?_
    refine zR_s rfl ?_
    refine zR_callc rfl rfl rfl rfl (zcallok_v zc0 rfl rfl) rfl (hp := 9) rfl rfl hM ?_
    refine zR_s rfl ?_
    refine zR_cst (v := 1) rfl rfl rfl ?_
    first | refine zR_rete rfl rfl ?_ ?_ | refine zR_retb rfl rfl ?_ ?_
    all_goals (rfl)
  · show zR sL sx _ 113 0 [.ref 0, .int p0, .int p1, .retAddr 0] [] _ _ _
    refine zR_s rfl ?_
    refine zR_s rfl ?_
    refine zR_s rfl ?_
    refine zR_callc rfl rfl rfl rfl (zcallok_v zc0 rfl rfl) rfl (hp := 12) rfl rfl hM ?_
    refine zR_s rfl ?_
    refine zR_cst (v := 2) rfl rfl rfl ?_
    first | refine zR_rete rfl rfl ?_ ?_ | refine zR_retb rfl rfl ?_ ?_
    all_goals (rfl)
  · show zR sL sx _ 113 0 [.ref 0, .int p0, .int p1, .retAddr 0] [] _ _ _
    refine zR_s rfl ?_
    refine zR_s rfl ?_
    refine zR_s rfl ?_
    refine zR_callc rfl rfl rfl rfl (zcallok_v zc0 rfl rfl) rfl (hp := 15) rfl rfl hM ?_
    refine zR_s rfl ?_
    refine zR_cst (v := 3) rfl rfl rfl ?_
    first | refine zR_rete rfl rfl ?_ ?_ | refine zR_retb rfl rfl ?_ ?_
    all_goals (rfl)
  · show zR sL sx _ 113 0 [.ref 0, .int p0, .int p1, .retAddr 0] [] _ _ _
    refine zR_s rfl ?_
    refine zR_s rfl ?_
    refine zR_s rfl ?_
    refine zR_callc rfl rfl rfl rfl (zcallok_v zc0 rfl rfl) rfl (hp := 18) rfl rfl hM ?_
    refine zR_s rfl ?_
    refine zR_cst (v := 4) rfl rfl rfl ?_
    first | refine zR_rete rfl rfl ?_ ?_ | refine zR_retb rfl rfl ?_ ?_
    all_goals (rfl)
theorem w_found {p0 p1 : Int32} {h1 : zH} (hM : zMe sL sx 10 32 [.ref 0, .int p0, .int p1] (zCs N F G K Z ++ T) (.returned none) h1) : zMe sL sx 11 114 [.ref 0, .int p0, .int p1] (zCs N F G K Z ++ T) (.returned (some (.int 0))) h1 := by
  show zR sL sx _ 114 0 [.ref 0, .int p0, .int p1, .retAddr 0] [] _ _ _
  refine zR_s rfl ?_
  refine zR_s rfl ?_
  refine zR_s rfl ?_
  refine zR_call rfl rfl rfl rfl (zcallok_v (zc0) rfl rfl) (hM) ?_
  refine zR_s rfl ?_
  refine zR_cst (v := 0) rfl rfl rfl ?_
  first | refine zR_rete rfl rfl ?_ ?_ | refine zR_retb rfl rfl ?_ ?_
  all_goals (rfl)
theorem w_found_e {p0 p1 : Int32} {h1 : zH} {e : Nat} (he : e = 4 ∨ e = 1 ∨ e = 2 ∨ e = 3) (hM : zMe sL sx 10 32 [.ref 0, .int p0, .int p1] (zCs N F G K Z ++ T) (.threw e) h1) : zMe sL sx 11 114 [.ref 0, .int p0, .int p1] (zCs N F G K Z ++ T) (.returned (some (.int (kfA e)))) h1 := by
  rcases he with rfl | rfl | rfl | rfl
  · show zR sL sx _ 114 0 [.ref 0, .int p0, .int p1, .retAddr 0] [] _ _ _
    refine zR_s rfl ?_
    refine zR_s rfl ?_
    refine zR_s rfl ?_
    refine zR_callc rfl rfl rfl rfl (zcallok_v zc0 rfl rfl) rfl (hp := 9) rfl rfl hM ?_
    refine zR_s rfl ?_
    refine zR_cst (v := 1) rfl rfl rfl ?_
    first | refine zR_rete rfl rfl ?_ ?_ | refine zR_retb rfl rfl ?_ ?_
    all_goals (rfl)
  · show zR sL sx _ 114 0 [.ref 0, .int p0, .int p1, .retAddr 0] [] _ _ _
    refine zR_s rfl ?_
    refine zR_s rfl ?_
    refine zR_s rfl ?_
    refine zR_callc rfl rfl rfl rfl (zcallok_v zc0 rfl rfl) rfl (hp := 12) rfl rfl hM ?_
    refine zR_s rfl ?_
    refine zR_cst (v := 2) rfl rfl rfl ?_
    first | refine zR_rete rfl rfl ?_ ?_ | refine zR_retb rfl rfl ?_ ?_
    all_goals (rfl)
  · show zR sL sx _ 114 0 [.ref 0, .int p0, .int p1, .retAddr 0] [] _ _ _
    refine zR_s rfl ?_
    refine zR_s rfl ?_
    refine zR_s rfl ?_
    refine zR_callc rfl rfl rfl rfl (zcallok_v zc0 rfl rfl) rfl (hp := 15) rfl rfl hM ?_
    refine zR_s rfl ?_
    refine zR_cst (v := 3) rfl rfl rfl ?_
    first | refine zR_rete rfl rfl ?_ ?_ | refine zR_retb rfl rfl ?_ ?_
    all_goals (rfl)
  · show zR sL sx _ 114 0 [.ref 0, .int p0, .int p1, .retAddr 0] [] _ _ _
    refine zR_s rfl ?_
    refine zR_s rfl ?_
    refine zR_s rfl ?_
    refine zR_callc rfl rfl rfl rfl (zcallok_v zc0 rfl rfl) rfl (hp := 18) rfl rfl hM ?_
    refine zR_s rfl ?_
    refine zR_cst (v := 4) rfl rfl rfl ?_
    first | refine zR_rete rfl rfl ?_ ?_ | refine zR_retb rfl rfl ?_ ?_
    all_goals (rfl)
theorem w_weigh {p0 p1 : Int32} {x : Int32} {h : zH} {N0 : Nat → Int32} (h0 : h[0]? = some (10 + 2, [.ref 1, .ref 2, .ref 3, .ref 4, .ref 5, .ref 6, .int (N0 0), .int (N0 1), .int (N0 2), .int (N0 3)])) (hM : zMe sL sx 10 33 [.ref 0, .int p0, .int p1] h (.returned (some (.int x))) (zL N F G K Z N2 F2 G2 H Z2 c B v0 tl)) : zMe sL sx 11 115 [.ref 0, .int p0, .int p1, .ref 92] h (.returned (some (.int 0))) (zL N F G K Z N2 F2 G2 H Z2 c B x.toInt64 tl) := by
  show zR sL sx _ 115 0 [.ref 0, .int p0, .int p1, .ref 92, .retAddr 0] [] _ _ _
  refine zR_s rfl ?_
  refine zR_cst (v := 0) rfl rfl rfl ?_
  refine zR_s rfl ?_
  refine zR_s rfl ?_
  refine zR_s rfl ?_
  refine zR_call rfl rfl rfl rfl (zcallok_v (h0) rfl rfl) (hM) ?_
  refine zR_s rfl ?_
  refine zR_lstO rfl ?_
  refine zR_s rfl ?_
  refine zR_cst (v := 0) rfl rfl rfl ?_
  first | refine zR_rete rfl rfl ?_ ?_ | refine zR_retb rfl rfl ?_ ?_
  all_goals (rfl)
theorem w_weigh_e {p0 p1 : Int32} {h1 : zH} {e : Nat} (he : e = 4 ∨ e = 1 ∨ e = 2 ∨ e = 3) (hM : zMe sL sx 10 33 [.ref 0, .int p0, .int p1] (zCs N F G K Z ++ T) (.threw e) h1) : zMe sL sx 11 115 [.ref 0, .int p0, .int p1, .ref 92] (zCs N F G K Z ++ T) (.returned (some (.int (kfA e)))) h1 := by
  rcases he with rfl | rfl | rfl | rfl
  · show zR sL sx _ 115 0 [.ref 0, .int p0, .int p1, .ref 92, .retAddr 0] [] _ _ _
    refine zR_s rfl ?_
    refine zR_cst (v := 0) rfl rfl rfl ?_
    refine zR_s rfl ?_
    refine zR_s rfl ?_
    refine zR_s rfl ?_
    refine zR_callc rfl rfl rfl rfl (zcallok_v zc0 rfl rfl) rfl (hp := 13) rfl rfl hM ?_
    refine zR_s rfl ?_
    refine zR_cst (v := 1) rfl rfl rfl ?_
    first | refine zR_rete rfl rfl ?_ ?_ | refine zR_retb rfl rfl ?_ ?_
    all_goals (rfl)
  · show zR sL sx _ 115 0 [.ref 0, .int p0, .int p1, .ref 92, .retAddr 0] [] _ _ _
    refine zR_s rfl ?_
    refine zR_cst (v := 0) rfl rfl rfl ?_
    refine zR_s rfl ?_
    refine zR_s rfl ?_
    refine zR_s rfl ?_
    refine zR_callc rfl rfl rfl rfl (zcallok_v zc0 rfl rfl) rfl (hp := 17) rfl rfl hM ?_
    refine zR_s rfl ?_
    refine zR_cst (v := 2) rfl rfl rfl ?_
    first | refine zR_rete rfl rfl ?_ ?_ | refine zR_retb rfl rfl ?_ ?_
    all_goals (rfl)
  · show zR sL sx _ 115 0 [.ref 0, .int p0, .int p1, .ref 92, .retAddr 0] [] _ _ _
    refine zR_s rfl ?_
    refine zR_cst (v := 0) rfl rfl rfl ?_
    refine zR_s rfl ?_
    refine zR_s rfl ?_
    refine zR_s rfl ?_
    refine zR_callc rfl rfl rfl rfl (zcallok_v zc0 rfl rfl) rfl (hp := 21) rfl rfl hM ?_
    refine zR_s rfl ?_
    refine zR_cst (v := 3) rfl rfl rfl ?_
    first | refine zR_rete rfl rfl ?_ ?_ | refine zR_retb rfl rfl ?_ ?_
    all_goals (rfl)
  · show zR sL sx _ 115 0 [.ref 0, .int p0, .int p1, .ref 92, .retAddr 0] [] _ _ _
    refine zR_s rfl ?_
    refine zR_cst (v := 0) rfl rfl rfl ?_
    refine zR_s rfl ?_
    refine zR_s rfl ?_
    refine zR_s rfl ?_
    refine zR_callc rfl rfl rfl rfl (zcallok_v zc0 rfl rfl) rfl (hp := 25) rfl rfl hM ?_
    refine zR_s rfl ?_
    refine zR_cst (v := 4) rfl rfl rfl ?_
    first | refine zR_rete rfl rfl ?_ ?_ | refine zR_retb rfl rfl ?_ ?_
    all_goals (rfl)
theorem w_day {p0 : Int32} {x : Int32} {h : zH} {N0 : Nat → Int32} (h0 : h[0]? = some (10 + 2, [.ref 1, .ref 2, .ref 3, .ref 4, .ref 5, .ref 6, .int (N0 0), .int (N0 1), .int (N0 2), .int (N0 3)])) (hM : zMe sL sx 10 34 [.ref 0, .int p0] h (.returned (some (.int x))) (zL N F G K Z N2 F2 G2 H Z2 c B v0 tl)) : zMe sL sx 11 116 [.ref 0, .int p0, .ref 92] h (.returned (some (.int 0))) (zL N F G K Z N2 F2 G2 H Z2 c B x.toInt64 tl) := by
  show zR sL sx _ 116 0 [.ref 0, .int p0, .ref 92, .retAddr 0] [] _ _ _
  refine zR_s rfl ?_
  refine zR_cst (v := 0) rfl rfl rfl ?_
  refine zR_s rfl ?_
  refine zR_s rfl ?_
  refine zR_call rfl rfl rfl rfl (zcallok_v (h0) rfl rfl) (hM) ?_
  refine zR_s rfl ?_
  refine zR_lstO rfl ?_
  refine zR_s rfl ?_
  refine zR_cst (v := 0) rfl rfl rfl ?_
  first | refine zR_rete rfl rfl ?_ ?_ | refine zR_retb rfl rfl ?_ ?_
  all_goals (rfl)
theorem w_day_e {p0 : Int32} {h1 : zH} {e : Nat} (he : e = 1) (hM : zMe sL sx 10 34 [.ref 0, .int p0] (zCs N F G K Z ++ T) (.threw e) h1) : zMe sL sx 11 116 [.ref 0, .int p0, .ref 92] (zCs N F G K Z ++ T) (.returned (some (.int (kfP e)))) h1 := by
  rcases he with rfl
  · show zR sL sx _ 116 0 [.ref 0, .int p0, .ref 92, .retAddr 0] [] _ _ _
    refine zR_s rfl ?_
    refine zR_cst (v := 0) rfl rfl rfl ?_
    refine zR_s rfl ?_
    refine zR_s rfl ?_
    refine zR_callc rfl rfl rfl rfl (zcallok_v zc0 rfl rfl) rfl (hp := 12) rfl rfl hM ?_
    refine zR_s rfl ?_
    refine zR_cst (v := 1) rfl rfl rfl ?_
    first | refine zR_rete rfl rfl ?_ ?_ | refine zR_retb rfl rfl ?_ ?_
    all_goals (rfl)
theorem w_at {p0 p1 : Int32} {x : Int32} {h : zH} {N0 : Nat → Int32} (h0 : h[0]? = some (10 + 2, [.ref 1, .ref 2, .ref 3, .ref 4, .ref 5, .ref 6, .int (N0 0), .int (N0 1), .int (N0 2), .int (N0 3)])) (hM : zMe sL sx 10 35 [.ref 0, .int p0, .int p1] h (.returned (some (.int x))) (zL N F G K Z N2 F2 G2 H Z2 c B v0 tl)) : zMe sL sx 11 117 [.ref 0, .int p0, .int p1, .ref 92] h (.returned (some (.int 0))) (zL N F G K Z N2 F2 G2 H Z2 c B x.toInt64 tl) := by
  show zR sL sx _ 117 0 [.ref 0, .int p0, .int p1, .ref 92, .retAddr 0] [] _ _ _
  refine zR_s rfl ?_
  refine zR_cst (v := 0) rfl rfl rfl ?_
  refine zR_s rfl ?_
  refine zR_s rfl ?_
  refine zR_s rfl ?_
  refine zR_call rfl rfl rfl rfl (zcallok_v (h0) rfl rfl) (hM) ?_
  refine zR_s rfl ?_
  refine zR_lstO rfl ?_
  refine zR_s rfl ?_
  refine zR_cst (v := 0) rfl rfl rfl ?_
  first | refine zR_rete rfl rfl ?_ ?_ | refine zR_retb rfl rfl ?_ ?_
  all_goals (rfl)
theorem w_at_e {p0 p1 : Int32} {h1 : zH} {e : Nat} (he : e = 1 ∨ e = 5) (hM : zMe sL sx 10 35 [.ref 0, .int p0, .int p1] (zCs N F G K Z ++ T) (.threw e) h1) : zMe sL sx 11 117 [.ref 0, .int p0, .int p1, .ref 92] (zCs N F G K Z ++ T) (.returned (some (.int (kfP e)))) h1 := by
  rcases he with rfl | rfl
  · show zR sL sx _ 117 0 [.ref 0, .int p0, .int p1, .ref 92, .retAddr 0] [] _ _ _
    refine zR_s rfl ?_
    refine zR_cst (v := 0) rfl rfl rfl ?_
    refine zR_s rfl ?_
    refine zR_s rfl ?_
    refine zR_s rfl ?_
    refine zR_callc rfl rfl rfl rfl (zcallok_v zc0 rfl rfl) rfl (hp := 13) rfl rfl hM ?_
    refine zR_s rfl ?_
    refine zR_cst (v := 1) rfl rfl rfl ?_
    first | refine zR_rete rfl rfl ?_ ?_ | refine zR_retb rfl rfl ?_ ?_
    all_goals (rfl)
  · show zR sL sx _ 117 0 [.ref 0, .int p0, .int p1, .ref 92, .retAddr 0] [] _ _ _
    refine zR_s rfl ?_
    refine zR_cst (v := 0) rfl rfl rfl ?_
    refine zR_s rfl ?_
    refine zR_s rfl ?_
    refine zR_s rfl ?_
    refine zR_callc rfl rfl rfl rfl (zcallok_v zc0 rfl rfl) rfl (hp := 17) rfl rfl hM ?_
    refine zR_s rfl ?_
    refine zR_cst (v := 2) rfl rfl rfl ?_
    first | refine zR_rete rfl rfl ?_ ?_ | refine zR_retb rfl rfl ?_ ?_
    all_goals (rfl)
theorem w_find {p0 p1 p2 p3 : Int32} {x : Int32} {h : zH} {N0 : Nat → Int32} (h0 : h[0]? = some (10 + 2, [.ref 1, .ref 2, .ref 3, .ref 4, .ref 5, .ref 6, .int (N0 0), .int (N0 1), .int (N0 2), .int (N0 3)])) (hM : zMe sL sx 10 36 [.ref 0, .int p0, .int p1, .int p2, .int p3] h (.returned (some (.int x))) (zL N F G K Z N2 F2 G2 H Z2 c B v0 tl)) : zMe sL sx 11 118 [.ref 0, .int p0, .int p1, .int p2, .int p3, .ref 92] h (.returned (some (.int 0))) (zL N F G K Z N2 F2 G2 H Z2 c B x.toInt64 tl) := by
  show zR sL sx _ 118 0 [.ref 0, .int p0, .int p1, .int p2, .int p3, .ref 92, .retAddr 0] [] _ _ _
  refine zR_s rfl ?_
  refine zR_cst (v := 0) rfl rfl rfl ?_
  refine zR_s rfl ?_
  refine zR_s rfl ?_
  refine zR_s rfl ?_
  refine zR_s rfl ?_
  refine zR_s rfl ?_
  refine zR_call rfl rfl rfl rfl (zcallok_v (h0) rfl rfl) (hM) ?_
  refine zR_s rfl ?_
  refine zR_lstO rfl ?_
  refine zR_s rfl ?_
  refine zR_cst (v := 0) rfl rfl rfl ?_
  first | refine zR_rete rfl rfl ?_ ?_ | refine zR_retb rfl rfl ?_ ?_
  all_goals (rfl)
theorem w_find_e {p0 p1 p2 p3 : Int32} {h1 : zH} {e : Nat} (he : e = 1) (hM : zMe sL sx 10 36 [.ref 0, .int p0, .int p1, .int p2, .int p3] (zCs N F G K Z ++ T) (.threw e) h1) : zMe sL sx 11 118 [.ref 0, .int p0, .int p1, .int p2, .int p3, .ref 92] (zCs N F G K Z ++ T) (.returned (some (.int (kfP e)))) h1 := by
  rcases he with rfl
  · show zR sL sx _ 118 0 [.ref 0, .int p0, .int p1, .int p2, .int p3, .ref 92, .retAddr 0] [] _ _ _
    refine zR_s rfl ?_
    refine zR_cst (v := 0) rfl rfl rfl ?_
    refine zR_s rfl ?_
    refine zR_s rfl ?_
    refine zR_s rfl ?_
    refine zR_s rfl ?_
    refine zR_s rfl ?_
    refine zR_callc rfl rfl rfl rfl (zcallok_v zc0 rfl rfl) rfl (hp := 17) rfl rfl hM ?_
    refine zR_s rfl ?_
    refine zR_cst (v := 1) rfl rfl rfl ?_
    first | refine zR_rete rfl rfl ?_ ?_ | refine zR_retb rfl rfl ?_ ?_
    all_goals (rfl)
theorem w_sum {p0 p1 : Int32} {x : Int64} {h : zH} {N0 : Nat → Int32} (h0 : h[0]? = some (10 + 2, [.ref 1, .ref 2, .ref 3, .ref 4, .ref 5, .ref 6, .int (N0 0), .int (N0 1), .int (N0 2), .int (N0 3)])) (hM : zMe sL sx 10 37 [.ref 0, .int p0, .int p1] h (.returned (some (.long x))) (zL N F G K Z N2 F2 G2 H Z2 c B v0 tl)) : zMe sL sx 11 119 [.ref 0, .int p0, .int p1, .ref 92] h (.returned (some (.int 0))) (zL N F G K Z N2 F2 G2 H Z2 c B x tl) := by
  show zR sL sx _ 119 0 [.ref 0, .int p0, .int p1, .ref 92, .retAddr 0] [] _ _ _
  refine zR_s rfl ?_
  refine zR_cst (v := 0) rfl rfl rfl ?_
  refine zR_s rfl ?_
  refine zR_s rfl ?_
  refine zR_s rfl ?_
  refine zR_call rfl rfl rfl rfl (zcallok_v (h0) rfl rfl) (hM) ?_
  refine zR_lstO rfl ?_
  refine zR_s rfl ?_
  refine zR_cst (v := 0) rfl rfl rfl ?_
  first | refine zR_rete rfl rfl ?_ ?_ | refine zR_retb rfl rfl ?_ ?_
  all_goals (rfl)
theorem w_sum_e {p0 p1 : Int32} {h1 : zH} {e : Nat} (he : e = 1) (hM : zMe sL sx 10 37 [.ref 0, .int p0, .int p1] (zCs N F G K Z ++ T) (.threw e) h1) : zMe sL sx 11 119 [.ref 0, .int p0, .int p1, .ref 92] (zCs N F G K Z ++ T) (.returned (some (.int (kfP e)))) h1 := by
  rcases he with rfl
  · show zR sL sx _ 119 0 [.ref 0, .int p0, .int p1, .ref 92, .retAddr 0] [] _ _ _
    refine zR_s rfl ?_
    refine zR_cst (v := 0) rfl rfl rfl ?_
    refine zR_s rfl ?_
    refine zR_s rfl ?_
    refine zR_s rfl ?_
    refine zR_callc rfl rfl rfl rfl (zcallok_v zc0 rfl rfl) rfl (hp := 12) rfl rfl hM ?_
    refine zR_s rfl ?_
    refine zR_cst (v := 1) rfl rfl rfl ?_
    first | refine zR_rete rfl rfl ?_ ?_ | refine zR_retb rfl rfl ?_ ?_
    all_goals (rfl)
theorem w_row {p0 p1 p2 : Int32} {x : Int32} {h : zH} {N0 : Nat → Int32} (h0 : h[0]? = some (10 + 2, [.ref 1, .ref 2, .ref 3, .ref 4, .ref 5, .ref 6, .int (N0 0), .int (N0 1), .int (N0 2), .int (N0 3)])) (hM : zMe sL sx 10 38 [.ref 0, .int p0, .int p1, .int p2] h (.returned (some (.int x))) (zL N F G K Z N2 F2 G2 H Z2 c B v0 tl)) : zMe sL sx 11 120 [.ref 0, .int p0, .int p1, .int p2, .ref 92] h (.returned (some (.int 0))) (zL N F G K Z N2 F2 G2 H Z2 c B x.toInt64 tl) := by
  show zR sL sx _ 120 0 [.ref 0, .int p0, .int p1, .int p2, .ref 92, .retAddr 0] [] _ _ _
  refine zR_s rfl ?_
  refine zR_cst (v := 0) rfl rfl rfl ?_
  refine zR_s rfl ?_
  refine zR_s rfl ?_
  refine zR_s rfl ?_
  refine zR_s rfl ?_
  refine zR_call rfl rfl rfl rfl (zcallok_v (h0) rfl rfl) (hM) ?_
  refine zR_s rfl ?_
  refine zR_lstO rfl ?_
  refine zR_s rfl ?_
  refine zR_cst (v := 0) rfl rfl rfl ?_
  first | refine zR_rete rfl rfl ?_ ?_ | refine zR_retb rfl rfl ?_ ?_
  all_goals (rfl)
theorem w_row_e {p0 p1 p2 : Int32} {h1 : zH} {e : Nat} (he : e = 4 ∨ e = 1) (hM : zMe sL sx 10 38 [.ref 0, .int p0, .int p1, .int p2] (zCs N F G K Z ++ T) (.threw e) h1) : zMe sL sx 11 120 [.ref 0, .int p0, .int p1, .int p2, .ref 92] (zCs N F G K Z ++ T) (.returned (some (.int (kfW e)))) h1 := by
  rcases he with rfl | rfl
  · show zR sL sx _ 120 0 [.ref 0, .int p0, .int p1, .int p2, .ref 92, .retAddr 0] [] _ _ _
    refine zR_s rfl ?_
    refine zR_cst (v := 0) rfl rfl rfl ?_
    refine zR_s rfl ?_
    refine zR_s rfl ?_
    refine zR_s rfl ?_
    refine zR_s rfl ?_
    refine zR_callc rfl rfl rfl rfl (zcallok_v zc0 rfl rfl) rfl (hp := 15) rfl rfl hM ?_
    refine zR_s rfl ?_
    refine zR_cst (v := 1) rfl rfl rfl ?_
    first | refine zR_rete rfl rfl ?_ ?_ | refine zR_retb rfl rfl ?_ ?_
    all_goals (rfl)
  · show zR sL sx _ 120 0 [.ref 0, .int p0, .int p1, .int p2, .ref 92, .retAddr 0] [] _ _ _
    refine zR_s rfl ?_
    refine zR_cst (v := 0) rfl rfl rfl ?_
    refine zR_s rfl ?_
    refine zR_s rfl ?_
    refine zR_s rfl ?_
    refine zR_s rfl ?_
    refine zR_callc rfl rfl rfl rfl (zcallok_v zc0 rfl rfl) rfl (hp := 19) rfl rfl hM ?_
    refine zR_s rfl ?_
    refine zR_cst (v := 2) rfl rfl rfl ?_
    first | refine zR_rete rfl rfl ?_ ?_ | refine zR_retb rfl rfl ?_ ?_
    all_goals (rfl)
theorem w_told {p0 p1 : Int32} {x : Int32} {h : zH} {N0 : Nat → Int32} (h0 : h[0]? = some (10 + 2, [.ref 1, .ref 2, .ref 3, .ref 4, .ref 5, .ref 6, .int (N0 0), .int (N0 1), .int (N0 2), .int (N0 3)])) (hM : zMe sL sx 10 39 [.ref 0, .int p0, .int p1] h (.returned (some (.int x))) (zL N F G K Z N2 F2 G2 H Z2 c B v0 tl)) : zMe sL sx 11 121 [.ref 0, .int p0, .int p1, .ref 92] h (.returned (some (.int 0))) (zL N F G K Z N2 F2 G2 H Z2 c B x.toInt64 tl) := by
  show zR sL sx _ 121 0 [.ref 0, .int p0, .int p1, .ref 92, .retAddr 0] [] _ _ _
  refine zR_s rfl ?_
  refine zR_cst (v := 0) rfl rfl rfl ?_
  refine zR_s rfl ?_
  refine zR_s rfl ?_
  refine zR_s rfl ?_
  refine zR_call rfl rfl rfl rfl (zcallok_v (h0) rfl rfl) (hM) ?_
  refine zR_s rfl ?_
  refine zR_lstO rfl ?_
  refine zR_s rfl ?_
  refine zR_cst (v := 0) rfl rfl rfl ?_
  first | refine zR_rete rfl rfl ?_ ?_ | refine zR_retb rfl rfl ?_ ?_
  all_goals (rfl)
theorem w_told_e {p0 p1 : Int32} {h1 : zH} {e : Nat} (he : e = 4 ∨ e = 1) (hM : zMe sL sx 10 39 [.ref 0, .int p0, .int p1] (zCs N F G K Z ++ T) (.threw e) h1) : zMe sL sx 11 121 [.ref 0, .int p0, .int p1, .ref 92] (zCs N F G K Z ++ T) (.returned (some (.int (kfW e)))) h1 := by
  rcases he with rfl | rfl
  · show zR sL sx _ 121 0 [.ref 0, .int p0, .int p1, .ref 92, .retAddr 0] [] _ _ _
    refine zR_s rfl ?_
    refine zR_cst (v := 0) rfl rfl rfl ?_
    refine zR_s rfl ?_
    refine zR_s rfl ?_
    refine zR_s rfl ?_
    refine zR_callc rfl rfl rfl rfl (zcallok_v zc0 rfl rfl) rfl (hp := 13) rfl rfl hM ?_
    refine zR_s rfl ?_
    refine zR_cst (v := 1) rfl rfl rfl ?_
    first | refine zR_rete rfl rfl ?_ ?_ | refine zR_retb rfl rfl ?_ ?_
    all_goals (rfl)
  · show zR sL sx _ 121 0 [.ref 0, .int p0, .int p1, .ref 92, .retAddr 0] [] _ _ _
    refine zR_s rfl ?_
    refine zR_cst (v := 0) rfl rfl rfl ?_
    refine zR_s rfl ?_
    refine zR_s rfl ?_
    refine zR_s rfl ?_
    refine zR_callc rfl rfl rfl rfl (zcallok_v zc0 rfl rfl) rfl (hp := 17) rfl rfl hM ?_
    refine zR_s rfl ?_
    refine zR_cst (v := 2) rfl rfl rfl ?_
    first | refine zR_rete rfl rfl ?_ ?_ | refine zR_retb rfl rfl ?_ ?_
    all_goals (rfl)
theorem w_packed {p0 : Int32} {x : Int64} {h : zH} {N0 : Nat → Int32} (h0 : h[0]? = some (10 + 2, [.ref 1, .ref 2, .ref 3, .ref 4, .ref 5, .ref 6, .int (N0 0), .int (N0 1), .int (N0 2), .int (N0 3)])) (hM : zMe sL sx 10 40 [.ref 0, .int p0] h (.returned (some (.long x))) (zL N F G K Z N2 F2 G2 H Z2 c B v0 tl)) : zMe sL sx 11 122 [.ref 0, .int p0, .ref 92] h (.returned (some (.int 0))) (zL N F G K Z N2 F2 G2 H Z2 c B x tl) := by
  show zR sL sx _ 122 0 [.ref 0, .int p0, .ref 92, .retAddr 0] [] _ _ _
  refine zR_s rfl ?_
  refine zR_cst (v := 0) rfl rfl rfl ?_
  refine zR_s rfl ?_
  refine zR_s rfl ?_
  refine zR_call rfl rfl rfl rfl (zcallok_v (h0) rfl rfl) (hM) ?_
  refine zR_lstO rfl ?_
  refine zR_s rfl ?_
  refine zR_cst (v := 0) rfl rfl rfl ?_
  first | refine zR_rete rfl rfl ?_ ?_ | refine zR_retb rfl rfl ?_ ?_
  all_goals (rfl)
theorem w_packed_e {p0 : Int32} {h1 : zH} {e : Nat} (he : e = 4) (hM : zMe sL sx 10 40 [.ref 0, .int p0] (zCs N F G K Z ++ T) (.threw e) h1) : zMe sL sx 11 122 [.ref 0, .int p0, .ref 92] (zCs N F G K Z ++ T) (.returned (some (.int (kfW e)))) h1 := by
  rcases he with rfl
  · show zR sL sx _ 122 0 [.ref 0, .int p0, .ref 92, .retAddr 0] [] _ _ _
    refine zR_s rfl ?_
    refine zR_cst (v := 0) rfl rfl rfl ?_
    refine zR_s rfl ?_
    refine zR_s rfl ?_
    refine zR_callc rfl rfl rfl rfl (zcallok_v zc0 rfl rfl) rfl (hp := 11) rfl rfl hM ?_
    refine zR_s rfl ?_
    refine zR_cst (v := 1) rfl rfl rfl ?_
    first | refine zR_rete rfl rfl ?_ ?_ | refine zR_retb rfl rfl ?_ ?_
    all_goals (rfl)
end ZLW
