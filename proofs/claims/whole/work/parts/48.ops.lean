/-! the law: call after call -/
section ZLP
variable {sL : Nat} {sx : Nat → Int32} {d y pc : Nat} {L S : List Value} {h0 h hF : zH} {o : Outcome}
variable {N N2 : Nat → Int32} {F G F2 G2 : Nat → Nat → Int32} {K : Nat → Option Nat} {H : Nat → Int32} {Z Z2 : Nat → Int64} {c k : Int32} {B : Nat → Int32} {tl : zH} {v : Int64} {i : Nat} {a5 a6 a7 : Value}
variable {N' : Nat → Int32} {F' G' : Nat → Nat → Int32} {K' : Nat → Option Nat} {H' B' : Nat → Int32} {Z' : Nat → Int64} {v' : Int64} {tl' : zH}
theorem zR_scrk {i K : Nat} {k : Int32} (hk : k = nI K) (hz : zat y pc = some (.iaload, 1)) (hj : i + K < sL) (hn : sL < 2 ^ 31) (kk : zR sL sx d y (pc + 1) L (.int (sx (i + K)) :: S) h o hF) : zR sL sx d y pc L (.int (nI i + k) :: .retAddr 1 :: S) h o hF := by
  subst hk
  rw [nI_add]
  exact zR_scr hz hj hn kk
theorem m_thrownL : zMe sL sx d 63 [.ref 75] (zL N F G K Z N2 F2 G2 H Z2 c B v tl) (.returned (some (.int c))) (zL N F G K Z N2 F2 G2 H Z2 c B v tl) := m_thrown zCs_len
def zser (x y : Int32) : Int64 := (x.toInt64 <<< ((32 : Int32).toInt64 &&& 63)) ||| (y.toInt64 &&& 4294967295)

set_option maxRecDepth 100000 in
theorem zw_rows (hi : i + 5 ≤ sL) (hn : sL < 2 ^ 31) (h1 : zMe sL sx 11 101 [.ref 0, .int (sx (i + 1))] h0 (.returned (some (.int k))) h) (h75 : h[75]? = some (10 + 3, zmob N c)) (h2 : zMe sL sx 11 67 [.ref 75, .int (sx (i + 1))] h (.returned (none)) (zL N' F' G' K' Z' N' F' G' H' Z' k B' v' tl')) (ih : ∀ a b e : Value, zR sL sx 12 123 1487 [.retAddr 1, .ref 0, .ref 75, .ref 92, .int (nI i), a, b, e] [] (zL N' F' G' K' Z' N' F' G' H' Z' k B' v' tl') o hF) : zR sL sx 12 123 144 [.retAddr 1, .ref 0, .ref 75, .ref 92, .int (nI i), a5, a6, a7] [] h0 o hF := by
  refine zR_s rfl ?_
  refine zR_s rfl ?_
  refine zR_s rfl ?_
  refine zR_cst (v := 1) rfl rfl rfl ?_
  refine zR_iadd rfl ?_
  refine zR_scrk (K := 1) rfl rfl (by omega) hn ?_
  refine zR_call rfl rfl rfl rfl (zcallok_s rfl) (h1) ?_
  refine zR_s rfl ?_
  refine zR_s rfl ?_
  refine zR_s rfl ?_
  refine zR_s rfl ?_
  refine zR_cst (v := 1) rfl rfl rfl ?_
  refine zR_iadd rfl ?_
  refine zR_scrk (K := 1) rfl rfl (by omega) hn ?_
  refine zR_call rfl rfl rfl rfl (zcallok_v (h75) rfl rfl) (h2) ?_
  refine zR_s rfl ?_
  refine zR_call rfl rfl rfl rfl (zcallok_v (zL75) rfl rfl) (m_thrownL) ?_
  refine zR_s rfl ?_
  refine zR_iceq rfl rfl (fun _ => ?_) (fun c => by first | exact absurd (rfl) c | exact absurd c (rfl))
  refine zR_s rfl ?_
  exact ih _ _ _
set_option maxRecDepth 100000 in
theorem zw_place (hi : i + 5 ≤ sL) (hn : sL < 2 ^ 31) (h1 : zMe sL sx 11 102 [.ref 0, .int (sx (i + 1)), .int (sx (i + 2))] h0 (.returned (some (.int k))) h) (h75 : h[75]? = some (10 + 3, zmob N c)) (h2 : zMe sL sx 11 69 [.ref 75, .int (sx (i + 1)), .int (sx (i + 2))] h (.returned (none)) (zL N' F' G' K' Z' N' F' G' H' Z' k B' v' tl')) (ih : ∀ a b e : Value, zR sL sx 12 123 1487 [.retAddr 1, .ref 0, .ref 75, .ref 92, .int (nI i), a, b, e] [] (zL N' F' G' K' Z' N' F' G' H' Z' k B' v' tl') o hF) : zR sL sx 12 123 180 [.retAddr 1, .ref 0, .ref 75, .ref 92, .int (nI i), a5, a6, a7] [] h0 o hF := by
  refine zR_s rfl ?_
  refine zR_s rfl ?_
  refine zR_s rfl ?_
  refine zR_cst (v := 1) rfl rfl rfl ?_
  refine zR_iadd rfl ?_
  refine zR_scrk (K := 1) rfl rfl (by omega) hn ?_
  refine zR_s rfl ?_
  refine zR_s rfl ?_
  refine zR_cst (v := 2) rfl rfl rfl ?_
  refine zR_iadd rfl ?_
  refine zR_scrk (K := 2) rfl rfl (by omega) hn ?_
  refine zR_call rfl rfl rfl rfl (zcallok_s rfl) (h1) ?_
  refine zR_s rfl ?_
  refine zR_s rfl ?_
  refine zR_s rfl ?_
  refine zR_s rfl ?_
  refine zR_cst (v := 1) rfl rfl rfl ?_
  refine zR_iadd rfl ?_
  refine zR_scrk (K := 1) rfl rfl (by omega) hn ?_
  refine zR_s rfl ?_
  refine zR_s rfl ?_
  refine zR_cst (v := 2) rfl rfl rfl ?_
  refine zR_iadd rfl ?_
  refine zR_scrk (K := 2) rfl rfl (by omega) hn ?_
  refine zR_call rfl rfl rfl rfl (zcallok_v (h75) rfl rfl) (h2) ?_
  refine zR_s rfl ?_
  refine zR_call rfl rfl rfl rfl (zcallok_v (zL75) rfl rfl) (m_thrownL) ?_
  refine zR_s rfl ?_
  refine zR_iceq rfl rfl (fun _ => ?_) (fun c => by first | exact absurd (rfl) c | exact absurd c (rfl))
  refine zR_s rfl ?_
  exact ih _ _ _
set_option maxRecDepth 100000 in
theorem zw_good (hi : i + 5 ≤ sL) (hn : sL < 2 ^ 31) (h1 : zMe sL sx 11 103 [.ref 0, .int (sx (i + 1)), .int (sx (i + 2))] h0 (.returned (some (.int k))) h) (h75 : h[75]? = some (10 + 3, zmob N c)) (h2 : zMe sL sx 11 70 [.ref 75, .int (sx (i + 1)), .int (sx (i + 2))] h (.returned (none)) (zL N' F' G' K' Z' N' F' G' H' Z' k B' v' tl')) (ih : ∀ a b e : Value, zR sL sx 12 123 1487 [.retAddr 1, .ref 0, .ref 75, .ref 92, .int (nI i), a, b, e] [] (zL N' F' G' K' Z' N' F' G' H' Z' k B' v' tl') o hF) : zR sL sx 12 123 228 [.retAddr 1, .ref 0, .ref 75, .ref 92, .int (nI i), a5, a6, a7] [] h0 o hF := by
  refine zR_s rfl ?_
  refine zR_s rfl ?_
  refine zR_s rfl ?_
  refine zR_cst (v := 1) rfl rfl rfl ?_
  refine zR_iadd rfl ?_
  refine zR_scrk (K := 1) rfl rfl (by omega) hn ?_
  refine zR_s rfl ?_
  refine zR_s rfl ?_
  refine zR_cst (v := 2) rfl rfl rfl ?_
  refine zR_iadd rfl ?_
  refine zR_scrk (K := 2) rfl rfl (by omega) hn ?_
  refine zR_call rfl rfl rfl rfl (zcallok_s rfl) (h1) ?_
  refine zR_s rfl ?_
  refine zR_s rfl ?_
  refine zR_s rfl ?_
  refine zR_s rfl ?_
  refine zR_cst (v := 1) rfl rfl rfl ?_
  refine zR_iadd rfl ?_
  refine zR_scrk (K := 1) rfl rfl (by omega) hn ?_
  refine zR_s rfl ?_
  refine zR_s rfl ?_
  refine zR_cst (v := 2) rfl rfl rfl ?_
  refine zR_iadd rfl ?_
  refine zR_scrk (K := 2) rfl rfl (by omega) hn ?_
  refine zR_call rfl rfl rfl rfl (zcallok_v (h75) rfl rfl) (h2) ?_
  refine zR_s rfl ?_
  refine zR_call rfl rfl rfl rfl (zcallok_v (zL75) rfl rfl) (m_thrownL) ?_
  refine zR_s rfl ?_
  refine zR_iceq rfl rfl (fun _ => ?_) (fun c => by first | exact absurd (rfl) c | exact absurd c (rfl))
  refine zR_s rfl ?_
  exact ih _ _ _
set_option maxRecDepth 100000 in
theorem zw_lot {b : Int32} (hi : i + 5 ≤ sL) (hn : sL < 2 ^ 31) (h1 : zMe sL sx 11 104 [.ref 0, .int (sx (i + 1)), .int (sx (i + 2)), .ref 92] h0 (.returned (some (.int k))) h) (h75 : h[75]? = some (10 + 3, zmob N c)) (h2 : zMe sL sx 11 71 [.ref 75, .int (sx (i + 1)), .int (sx (i + 2))] h (.returned (some (.int b))) (zL N' F' G' K' Z' N' F' G' H' Z' k B' v' tl')) (hv : k = 0 → v' = b.toInt64) (ih : ∀ a b e : Value, zR sL sx 12 123 1487 [.retAddr 1, .ref 0, .ref 75, .ref 92, .int (nI i), a, b, e] [] (zL N' F' G' K' Z' N' F' G' H' Z' k B' v' tl') o hF) : zR sL sx 12 123 276 [.retAddr 1, .ref 0, .ref 75, .ref 92, .int (nI i), a5, a6, a7] [] h0 o hF := by
  refine zR_s rfl ?_
  refine zR_s rfl ?_
  refine zR_s rfl ?_
  refine zR_cst (v := 1) rfl rfl rfl ?_
  refine zR_iadd rfl ?_
  refine zR_scrk (K := 1) rfl rfl (by omega) hn ?_
  refine zR_s rfl ?_
  refine zR_s rfl ?_
  refine zR_cst (v := 2) rfl rfl rfl ?_
  refine zR_iadd rfl ?_
  refine zR_scrk (K := 2) rfl rfl (by omega) hn ?_
  refine zR_s rfl ?_
  refine zR_call rfl rfl rfl rfl (zcallok_s rfl) (h1) ?_
  refine zR_s rfl ?_
  refine zR_s rfl ?_
  refine zR_s rfl ?_
  refine zR_s rfl ?_
  refine zR_cst (v := 1) rfl rfl rfl ?_
  refine zR_iadd rfl ?_
  refine zR_scrk (K := 1) rfl rfl (by omega) hn ?_
  refine zR_s rfl ?_
  refine zR_s rfl ?_
  refine zR_cst (v := 2) rfl rfl rfl ?_
  refine zR_iadd rfl ?_
  refine zR_scrk (K := 2) rfl rfl (by omega) hn ?_
  refine zR_call rfl rfl rfl rfl (zcallok_v (h75) rfl rfl) (h2) ?_
  refine zR_s rfl ?_
  refine zR_s rfl ?_
  refine zR_call rfl rfl rfl rfl (zcallok_v (zL75) rfl rfl) (m_thrownL) ?_
  refine zR_s rfl ?_
  refine zR_iceq rfl rfl (fun _ => ?_) (fun c => by first | exact absurd (rfl) c | exact absurd c (rfl))
  refine zR_s rfl ?_
  first | refine zR_dt rfl rfl (fun c1 => ?_) (fun c1 => ?_) | refine zR_bt rfl rfl (fun c1 => ?_) (fun c1 => ?_) | refine zR_ifne rfl rfl (fun c1 => ?_) (fun c1 => ?_)
  · refine zR_s rfl ?_
    exact ih _ _ _
  · refine zR_s rfl ?_
    refine zR_cst (v := 0) rfl rfl rfl ?_
    refine zR_lldO rfl ?_
    refine zR_s rfl ?_
    refine zR_s rfl ?_
    refine zR_s rfl ?_
    refine zR_leq rfl rfl (fun _ => ?_) (fun c => by first | exact absurd (hv c1) c | exact absurd c (hv c1))
    refine zR_s rfl ?_
    exact ih _ _ _
set_option maxRecDepth 100000 in
theorem zw_unit {b : Int32} (hi : i + 5 ≤ sL) (hn : sL < 2 ^ 31) (h1 : zMe sL sx 11 105 [.ref 0, .int (sx (i + 1)), .int (sx (i + 2)), .int (sx (i + 3)), .int (sx (i + 4)), .ref 92] h0 (.returned (some (.int k))) h) (h75 : h[75]? = some (10 + 3, zmob N c)) (h2 : zMe sL sx 11 75 [.ref 75, .int (sx (i + 1)), .int (sx (i + 2)), .int (sx (i + 3)), .int (sx (i + 4))] h (.returned (some (.int b))) (zL N' F' G' K' Z' N' F' G' H' Z' k B' v' tl')) (hv : k = 0 → v' = b.toInt64) (ih : ∀ a b e : Value, zR sL sx 12 123 1487 [.retAddr 1, .ref 0, .ref 75, .ref 92, .int (nI i), a, b, e] [] (zL N' F' G' K' Z' N' F' G' H' Z' k B' v' tl') o hF) : zR sL sx 12 123 344 [.retAddr 1, .ref 0, .ref 75, .ref 92, .int (nI i), a5, a6, a7] [] h0 o hF := by
  refine zR_s rfl ?_
  refine zR_s rfl ?_
  refine zR_s rfl ?_
  refine zR_cst (v := 1) rfl rfl rfl ?_
  refine zR_iadd rfl ?_
  refine zR_scrk (K := 1) rfl rfl (by omega) hn ?_
  refine zR_s rfl ?_
  refine zR_s rfl ?_
  refine zR_cst (v := 2) rfl rfl rfl ?_
  refine zR_iadd rfl ?_
  refine zR_scrk (K := 2) rfl rfl (by omega) hn ?_
  refine zR_s rfl ?_
  refine zR_s rfl ?_
  refine zR_cst (v := 3) rfl rfl rfl ?_
  refine zR_iadd rfl ?_
  refine zR_scrk (K := 3) rfl rfl (by omega) hn ?_
  refine zR_s rfl ?_
  refine zR_s rfl ?_
  refine zR_cst (v := 4) rfl rfl rfl ?_
  refine zR_iadd rfl ?_
  refine zR_scrk (K := 4) rfl rfl (by omega) hn ?_
  refine zR_s rfl ?_
  refine zR_call rfl rfl rfl rfl (zcallok_s rfl) (h1) ?_
  refine zR_s rfl ?_
  refine zR_s rfl ?_
  refine zR_s rfl ?_
  refine zR_s rfl ?_
  refine zR_cst (v := 1) rfl rfl rfl ?_
  refine zR_iadd rfl ?_
  refine zR_scrk (K := 1) rfl rfl (by omega) hn ?_
  refine zR_s rfl ?_
  refine zR_s rfl ?_
  refine zR_cst (v := 2) rfl rfl rfl ?_
  refine zR_iadd rfl ?_
  refine zR_scrk (K := 2) rfl rfl (by omega) hn ?_
  refine zR_s rfl ?_
  refine zR_s rfl ?_
  refine zR_cst (v := 3) rfl rfl rfl ?_
  refine zR_iadd rfl ?_
  refine zR_scrk (K := 3) rfl rfl (by omega) hn ?_
  refine zR_s rfl ?_
  refine zR_s rfl ?_
  refine zR_cst (v := 4) rfl rfl rfl ?_
  refine zR_iadd rfl ?_
  refine zR_scrk (K := 4) rfl rfl (by omega) hn ?_
  refine zR_call rfl rfl rfl rfl (zcallok_v (h75) rfl rfl) (h2) ?_
  refine zR_s rfl ?_
  refine zR_s rfl ?_
  refine zR_call rfl rfl rfl rfl (zcallok_v (zL75) rfl rfl) (m_thrownL) ?_
  refine zR_s rfl ?_
  refine zR_iceq rfl rfl (fun _ => ?_) (fun c => by first | exact absurd (rfl) c | exact absurd c (rfl))
  refine zR_s rfl ?_
  first | refine zR_dt rfl rfl (fun c1 => ?_) (fun c1 => ?_) | refine zR_bt rfl rfl (fun c1 => ?_) (fun c1 => ?_) | refine zR_ifne rfl rfl (fun c1 => ?_) (fun c1 => ?_)
  · refine zR_s rfl ?_
    exact ih _ _ _
  · refine zR_s rfl ?_
    refine zR_cst (v := 0) rfl rfl rfl ?_
    refine zR_lldO rfl ?_
    refine zR_s rfl ?_
    refine zR_s rfl ?_
    refine zR_s rfl ?_
    refine zR_leq rfl rfl (fun _ => ?_) (fun c => by first | exact absurd (hv c1) c | exact absurd c (hv c1))
    refine zR_s rfl ?_
    exact ih _ _ _
set_option maxRecDepth 100000 in
theorem zw_move (hi : i + 5 ≤ sL) (hn : sL < 2 ^ 31) (h1 : zMe sL sx 11 106 [.ref 0, .int (sx (i + 1)), .int (sx (i + 2))] h0 (.returned (some (.int k))) h) (h75 : h[75]? = some (10 + 3, zmob N c)) (h2 : zMe sL sx 11 79 [.ref 75, .int (sx (i + 1)), .int (sx (i + 2))] h (.returned (none)) (zL N' F' G' K' Z' N' F' G' H' Z' k B' v' tl')) (ih : ∀ a b e : Value, zR sL sx 12 123 1487 [.retAddr 1, .ref 0, .ref 75, .ref 92, .int (nI i), a, b, e] [] (zL N' F' G' K' Z' N' F' G' H' Z' k B' v' tl') o hF) : zR sL sx 12 123 436 [.retAddr 1, .ref 0, .ref 75, .ref 92, .int (nI i), a5, a6, a7] [] h0 o hF := by
  refine zR_s rfl ?_
  refine zR_s rfl ?_
  refine zR_s rfl ?_
  refine zR_cst (v := 1) rfl rfl rfl ?_
  refine zR_iadd rfl ?_
  refine zR_scrk (K := 1) rfl rfl (by omega) hn ?_
  refine zR_s rfl ?_
  refine zR_s rfl ?_
  refine zR_cst (v := 2) rfl rfl rfl ?_
  refine zR_iadd rfl ?_
  refine zR_scrk (K := 2) rfl rfl (by omega) hn ?_
  refine zR_call rfl rfl rfl rfl (zcallok_s rfl) (h1) ?_
  refine zR_s rfl ?_
  refine zR_s rfl ?_
  refine zR_s rfl ?_
  refine zR_s rfl ?_
  refine zR_cst (v := 1) rfl rfl rfl ?_
  refine zR_iadd rfl ?_
  refine zR_scrk (K := 1) rfl rfl (by omega) hn ?_
  refine zR_s rfl ?_
  refine zR_s rfl ?_
  refine zR_cst (v := 2) rfl rfl rfl ?_
  refine zR_iadd rfl ?_
  refine zR_scrk (K := 2) rfl rfl (by omega) hn ?_
  refine zR_call rfl rfl rfl rfl (zcallok_v (h75) rfl rfl) (h2) ?_
  refine zR_s rfl ?_
  refine zR_call rfl rfl rfl rfl (zcallok_v (zL75) rfl rfl) (m_thrownL) ?_
  refine zR_s rfl ?_
  refine zR_iceq rfl rfl (fun _ => ?_) (fun c => by first | exact absurd (rfl) c | exact absurd c (rfl))
  refine zR_s rfl ?_
  exact ih _ _ _
set_option maxRecDepth 100000 in
theorem zw_into (hi : i + 5 ≤ sL) (hn : sL < 2 ^ 31) (h1 : zMe sL sx 11 107 [.ref 0, .int (sx (i + 1)), .int (sx (i + 2))] h0 (.returned (some (.int k))) h) (h75 : h[75]? = some (10 + 3, zmob N c)) (h2 : zMe sL sx 11 81 [.ref 75, .int (sx (i + 1)), .int (sx (i + 2))] h (.returned (none)) (zL N' F' G' K' Z' N' F' G' H' Z' k B' v' tl')) (ih : ∀ a b e : Value, zR sL sx 12 123 1487 [.retAddr 1, .ref 0, .ref 75, .ref 92, .int (nI i), a, b, e] [] (zL N' F' G' K' Z' N' F' G' H' Z' k B' v' tl') o hF) : zR sL sx 12 123 484 [.retAddr 1, .ref 0, .ref 75, .ref 92, .int (nI i), a5, a6, a7] [] h0 o hF := by
  refine zR_s rfl ?_
  refine zR_s rfl ?_
  refine zR_s rfl ?_
  refine zR_cst (v := 1) rfl rfl rfl ?_
  refine zR_iadd rfl ?_
  refine zR_scrk (K := 1) rfl rfl (by omega) hn ?_
  refine zR_s rfl ?_
  refine zR_s rfl ?_
  refine zR_cst (v := 2) rfl rfl rfl ?_
  refine zR_iadd rfl ?_
  refine zR_scrk (K := 2) rfl rfl (by omega) hn ?_
  refine zR_call rfl rfl rfl rfl (zcallok_s rfl) (h1) ?_
  refine zR_s rfl ?_
  refine zR_s rfl ?_
  refine zR_s rfl ?_
  refine zR_s rfl ?_
  refine zR_cst (v := 1) rfl rfl rfl ?_
  refine zR_iadd rfl ?_
  refine zR_scrk (K := 1) rfl rfl (by omega) hn ?_
  refine zR_s rfl ?_
  refine zR_s rfl ?_
  refine zR_cst (v := 2) rfl rfl rfl ?_
  refine zR_iadd rfl ?_
  refine zR_scrk (K := 2) rfl rfl (by omega) hn ?_
  refine zR_call rfl rfl rfl rfl (zcallok_v (h75) rfl rfl) (h2) ?_
  refine zR_s rfl ?_
  refine zR_call rfl rfl rfl rfl (zcallok_v (zL75) rfl rfl) (m_thrownL) ?_
  refine zR_s rfl ?_
  refine zR_iceq rfl rfl (fun _ => ?_) (fun c => by first | exact absurd (rfl) c | exact absurd c (rfl))
  refine zR_s rfl ?_
  exact ih _ _ _
set_option maxRecDepth 100000 in
theorem zw_out (hi : i + 5 ≤ sL) (hn : sL < 2 ^ 31) (h1 : zMe sL sx 11 108 [.ref 0, .int (sx (i + 1))] h0 (.returned (some (.int k))) h) (h75 : h[75]? = some (10 + 3, zmob N c)) (h2 : zMe sL sx 11 82 [.ref 75, .int (sx (i + 1))] h (.returned (none)) (zL N' F' G' K' Z' N' F' G' H' Z' k B' v' tl')) (ih : ∀ a b e : Value, zR sL sx 12 123 1487 [.retAddr 1, .ref 0, .ref 75, .ref 92, .int (nI i), a, b, e] [] (zL N' F' G' K' Z' N' F' G' H' Z' k B' v' tl') o hF) : zR sL sx 12 123 532 [.retAddr 1, .ref 0, .ref 75, .ref 92, .int (nI i), a5, a6, a7] [] h0 o hF := by
  refine zR_s rfl ?_
  refine zR_s rfl ?_
  refine zR_s rfl ?_
  refine zR_cst (v := 1) rfl rfl rfl ?_
  refine zR_iadd rfl ?_
  refine zR_scrk (K := 1) rfl rfl (by omega) hn ?_
  refine zR_call rfl rfl rfl rfl (zcallok_s rfl) (h1) ?_
  refine zR_s rfl ?_
  refine zR_s rfl ?_
  refine zR_s rfl ?_
  refine zR_s rfl ?_
  refine zR_cst (v := 1) rfl rfl rfl ?_
  refine zR_iadd rfl ?_
  refine zR_scrk (K := 1) rfl rfl (by omega) hn ?_
  refine zR_call rfl rfl rfl rfl (zcallok_v (h75) rfl rfl) (h2) ?_
  refine zR_s rfl ?_
  refine zR_call rfl rfl rfl rfl (zcallok_v (zL75) rfl rfl) (m_thrownL) ?_
  refine zR_s rfl ?_
  refine zR_iceq rfl rfl (fun _ => ?_) (fun c => by first | exact absurd (rfl) c | exact absurd c (rfl))
  refine zR_s rfl ?_
  exact ih _ _ _
set_option maxRecDepth 100000 in
theorem zw_split {b : Int32} (hi : i + 5 ≤ sL) (hn : sL < 2 ^ 31) (h1 : zMe sL sx 11 109 [.ref 0, .int (sx (i + 1)), .int (sx (i + 2)), .ref 92] h0 (.returned (some (.int k))) h) (h75 : h[75]? = some (10 + 3, zmob N c)) (h2 : zMe sL sx 11 83 [.ref 75, .int (sx (i + 1)), .int (sx (i + 2))] h (.returned (some (.int b))) (zL N' F' G' K' Z' N' F' G' H' Z' k B' v' tl')) (hv : k = 0 → v' = b.toInt64) (ih : ∀ a b e : Value, zR sL sx 12 123 1487 [.retAddr 1, .ref 0, .ref 75, .ref 92, .int (nI i), a, b, e] [] (zL N' F' G' K' Z' N' F' G' H' Z' k B' v' tl') o hF) : zR sL sx 12 123 568 [.retAddr 1, .ref 0, .ref 75, .ref 92, .int (nI i), a5, a6, a7] [] h0 o hF := by
  refine zR_s rfl ?_
  refine zR_s rfl ?_
  refine zR_s rfl ?_
  refine zR_cst (v := 1) rfl rfl rfl ?_
  refine zR_iadd rfl ?_
  refine zR_scrk (K := 1) rfl rfl (by omega) hn ?_
  refine zR_s rfl ?_
  refine zR_s rfl ?_
  refine zR_cst (v := 2) rfl rfl rfl ?_
  refine zR_iadd rfl ?_
  refine zR_scrk (K := 2) rfl rfl (by omega) hn ?_
  refine zR_s rfl ?_
  refine zR_call rfl rfl rfl rfl (zcallok_s rfl) (h1) ?_
  refine zR_s rfl ?_
  refine zR_s rfl ?_
  refine zR_s rfl ?_
  refine zR_s rfl ?_
  refine zR_cst (v := 1) rfl rfl rfl ?_
  refine zR_iadd rfl ?_
  refine zR_scrk (K := 1) rfl rfl (by omega) hn ?_
  refine zR_s rfl ?_
  refine zR_s rfl ?_
  refine zR_cst (v := 2) rfl rfl rfl ?_
  refine zR_iadd rfl ?_
  refine zR_scrk (K := 2) rfl rfl (by omega) hn ?_
  refine zR_call rfl rfl rfl rfl (zcallok_v (h75) rfl rfl) (h2) ?_
  refine zR_s rfl ?_
  refine zR_s rfl ?_
  refine zR_call rfl rfl rfl rfl (zcallok_v (zL75) rfl rfl) (m_thrownL) ?_
  refine zR_s rfl ?_
  refine zR_iceq rfl rfl (fun _ => ?_) (fun c => by first | exact absurd (rfl) c | exact absurd c (rfl))
  refine zR_s rfl ?_
  first | refine zR_dt rfl rfl (fun c1 => ?_) (fun c1 => ?_) | refine zR_bt rfl rfl (fun c1 => ?_) (fun c1 => ?_) | refine zR_ifne rfl rfl (fun c1 => ?_) (fun c1 => ?_)
  · refine zR_s rfl ?_
    exact ih _ _ _
  · refine zR_s rfl ?_
    refine zR_cst (v := 0) rfl rfl rfl ?_
    refine zR_lldO rfl ?_
    refine zR_s rfl ?_
    refine zR_s rfl ?_
    refine zR_s rfl ?_
    refine zR_leq rfl rfl (fun _ => ?_) (fun c => by first | exact absurd (hv c1) c | exact absurd c (hv c1))
    refine zR_s rfl ?_
    exact ih _ _ _
set_option maxRecDepth 100000 in
theorem zw_join (hi : i + 5 ≤ sL) (hn : sL < 2 ^ 31) (h1 : zMe sL sx 11 110 [.ref 0, .int (sx (i + 1)), .int (sx (i + 2))] h0 (.returned (some (.int k))) h) (h75 : h[75]? = some (10 + 3, zmob N c)) (h2 : zMe sL sx 11 85 [.ref 75, .int (sx (i + 1)), .int (sx (i + 2))] h (.returned (none)) (zL N' F' G' K' Z' N' F' G' H' Z' k B' v' tl')) (ih : ∀ a b e : Value, zR sL sx 12 123 1487 [.retAddr 1, .ref 0, .ref 75, .ref 92, .int (nI i), a, b, e] [] (zL N' F' G' K' Z' N' F' G' H' Z' k B' v' tl') o hF) : zR sL sx 12 123 636 [.retAddr 1, .ref 0, .ref 75, .ref 92, .int (nI i), a5, a6, a7] [] h0 o hF := by
  refine zR_s rfl ?_
  refine zR_s rfl ?_
  refine zR_s rfl ?_
  refine zR_cst (v := 1) rfl rfl rfl ?_
  refine zR_iadd rfl ?_
  refine zR_scrk (K := 1) rfl rfl (by omega) hn ?_
  refine zR_s rfl ?_
  refine zR_s rfl ?_
  refine zR_cst (v := 2) rfl rfl rfl ?_
  refine zR_iadd rfl ?_
  refine zR_scrk (K := 2) rfl rfl (by omega) hn ?_
  refine zR_call rfl rfl rfl rfl (zcallok_s rfl) (h1) ?_
  refine zR_s rfl ?_
  refine zR_s rfl ?_
  refine zR_s rfl ?_
  refine zR_s rfl ?_
  refine zR_cst (v := 1) rfl rfl rfl ?_
  refine zR_iadd rfl ?_
  refine zR_scrk (K := 1) rfl rfl (by omega) hn ?_
  refine zR_s rfl ?_
  refine zR_s rfl ?_
  refine zR_cst (v := 2) rfl rfl rfl ?_
  refine zR_iadd rfl ?_
  refine zR_scrk (K := 2) rfl rfl (by omega) hn ?_
  refine zR_call rfl rfl rfl rfl (zcallok_v (h75) rfl rfl) (h2) ?_
  refine zR_s rfl ?_
  refine zR_call rfl rfl rfl rfl (zcallok_v (zL75) rfl rfl) (m_thrownL) ?_
  refine zR_s rfl ?_
  refine zR_iceq rfl rfl (fun _ => ?_) (fun c => by first | exact absurd (rfl) c | exact absurd c (rfl))
  refine zR_s rfl ?_
  exact ih _ _ _
set_option maxRecDepth 100000 in
theorem zw_state (hi : i + 5 ≤ sL) (hn : sL < 2 ^ 31) (h1 : zMe sL sx 11 111 [.ref 0, .int (sx (i + 1)), .int (sx (i + 2))] h0 (.returned (some (.int k))) h) (h75 : h[75]? = some (10 + 3, zmob N c)) (h2 : zMe sL sx 11 88 [.ref 75, .int (sx (i + 1)), .int (sx (i + 2))] h (.returned (none)) (zL N' F' G' K' Z' N' F' G' H' Z' k B' v' tl')) (ih : ∀ a b e : Value, zR sL sx 12 123 1487 [.retAddr 1, .ref 0, .ref 75, .ref 92, .int (nI i), a, b, e] [] (zL N' F' G' K' Z' N' F' G' H' Z' k B' v' tl') o hF) : zR sL sx 12 123 684 [.retAddr 1, .ref 0, .ref 75, .ref 92, .int (nI i), a5, a6, a7] [] h0 o hF := by
  refine zR_s rfl ?_
  refine zR_s rfl ?_
  refine zR_s rfl ?_
  refine zR_cst (v := 1) rfl rfl rfl ?_
  refine zR_iadd rfl ?_
  refine zR_scrk (K := 1) rfl rfl (by omega) hn ?_
  refine zR_s rfl ?_
  refine zR_s rfl ?_
  refine zR_cst (v := 2) rfl rfl rfl ?_
  refine zR_iadd rfl ?_
  refine zR_scrk (K := 2) rfl rfl (by omega) hn ?_
  refine zR_call rfl rfl rfl rfl (zcallok_s rfl) (h1) ?_
  refine zR_s rfl ?_
  refine zR_s rfl ?_
  refine zR_s rfl ?_
  refine zR_s rfl ?_
  refine zR_cst (v := 1) rfl rfl rfl ?_
  refine zR_iadd rfl ?_
  refine zR_scrk (K := 1) rfl rfl (by omega) hn ?_
  refine zR_s rfl ?_
  refine zR_s rfl ?_
  refine zR_cst (v := 2) rfl rfl rfl ?_
  refine zR_iadd rfl ?_
  refine zR_scrk (K := 2) rfl rfl (by omega) hn ?_
  refine zR_call rfl rfl rfl rfl (zcallok_v (h75) rfl rfl) (h2) ?_
  refine zR_s rfl ?_
  refine zR_call rfl rfl rfl rfl (zcallok_v (zL75) rfl rfl) (m_thrownL) ?_
  refine zR_s rfl ?_
  refine zR_iceq rfl rfl (fun _ => ?_) (fun c => by first | exact absurd (rfl) c | exact absurd c (rfl))
  refine zR_s rfl ?_
  exact ih _ _ _
set_option maxRecDepth 100000 in
theorem zw_serial (hi : i + 5 ≤ sL) (hn : sL < 2 ^ 31) (h1 : zMe sL sx 11 112 [.ref 0, .int (sx (i + 1)), .long (zser (sx (i + 2)) (sx (i + 3)))] h0 (.returned (some (.int k))) h) (h75 : h[75]? = some (10 + 3, zmob N c)) (h2 : zMe sL sx 11 89 [.ref 75, .int (sx (i + 1)), .long (zser (sx (i + 2)) (sx (i + 3)))] h (.returned (none)) (zL N' F' G' K' Z' N' F' G' H' Z' k B' v' tl')) (ih : ∀ a b e : Value, zR sL sx 12 123 1487 [.retAddr 1, .ref 0, .ref 75, .ref 92, .int (nI i), a, b, e] [] (zL N' F' G' K' Z' N' F' G' H' Z' k B' v' tl') o hF) : zR sL sx 12 123 732 [.retAddr 1, .ref 0, .ref 75, .ref 92, .int (nI i), a5, a6, a7] [] h0 o hF := by
  refine zR_s rfl ?_
  refine zR_s rfl ?_
  refine zR_s rfl ?_
  refine zR_cst (v := 1) rfl rfl rfl ?_
  refine zR_iadd rfl ?_
  refine zR_scrk (K := 1) rfl rfl (by omega) hn ?_
  refine zR_s rfl ?_
  refine zR_s rfl ?_
  refine zR_cst (v := 2) rfl rfl rfl ?_
  refine zR_iadd rfl ?_
  refine zR_scrk (K := 2) rfl rfl (by omega) hn ?_
  refine zR_s rfl ?_
  refine zR_cst (v := 32) rfl rfl rfl ?_
  refine zR_s rfl ?_
  refine zR_s rfl ?_
  refine zR_s rfl ?_
  refine zR_cst (v := 3) rfl rfl rfl ?_
  refine zR_iadd rfl ?_
  refine zR_scrk (K := 3) rfl rfl (by omega) hn ?_
  refine zR_s rfl ?_
  refine zR_ldc2 (v := 4294967295) rfl rfl ?_
  refine zR_s rfl ?_
  refine zR_s rfl ?_
  refine zR_call rfl rfl rfl rfl (zcallok_s rfl) (h1) ?_
  refine zR_s rfl ?_
  refine zR_s rfl ?_
  refine zR_s rfl ?_
  refine zR_s rfl ?_
  refine zR_cst (v := 1) rfl rfl rfl ?_
  refine zR_iadd rfl ?_
  refine zR_scrk (K := 1) rfl rfl (by omega) hn ?_
  refine zR_s rfl ?_
  refine zR_s rfl ?_
  refine zR_cst (v := 2) rfl rfl rfl ?_
  refine zR_iadd rfl ?_
  refine zR_scrk (K := 2) rfl rfl (by omega) hn ?_
  refine zR_s rfl ?_
  refine zR_cst (v := 32) rfl rfl rfl ?_
  refine zR_s rfl ?_
  refine zR_s rfl ?_
  refine zR_s rfl ?_
  refine zR_cst (v := 3) rfl rfl rfl ?_
  refine zR_iadd rfl ?_
  refine zR_scrk (K := 3) rfl rfl (by omega) hn ?_
  refine zR_s rfl ?_
  refine zR_ldc2 (v := 4294967295) rfl rfl ?_
  refine zR_s rfl ?_
  refine zR_s rfl ?_
  refine zR_call rfl rfl rfl rfl (zcallok_v (h75) rfl rfl) (h2) ?_
  refine zR_s rfl ?_
  refine zR_call rfl rfl rfl rfl (zcallok_v (zL75) rfl rfl) (m_thrownL) ?_
  refine zR_s rfl ?_
  refine zR_iceq rfl rfl (fun _ => ?_) (fun c => by first | exact absurd (rfl) c | exact absurd c (rfl))
  refine zR_s rfl ?_
  exact ih _ _ _
set_option maxRecDepth 100000 in
theorem zw_lost (hi : i + 5 ≤ sL) (hn : sL < 2 ^ 31) (h1 : zMe sL sx 11 113 [.ref 0, .int (sx (i + 1)), .int (sx (i + 2))] h0 (.returned (some (.int k))) h) (h75 : h[75]? = some (10 + 3, zmob N c)) (h2 : zMe sL sx 11 90 [.ref 75, .int (sx (i + 1)), .int (sx (i + 2))] h (.returned (none)) (zL N' F' G' K' Z' N' F' G' H' Z' k B' v' tl')) (ih : ∀ a b e : Value, zR sL sx 12 123 1487 [.retAddr 1, .ref 0, .ref 75, .ref 92, .int (nI i), a, b, e] [] (zL N' F' G' K' Z' N' F' G' H' Z' k B' v' tl') o hF) : zR sL sx 12 123 812 [.retAddr 1, .ref 0, .ref 75, .ref 92, .int (nI i), a5, a6, a7] [] h0 o hF := by
  refine zR_s rfl ?_
  refine zR_s rfl ?_
  refine zR_s rfl ?_
  refine zR_cst (v := 1) rfl rfl rfl ?_
  refine zR_iadd rfl ?_
  refine zR_scrk (K := 1) rfl rfl (by omega) hn ?_
  refine zR_s rfl ?_
  refine zR_s rfl ?_
  refine zR_cst (v := 2) rfl rfl rfl ?_
  refine zR_iadd rfl ?_
  refine zR_scrk (K := 2) rfl rfl (by omega) hn ?_
  refine zR_call rfl rfl rfl rfl (zcallok_s rfl) (h1) ?_
  refine zR_s rfl ?_
  refine zR_s rfl ?_
  refine zR_s rfl ?_
  refine zR_s rfl ?_
  refine zR_cst (v := 1) rfl rfl rfl ?_
  refine zR_iadd rfl ?_
  refine zR_scrk (K := 1) rfl rfl (by omega) hn ?_
  refine zR_s rfl ?_
  refine zR_s rfl ?_
  refine zR_cst (v := 2) rfl rfl rfl ?_
  refine zR_iadd rfl ?_
  refine zR_scrk (K := 2) rfl rfl (by omega) hn ?_
  refine zR_call rfl rfl rfl rfl (zcallok_v (h75) rfl rfl) (h2) ?_
  refine zR_s rfl ?_
  refine zR_call rfl rfl rfl rfl (zcallok_v (zL75) rfl rfl) (m_thrownL) ?_
  refine zR_s rfl ?_
  refine zR_iceq rfl rfl (fun _ => ?_) (fun c => by first | exact absurd (rfl) c | exact absurd c (rfl))
  refine zR_s rfl ?_
  exact ih _ _ _
set_option maxRecDepth 100000 in
theorem zw_found (hi : i + 5 ≤ sL) (hn : sL < 2 ^ 31) (h1 : zMe sL sx 11 114 [.ref 0, .int (sx (i + 1)), .int (sx (i + 2))] h0 (.returned (some (.int k))) h) (h75 : h[75]? = some (10 + 3, zmob N c)) (h2 : zMe sL sx 11 91 [.ref 75, .int (sx (i + 1)), .int (sx (i + 2))] h (.returned (none)) (zL N' F' G' K' Z' N' F' G' H' Z' k B' v' tl')) (ih : ∀ a b e : Value, zR sL sx 12 123 1487 [.retAddr 1, .ref 0, .ref 75, .ref 92, .int (nI i), a, b, e] [] (zL N' F' G' K' Z' N' F' G' H' Z' k B' v' tl') o hF) : zR sL sx 12 123 860 [.retAddr 1, .ref 0, .ref 75, .ref 92, .int (nI i), a5, a6, a7] [] h0 o hF := by
  refine zR_s rfl ?_
  refine zR_s rfl ?_
  refine zR_s rfl ?_
  refine zR_cst (v := 1) rfl rfl rfl ?_
  refine zR_iadd rfl ?_
  refine zR_scrk (K := 1) rfl rfl (by omega) hn ?_
  refine zR_s rfl ?_
  refine zR_s rfl ?_
  refine zR_cst (v := 2) rfl rfl rfl ?_
  refine zR_iadd rfl ?_
  refine zR_scrk (K := 2) rfl rfl (by omega) hn ?_
  refine zR_call rfl rfl rfl rfl (zcallok_s rfl) (h1) ?_
  refine zR_s rfl ?_
  refine zR_s rfl ?_
  refine zR_s rfl ?_
  refine zR_s rfl ?_
  refine zR_cst (v := 1) rfl rfl rfl ?_
  refine zR_iadd rfl ?_
  refine zR_scrk (K := 1) rfl rfl (by omega) hn ?_
  refine zR_s rfl ?_
  refine zR_s rfl ?_
  refine zR_cst (v := 2) rfl rfl rfl ?_
  refine zR_iadd rfl ?_
  refine zR_scrk (K := 2) rfl rfl (by omega) hn ?_
  refine zR_call rfl rfl rfl rfl (zcallok_v (h75) rfl rfl) (h2) ?_
  refine zR_s rfl ?_
  refine zR_call rfl rfl rfl rfl (zcallok_v (zL75) rfl rfl) (m_thrownL) ?_
  refine zR_s rfl ?_
  refine zR_iceq rfl rfl (fun _ => ?_) (fun c => by first | exact absurd (rfl) c | exact absurd c (rfl))
  refine zR_s rfl ?_
  exact ih _ _ _
set_option maxRecDepth 100000 in
theorem zw_weigh {b : Int32} (hi : i + 5 ≤ sL) (hn : sL < 2 ^ 31) (h1 : zMe sL sx 11 115 [.ref 0, .int (sx (i + 1)), .int (sx (i + 2)), .ref 92] h0 (.returned (some (.int k))) h) (h75 : h[75]? = some (10 + 3, zmob N c)) (h2 : zMe sL sx 11 92 [.ref 75, .int (sx (i + 1)), .int (sx (i + 2))] h (.returned (some (.int b))) (zL N' F' G' K' Z' N' F' G' H' Z' k B' v' tl')) (hv : k = 0 → v' = b.toInt64) (ih : ∀ a b e : Value, zR sL sx 12 123 1487 [.retAddr 1, .ref 0, .ref 75, .ref 92, .int (nI i), a, b, e] [] (zL N' F' G' K' Z' N' F' G' H' Z' k B' v' tl') o hF) : zR sL sx 12 123 908 [.retAddr 1, .ref 0, .ref 75, .ref 92, .int (nI i), a5, a6, a7] [] h0 o hF := by
  refine zR_s rfl ?_
  refine zR_s rfl ?_
  refine zR_s rfl ?_
  refine zR_cst (v := 1) rfl rfl rfl ?_
  refine zR_iadd rfl ?_
  refine zR_scrk (K := 1) rfl rfl (by omega) hn ?_
  refine zR_s rfl ?_
  refine zR_s rfl ?_
  refine zR_cst (v := 2) rfl rfl rfl ?_
  refine zR_iadd rfl ?_
  refine zR_scrk (K := 2) rfl rfl (by omega) hn ?_
  refine zR_s rfl ?_
  refine zR_call rfl rfl rfl rfl (zcallok_s rfl) (h1) ?_
  refine zR_s rfl ?_
  refine zR_s rfl ?_
  refine zR_s rfl ?_
  refine zR_s rfl ?_
  refine zR_cst (v := 1) rfl rfl rfl ?_
  refine zR_iadd rfl ?_
  refine zR_scrk (K := 1) rfl rfl (by omega) hn ?_
  refine zR_s rfl ?_
  refine zR_s rfl ?_
  refine zR_cst (v := 2) rfl rfl rfl ?_
  refine zR_iadd rfl ?_
  refine zR_scrk (K := 2) rfl rfl (by omega) hn ?_
  refine zR_call rfl rfl rfl rfl (zcallok_v (h75) rfl rfl) (h2) ?_
  refine zR_s rfl ?_
  refine zR_s rfl ?_
  refine zR_call rfl rfl rfl rfl (zcallok_v (zL75) rfl rfl) (m_thrownL) ?_
  refine zR_s rfl ?_
  refine zR_iceq rfl rfl (fun _ => ?_) (fun c => by first | exact absurd (rfl) c | exact absurd c (rfl))
  refine zR_s rfl ?_
  first | refine zR_dt rfl rfl (fun c1 => ?_) (fun c1 => ?_) | refine zR_bt rfl rfl (fun c1 => ?_) (fun c1 => ?_) | refine zR_ifne rfl rfl (fun c1 => ?_) (fun c1 => ?_)
  · refine zR_s rfl ?_
    exact ih _ _ _
  · refine zR_s rfl ?_
    refine zR_cst (v := 0) rfl rfl rfl ?_
    refine zR_lldO rfl ?_
    refine zR_s rfl ?_
    refine zR_s rfl ?_
    refine zR_s rfl ?_
    refine zR_leq rfl rfl (fun _ => ?_) (fun c => by first | exact absurd (hv c1) c | exact absurd c (hv c1))
    refine zR_s rfl ?_
    exact ih _ _ _
set_option maxRecDepth 100000 in
theorem zw_day {b : Int32} (hi : i + 5 ≤ sL) (hn : sL < 2 ^ 31) (h1 : zMe sL sx 11 116 [.ref 0, .int (sx (i + 1)), .ref 92] h0 (.returned (some (.int k))) h) (h75 : h[75]? = some (10 + 3, zmob N c)) (h2 : zMe sL sx 11 93 [.ref 75, .int (sx (i + 1))] h (.returned (some (.int b))) (zL N' F' G' K' Z' N' F' G' H' Z' k B' v' tl')) (hv : k = 0 → v' = b.toInt64) (ih : ∀ a b e : Value, zR sL sx 12 123 1487 [.retAddr 1, .ref 0, .ref 75, .ref 92, .int (nI i), a, b, e] [] (zL N' F' G' K' Z' N' F' G' H' Z' k B' v' tl') o hF) : zR sL sx 12 123 976 [.retAddr 1, .ref 0, .ref 75, .ref 92, .int (nI i), a5, a6, a7] [] h0 o hF := by
  refine zR_s rfl ?_
  refine zR_s rfl ?_
  refine zR_s rfl ?_
  refine zR_cst (v := 1) rfl rfl rfl ?_
  refine zR_iadd rfl ?_
  refine zR_scrk (K := 1) rfl rfl (by omega) hn ?_
  refine zR_s rfl ?_
  refine zR_call rfl rfl rfl rfl (zcallok_s rfl) (h1) ?_
  refine zR_s rfl ?_
  refine zR_s rfl ?_
  refine zR_s rfl ?_
  refine zR_s rfl ?_
  refine zR_cst (v := 1) rfl rfl rfl ?_
  refine zR_iadd rfl ?_
  refine zR_scrk (K := 1) rfl rfl (by omega) hn ?_
  refine zR_call rfl rfl rfl rfl (zcallok_v (h75) rfl rfl) (h2) ?_
  refine zR_s rfl ?_
  refine zR_s rfl ?_
  refine zR_call rfl rfl rfl rfl (zcallok_v (zL75) rfl rfl) (m_thrownL) ?_
  refine zR_s rfl ?_
  refine zR_iceq rfl rfl (fun _ => ?_) (fun c => by first | exact absurd (rfl) c | exact absurd c (rfl))
  refine zR_s rfl ?_
  first | refine zR_dt rfl rfl (fun c1 => ?_) (fun c1 => ?_) | refine zR_bt rfl rfl (fun c1 => ?_) (fun c1 => ?_) | refine zR_ifne rfl rfl (fun c1 => ?_) (fun c1 => ?_)
  · refine zR_s rfl ?_
    exact ih _ _ _
  · refine zR_s rfl ?_
    refine zR_cst (v := 0) rfl rfl rfl ?_
    refine zR_lldO rfl ?_
    refine zR_s rfl ?_
    refine zR_s rfl ?_
    refine zR_s rfl ?_
    refine zR_leq rfl rfl (fun _ => ?_) (fun c => by first | exact absurd (hv c1) c | exact absurd c (hv c1))
    refine zR_s rfl ?_
    exact ih _ _ _
set_option maxRecDepth 100000 in
theorem zw_at {b : Int32} (hi : i + 5 ≤ sL) (hn : sL < 2 ^ 31) (h1 : zMe sL sx 11 117 [.ref 0, .int (sx (i + 1)), .int (sx (i + 2)), .ref 92] h0 (.returned (some (.int k))) h) (h75 : h[75]? = some (10 + 3, zmob N c)) (h2 : zMe sL sx 11 94 [.ref 75, .int (sx (i + 1)), .int (sx (i + 2))] h (.returned (some (.int b))) (zL N' F' G' K' Z' N' F' G' H' Z' k B' v' tl')) (hv : k = 0 → v' = b.toInt64) (ih : ∀ a b e : Value, zR sL sx 12 123 1487 [.retAddr 1, .ref 0, .ref 75, .ref 92, .int (nI i), a, b, e] [] (zL N' F' G' K' Z' N' F' G' H' Z' k B' v' tl') o hF) : zR sL sx 12 123 1032 [.retAddr 1, .ref 0, .ref 75, .ref 92, .int (nI i), a5, a6, a7] [] h0 o hF := by
  refine zR_s rfl ?_
  refine zR_s rfl ?_
  refine zR_s rfl ?_
  refine zR_cst (v := 1) rfl rfl rfl ?_
  refine zR_iadd rfl ?_
  refine zR_scrk (K := 1) rfl rfl (by omega) hn ?_
  refine zR_s rfl ?_
  refine zR_s rfl ?_
  refine zR_cst (v := 2) rfl rfl rfl ?_
  refine zR_iadd rfl ?_
  refine zR_scrk (K := 2) rfl rfl (by omega) hn ?_
  refine zR_s rfl ?_
  refine zR_call rfl rfl rfl rfl (zcallok_s rfl) (h1) ?_
  refine zR_s rfl ?_
  refine zR_s rfl ?_
  refine zR_s rfl ?_
  refine zR_s rfl ?_
  refine zR_cst (v := 1) rfl rfl rfl ?_
  refine zR_iadd rfl ?_
  refine zR_scrk (K := 1) rfl rfl (by omega) hn ?_
  refine zR_s rfl ?_
  refine zR_s rfl ?_
  refine zR_cst (v := 2) rfl rfl rfl ?_
  refine zR_iadd rfl ?_
  refine zR_scrk (K := 2) rfl rfl (by omega) hn ?_
  refine zR_call rfl rfl rfl rfl (zcallok_v (h75) rfl rfl) (h2) ?_
  refine zR_s rfl ?_
  refine zR_s rfl ?_
  refine zR_call rfl rfl rfl rfl (zcallok_v (zL75) rfl rfl) (m_thrownL) ?_
  refine zR_s rfl ?_
  refine zR_iceq rfl rfl (fun _ => ?_) (fun c => by first | exact absurd (rfl) c | exact absurd c (rfl))
  refine zR_s rfl ?_
  first | refine zR_dt rfl rfl (fun c1 => ?_) (fun c1 => ?_) | refine zR_bt rfl rfl (fun c1 => ?_) (fun c1 => ?_) | refine zR_ifne rfl rfl (fun c1 => ?_) (fun c1 => ?_)
  · refine zR_s rfl ?_
    exact ih _ _ _
  · refine zR_s rfl ?_
    refine zR_cst (v := 0) rfl rfl rfl ?_
    refine zR_lldO rfl ?_
    refine zR_s rfl ?_
    refine zR_s rfl ?_
    refine zR_s rfl ?_
    refine zR_leq rfl rfl (fun _ => ?_) (fun c => by first | exact absurd (hv c1) c | exact absurd c (hv c1))
    refine zR_s rfl ?_
    exact ih _ _ _
set_option maxRecDepth 100000 in
theorem zw_find {b : Int32} (hi : i + 5 ≤ sL) (hn : sL < 2 ^ 31) (h1 : zMe sL sx 11 118 [.ref 0, .int (sx (i + 1)), .int (sx (i + 2)), .int (sx (i + 3)), .int (sx (i + 4)), .ref 92] h0 (.returned (some (.int k))) h) (h75 : h[75]? = some (10 + 3, zmob N c)) (h2 : zMe sL sx 11 95 [.ref 75, .int (sx (i + 1)), .int (sx (i + 2)), .int (sx (i + 3)), .int (sx (i + 4))] h (.returned (some (.int b))) (zL N' F' G' K' Z' N' F' G' H' Z' k B' v' tl')) (hv : k = 0 → v' = b.toInt64) (ih : ∀ a b e : Value, zR sL sx 12 123 1487 [.retAddr 1, .ref 0, .ref 75, .ref 92, .int (nI i), a, b, e] [] (zL N' F' G' K' Z' N' F' G' H' Z' k B' v' tl') o hF) : zR sL sx 12 123 1100 [.retAddr 1, .ref 0, .ref 75, .ref 92, .int (nI i), a5, a6, a7] [] h0 o hF := by
  refine zR_s rfl ?_
  refine zR_s rfl ?_
  refine zR_s rfl ?_
  refine zR_cst (v := 1) rfl rfl rfl ?_
  refine zR_iadd rfl ?_
  refine zR_scrk (K := 1) rfl rfl (by omega) hn ?_
  refine zR_s rfl ?_
  refine zR_s rfl ?_
  refine zR_cst (v := 2) rfl rfl rfl ?_
  refine zR_iadd rfl ?_
  refine zR_scrk (K := 2) rfl rfl (by omega) hn ?_
  refine zR_s rfl ?_
  refine zR_s rfl ?_
  refine zR_cst (v := 3) rfl rfl rfl ?_
  refine zR_iadd rfl ?_
  refine zR_scrk (K := 3) rfl rfl (by omega) hn ?_
  refine zR_s rfl ?_
  refine zR_s rfl ?_
  refine zR_cst (v := 4) rfl rfl rfl ?_
  refine zR_iadd rfl ?_
  refine zR_scrk (K := 4) rfl rfl (by omega) hn ?_
  refine zR_s rfl ?_
  refine zR_call rfl rfl rfl rfl (zcallok_s rfl) (h1) ?_
  refine zR_s rfl ?_
  refine zR_s rfl ?_
  refine zR_s rfl ?_
  refine zR_s rfl ?_
  refine zR_cst (v := 1) rfl rfl rfl ?_
  refine zR_iadd rfl ?_
  refine zR_scrk (K := 1) rfl rfl (by omega) hn ?_
  refine zR_s rfl ?_
  refine zR_s rfl ?_
  refine zR_cst (v := 2) rfl rfl rfl ?_
  refine zR_iadd rfl ?_
  refine zR_scrk (K := 2) rfl rfl (by omega) hn ?_
  refine zR_s rfl ?_
  refine zR_s rfl ?_
  refine zR_cst (v := 3) rfl rfl rfl ?_
  refine zR_iadd rfl ?_
  refine zR_scrk (K := 3) rfl rfl (by omega) hn ?_
  refine zR_s rfl ?_
  refine zR_s rfl ?_
  refine zR_cst (v := 4) rfl rfl rfl ?_
  refine zR_iadd rfl ?_
  refine zR_scrk (K := 4) rfl rfl (by omega) hn ?_
  refine zR_call rfl rfl rfl rfl (zcallok_v (h75) rfl rfl) (h2) ?_
  refine zR_s rfl ?_
  refine zR_s rfl ?_
  refine zR_call rfl rfl rfl rfl (zcallok_v (zL75) rfl rfl) (m_thrownL) ?_
  refine zR_s rfl ?_
  refine zR_iceq rfl rfl (fun _ => ?_) (fun c => by first | exact absurd (rfl) c | exact absurd c (rfl))
  refine zR_s rfl ?_
  first | refine zR_dt rfl rfl (fun c1 => ?_) (fun c1 => ?_) | refine zR_bt rfl rfl (fun c1 => ?_) (fun c1 => ?_) | refine zR_ifne rfl rfl (fun c1 => ?_) (fun c1 => ?_)
  · refine zR_s rfl ?_
    exact ih _ _ _
  · refine zR_s rfl ?_
    refine zR_cst (v := 0) rfl rfl rfl ?_
    refine zR_lldO rfl ?_
    refine zR_s rfl ?_
    refine zR_s rfl ?_
    refine zR_s rfl ?_
    refine zR_leq rfl rfl (fun _ => ?_) (fun c => by first | exact absurd (hv c1) c | exact absurd c (hv c1))
    refine zR_s rfl ?_
    exact ih _ _ _
set_option maxRecDepth 100000 in
theorem zw_sum {b : Int64} (hi : i + 5 ≤ sL) (hn : sL < 2 ^ 31) (h1 : zMe sL sx 11 119 [.ref 0, .int (sx (i + 1)), .int (sx (i + 2)), .ref 92] h0 (.returned (some (.int k))) h) (h75 : h[75]? = some (10 + 3, zmob N c)) (h2 : zMe sL sx 11 96 [.ref 75, .int (sx (i + 1)), .int (sx (i + 2))] h (.returned (some (.long b))) (zL N' F' G' K' Z' N' F' G' H' Z' k B' v' tl')) (hv : k = 0 → v' = b) (ih : ∀ a b e : Value, zR sL sx 12 123 1487 [.retAddr 1, .ref 0, .ref 75, .ref 92, .int (nI i), a, b, e] [] (zL N' F' G' K' Z' N' F' G' H' Z' k B' v' tl') o hF) : zR sL sx 12 123 1192 [.retAddr 1, .ref 0, .ref 75, .ref 92, .int (nI i), a5, a6, a7] [] h0 o hF := by
  refine zR_s rfl ?_
  refine zR_s rfl ?_
  refine zR_s rfl ?_
  refine zR_cst (v := 1) rfl rfl rfl ?_
  refine zR_iadd rfl ?_
  refine zR_scrk (K := 1) rfl rfl (by omega) hn ?_
  refine zR_s rfl ?_
  refine zR_s rfl ?_
  refine zR_cst (v := 2) rfl rfl rfl ?_
  refine zR_iadd rfl ?_
  refine zR_scrk (K := 2) rfl rfl (by omega) hn ?_
  refine zR_s rfl ?_
  refine zR_call rfl rfl rfl rfl (zcallok_s rfl) (h1) ?_
  refine zR_s rfl ?_
  refine zR_s rfl ?_
  refine zR_s rfl ?_
  refine zR_s rfl ?_
  refine zR_cst (v := 1) rfl rfl rfl ?_
  refine zR_iadd rfl ?_
  refine zR_scrk (K := 1) rfl rfl (by omega) hn ?_
  refine zR_s rfl ?_
  refine zR_s rfl ?_
  refine zR_cst (v := 2) rfl rfl rfl ?_
  refine zR_iadd rfl ?_
  refine zR_scrk (K := 2) rfl rfl (by omega) hn ?_
  refine zR_call rfl rfl rfl rfl (zcallok_v (h75) rfl rfl) (h2) ?_
  refine zR_s rfl ?_
  refine zR_s rfl ?_
  refine zR_call rfl rfl rfl rfl (zcallok_v (zL75) rfl rfl) (m_thrownL) ?_
  refine zR_s rfl ?_
  refine zR_iceq rfl rfl (fun _ => ?_) (fun c => by first | exact absurd (rfl) c | exact absurd c (rfl))
  refine zR_s rfl ?_
  first | refine zR_dt rfl rfl (fun c1 => ?_) (fun c1 => ?_) | refine zR_bt rfl rfl (fun c1 => ?_) (fun c1 => ?_) | refine zR_ifne rfl rfl (fun c1 => ?_) (fun c1 => ?_)
  · refine zR_s rfl ?_
    exact ih _ _ _
  · refine zR_s rfl ?_
    refine zR_cst (v := 0) rfl rfl rfl ?_
    refine zR_lldO rfl ?_
    refine zR_s rfl ?_
    refine zR_s rfl ?_
    refine zR_leq rfl rfl (fun _ => ?_) (fun c => by first | exact absurd (hv c1) c | exact absurd c (hv c1))
    refine zR_s rfl ?_
    exact ih _ _ _
set_option maxRecDepth 100000 in
theorem zw_row {b : Int32} (hi : i + 5 ≤ sL) (hn : sL < 2 ^ 31) (h1 : zMe sL sx 11 120 [.ref 0, .int (sx (i + 1)), .int (sx (i + 2)), .int (sx (i + 3)), .ref 92] h0 (.returned (some (.int k))) h) (h75 : h[75]? = some (10 + 3, zmob N c)) (h2 : zMe sL sx 11 97 [.ref 75, .int (sx (i + 1)), .int (sx (i + 2)), .int (sx (i + 3))] h (.returned (some (.int b))) (zL N' F' G' K' Z' N' F' G' H' Z' k B' v' tl')) (hv : k = 0 → v' = b.toInt64) (ih : ∀ a b e : Value, zR sL sx 12 123 1487 [.retAddr 1, .ref 0, .ref 75, .ref 92, .int (nI i), a, b, e] [] (zL N' F' G' K' Z' N' F' G' H' Z' k B' v' tl') o hF) : zR sL sx 12 123 1259 [.retAddr 1, .ref 0, .ref 75, .ref 92, .int (nI i), a5, a6, a7] [] h0 o hF := by
  refine zR_s rfl ?_
  refine zR_s rfl ?_
  refine zR_s rfl ?_
  refine zR_cst (v := 1) rfl rfl rfl ?_
  refine zR_iadd rfl ?_
  refine zR_scrk (K := 1) rfl rfl (by omega) hn ?_
  refine zR_s rfl ?_
  refine zR_s rfl ?_
  refine zR_cst (v := 2) rfl rfl rfl ?_
  refine zR_iadd rfl ?_
  refine zR_scrk (K := 2) rfl rfl (by omega) hn ?_
  refine zR_s rfl ?_
  refine zR_s rfl ?_
  refine zR_cst (v := 3) rfl rfl rfl ?_
  refine zR_iadd rfl ?_
  refine zR_scrk (K := 3) rfl rfl (by omega) hn ?_
  refine zR_s rfl ?_
  refine zR_call rfl rfl rfl rfl (zcallok_s rfl) (h1) ?_
  refine zR_s rfl ?_
  refine zR_s rfl ?_
  refine zR_s rfl ?_
  refine zR_s rfl ?_
  refine zR_cst (v := 1) rfl rfl rfl ?_
  refine zR_iadd rfl ?_
  refine zR_scrk (K := 1) rfl rfl (by omega) hn ?_
  refine zR_s rfl ?_
  refine zR_s rfl ?_
  refine zR_cst (v := 2) rfl rfl rfl ?_
  refine zR_iadd rfl ?_
  refine zR_scrk (K := 2) rfl rfl (by omega) hn ?_
  refine zR_s rfl ?_
  refine zR_s rfl ?_
  refine zR_cst (v := 3) rfl rfl rfl ?_
  refine zR_iadd rfl ?_
  refine zR_scrk (K := 3) rfl rfl (by omega) hn ?_
  refine zR_call rfl rfl rfl rfl (zcallok_v (h75) rfl rfl) (h2) ?_
  refine zR_s rfl ?_
  refine zR_s rfl ?_
  refine zR_call rfl rfl rfl rfl (zcallok_v (zL75) rfl rfl) (m_thrownL) ?_
  refine zR_s rfl ?_
  refine zR_iceq rfl rfl (fun _ => ?_) (fun c => by first | exact absurd (rfl) c | exact absurd c (rfl))
  refine zR_s rfl ?_
  first | refine zR_dt rfl rfl (fun c1 => ?_) (fun c1 => ?_) | refine zR_bt rfl rfl (fun c1 => ?_) (fun c1 => ?_) | refine zR_ifne rfl rfl (fun c1 => ?_) (fun c1 => ?_)
  · refine zR_s rfl ?_
    exact ih _ _ _
  · refine zR_s rfl ?_
    refine zR_cst (v := 0) rfl rfl rfl ?_
    refine zR_lldO rfl ?_
    refine zR_s rfl ?_
    refine zR_s rfl ?_
    refine zR_s rfl ?_
    refine zR_leq rfl rfl (fun _ => ?_) (fun c => by first | exact absurd (hv c1) c | exact absurd c (hv c1))
    refine zR_s rfl ?_
    exact ih _ _ _
set_option maxRecDepth 100000 in
theorem zw_told {b : Int32} (hi : i + 5 ≤ sL) (hn : sL < 2 ^ 31) (h1 : zMe sL sx 11 121 [.ref 0, .int (sx (i + 1)), .int (sx (i + 2)), .ref 92] h0 (.returned (some (.int k))) h) (h75 : h[75]? = some (10 + 3, zmob N c)) (h2 : zMe sL sx 11 98 [.ref 75, .int (sx (i + 1)), .int (sx (i + 2))] h (.returned (some (.int b))) (zL N' F' G' K' Z' N' F' G' H' Z' k B' v' tl')) (hv : k = 0 → v' = b.toInt64) (ih : ∀ a b e : Value, zR sL sx 12 123 1487 [.retAddr 1, .ref 0, .ref 75, .ref 92, .int (nI i), a, b, e] [] (zL N' F' G' K' Z' N' F' G' H' Z' k B' v' tl') o hF) : zR sL sx 12 123 1339 [.retAddr 1, .ref 0, .ref 75, .ref 92, .int (nI i), a5, a6, a7] [] h0 o hF := by
  refine zR_s rfl ?_
  refine zR_s rfl ?_
  refine zR_s rfl ?_
  refine zR_cst (v := 1) rfl rfl rfl ?_
  refine zR_iadd rfl ?_
  refine zR_scrk (K := 1) rfl rfl (by omega) hn ?_
  refine zR_s rfl ?_
  refine zR_s rfl ?_
  refine zR_cst (v := 2) rfl rfl rfl ?_
  refine zR_iadd rfl ?_
  refine zR_scrk (K := 2) rfl rfl (by omega) hn ?_
  refine zR_s rfl ?_
  refine zR_call rfl rfl rfl rfl (zcallok_s rfl) (h1) ?_
  refine zR_s rfl ?_
  refine zR_s rfl ?_
  refine zR_s rfl ?_
  refine zR_s rfl ?_
  refine zR_cst (v := 1) rfl rfl rfl ?_
  refine zR_iadd rfl ?_
  refine zR_scrk (K := 1) rfl rfl (by omega) hn ?_
  refine zR_s rfl ?_
  refine zR_s rfl ?_
  refine zR_cst (v := 2) rfl rfl rfl ?_
  refine zR_iadd rfl ?_
  refine zR_scrk (K := 2) rfl rfl (by omega) hn ?_
  refine zR_call rfl rfl rfl rfl (zcallok_v (h75) rfl rfl) (h2) ?_
  refine zR_s rfl ?_
  refine zR_s rfl ?_
  refine zR_call rfl rfl rfl rfl (zcallok_v (zL75) rfl rfl) (m_thrownL) ?_
  refine zR_s rfl ?_
  refine zR_iceq rfl rfl (fun _ => ?_) (fun c => by first | exact absurd (rfl) c | exact absurd c (rfl))
  refine zR_s rfl ?_
  first | refine zR_dt rfl rfl (fun c1 => ?_) (fun c1 => ?_) | refine zR_bt rfl rfl (fun c1 => ?_) (fun c1 => ?_) | refine zR_ifne rfl rfl (fun c1 => ?_) (fun c1 => ?_)
  · refine zR_s rfl ?_
    exact ih _ _ _
  · refine zR_s rfl ?_
    refine zR_cst (v := 0) rfl rfl rfl ?_
    refine zR_lldO rfl ?_
    refine zR_s rfl ?_
    refine zR_s rfl ?_
    refine zR_s rfl ?_
    refine zR_leq rfl rfl (fun _ => ?_) (fun c => by first | exact absurd (hv c1) c | exact absurd c (hv c1))
    refine zR_s rfl ?_
    exact ih _ _ _
set_option maxRecDepth 100000 in
theorem zw_packed {b : Int64} (hi : i + 5 ≤ sL) (hn : sL < 2 ^ 31) (h1 : zMe sL sx 11 122 [.ref 0, .int (sx (i + 1)), .ref 92] h0 (.returned (some (.int k))) h) (h75 : h[75]? = some (10 + 3, zmob N c)) (h2 : zMe sL sx 11 99 [.ref 75, .int (sx (i + 1))] h (.returned (some (.long b))) (zL N' F' G' K' Z' N' F' G' H' Z' k B' v' tl')) (hv : k = 0 → v' = b) (ih : ∀ a b e : Value, zR sL sx 12 123 1487 [.retAddr 1, .ref 0, .ref 75, .ref 92, .int (nI i), a, b, e] [] (zL N' F' G' K' Z' N' F' G' H' Z' k B' v' tl') o hF) : zR sL sx 12 123 1407 [.retAddr 1, .ref 0, .ref 75, .ref 92, .int (nI i), a5, a6, a7] [] h0 o hF := by
  refine zR_s rfl ?_
  refine zR_s rfl ?_
  refine zR_s rfl ?_
  refine zR_cst (v := 1) rfl rfl rfl ?_
  refine zR_iadd rfl ?_
  refine zR_scrk (K := 1) rfl rfl (by omega) hn ?_
  refine zR_s rfl ?_
  refine zR_call rfl rfl rfl rfl (zcallok_s rfl) (h1) ?_
  refine zR_s rfl ?_
  refine zR_s rfl ?_
  refine zR_s rfl ?_
  refine zR_s rfl ?_
  refine zR_cst (v := 1) rfl rfl rfl ?_
  refine zR_iadd rfl ?_
  refine zR_scrk (K := 1) rfl rfl (by omega) hn ?_
  refine zR_call rfl rfl rfl rfl (zcallok_v (h75) rfl rfl) (h2) ?_
  refine zR_s rfl ?_
  refine zR_s rfl ?_
  refine zR_call rfl rfl rfl rfl (zcallok_v (zL75) rfl rfl) (m_thrownL) ?_
  refine zR_s rfl ?_
  refine zR_iceq rfl rfl (fun _ => ?_) (fun c => by first | exact absurd (rfl) c | exact absurd c (rfl))
  refine zR_s rfl ?_
  first | refine zR_dt rfl rfl (fun c1 => ?_) (fun c1 => ?_) | refine zR_bt rfl rfl (fun c1 => ?_) (fun c1 => ?_) | refine zR_ifne rfl rfl (fun c1 => ?_) (fun c1 => ?_)
  · refine zR_s rfl ?_
    exact ih _ _ _
  · refine zR_s rfl ?_
    refine zR_cst (v := 0) rfl rfl rfl ?_
    refine zR_lldO rfl ?_
    refine zR_s rfl ?_
    refine zR_s rfl ?_
    refine zR_leq rfl rfl (fun _ => ?_) (fun c => by first | exact absurd (hv c1) c | exact absurd c (hv c1))
    refine zR_s rfl ?_
    exact ih _ _ _
end ZLP
