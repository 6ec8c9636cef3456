/-! a method's end: it returns, or throws -/
def zQc (D : va_G) (aC : Nat → ClassId) (n0 : Nat) (o : Outcome) (hF : zH) : Array Value → State → Outcome → State → Prop := fun _ st o' t =>
  ∃ v : Option Value, o = .returned v ∧ o' = .returned (v.map (zw n0)) ∧ (∀ w, v = some w → zok w = true) ∧ zRep D aC n0 hF t.heap ∧ va_F (fun q => n0 ≤ q) st t
def zXc (D : va_G) (aC : Nat → ClassId) (n0 : Nat) (o : Outcome) (hF : zH) : String → State → State → Prop := fun E st t =>
  ∃ ex : Nat, o = .threw ex ∧ ex < 6 ∧ E = zen ex ∧ zRep D aC n0 hF t.heap ∧ va_F (fun q => n0 ≤ q) st t
/-- what a method's walk comes to -/
abbrev zEnd (D : va_G) (aC : Nat → ClassId) (n0 : Nat) (below : List Frame) (args : Array Value) (s : State) (M1 M2 : Nat) (o : Outcome) (hF : zH) : State → Prop := vx_MQ below (zQc D aC n0 o hF) (zXc D aC n0 o hF) args s M1 M2 (fun q => n0 ≤ q)
section ZE
variable {sL : Nat} {sx : Nat → Int32} {b n0 : Nat} {ext : Nat → Nat} {D : va_G} {aC : Nat → ClassId} {p : Program} {l : Launch} {e : Env} {R : Room} {s : State} {m : MethodId} {args : Array Value} {below : List Frame} {meth : Method} {c : Code} {y d M1 M2 : Nat}
variable {len pc : Nat} {L S : List Value} {h : zH}
theorem zs_ret (hCx : zCx sL sx b n0 D aC p R s m args meth c y d) {ins : Instr} (hh : zHere y pc len ins) {v : Option Value} (hs : zends y ins S = some v) :
    zG n0 ext D aC p l e R s m args below meth c y h.length (zsl h) M1 M2 (zEnd D aC n0 below args s M1 M2 (.returned v) h) pc L S h := by
  obtain ⟨⟨hx, hb, hr, hml, hown⟩, hw, htab, hlocks, -⟩ := id hCx
  obtain ⟨hdg, haim, hlen⟩ := hh
  intro H locs cells slots ls hR hS hL hc hz
  obtain rfl : cells = M1 := by omega
  obtain rfl : slots = M2 := by omega
  have hf : ∀ q ∈ locs, n0 ≤ q.base := hS.2.2
  refine vx_ret ?_
  cases ins with
  | ireturn =>
    obtain rfl : len = 1 := zlen_of hlen
    simp only [zends] at hs
    split at hs
    · rename_i v9 h1
      cases hs
      rw [h1] at hr
      exact W.iret hx hb hr (fun t ht hW => ⟨some (.int v9), rfl, rfl, fun w h9 => by cases h9; rfl, by rw [ht]; exact hR, hS.F ht⟩) hf hdg hlocks
    · rename_i v9 h1
      by_cases hv : v9 = 0 ∨ v9 = 1
      · rw [if_pos hv] at hs
        cases hs
        rw [h1] at hr
        have hn : narrow .boolean (.int v9) = .int v9 := by rcases hv with rfl | rfl <;> rfl
        exact W.zret hx hb hr hn (fun t ht hW => ⟨some (.int v9), rfl, rfl, fun w h9 => by cases h9; rfl, by rw [ht]; exact hR, hS.F ht⟩) hf hdg hlocks
      · rw [if_neg hv] at hs; simp at hs
    · simp at hs
  | lreturn =>
    obtain rfl : len = 1 := zlen_of hlen
    simp only [zends] at hs
    split at hs
    · rename_i v9 h1
      cases hs
      rw [h1] at hr
      exact W.lret hx hb hr (fun t ht hW => ⟨some (.long v9), rfl, rfl, fun w h9 => by cases h9; rfl, by rw [ht]; exact hR, hS.F ht⟩) hf hdg hlocks
    · simp at hs
  | areturn =>
    obtain rfl : len = 1 := zlen_of hlen
    simp only [zends] at hs
    split at hs
    · rename_i v9 t9 h1
      cases hs
      rw [h1] at hr
      exact W.aret hx hb hr (Or.inl ⟨_, rfl⟩) (Or.inr ⟨_, rfl⟩) (fun t ht hW => ⟨some (.ref v9), rfl, rfl, fun w h9 => by cases h9; rfl, by rw [ht]; exact hR, hS.F ht⟩) hf hdg hlocks
    · rename_i t9 h1
      cases hs
      rw [h1] at hr
      exact W.aret hx hb hr (Or.inl ⟨_, rfl⟩) (Or.inl rfl) (fun t ht hW => ⟨some .null, rfl, rfl, fun w h9 => by cases h9; rfl, by rw [ht]; exact hR, hS.F ht⟩) hf hdg hlocks
    · simp at hs
  | return_ =>
    obtain rfl : len = 1 := zlen_of hlen
    simp only [zends] at hs
    split at hs
    · rename_i h1
      cases hs
      rw [h1] at hr
      exact W.vret hx hb hr (fun t ht hW => ⟨none, rfl, rfl, fun w h9 => (by cases h9), by rw [ht]; exact hR, hS.F ht⟩) hf hdg hlocks
    · simp at hs
  | _ => simp [zends] at hs
theorem zstr_ok (hK : zK D aC s) {is cl : Nat} (h : (zSt.any fun q => Nat.beq q.1 cl && Nat.beq q.2.1 is) = true) : ∃ text a, vk_R (zcn cl) is text a s := by
  obtain ⟨q, hq, hq2⟩ := List.any_eq_true.mp h
  simp only [Bool.and_eq_true] at hq2
  obtain ⟨a, ha⟩ := hK.2.2.2.2.1 q hq
  rw [Nat.eq_of_beq_eq_true hq2.1, Nat.eq_of_beq_eq_true hq2.2] at ha
  exact ⟨_, a, ha⟩
theorem zany (hw : ∀ w ∈ lw_tbl, goodWord w = true → w.before args s = true) (hK : zK D aC s) {i : Nat} {r : Nat × Nat × Nat} (hp : zpool y i = some r) {w : Cond} (hin : w ∈ zws (zcls y) (i, r)) : w.before args s = true := by
  obtain ⟨h1, h2⟩ := (zpool_ok hp).2 w hin
  rw [Bool.or_eq_true] at h2
  rcases h2 with h2 | h2
  · exact hw w h1 h2
  · have h3 := hK.2.2.2.1 w h1 h2
    refine va_Nw.use ?_ h3
    cases w <;> first | rfl | (simp [zisX] at h2)
theorem zs_thr (hl : l.stackTraces = false) (hCx : zCx sL sx b n0 D aC p R s m args meth c y d) (hM1 : M1 ≤ R.cells) (hM2 : M2 ≤ R.slots) {ins : Instr} (hh : zHere y pc len ins) {ex : Nat} (hs : zthr y ins = some ex) (ht : zthrows d y pc S ex = true) :
    zG n0 ext D aC p l e R s m args below meth c y (h ++ [(100 + ex, [])]).length (zsl (h ++ [(100 + ex, [])])) M1 M2 (zEnd D aC n0 below args s M1 M2 (.threw ex) (h ++ [(100 + ex, [])])) pc L S h := by
  obtain ⟨⟨hx, hb, hr, hml, hown⟩, hw, htab, hlocks, -, ⟨hfr, hlo⟩, hK, ⟨hU, hN⟩, -⟩ := id hCx
  obtain ⟨hdg, haim, hlen⟩ := hh
  intro H locs cells slots ls hR hS hL hc hz
  have hz1 : zsl (h ++ [(100 + ex, [])]) = zsl h + 6 := by
    rw [zsl_app, zsl_one]
    have : Nat.ble 100 (100 + ex) = true := Nat.ble_eq_true_of_le (by omega)
    rw [this]; rfl
  rw [List.length_append] at hc
  simp only [List.length_cons, List.length_nil] at hc
  rw [hz1] at hz
  cases ins with
  | new ik =>
    obtain rfl : len = 3 := zlen_of hlen
    simp only [zthr] at hs
    split at hs
    · rename_i ex' k9 hp
      cases hs
      obtain ⟨hpk, -⟩ := zpool_ok hp
      have he6 : ex < 6 := Nat.le_of_ble_eq_true hpk
      obtain ⟨x1, x2, x3, x4⟩ := zex_ok ex he6
      have w1 := zany hw hK hp (w := .classLink (zcn (zcls y)) ik (zen ex)) (by simp [zws])
      have w2 := zany hw hK hp (w := .initialized (zen ex)) (by simp [zws])
      simp only [zthrows, Bool.and_eq_true] at ht
      obtain ⟨⟨⟨t1, t2⟩, t3⟩, t4⟩ := ht
      have t1 := Nat.le_of_ble_eq_true t1
      have t2 := Nat.le_of_ble_eq_true t2
      have hhan : c.exceptionTable.toList = [] := by rw [htab, List.isEmpty_iff.mp t3]; rfl
      have main : ∀ (ll is ic : Nat) (k8 : Nat), ((ll = 2 ∧ decode (zbyt y) (pc + 4) = .ok (.ldc is, 2)) ∨ (ll = 3 ∧ decode (zbyt y) (pc + 4) = .ok (.ldc_w is, 3))) → decode (zbyt y) (pc + 3) = .ok (.dup, 1) → decode (zbyt y) (pc + 4 + ll) = .ok (.invokespecial ic, 3) → decode (zbyt y) (pc + 4 + ll + 3) = .ok (.athrow, 1) →
          (zSt.any fun q => Nat.beq q.1 (zcls y) && Nat.beq q.2.1 is) = true → zpool y ic = some (8, ex, k8) → W p l e R s m args below meth c H locs cells slots (zEnd D aC n0 below args s M1 M2 (.threw ex) (h ++ [(100 + ex, [])])) (F0 m pc ls (S.map (zv n0 ext))) := by
        intro ll is ic k8 d4 d3 d6 d9 hst hpc
        obtain ⟨text, sa, hstr⟩ := zstr_ok hK hst
        obtain ⟨hpk2, -⟩ := zpool_ok hpc
        simp only [zpk, Bool.and_eq_true] at hpk2
        have hat : ∀ w ∈ zt_at (zcn (zcls y)) ic (zen ex) (zes ex) (zej ex) (zeb ex), w.before args s = true := fun w h9 => zany hw hK hpc (by simpa [zws] using h9)
        refine zt_throw hx hb hl x4 hown x1 x2 w1 w2 hstr hat ?_ hU hN hS (hL.1.trans hml.symm) hdg d3 d4 d6 d9 (by rw [hhan]; exact fun _ h9 => by cases h9) (by omega) (by rw [zwt_map]; omega) (by omega) (by omega) hlocks ?_ hS.2.2 (by omega) (by omega)
        · intro w h9
          rcases List.mem_cons.mp h9 with rfl | h9
          · rfl
          · rcases List.mem_cons.mp h9 with rfl | h9
            · rfl
            · exact List.all_eq_true.mp hpk2.2 w h9
        · intro t hA hsz hold hnew
          obtain ⟨ce, g1, g2⟩ := hnew
          refine ⟨ex, rfl, he6, rfl, zRep_push hR hsz hold g1 ⟨g2, fun v hv => (by cases hv), fun q => absurd q (by simp only; omega), fun ci hci q => absurd q (by simp only; omega)⟩, by rw [hsz]; have := hS.1; omega, fun q h1 h2 => ?_⟩
          rw [hold q (Nat.lt_of_lt_of_le h1 hS.1)]
          exact hS.2.1 q h1 h2
      cases h3 : zat y (pc + 3) with
      | none => simp [h3] at t4
      | some r3 =>
        cases h4 : zat y (pc + 4) with
        | none => simp [h3, h4] at t4
        | some r4 =>
          rw [h3, h4] at t4
          have o3 := (zat_ok h3).1
          have o4 := (zat_ok h4).1
          split at t4
          · rename_i is e3 e4
            cases e3; cases e4
            rw [Bool.and_eq_true] at t4
            obtain ⟨u1, u2⟩ := t4
            split at u2
            · rename_i ic e6 e9
              split at u2
              · rename_i e2 k8 hpc
                have := Nat.eq_of_beq_eq_true u2
                subst this
                exact main 2 is ic k8 (Or.inl ⟨rfl, o4⟩) o3 (zat_ok e6).1 (zat_ok e9).1 u1 hpc
              · simp at u2
            · simp at u2
          · rename_i is e3 e4
            cases e3; cases e4
            rw [Bool.and_eq_true] at t4
            obtain ⟨u1, u2⟩ := t4
            split at u2
            · rename_i ic e6 e9
              split at u2
              · rename_i e2 k8 hpc
                have := Nat.eq_of_beq_eq_true u2
                subst this
                exact main 3 is ic k8 (Or.inr ⟨rfl, o4⟩) o3 (zat_ok e6).1 (zat_ok e9).1 u1 hpc
              · simp at u2
            · simp at u2
          · simp at t4
    · simp at hs
  | _ => simp [zthr] at hs
end ZE
