/-! calls -/
def zPc (sL : Nat) (sx : Nat → Int32) (b n0 : Nat) (D : va_G) (aC : Nat → ClassId) (As : List Value) (h : zH) : Array Value → State → Prop := fun v U =>
  v = (As.map (zw n0)).toArray ∧ zRep D aC n0 h U.heap ∧ zK D aC U ∧ (vx_Zq Bundle.tN "UNASSIGNED_STACK" Bundle.steD (fun q => n0 ≤ q) U U.heap ∧ vx_Zq Bundle.tN "SUPPRESSED_SENTINEL" Bundle.listD (fun q => n0 ≤ q) U U.heap) ∧ (va_X b sL sx U U.heap ∧ b < n0)
abbrev zRm (d k n : Nat) : Room := { frames := d, cells := k, slots := n, locals := 29 * d + 88 }
abbrev zMt (l : Launch) (sL : Nat) (sx : Nat → Int32) (b n0 : Nat) (D : va_G) (aC : Nat → ClassId) (z d : Nat) (As : List Value) (h : zH) (o : Outcome) (h1 : zH) : Prop :=
  vx_Met l (zname z) (zwd z :: lw_tbl.filter goodWord) (zRm d (h1.length - h.length) (zsl h1 - zsl h)) (zPc sL sx b n0 D aC As h) (zQc D aC n0 o h1) (zXc D aC n0 o h1) (h1.length - h.length) (zsl h1 - zsl h) (fun q => n0 ≤ q)
theorem zcast_moved {a b : String} {u U : State} (hvm : u.vm.Alike U.vm) (h : va_Nw (.castable a b) u) : va_Nw (.castable a b) U := by
  obtain ⟨c1, c2, h1, h2, h3⟩ := Cond.castable_spec h
  simp only [va_Nw, Cond.before, Cond.holds, Cond.value, hvm.findClass, h1, h2, hvm.assignable, h3]
  rfl
theorem zK_warm {D : va_G} {aC : Nat → ClassId} {u U : State} (hW : u.WarmedH U.vm) (h : zK D aC u) : zK D aC U := by
  obtain ⟨h1, h2, h3, h4, h5, h6⟩ := h
  have hvm := hW.alike
  refine ⟨fun ci hci => u_Kn_moved hvm (h1 ci hci), fun t ht => ?_, va_AO.moved hvm h3, fun w hw hX => ?_, fun q hq => ?_, fun e1 e2 a1 a2 a3 => va_Nc.moved hvm (h6 e1 e2 a1 a2 a3)⟩
  · obtain ⟨g1, k, comp, g2, g3, g4⟩ := h2 t ht
    obtain ⟨k', hk', he⟩ := hvm.2.2 _ _ g2
    exact ⟨by rw [hvm.findClass]; exact g1, k', comp, hk', by rw [he]; exact g3, g4⟩
  · have h9 := h4 w hw hX
    cases w <;> first
      | exact va_Nw.warmD hW h9
      | exact va_Nw.warmM hW h9
      | exact zcast_moved hvm h9
      | (simp [zisX] at hX)
  · obtain ⟨a, ha⟩ := h5 q hq
    exact ⟨a, vk_R.warm hW ha⟩
theorem zPc_blind (sL : Nat) (sx : Nat → Int32) (b n0 : Nat) (D : va_G) (aC : Nat → ClassId) (As : List Value) (h : zH) : FrameBlind (zPc sL sx b n0 D aC As h) := by
  intro a U g mk q
  obtain ⟨q1, q2, q3, ⟨q4, q5⟩, q6, q7⟩ := q
  have hW : U.WarmedH (U.calling g mk a).vm := State.WarmedH.refl U
  exact ⟨q1, q2, zK_warm hW q3, ⟨vx_Zq.moved hW.alike q4, vx_Zq.moved hW.alike q5⟩, va_X.moved hW.alike q6, q7⟩
section ZCL
variable {sL : Nat} {sx : Nat → Int32} {b n0 : Nat} {ext : Nat → Nat} {D : va_G} {aC : Nat → ClassId} {p : Program} {l : Launch} {e : Env} {R : Room} {s : State} {m : MethodId} {args : Array Value} {below : List Frame} {meth : Method} {c : Code} {y d F1 F2 M1 M2 : Nat} {Q : State → Prop}
variable {len pc : Nat} {L S As rest : List Value} {h h1 : zH} {o : Outcome} {z : Nat}
/-- from here, with an exception ex over the frame -/
def zGX (n0 : Nat) (ext : Nat → Nat) (D : va_G) (aC : Nat → ClassId) (p : Program) (l : Launch) (e : Env) (R : Room) (s : State) (m : MethodId) (args : Array Value) (below : List Frame) (meth : Method) (c : Code) (y F1 F2 M1 M2 : Nat) (Q : State → Prop) (pc : Nat) (L S : List Value) (h : zH) (ex : Nat) : Prop :=
  ∀ (H : Heap) (locs : List Loc) (cells slots : Nat) (ls : Array Slot) (q : Addr) (ce : Cell), zRep D aC n0 h H → va_S (fun q => n0 ≤ q) s.heap H locs → zLs n0 ext (zmax y) L ls → cells + F1 = M1 + h.length → slots + F2 = M2 + zsl h → ex < 6 → H[q]? = some ce → ce.vm = .none → s.vm.findClass (zen ex) = some ce.cls →
    vx_W p l e R s m args below meth c H locs cells slots Q (F0 m pc ls (S.map (zv n0 ext))) q
theorem zv_list {As : List Value} (h : As.all zok = true) : As.map (zv n0 ext) = As.map (zw n0) := List.map_congr_left fun v hv => zv_ok (List.all_eq_true.mp h v hv)
theorem zpre (hCx : zCx sL sx b n0 D aC p R s m args meth c y d) {H : Heap} {locs : List Loc} (hR : zRep D aC n0 h H) (hS : va_S (fun q => n0 ≤ q) s.heap H locs) : ∀ U : State, U.heap = H → s.WarmedH U.vm → zPc sL sx b n0 D aC As h (As.map (zw n0)).toArray U := by
  obtain ⟨-, -, -, -, -, -, hK, ⟨hU, hN⟩, ⟨hX, hbn⟩, hn0⟩ := hCx
  intro U hUH hW
  refine ⟨rfl, by rw [hUH]; exact hR, zK_warm hW hK, ⟨by rw [hUH]; exact vx_Zq.moved hW.alike (hU.kept hS.2.1), by rw [hUH]; exact vx_Zq.moved hW.alike (hN.kept hS.2.1)⟩, by rw [hUH]; exact va_X.moved hW.alike (hX.kept (hS.2.1 b (Nat.lt_of_lt_of_le hbn hn0) (Nat.not_le.mpr hbn))), hbn⟩
theorem zframe {H : Heap} {locs Lc : List Loc} {st t : State} (hS : va_S (fun q => n0 ≤ q) s.heap H locs) (h0 : st.heap = H) (hF : va_F (fun q => n0 ≤ q) st t) (hL : ∀ q ∈ Lc, n0 ≤ q.base) : va_S (fun q => n0 ≤ q) s.heap t.heap (locs ++ Lc) := by
  obtain ⟨f1, f2⟩ := hF
  rw [h0] at f1 f2
  refine ⟨Nat.le_trans hS.1 f1, fun q a1 a2 => ?_, fun q hq => ?_⟩
  · rw [f2 q (Nat.lt_of_lt_of_le a1 hS.1) a2]; exact hS.2.1 q a1 a2
  · rcases List.mem_append.mp hq with h9 | h9
    · exact hS.2.2 q h9
    · exact hL q h9
theorem zvlist {v9 : Option Value} (hv : ∀ w, v9 = some w → zok w = true) : (v9.map (zw n0)).toList ++ rest.map (zv n0 ext) = (v9.toList ++ rest).map (zv n0 ext) := by
  cases v9 with
  | none => rfl
  | some w => simp [zv_ok (n0 := n0) (ext := ext) (hv w rfl)]
/-- a call that returns or throws goes on -/
theorem zrunX {H : Heap} {locs : List Loc} {cells slots : Nat} {ls : Array Slot} {st0 : List Value} {a9 : Array Value} (hS : va_S (fun q => n0 ≤ q) s.heap H locs) (hL : zLs n0 ext (zmax y) L ls) (hc : cells + F1 = M1 + h.length) (hz : slots + F2 = M2 + zsl h) (hl1 : h.length ≤ h1.length) (hs1 : zsl h ≤ zsl h1)
    (hr : vx_Run p l e R s m args below meth c H locs cells slots (h1.length - h.length) (zsl h1 - zsl h) (F0 m pc ls st0) (rest.map (zv n0 ext)) (zQc D aC n0 o h1 a9) (zXc D aC n0 o h1) (fun q => n0 ≤ q))
    (kret : ∀ v, o = .returned v → (∀ w, v = some w → zok w = true) → zG n0 ext D aC p l e R s m args below meth c y F1 F2 M1 M2 Q (pc + 3) L (v.toList ++ rest) h1)
    (kthr : ∀ ex, o = .threw ex → zGX n0 ext D aC p l e R s m args below meth c y F1 F2 M1 M2 Q pc L rest h1 ex) :
    W p l e R s m args below meth c H locs cells slots Q (F0 m pc ls st0) := by
  intro T hT X
  rcases hr T hT X with ⟨v, st₀, t, T', Lc, h0, X', hL', e1, e2, ⟨v9, g1, g2, g3, g4, g5⟩, st⟩ | ⟨q, st₀, t, T', Lc, E, ce, h0, X', hL', e1, e2, ⟨ex, g1, g2, g3, g4, g5⟩, g6, g7, g8, st⟩
  · cases g2
    have k9 := kret v9 g1 g3 T'.heap (locs ++ Lc) (cells + (h1.length - h.length)) (slots + (zsl h1 - zsl h)) ls (by rw [e1]; exact g4) (by rw [e1]; exact zframe hS h0 g5 hL') hL (by omega) (by omega)
    rw [← zvlist g3] at k9
    obtain ⟨t2, a1, b1⟩ := k9 T' rfl X'
    exact ⟨t2, st t2 a1, b1⟩
  · subst g3
    obtain ⟨t2, a1, b1⟩ := kthr ex g1 T'.heap (locs ++ Lc) (cells + (h1.length - h.length)) (slots + (zsl h1 - zsl h)) ls q ce (by rw [e1]; exact g4) (by rw [e1]; exact zframe hS h0 g5 hL') hL (by omega) (by omega) g2 (by rw [e1]; exact g6) g7 g8 T' rfl X'
    exact ⟨t2, st.trans a1, b1⟩
theorem zrunV {H : Heap} {locs : List Loc} {cells slots : Nat} {ls : Array Slot} {st0 : List Value} {a9 : Array Value} (hS : va_S (fun q => n0 ≤ q) s.heap H locs) (hL : zLs n0 ext (zmax y) L ls) (hc : cells + F1 = M1 + h.length) (hz : slots + F2 = M2 + zsl h) (hl1 : h.length ≤ h1.length) (hs1 : zsl h ≤ zsl h1)
    (hr : va_Run p l e R s m args below meth c H locs cells slots (h1.length - h.length) (zsl h1 - zsl h) (F0 m pc ls st0) (rest.map (zv n0 ext)) (zQc D aC n0 o h1 a9) (fun q => n0 ≤ q))
    (kret : ∀ v, o = .returned v → (∀ w, v = some w → zok w = true) → zG n0 ext D aC p l e R s m args below meth c y F1 F2 M1 M2 Q (pc + 3) L (v.toList ++ rest) h1) :
    W p l e R s m args below meth c H locs cells slots Q (F0 m pc ls st0) := by
  intro T hT X
  obtain ⟨v, st₀, t, T', Lc, h0, X', hL', e1, e2, ⟨v9, g1, g2, g3, g4, g5⟩, st⟩ := hr T hT X
  cases g2
  have k9 := kret v9 g1 g3 T'.heap (locs ++ Lc) (cells + (h1.length - h.length)) (slots + (zsl h1 - zsl h)) ls (by rw [e1]; exact g4) (by rw [e1]; exact zframe hS h0 g5 hL') hL (by omega) (by omega)
  rw [← zvlist g3] at k9
  obtain ⟨t2, a1, b1⟩ := k9 T' rfl X'
  exact ⟨t2, st t2 a1, b1⟩
/-- a contract that can't throw is the kit's plain one -/
theorem zplain {d' : Nat} (hM : zMt l sL sx b n0 D aC z d' As h o h1) (hret : ∃ v, o = .returned v) :
    Met l (zname z) (zwd z :: lw_tbl.filter goodWord) (zRm d' (h1.length - h.length) (zsl h1 - zsl h)) (zPc sL sx b n0 D aC As h) (zQc D aC n0 o h1) (h1.length - h.length) (zsl h1 - zsl h) (fun q => n0 ≤ q) := by
  intro p9 e9 a1 a2 a3 s9 m9 args9 below9 a4 a5 a6 a7
  obtain ⟨n, o9, b1, b2, b3, b4⟩ := hM p9 e9 a1 a2 a3 s9 m9 args9 below9 a4 a5 a6 a7
  refine ⟨n, o9, b1, b2, b3, ?_⟩
  rcases b4 with b4 | ⟨q, -, E, ce, L9, ⟨ex, g1, -⟩, -⟩
  · exact b4
  · obtain ⟨v, hv⟩ := hret
    rw [hv] at g1; cases g1
theorem zfil {w : Cond} (h1 : w ∈ lw_tbl) (h2 : goodWord w = true) : w ∈ lw_tbl.filter goodWord := List.mem_filter.mpr ⟨h1, h2⟩
theorem zpw {i : Nat} {r : Nat × Nat × Nat} (hp : zpool y i = some r) {w : Cond} (hin : w ∈ zws (zcls y) (i, r)) (hX : zisX w = false) : w ∈ lw_tbl.filter goodWord := by
  obtain ⟨g1, g2⟩ := (zpool_ok hp).2 w hin
  rw [hX, Bool.or_false] at g2
  exact zfil g1 g2
theorem zwd_X (z : Nat) : zisX (zwd z) = false := by
  unfold zwd
  cases (zhan z).isEmpty <;> rfl
theorem zgoodIn {ws : List Cond} (h : ∀ w ∈ ws, w ∈ lw_tbl.filter goodWord) : GoodIn (lw_tbl.filter goodWord) ws := fun w hw => ⟨h w hw, good_of_word (List.mem_filter.mp (h w hw)).2⟩
theorem zs_call (hCx : zCx sL sx b n0 D aC p R s m args meth c y (d + 1)) (hM1 : M1 ≤ R.cells) (hM2 : M2 ≤ R.slots) {ins : Instr} (hh : zHere y pc len ins) {stat mt : Bool} (hz9 : zcalls y ins = some (z, stat, mt)) (hok : zcallok z stat As rest h = true) (hSt : S = As.reverse ++ rest)
    (hM : zMt l sL sx b n0 D aC z d As h o h1) (hl1 : h.length ≤ h1.length) (hs1 : zsl h ≤ zsl h1) (hF1 : h1.length ≤ F1) (hF2 : zsl h1 ≤ F2)
    (kret : ∀ v, o = .returned v → (∀ w, v = some w → zok w = true) → zG n0 ext D aC p l e R s m args below meth c y F1 F2 M1 M2 Q (pc + 3) L (v.toList ++ rest) h1)
    (kthr : mt = true → ∀ ex, o = .threw ex → zGX n0 ext D aC p l e R s m args below meth c y F1 F2 M1 M2 Q pc L rest h1 ex) (hmt : mt = false → ∃ v, o = .returned v) :
    zG n0 ext D aC p l e R s m args below meth c y F1 F2 M1 M2 Q pc L S h := by
  obtain ⟨⟨hx, hb, hr, hml, hown⟩, hw, -, -, -, ⟨hfr, hlo⟩, hK, -⟩ := id hCx
  obtain ⟨hdg, haim, hlen⟩ := hh
  intro H locs cells slots ls hR hS hL hc hz
  subst hSt
  simp only [zcallok, Bool.and_eq_true] at hok
  obtain ⟨⟨⟨⟨o1, o2⟩, o3⟩, o4⟩, o5⟩ := hok
  have o1 := Nat.eq_of_beq_eq_true o1
  have o3 := Nat.le_of_ble_eq_true o3
  have hpre := zpre (As := As) hCx hR hS
  have hfix : CallFix p m c (zbyt y) (zmax y) s args (lw_tbl.filter goodWord) (zcn (zcls y)) := ⟨hx, hb, hml, hown, zgood hw⟩
  have hroom : ∀ (g : JFrame), g.monitorRoom = 0 → 2 * g.monitorRoom + ((rest.map (zv n0 ext)).map fun v => v.category).sum ≤ 8 := fun g hg => by rw [hg, zwt_map]; omega
  have hcs : cells + (h1.length - h.length) ≤ R.cells ∧ slots + (zsl h1 - zsl h) ≤ R.slots := ⟨by omega, by omega⟩
  have hmap : (As.reverse ++ rest).map (zv n0 ext) = (As.map (zw n0)).reverse ++ rest.map (zv n0 ext) := by rw [List.map_append, List.map_reverse, zv_list o2]
  have hblind := zPc_blind sL sx b n0 D aC As h
  cases ins with
  | invokevirtual i =>
    obtain rfl : len = 3 := zlen_of hlen
    simp only [zcalls] at hz9
    split at hz9
    · rename_i z' k9 hp
      cases hz9
      obtain ⟨hpk, -⟩ := zpool_ok hp
      simp only [zpk, zmk, Bool.and_eq_true, decide_eq_true_eq, Bool.false_or, cond_false] at hpk
      obtain ⟨⟨⟨⟨⟨⟨⟨⟨⟨m1, m2⟩, m3⟩, m4⟩, m5⟩, m6⟩, m7⟩, m8⟩, hem⟩, hc4⟩ := hpk
      have hc4 : zcls z < 4 := Nat.le_of_ble_eq_true hc4
      have m5 := Nat.le_of_ble_eq_true m5
      have hwd : zwd z = .code (zname z) (zbyt z) (zmax z) (zret z) := by unfold zwd; rw [hem]; rfl
      rw [Bool.false_or] at o5
      cases As with
      | nil => simp at o5
      | cons v0 As' =>
        cases v0 with
        | ref a =>
          simp only at o5
          cases ha : h[a]? with
          | none => simp [ha] at o5
          | some q =>
            simp only [ha] at o5
            obtain ⟨cell, q1, q2⟩ := hR.2 a q ha
            have qc := (q2.2.2.2 (zcls z) hc4 (Nat.eq_of_beq_eq_true o5)).1
            rw [hmap, List.map_cons, List.reverse_cons, List.append_assoc]
            refine zrunX hS hL hc hz hl1 hs1 (vx_runV (As := As'.map (zw n0)) hfix hM (cwV (znar z - 1) (zgood hw) (zgoodIn ?_) (by rw [hwd]) rfl rfl ⟨m7, m2, m3, m4⟩ ⟨by omega, by show 8 + (zmax z + 11) + (29 * d + 88) ≤ _; omega⟩)
              ⟨hblind, ⟨cell, q1, by rw [q2.1]; rfl, by rw [qc]; exact (hK.1 (zcls z) hc4).2.1⟩, hpre⟩ rfl (by rw [List.length_map, ← o1]; rfl) hL.1 rfl (hroom _ rfl) hdg hcs) kret (kthr rfl)
            intro w hw9
            unfold wsV at hw9
            rcases List.mem_append.mp hw9 with h9 | h9
            · simp only [List.mem_cons, List.not_mem_nil, or_false] at h9
              rcases h9 with rfl | rfl | rfl | rfl
              · exact zpw hp (by simp [zws]) rfl
              · exact zpw hp (by simp [zws]) rfl
              · exact zpw hp (by simp [zws]) rfl
              · exact zpw hp (by simp [zws]) rfl
            · rcases List.mem_cons.mp h9 with rfl | h9
              · exact zpw hp (by simp [zws]) (zwd_X z)
              · exact h9
        | _ => simp at o5
    · simp at hz9
  | invokestatic i =>
    obtain rfl : len = 3 := zlen_of hlen
    simp only [zcalls] at hz9
    split at hz9
    · rename_i z' k9 hp
      cases hz9
      obtain ⟨hpk, -⟩ := zpool_ok hp
      simp only [zpk, zmk, Bool.and_eq_true, decide_eq_true_eq, Bool.true_or, cond_true] at hpk
      obtain ⟨⟨⟨⟨⟨⟨⟨⟨m1, m2⟩, m3⟩, m4⟩, m5⟩, m6⟩, m7⟩, m8⟩, hcy⟩ := hpk
      have hcy : zcls z = zcls y := Nat.eq_of_beq_eq_true hcy
      have m5 := Nat.le_of_ble_eq_true m5
      rw [hmap]
      have hin : ∀ w ∈ wsS (zcn (zcls y)) i (zname z) (zwd z :: lw_tbl.filter goodWord), w ∈ lw_tbl.filter goodWord := by
        intro w hw9
        unfold wsS at hw9
        rcases List.mem_append.mp hw9 with h9 | h9
        · simp only [List.mem_cons, List.not_mem_nil, or_false] at h9
          rcases h9 with rfl | rfl | rfl
          · exact zpw hp (by simp [zws]) rfl
          · exact zpw hp (by simp [zws]) rfl
          · exact zpw hp (by simp [zws]) rfl
        · rcases List.mem_cons.mp h9 with rfl | h9
          · exact zpw hp (by simp [zws]) (zwd_X z)
          · exact h9
      cases hem : (zhan z).isEmpty with
      | true =>
        have hwd : zwd z = .code (zname z) (zbyt z) (zmax z) (zret z) := by unfold zwd; rw [hem]; rfl
        exact zrunX hS hL hc hz hl1 hs1 (vx_runS (As := As.map (zw n0)) hfix hM (cwS (znar z) (zgood hw) (zgoodIn hin) (by rw [hwd]) rfl rfl ⟨by rw [m7, hcy], m2, m3, m4⟩ ⟨by omega, by show 8 + (zmax z + 11) + (29 * d + 88) ≤ _; omega⟩)
          ⟨hblind, hpre⟩ rfl (by rw [List.length_map]; exact o1) hL.1 rfl (hroom _ rfl) hdg hcs) kret (kthr rfl)
      | false =>
        have hwd : zwd z = .codeWith (zname z) (zbyt z) (zmax z) (zret z) (zhan z) := by unfold zwd; rw [hem]; rfl
        have hin2 : ∀ w ∈ va_wsS (zcn (zcls y)) i (zname z) (zwd z :: lw_tbl.filter goodWord), w ∈ lw_tbl.filter goodWord := by
          intro w hw9
          unfold va_wsS at hw9
          rcases List.mem_append.mp hw9 with h9 | h9
          · simp only [List.mem_cons, List.not_mem_nil, or_false] at h9
            rcases h9 with rfl | rfl | rfl
            · exact zpw hp (by simp [zws]) rfl
            · exact zpw hp (by simp [zws]) rfl
            · rw [m7, hcy]; exact zpw hp (by simp [zws]) rfl
          · rcases List.mem_cons.mp h9 with rfl | h9
            · exact zpw hp (by simp [zws]) (zwd_X z)
            · exact h9
        exact zrunX hS hL hc hz hl1 hs1 (vx_runSX (As := As.map (zw n0)) hfix hM (vx_cwSW (znar z) (zgood hw) (zgoodIn hin2) (by rw [hwd]) rfl rfl ⟨m2, m3, m4⟩ ⟨by omega, by show 8 + (zmax z + 11) + (29 * d + 88) ≤ _; omega⟩)
          ⟨hblind, hpre⟩ rfl (by rw [List.length_map]; exact o1) hL.1 rfl (hroom _ rfl) hdg hcs) kret (kthr rfl)
    · rename_i z' k9 hp
      cases hz9
      obtain ⟨hpk, -⟩ := zpool_ok hp
      simp only [zpk, zmk, Bool.and_eq_true, decide_eq_true_eq, Bool.true_or, cond_true] at hpk
      obtain ⟨⟨⟨⟨⟨⟨⟨⟨m1, m2⟩, m3⟩, m4⟩, m5⟩, m6⟩, m7⟩, m8⟩, hem⟩ := hpk
      have m5 := Nat.le_of_ble_eq_true m5
      have hwd : zwd z = .code (zname z) (zbyt z) (zmax z) (zret z) := by unfold zwd; rw [hem]; rfl
      rw [hmap]
      have hgi : GoodIn (lw_tbl.filter goodWord) (zwd z :: lw_tbl.filter goodWord) := zgoodIn fun w h9 => by
        rcases List.mem_cons.mp h9 with rfl | h9
        · exact zpw hp (by simp [zws]) (zwd_X z)
        · exact h9
      have hnest : va_Nw (.methodLinkNest (zcn (zcls y)) i (zname z) RX2) s := hK.2.2.2.1 _ ((zpool_ok hp).2 _ (by simp [zws])).1 rfl
      have hini := zgood hw (.initialized (zname z).cls) (by rw [m7]; exact zpw hp (by simp [zws]) rfl)
      have hst := zgood hw (.static (zname z)) (zpw hp (by simp [zws]) rfl)
      exact zrunV hS hL hc hz hl1 hs1 (va_runSN (As := As.map (zw n0)) hfix (zplain hM (hmt rfl)) ⟨va_cnB (znar z) (zgood hw) hgi (by rw [hwd]) rfl rfl hnest hini ⟨m2, m3, m4⟩ ⟨by omega, by show 8 + (zmax z + 11) + (29 * d + 88) ≤ _; omega⟩, hst, trivial⟩
        ⟨hblind, hpre⟩ rfl (by rw [List.length_map]; exact o1) hL.1 rfl (hroom _ rfl) hdg hcs) kret
    · simp at hz9
  | invokespecial i =>
    obtain rfl : len = 3 := zlen_of hlen
    simp only [zcalls] at hz9
    have hcons : ∃ a As', As = .ref a :: As' ∧ stat = false := by
      split at hz9
      · cases hz9
        rw [Bool.false_or] at o5
        cases As with
        | nil => simp at o5
        | cons v0 As' =>
          cases v0 with
          | ref a => exact ⟨a, As', rfl, rfl⟩
          | _ => simp at o5
      · cases hz9
        rw [Bool.false_or] at o5
        cases As with
        | nil => simp at o5
        | cons v0 As' =>
          cases v0 with
          | ref a => exact ⟨a, As', rfl, rfl⟩
          | _ => simp at o5
      · simp at hz9
    obtain ⟨a, As', rfl, rfl⟩ := hcons
    split at hz9
    · rename_i z' k9 hp
      cases hz9
      obtain ⟨hpk, -⟩ := zpool_ok hp
      simp only [zpk, zmk, Bool.and_eq_true, decide_eq_true_eq, Bool.false_or, cond_false] at hpk
      obtain ⟨⟨⟨⟨⟨⟨⟨⟨⟨⟨m1, m2⟩, m3⟩, m4⟩, m5⟩, m6⟩, m7⟩, m8⟩, hem⟩, hnm⟩, hrt⟩ := hpk
      have m5 := Nat.le_of_ble_eq_true m5
      have hwd : zwd z = .code (zname z) (zbyt z) (zmax z) none := by unfold zwd; rw [hem, hrt]; rfl
      rw [hmap, List.map_cons, List.reverse_cons, List.append_assoc]
      have hgi : GoodIn (lw_tbl.filter goodWord) (zwd z :: lw_tbl.filter goodWord) := zgoodIn fun w h9 => by
        rcases List.mem_cons.mp h9 with rfl | h9
        · exact zpw hp (by simp [zws]) (zwd_X z)
        · exact h9
      have hini := zgood hw (.initialized (zname z).cls) (by rw [m7]; exact zpw hp (by simp [zws]) rfl)
      exact zrunV hS hL hc hz hl1 hs1 (va_runI (b := n0 + a) (As := As'.map (zw n0)) hfix (zplain hM (hmt rfl)) (cwI (znar z - 1) (zgood hw) hgi (by rw [hwd]) rfl rfl hini (zgood hw _ (zpw hp (by simp [zws]) rfl)) (zgood hw _ (zpw hp (by simp [zws]) rfl)) hnm ⟨m2, m3, m4⟩ ⟨by omega, by show 8 + (zmax z + 11) + (29 * d + 88) ≤ _; omega⟩)
        ⟨hblind, hpre⟩ rfl (by rw [List.length_map, ← o1]; rfl) hL.1 rfl (hroom _ rfl) hdg hcs) kret
    · rename_i z' k9 hp
      cases hz9
      obtain ⟨hpk, -⟩ := zpool_ok hp
      simp only [zpk, zmk, Bool.and_eq_true, decide_eq_true_eq, Bool.false_or, cond_false] at hpk
      obtain ⟨⟨⟨⟨⟨⟨⟨⟨⟨⟨m1, m2⟩, m3⟩, m4⟩, m5⟩, m6⟩, m7⟩, m8⟩, hem⟩, hnm⟩, hrt⟩ := hpk
      have m5 := Nat.le_of_ble_eq_true m5
      have hwd : zwd z = .code (zname z) (zbyt z) (zmax z) none := by unfold zwd; rw [hem, hrt]; rfl
      rw [hmap, List.map_cons, List.reverse_cons, List.append_assoc]
      have hgi : GoodIn (lw_tbl.filter goodWord) (zwd z :: lw_tbl.filter goodWord) := zgoodIn fun w h9 => by
        rcases List.mem_cons.mp h9 with rfl | h9
        · exact zpw hp (by simp [zws]) (zwd_X z)
        · exact h9
      have hnest : va_Nw (.methodLinkNest (zcn (zcls y)) i (zname z) RX2) s := hK.2.2.2.1 _ ((zpool_ok hp).2 _ (by simp [zws])).1 rfl
      have hini := zgood hw (.initialized (zname z).cls) (by rw [m7]; exact zpw hp (by simp [zws]) rfl)
      exact zrunV hS hL hc hz hl1 hs1 (va_runIN (b := n0 + a) (As := As'.map (zw n0)) hfix (zplain hM (hmt rfl)) ⟨va_cnB (znar z - 1) (zgood hw) hgi (by rw [hwd]) rfl rfl hnest hini ⟨m2, m3, m4⟩ ⟨by omega, by show 8 + (zmax z + 11) + (29 * d + 88) ≤ _; omega⟩, hnm, zgood hw _ (zpw hp (by simp [zws]) rfl)⟩
        ⟨hblind, hpre⟩ rfl (by rw [List.length_map, ← o1]; rfl) hL.1 rfl (hroom _ rfl) hdg hcs) kret
    · simp at hz9
  | _ => simp [zcalls] at hz9
end ZCL
