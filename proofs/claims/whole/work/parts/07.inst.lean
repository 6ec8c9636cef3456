/-! one step of the small machine is a step of the machine -/
def zaty : Nat → FieldType
  | 0 => .int
  | 1 => .long
  | 2 => .boolean
  | _ => .object RX1
/-- what the tables say, in the words that stay true from call to call -/
def zK (D : va_G) (aC : Nat → ClassId) (U : State) : Prop :=
  (∀ ci, ci < 4 → u_Kn U (zcn ci) (zfd ci) (znf ci) (D.1 ci) (D.2 ci)) ∧
  (∀ t, t < 4 → U.vm.findClass ("[" ++ (zaty t).toString) = some (aC t) ∧ ∃ (k : Class) (comp : ClassId), U.vm.classes[aC t]? = some k ∧ k.kind = .array comp (zaty t) ∧ (t = 3 → comp = D.1 1)) ∧
  va_AO RX1 U ∧ (∀ w ∈ lw_tbl, zisX w = true → va_Nw w U) ∧ (∀ q ∈ zSt, ∃ a, vk_R (zcn q.1) q.2.1 q.2.2 a U) ∧
  (∀ e1 e2, e1 < 6 → e2 < 6 → e1 ≠ e2 → va_Nc (zen e1) (zen e2) U)
/-- what holds all along a method's walk -/
def zCx (sL : Nat) (sx : Nat → Int32) (b n0 : Nat) (D : va_G) (aC : Nat → ClassId) (p : Program) (R : Room) (s : State) (m : MethodId) (args : Array Value) (meth : Method) (c : Code) (y d : Nat) : Prop :=
  (p.tables.exec = Jvm.exec ∧ c.code = zbyt y ∧ meth.sig.returnType = zret y ∧ c.maxLocals = zmax y ∧ s.vm.findClass (zcn (zcls y)) = some m.cls) ∧
  (∀ w ∈ lw_tbl, goodWord w = true → w.before args s = true) ∧ c.exceptionTable.toList = tableOf (zhan y) ∧ meth.locks = false ∧ meth.name = (zname y).name ∧ (d ≤ R.frames ∧ 29 * d + 88 ≤ R.locals) ∧ zK D aC s ∧
  (vx_Zq Bundle.tN "UNASSIGNED_STACK" Bundle.steD (fun q => n0 ≤ q) s s.heap ∧ vx_Zq Bundle.tN "SUPPRESSED_SENTINEL" Bundle.listD (fun q => n0 ≤ q) s s.heap) ∧ (va_X b sL sx s s.heap ∧ b < n0) ∧ n0 ≤ s.heap.size
/-- from here the machine comes to Q: whatever heap and locals stand for these -/
def zGo (n0 : Nat) (ext : Nat → Nat) (D : va_G) (aC : Nat → ClassId) (p : Program) (l : Launch) (e : Env) (R : Room) (s : State) (m : MethodId) (args : Array Value) (below : List Frame) (meth : Method) (c : Code) (mx F1 F2 M1 M2 : Nat) (Q : State → Prop) (pc : Nat) (L S : List Value) (h : zH) : Prop :=
  ∀ (H : Heap) (locs : List Loc) (cells slots : Nat) (ls : Array Slot), zRep D aC n0 h H → va_S (fun q => n0 ≤ q) s.heap H locs → zLs n0 ext mx L ls → cells + F1 = M1 + h.length → slots + F2 = M2 + zsl h →
    W p l e R s m args below meth c H locs cells slots Q (F0 m pc ls (S.map (zv n0 ext)))
section ZI
variable {sL : Nat} {sx : Nat → Int32} {b n0 : Nat} {ext : Nat → Nat} {D : va_G} {aC : Nat → ClassId} {p : Program} {l : Launch} {e : Env} {R : Room} {s : State} {m : MethodId} {args : Array Value} {below : List Frame} {meth : Method} {c : Code} {y d F1 F2 M1 M2 : Nat} {Q : State → Prop}
theorem zlay_ok : ∀ ci, ci < 4 → ∀ w ∈ u_ws (zcn ci) (zfd ci) (znf ci), w ∈ lw_tbl.filter goodWord := by
  have h0 : ∀ w ∈ u_ws (zcn 0) (zfd 0) (znf 0), w ∈ lw_tbl.filter goodWord := by decide +kernel
  have h1 : ∀ w ∈ u_ws (zcn 1) (zfd 1) (znf 1), w ∈ lw_tbl.filter goodWord := by decide +kernel
  have h2 : ∀ w ∈ u_ws (zcn 2) (zfd 2) (znf 2), w ∈ lw_tbl.filter goodWord := by decide +kernel
  have h3 : ∀ w ∈ u_ws (zcn 3) (zfd 3) (znf 3), w ∈ lw_tbl.filter goodWord := by decide +kernel
  intro ci hci
  rcases (show ci = 0 ∨ ci = 1 ∨ ci = 2 ∨ ci = 3 by omega) with rfl | rfl | rfl | rfl
  · exact h0
  · exact h1
  · exact h2
  · exact h3
theorem zty_ok : ∀ ci, ci < 4 → ∀ k, k < znf ci → parseFieldDescriptor (zfd ci k).2.2.1 = some (zty ci k) := by
  intro ci hci
  rcases (show ci = 0 ∨ ci = 1 ∨ ci = 2 ∨ ci = 3 by omega) with rfl | rfl | rfl | rfl
  · exact tyX0_ok
  · exact tyX1_ok
  · exact tyX2_ok
  · exact tyX3_ok
theorem znm_ok : ∀ ci, ci < 4 → ∀ a, a < znf ci → ∀ b, b < znf ci → a ≠ b → (zfd ci a).2.1 ≠ (zfd ci b).2.1 := by
  intro ci hci
  rcases (show ci = 0 ∨ ci = 1 ∨ ci = 2 ∨ ci = 3 by omega) with rfl | rfl | rfl | rfl
  · exact nmX0
  · exact nmX1
  · exact nmX2
  · exact nmX3
theorem zgood (hw : ∀ w ∈ lw_tbl, goodWord w = true → w.before args s = true) : ∀ w ∈ lw_tbl.filter goodWord, w.before args s = true := fun w h => hw w (List.mem_filter.mp h).1 (List.mem_filter.mp h).2
theorem zdiff (hw : ∀ w ∈ lw_tbl, goodWord w = true → w.before args s = true) (hK : zK D aC s) {ci : Nat} (hci : ci < 4) : ∀ x y, x < znf ci → y < znf ci → x ≠ y → D.2 ci x ≠ D.2 ci y := by
  intro x y hx hy hne
  obtain ⟨hS, -⟩ := hK.1 ci hci
  obtain ⟨_, _, _, fa, hia, ea⟩ := hS x hx
  obtain ⟨_, _, _, fb, hib, eb⟩ := hS y hy
  rw [← ea, ← eb]
  refine u_apart (u_lays (zgood hw) (zlay_ok ci hci) hx) (u_lays (zgood hw) (zlay_ok ci hci) hy) hia hib ?_
  rw [(State.fieldFound?_type hia (zty_ok ci hci x hx)).1, (State.fieldFound?_type hib (zty_ok ci hci y hy)).1]
  exact znm_ok ci hci x hx y hy hne
variable {H : Heap} {locs : List Loc} {cells slots : Nat} {ls : Array Slot} {pc : Nat} {rest : List Value} {cc : ByteArray}
theorem zi_get (hx : p.tables.exec = Jvm.exec) (hb : c.code = cc) (hown : s.vm.findClass (zcn (zcls y)) = some m.cls) (hw : ∀ w ∈ lw_tbl, goodWord w = true → w.before args s = true) (hK : zK D aC s) {h : zH} (hR : zRep D aC n0 h H)
    {ci k i a : Nat} {q : Nat × List Value} {v : Value} (hci : ci < 4) (hk : k < znf ci) (hlink : (Cond.fieldLink (zcn (zcls y)) i (zfd ci k).1 (zfd ci k).2.1 (zfd ci k).2.2.1).before args s = true) (ha : h[a]? = some q) (ht : q.1 = 10 + ci) (hv : q.2[k]? = some v) (hdg : decode cc pc = .ok (.getfield i, 3))
    (kk : W p l e R s m args below meth c H locs cells slots Q (F0 m (pc + 3) ls (zw n0 v :: rest))) : W p l e R s m args below meth c H locs cells slots Q (F0 m pc ls (.ref (n0 + a) :: rest)) := by
  obtain ⟨cell, q1, q2, -, -, q4⟩ := hR.2 a q ha
  obtain ⟨q5, q6⟩ := q4 ci hci ht
  obtain ⟨hS, hfc, kC, hkC, hkind⟩ := hK.1 ci hci
  obtain ⟨cf, kf, fi, f, hi, hsl⟩ := hS k hk
  obtain ⟨v', e1, e2⟩ := q6 k hk
  cases hv.symm.trans e1
  exact W.getf hx hb hown hlink hi (u_facts hfc hkC (u_lays (zgood hw) (zlay_ok ci hci) hk) hi).1 q1 (by rw [q2]; exact fun h => by cases h) (v := zw n0 v) (by rw [hsl]; exact e2) rfl rfl hdg kk
theorem zcel_put (hw : ∀ w ∈ lw_tbl, goodWord w = true → w.before args s = true) (hK : zK D aC s) {ci k : Nat} {q : Nat × List Value} {v : Value} {cell : Cell} (hci : ci < 4) (hk : k < znf ci) (hc : zcel D aC n0 q cell) (ht : q.1 = 10 + ci) (hl : k < q.2.length) (hok : zok v = true) :
    zcel D aC n0 (q.1, q.2.set k v) (cell.setSlot (D.2 ci k) (zw n0 v)) := by
  obtain ⟨h1, h2, h3, h4⟩ := hc
  refine ⟨h1, fun w hw' => ?_, fun h => absurd h (by omega), fun cj hcj ht' => ?_⟩
  · rcases List.mem_or_eq_of_mem_set hw' with h | h
    · exact h2 w h
    · rw [h]; exact hok
  · have hcc : cj = ci := by simp only at ht'; omega
    subst hcc
    obtain ⟨h5, h6⟩ := h4 cj hcj ht
    refine ⟨h5, fun j hj => ?_⟩
    obtain ⟨vk, e1, e2⟩ := h6 k hk
    have hsz : D.2 cj k < cell.slots.size := (Array.getElem?_eq_some_iff.mp e2).1
    by_cases hjk : j = k
    · subst hjk
      exact ⟨v, by simp [hl], by simp [Cell.setSlot, hsz]⟩
    · obtain ⟨vj, f1, f2⟩ := h6 j hj
      refine ⟨vj, by rw [List.getElem?_set_ne (Ne.symm hjk)]; exact f1, ?_⟩
      have hd := zdiff hw hK hcj k j hk hj (Ne.symm hjk)
      simp only [Cell.setSlot]
      rw [Array.getElem?_setIfInBounds_ne hd]
      exact f2
theorem zi_put (hx : p.tables.exec = Jvm.exec) (hb : c.code = cc) (hown : s.vm.findClass (zcn (zcls y)) = some m.cls) (hw : ∀ w ∈ lw_tbl, goodWord w = true → w.before args s = true) (hK : zK D aC s) {h : zH} (hR : zRep D aC n0 h H) (hS0 : va_S (fun q => n0 ≤ q) s.heap H locs) (hname : meth.name = (zname y).name)
    {ci k i a : Nat} {q : Nat × List Value} {v : Value} (hci : ci < 4) (hk : k < znf ci) (hlink : (Cond.fieldLink (zcn (zcls y)) i (zfd ci k).1 (zfd ci k).2.1 (zfd ci k).2.2.1).before args s = true) (ha : h[a]? = some q) (ht : q.1 = 10 + ci) (hl : k < q.2.length) (hf : zfits (zty ci k) v = true)
    (hfin : (zfd ci k).2.2.2 = true → zcls y = ci ∧ (zname y).name = "<init>" ∧ (zfd ci k).1 = zcn ci) (hdg : decode cc pc = .ok (.putfield i, 3))
    (kk : ∀ (H1 : Heap) (locs1 : List Loc), zRep D aC n0 (h.set a (q.1, q.2.set k v)) H1 → va_S (fun q => n0 ≤ q) s.heap H1 locs1 → W p l e R s m args below meth c H1 locs1 cells slots Q (F0 m (pc + 3) ls rest)) : W p l e R s m args below meth c H locs cells slots Q (F0 m pc ls (zw n0 v :: .ref (n0 + a) :: rest)) := by
  obtain ⟨cell, q1, qc⟩ := hR.2 a q ha
  obtain ⟨q2, -, -, q4⟩ := id qc
  obtain ⟨q5, q6⟩ := q4 ci hci ht
  obtain ⟨hS, hfc, kC, hkC, hkind⟩ := hK.1 ci hci
  obtain ⟨cf, kf, fi, f, hi, hsl⟩ := hS k hk
  obtain ⟨v', e1, e2⟩ := q6 k hk
  obtain ⟨hok, hn, hft⟩ := zv_fits (n0 := n0) hf
  have hlay := zgood hw _ (zlay_ok ci hci _ (u_in_lay hk))
  have hst := (u_facts hfc hkC (u_lays (zgood hw) (zlay_ok ci hci) hk) hi).1
  have hd := zty_ok ci hci k hk
  have hlt : f.slot < cell.slots.size := by rw [hsl]; exact (Array.getElem?_eq_some_iff.mp e2).1
  have fin : ∀ (H' : Heap), H'[n0 + a]? = some (cell.setSlot f.slot (zw n0 v)) → H'.size = H.size → (∀ x, x ≠ n0 + a → H'[x]? = H[x]?) → W p l e R s m args below meth c H' (locs ++ [⟨n0 + a, f.slot⟩]) cells slots Q (F0 m (pc + 3) ls rest) := by
    intro H' e3 e4 e5
    refine kk H' _ (zRep_set hR ha e4 e5 e3 ?_) (hS0.put e4 e5 (Nat.le_add_right _ _))
    rw [hsl]
    exact zcel_put hw hK hci hk qc ht hl hok
  by_cases hF : (zfd ci k).2.2.2 = true
  · obtain ⟨g1, g2, g3⟩ := hfin hF
    unfold u_lay at hlay
    rw [if_pos hF] at hlay
    have hcf : m.cls = cf := by
      obtain ⟨_, _, c', _, _, _, -, -, hf', -, -, -, hown2, -⟩ := Cond.laysFinal_spec hlay
      have e1 : c' = cf := by have := hi.symm.trans hf'; simp at this; exact this.1.symm
      rw [g3, ← g1] at hown2
      rw [← e1]; exact Option.some.inj (hown.symm.trans hown2)
    have h6 := u_fits hfc hkC hkind (Or.inr hlay) hi hd hn hft
    exact W.putFinK hx hb hown hlink hi hst hcf (hname.trans g2) (by rw [q5]; exact h6) q1 q2 hlt rfl rfl hdg fin
  · unfold u_lay at hlay
    rw [if_neg hF] at hlay
    have h6 := u_store hfc hkC hkind hlay hi hd hn hft
    exact W.putK hx hb (f := f) ⟨hown, hlink, ⟨_, _, _, hi⟩, hst⟩ (by rw [q5]; exact h6) q1 q2 hlt rfl rfl hdg fin
end ZI
