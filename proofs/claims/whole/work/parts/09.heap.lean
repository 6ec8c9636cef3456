section ZP
variable {sL : Nat} {sx : Nat → Int32} {b n0 : Nat} {ext : Nat → Nat} {D : va_G} {aC : Nat → ClassId} {p : Program} {l : Launch} {e : Env} {R : Room} {s : State} {m : MethodId} {args : Array Value} {below : List Frame} {meth : Method} {c : Code} {y d F1 F2 M1 M2 : Nat} {Q : State → Prop}
variable {len pc pc' : Nat} {L L' S S' : List Value} {h h' : zH}
/-- a word of the pool's entry that is good -/
theorem zword (hw : ∀ w ∈ lw_tbl, goodWord w = true → w.before args s = true) {i : Nat} {r : Nat × Nat × Nat} (hp : zpool y i = some r) {w : Cond} (hin : w ∈ zws (zcls y) (i, r)) (hX : zisX w = false) : w.before args s = true := by
  obtain ⟨h1, h2⟩ := (zpool_ok hp).2 w hin
  rw [hX, Bool.or_false] at h2
  exact hw w h1 h2
theorem zs_getfield (hCx : zCx sL sx b n0 D aC p R s m args meth c y d) {i : Nat} (hh : zHere y pc len (.getfield i)) (hs : zsim sL sx y (.getfield i) len pc L S h = some ((pc', L', S'), h'))
    (k : zG n0 ext D aC p l e R s m args below meth c y F1 F2 M1 M2 Q pc' L' S' h') : zG n0 ext D aC p l e R s m args below meth c y F1 F2 M1 M2 Q pc L S h := by
  obtain ⟨⟨hx, hb, hr, hml, hown⟩, hw, -, -, -, -, hK, -⟩ := id hCx
  obtain ⟨hdg, haim, hlen⟩ := hh
  obtain rfl : len = 3 := zlen_of hlen
  intro H locs cells slots ls hR hS hL hc hz
  simp only [zsim] at hs
  split at hs
  · rename_i ci k9 hp
    obtain ⟨h1, -⟩ := zpool_ok hp
    simp only [zpk, Bool.and_eq_true] at h1
    have hci : ci < 4 := Nat.le_of_ble_eq_true h1.1.1
    have hk : k9 < znf ci := Nat.le_of_ble_eq_true h1.1.2
    have hl := zword hw hp (w := .fieldLink (zcn (zcls y)) i (zfd ci k9).1 (zfd ci k9).2.1 (zfd ci k9).2.2.1) (by simp [zws]) rfl
    split at hs
    · rename_i a r
      cases ha : h[a]? with
      | none => simp [ha] at hs
      | some q =>
        simp only [ha] at hs
        cases hb9 : Nat.beq q.1 (10 + ci) with
        | false => simp [hb9] at hs
        | true =>
          simp only [hb9, cond_true] at hs
          cases hv : q.2[k9]? with
          | none => simp [hv] at hs
          | some v =>
            simp only [hv, zpush] at hs
            obtain ⟨rfl, rfl, rfl, rfl⟩ := zsome hs
            obtain ⟨cell, -, -, hok, -⟩ := hR.2 a q ha
            have k8 := k H locs cells slots ls hR hS hL hc hz
            simp only [List.map_cons, zv_ok (hok v (List.mem_of_getElem? hv))] at k8
            exact zi_get hx hb hown hw hK hR hci hk hl ha (Nat.eq_of_beq_eq_true hb9) hv hdg k8
    · simp at hs
  · simp at hs
theorem zs_putfield (hCx : zCx sL sx b n0 D aC p R s m args meth c y d) {i : Nat} (hh : zHere y pc len (.putfield i)) (hs : zsim sL sx y (.putfield i) len pc L S h = some ((pc', L', S'), h'))
    (k : zG n0 ext D aC p l e R s m args below meth c y F1 F2 M1 M2 Q pc' L' S' h') : zG n0 ext D aC p l e R s m args below meth c y F1 F2 M1 M2 Q pc L S h := by
  obtain ⟨⟨hx, hb, hr, hml, hown⟩, hw, -, -, hname, -, hK, -⟩ := id hCx
  obtain ⟨hdg, haim, hlen⟩ := hh
  obtain rfl : len = 3 := zlen_of hlen
  intro H locs cells slots ls hR hS hL hc hz
  simp only [zsim] at hs
  split at hs
  · rename_i ci k9 hp
    obtain ⟨h1, -⟩ := zpool_ok hp
    simp only [zpk, Bool.and_eq_true, decide_eq_true_eq] at h1
    have hci : ci < 4 := Nat.le_of_ble_eq_true h1.1.1
    have hk : k9 < znf ci := Nat.le_of_ble_eq_true h1.1.2
    have hl := zword hw hp (w := .fieldLink (zcn (zcls y)) i (zfd ci k9).1 (zfd ci k9).2.1 (zfd ci k9).2.2.1) (by simp [zws]) rfl
    split at hs
    · rename_i v a r
      cases ha : h[a]? with
      | none => simp [ha] at hs
      | some q =>
        simp only [ha] at hs
        cases hb9 : (Nat.beq q.1 (10 + ci) && zfits (zty ci k9) v && Nat.blt k9 q.2.length && (!(zfd ci k9).2.2.2 || (Nat.beq (zcls y) ci && decide ((zname y).name = "<init>")))) with
        | false => simp [hb9] at hs
        | true =>
          simp only [hb9, cond_true] at hs
          obtain ⟨rfl, rfl, rfl, rfl⟩ := zsome hs
          simp only [Bool.and_eq_true, Bool.or_eq_true, Bool.not_eq_true', decide_eq_true_eq] at hb9
          obtain ⟨⟨⟨g1, g2⟩, g3⟩, g4⟩ := hb9
          have hlt : k9 < q.2.length := Nat.le_of_ble_eq_true g3
          have hzs : zsl (h.set a (q.1, q.2.set k9 v)) = zsl h := zsl_set ha (by simp)
          show W p l e R s m args below meth c H locs cells slots Q (F0 m pc ls (zv n0 ext v :: .ref (n0 + a) :: r.map (zv n0 ext)))
          rw [zv_ok (zv_fits (n0 := n0) g2).1]
          refine zi_put hx hb hown hw hK hR hS hname hci hk hl ha (Nat.eq_of_beq_eq_true g1) hlt g2 (fun hF => ?_) hdg (fun H1 locs1 hR1 hS1 => k H1 locs1 cells slots ls hR1 hS1 hL (by simpa using hc) (by rw [hzs]; exact hz))
          rcases g4 with g4 | g4
          · rw [g4] at hF; cases hF
          · exact ⟨Nat.eq_of_beq_eq_true g4.1, g4.2, h1.2⟩
    · simp at hs
  · simp at hs
theorem zaty_arr (hK : zK D aC s) {t : Nat} (ht : t < 4) {q : Nat × List Value} {cell : Cell} (hc : zcel D aC n0 q cell) (hq : q.1 = t) : s.isArrayOf cell (zaty t) ∧ cell.vm ≠ .unknown ∧ cell.slots = (q.2.map (zw n0)).toArray := by
  obtain ⟨h1, -, h3, -⟩ := hc
  obtain ⟨h4, h5⟩ := h3 (by omega)
  obtain ⟨-, kk, comp, h6, h7, -⟩ := hK.2.1 t ht
  refine ⟨⟨fun k hk => (by rw [h1] at hk; cases hk), kk, by rw [h4, hq]; exact h6, comp, h7⟩, fun hk => (by rw [h1] at hk; cases hk), h5⟩
/-- a place of a row -/
theorem zs_read (hCx : zCx sL sx b n0 D aC p R s m args meth c y d) {t : Nat} (ht : t < 4) {ins : Instr} (hdg : decode (zbyt y) pc = .ok (ins, 1))
    (row : ∀ {H : Heap} {locs : List Loc} {cells slots : Nat} {ls : Array Slot} {rest : List Value} {a : Addr} {cell : Cell} {j : Int32} {v : Value}, H[a]? = some cell → s.isArrayOf cell (zaty t) → cell.vm ≠ .unknown → ¬ (j < 0 ∨ cell.slots.size ≤ j.toNatClampNeg) → cell.slots[j.toNatClampNeg]? = some v →
      W p l e R s m args below meth c H locs cells slots Q (F0 m (pc + 1) ls (v :: rest)) → W p l e R s m args below meth c H locs cells slots Q (F0 m pc ls (.int j :: .ref a :: rest)))
    (hs : zrd (pc + 1) L S h t = some ((pc', L', S'), h'))
    (k : zG n0 ext D aC p l e R s m args below meth c y F1 F2 M1 M2 Q pc' L' S' h') : zG n0 ext D aC p l e R s m args below meth c y F1 F2 M1 M2 Q pc L S h := by
  obtain ⟨⟨hx, hb, hr, hml, hown⟩, hw, -, -, -, -, hK, -⟩ := id hCx
  intro H locs cells slots ls hR hS hL hc hz
  simp only [zrd] at hs
  split at hs
  · rename_i i a r
    cases ha : h[a]? with
    | none => simp [ha] at hs
    | some q =>
      simp only [ha] at hs
      cases hb9 : Nat.beq q.1 t with
      | false => simp [hb9] at hs
      | true =>
        simp only [hb9, cond_true] at hs
        by_cases hi : i < 0
        · simp [hi] at hs
        · rw [if_neg hi] at hs
          cases hv : q.2[i.toNatClampNeg]? with
          | none => simp [hv] at hs
          | some v =>
            simp only [hv, zpush] at hs
            obtain ⟨rfl, rfl, rfl, rfl⟩ := zsome hs
            obtain ⟨cell, hcell, hcel⟩ := hR.2 a q ha
            obtain ⟨g1, g2, g3⟩ := zaty_arr hK ht hcel (Nat.eq_of_beq_eq_true hb9)
            have hlt : i.toNatClampNeg < q.2.length := (List.getElem?_eq_some_iff.mp hv).1
            have k8 := k H locs cells slots ls hR hS hL hc hz
            simp only [List.map_cons, zv_ok (hcel.2.1 v (List.mem_of_getElem? hv))] at k8
            exact row hcell g1 g2 (fun q9 => q9.elim hi (fun q9 => by rw [g3] at q9; simp at q9; omega)) (by rw [g3]; simp [hv]) k8
  · simp at hs
theorem zs_iaload (hCx : zCx sL sx b n0 D aC p R s m args meth c y d) (hext : ext 1 = b) (hh : zHere y pc len (.iaload)) (hs : zsim sL sx y (.iaload) len pc L S h = some ((pc', L', S'), h'))
    (k : zG n0 ext D aC p l e R s m args below meth c y F1 F2 M1 M2 Q pc' L' S' h') : zG n0 ext D aC p l e R s m args below meth c y F1 F2 M1 M2 Q pc L S h := by
  obtain ⟨⟨hx, hb, hr, hml, hown⟩, hw, -, -, -, -, hK, -, ⟨hX, hbn⟩, hn0⟩ := id hCx
  obtain ⟨hdg, haim, hlen⟩ := hh
  obtain rfl : len = 1 := zlen_of hlen
  simp only [zsim] at hs
  split at hs
  · rename_i i r
    by_cases hi : i < 0
    · simp [hi] at hs
    · rw [if_neg hi] at hs
      by_cases hlt : i.toNatClampNeg < sL
      · rw [if_pos hlt] at hs
        simp only [zpush] at hs
        obtain ⟨rfl, rfl, rfl, rfl⟩ := zsome hs
        intro H locs cells slots ls hR hS hL hc hz
        show W p l e R s m args below meth c H locs cells slots Q (F0 m pc ls (.int i :: .ref (ext 1) :: r.map (zv n0 ext)))
        rw [hext]
        exact va_sld hx hb hX (Nat.lt_of_lt_of_le hbn hn0) (Nat.not_le.mpr hbn) hS (fun q => q.elim hi (fun q => by omega)) hdg (k H locs cells slots ls hR hS hL hc hz)
      · rw [if_neg hlt] at hs; simp at hs
  · exact zs_read hCx (t := 0) (by omega) hdg (fun h1 h2 h3 h4 h5 kk => W.iald hx hb h1 h2 h3 h4 h5 rfl rfl hdg kk) hs k
theorem zs_laload (hCx : zCx sL sx b n0 D aC p R s m args meth c y d) (hh : zHere y pc len (.laload)) (hs : zsim sL sx y (.laload) len pc L S h = some ((pc', L', S'), h'))
    (k : zG n0 ext D aC p l e R s m args below meth c y F1 F2 M1 M2 Q pc' L' S' h') : zG n0 ext D aC p l e R s m args below meth c y F1 F2 M1 M2 Q pc L S h := by
  obtain ⟨⟨hx, hb, hr, hml, hown⟩, hw, -⟩ := id hCx
  obtain ⟨hdg, haim, hlen⟩ := hh
  obtain rfl : len = 1 := zlen_of hlen
  simp only [zsim] at hs
  exact zs_read hCx (t := 1) (by omega) hdg (fun h1 h2 h3 h4 h5 kk => W.lald hx hb h1 h2 h3 h4 h5 rfl rfl hdg kk) hs k
theorem zs_baload (hCx : zCx sL sx b n0 D aC p R s m args meth c y d) (hh : zHere y pc len (.baload)) (hs : zsim sL sx y (.baload) len pc L S h = some ((pc', L', S'), h'))
    (k : zG n0 ext D aC p l e R s m args below meth c y F1 F2 M1 M2 Q pc' L' S' h') : zG n0 ext D aC p l e R s m args below meth c y F1 F2 M1 M2 Q pc L S h := by
  obtain ⟨⟨hx, hb, hr, hml, hown⟩, hw, -⟩ := id hCx
  obtain ⟨hdg, haim, hlen⟩ := hh
  obtain rfl : len = 1 := zlen_of hlen
  simp only [zsim] at hs
  exact zs_read hCx (t := 2) (by omega) hdg (fun h1 h2 h3 h4 h5 kk => W.zald hx hb h1 h2 h3 h4 h5 rfl rfl hdg kk) hs k
theorem zs_aaload (hCx : zCx sL sx b n0 D aC p R s m args meth c y d) (hh : zHere y pc len (.aaload)) (hs : zsim sL sx y (.aaload) len pc L S h = some ((pc', L', S'), h'))
    (k : zG n0 ext D aC p l e R s m args below meth c y F1 F2 M1 M2 Q pc' L' S' h') : zG n0 ext D aC p l e R s m args below meth c y F1 F2 M1 M2 Q pc L S h := by
  obtain ⟨⟨hx, hb, hr, hml, hown⟩, hw, -⟩ := id hCx
  obtain ⟨hdg, haim, hlen⟩ := hh
  obtain rfl : len = 1 := zlen_of hlen
  simp only [zsim] at hs
  exact zs_read hCx (t := 3) (by omega) hdg (fun h1 h2 h3 h4 h5 kk => W.aald hx hb h1 h2 rfl h3 h4 h5 rfl rfl hdg kk) hs k
theorem zs_arraylength (hCx : zCx sL sx b n0 D aC p R s m args meth c y d) (hext : ext 1 = b) (hh : zHere y pc len (.arraylength)) (hs : zsim sL sx y (.arraylength) len pc L S h = some ((pc', L', S'), h'))
    (k : zG n0 ext D aC p l e R s m args below meth c y F1 F2 M1 M2 Q pc' L' S' h') : zG n0 ext D aC p l e R s m args below meth c y F1 F2 M1 M2 Q pc L S h := by
  obtain ⟨⟨hx, hb, hr, hml, hown⟩, hw, -, -, -, -, hK, -, ⟨hX, hbn⟩, hn0⟩ := id hCx
  obtain ⟨hdg, haim, hlen⟩ := hh
  obtain rfl : len = 1 := zlen_of hlen
  simp only [zsim] at hs
  split at hs
  · rename_i r
    simp only [zpush] at hs
    obtain ⟨rfl, rfl, rfl, rfl⟩ := zsome hs
    intro H locs cells slots ls hR hS hL hc hz
    show W p l e R s m args below meth c H locs cells slots Q (F0 m pc ls (.ref (ext 1) :: r.map (zv n0 ext)))
    rw [hext]
    exact va_slen hx hb hX (Nat.lt_of_lt_of_le hbn hn0) (Nat.not_le.mpr hbn) hS hdg (k H locs cells slots ls hR hS hL hc hz)
  · simp at hs
/-- a place of a row is written -/
theorem zs_write (hCx : zCx sL sx b n0 D aC p R s m args meth c y d) {t : Nat} (ht : t < 4) {v : Value} (hv : zok v = true) {i : Int32} {a : Nat} {r : List Value}
    (row : ∀ {H : Heap} {locs : List Loc} {cells slots : Nat} {ls : Array Slot} {cell : Cell}, H[n0 + a]? = some cell → s.isArrayOf cell (zaty t) → cell.vm ≠ .unknown → cell.vm = .none → ¬ (i < 0 ∨ cell.slots.size ≤ i.toNatClampNeg) → cell.cls = aC t → zRep D aC n0 h H →
      (∀ H' : Heap, H'[n0 + a]? = some (cell.setSlot i.toNatClampNeg (zw n0 v)) → H'.size = H.size → (∀ q, q ≠ n0 + a → H'[q]? = H[q]?) → W p l e R s m args below meth c H' (locs ++ [⟨n0 + a, i.toNatClampNeg⟩]) cells slots Q (F0 m (pc + 1) ls (r.map (zv n0 ext)))) →
      W p l e R s m args below meth c H locs cells slots Q (F0 m pc ls (zw n0 v :: .int i :: .ref (n0 + a) :: r.map (zv n0 ext))))
    (hs : zwr (pc + 1) L h t v i a r = some ((pc', L', S'), h'))
    (k : zG n0 ext D aC p l e R s m args below meth c y F1 F2 M1 M2 Q pc' L' S' h') : zG n0 ext D aC p l e R s m args below meth c y F1 F2 M1 M2 Q pc L (v :: .int i :: .ref a :: r) h := by
  obtain ⟨⟨hx, hb, hr, hml, hown⟩, hw, -, -, -, -, hK, -⟩ := id hCx
  intro H locs cells slots ls hR hS hL hc hz
  simp only [zwr] at hs
  cases ha : h[a]? with
  | none => simp [ha] at hs
  | some q =>
    simp only [ha] at hs
    cases hb9 : Nat.beq q.1 t with
    | false => simp [hb9] at hs
    | true =>
      simp only [hb9, cond_true] at hs
      by_cases hi : i < 0
      · simp [hi] at hs
      · rw [if_neg hi] at hs
        by_cases hlt : i.toNatClampNeg < q.2.length
        · rw [if_pos hlt] at hs
          obtain ⟨rfl, rfl, rfl, rfl⟩ := zsome hs
          obtain ⟨cell, hcell, hcel⟩ := hR.2 a q ha
          have hqt := Nat.eq_of_beq_eq_true hb9
          obtain ⟨g1, g2, g3⟩ := zaty_arr hK ht hcel hqt
          have g4 := hcel.2.2.1 (by omega)
          have hzs : zsl (h.set a (q.1, q.2.set i.toNatClampNeg v)) = zsl h := zsl_set ha (by simp)
          show W p l e R s m args below meth c H locs cells slots Q (F0 m pc ls (zv n0 ext v :: .int i :: .ref (n0 + a) :: r.map (zv n0 ext)))
          rw [zv_ok hv]
          refine row hcell g1 g2 hcel.1 (fun q9 => q9.elim hi (fun q9 => by rw [g3] at q9; simp at q9; omega)) (by rw [← hqt]; exact g4.1) hR (fun H' e1 e2 e3 => ?_)
          refine k H' _ cells slots ls (zRep_set hR ha e2 e3 e1 ?_) (hS.put e2 e3 (Nat.le_add_right _ _)) hL (by simpa using hc) (by rw [hzs]; exact hz)
          refine ⟨hcel.1, fun w hw' => ?_, fun _ => ⟨g4.1, ?_⟩, fun ci hci h9 => absurd h9 (by simp only; omega)⟩
          · rcases List.mem_or_eq_of_mem_set hw' with h9 | h9
            · exact hcel.2.1 w h9
            · rw [h9]; exact hv
          · simp only [Cell.setSlot, g3, List.map_set]
            simp
        · rw [if_neg hlt] at hs; simp at hs
theorem zs_iastore (hCx : zCx sL sx b n0 D aC p R s m args meth c y d) (hh : zHere y pc len (.iastore)) (hs : zsim sL sx y (.iastore) len pc L S h = some ((pc', L', S'), h'))
    (k : zG n0 ext D aC p l e R s m args below meth c y F1 F2 M1 M2 Q pc' L' S' h') : zG n0 ext D aC p l e R s m args below meth c y F1 F2 M1 M2 Q pc L S h := by
  obtain ⟨⟨hx, hb, hr, hml, hown⟩, hw, -⟩ := id hCx
  obtain ⟨hdg, haim, hlen⟩ := hh
  obtain rfl : len = 1 := zlen_of hlen
  simp only [zsim] at hs
  split at hs
  · exact zs_write hCx (t := 0) (by omega) rfl (fun h1 h2 h3 h4 h5 h6 h7 kk => W.iast hx hb h1 h2 h3 h5 rfl rfl hdg kk) hs k
  · simp at hs
theorem zs_lastore (hCx : zCx sL sx b n0 D aC p R s m args meth c y d) (hh : zHere y pc len (.lastore)) (hs : zsim sL sx y (.lastore) len pc L S h = some ((pc', L', S'), h'))
    (k : zG n0 ext D aC p l e R s m args below meth c y F1 F2 M1 M2 Q pc' L' S' h') : zG n0 ext D aC p l e R s m args below meth c y F1 F2 M1 M2 Q pc L S h := by
  obtain ⟨⟨hx, hb, hr, hml, hown⟩, hw, -⟩ := id hCx
  obtain ⟨hdg, haim, hlen⟩ := hh
  obtain rfl : len = 1 := zlen_of hlen
  simp only [zsim] at hs
  split at hs
  · exact zs_write hCx (t := 1) (by omega) rfl (fun h1 h2 h3 h4 h5 h6 h7 kk => W.last hx hb h1 h2 h3 h5 rfl rfl hdg kk) hs k
  · simp at hs
theorem zs_bastore (hCx : zCx sL sx b n0 D aC p R s m args meth c y d) (hh : zHere y pc len (.bastore)) (hs : zsim sL sx y (.bastore) len pc L S h = some ((pc', L', S'), h'))
    (k : zG n0 ext D aC p l e R s m args below meth c y F1 F2 M1 M2 Q pc' L' S' h') : zG n0 ext D aC p l e R s m args below meth c y F1 F2 M1 M2 Q pc L S h := by
  obtain ⟨⟨hx, hb, hr, hml, hown⟩, hw, -⟩ := id hCx
  obtain ⟨hdg, haim, hlen⟩ := hh
  obtain rfl : len = 1 := zlen_of hlen
  simp only [zsim] at hs
  split at hs
  · rename_i v i a r
    by_cases hv : v = 0 ∨ v = 1
    · rw [if_pos hv] at hs
      have hn : narrow .boolean (.int v) = .int v := by rcases hv with rfl | rfl <;> rfl
      exact zs_write hCx (t := 2) (by omega) rfl (fun h1 h2 h3 h4 h5 h6 h7 kk => W.zast hx hb h1 h2 h3 h5 rfl rfl hdg (by rw [hn]; exact kk)) hs k
    · rw [if_neg hv] at hs; simp at hs
  · simp at hs
theorem zs_aastore (hCx : zCx sL sx b n0 D aC p R s m args meth c y d) (hh : zHere y pc len (.aastore)) (hs : zsim sL sx y (.aastore) len pc L S h = some ((pc', L', S'), h'))
    (k : zG n0 ext D aC p l e R s m args below meth c y F1 F2 M1 M2 Q pc' L' S' h') : zG n0 ext D aC p l e R s m args below meth c y F1 F2 M1 M2 Q pc L S h := by
  obtain ⟨⟨hx, hb, hr, hml, hown⟩, hw, -, -, -, -, hK, -⟩ := id hCx
  obtain ⟨hdg, haim, hlen⟩ := hh
  obtain rfl : len = 1 := zlen_of hlen
  simp only [zsim] at hs
  split at hs
  · rename_i v i a r
    cases hq : h[v]? with
    | none => simp [hq] at hs
    | some q =>
      simp only [hq] at hs
      cases hb9 : Nat.beq q.1 11 with
      | false => simp [hb9] at hs
      | true =>
        simp only [hb9, cond_true] at hs
        refine zs_write hCx (t := 3) (by omega) (v := .ref v) rfl (fun h1 h2 h3 h4 h5 h6 h7 kk => ?_) hs k
        obtain ⟨-, kA, comp, a1, a2, a3⟩ := hK.2.1 3 (by omega)
        have hcomp := a3 rfl
        subst hcomp
        obtain ⟨-, hfc, kC, hkC, hkind⟩ := hK.1 1 (by omega)
        obtain ⟨cv, hcv, hcel⟩ := h7.2 v q hq
        obtain ⟨c1, c2⟩ := hcel.2.2.2 1 (by omega) (Nat.eq_of_beq_eq_true hb9)
        exact W.aast hx hb h1 (fun q9 h9 => by rw [h4] at h9; cases h9) h3 (by rw [h6]; exact a1) a2 rfl hkC ⟨fun q9 => h5 (Or.inl q9), Nat.not_le.mp (fun q9 => h5 (Or.inr q9))⟩ hcv (fun q9 h9 => by rw [hcel.1] at h9; cases h9) (by rw [c1]; exact hkC) (by rw [c1]; exact va_assign ⟨hfc, kC, hkC, hkind⟩) rfl rfl hdg kk
  · simp at hs
theorem zs_tableswitch (hCx : zCx sL sx b n0 D aC p R s m args meth c y d) {df lo hi : Int} {offs : Array Int} (hh : zHere y pc len (.tableswitch df lo hi offs)) (hs : zsim sL sx y (.tableswitch df lo hi offs) len pc L S h = some ((pc', L', S'), h'))
    (k : zG n0 ext D aC p l e R s m args below meth c y F1 F2 M1 M2 Q pc' L' S' h') : zG n0 ext D aC p l e R s m args below meth c y F1 F2 M1 M2 Q pc L S h := by
  obtain ⟨⟨hx, hb, hr, hml, hown⟩, hw, -⟩ := id hCx
  obtain ⟨hdg, haim, hlen⟩ := hh
  simp only [zaim, Bool.and_eq_true] at haim
  simp only [zsim] at hs
  split at hs
  · rename_i v r
    simp only [zsw] at hs
    intro H locs cells slots ls hR hS hL hc hz
    by_cases hv : v.toInt < lo ∨ hi < v.toInt
    · simp only [if_pos hv] at hs
      obtain ⟨rfl, rfl, rfl, rfl⟩ := zsome hs
      exact lv_tableOut hx hb hdg hv (ztop haim.1) (k H locs cells slots ls hR hS hL hc hz)
    · simp only [if_neg hv] at hs
      cases ho : offs[(v.toInt - lo).toNat]? with
      | none => simp [ho] at hs
      | some off =>
        simp only [ho, Option.map_some] at hs
        obtain ⟨rfl, rfl, rfl, rfl⟩ := zsome hs
        have h0 := List.all_eq_true.mp haim.2 off (by rw [← Array.getElem?_toList] at ho; exact List.mem_of_getElem? ho)
        exact lv_tableIn hx hb hdg (fun q => hv (Or.inl q)) (fun q => hv (Or.inr q)) ho (ztop h0) (k H locs cells slots ls hR hS hL hc hz)
  · simp at hs
end ZP
