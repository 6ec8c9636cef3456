section ZS
variable {sL : Nat} {sx : Nat → Int32} {b n0 : Nat} {ext : Nat → Nat} {D : va_G} {aC : Nat → ClassId} {p : Program} {l : Launch} {e : Env} {R : Room} {s : State} {m : MethodId} {args : Array Value} {below : List Frame} {meth : Method} {c : Code} {y d F1 F2 M1 M2 : Nat} {Q : State → Prop}
variable {len pc pc' : Nat} {L L' S S' : List Value} {h h' : zH}
theorem zlen_of {len k : Nat} (h : (match (some k : Option Nat) with | some k => Nat.beq k len | none => true) = true) : len = k := (Nat.eq_of_beq_eq_true h).symm
/-- what a step asks of its place in the code -/
def zHere (y pc len : Nat) (ins : Instr) : Prop := decode (zbyt y) pc = .ok (ins, len) ∧ zaim pc ins = true ∧ (match zlen ins with | some k => Nat.beq k len | none => true) = true
theorem ztop {pc : Nat} {off : Int} (h0 : decide (0 ≤ (pc : Int) + off) = true) : (pc : Int) + off = ((zto pc off : Nat) : Int) := by
  rw [zto, Int.toNat_of_nonneg (of_decide_eq_true h0)]
theorem zsome {a a' : Nat} {x x' z z' : List Value} {g g' : zH} (h : (some ((a, x, z), g) : Option (zC × zH)) = some ((a', x', z'), g')) : a = a' ∧ x = x' ∧ z = z' ∧ g = g' := by
  simp only [Option.some.injEq, Prod.mk.injEq] at h
  exact ⟨h.1.1, h.1.2.1, h.1.2.2, h.2⟩
abbrev zG (n0 : Nat) (ext : Nat → Nat) (D : va_G) (aC : Nat → ClassId) (p : Program) (l : Launch) (e : Env) (R : Room) (s : State) (m : MethodId) (args : Array Value) (below : List Frame) (meth : Method) (c : Code) (y F1 F2 M1 M2 : Nat) (Q : State → Prop) (pc : Nat) (L S : List Value) (h : zH) : Prop := zGo n0 ext D aC p l e R s m args below meth c (zmax y) F1 F2 M1 M2 Q pc L S h
theorem zs_iconst (hCx : zCx sL sx b n0 D aC p R s m args meth c y d) {n : Int} (hh : zHere y pc len (.iconst n)) (hs : zsim sL sx y (.iconst n) len pc L S h = some ((pc', L', S'), h'))
    (k : zG n0 ext D aC p l e R s m args below meth c y F1 F2 M1 M2 Q pc' L' S' h') : zG n0 ext D aC p l e R s m args below meth c y F1 F2 M1 M2 Q pc L S h := by
  obtain ⟨⟨hx, hb, hr, hml, hown⟩, hw, -⟩ := id hCx
  obtain ⟨hdg, haim, hlen⟩ := hh
  obtain rfl : len = 1 := zlen_of hlen
  intro H locs cells slots ls hR hS hL hc hz
  simp only [zsim, zpush] at hs
  obtain ⟨rfl, rfl, rfl, rfl⟩ := zsome hs
  exact lv_iconst hx hb hdg rfl (k H locs cells slots ls hR hS hL hc hz)
theorem zs_bipush (hCx : zCx sL sx b n0 D aC p R s m args meth c y d) {n : Int} (hh : zHere y pc len (.bipush n)) (hs : zsim sL sx y (.bipush n) len pc L S h = some ((pc', L', S'), h'))
    (k : zG n0 ext D aC p l e R s m args below meth c y F1 F2 M1 M2 Q pc' L' S' h') : zG n0 ext D aC p l e R s m args below meth c y F1 F2 M1 M2 Q pc L S h := by
  obtain ⟨⟨hx, hb, hr, hml, hown⟩, hw, -⟩ := id hCx
  obtain ⟨hdg, haim, hlen⟩ := hh
  obtain rfl : len = 2 := zlen_of hlen
  intro H locs cells slots ls hR hS hL hc hz
  simp only [zsim, zpush] at hs
  obtain ⟨rfl, rfl, rfl, rfl⟩ := zsome hs
  exact lv_bipush hx hb hdg rfl (k H locs cells slots ls hR hS hL hc hz)
theorem zs_sipush (hCx : zCx sL sx b n0 D aC p R s m args meth c y d) {n : Int} (hh : zHere y pc len (.sipush n)) (hs : zsim sL sx y (.sipush n) len pc L S h = some ((pc', L', S'), h'))
    (k : zG n0 ext D aC p l e R s m args below meth c y F1 F2 M1 M2 Q pc' L' S' h') : zG n0 ext D aC p l e R s m args below meth c y F1 F2 M1 M2 Q pc L S h := by
  obtain ⟨⟨hx, hb, hr, hml, hown⟩, hw, -⟩ := id hCx
  obtain ⟨hdg, haim, hlen⟩ := hh
  obtain rfl : len = 3 := zlen_of hlen
  intro H locs cells slots ls hR hS hL hc hz
  simp only [zsim, zpush] at hs
  obtain ⟨rfl, rfl, rfl, rfl⟩ := zsome hs
  exact lv_sipush hx hb hdg rfl (k H locs cells slots ls hR hS hL hc hz)
theorem zs_lconst (hCx : zCx sL sx b n0 D aC p R s m args meth c y d) {n : Fin 2} (hh : zHere y pc len (.lconst n)) (hs : zsim sL sx y (.lconst n) len pc L S h = some ((pc', L', S'), h'))
    (k : zG n0 ext D aC p l e R s m args below meth c y F1 F2 M1 M2 Q pc' L' S' h') : zG n0 ext D aC p l e R s m args below meth c y F1 F2 M1 M2 Q pc L S h := by
  obtain ⟨⟨hx, hb, hr, hml, hown⟩, hw, -⟩ := id hCx
  obtain ⟨hdg, haim, hlen⟩ := hh
  obtain rfl : len = 1 := zlen_of hlen
  intro H locs cells slots ls hR hS hL hc hz
  simp only [zsim, zpush] at hs
  obtain ⟨rfl, rfl, rfl, rfl⟩ := zsome hs
  exact lv_lconst hx hb hdg rfl (k H locs cells slots ls hR hS hL hc hz)
theorem zs_null (hCx : zCx sL sx b n0 D aC p R s m args meth c y d)  (hh : zHere y pc len (.aconst_null)) (hs : zsim sL sx y (.aconst_null) len pc L S h = some ((pc', L', S'), h'))
    (k : zG n0 ext D aC p l e R s m args below meth c y F1 F2 M1 M2 Q pc' L' S' h') : zG n0 ext D aC p l e R s m args below meth c y F1 F2 M1 M2 Q pc L S h := by
  obtain ⟨⟨hx, hb, hr, hml, hown⟩, hw, -⟩ := id hCx
  obtain ⟨hdg, haim, hlen⟩ := hh
  obtain rfl : len = 1 := zlen_of hlen
  intro H locs cells slots ls hR hS hL hc hz
  simp only [zsim, zpush] at hs
  obtain ⟨rfl, rfl, rfl, rfl⟩ := zsome hs
  exact lv_null hx hb hdg (k H locs cells slots ls hR hS hL hc hz)
theorem zs_ldc (hCx : zCx sL sx b n0 D aC p R s m args meth c y d) {i : Nat} (hh : zHere y pc len (.ldc i)) (hs : zsim sL sx y (.ldc i) len pc L S h = some ((pc', L', S'), h'))
    (k : zG n0 ext D aC p l e R s m args below meth c y F1 F2 M1 M2 Q pc' L' S' h') : zG n0 ext D aC p l e R s m args below meth c y F1 F2 M1 M2 Q pc L S h := by
  obtain ⟨⟨hx, hb, hr, hml, hown⟩, hw, -⟩ := id hCx
  obtain ⟨hdg, haim, hlen⟩ := hh
  obtain rfl : len = 2 := zlen_of hlen
  intro H locs cells slots ls hR hS hL hc hz
  simp only [zsim] at hs
  cases hk : zki zKI (zcls y) i with
  | none => simp [hk] at hs
  | some v =>
    simp only [hk, zpush] at hs
    obtain ⟨rfl, rfl, rfl, rfl⟩ := zsome hs
    obtain ⟨w1, w2⟩ := zki_ok _ (zki_in hk)
    exact lv_ldc hx hb hown (hw _ w1 w2) hdg (k H locs cells slots ls hR hS hL hc hz)
theorem zs_ldc2 (hCx : zCx sL sx b n0 D aC p R s m args meth c y d) {i : Nat} (hh : zHere y pc len (.ldc2_w i)) (hs : zsim sL sx y (.ldc2_w i) len pc L S h = some ((pc', L', S'), h'))
    (k : zG n0 ext D aC p l e R s m args below meth c y F1 F2 M1 M2 Q pc' L' S' h') : zG n0 ext D aC p l e R s m args below meth c y F1 F2 M1 M2 Q pc L S h := by
  obtain ⟨⟨hx, hb, hr, hml, hown⟩, hw, -⟩ := id hCx
  obtain ⟨hdg, haim, hlen⟩ := hh
  obtain rfl : len = 3 := zlen_of hlen
  intro H locs cells slots ls hR hS hL hc hz
  simp only [zsim] at hs
  cases hk : zkl zKL (zcls y) i with
  | none => simp [hk] at hs
  | some v =>
    simp only [hk, zpush] at hs
    obtain ⟨rfl, rfl, rfl, rfl⟩ := zsome hs
    obtain ⟨w1, w2⟩ := zkl_ok _ (zkl_in hk)
    exact lv_ldc2 hx hb hown (hw _ w1 w2) hdg (k H locs cells slots ls hR hS hL hc hz)
theorem zs_iload (hCx : zCx sL sx b n0 D aC p R s m args meth c y d) {i : Nat} (hh : zHere y pc len (.iload i)) (hs : zsim sL sx y (.iload i) len pc L S h = some ((pc', L', S'), h'))
    (k : zG n0 ext D aC p l e R s m args below meth c y F1 F2 M1 M2 Q pc' L' S' h') : zG n0 ext D aC p l e R s m args below meth c y F1 F2 M1 M2 Q pc L S h := by
  obtain ⟨⟨hx, hb, hr, hml, hown⟩, hw, -⟩ := id hCx
  obtain ⟨hdg, haim, hlen⟩ := hh
  obtain rfl : len = 2 := zlen_of hlen
  intro H locs cells slots ls hR hS hL hc hz
  simp only [zsim, zldi] at hs
  cases hg : zg L i with
  | int v =>
    simp only [hg, zpush] at hs
    obtain ⟨rfl, rfl, rfl, rfl⟩ := zsome hs
    exact lv_iload hx hb hdg (zLs_at hL hg (by simp)) (k H locs cells slots ls hR hS hL hc hz)
  | _ => simp [hg] at hs
theorem zs_iload_n (hCx : zCx sL sx b n0 D aC p R s m args meth c y d) {i : Fin 4} (hh : zHere y pc len (.iload_n i)) (hs : zsim sL sx y (.iload_n i) len pc L S h = some ((pc', L', S'), h'))
    (k : zG n0 ext D aC p l e R s m args below meth c y F1 F2 M1 M2 Q pc' L' S' h') : zG n0 ext D aC p l e R s m args below meth c y F1 F2 M1 M2 Q pc L S h := by
  obtain ⟨⟨hx, hb, hr, hml, hown⟩, hw, -⟩ := id hCx
  obtain ⟨hdg, haim, hlen⟩ := hh
  obtain rfl : len = 1 := zlen_of hlen
  intro H locs cells slots ls hR hS hL hc hz
  simp only [zsim, zldi] at hs
  cases hg : zg L i with
  | int v =>
    simp only [hg, zpush] at hs
    obtain ⟨rfl, rfl, rfl, rfl⟩ := zsome hs
    exact lv_iload_n hx hb hdg rfl (zLs_at hL hg (by simp)) (k H locs cells slots ls hR hS hL hc hz)
  | _ => simp [hg] at hs
theorem zs_lload (hCx : zCx sL sx b n0 D aC p R s m args meth c y d) {i : Nat} (hh : zHere y pc len (.lload i)) (hs : zsim sL sx y (.lload i) len pc L S h = some ((pc', L', S'), h'))
    (k : zG n0 ext D aC p l e R s m args below meth c y F1 F2 M1 M2 Q pc' L' S' h') : zG n0 ext D aC p l e R s m args below meth c y F1 F2 M1 M2 Q pc L S h := by
  obtain ⟨⟨hx, hb, hr, hml, hown⟩, hw, -⟩ := id hCx
  obtain ⟨hdg, haim, hlen⟩ := hh
  obtain rfl : len = 2 := zlen_of hlen
  intro H locs cells slots ls hR hS hL hc hz
  simp only [zsim, zldl] at hs
  cases hg : zg L i with
  | long v =>
    simp only [hg, zpush] at hs
    obtain ⟨rfl, rfl, rfl, rfl⟩ := zsome hs
    exact lv_lload hx hb hdg (zLs_at hL hg (by simp)) (k H locs cells slots ls hR hS hL hc hz)
  | _ => simp [hg] at hs
theorem zs_lload_n (hCx : zCx sL sx b n0 D aC p R s m args meth c y d) {i : Fin 4} (hh : zHere y pc len (.lload_n i)) (hs : zsim sL sx y (.lload_n i) len pc L S h = some ((pc', L', S'), h'))
    (k : zG n0 ext D aC p l e R s m args below meth c y F1 F2 M1 M2 Q pc' L' S' h') : zG n0 ext D aC p l e R s m args below meth c y F1 F2 M1 M2 Q pc L S h := by
  obtain ⟨⟨hx, hb, hr, hml, hown⟩, hw, -⟩ := id hCx
  obtain ⟨hdg, haim, hlen⟩ := hh
  obtain rfl : len = 1 := zlen_of hlen
  intro H locs cells slots ls hR hS hL hc hz
  simp only [zsim, zldl] at hs
  cases hg : zg L i with
  | long v =>
    simp only [hg, zpush] at hs
    obtain ⟨rfl, rfl, rfl, rfl⟩ := zsome hs
    exact lv_lload_n hx hb hdg rfl (zLs_at hL hg (by simp)) (k H locs cells slots ls hR hS hL hc hz)
  | _ => simp [hg] at hs
theorem zs_aload (hCx : zCx sL sx b n0 D aC p R s m args meth c y d) {i : Nat} (hh : zHere y pc len (.aload i)) (hs : zsim sL sx y (.aload i) len pc L S h = some ((pc', L', S'), h'))
    (k : zG n0 ext D aC p l e R s m args below meth c y F1 F2 M1 M2 Q pc' L' S' h') : zG n0 ext D aC p l e R s m args below meth c y F1 F2 M1 M2 Q pc L S h := by
  obtain ⟨⟨hx, hb, hr, hml, hown⟩, hw, -⟩ := id hCx
  obtain ⟨hdg, haim, hlen⟩ := hh
  obtain rfl : len = 2 := zlen_of hlen
  intro H locs cells slots ls hR hS hL hc hz
  simp only [zsim, zlda] at hs
  cases hg : zg L i with
  | ref v =>
    simp only [hg, zpush] at hs
    obtain ⟨rfl, rfl, rfl, rfl⟩ := zsome hs
    exact lv_aload hx hb hdg (zLs_at hL hg (by simp)) (k H locs cells slots ls hR hS hL hc hz)
  | null =>
    simp only [hg, zpush] at hs
    obtain ⟨rfl, rfl, rfl, rfl⟩ := zsome hs
    exact lv_aloadN hx hb hdg (zLs_at hL hg (by simp)) (k H locs cells slots ls hR hS hL hc hz)
  | retAddr j =>
    cases j with
    | zero => simp [hg] at hs
    | succ j =>
      simp only [hg, zpush] at hs
      obtain ⟨rfl, rfl, rfl, rfl⟩ := zsome hs
      exact lv_aload hx hb hdg (zLs_at hL hg (by simp)) (k H locs cells slots ls hR hS hL hc hz)
  | _ => simp [hg] at hs
theorem zs_aload_n (hCx : zCx sL sx b n0 D aC p R s m args meth c y d) {i : Fin 4} (hh : zHere y pc len (.aload_n i)) (hs : zsim sL sx y (.aload_n i) len pc L S h = some ((pc', L', S'), h'))
    (k : zG n0 ext D aC p l e R s m args below meth c y F1 F2 M1 M2 Q pc' L' S' h') : zG n0 ext D aC p l e R s m args below meth c y F1 F2 M1 M2 Q pc L S h := by
  obtain ⟨⟨hx, hb, hr, hml, hown⟩, hw, -⟩ := id hCx
  obtain ⟨hdg, haim, hlen⟩ := hh
  obtain rfl : len = 1 := zlen_of hlen
  intro H locs cells slots ls hR hS hL hc hz
  simp only [zsim, zlda] at hs
  cases hg : zg L i with
  | ref v =>
    simp only [hg, zpush] at hs
    obtain ⟨rfl, rfl, rfl, rfl⟩ := zsome hs
    exact lv_aload_n hx hb hdg rfl (zLs_at hL hg (by simp)) (k H locs cells slots ls hR hS hL hc hz)
  | null =>
    simp only [hg, zpush] at hs
    obtain ⟨rfl, rfl, rfl, rfl⟩ := zsome hs
    exact lv_aload_nN hx hb hdg rfl (zLs_at hL hg (by simp)) (k H locs cells slots ls hR hS hL hc hz)
  | retAddr j =>
    cases j with
    | zero => simp [hg] at hs
    | succ j =>
      simp only [hg, zpush] at hs
      obtain ⟨rfl, rfl, rfl, rfl⟩ := zsome hs
      exact lv_aload_n hx hb hdg rfl (zLs_at hL hg (by simp)) (k H locs cells slots ls hR hS hL hc hz)
  | _ => simp [hg] at hs
theorem zs_istore (hCx : zCx sL sx b n0 D aC p R s m args meth c y d) {i : Nat} (hh : zHere y pc len (.istore i)) (hs : zsim sL sx y (.istore i) len pc L S h = some ((pc', L', S'), h'))
    (k : zG n0 ext D aC p l e R s m args below meth c y F1 F2 M1 M2 Q pc' L' S' h') : zG n0 ext D aC p l e R s m args below meth c y F1 F2 M1 M2 Q pc L S h := by
  obtain ⟨⟨hx, hb, hr, hml, hown⟩, hw, -⟩ := id hCx
  obtain ⟨hdg, haim, hlen⟩ := hh
  obtain rfl : len = 2 := zlen_of hlen
  intro H locs cells slots ls hR hS hL hc hz
  simp only [zsim, zsti] at hs
  cases S with
  | nil => simp at hs
  | cons v0 r =>
    cases v0 with
    | int v =>
      simp only [] at hs
      cases hn0 : Nat.blt i L.length with
      | false => simp [hn0] at hs
      | true =>
        simp only [hn0, cond_true] at hs
        obtain ⟨rfl, rfl, rfl, rfl⟩ := zsome hs
        have hn : i < zmax y := by rw [← hL.2.1]; exact Nat.le_of_ble_eq_true hn0
        exact lv_istore hx hb hdg (zLs_has hL) hn rfl (fun ls' h' => k H locs cells slots ls' hR hS (zLs_set1 hL hn h') hc hz)
    | _ => simp at hs
theorem zs_istore_n (hCx : zCx sL sx b n0 D aC p R s m args meth c y d) {i : Fin 4} (hh : zHere y pc len (.istore_n i)) (hs : zsim sL sx y (.istore_n i) len pc L S h = some ((pc', L', S'), h'))
    (k : zG n0 ext D aC p l e R s m args below meth c y F1 F2 M1 M2 Q pc' L' S' h') : zG n0 ext D aC p l e R s m args below meth c y F1 F2 M1 M2 Q pc L S h := by
  obtain ⟨⟨hx, hb, hr, hml, hown⟩, hw, -⟩ := id hCx
  obtain ⟨hdg, haim, hlen⟩ := hh
  obtain rfl : len = 1 := zlen_of hlen
  intro H locs cells slots ls hR hS hL hc hz
  simp only [zsim, zsti] at hs
  cases S with
  | nil => simp at hs
  | cons v0 r =>
    cases v0 with
    | int v =>
      simp only [] at hs
      cases hn0 : Nat.blt (i : Nat) L.length with
      | false => simp [hn0] at hs
      | true =>
        simp only [hn0, cond_true] at hs
        obtain ⟨rfl, rfl, rfl, rfl⟩ := zsome hs
        have hn : (i : Nat) < zmax y := by rw [← hL.2.1]; exact Nat.le_of_ble_eq_true hn0
        exact lv_istore_n hx hb hdg rfl (zLs_has hL) hn rfl (fun ls' h' => k H locs cells slots ls' hR hS (zLs_set1 hL hn h') hc hz)
    | _ => simp at hs
theorem zs_lstore (hCx : zCx sL sx b n0 D aC p R s m args meth c y d) {i : Nat} (hh : zHere y pc len (.lstore i)) (hs : zsim sL sx y (.lstore i) len pc L S h = some ((pc', L', S'), h'))
    (k : zG n0 ext D aC p l e R s m args below meth c y F1 F2 M1 M2 Q pc' L' S' h') : zG n0 ext D aC p l e R s m args below meth c y F1 F2 M1 M2 Q pc L S h := by
  obtain ⟨⟨hx, hb, hr, hml, hown⟩, hw, -⟩ := id hCx
  obtain ⟨hdg, haim, hlen⟩ := hh
  obtain rfl : len = 2 := zlen_of hlen
  intro H locs cells slots ls hR hS hL hc hz
  simp only [zsim, zstl] at hs
  cases S with
  | nil => simp at hs
  | cons v0 r =>
    cases v0 with
    | long v =>
      simp only [] at hs
      cases hn0 : Nat.blt (i + 1) L.length with
      | false => simp [hn0] at hs
      | true =>
        simp only [hn0, cond_true] at hs
        obtain ⟨rfl, rfl, rfl, rfl⟩ := zsome hs
        have hn : (i + 1) < zmax y := by rw [← hL.2.1]; exact Nat.le_of_ble_eq_true hn0
        exact lv_lstore hx hb hdg (zLs_has hL) hn rfl (fun ls' h' => k H locs cells slots ls' hR hS (zLs_set2 hL hn h') hc hz)
    | _ => simp at hs
theorem zs_lstore_n (hCx : zCx sL sx b n0 D aC p R s m args meth c y d) {i : Fin 4} (hh : zHere y pc len (.lstore_n i)) (hs : zsim sL sx y (.lstore_n i) len pc L S h = some ((pc', L', S'), h'))
    (k : zG n0 ext D aC p l e R s m args below meth c y F1 F2 M1 M2 Q pc' L' S' h') : zG n0 ext D aC p l e R s m args below meth c y F1 F2 M1 M2 Q pc L S h := by
  obtain ⟨⟨hx, hb, hr, hml, hown⟩, hw, -⟩ := id hCx
  obtain ⟨hdg, haim, hlen⟩ := hh
  obtain rfl : len = 1 := zlen_of hlen
  intro H locs cells slots ls hR hS hL hc hz
  simp only [zsim, zstl] at hs
  cases S with
  | nil => simp at hs
  | cons v0 r =>
    cases v0 with
    | long v =>
      simp only [] at hs
      cases hn0 : Nat.blt ((i : Nat) + 1) L.length with
      | false => simp [hn0] at hs
      | true =>
        simp only [hn0, cond_true] at hs
        obtain ⟨rfl, rfl, rfl, rfl⟩ := zsome hs
        have hn : ((i : Nat) + 1) < zmax y := by rw [← hL.2.1]; exact Nat.le_of_ble_eq_true hn0
        exact lv_lstore_n hx hb hdg rfl (zLs_has hL) hn rfl (fun ls' h' => k H locs cells slots ls' hR hS (zLs_set2 hL hn h') hc hz)
    | _ => simp at hs
theorem zs_astore (hCx : zCx sL sx b n0 D aC p R s m args meth c y d) {i : Nat} (hh : zHere y pc len (.astore i)) (hs : zsim sL sx y (.astore i) len pc L S h = some ((pc', L', S'), h'))
    (k : zG n0 ext D aC p l e R s m args below meth c y F1 F2 M1 M2 Q pc' L' S' h') : zG n0 ext D aC p l e R s m args below meth c y F1 F2 M1 M2 Q pc L S h := by
  obtain ⟨⟨hx, hb, hr, hml, hown⟩, hw, -⟩ := id hCx
  obtain ⟨hdg, haim, hlen⟩ := hh
  obtain rfl : len = 2 := zlen_of hlen
  intro H locs cells slots ls hR hS hL hc hz
  simp only [zsim, zsta] at hs
  cases S with
  | nil => simp at hs
  | cons v0 r =>
    cases v0 with
    | ref v =>
      simp only [] at hs
      cases hn0 : Nat.blt i L.length with
      | false => simp [hn0] at hs
      | true =>
        simp only [hn0, cond_true] at hs
        obtain ⟨rfl, rfl, rfl, rfl⟩ := zsome hs
        have hn : i < zmax y := by rw [← hL.2.1]; exact Nat.le_of_ble_eq_true hn0
        exact lv_astore hx hb hdg (zLs_has hL) hn rfl (fun ls' h' => k H locs cells slots ls' hR hS (zLs_set1 hL hn h') hc hz)
    | null =>
      simp only [] at hs
      cases hn0 : Nat.blt i L.length with
      | false => simp [hn0] at hs
      | true =>
        simp only [hn0, cond_true] at hs
        obtain ⟨rfl, rfl, rfl, rfl⟩ := zsome hs
        have hn : i < zmax y := by rw [← hL.2.1]; exact Nat.le_of_ble_eq_true hn0
        exact lv_astoreN hx hb hdg (zLs_has hL) hn rfl (fun ls' h' => k H locs cells slots ls' hR hS (zLs_set1 hL hn h') hc hz)
    | retAddr j =>
      cases j with
      | zero => simp at hs
      | succ j =>
        simp only [] at hs
        cases hn0 : Nat.blt i L.length with
        | false => simp [hn0] at hs
        | true =>
          simp only [hn0, cond_true] at hs
          obtain ⟨rfl, rfl, rfl, rfl⟩ := zsome hs
          have hn : i < zmax y := by rw [← hL.2.1]; exact Nat.le_of_ble_eq_true hn0
          exact lv_astore hx hb hdg (x := ext (j + 1)) (zLs_has hL) hn rfl (fun ls' h' => k H locs cells slots ls' hR hS (zLs_set1 hL hn h') hc hz)
    | _ => simp at hs
theorem zs_astore_n (hCx : zCx sL sx b n0 D aC p R s m args meth c y d) {i : Fin 4} (hh : zHere y pc len (.astore_n i)) (hs : zsim sL sx y (.astore_n i) len pc L S h = some ((pc', L', S'), h'))
    (k : zG n0 ext D aC p l e R s m args below meth c y F1 F2 M1 M2 Q pc' L' S' h') : zG n0 ext D aC p l e R s m args below meth c y F1 F2 M1 M2 Q pc L S h := by
  obtain ⟨⟨hx, hb, hr, hml, hown⟩, hw, -⟩ := id hCx
  obtain ⟨hdg, haim, hlen⟩ := hh
  obtain rfl : len = 1 := zlen_of hlen
  intro H locs cells slots ls hR hS hL hc hz
  simp only [zsim, zsta] at hs
  cases S with
  | nil => simp at hs
  | cons v0 r =>
    cases v0 with
    | ref v =>
      simp only [] at hs
      cases hn0 : Nat.blt (i : Nat) L.length with
      | false => simp [hn0] at hs
      | true =>
        simp only [hn0, cond_true] at hs
        obtain ⟨rfl, rfl, rfl, rfl⟩ := zsome hs
        have hn : (i : Nat) < zmax y := by rw [← hL.2.1]; exact Nat.le_of_ble_eq_true hn0
        exact lv_astore_n hx hb hdg rfl (zLs_has hL) hn rfl (fun ls' h' => k H locs cells slots ls' hR hS (zLs_set1 hL hn h') hc hz)
    | null =>
      simp only [] at hs
      cases hn0 : Nat.blt (i : Nat) L.length with
      | false => simp [hn0] at hs
      | true =>
        simp only [hn0, cond_true] at hs
        obtain ⟨rfl, rfl, rfl, rfl⟩ := zsome hs
        have hn : (i : Nat) < zmax y := by rw [← hL.2.1]; exact Nat.le_of_ble_eq_true hn0
        exact lv_astore_nN hx hb hdg rfl (zLs_has hL) hn rfl (fun ls' h' => k H locs cells slots ls' hR hS (zLs_set1 hL hn h') hc hz)
    | retAddr j =>
      cases j with
      | zero => simp at hs
      | succ j =>
        simp only [] at hs
        cases hn0 : Nat.blt (i : Nat) L.length with
        | false => simp [hn0] at hs
        | true =>
          simp only [hn0, cond_true] at hs
          obtain ⟨rfl, rfl, rfl, rfl⟩ := zsome hs
          have hn : (i : Nat) < zmax y := by rw [← hL.2.1]; exact Nat.le_of_ble_eq_true hn0
          exact lv_astore_n hx hb hdg rfl (x := ext (j + 1)) (zLs_has hL) hn rfl (fun ls' h' => k H locs cells slots ls' hR hS (zLs_set1 hL hn h') hc hz)
    | _ => simp at hs
theorem zs_iinc (hCx : zCx sL sx b n0 D aC p R s m args meth c y d) {i : Nat} {n : Int} (hh : zHere y pc len (.iinc i n)) (hs : zsim sL sx y (.iinc i n) len pc L S h = some ((pc', L', S'), h'))
    (k : zG n0 ext D aC p l e R s m args below meth c y F1 F2 M1 M2 Q pc' L' S' h') : zG n0 ext D aC p l e R s m args below meth c y F1 F2 M1 M2 Q pc L S h := by
  obtain ⟨⟨hx, hb, hr, hml, hown⟩, hw, -⟩ := id hCx
  obtain ⟨hdg, haim, hlen⟩ := hh
  obtain rfl : len = 3 := zlen_of hlen
  intro H locs cells slots ls hR hS hL hc hz
  simp only [zsim] at hs
  cases hg : zg L i with
  | int v =>
    simp only [hg] at hs
    cases hn0 : Nat.blt i L.length with
    | false => simp [hn0] at hs
    | true =>
      simp only [hn0, cond_true] at hs
      obtain ⟨rfl, rfl, rfl, rfl⟩ := zsome hs
      have hn : i < zmax y := by rw [← hL.2.1]; exact Nat.le_of_ble_eq_true hn0
      obtain ⟨j, hj⟩ := List.getElem?_of_mem (zpairs_mem (n0 := n0) (ext := ext) (zg_some hg (by simp)) (by simp))
      exact lv_iinc hx hb hdg (zLs_has hL) hj rfl hn rfl (fun ls' h' => k H locs cells slots ls' hR hS (zLs_set1 hL hn h') hc hz)
  | _ => simp [hg] at hs
theorem zs_iadd (hCx : zCx sL sx b n0 D aC p R s m args meth c y d)  (hh : zHere y pc len (.iadd)) (hs : zsim sL sx y (.iadd) len pc L S h = some ((pc', L', S'), h'))
    (k : zG n0 ext D aC p l e R s m args below meth c y F1 F2 M1 M2 Q pc' L' S' h') : zG n0 ext D aC p l e R s m args below meth c y F1 F2 M1 M2 Q pc L S h := by
  obtain ⟨⟨hx, hb, hr, hml, hown⟩, hw, -⟩ := id hCx
  obtain ⟨hdg, haim, hlen⟩ := hh
  obtain rfl : len = 1 := zlen_of hlen
  intro H locs cells slots ls hR hS hL hc hz
  simp only [zsim, zii] at hs
  split at hs
  · try simp only [zpush] at hs
    obtain ⟨rfl, rfl, rfl, rfl⟩ := zsome hs
    exact lv_iadd hx hb hdg (k H locs cells slots ls hR hS hL hc hz)
  · simp at hs
theorem zs_isub (hCx : zCx sL sx b n0 D aC p R s m args meth c y d)  (hh : zHere y pc len (.isub)) (hs : zsim sL sx y (.isub) len pc L S h = some ((pc', L', S'), h'))
    (k : zG n0 ext D aC p l e R s m args below meth c y F1 F2 M1 M2 Q pc' L' S' h') : zG n0 ext D aC p l e R s m args below meth c y F1 F2 M1 M2 Q pc L S h := by
  obtain ⟨⟨hx, hb, hr, hml, hown⟩, hw, -⟩ := id hCx
  obtain ⟨hdg, haim, hlen⟩ := hh
  obtain rfl : len = 1 := zlen_of hlen
  intro H locs cells slots ls hR hS hL hc hz
  simp only [zsim, zii] at hs
  split at hs
  · try simp only [zpush] at hs
    obtain ⟨rfl, rfl, rfl, rfl⟩ := zsome hs
    exact lv_isub hx hb hdg (k H locs cells slots ls hR hS hL hc hz)
  · simp at hs
theorem zs_imul (hCx : zCx sL sx b n0 D aC p R s m args meth c y d)  (hh : zHere y pc len (.imul)) (hs : zsim sL sx y (.imul) len pc L S h = some ((pc', L', S'), h'))
    (k : zG n0 ext D aC p l e R s m args below meth c y F1 F2 M1 M2 Q pc' L' S' h') : zG n0 ext D aC p l e R s m args below meth c y F1 F2 M1 M2 Q pc L S h := by
  obtain ⟨⟨hx, hb, hr, hml, hown⟩, hw, -⟩ := id hCx
  obtain ⟨hdg, haim, hlen⟩ := hh
  obtain rfl : len = 1 := zlen_of hlen
  intro H locs cells slots ls hR hS hL hc hz
  simp only [zsim, zii] at hs
  split at hs
  · try simp only [zpush] at hs
    obtain ⟨rfl, rfl, rfl, rfl⟩ := zsome hs
    exact lv_imul hx hb hdg (k H locs cells slots ls hR hS hL hc hz)
  · simp at hs
theorem zs_iand (hCx : zCx sL sx b n0 D aC p R s m args meth c y d)  (hh : zHere y pc len (.iand)) (hs : zsim sL sx y (.iand) len pc L S h = some ((pc', L', S'), h'))
    (k : zG n0 ext D aC p l e R s m args below meth c y F1 F2 M1 M2 Q pc' L' S' h') : zG n0 ext D aC p l e R s m args below meth c y F1 F2 M1 M2 Q pc L S h := by
  obtain ⟨⟨hx, hb, hr, hml, hown⟩, hw, -⟩ := id hCx
  obtain ⟨hdg, haim, hlen⟩ := hh
  obtain rfl : len = 1 := zlen_of hlen
  intro H locs cells slots ls hR hS hL hc hz
  simp only [zsim, zii] at hs
  split at hs
  · try simp only [zpush] at hs
    obtain ⟨rfl, rfl, rfl, rfl⟩ := zsome hs
    exact lv_iand hx hb hdg (k H locs cells slots ls hR hS hL hc hz)
  · simp at hs
theorem zs_ior (hCx : zCx sL sx b n0 D aC p R s m args meth c y d)  (hh : zHere y pc len (.ior)) (hs : zsim sL sx y (.ior) len pc L S h = some ((pc', L', S'), h'))
    (k : zG n0 ext D aC p l e R s m args below meth c y F1 F2 M1 M2 Q pc' L' S' h') : zG n0 ext D aC p l e R s m args below meth c y F1 F2 M1 M2 Q pc L S h := by
  obtain ⟨⟨hx, hb, hr, hml, hown⟩, hw, -⟩ := id hCx
  obtain ⟨hdg, haim, hlen⟩ := hh
  obtain rfl : len = 1 := zlen_of hlen
  intro H locs cells slots ls hR hS hL hc hz
  simp only [zsim, zii] at hs
  split at hs
  · try simp only [zpush] at hs
    obtain ⟨rfl, rfl, rfl, rfl⟩ := zsome hs
    exact lv_ior hx hb hdg (k H locs cells slots ls hR hS hL hc hz)
  · simp at hs
theorem zs_ishl (hCx : zCx sL sx b n0 D aC p R s m args meth c y d)  (hh : zHere y pc len (.ishl)) (hs : zsim sL sx y (.ishl) len pc L S h = some ((pc', L', S'), h'))
    (k : zG n0 ext D aC p l e R s m args below meth c y F1 F2 M1 M2 Q pc' L' S' h') : zG n0 ext D aC p l e R s m args below meth c y F1 F2 M1 M2 Q pc L S h := by
  obtain ⟨⟨hx, hb, hr, hml, hown⟩, hw, -⟩ := id hCx
  obtain ⟨hdg, haim, hlen⟩ := hh
  obtain rfl : len = 1 := zlen_of hlen
  intro H locs cells slots ls hR hS hL hc hz
  simp only [zsim, zii] at hs
  split at hs
  · try simp only [zpush] at hs
    obtain ⟨rfl, rfl, rfl, rfl⟩ := zsome hs
    exact lv_ishl hx hb hdg (k H locs cells slots ls hR hS hL hc hz)
  · simp at hs
theorem zs_ladd (hCx : zCx sL sx b n0 D aC p R s m args meth c y d)  (hh : zHere y pc len (.ladd)) (hs : zsim sL sx y (.ladd) len pc L S h = some ((pc', L', S'), h'))
    (k : zG n0 ext D aC p l e R s m args below meth c y F1 F2 M1 M2 Q pc' L' S' h') : zG n0 ext D aC p l e R s m args below meth c y F1 F2 M1 M2 Q pc L S h := by
  obtain ⟨⟨hx, hb, hr, hml, hown⟩, hw, -⟩ := id hCx
  obtain ⟨hdg, haim, hlen⟩ := hh
  obtain rfl : len = 1 := zlen_of hlen
  intro H locs cells slots ls hR hS hL hc hz
  simp only [zsim, zll] at hs
  split at hs
  · try simp only [zpush] at hs
    obtain ⟨rfl, rfl, rfl, rfl⟩ := zsome hs
    exact lv_ladd hx hb hdg (k H locs cells slots ls hR hS hL hc hz)
  · simp at hs
theorem zs_land (hCx : zCx sL sx b n0 D aC p R s m args meth c y d)  (hh : zHere y pc len (.land)) (hs : zsim sL sx y (.land) len pc L S h = some ((pc', L', S'), h'))
    (k : zG n0 ext D aC p l e R s m args below meth c y F1 F2 M1 M2 Q pc' L' S' h') : zG n0 ext D aC p l e R s m args below meth c y F1 F2 M1 M2 Q pc L S h := by
  obtain ⟨⟨hx, hb, hr, hml, hown⟩, hw, -⟩ := id hCx
  obtain ⟨hdg, haim, hlen⟩ := hh
  obtain rfl : len = 1 := zlen_of hlen
  intro H locs cells slots ls hR hS hL hc hz
  simp only [zsim, zll] at hs
  split at hs
  · try simp only [zpush] at hs
    obtain ⟨rfl, rfl, rfl, rfl⟩ := zsome hs
    exact lv_land hx hb hdg (k H locs cells slots ls hR hS hL hc hz)
  · simp at hs
theorem zs_lor (hCx : zCx sL sx b n0 D aC p R s m args meth c y d)  (hh : zHere y pc len (.lor)) (hs : zsim sL sx y (.lor) len pc L S h = some ((pc', L', S'), h'))
    (k : zG n0 ext D aC p l e R s m args below meth c y F1 F2 M1 M2 Q pc' L' S' h') : zG n0 ext D aC p l e R s m args below meth c y F1 F2 M1 M2 Q pc L S h := by
  obtain ⟨⟨hx, hb, hr, hml, hown⟩, hw, -⟩ := id hCx
  obtain ⟨hdg, haim, hlen⟩ := hh
  obtain rfl : len = 1 := zlen_of hlen
  intro H locs cells slots ls hR hS hL hc hz
  simp only [zsim, zll] at hs
  split at hs
  · try simp only [zpush] at hs
    obtain ⟨rfl, rfl, rfl, rfl⟩ := zsome hs
    exact lv_lor hx hb hdg (k H locs cells slots ls hR hS hL hc hz)
  · simp at hs
theorem zs_lshl (hCx : zCx sL sx b n0 D aC p R s m args meth c y d)  (hh : zHere y pc len (.lshl)) (hs : zsim sL sx y (.lshl) len pc L S h = some ((pc', L', S'), h'))
    (k : zG n0 ext D aC p l e R s m args below meth c y F1 F2 M1 M2 Q pc' L' S' h') : zG n0 ext D aC p l e R s m args below meth c y F1 F2 M1 M2 Q pc L S h := by
  obtain ⟨⟨hx, hb, hr, hml, hown⟩, hw, -⟩ := id hCx
  obtain ⟨hdg, haim, hlen⟩ := hh
  obtain rfl : len = 1 := zlen_of hlen
  intro H locs cells slots ls hR hS hL hc hz
  simp only [zsim, zpush] at hs
  split at hs
  · try simp only [zpush] at hs
    obtain ⟨rfl, rfl, rfl, rfl⟩ := zsome hs
    exact lv_lshl hx hb hdg rfl (k H locs cells slots ls hR hS hL hc hz)
  · simp at hs
theorem zs_i2l (hCx : zCx sL sx b n0 D aC p R s m args meth c y d)  (hh : zHere y pc len (.i2l)) (hs : zsim sL sx y (.i2l) len pc L S h = some ((pc', L', S'), h'))
    (k : zG n0 ext D aC p l e R s m args below meth c y F1 F2 M1 M2 Q pc' L' S' h') : zG n0 ext D aC p l e R s m args below meth c y F1 F2 M1 M2 Q pc L S h := by
  obtain ⟨⟨hx, hb, hr, hml, hown⟩, hw, -⟩ := id hCx
  obtain ⟨hdg, haim, hlen⟩ := hh
  obtain rfl : len = 1 := zlen_of hlen
  intro H locs cells slots ls hR hS hL hc hz
  simp only [zsim, zpush] at hs
  split at hs
  · try simp only [zpush] at hs
    obtain ⟨rfl, rfl, rfl, rfl⟩ := zsome hs
    exact lv_i2l hx hb hdg rfl (k H locs cells slots ls hR hS hL hc hz)
  · simp at hs
theorem zs_lcmp (hCx : zCx sL sx b n0 D aC p R s m args meth c y d)  (hh : zHere y pc len (.lcmp)) (hs : zsim sL sx y (.lcmp) len pc L S h = some ((pc', L', S'), h'))
    (k : zG n0 ext D aC p l e R s m args below meth c y F1 F2 M1 M2 Q pc' L' S' h') : zG n0 ext D aC p l e R s m args below meth c y F1 F2 M1 M2 Q pc L S h := by
  obtain ⟨⟨hx, hb, hr, hml, hown⟩, hw, -⟩ := id hCx
  obtain ⟨hdg, haim, hlen⟩ := hh
  obtain rfl : len = 1 := zlen_of hlen
  intro H locs cells slots ls hR hS hL hc hz
  simp only [zsim, zpush] at hs
  split at hs
  · try simp only [zpush] at hs
    obtain ⟨rfl, rfl, rfl, rfl⟩ := zsome hs
    exact W.lcmp hx hb hdg (k H locs cells slots ls hR hS hL hc hz)
  · simp at hs
theorem zs_dup (hCx : zCx sL sx b n0 D aC p R s m args meth c y d)  (hh : zHere y pc len (.dup)) (hs : zsim sL sx y (.dup) len pc L S h = some ((pc', L', S'), h'))
    (k : zG n0 ext D aC p l e R s m args below meth c y F1 F2 M1 M2 Q pc' L' S' h') : zG n0 ext D aC p l e R s m args below meth c y F1 F2 M1 M2 Q pc L S h := by
  obtain ⟨⟨hx, hb, hr, hml, hown⟩, hw, -⟩ := id hCx
  obtain ⟨hdg, haim, hlen⟩ := hh
  obtain rfl : len = 1 := zlen_of hlen
  intro H locs cells slots ls hR hS hL hc hz
  simp only [zsim] at hs
  cases S with
  | nil => simp at hs
  | cons v r =>
    cases hv : Nat.beq v.category 1 with
    | false => simp [hv] at hs
    | true =>
      simp only [hv, cond_true] at hs
      obtain ⟨rfl, rfl, rfl, rfl⟩ := zsome hs
      exact lv_dup hx hb hdg (by rw [zv_cat]; exact Nat.eq_of_beq_eq_true hv) (k H locs cells slots ls hR hS hL hc hz)
theorem zs_dup2 (hCx : zCx sL sx b n0 D aC p R s m args meth c y d)  (hh : zHere y pc len (.dup2)) (hs : zsim sL sx y (.dup2) len pc L S h = some ((pc', L', S'), h'))
    (k : zG n0 ext D aC p l e R s m args below meth c y F1 F2 M1 M2 Q pc' L' S' h') : zG n0 ext D aC p l e R s m args below meth c y F1 F2 M1 M2 Q pc L S h := by
  obtain ⟨⟨hx, hb, hr, hml, hown⟩, hw, -⟩ := id hCx
  obtain ⟨hdg, haim, hlen⟩ := hh
  obtain rfl : len = 1 := zlen_of hlen
  intro H locs cells slots ls hR hS hL hc hz
  simp only [zsim] at hs
  cases S with
  | nil => simp at hs
  | cons v r =>
    cases r with
    | nil => simp at hs
    | cons w r =>
      cases hv : (Nat.beq v.category 1 && Nat.beq w.category 1) with
      | false => simp [hv] at hs
      | true =>
        simp only [hv, cond_true] at hs
        obtain ⟨rfl, rfl, rfl, rfl⟩ := zsome hs
        simp only [Bool.and_eq_true] at hv
        exact lv_dup2_11 hx hb hdg (by rw [zv_cat]; exact Nat.eq_of_beq_eq_true hv.1) (by rw [zv_cat]; exact Nat.eq_of_beq_eq_true hv.2) (k H locs cells slots ls hR hS hL hc hz)
theorem zs_goto (hCx : zCx sL sx b n0 D aC p R s m args meth c y d) {off : Int} (hh : zHere y pc len (.goto off)) (hs : zsim sL sx y (.goto off) len pc L S h = some ((pc', L', S'), h'))
    (k : zG n0 ext D aC p l e R s m args below meth c y F1 F2 M1 M2 Q pc' L' S' h') : zG n0 ext D aC p l e R s m args below meth c y F1 F2 M1 M2 Q pc L S h := by
  obtain ⟨⟨hx, hb, hr, hml, hown⟩, hw, -⟩ := id hCx
  obtain ⟨hdg, haim, hlen⟩ := hh
  obtain rfl : len = 3 := zlen_of hlen
  intro H locs cells slots ls hR hS hL hc hz
  simp only [zsim, zjump, cond_true] at hs
  obtain ⟨rfl, rfl, rfl, rfl⟩ := zsome hs
  exact lv_goto hx hb hdg (ztop haim) (k H locs cells slots ls hR hS hL hc hz)
theorem zs_ifc_eq (hCx : zCx sL sx b n0 D aC p R s m args meth c y d) {off : Int} (hh : zHere y pc len (.ifCond .eq off)) (hs : zsim sL sx y (.ifCond .eq off) len pc L S h = some ((pc', L', S'), h'))
    (k : zG n0 ext D aC p l e R s m args below meth c y F1 F2 M1 M2 Q pc' L' S' h') : zG n0 ext D aC p l e R s m args below meth c y F1 F2 M1 M2 Q pc L S h := by
  obtain ⟨⟨hx, hb, hr, hml, hown⟩, hw, -⟩ := id hCx
  obtain ⟨hdg, haim, hlen⟩ := hh
  obtain rfl : len = 3 := zlen_of hlen
  intro H locs cells slots ls hR hS hL hc hz
  simp only [zsim] at hs
  split at hs
  · rename_i a r
    simp only [zjump, zcb] at hs
    obtain ⟨rfl, rfl, rfl, rfl⟩ := zsome hs
    refine lv_if_eq hx hb hdg (ztop haim) (fun q => ?_) (fun q => ?_)
    · have k9 := k H locs cells slots ls hR hS hL hc hz
      simpa [q] using k9
    · have k9 := k H locs cells slots ls hR hS hL hc hz
      simpa [q] using k9
  · simp at hs
theorem zs_ifc_ne (hCx : zCx sL sx b n0 D aC p R s m args meth c y d) {off : Int} (hh : zHere y pc len (.ifCond .ne off)) (hs : zsim sL sx y (.ifCond .ne off) len pc L S h = some ((pc', L', S'), h'))
    (k : zG n0 ext D aC p l e R s m args below meth c y F1 F2 M1 M2 Q pc' L' S' h') : zG n0 ext D aC p l e R s m args below meth c y F1 F2 M1 M2 Q pc L S h := by
  obtain ⟨⟨hx, hb, hr, hml, hown⟩, hw, -⟩ := id hCx
  obtain ⟨hdg, haim, hlen⟩ := hh
  obtain rfl : len = 3 := zlen_of hlen
  intro H locs cells slots ls hR hS hL hc hz
  simp only [zsim] at hs
  split at hs
  · rename_i a r
    simp only [zjump, zcb] at hs
    obtain ⟨rfl, rfl, rfl, rfl⟩ := zsome hs
    refine lv_if_ne hx hb hdg (ztop haim) (fun q => ?_) (fun q => ?_)
    · have k9 := k H locs cells slots ls hR hS hL hc hz
      simpa [q] using k9
    · have k9 := k H locs cells slots ls hR hS hL hc hz
      simpa [q] using k9
  · simp at hs
theorem zs_ifc_lt (hCx : zCx sL sx b n0 D aC p R s m args meth c y d) {off : Int} (hh : zHere y pc len (.ifCond .lt off)) (hs : zsim sL sx y (.ifCond .lt off) len pc L S h = some ((pc', L', S'), h'))
    (k : zG n0 ext D aC p l e R s m args below meth c y F1 F2 M1 M2 Q pc' L' S' h') : zG n0 ext D aC p l e R s m args below meth c y F1 F2 M1 M2 Q pc L S h := by
  obtain ⟨⟨hx, hb, hr, hml, hown⟩, hw, -⟩ := id hCx
  obtain ⟨hdg, haim, hlen⟩ := hh
  obtain rfl : len = 3 := zlen_of hlen
  intro H locs cells slots ls hR hS hL hc hz
  simp only [zsim] at hs
  split at hs
  · rename_i a r
    simp only [zjump, zcb] at hs
    obtain ⟨rfl, rfl, rfl, rfl⟩ := zsome hs
    refine lv_if_lt hx hb hdg (ztop haim) (fun q => ?_) (fun q => ?_)
    · have k9 := k H locs cells slots ls hR hS hL hc hz
      simpa [q] using k9
    · have k9 := k H locs cells slots ls hR hS hL hc hz
      simpa [q] using k9
  · simp at hs
theorem zs_ifc_ge (hCx : zCx sL sx b n0 D aC p R s m args meth c y d) {off : Int} (hh : zHere y pc len (.ifCond .ge off)) (hs : zsim sL sx y (.ifCond .ge off) len pc L S h = some ((pc', L', S'), h'))
    (k : zG n0 ext D aC p l e R s m args below meth c y F1 F2 M1 M2 Q pc' L' S' h') : zG n0 ext D aC p l e R s m args below meth c y F1 F2 M1 M2 Q pc L S h := by
  obtain ⟨⟨hx, hb, hr, hml, hown⟩, hw, -⟩ := id hCx
  obtain ⟨hdg, haim, hlen⟩ := hh
  obtain rfl : len = 3 := zlen_of hlen
  intro H locs cells slots ls hR hS hL hc hz
  simp only [zsim] at hs
  split at hs
  · rename_i a r
    simp only [zjump, zcb] at hs
    obtain ⟨rfl, rfl, rfl, rfl⟩ := zsome hs
    refine lv_if_ge hx hb hdg (ztop haim) (fun q => ?_) (fun q => ?_)
    · have k9 := k H locs cells slots ls hR hS hL hc hz
      simpa [q] using k9
    · have k9 := k H locs cells slots ls hR hS hL hc hz
      simpa [q] using k9
  · simp at hs
theorem zs_ifc_gt (hCx : zCx sL sx b n0 D aC p R s m args meth c y d) {off : Int} (hh : zHere y pc len (.ifCond .gt off)) (hs : zsim sL sx y (.ifCond .gt off) len pc L S h = some ((pc', L', S'), h'))
    (k : zG n0 ext D aC p l e R s m args below meth c y F1 F2 M1 M2 Q pc' L' S' h') : zG n0 ext D aC p l e R s m args below meth c y F1 F2 M1 M2 Q pc L S h := by
  obtain ⟨⟨hx, hb, hr, hml, hown⟩, hw, -⟩ := id hCx
  obtain ⟨hdg, haim, hlen⟩ := hh
  obtain rfl : len = 3 := zlen_of hlen
  intro H locs cells slots ls hR hS hL hc hz
  simp only [zsim] at hs
  split at hs
  · rename_i a r
    simp only [zjump, zcb] at hs
    obtain ⟨rfl, rfl, rfl, rfl⟩ := zsome hs
    refine lv_if_gt hx hb hdg (ztop haim) (fun q => ?_) (fun q => ?_)
    · have k9 := k H locs cells slots ls hR hS hL hc hz
      simpa [q] using k9
    · have k9 := k H locs cells slots ls hR hS hL hc hz
      simpa [q] using k9
  · simp at hs
theorem zs_ifc_le (hCx : zCx sL sx b n0 D aC p R s m args meth c y d) {off : Int} (hh : zHere y pc len (.ifCond .le off)) (hs : zsim sL sx y (.ifCond .le off) len pc L S h = some ((pc', L', S'), h'))
    (k : zG n0 ext D aC p l e R s m args below meth c y F1 F2 M1 M2 Q pc' L' S' h') : zG n0 ext D aC p l e R s m args below meth c y F1 F2 M1 M2 Q pc L S h := by
  obtain ⟨⟨hx, hb, hr, hml, hown⟩, hw, -⟩ := id hCx
  obtain ⟨hdg, haim, hlen⟩ := hh
  obtain rfl : len = 3 := zlen_of hlen
  intro H locs cells slots ls hR hS hL hc hz
  simp only [zsim] at hs
  split at hs
  · rename_i a r
    simp only [zjump, zcb] at hs
    obtain ⟨rfl, rfl, rfl, rfl⟩ := zsome hs
    refine lv_if_le hx hb hdg (ztop haim) (fun q => ?_) (fun q => ?_)
    · have k9 := k H locs cells slots ls hR hS hL hc hz
      simpa [q] using k9
    · have k9 := k H locs cells slots ls hR hS hL hc hz
      simpa [q] using k9
  · simp at hs
theorem zs_icmp_eq (hCx : zCx sL sx b n0 D aC p R s m args meth c y d) {off : Int} (hh : zHere y pc len (.if_icmp .eq off)) (hs : zsim sL sx y (.if_icmp .eq off) len pc L S h = some ((pc', L', S'), h'))
    (k : zG n0 ext D aC p l e R s m args below meth c y F1 F2 M1 M2 Q pc' L' S' h') : zG n0 ext D aC p l e R s m args below meth c y F1 F2 M1 M2 Q pc L S h := by
  obtain ⟨⟨hx, hb, hr, hml, hown⟩, hw, -⟩ := id hCx
  obtain ⟨hdg, haim, hlen⟩ := hh
  obtain rfl : len = 3 := zlen_of hlen
  intro H locs cells slots ls hR hS hL hc hz
  simp only [zsim] at hs
  split at hs
  · rename_i b9 a r
    simp only [zjump, zcb] at hs
    obtain ⟨rfl, rfl, rfl, rfl⟩ := zsome hs
    refine lv_icmp_eq hx hb hdg (ztop haim) (fun q => ?_) (fun q => ?_)
    · have k9 := k H locs cells slots ls hR hS hL hc hz
      simpa [q] using k9
    · have k9 := k H locs cells slots ls hR hS hL hc hz
      simpa [q] using k9
  · simp at hs
theorem zs_icmp_ne (hCx : zCx sL sx b n0 D aC p R s m args meth c y d) {off : Int} (hh : zHere y pc len (.if_icmp .ne off)) (hs : zsim sL sx y (.if_icmp .ne off) len pc L S h = some ((pc', L', S'), h'))
    (k : zG n0 ext D aC p l e R s m args below meth c y F1 F2 M1 M2 Q pc' L' S' h') : zG n0 ext D aC p l e R s m args below meth c y F1 F2 M1 M2 Q pc L S h := by
  obtain ⟨⟨hx, hb, hr, hml, hown⟩, hw, -⟩ := id hCx
  obtain ⟨hdg, haim, hlen⟩ := hh
  obtain rfl : len = 3 := zlen_of hlen
  intro H locs cells slots ls hR hS hL hc hz
  simp only [zsim] at hs
  split at hs
  · rename_i b9 a r
    simp only [zjump, zcb] at hs
    obtain ⟨rfl, rfl, rfl, rfl⟩ := zsome hs
    refine lv_icmp_ne hx hb hdg (ztop haim) (fun q => ?_) (fun q => ?_)
    · have k9 := k H locs cells slots ls hR hS hL hc hz
      simpa [q] using k9
    · have k9 := k H locs cells slots ls hR hS hL hc hz
      simpa [q] using k9
  · simp at hs
theorem zs_icmp_lt (hCx : zCx sL sx b n0 D aC p R s m args meth c y d) {off : Int} (hh : zHere y pc len (.if_icmp .lt off)) (hs : zsim sL sx y (.if_icmp .lt off) len pc L S h = some ((pc', L', S'), h'))
    (k : zG n0 ext D aC p l e R s m args below meth c y F1 F2 M1 M2 Q pc' L' S' h') : zG n0 ext D aC p l e R s m args below meth c y F1 F2 M1 M2 Q pc L S h := by
  obtain ⟨⟨hx, hb, hr, hml, hown⟩, hw, -⟩ := id hCx
  obtain ⟨hdg, haim, hlen⟩ := hh
  obtain rfl : len = 3 := zlen_of hlen
  intro H locs cells slots ls hR hS hL hc hz
  simp only [zsim] at hs
  split at hs
  · rename_i b9 a r
    simp only [zjump, zcb] at hs
    obtain ⟨rfl, rfl, rfl, rfl⟩ := zsome hs
    refine lv_icmp_lt hx hb hdg (ztop haim) (fun q => ?_) (fun q => ?_)
    · have k9 := k H locs cells slots ls hR hS hL hc hz
      simpa [q] using k9
    · have k9 := k H locs cells slots ls hR hS hL hc hz
      simpa [q] using k9
  · simp at hs
theorem zs_icmp_ge (hCx : zCx sL sx b n0 D aC p R s m args meth c y d) {off : Int} (hh : zHere y pc len (.if_icmp .ge off)) (hs : zsim sL sx y (.if_icmp .ge off) len pc L S h = some ((pc', L', S'), h'))
    (k : zG n0 ext D aC p l e R s m args below meth c y F1 F2 M1 M2 Q pc' L' S' h') : zG n0 ext D aC p l e R s m args below meth c y F1 F2 M1 M2 Q pc L S h := by
  obtain ⟨⟨hx, hb, hr, hml, hown⟩, hw, -⟩ := id hCx
  obtain ⟨hdg, haim, hlen⟩ := hh
  obtain rfl : len = 3 := zlen_of hlen
  intro H locs cells slots ls hR hS hL hc hz
  simp only [zsim] at hs
  split at hs
  · rename_i b9 a r
    simp only [zjump, zcb] at hs
    obtain ⟨rfl, rfl, rfl, rfl⟩ := zsome hs
    refine lv_icmp_ge hx hb hdg (ztop haim) (fun q => ?_) (fun q => ?_)
    · have k9 := k H locs cells slots ls hR hS hL hc hz
      simpa [q] using k9
    · have k9 := k H locs cells slots ls hR hS hL hc hz
      simpa [q] using k9
  · simp at hs
theorem zs_icmp_gt (hCx : zCx sL sx b n0 D aC p R s m args meth c y d) {off : Int} (hh : zHere y pc len (.if_icmp .gt off)) (hs : zsim sL sx y (.if_icmp .gt off) len pc L S h = some ((pc', L', S'), h'))
    (k : zG n0 ext D aC p l e R s m args below meth c y F1 F2 M1 M2 Q pc' L' S' h') : zG n0 ext D aC p l e R s m args below meth c y F1 F2 M1 M2 Q pc L S h := by
  obtain ⟨⟨hx, hb, hr, hml, hown⟩, hw, -⟩ := id hCx
  obtain ⟨hdg, haim, hlen⟩ := hh
  obtain rfl : len = 3 := zlen_of hlen
  intro H locs cells slots ls hR hS hL hc hz
  simp only [zsim] at hs
  split at hs
  · rename_i b9 a r
    simp only [zjump, zcb] at hs
    obtain ⟨rfl, rfl, rfl, rfl⟩ := zsome hs
    refine lv_icmp_gt hx hb hdg (ztop haim) (fun q => ?_) (fun q => ?_)
    · have k9 := k H locs cells slots ls hR hS hL hc hz
      simpa [q] using k9
    · have k9 := k H locs cells slots ls hR hS hL hc hz
      simpa [q] using k9
  · simp at hs
theorem zs_icmp_le (hCx : zCx sL sx b n0 D aC p R s m args meth c y d) {off : Int} (hh : zHere y pc len (.if_icmp .le off)) (hs : zsim sL sx y (.if_icmp .le off) len pc L S h = some ((pc', L', S'), h'))
    (k : zG n0 ext D aC p l e R s m args below meth c y F1 F2 M1 M2 Q pc' L' S' h') : zG n0 ext D aC p l e R s m args below meth c y F1 F2 M1 M2 Q pc L S h := by
  obtain ⟨⟨hx, hb, hr, hml, hown⟩, hw, -⟩ := id hCx
  obtain ⟨hdg, haim, hlen⟩ := hh
  obtain rfl : len = 3 := zlen_of hlen
  intro H locs cells slots ls hR hS hL hc hz
  simp only [zsim] at hs
  split at hs
  · rename_i b9 a r
    simp only [zjump, zcb] at hs
    obtain ⟨rfl, rfl, rfl, rfl⟩ := zsome hs
    refine lv_icmp_le hx hb hdg (ztop haim) (fun q => ?_) (fun q => ?_)
    · have k9 := k H locs cells slots ls hR hS hL hc hz
      simpa [q] using k9
    · have k9 := k H locs cells slots ls hR hS hL hc hz
      simpa [q] using k9
  · simp at hs
theorem zs_acmp_eq (hCx : zCx sL sx b n0 D aC p R s m args meth c y d) {off : Int} (hh : zHere y pc len (.if_acmp .eq off)) (hs : zsim sL sx y (.if_acmp .eq off) len pc L S h = some ((pc', L', S'), h'))
    (k : zG n0 ext D aC p l e R s m args below meth c y F1 F2 M1 M2 Q pc' L' S' h') : zG n0 ext D aC p l e R s m args below meth c y F1 F2 M1 M2 Q pc L S h := by
  obtain ⟨⟨hx, hb, hr, hml, hown⟩, hw, -⟩ := id hCx
  obtain ⟨hdg, haim, hlen⟩ := hh
  obtain rfl : len = 3 := zlen_of hlen
  intro H locs cells slots ls hR hS hL hc hz
  simp only [zsim] at hs
  cases S with
  | nil => simp at hs
  | cons b9 r =>
    cases r with
    | nil => simp at hs
    | cons a9 r =>
      have key : ∀ (rx ry : Option Nat) (q : Bool), zv n0 ext a9 = va_rf rx → zv n0 ext b9 = va_rf ry → zreq a9 b9 = some q → (q = true ↔ rx = ry) → W p l e R s m args below meth c H locs cells slots Q (F0 m pc ls ((b9 :: a9 :: r).map (zv n0 ext))) := by
        intro rx ry q h1 h2 h3 h4
        simp only [h3, zjump] at hs
        obtain ⟨rfl, rfl, rfl, rfl⟩ := zsome hs
        have k9 := k H locs cells slots ls hR hS hL hc hz
        simp only [List.map_cons, h1, h2]
        refine lv_acmp_eq hx hb hdg (ztop haim) (fun z => ?_) (fun z => ?_)
        · have hq := h4.mpr z
          simpa [hq] using k9
        · have hq := (show q = false by cases q; rfl; exact absurd (h4.mp rfl) z)
          simpa [hq] using k9
      cases a9 <;> cases b9 <;> first
        | (simp [zreq] at hs; done)
        | exact key (some _) (some _) _ rfl rfl rfl (by simp)
        | exact key none none _ rfl rfl rfl (by simp)
        | exact key (some _) none _ rfl rfl rfl (by simp)
        | exact key none (some _) _ rfl rfl rfl (by simp)
theorem zs_acmp_ne (hCx : zCx sL sx b n0 D aC p R s m args meth c y d) {off : Int} (hh : zHere y pc len (.if_acmp .ne off)) (hs : zsim sL sx y (.if_acmp .ne off) len pc L S h = some ((pc', L', S'), h'))
    (k : zG n0 ext D aC p l e R s m args below meth c y F1 F2 M1 M2 Q pc' L' S' h') : zG n0 ext D aC p l e R s m args below meth c y F1 F2 M1 M2 Q pc L S h := by
  obtain ⟨⟨hx, hb, hr, hml, hown⟩, hw, -⟩ := id hCx
  obtain ⟨hdg, haim, hlen⟩ := hh
  obtain rfl : len = 3 := zlen_of hlen
  intro H locs cells slots ls hR hS hL hc hz
  simp only [zsim] at hs
  cases S with
  | nil => simp at hs
  | cons b9 r =>
    cases r with
    | nil => simp at hs
    | cons a9 r =>
      have key : ∀ (rx ry : Option Nat) (q : Bool), zv n0 ext a9 = va_rf rx → zv n0 ext b9 = va_rf ry → zreq a9 b9 = some q → (q = true ↔ rx = ry) → W p l e R s m args below meth c H locs cells slots Q (F0 m pc ls ((b9 :: a9 :: r).map (zv n0 ext))) := by
        intro rx ry q h1 h2 h3 h4
        simp only [h3, zjump] at hs
        obtain ⟨rfl, rfl, rfl, rfl⟩ := zsome hs
        have k9 := k H locs cells slots ls hR hS hL hc hz
        simp only [List.map_cons, h1, h2]
        refine lv_acmp_ne hx hb hdg (ztop haim) (fun z => ?_) (fun z => ?_)
        · have hq := (show q = false by cases q; rfl; exact absurd (h4.mp rfl) z)
          simpa [hq] using k9
        · have hq := h4.mpr z
          simpa [hq] using k9
      cases a9 <;> cases b9 <;> first
        | (simp [zreq] at hs; done)
        | exact key (some _) (some _) _ rfl rfl rfl (by simp)
        | exact key none none _ rfl rfl rfl (by simp)
        | exact key (some _) none _ rfl rfl rfl (by simp)
        | exact key none (some _) _ rfl rfl rfl (by simp)
theorem zs_ifnull (hCx : zCx sL sx b n0 D aC p R s m args meth c y d) {off : Int} (hh : zHere y pc len (.ifnull off)) (hs : zsim sL sx y (.ifnull off) len pc L S h = some ((pc', L', S'), h'))
    (k : zG n0 ext D aC p l e R s m args below meth c y F1 F2 M1 M2 Q pc' L' S' h') : zG n0 ext D aC p l e R s m args below meth c y F1 F2 M1 M2 Q pc L S h := by
  obtain ⟨⟨hx, hb, hr, hml, hown⟩, hw, -⟩ := id hCx
  obtain ⟨hdg, haim, hlen⟩ := hh
  obtain rfl : len = 3 := zlen_of hlen
  intro H locs cells slots ls hR hS hL hc hz
  simp only [zsim] at hs
  cases S with
  | nil => simp at hs
  | cons a9 r =>
    cases a9 with
    | ref a =>
      simp only [znul, zjump, cond_true, cond_false, Bool.not_false, Bool.not_true] at hs
      obtain ⟨rfl, rfl, rfl, rfl⟩ := zsome hs
      exact lv_ifnull hx hb hdg (k H locs cells slots ls hR hS hL hc hz)
    | null =>
      simp only [znul, zjump, cond_true, cond_false, Bool.not_false, Bool.not_true] at hs
      obtain ⟨rfl, rfl, rfl, rfl⟩ := zsome hs
      exact lv_ifnullN hx hb hdg (ztop haim) (k H locs cells slots ls hR hS hL hc hz)
    | _ => simp [znul] at hs
theorem zs_ifnonnull (hCx : zCx sL sx b n0 D aC p R s m args meth c y d) {off : Int} (hh : zHere y pc len (.ifnonnull off)) (hs : zsim sL sx y (.ifnonnull off) len pc L S h = some ((pc', L', S'), h'))
    (k : zG n0 ext D aC p l e R s m args below meth c y F1 F2 M1 M2 Q pc' L' S' h') : zG n0 ext D aC p l e R s m args below meth c y F1 F2 M1 M2 Q pc L S h := by
  obtain ⟨⟨hx, hb, hr, hml, hown⟩, hw, -⟩ := id hCx
  obtain ⟨hdg, haim, hlen⟩ := hh
  obtain rfl : len = 3 := zlen_of hlen
  intro H locs cells slots ls hR hS hL hc hz
  simp only [zsim] at hs
  cases S with
  | nil => simp at hs
  | cons a9 r =>
    cases a9 with
    | ref a =>
      simp only [znul, zjump, cond_true, cond_false, Bool.not_false, Bool.not_true] at hs
      obtain ⟨rfl, rfl, rfl, rfl⟩ := zsome hs
      exact lv_ifnonnull hx hb hdg (ztop haim) (k H locs cells slots ls hR hS hL hc hz)
    | null =>
      simp only [znul, zjump, cond_true, cond_false, Bool.not_false, Bool.not_true] at hs
      obtain ⟨rfl, rfl, rfl, rfl⟩ := zsome hs
      exact lv_ifnonnullN hx hb hdg (k H locs cells slots ls hR hS hL hc hz)
    | _ => simp [znul] at hs
end ZS
