/-! the small machine's heap and locals against the machine's -/
def zv (n0 : Nat) (ext : Nat → Nat) : Value → Value
  | .ref k => .ref (n0 + k)
  | .retAddr i => .ref (ext i)
  | v => v
def zw (n0 : Nat) (v : Value) : Value := zv n0 (fun _ => 0) v
theorem zv_ok {n0 : Nat} {ext : Nat → Nat} {v : Value} (h : zok v = true) : zv n0 ext v = zw n0 v := by
  cases v <;> first | rfl | (simp [zok] at h)
theorem zv_cat (n0 : Nat) (ext : Nat → Nat) (v : Value) : (zv n0 ext v).category = v.category := by cases v <;> rfl
theorem zv_fits {n0 : Nat} {t : FieldType} {v : Value} (h : zfits t v = true) : zok v = true ∧ narrow t (zw n0 v) = zw n0 v ∧ fits t (zw n0 v) = true := by
  cases t <;> cases v <;> first | (simp [zfits] at h; done) | exact ⟨rfl, rfl, rfl⟩
def zcel (D : va_G) (aC : Nat → ClassId) (n0 : Nat) (q : Nat × List Value) (cell : Cell) : Prop :=
  cell.vm = .none ∧ (∀ v ∈ q.2, zok v = true) ∧ (q.1 < 4 → cell.cls = aC q.1 ∧ cell.slots = (q.2.map (zw n0)).toArray) ∧
  (∀ ci, ci < 4 → q.1 = 10 + ci → cell.cls = D.1 ci ∧ ∀ k, k < znf ci → ∃ v, q.2[k]? = some v ∧ cell.slots[D.2 ci k]? = some (zw n0 v))
def zRep (D : va_G) (aC : Nat → ClassId) (n0 : Nat) (h : zH) (H : Heap) : Prop := H.size = n0 + h.length ∧ ∀ k q, h[k]? = some q → ∃ cell, H[n0 + k]? = some cell ∧ zcel D aC n0 q cell
/-- how many slots the cells take -/
def zsl (h : zH) : Nat := (h.map (fun q => bif Nat.ble 100 q.1 then 6 else q.2.length)).sum
theorem zsl_app (h g : zH) : zsl (h ++ g) = zsl h + zsl g := by simp [zsl]
theorem zRep_set {D : va_G} {aC : Nat → ClassId} {n0 a : Nat} {h : zH} {H H' : Heap} {q q' : Nat × List Value} {cell : Cell} (hR : zRep D aC n0 h H) (ha : h[a]? = some q) (z : H'.size = H.size) (oq : ∀ x, x ≠ n0 + a → H'[x]? = H[x]?) (hc : H'[n0 + a]? = some cell) (hq : zcel D aC n0 q' cell) : zRep D aC n0 (h.set a q') H' := by
  refine ⟨by rw [z, hR.1, List.length_set], fun k r hr => ?_⟩
  by_cases hk : k = a
  · subst hk
    have hlt : k < h.length := (List.getElem?_eq_some_iff.mp ha).1
    rw [List.getElem?_set_self hlt] at hr
    cases hr
    exact ⟨cell, hc, hq⟩
  · rw [List.getElem?_set_ne (Ne.symm hk)] at hr
    obtain ⟨c1, h1, h2⟩ := hR.2 k r hr
    exact ⟨c1, by rw [oq _ (by omega)]; exact h1, h2⟩
theorem zRep_push {D : va_G} {aC : Nat → ClassId} {n0 : Nat} {h : zH} {H H' : Heap} {q : Nat × List Value} {cell : Cell} (hR : zRep D aC n0 h H) (z : H'.size = H.size + 1) (oq : ∀ x, x < H.size → H'[x]? = H[x]?) (hc : H'[H.size]? = some cell) (hq : zcel D aC n0 q cell) : zRep D aC n0 (h ++ [q]) H' := by
  refine ⟨by rw [z, hR.1, List.length_append]; rfl, fun k r hr => ?_⟩
  by_cases hk : k < h.length
  · rw [List.getElem?_append_left hk] at hr
    obtain ⟨c1, h1, h2⟩ := hR.2 k r hr
    exact ⟨c1, by rw [oq _ (by rw [hR.1]; omega)]; exact h1, h2⟩
  · rw [List.getElem?_append_right (by omega)] at hr
    have hz : k - h.length < 1 := (List.getElem?_eq_some_iff.mp hr).1
    have hk0 : k = h.length := by omega
    subst hk0
    rw [Nat.sub_self] at hr
    cases hr
    exact ⟨cell, by rw [← hR.1]; exact hc, hq⟩
theorem zsl_set {h : zH} {a : Nat} {q : Nat × List Value} {vs : List Value} (ha : h[a]? = some q) (hl : vs.length = q.2.length) : zsl (h.set a (q.1, vs)) = zsl h := by
  induction h generalizing a with
  | nil => simp at ha
  | cons r t ih =>
    cases a with
    | zero =>
      simp at ha
      subst ha
      simp [zsl, hl]
    | succ a =>
      simp at ha
      have := ih ha
      simp [zsl] at this ⊢
      omega
/-- the locals -/
def zLs (n0 : Nat) (ext : Nat → Nat) (n : Nat) (L : List Value) (ls : Array Slot) : Prop := ls.size = n ∧ L.length = n ∧ lv_wf ls ∧ ∀ (i : Nat) (v : Value), L[i]? = some v → v ≠ .retAddr 0 → ls[i]? = some (.val (zv n0 ext v))
theorem zg_some {L : List Value} {i : Nat} {v : Value} (h : zg L i = v) (hv : v ≠ .retAddr 0) : L[i]? = some v := by
  induction L generalizing i with
  | nil => exact absurd h.symm hv
  | cons a t ih =>
    cases i with
    | zero => simp only [zg] at h; simp [h]
    | succ i => simp only [zg] at h; simpa using ih h
theorem zLs_at {n0 n : Nat} {ext : Nat → Nat} {L : List Value} {ls : Array Slot} (h : zLs n0 ext n L ls) {i : Nat} {v : Value} (hv : zg L i = v) (hu : v ≠ .retAddr 0) : ls[i]? = some (.val (zv n0 ext v)) := h.2.2.2 i v (zg_some hv hu) hu
/-- the locals as the kit lists them -/
def zpairs (n0 : Nat) (ext : Nat → Nat) (L : List Value) : List (Nat × Value) := (List.range L.length).filterMap fun i => match L[i]? with
  | some v => if v = .retAddr 0 then none else some (i, zv n0 ext v)
  | none => none
theorem zpairs_mem {n0 : Nat} {ext : Nat → Nat} {L : List Value} {i : Nat} {v : Value} (h : L[i]? = some v) (hv : v ≠ .retAddr 0) : (i, zv n0 ext v) ∈ zpairs n0 ext L := by
  refine List.mem_filterMap.mpr ⟨i, List.mem_range.mpr (List.getElem?_eq_some_iff.mp h).1, ?_⟩
  simp [h, hv]
theorem zLs_has {n0 n : Nat} {ext : Nat → Nat} {L : List Value} {ls : Array Slot} (h : zLs n0 ext n L ls) : lv_has ls n (zpairs n0 ext L) := by
  refine ⟨h.1, h.2.2.1, fun q hq => ?_⟩
  obtain ⟨i, -, hi⟩ := List.mem_filterMap.mp hq
  cases hL : L[i]? with
  | none => simp [hL] at hi
  | some v =>
    by_cases hv : v = .retAddr 0
    · simp [hL, hv] at hi
    · simp [hL, hv] at hi
      rw [← hi]
      exact h.2.2.2 i v hL hv
theorem zkill_len (L : List Value) (i : Nat) : (zkill L i).length = L.length := by
  cases i with
  | zero => rfl
  | succ j =>
    simp only [zkill]
    cases zwide (zg L j) <;> simp
theorem zkill_at {L : List Value} {i j : Nat} {v : Value} (h : (zkill L i)[j]? = some v) (hv : v ≠ .retAddr 0) : L[j]? = some v ∧ ¬ (j + 1 = i ∧ v.category = 2) := by
  cases i with
  | zero => exact ⟨h, fun q => by omega⟩
  | succ k =>
    simp only [zkill] at h
    cases hw : zwide (zg L k) with
    | true =>
      rw [hw] at h
      simp only [cond_true] at h
      by_cases hjk : j = k
      · subst hjk
        have hlt : j < (L.set j (.retAddr 0)).length := (List.getElem?_eq_some_iff.mp h).1
        rw [List.getElem?_set_self (by simpa using hlt)] at h
        exact absurd (Option.some.inj h).symm hv
      · rw [List.getElem?_set_ne (Ne.symm hjk)] at h
        exact ⟨h, fun q => by omega⟩
    | false =>
      rw [hw] at h
      simp only [cond_false] at h
      refine ⟨h, fun q => ?_⟩
      have hjk : j = k := by omega
      subst hjk
      have hz : zg L j = v := by
        have : ∀ (M : List Value) (i : Nat), M[i]? = some v → zg M i = v := by
          intro M
          induction M with
          | nil => intro i hi; simp at hi
          | cons a t ih =>
            intro i hi
            cases i with
            | zero => simp at hi; simp [zg, hi]
            | succ i => simp at hi; simp only [zg]; exact ih i hi
        exact this L j h
      rw [hz] at hw
      simp [zwide, q.2] at hw
theorem zLs_set1 {n0 n : Nat} {ext : Nat → Nat} {L : List Value} {ls ls' : Array Slot} (h : zLs n0 ext n L ls) {i : Nat} {v : Value} (hi : i < n) (h' : lv_has ls' n ((i, zv n0 ext v) :: (zpairs n0 ext L).filter (fun q => !(q.1 == i) && !(q.1 + 1 == i && q.2.category == 2)))) : zLs n0 ext n (zset1 L i v) ls' := by
  refine ⟨h'.1, by rw [zset1, List.length_set, zkill_len]; exact h.2.1, h'.2.1, fun j w hj hw => ?_⟩
  by_cases hji : j = i
  · subst hji
    rw [zset1, List.getElem?_set_self (by rw [zkill_len, h.2.1]; exact hi)] at hj
    cases hj
    exact h'.2.2 _ List.mem_cons_self
  · rw [zset1, List.getElem?_set_ne (Ne.symm hji)] at hj
    obtain ⟨h1, h2⟩ := zkill_at hj hw
    refine h'.2.2 (j, zv n0 ext w) (List.mem_cons_of_mem _ (List.mem_filter.mpr ⟨zpairs_mem h1 hw, ?_⟩))
    have h3 : ¬ (j + 1 = i ∧ (zv n0 ext w).category = 2) := by rw [zv_cat]; exact h2
    simp only [Bool.and_eq_true, Bool.not_eq_true', beq_eq_false_iff_ne, Bool.and_eq_false_iff, ne_eq]
    refine ⟨hji, ?_⟩
    by_cases hj1 : j + 1 = i
    · exact Or.inr fun q => h3 ⟨hj1, q⟩
    · exact Or.inl hj1
theorem zLs_set2 {n0 n : Nat} {ext : Nat → Nat} {L : List Value} {ls ls' : Array Slot} (h : zLs n0 ext n L ls) {i : Nat} {v : Value} (hi : i + 1 < n) (h' : lv_has ls' n ((i, zv n0 ext v) :: (zpairs n0 ext L).filter (fun q => !(q.1 == i) && (!(q.1 == i + 1) && !(q.1 + 1 == i && q.2.category == 2))))) : zLs n0 ext n (zset2 L i v) ls' := by
  refine ⟨h'.1, by rw [zset2, List.length_set, List.length_set, zkill_len]; exact h.2.1, h'.2.1, fun j w hj hw => ?_⟩
  by_cases hj1 : j = i + 1
  · subst hj1
    rw [zset2, List.getElem?_set_self (by rw [List.length_set, zkill_len, h.2.1]; exact hi)] at hj
    exact absurd (Option.some.inj hj).symm hw
  · rw [zset2, List.getElem?_set_ne (Ne.symm hj1)] at hj
    by_cases hji : j = i
    · subst hji
      rw [List.getElem?_set_self (by rw [zkill_len, h.2.1]; omega)] at hj
      cases hj
      exact h'.2.2 _ List.mem_cons_self
    · rw [List.getElem?_set_ne (Ne.symm hji)] at hj
      obtain ⟨h1, h2⟩ := zkill_at hj hw
      refine h'.2.2 (j, zv n0 ext w) (List.mem_cons_of_mem _ (List.mem_filter.mpr ⟨zpairs_mem h1 hw, ?_⟩))
      have h3 : ¬ (j + 1 = i ∧ (zv n0 ext w).category = 2) := by rw [zv_cat]; exact h2
      simp only [Bool.and_eq_true, Bool.not_eq_true', beq_eq_false_iff_ne, Bool.and_eq_false_iff, ne_eq]
      refine ⟨hji, hj1, ?_⟩
      by_cases hj2 : j + 1 = i
      · exact Or.inr fun q => h3 ⟨hj2, q⟩
      · exact Or.inl hj2
