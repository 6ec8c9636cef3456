/-! more of the tables, decided; and how they are read -/
def zmk (z : Nat) (stat : Bool) : Bool := plainName (zname z).cls && decide ((zname z).cls ≠ "java/lang/invoke/MethodHandle") && decide ((zname z).cls ≠ "java/lang/invoke/VarHandle") && decide ((parseMethodDescriptor (zname z).desc).map (fun d => d.parameters.length) = some (bif stat then znar z else znar z - 1)) && Nat.ble (zmax z) 10 && (stat || Nat.ble 1 (znar z)) && decide ((zname z).cls = zcn (zcls z)) && Nat.blt z 123
def zpk (c : Nat) (q : Nat × Nat × Nat × Nat) : Bool := match q.2.1 with
  | 0 => Nat.blt q.2.2.1 4 && Nat.blt q.2.2.2 (znf q.2.2.1) && decide ((zfd q.2.2.1 q.2.2.2).1 = zcn q.2.2.1)
  | 1 => zmk q.2.2.1 false && (zhan q.2.2.1).isEmpty && Nat.blt (zcls q.2.2.1) 4
  | 2 => zmk q.2.2.1 true && Nat.beq (zcls q.2.2.1) c
  | 3 => zmk q.2.2.1 true && (zhan q.2.2.1).isEmpty
  | 4 => zmk q.2.2.1 false && (zhan q.2.2.1).isEmpty && decide ((zname q.2.2.1).name = "<init>") && decide (zret q.2.2.1 = none)
  | 5 => zmk q.2.2.1 false && (zhan q.2.2.1).isEmpty && decide ((zname q.2.2.1).name = "<init>") && decide (zret q.2.2.1 = none)
  | 7 => Nat.blt q.2.2.1 6
  | 8 => Nat.blt q.2.2.1 6 && (zt_at (zcn c) q.1 (zen q.2.2.1) (zes q.2.2.1) (zej q.2.2.1) (zeb q.2.2.1)).all vx_ot
  | _ => true
theorem zpk_0 : ∀ q ∈ zP_0, zpk 0 q = true := by decide +kernel
theorem zpk_1 : ∀ q ∈ zP_1, zpk 1 q = true := by decide +kernel
theorem zpk_2 : ∀ q ∈ zP_2, zpk 2 q = true := by decide +kernel
theorem zpk_3 : ∀ q ∈ zP_3, zpk 3 q = true := by decide +kernel
theorem zpk_4 : ∀ q ∈ zP_4, zpk 4 q = true := by decide +kernel
theorem zex_ok : ∀ e, e < 6 → Bundle.fit (zen e) = true ∧ (∀ n ∈ zes e, Bundle.fit n = true) ∧ (zes e).length ≤ 3 ∧ zt_by (zeb e) (zej e) := by
  have h : ∀ e, e < 6 → Bundle.fit (zen e) = true ∧ (∀ n ∈ zes e, Bundle.fit n = true) ∧ (zes e).length ≤ 3 ∧ (decode (zeb e) 0 = .ok (.aload_n 0, 1) ∧ decode (zeb e) 1 = .ok (.aload_n 1, 1) ∧ decode (zeb e) 2 = .ok (.invokespecial (zej e), 3) ∧ decode (zeb e) 5 = .ok (.return_, 1)) := by decide +kernel
  exact h
theorem zki_in {l : List (Nat × Nat × Int32)} {c i : Nat} {v : Int32} (h : zki l c i = some v) : (c, i, v) ∈ l := by
  induction l with
  | nil => simp [zki] at h
  | cons q r ih =>
    simp only [zki] at h
    cases hb : (Nat.beq q.1 c && Nat.beq q.2.1 i) with
    | true =>
      rw [hb] at h
      simp only [cond_true, Option.some.injEq] at h
      simp only [Bool.and_eq_true] at hb
      obtain ⟨a, b, w⟩ := q
      have h1 := Nat.eq_of_beq_eq_true hb.1
      have h2 := Nat.eq_of_beq_eq_true hb.2
      simp only at h1 h2 h
      subst h1; subst h2; subst h
      exact List.mem_cons_self
    | false =>
      rw [hb] at h
      exact List.mem_cons_of_mem _ (ih h)
theorem zkl_in {l : List (Nat × Nat × Int64)} {c i : Nat} {v : Int64} (h : zkl l c i = some v) : (c, i, v) ∈ l := by
  induction l with
  | nil => simp [zkl] at h
  | cons q r ih =>
    simp only [zkl] at h
    cases hb : (Nat.beq q.1 c && Nat.beq q.2.1 i) with
    | true =>
      rw [hb] at h
      simp only [cond_true, Option.some.injEq] at h
      simp only [Bool.and_eq_true] at hb
      obtain ⟨a, b, w⟩ := q
      have h1 := Nat.eq_of_beq_eq_true hb.1
      have h2 := Nat.eq_of_beq_eq_true hb.2
      simp only at h1 h2 h
      subst h1; subst h2; subst h
      exact List.mem_cons_self
    | false =>
      rw [hb] at h
      exact List.mem_cons_of_mem _ (ih h)
theorem zki_ok : ∀ q ∈ zKI, Cond.constant (zcn q.1) q.2.1 q.2.2 ∈ lw_tbl ∧ goodWord (Cond.constant (zcn q.1) q.2.1 q.2.2) = true := by decide +kernel
theorem zkl_ok : ∀ q ∈ zKL, Cond.constantLong (zcn q.1) q.2.1 q.2.2 ∈ lw_tbl ∧ goodWord (Cond.constantLong (zcn q.1) q.2.1 q.2.2) = true := by decide +kernel
theorem zar_ok : (Cond.arrayClass .int ∈ lw_tbl ∧ Cond.arrayClass .long ∈ lw_tbl) ∧ Cond.arrayClass .boolean ∈ lw_tbl := by decide +kernel
theorem zlook_in {l : List (Nat × Nat × Nat × Nat)} {i : Nat} {r : Nat × Nat × Nat} (h : zlook l i = some r) : (i, r) ∈ l := by
  induction l with
  | nil => simp [zlook] at h
  | cons q t ih =>
    simp only [zlook] at h
    cases hb : Nat.beq q.1 i with
    | true =>
      rw [hb] at h
      simp only [cond_true, Option.some.injEq] at h
      have h1 := Nat.eq_of_beq_eq_true hb
      obtain ⟨a, w⟩ := q
      simp only at h1 h
      subst h1; subst h
      exact List.mem_cons_self
    | false =>
      rw [hb] at h
      exact List.mem_cons_of_mem _ (ih h)
theorem zpool_ok {y i : Nat} {r : Nat × Nat × Nat} (h : zpool y i = some r) : zpk (zcls y) (i, r) = true ∧ ∀ w ∈ zws (zcls y) (i, r), w ∈ lw_tbl ∧ (goodWord w || zisX w) = true := by
  have hin := zlook_in h
  rcases (show zcls y = 0 ∨ zcls y = 1 ∨ zcls y = 2 ∨ zcls y = 3 ∨ zcls y = 4 ∨ 5 ≤ zcls y by omega) with h0 | h0 | h0 | h0 | h0 | h0
  · rw [h0] at hin ⊢; exact ⟨zpk_0 _ hin, zwok_0 _ hin⟩
  · rw [h0] at hin ⊢; exact ⟨zpk_1 _ hin, zwok_1 _ hin⟩
  · rw [h0] at hin ⊢; exact ⟨zpk_2 _ hin, zwok_2 _ hin⟩
  · rw [h0] at hin ⊢; exact ⟨zpk_3 _ hin, zwok_3 _ hin⟩
  · rw [h0] at hin ⊢; exact ⟨zpk_4 _ hin, zwok_4 _ hin⟩
  · have : zPs.getD (zcls y) [] = [] := by
      rw [List.getD_eq_getElem?_getD, List.getElem?_eq_none (by show 5 ≤ _; exact h0)]; rfl
    rw [this] at hin
    cases hin
theorem zfind_in {l : List (Nat × Instr × Nat)} {pc : Nat} {r : Instr × Nat} (h : zfind l pc = some r) : (pc, r) ∈ l := by
  induction l with
  | nil => simp [zfind] at h
  | cons q t ih =>
    simp only [zfind] at h
    cases hb : Nat.beq q.1 pc with
    | true =>
      rw [hb] at h
      simp only [cond_true, Option.some.injEq] at h
      have h1 := Nat.eq_of_beq_eq_true hb
      obtain ⟨a, w⟩ := q
      simp only at h1 h
      subst h1; subst h
      exact List.mem_cons_self
    | false =>
      rw [hb] at h
      exact List.mem_cons_of_mem _ (ih h)
theorem zat_ok {y pc : Nat} {r : Instr × Nat} (h : zat y pc = some r) : decode (zbyt y) pc = .ok r ∧ zaim pc r.1 = true ∧ (match zlen r.1 with | some k => Nat.beq k r.2 | none => true) = true ∧ y < 124 := by
  have hin := zfind_in h
  have hy : y < 124 := by
    rcases Nat.lt_or_ge y 124 with q | q
    · exact q
    · have : zTs.getD y [] = [] := by
        rw [List.getD_eq_getElem?_getD, List.getElem?_eq_none (by rw [zlens.2]; exact q)]; rfl
      rw [this] at hin
      cases hin
  have h1 : zMs[y]? = some (zm y) := by
    rw [zm, List.getD_eq_getElem?_getD, List.getElem?_eq_getElem (by rw [zlens.1]; exact hy)]; rfl
  have h2 : zTs[y]? = some (zTs.getD y []) := by
    rw [List.getD_eq_getElem?_getD, List.getElem?_eq_getElem (by rw [zlens.2]; exact hy)]; rfl
  have h3 : (zm y, zTs.getD y []) ∈ zMs.zip zTs := by
    refine List.mem_of_getElem? (i := y) ?_
    exact List.getElem?_zip_eq_some.mpr ⟨h1, h2⟩
  have h4 := List.all_eq_true.mp (zr_all _ h3) _ hin
  simp only [zrow, Bool.and_eq_true, decide_eq_true_eq] at h4
  exact ⟨h4.1.1, h4.1.2, h4.2, hy⟩
