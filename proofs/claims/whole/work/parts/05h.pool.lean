theorem zwk_0_3 : ∀ w ∈ zws 0 (3, 9, 0, 0), w ∈ lw_tbl ∧ (goodWord w || zisX w) = true := by decide +kernel
theorem zwk_0_9 : ∀ w ∈ zws 0 (9, 0, 0, 0), w ∈ lw_tbl ∧ (goodWord w || zisX w) = true := by decide +kernel
theorem zwk_0_15 : ∀ w ∈ zws 0 (15, 0, 0, 1), w ∈ lw_tbl ∧ (goodWord w || zisX w) = true := by decide +kernel
theorem zwk_0_18 : ∀ w ∈ zws 0 (18, 0, 0, 2), w ∈ lw_tbl ∧ (goodWord w || zisX w) = true := by decide +kernel
theorem zwk_0_21 : ∀ w ∈ zws 0 (21, 0, 0, 3), w ∈ lw_tbl ∧ (goodWord w || zisX w) = true := by decide +kernel
theorem zwk_0_24 : ∀ w ∈ zws 0 (24, 0, 0, 4), w ∈ lw_tbl ∧ (goodWord w || zisX w) = true := by decide +kernel
theorem zwk_0_28 : ∀ w ∈ zws 0 (28, 1, 2, 0), w ∈ lw_tbl ∧ (goodWord w || zisX w) = true := by decide +kernel
theorem zwk_0_32 : ∀ w ∈ zws 0 (32, 3, 42, 0), w ∈ lw_tbl ∧ (goodWord w || zisX w) = true := by decide +kernel
set_option maxRecDepth 20000 in
theorem zwok_0 : ∀ q ∈ zP_0, ∀ w ∈ zws 0 q, w ∈ lw_tbl ∧ (goodWord w || zisX w) = true := List.forall_mem_cons.mpr ⟨zwk_0_3, List.forall_mem_cons.mpr ⟨zwk_0_9, List.forall_mem_cons.mpr ⟨zwk_0_15, List.forall_mem_cons.mpr ⟨zwk_0_18, List.forall_mem_cons.mpr ⟨zwk_0_21, List.forall_mem_cons.mpr ⟨zwk_0_24, List.forall_mem_cons.mpr ⟨zwk_0_28, List.forall_mem_cons.mpr ⟨zwk_0_32, fun _ h => absurd h List.not_mem_nil⟩⟩⟩⟩⟩⟩⟩⟩
