theorem zwk_1_3 : ∀ w ∈ zws 1 (3, 9, 0, 0), w ∈ lw_tbl ∧ (goodWord w || zisX w) = true := by decide +kernel
theorem zwk_1_9 : ∀ w ∈ zws 1 (9, 0, 1, 0), w ∈ lw_tbl ∧ (goodWord w || zisX w) = true := by decide +kernel
theorem zwk_1_15 : ∀ w ∈ zws 1 (15, 0, 1, 1), w ∈ lw_tbl ∧ (goodWord w || zisX w) = true := by decide +kernel
theorem zwk_1_18 : ∀ w ∈ zws 1 (18, 0, 1, 2), w ∈ lw_tbl ∧ (goodWord w || zisX w) = true := by decide +kernel
theorem zwk_1_21 : ∀ w ∈ zws 1 (21, 0, 1, 3), w ∈ lw_tbl ∧ (goodWord w || zisX w) = true := by decide +kernel
theorem zwk_1_24 : ∀ w ∈ zws 1 (24, 0, 1, 4), w ∈ lw_tbl ∧ (goodWord w || zisX w) = true := by decide +kernel
theorem zwk_1_27 : ∀ w ∈ zws 1 (27, 0, 1, 5), w ∈ lw_tbl ∧ (goodWord w || zisX w) = true := by decide +kernel
theorem zwk_1_30 : ∀ w ∈ zws 1 (30, 0, 1, 9), w ∈ lw_tbl ∧ (goodWord w || zisX w) = true := by decide +kernel
theorem zwk_1_34 : ∀ w ∈ zws 1 (34, 0, 1, 6), w ∈ lw_tbl ∧ (goodWord w || zisX w) = true := by decide +kernel
theorem zwk_1_37 : ∀ w ∈ zws 1 (37, 0, 1, 7), w ∈ lw_tbl ∧ (goodWord w || zisX w) = true := by decide +kernel
theorem zwk_1_40 : ∀ w ∈ zws 1 (40, 0, 1, 8), w ∈ lw_tbl ∧ (goodWord w || zisX w) = true := by decide +kernel
theorem zwk_1_44 : ∀ w ∈ zws 1 (44, 1, 10, 0), w ∈ lw_tbl ∧ (goodWord w || zisX w) = true := by decide +kernel
theorem zwk_1_48 : ∀ w ∈ zws 1 (48, 1, 9, 0), w ∈ lw_tbl ∧ (goodWord w || zisX w) = true := by decide +kernel
set_option maxRecDepth 20000 in
theorem zwok_1 : ∀ q ∈ zP_1, ∀ w ∈ zws 1 q, w ∈ lw_tbl ∧ (goodWord w || zisX w) = true := List.forall_mem_cons.mpr ⟨zwk_1_3, List.forall_mem_cons.mpr ⟨zwk_1_9, List.forall_mem_cons.mpr ⟨zwk_1_15, List.forall_mem_cons.mpr ⟨zwk_1_18, List.forall_mem_cons.mpr ⟨zwk_1_21, List.forall_mem_cons.mpr ⟨zwk_1_24, List.forall_mem_cons.mpr ⟨zwk_1_27, List.forall_mem_cons.mpr ⟨zwk_1_30, List.forall_mem_cons.mpr ⟨zwk_1_34, List.forall_mem_cons.mpr ⟨zwk_1_37, List.forall_mem_cons.mpr ⟨zwk_1_40, List.forall_mem_cons.mpr ⟨zwk_1_44, List.forall_mem_cons.mpr ⟨zwk_1_48, fun _ h => absurd h List.not_mem_nil⟩⟩⟩⟩⟩⟩⟩⟩⟩⟩⟩⟩⟩
