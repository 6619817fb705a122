/-! the words, joined -/
set_option maxRecDepth 100000 in
theorem in_X5 : ∀ w ∈ wsX50, w ∈ lw_tbl := by decide +kernel
set_option maxRecDepth 100000 in
theorem in_X4 : ∀ w ∈ wsX40, w ∈ lw_tbl := by decide +kernel
set_option maxRecDepth 100000 in
theorem in_X2 : ∀ w ∈ wsX20, w ∈ lw_tbl := by decide +kernel
set_option maxRecDepth 100000 in
theorem in_X3 : ∀ w ∈ wsX30, w ∈ lw_tbl := by decide +kernel
set_option maxRecDepth 100000 in
theorem in_X0 : ∀ w ∈ wsX00, w ∈ lw_tbl := by decide +kernel
set_option maxRecDepth 100000 in
theorem in_X1 : ∀ w ∈ wsX10, w ∈ lw_tbl := by decide +kernel
theorem in_0 : ∀ w ∈ wsL_law0, w ∈ lw_tbl := by
  unfold wsL_law0
  exact List.forall_mem_append.mpr ⟨List.forall_mem_append.mpr ⟨List.forall_mem_append.mpr ⟨List.forall_mem_append.mpr ⟨List.forall_mem_append.mpr ⟨List.forall_mem_append.mpr ⟨List.forall_mem_append.mpr ⟨List.forall_mem_append.mpr ⟨in_r1, List.forall_mem_append.mpr ⟨in_r2, List.forall_mem_append.mpr ⟨in_r3, List.forall_mem_append.mpr ⟨in_r4, List.forall_mem_append.mpr ⟨in_r5, List.forall_mem_append.mpr ⟨in_r6, List.forall_mem_append.mpr ⟨in_r7, List.forall_mem_append.mpr ⟨in_r8, List.forall_mem_append.mpr ⟨in_r9, List.forall_mem_append.mpr ⟨in_r10, List.forall_mem_append.mpr ⟨in_r11, List.forall_mem_append.mpr ⟨in_r12, List.forall_mem_append.mpr ⟨in_r13, List.forall_mem_append.mpr ⟨in_r14, List.forall_mem_append.mpr ⟨in_r15, List.forall_mem_append.mpr ⟨in_r16, List.forall_mem_append.mpr ⟨in_r17, List.forall_mem_append.mpr ⟨in_r18, List.forall_mem_append.mpr ⟨in_r19, List.forall_mem_append.mpr ⟨in_r20, List.forall_mem_append.mpr ⟨in_r21, List.forall_mem_append.mpr ⟨in_r22, in_r23⟩⟩⟩⟩⟩⟩⟩⟩⟩⟩⟩⟩⟩⟩⟩⟩⟩⟩⟩⟩⟩⟩, in_X5⟩, in_X4⟩, in_X2⟩, in_X3⟩, in_X0⟩, in_X1⟩, fun _ h => absurd h List.not_mem_nil⟩
theorem law_in : ∀ w ∈ wsL_law, w ∈ lw_tbl := by
  unfold wsL_law
  exact List.forall_mem_append.mpr ⟨List.forall_mem_append.mpr ⟨List.forall_mem_append.mpr ⟨in_0, in_x0⟩, in_x1⟩, in_x2⟩
