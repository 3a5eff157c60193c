theorem iwX5 : ∀ w ∈ wsX50, w ∈ lw_tbl := by decide +kernel
theorem iwX0 : ∀ w ∈ wsX00, w ∈ lw_tbl := by decide +kernel
theorem iwX2 : ∀ w ∈ wsX20, w ∈ lw_tbl := by decide +kernel
theorem iwX1 : ∀ w ∈ wsX10, w ∈ lw_tbl := by decide +kernel
theorem iwX3 : ∀ w ∈ wsX30, w ∈ lw_tbl := by decide +kernel
theorem iwX4 : ∀ w ∈ wsX40, w ∈ lw_tbl := by decide +kernel
theorem wsL_law_in : ∀ w ∈ wsL_law, w ∈ lw_tbl := by
  unfold wsL_law
  have ap : ∀ {a b : List Cond}, (∀ w ∈ a, w ∈ lw_tbl) → (∀ w ∈ b, w ∈ lw_tbl) → ∀ w ∈ a ++ b, w ∈ lw_tbl := fun h1 h2 => List.forall_mem_append.mpr ⟨h1, h2⟩
  exact (ap (ap (ap (ap (ap (ap (ap (ap iwsL_law_r1 (ap iwsL_law_r2 (ap iwsL_law_r3 (ap iwsL_law_r4 (ap iwsL_law_r5 (ap iwsL_law_r6 (ap iwsL_law_r7 (ap iwsL_law_r8 (ap iwsL_law_r9 (ap iwsL_law_r10 (ap iwsL_law_r11 (ap iwsL_law_r12 (ap iwsL_law_r13 (ap iwsL_law_r14 (ap iwsL_law_r15 (ap iwsL_law_r16 iwsL_law_r17)))))))))))))))) iwX5) iwX0) iwX2) iwX1) iwX3) iwX4) lwn)
