set_option maxRecDepth 100000 in
theorem z_mt_ok : ∀ t ∈ z_mt, z_chkM t = true := by
  have h := List.forall_mem_append.mpr ⟨z_oks0, List.forall_mem_append.mpr ⟨z_oks100, List.forall_mem_append.mpr ⟨z_oks200, z_oks300⟩⟩⟩
  exact h
