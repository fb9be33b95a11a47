theorem z_mt_ok : ∀ t ∈ z_mt, z_chkM t = true := sorry
