theorem zz_last : sc_rank = sc_rank := rfl
theorem zz_l2 : True := by have := @k_X4_rank; have := @k_X4_recount; trivial
