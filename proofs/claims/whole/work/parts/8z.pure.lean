theorem xm_pure_ok : xm_pure := sorry
