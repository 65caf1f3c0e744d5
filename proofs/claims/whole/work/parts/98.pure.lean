theorem dr_pure_ok : dr_pure := sorry
