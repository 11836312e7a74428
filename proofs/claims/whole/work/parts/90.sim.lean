theorem sim : ∃ R9, so_all R9 := sorry
