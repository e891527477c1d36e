theorem q_law_pure : q_pure := sorry
