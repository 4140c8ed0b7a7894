/-! every method of the two sides answers alike and keeps the relation -/
theorem rl_eqs : Eqs rl := ⟨eq_row, eq_right, eq_strike, eq_about, eq_sum, eq_change, eq_rate, eq_shift, eq_part, eq_moves, eq_move, eq_rounded, eq_factor, eq_outcome, eq_share, eq_expect, eq_seek, eq_story, eq_toll, eq_first, eq_count⟩
