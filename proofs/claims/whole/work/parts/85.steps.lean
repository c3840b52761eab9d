/-! All calls. -/
theorem inv_steps : LawSteps Inv := ⟨sp_player, sp_places, sp_seat, sp_held, sp_worth, sp_stepOf, sp_trace, sp_tournament, sp_enter, sp_withdraw, sp_rule, sp_draw, sp_pair, sp_round, sp_tell, sp_takeBack, sp_counts, sp_points, sp_sum, sp_place, sp_standing, sp_why, sp_rated, sp_mean, sp_could, sp_found, sp_step, sp_empty, sp_run, sp_ran, sp_copy, sp_alike, sp_finding, sp_told⟩
