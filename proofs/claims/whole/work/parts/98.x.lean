theorem zGoal_proved : zGoal := sorry
