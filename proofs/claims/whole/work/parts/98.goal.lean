theorem am_goal : am_Goal := sorry
