theorem t_x : True := trivial
