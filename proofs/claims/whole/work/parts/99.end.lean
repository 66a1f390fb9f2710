theorem t_zz : True := trivial
