-- to be written
theorem rz_ph90pro1 : True := trivial
