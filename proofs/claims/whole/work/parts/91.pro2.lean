-- to be written
theorem rz_ph91pro2 : True := trivial
