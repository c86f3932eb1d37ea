-- to be written
theorem rz_ph94pro5 : True := trivial
