-- to be written
theorem rz_ph95start : True := trivial
