-- to be written
theorem rz_ph88lookW : True := trivial
