-- to be written
theorem rz_ph92pro3 : True := trivial
