-- to be written
theorem rz_ph89lookL : True := trivial
