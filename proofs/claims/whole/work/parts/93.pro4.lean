-- to be written
theorem rz_ph93pro4 : True := trivial
