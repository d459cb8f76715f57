theorem x_last : True := trivial
