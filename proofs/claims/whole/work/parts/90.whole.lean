theorem stub90 : True := trivial
