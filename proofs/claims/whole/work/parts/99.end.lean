theorem eEnd : True := trivial
