theorem test4_nil : True := trivial
