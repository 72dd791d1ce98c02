theorem sm_last : True := trivial
