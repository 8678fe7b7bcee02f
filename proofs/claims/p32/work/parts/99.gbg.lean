/-! an empty sheet -/
def yp_lwp (s : zE) : zE := (zup (zup (zup (zup (zup (zup (zup (zup s 47 0 0) 47 1 0) 49 0 0) 50 0 0) 49 1 0) 50 1 0) 49 2 0) 50 2 0)
def yp_wip (s : zE) : zE := yp_lwp (zup (zup (zup (zup (zup (zup (zup (zup (zup (zup (zup (zup (zup (zup (zup (zup (zup (zup (zup (zup s 32 0 0) 32 1 0) 32 2 0) 32 3 0) 32 4 3) 32 5 0) 32 6 0) 32 7 0) 35 0 (-1)) 35 1 (-1)) 35 2 (-1)) 35 3 (-1)) 35 4 (-1)) 35 5 (-1)) 35 6 (-1)) 35 7 (-1)) 35 8 (-1)) 35 9 (-1)) 35 10 (-1)) 35 11 (-1))
def yp_ini (n : Int) (s : zE) : zE := (zup (zup (zup (zup (zup (zup (zup (yp_wip s) 60 4 n) 60 5 0) 60 0 0) 60 1 (-1)) 61 0 0) 61 1 0) 61 2 0)
