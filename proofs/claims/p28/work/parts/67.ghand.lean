/-! CONTRACTS made by hand: their statements. -/
def gL_0 : List YCt := []
