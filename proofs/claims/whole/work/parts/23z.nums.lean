/-! numbers of the law -/
def zcel : Nat := 85
def zslo : Nat := 12522
def zCC : Nat := 600000
def zSS : Nat := 7302249
