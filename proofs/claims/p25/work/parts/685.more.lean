/-! an answer that may be null -/
def g_wQ : Option Nat × gH → Option Value × gH := fun x => (some (va_rf x.1), x.2)
