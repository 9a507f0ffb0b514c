def yr_reg : List Nat := []
def yr_tab : List (Nat × Nat × Nat × List (Nat × Int × Int)) := []
