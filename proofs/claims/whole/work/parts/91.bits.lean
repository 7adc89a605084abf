/-! LAYER 2: how many bits -/
/-- how many bits -/
def pc (x : Nat) : Nat := x % 2 + x / 2 % 2 + x / 4 % 2 + x / 8 % 2 + x / 16 % 2 + x / 32 % 2
theorem pc_and : ∀ x : Fin 64, mand ((x.val : Nat) : Int) (((x.val : Nat) : Int) - 1) = ((x.val &&& (x.val - 1) : Nat) : Int) := by decide
