/-! LAYER 2: how many bits -/
/-- how many bits -/
def pc (x : Nat) : Nat := x % 2 + x / 2 % 2 + x / 4 % 2 + x / 8 % 2 + x / 16 % 2 + x / 32 % 2
theorem pc_and : ∀ x : Fin 64, mand ((x.val : Nat) : Int) (((x.val : Nat) : Int) - 1) = ((x.val &&& (x.val - 1) : Nat) : Int) := by decide
theorem pc_step : ∀ x : Fin 64, x.val ≠ 0 → pc (x.val &&& (x.val - 1)) + 1 = pc x.val := by decide
theorem pc_0 : ∀ x : Fin 64, pc x.val = 0 → x.val = 0 := by decide
theorem zr_bits {F : Nat} {τ : mMem} : ∀ (d x fuel : Nat) (acc : Int), pc x = d → x < 64 → d < fuel → g_X12_bits_h4 F fuel acc (x : Int) τ = some (acc + d, τ) := by
  intro d
  induction d with
  | zero =>
    intro x fuel acc h1 h2 h3
    obtain ⟨f, rfl⟩ : ∃ f, fuel = f + 1 := ⟨fuel - 1, by omega⟩
    have e := pc_0 ⟨x, h2⟩ h1
    simp only at e
    subst e
    unfold g_X12_bits_h4
    refine e_t (by decide) ?_
    rw [show acc + ((0 : Nat) : Int) = acc by omega]
  | succ d ih =>
    intro x fuel acc h1 h2 h3
    obtain ⟨f, rfl⟩ : ∃ f, fuel = f + 1 := ⟨fuel - 1, by omega⟩
    have x0 : x ≠ 0 := fun e => by
      subst e
      have : pc 0 = 0 := by decide
      omega
    have p1 := pc_and ⟨x, h2⟩
    have p3 := pc_step ⟨x, h2⟩ x0
    simp only at p1 p3
    have p2 : (x &&& (x - 1)) < 64 := Nat.lt_of_le_of_lt Nat.and_le_left h2
    generalize x &&& (x - 1) = y at p1 p2 p3
    unfold g_X12_bits_h4
    refine e_f (by rw [mw_id (by omega) (by omega)]; omega) (e_let ?_)
    rw [p1, ih y f (acc + 1) (by omega) p2 (by omega), show acc + 1 + (d : Int) = acc + ((d + 1 : Nat) : Int) by omega]
