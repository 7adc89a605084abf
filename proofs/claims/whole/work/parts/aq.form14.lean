/-! LAYER 2: kitchen, formulas: all rules -/
theorem ok_all {F l p i fr : Nat} {b : Nat → Int} {m : Int} (cx : Cx F l p i b) : ∀ (d o : Nat), o ≤ 7 → (8 * (8 - o) + 1 ≤ d → OkC F l p i fr b m (g_X1_rec F d) o) ∧ (8 * (8 - o) + 2 ≤ d → Ok F l p i fr b m (fun o σ => g_X1_rec F d 6 o 0 σ) 7 o) ∧ (8 * (8 - o) + 3 ≤ d → Ok F l p i fr b m (fun o σ => g_X1_rec F d 5 o 0 σ) 6 o) ∧ (8 * (8 - o) + 4 ≤ d → Ok F l p i fr b m (fun o σ => g_X1_rec F d 4 o 0 σ) 5 o) ∧ (8 * (8 - o) + 5 ≤ d → Ok F l p i fr b m (fun o σ => g_X1_rec F d 3 o 0 σ) 4 o) ∧ (8 * (8 - o) + 6 ≤ d → Ok F l p i fr b m (fun o σ => g_X1_rec F d 2 o 0 σ) 3 o) ∧ (8 * (8 - o) + 7 ≤ d → Ok F l p i fr b m (fun o σ => g_X1_rec F d 1 o 0 σ) 2 o) ∧ (8 * (8 - o) + 8 ≤ d → Ok F l p i fr b m (fun o σ => g_X1_rec F d 0 o 0 σ) 1 o) := by
  intro d
  induction d with
  | zero => exact fun o ho => ⟨fun h => by omega, fun h => by omega, fun h => by omega, fun h => by omega, fun h => by omega, fun h => by omega, fun h => by omega, fun h => by omega⟩
  | succ d ih =>
    intro o ho
    obtain ⟨i1, i2, i3, i4, i5, i6, i7, -⟩ := ih o ho
    have dc : ∀ t, t ≤ 6 → 8 ≤ d → Dc p (g_X1_rec F d) t := fun t h1 h2 => d_rec cx.1 t d h1 (by omega)
    have up4 : 8 * (8 - o) + 1 ≤ d + 1 → o < 7 → Ok F l p i fr b m (fun o σ => g_X1_rec F d 4 o 0 σ) 5 (o + 1) := fun h q => (ih (o + 1) (by omega)).2.2.2.1 (by omega)
    have up2 : 8 * (8 - o) + 1 ≤ d + 1 → o < 7 → Ok F l p i fr b m (fun o σ => g_X1_rec F d 2 o 0 σ) 3 (o + 1) := fun h q => (ih (o + 1) (by omega)).2.2.2.2.2.1 (by omega)
    have up0 : 8 * (8 - o) + 1 ≤ d + 1 → o < 7 → Ok F l p i fr b m (fun o σ => g_X1_rec F d 0 o 0 σ) 1 (o + 1) := fun h q => (ih (o + 1) (by omega)).2.2.2.2.2.2.2 (by omega)
    refine ⟨fun h => ?_, fun h => ?_, fun h => ?_, fun h => ?_, fun h => ?_, fun h => ?_, fun h => ?_, fun h => ?_⟩
    · exact ok_choice cx (up4 (by omega)) (up0 (by omega)) (dc 4 (by omega) (by omega)) (dc 0 (by omega) (by omega))
    · exact ok_part cx (i1 (by omega)) (up4 (by omega)) (dc 4 (by omega) (by omega))
    · exact ok_prod cx (i2 (by omega)) (dc 6 (by omega) (by omega))
    · exact ok_sum cx (i3 (by omega)) (dc 5 (by omega) (by omega))
    · exact ok_comp cx (i4 (by omega)) (dc 4 (by omega) (by omega))
    · exact ok_fact cx (i5 (by omega)) (up2 (by omega)) (up0 (by omega)) (dc 2 (by omega) (by omega)) (dc 0 (by omega) (by omega))
    · exact ok_both cx (i6 (by omega)) (dc 2 (by omega) (by omega))
    · exact ok_test cx (i7 (by omega)) (dc 1 (by omega) (by omega))
