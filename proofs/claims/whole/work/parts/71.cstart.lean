/-! LAYER 2: the class's try begins -/
theorem zc_start {F p n o : Nat} {σ π : mMem} {lamp step delay : Int} (ho : o = 29 ∨ o = 48 ∨ o = 79) (hn : n ≤ 6) (hp : p = 3 ∨ p = 8) (h3 : σ 20 3 = (p : Int)) (h4 : σ 20 4 = step) (h5 : σ 20 5 = lamp) : ∃ σ', g_X10_copyFrom F o 20 σ = some (0, σ') ∧ CR π p n lamp step delay (cB σ 21) 0 o σ' σ ∧ (∀ j, j < 60 → σ' (o + 1) j = σ 21 j) := by
  obtain ⟨σ', a1, a2, a3, a4, a5, a6⟩ := zc_copyFrom (F := F) (o := o) (w := 20) (σ := σ) (by omega) (by omega)
  refine ⟨σ', a1, ⟨fun q hq => a2 q (by omega) (by omega), fun j hj g hg => ?_, by rw [a4, h3], by rw [a5, h4]; omega, by rw [a6, h5]⟩, a3⟩
  exact a3 (10 * j + g) (by omega)
/-- what both tries need, of two that stand alike -/
theorem Rel.tries {σ : mMem} {p s : Nat} {N : Int} (r : Rel σ p s N) : ∃ n : Nat, n ≤ 6 ∧ σ p 11 = (n : Int) ∧ σ 20 3 = (p : Int) ∧ (∀ j, j < n → BEq (cB σ 21 j) (rB σ 0 j)) ∧ (∀ j, j < n → BR (σ p 9) (σ p 10) (cB σ 21 j)) ∧ (∀ j, j < n → BR (σ p 9) (σ p 10) (rB σ 0 j)) ∧ (∀ j, j < n → 0 ≤ σ 112 j ∧ σ 112 j ≤ 80) ∧ KRel σ 0 (σ 54 2) (σ 76) := by
  have hs := r.2.2.2.2.2.1.1.2.2.2.1
  have h3 := r.2.2.2.2.1.2.1.2.2
  obtain ⟨-, -, -, -, -, -, -, h11, -, -, hB, -⟩ := r.now
  refine ⟨(σ p 11).toNat, by omega, by omega, h3, fun j hj => (hB j hj).1, fun j hj => (hB j hj).2.2, fun j hj => (hB j hj).2.1.2, fun j hj => ?_, hs⟩
  have := (hB j hj).2.1.1
  rw [show 6 * 0 + j = j by omega] at this
  exact this
