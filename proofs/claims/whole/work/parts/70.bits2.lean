/-! LAYER 2: sets of boxes as bits -/
theorem xBits_zero {f : Nat → Int} : ∀ {n : Nat}, (∀ j, j < n → f j = 0 ∨ f j = 1) → (xBits f n = 0 ↔ xSum f n = 0) ∧ 0 ≤ xSum f n
  | 0, _ => ⟨Iff.rfl, by unfold xSum; decide⟩
  | n + 1, h => by
    have ih := xBits_zero (f := f) (n := n) (fun j hj => h j (by omega))
    have r := xBits_rng (f := f) (n := n) (fun j hj => h j (by omega))
    have hp : (0 : Int) < 2 ^ n := Int.pow_pos (by decide)
    show (xBits f n + f n * 2 ^ n = 0 ↔ xSum f n + f n = 0) ∧ 0 ≤ xSum f n + f n
    rcases h n (by omega) with e | e <;> rw [e]
    · rw [Int.zero_mul, Int.add_zero, Int.add_zero]
      exact ih
    · rw [Int.one_mul]
      refine ⟨⟨fun q => ?_, fun q => ?_⟩, ?_⟩ <;> omega
theorem bit_at : ∀ b : Fin 6, ∀ x : Fin 64, mand (mshr ((x : Nat) : Int) ((b : Nat) : Int)) 1 = ((x : Nat) / 2 ^ (b : Nat) % 2 : Nat) := by decide
theorem xBits_div {f : Nat → Int} {b : Nat} : ∀ d, (∀ j, j < b + 1 + d → f j = 0 ∨ f j = 1) → xBits f (b + 1 + d) / 2 ^ b % 2 = f b
  | 0, h => by
    have r := xBits_rng (f := f) (n := b) (fun j hj => h j (by omega))
    have hp : (0 : Int) < 2 ^ b := Int.pow_pos (by decide)
    show (xBits f b + f b * 2 ^ b) / 2 ^ b % 2 = f b
    rw [Int.add_mul_ediv_right _ _ (by omega), Int.ediv_eq_zero_of_lt r.1 r.2]
    rcases h b (by omega) with e | e <;> rw [e] <;> decide
  | d + 1, h => by
    have ih := xBits_div (f := f) (b := b) d (fun j hj => h j (by omega))
    have hp : (0 : Int) < 2 ^ b := Int.pow_pos (by decide)
    show (xBits f (b + 1 + d) + f (b + 1 + d) * 2 ^ (b + 1 + d)) / 2 ^ b % 2 = f b
    rw [show f (b + 1 + d) * 2 ^ (b + 1 + d) = (f (b + 1 + d) * 2 ^ d * 2) * 2 ^ b by rw [show b + 1 + d = d + 1 + b by omega, Int.pow_add, Int.pow_succ, ← Int.mul_assoc, ← Int.mul_assoc], Int.add_mul_ediv_right _ _ (by omega)]
    omega
