/-! LAYER 2: bits are as many as the sum -/
theorem pc_ext {f : Nat → Int} {n : Nat} : ∀ k, k ≤ n → xBits (fun j => if j < n then f j else 0) k = xBits f k ∧ xSum (fun j => if j < n then f j else 0) k = xSum f k := by
  intro k
  induction k with
  | zero => intro _; exact ⟨rfl, rfl⟩
  | succ k ih =>
    intro hk
    have := ih (by omega)
    unfold xBits xSum
    rw [this.1, this.2]
    simp only [if_pos (show k < n by omega)]
    exact ⟨trivial, trivial⟩
theorem pc_ext2 {f : Nat → Int} {n : Nat} : ∀ d, xBits (fun j => if j < n then f j else 0) (n + d) = xBits f n ∧ xSum (fun j => if j < n then f j else 0) (n + d) = xSum f n := by
  intro d
  induction d with
  | zero => exact pc_ext n (by omega)
  | succ d ih =>
    have z : (if n + d < n then f (n + d) else 0) = 0 := if_neg (by omega)
    refine ⟨?_, ?_⟩
    · show xBits (fun j => if j < n then f j else 0) (n + d) + (if n + d < n then f (n + d) else 0) * 2 ^ (n + d) = xBits f n
      rw [ih.1, z, Int.zero_mul, Int.add_zero]
    · show xSum (fun j => if j < n then f j else 0) (n + d) + (if n + d < n then f (n + d) else 0) = xSum f n
      rw [ih.2, z, Int.add_zero]
theorem pc_six {g : Nat → Int} (g01 : ∀ j, j < 6 → g j = 0 ∨ g j = 1) : ((pc (xBits g 6).toNat : Nat) : Int) = xSum g 6 := by
  have r := xBits_rng (f := g) (n := 6) g01
  have d0 := xBits_div (f := g) (b := 0) 5 (fun j hj => g01 j (by omega))
  have d1 := xBits_div (f := g) (b := 1) 4 (fun j hj => g01 j (by omega))
  have d2 := xBits_div (f := g) (b := 2) 3 (fun j hj => g01 j (by omega))
  have d3 := xBits_div (f := g) (b := 3) 2 (fun j hj => g01 j (by omega))
  have d4 := xBits_div (f := g) (b := 4) 1 (fun j hj => g01 j (by omega))
  have d5 := xBits_div (f := g) (b := 5) 0 (fun j hj => g01 j (by omega))
  obtain ⟨x, hx⟩ := Int.eq_ofNat_of_zero_le r.1
  have s6 : xSum g 6 = g 0 + g 1 + g 2 + g 3 + g 4 + g 5 := by
    show 0 + g 0 + g 1 + g 2 + g 3 + g 4 + g 5 = _
    rw [Int.zero_add]
  rw [show 0 + 1 + 5 = 6 from rfl, hx] at d0
  rw [show 1 + 1 + 4 = 6 from rfl, hx] at d1
  rw [show 2 + 1 + 3 = 6 from rfl, hx] at d2
  rw [show 3 + 1 + 2 = 6 from rfl, hx] at d3
  rw [show 4 + 1 + 1 = 6 from rfl, hx] at d4
  rw [show 5 + 1 + 0 = 6 from rfl, hx] at d5
  rw [hx, Int.toNat_natCast, s6, ← d0, ← d1, ← d2, ← d3, ← d4, ← d5]
  unfold pc
  simp only [Int.natCast_add, Int.natCast_emod, Int.natCast_ediv]
  rw [show (2 : Int) ^ 0 = 1 from rfl, Int.ediv_one]
  rfl
theorem pc_bits {f : Nat → Int} {n : Nat} (hn : n ≤ 6) (hf : ∀ j, j < n → f j = 0 ∨ f j = 1) : ((pc (xBits f n).toNat : Nat) : Int) = xSum f n := by
  have e := pc_ext2 (f := f) (n := n) (6 - n)
  rw [show n + (6 - n) = 6 by omega] at e
  have := pc_six (g := fun j => if j < n then f j else 0) (fun j _ => by
    show (if j < n then f j else 0) = 0 ∨ (if j < n then f j else 0) = 1
    by_cases c : j < n
    · rw [if_pos c]; exact hf j c
    · rw [if_neg c]; exact Or.inl rfl)
  rw [e.1, e.2] at this
  exact this
