/-! LAYER 2: kitchen, the class reads one byte -/
theorem xPk_rng {b : Nat → Int} {s : Nat} : ∀ n, n ≤ 6 → (∀ j, j < n → xLt b (s + j)) → ∃ a : Int, 0 ≤ a ∧ a < 2 ^ (5 * n) ∧ xPk b s n = a * 2 ^ (30 - 5 * n)
  | 0, _, _ => ⟨0, by decide, by decide, by unfold xPk; omega⟩
  | n + 1, hn, h => by
    obtain ⟨a, a1, a2, a3⟩ := xPk_rng n (by omega) (fun j hj => h j (by omega))
    have hl := h n (by omega)
    refine ⟨32 * a + (b (s + n) - 96), by omega, ?_, ?_⟩
    · rw [show 5 * (n + 1) = 5 * n + 5 by omega, Int.pow_add, show (2 : Int) ^ 5 = 32 by decide]
      omega
    · show xPk b s n + (b (s + n) - 96) * 2 ^ (25 - 5 * n) = _
      rw [a3, show 30 - 5 * n = (25 - 5 * n) + 5 by omega, show 30 - 5 * (n + 1) = 25 - 5 * n by omega, Int.pow_add, show (2 : Int) ^ 5 = 32 by decide]
      rw [Int.add_mul, Int.mul_comm 32 a, Int.mul_assoc a 32, Int.mul_comm 32]
theorem pk_or {b : Nat → Int} {s n : Nat} (hn : n < 6) (h : ∀ j, j < n + 1 → xLt b (s + j)) : mor (xPk b s n) (mshl (b (s + n) - 97 + 1) (5 * (5 - (n : Int)))) = xPk b s (n + 1) := by
  obtain ⟨a, a1, a2, a3⟩ := xPk_rng n (by omega) (fun j hj => h j (by omega))
  have hl := h n (by omega)
  show _ = xPk b s n + (b (s + n) - 96) * 2 ^ (25 - 5 * n)
  rw [a3, show b (s + n) - 97 + 1 = b (s + n) - 96 by omega]
  obtain ⟨l, el⟩ : ∃ l, l = b (s + n) - 96 := ⟨_, rfl⟩
  rw [← el]
  rcases (by omega : n = 0 ∨ n = 1 ∨ n = 2 ∨ n = 3 ∨ n = 4 ∨ n = 5) with rfl | rfl | rfl | rfl | rfl | rfl
  · simp only [Nat.mul_zero, Nat.sub_zero, Int.natCast_zero] at a2 ⊢
    rw [mshl_n (s := 5 * (5 - 0)) 25 (by omega) (by omega) (by decide), mor_n (a := a) 30 a1 (by omega) (by omega)]
  · simp only [Nat.mul_one, Nat.reduceSub] at a2 ⊢
    rw [mshl_n (s := 5 * (5 - ((1 : Nat) : Int))) 20 (by omega) (by omega) (by decide), mor_n (a := a) 25 a1 (by omega) (by omega)]
  · simp only [Nat.reduceMul, Nat.reduceSub] at a2 ⊢
    rw [mshl_n (s := 5 * (5 - ((2 : Nat) : Int))) 15 (by omega) (by omega) (by decide), mor_n (a := a) 20 a1 (by omega) (by omega)]
  · simp only [Nat.reduceMul, Nat.reduceSub] at a2 ⊢
    rw [mshl_n (s := 5 * (5 - ((3 : Nat) : Int))) 10 (by omega) (by omega) (by decide), mor_n (a := a) 15 a1 (by omega) (by omega)]
  · simp only [Nat.reduceMul, Nat.reduceSub] at a2 ⊢
    rw [mshl_n (s := 5 * (5 - ((4 : Nat) : Int))) 5 (by omega) (by omega) (by decide), mor_n (a := a) 10 a1 (by omega) (by omega)]
  · simp only [Nat.reduceMul, Nat.reduceSub] at a2 ⊢
    rw [mshl_n (s := 5 * (5 - ((5 : Nat) : Int))) 0 (by omega) (by omega) (by decide), mor_n (a := a) 5 a1 (by omega) (by omega)]
/-- a letter behind n letters -/
theorem c_addL {F i n s k : Nat} {σ : mMem} {b : Nat → Int} (hc : σ 14 5 = ((i + 1 : Nat) : Int)) (hi : i < 1600) (h17 : σ 17 i = (s : Int)) (hk : k = s + n) (hk2 : k < 1600) (h18 : σ 18 i = xPk b s n) (hl : ∀ j, j < n → xLt b (s + j)) (hb : xLt b k) (hn : n ≤ 6) : (n < 6 → g_X8_addLetter F (k : Int) (b k) σ = some (1, mup (mup σ 16 i 1) 18 i (xPk b s (n + 1)))) ∧ (n = 6 → g_X8_addLetter F (k : Int) (b k) σ = some (0, mup (mup σ 16 i 5) 18 i (k : Int))) := by
  have head : ∀ X, (if mw 6 ≤ mw (n : Int) then (g_X8_addLetter_b44 F (k : Int) (b k) (i : Int) (n : Int) 0 σ) else (g_X8_addLetter_b44 F (k : Int) (b k) (i : Int) (n : Int) 1 σ)) = X → g_X8_addLetter F (k : Int) (b k) σ = X := by
    intro X hX
    unfold g_X8_addLetter
    rw [hc, show ((i + 1 : Nat) : Int) - 1 = (i : Int) by omega]
    refine e_let ?_
    rw [mwN (i := i) (by omega), h17, show (k : Int) - (s : Int) = (n : Int) by omega]
    exact e_f (by rw [mw_id (by omega) (by omega)]; omega) (e_t (by rw [mw_id (by omega) (by omega), mw_id (by omega) (by omega)]; omega) (e_t (mwR (by omega) (by decide)) (e_let hX)))
  refine ⟨fun n6 => head _ ?_, fun n6 => head _ ?_⟩
  · refine e_f (by rw [mw_id (by omega) (by omega), mw_id (by omega) (by omega)]; omega) ?_
    unfold g_X8_addLetter_b44 g_X8_addLetter_b61 g_X8_addLetter_b95
    rw [mwN (i := i) (by omega)]
    refine e_f (by decide) (e_t (mwR (by omega) (by decide)) (e_mem (e_f (by decide) (e_t (mwR (by omega) (by decide)) (e_mob (rfl : g_X5_shiftOf F (n : Int) _ = some (5 * (5 - (n : Int)), _)) (e_t (mwR (by omega) (by decide)) (e_mem (e_t (by decide) ?_))))))))
    rw [mup_off (o := 16) (q := 18) (by decide), h18, hk, pk_or n6 (fun j hj => by
      by_cases c : j = n
      · rw [c, ← hk]; exact hb
      · exact hl j (by omega))]
  · subst n6
    refine e_t (by decide) ?_
    unfold g_X8_addLetter_b44 g_X8_addLetter_b61 g_X8_addLetter_b95
    rw [mwN (i := i) (by omega)]
    exact e_t (by decide) (e_t (mwR (by omega) (by decide)) (e_mem (e_t (by decide) (e_t (mwR (by omega) (by decide)) (e_mem (e_t (by decide) rfl))))))
theorem c_addD {F i n s k : Nat} {σ : mMem} {b : Nat → Int} (hc : σ 14 5 = ((i + 1 : Nat) : Int)) (hi : i < 1600) (h17 : σ 17 i = (s : Int)) (hk : k = s + n) (hk2 : k < 1600) (h18 : σ 18 i = xNu b s n) (hn : n ≤ 4) : (n < 4 → g_X8_addDigit F (k : Int) (b k) σ = some (1, mup (mup σ 16 i 3) 18 i (xNu b s (n + 1)))) ∧ (n = 4 → g_X8_addDigit F (k : Int) (b k) σ = some (0, mup (mup σ 16 i 5) 18 i (k : Int))) := by
  have head : ∀ X, (if mw 4 ≤ mw (n : Int) then (g_X8_addDigit_b39 F (k : Int) (b k) (i : Int) 0 σ) else (g_X8_addDigit_b39 F (k : Int) (b k) (i : Int) 1 σ)) = X → g_X8_addDigit F (k : Int) (b k) σ = X := by
    intro X hX
    unfold g_X8_addDigit
    rw [hc, show ((i + 1 : Nat) : Int) - 1 = (i : Int) by omega]
    refine e_let ?_
    rw [mwN (i := i) (by omega), h17, show (k : Int) - (s : Int) = (n : Int) by omega]
    exact e_f (by rw [mw_id (by omega) (by omega)]; omega) (e_t (by rw [mw_id (by omega) (by omega), mw_id (by omega) (by omega)]; omega) (e_t (mwR (by omega) (by decide)) hX))
  refine ⟨fun n4 => head _ ?_, fun n4 => head _ ?_⟩
  · refine e_f (by rw [mw_id (by omega) (by omega), mw_id (by omega) (by omega)]; omega) ?_
    unfold g_X8_addDigit_b39 g_X8_addDigit_b56 g_X8_addDigit_b85
    rw [mwN (i := i) (by omega)]
    refine e_f (by decide) (e_t (mwR (by omega) (by decide)) (e_mem (e_f (by decide) (e_t (mwR (by omega) (by decide)) (e_t (mwR (by omega) (by decide)) (e_mem (e_t (by decide) ?_)))))))
    rw [mup_off (o := 16) (q := 18) (by decide), h18, hk]
    rfl
  · subst n4
    refine e_t (by decide) ?_
    unfold g_X8_addDigit_b39 g_X8_addDigit_b56 g_X8_addDigit_b85
    rw [mwN (i := i) (by omega)]
    exact e_t (by decide) (e_t (mwR (by omega) (by decide)) (e_mem (e_t (by decide) (e_t (mwR (by omega) (by decide)) (e_mem (e_t (by decide) rfl))))))
