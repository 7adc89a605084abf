/-! LAYER 2: kitchen, names -/
theorem r_own0 {F : Nat} {τ : mMem} {w : Int} : g_X12_isOwn F w τ = some (1, τ) ∨ (g_X12_isOwn F w τ = some (0, τ) ∧ ∀ k, k < 28 → ¬ mwl w = mwl (xOW k)) := by
  have k40 : g_X12_isOwn_b40 F τ = some (1, τ) := by unfold g_X12_isOwn_b40; exact e_t (by decide) rfl
  have k82 : g_X12_isOwn_b82 F τ = some (1, τ) := by unfold g_X12_isOwn_b82; exact e_t (by decide) rfl
  have k124 : g_X12_isOwn_b124 F τ = some (1, τ) := by unfold g_X12_isOwn_b124; exact e_t (by decide) rfl
  have k166 : g_X12_isOwn_b166 F τ = some (1, τ) := by unfold g_X12_isOwn_b166; exact e_t (by decide) rfl
  have k208 : g_X12_isOwn_b208 F τ = some (1, τ) := by unfold g_X12_isOwn_b208; exact e_t (by decide) rfl
  have k234 : g_X12_isOwn_b234 F τ = some (1, τ) := by unfold g_X12_isOwn_b234; exact e_t (by decide) rfl
  unfold g_X12_isOwn
  by_cases h0 : mwl w = mwl (xOW 0)
  · exact Or.inl (e_t h0 k40)
  by_cases h1 : mwl w = mwl (xOW 1)
  · exact Or.inl (e_f h0 (e_t h1 k40))
  by_cases h2 : mwl w = mwl (xOW 2)
  · exact Or.inl (e_f h0 (e_f h1 (e_t h2 k40)))
  by_cases h3 : mwl w = mwl (xOW 3)
  · exact Or.inl (e_f h0 (e_f h1 (e_f h2 (e_t h3 k40))))
  by_cases h4 : mwl w = mwl (xOW 4)
  · exact Or.inl (e_f h0 (e_f h1 (e_f h2 (e_f h3 (e_f (fun e => e h4) k40)))))
  by_cases h5 : mwl w = mwl (xOW 5)
  · exact Or.inl (e_f h0 (e_f h1 (e_f h2 (e_f h3 (e_t h4 (e_t h5 k82))))))
  by_cases h6 : mwl w = mwl (xOW 6)
  · exact Or.inl (e_f h0 (e_f h1 (e_f h2 (e_f h3 (e_t h4 (e_f h5 (e_t h6 k82)))))))
  by_cases h7 : mwl w = mwl (xOW 7)
  · exact Or.inl (e_f h0 (e_f h1 (e_f h2 (e_f h3 (e_t h4 (e_f h5 (e_f h6 (e_t h7 k82))))))))
  by_cases h8 : mwl w = mwl (xOW 8)
  · exact Or.inl (e_f h0 (e_f h1 (e_f h2 (e_f h3 (e_t h4 (e_f h5 (e_f h6 (e_f h7 (e_t h8 k82)))))))))
  by_cases h9 : mwl w = mwl (xOW 9)
  · exact Or.inl (e_f h0 (e_f h1 (e_f h2 (e_f h3 (e_t h4 (e_f h5 (e_f h6 (e_f h7 (e_f h8 (e_f (fun e => e h9) k82))))))))))
  by_cases h10 : mwl w = mwl (xOW 10)
  · exact Or.inl (e_f h0 (e_f h1 (e_f h2 (e_f h3 (e_t h4 (e_f h5 (e_f h6 (e_f h7 (e_f h8 (e_t h9 (e_t h10 k124)))))))))))
  by_cases h11 : mwl w = mwl (xOW 11)
  · exact Or.inl (e_f h0 (e_f h1 (e_f h2 (e_f h3 (e_t h4 (e_f h5 (e_f h6 (e_f h7 (e_f h8 (e_t h9 (e_f h10 (e_t h11 k124))))))))))))
  by_cases h12 : mwl w = mwl (xOW 12)
  · exact Or.inl (e_f h0 (e_f h1 (e_f h2 (e_f h3 (e_t h4 (e_f h5 (e_f h6 (e_f h7 (e_f h8 (e_t h9 (e_f h10 (e_f h11 (e_t h12 k124)))))))))))))
  by_cases h13 : mwl w = mwl (xOW 13)
  · exact Or.inl (e_f h0 (e_f h1 (e_f h2 (e_f h3 (e_t h4 (e_f h5 (e_f h6 (e_f h7 (e_f h8 (e_t h9 (e_f h10 (e_f h11 (e_f h12 (e_t h13 k124))))))))))))))
  by_cases h14 : mwl w = mwl (xOW 14)
  · exact Or.inl (e_f h0 (e_f h1 (e_f h2 (e_f h3 (e_t h4 (e_f h5 (e_f h6 (e_f h7 (e_f h8 (e_t h9 (e_f h10 (e_f h11 (e_f h12 (e_f h13 (e_f (fun e => e h14) k124)))))))))))))))
  by_cases h15 : mwl w = mwl (xOW 15)
  · exact Or.inl (e_f h0 (e_f h1 (e_f h2 (e_f h3 (e_t h4 (e_f h5 (e_f h6 (e_f h7 (e_f h8 (e_t h9 (e_f h10 (e_f h11 (e_f h12 (e_f h13 (e_t h14 (e_t h15 k166))))))))))))))))
  by_cases h16 : mwl w = mwl (xOW 16)
  · exact Or.inl (e_f h0 (e_f h1 (e_f h2 (e_f h3 (e_t h4 (e_f h5 (e_f h6 (e_f h7 (e_f h8 (e_t h9 (e_f h10 (e_f h11 (e_f h12 (e_f h13 (e_t h14 (e_f h15 (e_t h16 k166)))))))))))))))))
  by_cases h17 : mwl w = mwl (xOW 17)
  · exact Or.inl (e_f h0 (e_f h1 (e_f h2 (e_f h3 (e_t h4 (e_f h5 (e_f h6 (e_f h7 (e_f h8 (e_t h9 (e_f h10 (e_f h11 (e_f h12 (e_f h13 (e_t h14 (e_f h15 (e_f h16 (e_t h17 k166))))))))))))))))))
  by_cases h18 : mwl w = mwl (xOW 18)
  · exact Or.inl (e_f h0 (e_f h1 (e_f h2 (e_f h3 (e_t h4 (e_f h5 (e_f h6 (e_f h7 (e_f h8 (e_t h9 (e_f h10 (e_f h11 (e_f h12 (e_f h13 (e_t h14 (e_f h15 (e_f h16 (e_f h17 (e_t h18 k166)))))))))))))))))))
  by_cases h19 : mwl w = mwl (xOW 19)
  · exact Or.inl (e_f h0 (e_f h1 (e_f h2 (e_f h3 (e_t h4 (e_f h5 (e_f h6 (e_f h7 (e_f h8 (e_t h9 (e_f h10 (e_f h11 (e_f h12 (e_f h13 (e_t h14 (e_f h15 (e_f h16 (e_f h17 (e_f h18 (e_f (fun e => e h19) k166))))))))))))))))))))
  by_cases h20 : mwl w = mwl (xOW 20)
  · exact Or.inl (e_f h0 (e_f h1 (e_f h2 (e_f h3 (e_t h4 (e_f h5 (e_f h6 (e_f h7 (e_f h8 (e_t h9 (e_f h10 (e_f h11 (e_f h12 (e_f h13 (e_t h14 (e_f h15 (e_f h16 (e_f h17 (e_f h18 (e_t h19 (e_t h20 k208)))))))))))))))))))))
  by_cases h21 : mwl w = mwl (xOW 21)
  · exact Or.inl (e_f h0 (e_f h1 (e_f h2 (e_f h3 (e_t h4 (e_f h5 (e_f h6 (e_f h7 (e_f h8 (e_t h9 (e_f h10 (e_f h11 (e_f h12 (e_f h13 (e_t h14 (e_f h15 (e_f h16 (e_f h17 (e_f h18 (e_t h19 (e_f h20 (e_t h21 k208))))))))))))))))))))))
  by_cases h22 : mwl w = mwl (xOW 22)
  · exact Or.inl (e_f h0 (e_f h1 (e_f h2 (e_f h3 (e_t h4 (e_f h5 (e_f h6 (e_f h7 (e_f h8 (e_t h9 (e_f h10 (e_f h11 (e_f h12 (e_f h13 (e_t h14 (e_f h15 (e_f h16 (e_f h17 (e_f h18 (e_t h19 (e_f h20 (e_f h21 (e_t h22 k208)))))))))))))))))))))))
  by_cases h23 : mwl w = mwl (xOW 23)
  · exact Or.inl (e_f h0 (e_f h1 (e_f h2 (e_f h3 (e_t h4 (e_f h5 (e_f h6 (e_f h7 (e_f h8 (e_t h9 (e_f h10 (e_f h11 (e_f h12 (e_f h13 (e_t h14 (e_f h15 (e_f h16 (e_f h17 (e_f h18 (e_t h19 (e_f h20 (e_f h21 (e_f h22 (e_t h23 k208))))))))))))))))))))))))
  by_cases h24 : mwl w = mwl (xOW 24)
  · exact Or.inl (e_f h0 (e_f h1 (e_f h2 (e_f h3 (e_t h4 (e_f h5 (e_f h6 (e_f h7 (e_f h8 (e_t h9 (e_f h10 (e_f h11 (e_f h12 (e_f h13 (e_t h14 (e_f h15 (e_f h16 (e_f h17 (e_f h18 (e_t h19 (e_f h20 (e_f h21 (e_f h22 (e_f h23 (e_f (fun e => e h24) k208)))))))))))))))))))))))))
  by_cases h25 : mwl w = mwl (xOW 25)
  · exact Or.inl (e_f h0 (e_f h1 (e_f h2 (e_f h3 (e_t h4 (e_f h5 (e_f h6 (e_f h7 (e_f h8 (e_t h9 (e_f h10 (e_f h11 (e_f h12 (e_f h13 (e_t h14 (e_f h15 (e_f h16 (e_f h17 (e_f h18 (e_t h19 (e_f h20 (e_f h21 (e_f h22 (e_f h23 (e_t h24 (e_t h25 k234))))))))))))))))))))))))))
  by_cases h26 : mwl w = mwl (xOW 26)
  · exact Or.inl (e_f h0 (e_f h1 (e_f h2 (e_f h3 (e_t h4 (e_f h5 (e_f h6 (e_f h7 (e_f h8 (e_t h9 (e_f h10 (e_f h11 (e_f h12 (e_f h13 (e_t h14 (e_f h15 (e_f h16 (e_f h17 (e_f h18 (e_t h19 (e_f h20 (e_f h21 (e_f h22 (e_f h23 (e_t h24 (e_f h25 (e_t h26 k234)))))))))))))))))))))))))))
  by_cases h27 : mwl w = mwl (xOW 27)
  · exact Or.inl (e_f h0 (e_f h1 (e_f h2 (e_f h3 (e_t h4 (e_f h5 (e_f h6 (e_f h7 (e_f h8 (e_t h9 (e_f h10 (e_f h11 (e_f h12 (e_f h13 (e_t h14 (e_f h15 (e_f h16 (e_f h17 (e_f h18 (e_t h19 (e_f h20 (e_f h21 (e_f h22 (e_f h23 (e_t h24 (e_f h25 (e_f h26 (e_f (fun e => e h27) k234))))))))))))))))))))))))))))
  refine Or.inr ⟨(e_f h0 (e_f h1 (e_f h2 (e_f h3 (e_t h4 (e_f h5 (e_f h6 (e_f h7 (e_f h8 (e_t h9 (e_f h10 (e_f h11 (e_f h12 (e_f h13 (e_t h14 (e_f h15 (e_f h16 (e_f h17 (e_f h18 (e_t h19 (e_f h20 (e_f h21 (e_f h22 (e_f h23 (e_t h24 (e_f h25 (e_f h26 (e_t h27 (e_t (by decide) rfl))))))))))))))))))))))))))))), fun k hk => ?_⟩
  match k, hk with
  | 0, _ => exact h0
  | 1, _ => exact h1
  | 2, _ => exact h2
  | 3, _ => exact h3
  | 4, _ => exact h4
  | 5, _ => exact h5
  | 6, _ => exact h6
  | 7, _ => exact h7
  | 8, _ => exact h8
  | 9, _ => exact h9
  | 10, _ => exact h10
  | 11, _ => exact h11
  | 12, _ => exact h12
  | 13, _ => exact h13
  | 14, _ => exact h14
  | 15, _ => exact h15
  | 16, _ => exact h16
  | 17, _ => exact h17
  | 18, _ => exact h18
  | 19, _ => exact h19
  | 20, _ => exact h20
  | 21, _ => exact h21
  | 22, _ => exact h22
  | 23, _ => exact h23
  | 24, _ => exact h24
  | 25, _ => exact h25
  | 26, _ => exact h26
  | 27, _ => exact h27
  | k + 28, h => omega
theorem r_own {F : Nat} {σ τ : mMem} (v : Vw σ τ) (h3 : τ 86 3 = 1) : g_X12_isOwn F (τ 86 7) τ = some (mb (¬ σ 14 7 = 1), τ) := by
  rcases v.2.2 with ⟨a1, a2, a3⟩ | ⟨a1, a2, a3, a4⟩ | ⟨j, j1, a1, a2, a3, a4⟩ | ⟨a1, a2, a3, a4⟩ | ⟨a1, a2, a3, a4⟩
  · omega
  · rw [mb_f (fun e => e a1)]
    have r7 := nm_rng a3
    have ne : ∀ k, k < 28 → ¬ mwl (τ 86 7) = mwl (xOW k) := fun k hk e => by
      have rk := xOW_rng ⟨k, hk⟩
      simp only at rk
      rw [mwl_id (by omega) (by omega), mwl_id (by omega) (by omega)] at e
      exact a4 k hk e.symm
    unfold g_X12_isOwn
    exact (e_f (ne 0 (by decide)) (e_f (ne 1 (by decide)) (e_f (ne 2 (by decide)) (e_f (ne 3 (by decide)) (e_t (ne 4 (by decide)) (e_f (ne 5 (by decide)) (e_f (ne 6 (by decide)) (e_f (ne 7 (by decide)) (e_f (ne 8 (by decide)) (e_t (ne 9 (by decide)) (e_f (ne 10 (by decide)) (e_f (ne 11 (by decide)) (e_f (ne 12 (by decide)) (e_f (ne 13 (by decide)) (e_t (ne 14 (by decide)) (e_f (ne 15 (by decide)) (e_f (ne 16 (by decide)) (e_f (ne 17 (by decide)) (e_f (ne 18 (by decide)) (e_t (ne 19 (by decide)) (e_f (ne 20 (by decide)) (e_f (ne 21 (by decide)) (e_f (ne 22 (by decide)) (e_f (ne 23 (by decide)) (e_t (ne 24 (by decide)) (e_f (ne 25 (by decide)) (e_f (ne 26 (by decide)) (e_t (ne 27 (by decide)) (e_t (by decide) rfl)))))))))))))))))))))))))))))
  · rw [mb_t (by omega), a4]
    rcases r_own0 (F := F) (τ := τ) (w := xOW j) with e | ⟨-, e⟩
    · exact e
    · exact absurd rfl (e j j1)
  · omega
  · omega
theorem nm_rngA {a w : Int} (h : NmR a w) : 0 ≤ a ∧ a ≤ 1073741823 := by
  obtain ⟨n, L, n1, n2, n3, e, -⟩ := h
  have q : ∀ i, 0 ≤ L i ∧ L i ≤ 26 := fun i => by
    by_cases c : i < n
    · have := n2 i c; omega
    · rw [n3 i (by omega)]; omega
  have := q 0
  have := q 1
  have := q 2
  have := q 3
  have := q 4
  have := q 5
  omega
/-- which box has a name -/
theorem c_named {F p : Nat} {σ : mMem} {x : Int} (n : Nat) (hn : n ≤ 6) (h11 : σ p 11 = (n : Int)) : ∀ (d k fuel : Nat), d + k = n → d < fuel → ∃ r, g_X5_boxNamed_h2 F p fuel x (k : Int) σ = some (r, σ) ∧ (r = -1 ∨ ((k : Int) ≤ r ∧ r < n)) ∧ ∀ (i : Nat) (τ : mMem) (w : Int), (i = 0 ∨ i = 1) → τ 86 30 = (i : Int) → τ 91 i = (n : Int) → (∀ j, j < n → NmR (σ (p + 2) j) (τ 102 (6 * i + j))) → NmR x w → g_X12_named_h2 F fuel w (k : Int) τ = some (r, τ)
  | 0, k, fuel + 1, h1, _ => by
    refine ⟨-1, ?_, Or.inl rfl, fun i τ w hi h30 h91 _ _ => ?_⟩
    · unfold g_X5_boxNamed_h2 g_X5_boxNamed_b34
      rw [h11]
      exact e_t (by rw [mw_id (by omega) (by omega), mw_id (by omega) (by omega)]; omega) rfl
    · unfold g_X12_named_h2
      rw [h30, mwN (i := i) (by omega), h91]
      exact e_t (mwR (by omega) (by decide)) (e_t (by rw [mw_id (by omega) (by omega), mw_id (by omega) (by omega)]; omega) rfl)
  | d + 1, k, fuel + 1, h1, h2 => by
    obtain ⟨r, a1, a2, a3⟩ := c_named (F := F) (p := p) (σ := σ) (x := x) n hn h11 d (k + 1) fuel (by omega) (by omega)
    have chead : ∀ X, (if ¬ mw (σ (p + 2) k) = mw x then ((g_X5_boxNamed_h2 F p fuel) x ((k : Int) + 1) σ) else (some ((k : Int), σ))) = X → g_X5_boxNamed_h2 F p (fuel + 1) x (k : Int) σ = X := by
      intro X hX
      unfold g_X5_boxNamed_h2
      rw [h11, mwN (i := k) (by omega)]
      exact e_f (by rw [mw_id (by omega) (by omega), mw_id (by omega) (by omega)]; omega) (e_f (by rw [mw_id (z := 6) (by decide) (by decide), mw_id (by omega) (by omega)]; omega) (e_t (mwR (by omega) (by decide)) hX))
    have rhead : ∀ (i : Nat) (τ : mMem) (w : Int), (i = 0 ∨ i = 1) → τ 86 30 = (i : Int) → τ 91 i = (n : Int) → ∀ X, (if ¬ mwl (τ 102 (6 * i + k)) = mwl w then ((g_X12_named_h2 F fuel) w ((k : Int) + 1) τ) else (some ((k : Int), τ))) = X → g_X12_named_h2 F (fuel + 1) w (k : Int) τ = X := by
      intro i τ w hi h30 h91 X hX
      unfold g_X12_named_h2
      rw [h30, mwN (i := i) (by omega), h91, show 6 * (i : Int) + (k : Int) = ((6 * i + k : Nat) : Int) by omega, mwN (i := 6 * i + k) (by omega)]
      exact e_t (mwR (by omega) (by decide)) (e_f (by rw [mw_id (by omega) (by omega), mw_id (by omega) (by omega)]; omega) (e_t (mwR (by omega) (by decide)) hX))
    by_cases cx : mw (σ (p + 2) k) = mw x
    · refine ⟨(k : Int), chead _ (e_f (fun e => e cx) rfl), Or.inr (by omega), fun i τ w hi h30 h91 hN hw => rhead i τ w hi h30 h91 _ (e_f (fun e => e ?_) rfl)⟩
      have N := hN k (by omega)
      have q1 := nm_rngA N
      have q2 := nm_rngA hw
      rw [mw_id (by omega) (by omega), mw_id (by omega) (by omega)] at cx
      rw [(N.inj hw).mp cx]
    · refine ⟨r, chead _ (e_t cx ?_), by omega, fun i τ w hi h30 h91 hN hw => rhead i τ w hi h30 h91 _ (e_t (fun e => cx ?_) ?_)⟩
      · rw [show (k : Int) + 1 = ((k + 1 : Nat) : Int) by omega]; exact a1
      · have N := hN k (by omega)
        have q1 := nm_rng N
        have q2 := nm_rng hw
        rw [mwl_id (by omega) (by omega), mwl_id (by omega) (by omega)] at e
        rw [(N.inj hw).mpr e]
      · rw [show (k : Int) + 1 = ((k + 1 : Nat) : Int) by omega]; exact a3 i τ w hi h30 h91 hN hw
