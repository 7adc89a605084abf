/-! LAYER 2: has -/
theorem xSum_congr {f g : Nat → Int} : ∀ {n : Nat}, (∀ k, k < n → f k = g k) → xSum f n = xSum g n
  | 0, _ => rfl
  | n + 1, h => by
    show xSum f n + f n = xSum g n + g n
    rw [xSum_congr (fun k hk => h k (by omega)), h n (by omega)]
theorem zc_lost {F o p n : Nat} {σ : mMem} (hF : 2000 ≤ F) (h20 : σ o 3 = 3 ∨ σ o 3 = 8) (h20n : (σ o 3).toNat = p) (h11 : σ p 11 = (n : Int)) (hn : n ≤ 6) (hA : ∀ k, k < n → sml (cB σ (o + 1) k 4)) : g_X10_lostBoxes F o σ = some (xSum (fun k => mb (0 < cB σ (o + 1) k 4)) n, σ) := by
  have key : ∀ (d k fuel : Nat), d + k = n → d < fuel → g_X10_lostBoxes_h4 F o fuel (xSum (fun k => mb (0 < cB σ (o + 1) k 4)) k) (k : Int) σ = some (xSum (fun k => mb (0 < cB σ (o + 1) k 4)) n, σ) := by
    intro d
    induction d with
    | zero =>
      intro k fuel h1 h2
      obtain ⟨f, rfl⟩ : ∃ f, fuel = f + 1 := ⟨fuel - 1, by omega⟩
      have e : k = n := by omega
      subst e
      unfold g_X10_lostBoxes_h4
      rw [h20n, h11]
      exact e_t h20 (e_t (Int.le_refl _) rfl)
    | succ d ih =>
      intro k fuel h1 h2
      obtain ⟨f, rfl⟩ : ∃ f, fuel = f + 1 := ⟨fuel - 1, by omega⟩
      have hk := hA k (by omega)
      have i := ih (k + 1) f (by omega) (by omega)
      unfold g_X10_lostBoxes_h4 g_X10_lostBoxes_b30
      rw [h20n, h11]
      refine e_t h20 (e_f (by rw [mw_id (by omega) (by omega), mw_id (by omega) (by omega)]; omega) (e_mob (zo_4 (by omega)) ?_))
      dsimp only [cB] at hk
      rw [mw_id (z := σ (o + 1) (10 * k + 4)) (by omega) (by omega)]
      rw [show ((k + 1 : Nat) : Int) = (k : Int) + 1 by omega] at i
      by_cases c : 0 < σ (o + 1) (10 * k + 4)
      · have : xSum (fun k => mb (0 < cB σ (o + 1) k 4)) (k + 1) = xSum (fun k => mb (0 < cB σ (o + 1) k 4)) k + 1 := by
          show _ + mb (0 < σ (o + 1) (10 * k + 4)) = _
          rw [mb_t c]
        rw [this] at i
        exact e_f (by omega) (e_let i)
      · have : xSum (fun k => mb (0 < cB σ (o + 1) k 4)) (k + 1) = xSum (fun k => mb (0 < cB σ (o + 1) k 4)) k + 0 := by
          show _ + mb (0 < σ (o + 1) (10 * k + 4)) = _
          rw [mb_f c]
        rw [this] at i
        exact e_t (by omega) (e_let i)
  exact key n 0 F (by omega) (by omega)
theorem zc_empty {F o p n : Nat} {σ : mMem} (hF : 2000 ≤ F) (h20 : σ o 3 = 3 ∨ σ o 3 = 8) (h20n : (σ o 3).toNat = p) (h11 : σ p 11 = (n : Int)) (hn : n ≤ 6) (hA : ∀ k, k < n → sml (cB σ (o + 1) k 3)) : g_X10_emptyBoxes F o σ = some (xSum (fun k => mb (cB σ (o + 1) k 3 = 0)) n, σ) := by
  have key : ∀ (d k fuel : Nat), d + k = n → d < fuel → g_X10_emptyBoxes_h4 F o fuel (xSum (fun k => mb (cB σ (o + 1) k 3 = 0)) k) (k : Int) σ = some (xSum (fun k => mb (cB σ (o + 1) k 3 = 0)) n, σ) := by
    intro d
    induction d with
    | zero =>
      intro k fuel h1 h2
      obtain ⟨f, rfl⟩ : ∃ f, fuel = f + 1 := ⟨fuel - 1, by omega⟩
      have e : k = n := by omega
      subst e
      unfold g_X10_emptyBoxes_h4
      rw [h20n, h11]
      exact e_t h20 (e_t (Int.le_refl _) rfl)
    | succ d ih =>
      intro k fuel h1 h2
      obtain ⟨f, rfl⟩ : ∃ f, fuel = f + 1 := ⟨fuel - 1, by omega⟩
      have hk := hA k (by omega)
      have i := ih (k + 1) f (by omega) (by omega)
      unfold g_X10_emptyBoxes_h4 g_X10_emptyBoxes_b30
      rw [h20n, h11]
      refine e_t h20 (e_f (by rw [mw_id (by omega) (by omega), mw_id (by omega) (by omega)]; omega) (e_mob (zo_3 (by omega)) ?_))
      dsimp only [cB] at hk
      rw [mw_id (z := σ (o + 1) (10 * k + 3)) (by omega) (by omega)]
      rw [show ((k + 1 : Nat) : Int) = (k : Int) + 1 by omega] at i
      by_cases c : σ (o + 1) (10 * k + 3) = 0
      · have : xSum (fun k => mb (cB σ (o + 1) k 3 = 0)) (k + 1) = xSum (fun k => mb (cB σ (o + 1) k 3 = 0)) k + 1 := by
          show _ + mb (σ (o + 1) (10 * k + 3) = 0) = _
          rw [mb_t c]
        rw [this] at i
        exact e_f (fun q => q c) (e_let i)
      · have : xSum (fun k => mb (cB σ (o + 1) k 3 = 0)) (k + 1) = xSum (fun k => mb (cB σ (o + 1) k 3 = 0)) k + 0 := by
          show _ + mb (σ (o + 1) (10 * k + 3) = 0) = _
          rw [mb_f c]
        rw [this] at i
        exact e_t c (e_let i)
  exact key n 0 F (by omega) (by omega)
theorem zr_lost {F p n : Nat} {π τ : mMem} (hF : 2000 ≤ F) (hR : PlR π p τ) (h11 : π p 11 = (n : Int)) (hn : n ≤ 6) (hA : ∀ k, k < n → sml (τ 115 k)) : g_X12_has_h154 F F 0 0 τ = some (xSum (fun k => mb (0 < τ 115 k)) n, τ) := by
  obtain ⟨hb, -, -, q11, -⟩ := hR
  have mbk : mw (τ 86 13) = τ 86 13 := mw_id (by omega) (by omega)
  have key : ∀ (d k fuel : Nat), d + k = n → d < fuel → g_X12_has_h154 F fuel (xSum (fun k => mb (0 < τ 115 k)) k) (k : Int) τ = some (xSum (fun k => mb (0 < τ 115 k)) n, τ) := by
    intro d
    induction d with
    | zero =>
      intro k fuel h1 h2
      obtain ⟨f, rfl⟩ : ∃ f, fuel = f + 1 := ⟨fuel - 1, by omega⟩
      have e : k = n := by omega
      subst e
      unfold g_X12_has_h154
      rw [mbk, q11, h11]
      exact e_t (by omega) (e_t (Int.le_refl _) rfl)
    | succ d ih =>
      intro k fuel h1 h2
      obtain ⟨f, rfl⟩ : ∃ f, fuel = f + 1 := ⟨fuel - 1, by omega⟩
      have hk := hA k (by omega)
      have i := ih (k + 1) f (by omega) (by omega)
      unfold g_X12_has_h154 g_X12_has_b182
      rw [mbk, q11, h11, mwN (i := k) (by omega)]
      refine e_t (by omega) (e_f (by rw [mw_id (by omega) (by omega), mw_id (by omega) (by omega)]; omega) (e_t (mwR (by omega) (by decide)) ?_))
      rw [mw_id (z := τ 115 k) (by omega) (by omega)]
      rw [show ((k + 1 : Nat) : Int) = (k : Int) + 1 by omega] at i
      by_cases c : 0 < τ 115 k
      · have : xSum (fun k => mb (0 < τ 115 k)) (k + 1) = xSum (fun k => mb (0 < τ 115 k)) k + 1 := by
          show _ + mb (0 < τ 115 k) = _
          rw [mb_t c]
        rw [this] at i
        exact e_f (by omega) (e_let i)
      · have : xSum (fun k => mb (0 < τ 115 k)) (k + 1) = xSum (fun k => mb (0 < τ 115 k)) k + 0 := by
          show _ + mb (0 < τ 115 k) = _
          rw [mb_f c]
        rw [this] at i
        exact e_t (by omega) (e_let i)
  exact key n 0 F (by omega) (by omega)
theorem zr_empty {F p n : Nat} {π τ : mMem} (hF : 2000 ≤ F) (hR : PlR π p τ) (h11 : π p 11 = (n : Int)) (hn : n ≤ 6) (hA : ∀ k, k < n → sml (τ 114 k)) : g_X12_has_h194 F F 0 0 τ = some (xSum (fun k => mb (τ 114 k = 0)) n, τ) := by
  obtain ⟨hb, -, -, q11, -⟩ := hR
  have mbk : mw (τ 86 13) = τ 86 13 := mw_id (by omega) (by omega)
  have key : ∀ (d k fuel : Nat), d + k = n → d < fuel → g_X12_has_h194 F fuel (xSum (fun k => mb (τ 114 k = 0)) k) (k : Int) τ = some (xSum (fun k => mb (τ 114 k = 0)) n, τ) := by
    intro d
    induction d with
    | zero =>
      intro k fuel h1 h2
      obtain ⟨f, rfl⟩ : ∃ f, fuel = f + 1 := ⟨fuel - 1, by omega⟩
      have e : k = n := by omega
      subst e
      unfold g_X12_has_h194
      rw [mbk, q11, h11]
      exact e_t (by omega) (e_t (Int.le_refl _) rfl)
    | succ d ih =>
      intro k fuel h1 h2
      obtain ⟨f, rfl⟩ : ∃ f, fuel = f + 1 := ⟨fuel - 1, by omega⟩
      have hk := hA k (by omega)
      have i := ih (k + 1) f (by omega) (by omega)
      unfold g_X12_has_h194 g_X12_has_b222
      rw [mbk, q11, h11, mwN (i := k) (by omega)]
      refine e_t (by omega) (e_f (by rw [mw_id (by omega) (by omega), mw_id (by omega) (by omega)]; omega) (e_t (mwR (by omega) (by decide)) ?_))
      rw [mw_id (z := τ 114 k) (by omega) (by omega)]
      rw [show ((k + 1 : Nat) : Int) = (k : Int) + 1 by omega] at i
      by_cases c : τ 114 k = 0
      · have : xSum (fun k => mb (τ 114 k = 0)) (k + 1) = xSum (fun k => mb (τ 114 k = 0)) k + 1 := by
          show _ + mb (τ 114 k = 0) = _
          rw [mb_t c]
        rw [this] at i
        exact e_f (fun q => q c) (e_let i)
      · have : xSum (fun k => mb (τ 114 k = 0)) (k + 1) = xSum (fun k => mb (τ 114 k = 0)) k + 0 := by
          show _ + mb (τ 114 k = 0) = _
          rw [mb_f c]
        rw [this] at i
        exact e_t c (e_let i)
  exact key n 0 F (by omega) (by omega)
