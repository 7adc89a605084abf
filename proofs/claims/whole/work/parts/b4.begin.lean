/-! LAYER 2: kitchen: a new floor begins -/
theorem zc_begin {F s n : Nat} {σ : mMem} (hF : 2000 ≤ F) (hs : s = 3 ∨ s = 8) (h11 : σ s 11 = (n : Int)) (hn : n ≤ 6) : ∃ σ', g_X10_begin F 20 s σ = some (0, σ') ∧ (∀ q, q ≠ 20 → q ≠ 21 → σ' q = σ q) ∧ (σ' 20 3 = (s : Int) ∧ σ' 20 4 = 0 ∧ σ' 20 5 = σ s 13) ∧ (∀ j, j ≠ 3 → j ≠ 4 → j ≠ 5 → σ' 20 j = σ 20 j) ∧ (∀ k, k < n → σ' 21 (10 * k + 3) = σ s 12) ∧ ∀ j, j < 60 → (∀ k, k < n → j ≠ 10 * k + 3) → σ' 21 j = σ (s + 3) j := by
  obtain ⟨σ0, e0⟩ : ∃ y, y = mupo (mup (mup (mup σ 20 3 (s : Int)) 20 4 0) 20 5 (σ s 13)) 21 (mcpy (σ (s + 3)) (σ 21) 0 0 60) := ⟨_, rfl⟩
  have o0 : ∀ q, q ≠ 20 → q ≠ 21 → σ0 q = σ q := fun q q1 q2 => by
    funext j
    rw [e0, mupo_ne q2, mup_off q1, mup_off q1, mup_off q1]
  have r0 : ∀ j, j < 60 → σ0 21 j = σ (s + 3) j := fun j hj => by
    rw [e0, mupo_at rfl]
    unfold mcpy
    rw [if_pos (by omega)]
    rw [show 0 + (j - 0) = j by omega]
  have key : ∀ (d k fuel : Nat) (υ : mMem), d + k = n → d < fuel → (∀ q, q ≠ 21 → υ q = σ0 q) → ∃ σ', g_X10_begin_h35 F 20 s fuel (k : Int) υ = some (0, σ') ∧ (∀ q, q ≠ 21 → σ' q = σ0 q) ∧ (∀ x, k ≤ x → x < n → σ' 21 (10 * x + 3) = σ s 12) ∧ ∀ j, (∀ x, k ≤ x → x < n → j ≠ 10 * x + 3) → σ' 21 j = υ 21 j := by
    intro d
    induction d with
    | zero =>
      intro k fuel υ e1 e2 e3
      obtain ⟨f, rfl⟩ : ∃ f, fuel = f + 1 := ⟨fuel - 1, by omega⟩
      refine ⟨υ, ?_, e3, fun x x1 x2 => absurd x1 (by omega), fun j _ => rfl⟩
      unfold g_X10_begin_h35
      rw [e3 s (by omega), o0 s (by omega) (by omega), h11]
      exact e_t (by rw [mw_id (by omega) (by omega), mw_id (by omega) (by omega)]; omega) rfl
    | succ d ih =>
      intro k fuel υ e1 e2 e3
      obtain ⟨f, rfl⟩ : ∃ f, fuel = f + 1 := ⟨fuel - 1, by omega⟩
      have e12 : υ s 12 = σ s 12 := by rw [e3 s (by omega), o0 s (by omega) (by omega)]
      obtain ⟨σ', g1, g2, g3, g4⟩ := ih (k + 1) f (mup υ 21 (10 * k + 3) (σ s 12)) (by omega) (by omega) (fun q hq => by rw [mup_off hq]; exact e3 q hq)
      refine ⟨σ', ?_, g2, fun x x1 x2 => ?_, fun j hj => ?_⟩
      · conv => lhs; unfold g_X10_begin_h35
        rw [e12, e3 s (by omega), o0 s (by omega) (by omega), h11]
        refine e_f (by rw [mw_id (by omega) (by omega), mw_id (by omega) (by omega)]; omega) (e_mob (zs_3 (F := F) (o := 20) (k := k) (by omega)) ?_)
        rw [show (k : Int) + 1 = ((k + 1 : Nat) : Int) by omega]
        exact g1
      · by_cases c : x = k
        · rw [c, g4 (10 * k + 3) (fun y y1 y2 => by omega), mup_at rfl rfl]
        · exact g3 x (by omega) x2
      · rw [g4 j (fun y y1 y2 => hj y (by omega) y2), mup_ne (by have := hj k (by omega) (by omega); omega)]
  obtain ⟨σ', k1, k2, k3, k4⟩ := key n 0 F σ0 (by omega) (by omega) (fun _ _ => rfl)
  have s20 : ∀ j, σ' 20 j = mup (mup (mup σ 20 3 (s : Int)) 20 4 0) 20 5 (σ s 13) 20 j := fun j => by rw [k2 20 (by decide), e0, mupo_ne (by decide)]
  refine ⟨σ', ?_, fun q q1 q2 => by rw [k2 q q2]; exact o0 q q1 q2, ⟨?_, ?_, ?_⟩, fun j j1 j2 j3 => ?_, fun k hk => k3 k (by omega) hk, fun j hj hk => by rw [k4 j (fun x _ x2 => hk x x2)]; exact r0 j hj⟩
  · unfold g_X10_begin
    refine e_mem (e_mem ?_)
    rw [mup_off (o := 20) (q := s) (by omega), mup_off (o := 20) (q := s) (by omega)]
    refine e_mem (e_t (by decide) (e_mem ?_))
    rw [mup_off (o := 20) (q := s + 3) (by omega), mup_off (o := 20) (q := s + 3) (by omega), mup_off (o := 20) (q := s + 3) (by omega), mup_off (o := 20) (q := 20 + 1) (by decide), mup_off (o := 20) (q := 20 + 1) (by decide), mup_off (o := 20) (q := 20 + 1) (by decide)]
    have : mupo (mup (mup (mup σ 20 3 (s : Int)) 20 4 0) 20 5 (σ s 13)) (20 + 1) (mcpy (σ (s + 3)) (σ (20 + 1)) (mw 0).toNat (mw 0).toNat (mw 60).toNat) = σ0 := by rw [e0]; rfl
    rw [this]
    exact k1
  · rw [s20, mup_ne (by decide), mup_ne (by decide), mup_at rfl rfl]
  · rw [s20, mup_ne (by decide), mup_at rfl rfl]
  · rw [s20, mup_at rfl rfl]
  · rw [s20, mup_ne (by omega), mup_ne (by omega), mup_ne (by omega)]
/-- the reference begins -/
theorem zr_begin {F i : Nat} {τ : mMem} (hF : 2000 ≤ F) (hi : i = 0 ∨ i = 1) (h13 : τ 86 13 = (i : Int)) : ∃ τ', g_X12_begin F τ = some (0, τ') ∧ (∀ q, (q < 86 ∨ (87 ≤ q ∧ q ≤ 109) ∨ 118 ≤ q) → τ' q = τ q) ∧ (∀ j, j ≠ 53 → j ≠ 66 → τ' 86 j = τ 86 j) ∧ (τ' 86 53 = 0 ∧ τ' 86 66 = 0 ∧ τ' 110 0 = 0 ∧ τ' 111 0 = τ 97 (3 * i + 1) ∧ τ' 117 0 = 0) ∧ ∀ k, k < 6 → τ' 112 k = τ 92 (6 * i + k) ∧ τ' 113 k = τ 93 (6 * i + k) ∧ τ' 114 k = τ 97 (3 * i) ∧ τ' 115 k = 0 ∧ τ' 116 k = 0 := by
  obtain ⟨τ0, e0⟩ : ∃ y, y = mup (mup τ 110 0 0) 111 0 (τ 97 (3 * i + 1)) := ⟨_, rfl⟩
  have o0 : ∀ q, q ≠ 110 → q ≠ 111 → τ0 q = τ q := fun q q1 q2 => by rw [e0, mup_off q2, mup_off q1]
  have m3 : ∀ x : Nat, x < 3 → mw (3 * (i : Int) + (x : Int)) = ((3 * i + x : Nat) : Int) := fun x hx => by rw [mw_id (by omega) (by omega)]; omega
  have told : ∀ (x : Nat) (υ : mMem), x < 3 → υ 86 13 = (i : Int) → g_X12_toldOf F (x : Int) υ = some (υ 97 (3 * i + x), υ) := fun x υ hx h => by
    unfold g_X12_toldOf
    rw [h, m3 x hx, Int.toNat_natCast]
    exact e_t (by omega) rfl
  have key : ∀ (d k fuel : Nat) (υ : mMem), d + k = 6 → d < fuel → (∀ q, (q < 112 ∨ 117 ≤ q) → υ q = τ0 q) → (∀ x, x < k → υ 112 x = τ 92 (6 * i + x) ∧ υ 113 x = τ 93 (6 * i + x) ∧ υ 114 x = τ 97 (3 * i) ∧ υ 115 x = 0 ∧ υ 116 x = 0) → ∃ τ', g_X12_begin_h20 F fuel (k : Int) υ = some (0, mup (mup (mup τ' 117 0 0) 86 53 0) 86 66 0) ∧ (∀ q, (q < 112 ∨ 117 ≤ q) → τ' q = τ0 q) ∧ ∀ x, x < 6 → τ' 112 x = τ 92 (6 * i + x) ∧ τ' 113 x = τ 93 (6 * i + x) ∧ τ' 114 x = τ 97 (3 * i) ∧ τ' 115 x = 0 ∧ τ' 116 x = 0 := by
    intro d
    induction d with
    | zero =>
      intro k fuel υ e1 e2 e3 e4
      obtain ⟨f, rfl⟩ : ∃ f, fuel = f + 1 := ⟨fuel - 1, by omega⟩
      refine ⟨υ, ?_, e3, fun x hx => e4 x (by omega)⟩
      unfold g_X12_begin_h20
      exact e_t (by rw [mw_id (z := (k : Int)) (by omega) (by omega), show mw 6 = 6 by decide]; omega) (e_t (by decide) rfl)
    | succ d ih =>
      intro k fuel υ e1 e2 e3 e4
      obtain ⟨f, rfl⟩ : ∃ f, fuel = f + 1 := ⟨fuel - 1, by omega⟩
      have u13 : υ 86 13 = (i : Int) := by rw [e3 86 (by decide), o0 86 (by decide) (by decide)]; exact h13
      have mk : mw (6 * (i : Int) + (k : Int)) = ((6 * i + k : Nat) : Int) := by rw [mw_id (by omega) (by omega)]; omega
      have u92 : υ 92 = τ 92 := by rw [e3 92 (by decide), o0 92 (by decide) (by decide)]
      have u93 : υ 93 = τ 93 := by rw [e3 93 (by decide), o0 93 (by decide) (by decide)]
      have u97 : υ 97 = τ 97 := by rw [e3 97 (by decide), o0 97 (by decide) (by decide)]
      obtain ⟨υ5, e5⟩ : ∃ y, y = mup (mup (mup (mup (mup υ 112 k (τ 92 (6 * i + k))) 113 k (τ 93 (6 * i + k))) 114 k (τ 97 (3 * i))) 115 k 0) 116 k 0 := ⟨_, rfl⟩
      obtain ⟨τ', g1, g2, g3⟩ := ih (k + 1) f υ5 (by omega) (by omega) (fun q hq => by rw [e5, mup_off (by omega), mup_off (by omega), mup_off (by omega), mup_off (by omega), mup_off (by omega)]; exact e3 q hq) (fun x hx => by
        by_cases c : x = k
        · rw [c, e5]
          exact ⟨by rw [mup_off (by decide), mup_off (by decide), mup_off (by decide), mup_off (by decide), mup_at rfl rfl], by rw [mup_off (by decide), mup_off (by decide), mup_off (by decide), mup_at rfl rfl], by rw [mup_off (by decide), mup_off (by decide), mup_at rfl rfl], by rw [mup_off (by decide), mup_at rfl rfl], by rw [mup_at rfl rfl]⟩
        · have h := e4 x (by omega)
          rw [e5]
          exact ⟨by rw [mup_off (by decide), mup_off (by decide), mup_off (by decide), mup_off (by decide), mup_ne (by omega)]; exact h.1, by rw [mup_off (by decide), mup_off (by decide), mup_off (by decide), mup_ne (by omega), mup_off (by decide)]; exact h.2.1, by rw [mup_off (by decide), mup_off (by decide), mup_ne (by omega), mup_off (by decide), mup_off (by decide)]; exact h.2.2.1, by rw [mup_off (by decide), mup_ne (by omega), mup_off (by decide), mup_off (by decide), mup_off (by decide)]; exact h.2.2.2.1, by rw [mup_ne (by omega), mup_off (by decide), mup_off (by decide), mup_off (by decide), mup_off (by decide)]; exact h.2.2.2.2⟩)
      refine ⟨τ', ?_, g2, g3⟩
      conv => lhs; unfold g_X12_begin_h20
      have rk : 0 ≤ mw (k : Int) ∧ mw (k : Int) < 132 := by rw [mw_id (by omega) (by omega)]; omega
      have tk : (mw (k : Int)).toNat = k := by rw [mw_id (by omega) (by omega)]; omega
      have r12 : 0 ≤ ((6 * i + k : Nat) : Int) ∧ ((6 * i + k : Nat) : Int) < 12 := by omega
      rw [u13, mk, tk, Int.toNat_natCast, u92]
      refine e_f (by rw [mw_id (z := (k : Int)) (by omega) (by omega), show mw 6 = 6 by decide]; omega) (e_t r12 (e_t rk (e_mem ?_)))
      rw [mup_off (o := 112) (q := 86) (by decide), u13, mk, Int.toNat_natCast, mup_off (o := 112) (q := 93) (by decide), u93]
      refine e_t r12 (e_t rk (e_mem (e_mob (told 0 _ (by decide) (by rw [mup_off (by decide), mup_off (by decide)]; exact u13)) ?_)))
      rw [mup_off (o := 113) (q := 97) (by decide), mup_off (o := 112) (q := 97) (by decide), u97]
      refine e_t rk (e_mem (e_t rk (e_mem (e_t rk (e_mem ?_)))))
      rw [show (k : Int) + 1 = ((k + 1 : Nat) : Int) by omega, show 3 * i + 0 = 3 * i by omega, ← e5]
      exact g1
  obtain ⟨τ1, k1, k2, k3⟩ := key 6 0 F τ0 (by decide) (by omega) (fun _ _ => rfl) (fun x hx => absurd hx (by omega))
  refine ⟨mup (mup (mup τ1 117 0 0) 86 53 0) 86 66 0, ?_, fun q hq => ?_, fun j j1 j2 => ?_, ⟨?_, ?_, ?_, ?_, ?_⟩, fun k hk => ?_⟩
  · unfold g_X12_begin
    refine e_t (by decide) (e_mem (e_mob (told 1 _ (by decide) (by rw [mup_off (by decide)]; exact h13)) (e_t (by decide) (e_mem ?_))))
    have : mup (mup τ 110 (mw 0).toNat 0) 111 (mw 0).toNat (mup τ 110 (mw 0).toNat 0 97 (3 * i + 1)) = τ0 := by
      rw [mup_off (o := 110) (q := 97) (by decide), e0]
      rfl
    rw [this]
    exact k1
  · rw [mup_off (by omega), mup_off (by omega)]
    by_cases c : q = 117
    · omega
    · rw [mup_off c, k2 q (by omega)]
      exact o0 q (by omega) (by omega)
  · rw [mup_ne (by omega), mup_ne (by omega), mup_off (by decide), k2 86 (by decide), o0 86 (by decide) (by decide)]
  · rw [mup_ne (by decide), mup_at rfl rfl]
  · rw [mup_at rfl rfl]
  · rw [mup_off (by decide), mup_off (by decide), mup_off (by decide), k2 110 (by decide), e0, mup_off (by decide), mup_at rfl rfl]
  · rw [mup_off (by decide), mup_off (by decide), mup_off (by decide), k2 111 (by decide), e0, mup_at rfl rfl]
  · rw [mup_off (by decide), mup_off (by decide), mup_at rfl rfl]
  · rw [mup_off (q := 112) (by decide), mup_off (q := 112) (by decide), mup_off (q := 112) (by decide), mup_off (q := 113) (by decide), mup_off (q := 113) (by decide), mup_off (q := 113) (by decide), mup_off (q := 114) (by decide), mup_off (q := 114) (by decide), mup_off (q := 114) (by decide), mup_off (q := 115) (by decide), mup_off (q := 115) (by decide), mup_off (q := 115) (by decide), mup_off (q := 116) (by decide), mup_off (q := 116) (by decide), mup_off (q := 116) (by decide)]
    exact k3 k hk
