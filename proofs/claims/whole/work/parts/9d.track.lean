/-! LAYER 2: track -/
abbrev okT (C R : Int) (b : Nat → Int) (i : Nat) : Prop := b (3 * i) ≤ 40 ∧ sOn C R (b (3 * i + 1)) (b (3 * i + 2))
theorem j_tk {F p m l : Nat} {σ : mMem} {b : Nat → Int} (hp : p = 3 ∨ p = 8) (hm : m ≤ 16) (hl : l = 3 * m) (h1 : σ 1 1 = (l : Int)) (h2 : ∀ j, j < l → σ 2 j = b j) (hT : Tp b l) (h9 : 0 ≤ σ p 9 ∧ σ p 9 ≤ 9) (h10 : 0 ≤ σ p 10 ∧ σ p 10 ≤ 9) : ∀ (d i fuel : Nat), d + i = m → d + 1 < fuel → (∀ j, j < i → okT (σ p 9) (σ p 10) b j) → ∃ v : Int, (v = 0 ∨ v = 1) ∧ (v = 1 → ∀ j, j < m → okT (σ p 9) (σ p 10) b j) ∧ g_X9_takeRows_h33 F p fuel (m : Int) (i : Int) σ = (if v = 1 then g_X9_takeRows_h90 F p F (m : Int) 0 σ else some (0, σ)) ∧ ∀ τ, PlR σ p τ → (∀ j, j < l → τ 87 j = b j) → g_X12_track_h34 F fuel (l : Int) 1 ((3 * i : Nat) : Int) τ = g_X12_track_b89 F (l : Int) v τ := by
  intro d
  induction d with
  | zero =>
    intro i fuel e1 e2 hok
    obtain ⟨f, rfl⟩ : ∃ f, fuel = f + 1 := ⟨fuel - 1, by omega⟩
    have ei : i = m := by omega
    subst ei
    refine ⟨1, Or.inr rfl, fun _ => hok, ?_, fun τ hR h87 => ?_⟩
    · conv => lhs; unfold g_X9_takeRows_h33
      rw [if_pos rfl]
      exact e_t (Int.le_refl _) rfl
    · conv => lhs; unfold g_X12_track_h34
      rw [hl]
      exact e_t (Int.le_refl _) rfl
  | succ d ih =>
    intro i fuel e1 e2 hok
    obtain ⟨f, rfl⟩ : ∃ f, fuel = f + 1 := ⟨fuel - 1, by omega⟩
    obtain ⟨f', hf'⟩ : ∃ f', f = f' + 1 := ⟨f - 1, by omega⟩
    have T := hT.2
    have t0 := T (3 * i) (by omega)
    have t1 := T (3 * i + 1) (by omega)
    have t2 := T (3 * i + 2) (by omega)
    have at0 : g_X7_at F (3 * (i : Int)) σ = some (b (3 * i), σ) := by rw [show 3 * (i : Int) = ((3 * i : Nat) : Int) by omega]; exact zt_at (by omega) h1 (h2 _ (by omega)) (by omega)
    have at1 : g_X7_at F (3 * (i : Int) + 1) σ = some (b (3 * i + 1), σ) := by rw [show 3 * (i : Int) + 1 = ((3 * i + 1 : Nat) : Int) by omega]; exact zt_at (by omega) h1 (h2 _ (by omega)) (by omega)
    have at2 : g_X7_at F (3 * (i : Int) + 2) σ = some (b (3 * i + 2), σ) := by rw [show 3 * (i : Int) + 2 = ((3 * i + 2 : Nat) : Int) by omega]; exact zt_at (by omega) h1 (h2 _ (by omega)) (by omega)
    have hc : ∀ X, (if (40 : Int) < b (3 * i) then some ((0 : Int), σ) else (if sOn (σ p 9) (σ p 10) (b (3 * i + 1)) (b (3 * i + 2)) then ((g_X9_takeRows_h33 F p f) (m : Int) ((i : Int) + 1) σ) else some (0, σ))) = X → g_X9_takeRows_h33 F p (f + 1) (m : Int) (i : Int) σ = X := by
      intro X hX
      have b79 : g_X9_takeRows_b79 F p σ = some (0, σ) := e_t (by decide) rfl
      conv => lhs; unfold g_X9_takeRows_h33
      refine e_f (by rw [mw_id (by omega) (by omega), mw_id (by omega) (by omega)]; omega) (e_mob at0 ?_)
      rw [mw_id (z := b (3 * i)) (by omega) (by omega), mw_id (z := 40) (by decide) (by decide), ← hX, b79]
      by_cases c : (40 : Int) < b (3 * i)
      · exact (if_pos c).trans (if_pos c).symm
      · refine (if_neg c).trans (Eq.trans ?_ (if_neg c).symm)
        refine e_mob at1 (e_mob at2 (e_mob (z_hasCelli (by omega) (by omega) (by omega) (by omega)) ?_))
        by_cases c2 : sOn (σ p 9) (σ p 10) (b (3 * i + 1)) (b (3 * i + 2))
        · rw [mb_t c2, if_pos c2]
          exact e_t (by decide) rfl
        · rw [mb_f c2, if_neg c2]
          exact e_f (by decide) b79
    have hr : ∀ τ X, PlR σ p τ → (∀ j, j < l → τ 87 j = b j) → (g_X12_track_h34 F f (l : Int) (mb (okT (σ p 9) (σ p 10) b i)) ((3 * (i + 1) : Nat) : Int) τ) = X → g_X12_track_h34 F (f + 1) (l : Int) 1 ((3 * i : Nat) : Int) τ = X := by
      intro τ X hR h87 hX
      conv => lhs; unfold g_X12_track_h34
      have e3 : ((3 * (i + 1) : Nat) : Int) = ((3 * i : Nat) : Int) + 3 := by omega
      rw [e3] at hX
      unfold g_X12_track_b81 g_X12_track_b82
      rw [show ((3 * i : Nat) : Int) + 1 = ((3 * i + 1 : Nat) : Int) by omega, show ((3 * i : Nat) : Int) + 2 = ((3 * i + 2 : Nat) : Int) by omega, mwN (i := 3 * i) (by omega), mwN (i := 3 * i + 1) (by omega), mwN (i := 3 * i + 2) (by omega), h87 _ (by omega), h87 _ (by omega), h87 _ (by omega), mw_id (z := b (3 * i)) (by omega) (by omega), mw_id (z := 40) (by decide) (by decide)]
      refine e_f (by rw [mw_id (by omega) (by omega), mw_id (by omega) (by omega)]; omega) (e_f (by decide) (e_t (mwR (by omega) (by decide)) ?_))
      by_cases c : (40 : Int) < b (3 * i)
      · rw [mb_f (fun ok : okT (σ p 9) (σ p 10) b i => by have := ok.1; omega)] at hX
        exact e_t c hX
      · refine e_f c (e_t (mwR (by omega) (by decide)) (e_t (mwR (by omega) (by decide)) (e_mob (zr_isOni (by omega) (by omega) hR h9 h10) ?_)))
        by_cases c2 : sOn (σ p 9) (σ p 10) (b (3 * i + 1)) (b (3 * i + 2))
        · rw [mb_t (show okT (σ p 9) (σ p 10) b i from ⟨by omega, c2⟩)] at hX
          rw [mb_t c2]
          exact e_f (by decide) hX
        · rw [mb_f (fun ok : okT (σ p 9) (σ p 10) b i => c2 ok.2)] at hX
          rw [mb_f c2]
          exact e_t (by decide) hX
    by_cases ok : okT (σ p 9) (σ p 10) b i
    · obtain ⟨v, w1, w2, w3, w4⟩ := ih (i + 1) f (by omega) (by omega) (fun j hj => by
        by_cases c : j = i
        · rw [c]; exact ok
        · exact hok j (by omega))
      refine ⟨v, w1, w2, hc _ ?_, fun τ hR h87 => hr τ _ hR h87 ?_⟩
      · rw [← w3, show ((i + 1 : Nat) : Int) = (i : Int) + 1 by omega]
        exact (if_neg (by have := ok.1; omega)).trans (if_pos ok.2)
      · rw [mb_t ok]
        exact w4 τ hR h87
    · refine ⟨0, Or.inl rfl, fun e => absurd e (by decide), hc _ ?_, fun τ hR h87 => hr τ _ hR h87 ?_⟩
      · rw [if_neg (show ¬ (0 : Int) = 1 by decide)]
        by_cases c : (40 : Int) < b (3 * i)
        · exact if_pos c
        · exact (if_neg c).trans (if_neg (fun c2 => ok ⟨by omega, c2⟩))
      · rw [mb_f ok, hf']
        conv => lhs; unfold g_X12_track_h34
        by_cases c : mw (l : Int) ≤ mw ((3 * (i + 1) : Nat) : Int)
        · exact e_t c rfl
        · exact e_f c (e_t (by decide) rfl)
theorem zc_tr {F p m l : Nat} {σ : mMem} (hm : m ≤ 16) (hl : l = 3 * m) (h1 : σ 1 1 = (l : Int)) : ∀ (d i fuel : Nat) (υ : mMem), d + i = 3 * m → d < fuel → (∀ q, q ≠ 36 → υ q = σ q) → (∀ j, j < i → υ 36 j = σ 2 j) → ∃ σ', g_X9_takeRows_h90 F p fuel (m : Int) (i : Int) υ = some (1, mup σ' 35 3 (m : Int)) ∧ (∀ q, q ≠ 36 → σ' q = σ q) ∧ ∀ j, j < 3 * m → σ' 36 j = σ 2 j := by
  intro d
  induction d with
  | zero =>
    intro i fuel υ e1 e2 e3 e4
    obtain ⟨f, rfl⟩ : ∃ f, fuel = f + 1 := ⟨fuel - 1, by omega⟩
    refine ⟨υ, ?_, e3, fun j hj => e4 j (by omega)⟩
    unfold g_X9_takeRows_h90 g_X9_takeRows_b127
    exact e_t (by rw [mw_id (by omega) (by omega), mw_id (by omega) (by omega)]; omega) (e_mem (e_t (by decide) rfl))
  | succ d ih =>
    intro i fuel υ e1 e2 e3 e4
    obtain ⟨f, rfl⟩ : ∃ f, fuel = f + 1 := ⟨fuel - 1, by omega⟩
    obtain ⟨σ', t1, t2⟩ := ih (i + 1) f (mup υ 36 i (σ 2 i)) (by omega) (by omega) (fun q hq => by rw [mup_off hq]; exact e3 q hq) (fun j hj => by
      by_cases c : j = i
      · rw [c, mup_at rfl rfl]
      · rw [mup_ne (by omega)]; exact e4 j (by omega))
    refine ⟨σ', ?_, t2⟩
    rw [← t1]
    conv => lhs; unfold g_X9_takeRows_h90
    refine e_f (by rw [mw_id (by omega) (by omega), mw_id (by omega) (by omega)]; omega) (e_f (by rw [mw_id (by omega) (by omega), mw_id (by omega) (by omega)]; omega) (e_mob (zt_at (l := l) (b := σ 2) (by omega) (by rw [e3 1 (by decide)]; exact h1) (by rw [e3 2 (by decide)]) (by omega)) ?_))
    rw [mwN (i := i) (by omega), show ((i + 1 : Nat) : Int) = (i : Int) + 1 by omega]
    exact e_t (mwR (by omega) (by decide)) (e_mem rfl)
theorem zr_tr {F m : Nat} {τ : mMem} {b : Nat → Int} (hm : m ≤ 16) (h66 : τ 86 66 = (m : Int)) (h87 : ∀ j, j < 3 * m → τ 87 j = b j) : ∀ (d i fuel : Nat) (υ : mMem), d + i = m → d < fuel → (∀ q, q ≠ 122 → q ≠ 123 → υ q = τ q) → (∀ j, j < i → υ 122 j = b (3 * j) ∧ υ 123 j = 9 * b (3 * j + 2) + b (3 * j + 1)) → ∃ τ', g_X12_track_h108 F fuel (i : Int) υ = some ((m : Int), τ') ∧ (∀ q, q ≠ 122 → q ≠ 123 → τ' q = τ q) ∧ ∀ j, j < m → τ' 122 j = b (3 * j) ∧ τ' 123 j = 9 * b (3 * j + 2) + b (3 * j + 1) := by
  intro d
  induction d with
  | zero =>
    intro i fuel υ e1 e2 e3 e4
    obtain ⟨f, rfl⟩ : ∃ f, fuel = f + 1 := ⟨fuel - 1, by omega⟩
    have ei : i = m := by omega
    subst ei
    refine ⟨υ, ?_, e3, e4⟩
    unfold g_X12_track_h108
    rw [e3 86 (by decide) (by decide), h66]
    exact e_t (Int.le_refl _) rfl
  | succ d ih =>
    intro i fuel υ e1 e2 e3 e4
    obtain ⟨f, rfl⟩ : ∃ f, fuel = f + 1 := ⟨fuel - 1, by omega⟩
    obtain ⟨υ1, eu⟩ : ∃ y, y = mup (mup υ 122 i (b (3 * i))) 123 i (9 * b (3 * i + 2) + b (3 * i + 1)) := ⟨_, rfl⟩
    obtain ⟨τ', t1, t2⟩ := ih (i + 1) f υ1 (by omega) (by omega) (fun q q1 q2 => by rw [eu, mup_off q2, mup_off q1]; exact e3 q q1 q2) (fun j hj => by
      by_cases c : j = i
      · rw [c, eu, mup_off (by decide), mup_at rfl rfl, mup_at rfl rfl]
        exact ⟨rfl, rfl⟩
      · rw [eu, mup_off (q := 122) (by decide), mup_ne (by omega), mup_ne (by omega), mup_off (by decide)]
        exact e4 j (by omega))
    refine ⟨τ', ?_, t2⟩
    rw [← t1]
    conv => lhs; unfold g_X12_track_h108
    rw [e3 86 (by decide) (by decide), h66, show 3 * (i : Int) = ((3 * i : Nat) : Int) by omega, show ((3 * i : Nat) : Int) + 1 = ((3 * i + 1 : Nat) : Int) by omega, show ((3 * i : Nat) : Int) + 2 = ((3 * i + 2 : Nat) : Int) by omega, mwN (i := 3 * i) (by omega), mwN (i := 3 * i + 1) (by omega), mwN (i := 3 * i + 2) (by omega), mwN (i := i) (by omega), e3 87 (by decide) (by decide), h87 _ (by omega)]
    refine e_f (by rw [mw_id (by omega) (by omega), mw_id (by omega) (by omega)]; omega) (e_t (mwR (by omega) (by decide)) (e_t (mwR (by omega) (by decide)) (e_mem ?_)))
    rw [mup_off (o := 122) (q := 87) (by decide), e3 87 (by decide) (by decide), h87 _ (by omega), h87 _ (by omega), ← eu, show ((i + 1 : Nat) : Int) = (i : Int) + 1 by omega]
    exact e_t (mwR (by omega) (by decide)) (e_t (mwR (by omega) (by decide)) (e_t (mwR (by omega) (by decide)) (e_mem rfl)))
