/-! LAYER 2: kitchen, the text is opened -/
theorem c_scans {F l : Nat} {σ0 : mMem} {b : Nat → Int} (hl : l ≤ 1600) (h1 : σ0 1 1 = (l : Int)) (h2 : σ0 2 = b) (hb : ∀ j, j < l → 0 ≤ b j ∧ b j ≤ 255) : ∀ (d k fuel : Nat) (σ : mMem), d + k = l → d + 1 < fuel → FS σ σ0 → ScI σ b k → ∃ σ', g_X8_open_h9 F fuel 1 (k : Int) σ = g_X8_open_h38 F F 0 σ' ∧ FS σ' σ0 ∧ (ScI σ' b l ∨ ∃ k' s, k' < l ∧ ScB σ' b k' s) := by
  intro d
  induction d with
  | zero =>
    intro k fuel σ e1 e2 e3 e4
    obtain ⟨f, rfl⟩ : ∃ f, fuel = f + 1 := ⟨fuel - 1, by omega⟩
    have ek : k = l := by omega
    subst ek
    refine ⟨σ, ?_, e3, Or.inl e4⟩
    unfold g_X8_open_h9 g_X8_open_b36
    rw [e3.1 1 (by decide) (by decide) (by decide) (by decide), h1]
    exact e_t (Int.le_refl _) rfl
  | succ d ih =>
    intro k fuel σ e1 e2 e3 e4
    obtain ⟨f, rfl⟩ : ∃ f, fuel = f + 1 := ⟨fuel - 1, by omega⟩
    have u1 : σ 1 1 = (l : Int) := by rw [e3.1 1 (by decide) (by decide) (by decide) (by decide)]; exact h1
    have u2 : σ 2 = b := by rw [e3.1 2 (by decide) (by decide) (by decide) (by decide)]; exact h2
    obtain ⟨σ1, a1, a2⟩ := c_scan (F := F) (k := k) (l := l) (σ := σ) (b := b) hl (by omega) u1 u2 hb e4
    have hd : ∀ r X, g_X8_scan F (k : Int) σ = some (r, σ1) → g_X8_open_h9 F f r ((k : Int) + 1) σ1 = X → g_X8_open_h9 F (f + 1) 1 (k : Int) σ = X := by
      intro r X hs hX
      conv => lhs; unfold g_X8_open_h9
      rw [u1]
      exact e_f (by rw [mw_id (by omega) (by omega), mw_id (by omega) (by omega)]; omega) (e_f (by decide) (e_mob hs hX))
    rcases a2 with ⟨s1, s2⟩ | ⟨s1, s, s2⟩
    · obtain ⟨σ', t1, t2⟩ := ih (k + 1) f σ1 (by omega) (by omega) (a1.tr e3) s2
      refine ⟨σ', hd 1 _ s1 ?_, t2⟩
      rw [← t1, show ((k + 1 : Nat) : Int) = (k : Int) + 1 by omega]
    · obtain ⟨f', rfl⟩ : ∃ f', f = f' + 1 := ⟨f - 1, by omega⟩
      refine ⟨σ1, hd 0 _ s1 ?_, a1.tr e3, Or.inr ⟨k, s, by omega, s2⟩⟩
      conv => lhs; unfold g_X8_open_h9 g_X8_open_b36
      rw [(a1.tr e3).1 1 (by decide) (by decide) (by decide) (by decide), h1]
      by_cases c : mw (l : Int) ≤ mw ((k : Int) + 1)
      · exact e_t c rfl
      · exact e_f c (e_t (by decide) rfl)
theorem c_open {F l : Nat} {σ : mMem} {b : Nat → Int} (hF : 2000 ≤ F) (hl : l ≤ 1600) (h1 : σ 1 1 = (l : Int)) (h2 : σ 2 = b) (hb : ∀ j, j < l → 0 ≤ b j ∧ b j ≤ 255) (hO : Own σ) : ∃ σ3, (∀ q, q ≠ 14 → q ≠ 16 → q ≠ 17 → q ≠ 18 → σ3 q = σ q) ∧ (LexG σ3 b l ∨ ∃ k s, LexB σ3 b l k s) ∧ σ3 14 10 = 0 ∧ σ3 14 11 = -1 ∧ σ3 14 6 = -1 ∧ ∀ X, mob (g_X8_next F σ3) (fun r σ' => some (0, σ')) = X → g_X8_open F σ = X := by
  obtain ⟨σa, ea⟩ : ∃ y, y = mup σ 14 5 0 := ⟨_, rfl⟩
  have oa : ∀ q, q ≠ 14 → σa q = σ q := fun q hq => by rw [ea, mup_off hq]
  have i0 : ScI σa b 0 := ⟨by rw [ea, mup_at rfl rfl]; rfl, fun s hs => absurd hs (by omega)⟩
  obtain ⟨σ1, a1, a2, a3⟩ := c_scans (F := F) (l := l) (σ0 := σa) (b := b) hl (by rw [oa 1 (by decide)]; exact h1) (by rw [oa 2 (by decide)]; exact h2) hb l 0 F σa (by omega) (by omega) FS.rfl' i0
  have O1 : Own σ1 := fun k hk => by rw [a2.1 15 (by decide) (by decide) (by decide) (by decide), oa 15 (by decide)]; exact hO k hk
  -- what the marking begins from
  obtain ⟨c, m0, c1600, hc, h5, h6, fin⟩ : ∃ c m0 : Nat, c ≤ 1600 ∧ σ1 14 5 = (c : Int) ∧ (∀ s, s < m0 → s < l → xSg b s → (xCt b s < 0 → TokM σ1 b s (xCt b s) l) ∧ (0 ≤ xCt b s → TokC σ1 b s (xCt b s) l)) ∧ (∀ j, 0 ≤ j → j < c → (∃ s, s < m0 ∧ s < l ∧ xSg b s ∧ xCt b s = j) ∨ (σ1 16 j = 5 ∧ 0 ≤ σ1 18 j ∧ σ1 18 j ≤ 2000)) ∧ ∀ σ' : mMem, σ' 14 5 = σ1 14 5 → σ' 17 = σ1 17 → (∀ s, s < m0 → s < l → xSg b s → xCt b s < c → TokM σ' b s (xCt b s) l) → (∀ j, σ1 16 j = 5 → σ' 16 j = 5 ∧ σ' 18 j = σ1 18 j) → LexG σ' b l ∨ ∃ k s, LexB σ' b l k s := by
    rcases a3 with ⟨w1, w2⟩ | ⟨k', s, k1, w1, w2, w3, ⟨w4, w5, w6⟩, w7, w8⟩
    · have := (xCt_le (b := b) (j := 0) (k := l) (by omega)).2
      have z0 : xCt b 0 = 0 := rfl
      refine ⟨xCt b l, l, by omega, w1, fun s _ s2 s3 => ⟨fun q => absurd q (by omega), fun _ => w2 s s2 s3⟩, fun j _ j2 => ?_, fun σ' e1 e2 e3 e4 => Or.inl ⟨by rw [e1]; exact w1, fun s hs hg => e3 s hs hs hg (xCt_lt hs hg)⟩⟩
      obtain ⟨s, s1, s2, s3⟩ := xCt_sur l j j2
      exact Or.inl ⟨s, s1, s1, s2, s3⟩
    · have := (xCt_le (b := b) (j := 0) (k := s) (by omega)).2
      have z0 : xCt b 0 = 0 := rfl
      refine ⟨xCt b s + 1, s, by omega, by rw [w3]; omega, fun s' s1 s2 s3 => ⟨fun q => absurd q (by omega), fun _ => (w7 s' s1 s3).mv s1 (by omega) w1 (by omega)⟩, fun j _ j2 => ?_, fun σ' e1 e2 e3 e4 => Or.inr ⟨k', s, ⟨w1, w2, k1⟩, by rw [e1]; exact w3, ?_, fun s' hs hg => e3 s' hs (by omega) hg (by have := xCt_lt hs hg; omega), w8⟩⟩
      · by_cases cj : j = xCt b s
        · rw [cj]
          exact Or.inr ⟨w4, by rw [w6]; omega, by rw [w6]; omega⟩
        · obtain ⟨s', s1, s2, s3⟩ := xCt_sur (b := b) s j (by omega)
          exact Or.inl ⟨s', s1, by omega, s2, s3⟩
      · obtain ⟨y1, y2⟩ := e4 _ w4
        exact ⟨y1, by rw [e2]; exact w5, by rw [y2]; exact w6⟩
  obtain ⟨σ2, b1, b2, b3, b4, b5, b6⟩ := c_marks (F := F) (l := l) (m0 := m0) (c := c) (σ0 := σ1) (b := b) hF c1600 O1 hb c 0 (c + 1) σ1 (by omega) (by omega) hc FS.rfl' h5 h6
  obtain ⟨σ3, e3⟩ : ∃ y, y = mup (mup (mup σ2 14 10 0) 14 11 (-1)) 14 6 (-1) := ⟨_, rfl⟩
  have o3 : ∀ q, q ≠ 14 → σ3 q = σ2 q := fun q hq => by rw [e3, mup_off hq, mup_off hq, mup_off hq]
  have r14 : σ3 14 5 = σ1 14 5 := by rw [e3, mup_ne (by decide), mup_ne (by decide), mup_ne (by decide), b3]
  refine ⟨σ3, fun q q1 q2 q3 q4 => by rw [o3 q q1, b2.1 q q1 q2 q3 q4, a2.1 q q1 q2 q3 q4, oa q q1], fin σ3 r14 (by rw [o3 17 (by decide), b4]) (fun s s1 s2 s3 s4 => (b5 s s1 s2 s3 s4).same (by rw [o3 16 (by decide)]) (by rw [o3 17 (by decide)]) (by rw [o3 18 (by decide)])) (fun j hj => by rw [o3 16 (by decide), o3 18 (by decide)]; exact b6 j hj), by rw [e3, mup_ne (by decide), mup_ne (by decide), mup_at rfl rfl], by rw [e3, mup_ne (by decide), mup_at rfl rfl], by rw [e3, mup_at rfl rfl], fun X hX => ?_⟩
  unfold g_X8_open
  refine e_mem ?_
  rw [← ea]
  refine a1.trans ?_
  have := b1 (F - (c + 1))
  rw [show c + 1 + (F - (c + 1)) = F by omega, show c + 1 - c + (F - (c + 1)) = (F - (c + 1)) + 1 by omega] at this
  refine this.trans ?_
  unfold g_X8_open_h38
  rw [b3, hc]
  refine e_t (Int.le_refl _) (e_mem (e_mem (e_mem ?_)))
  rw [← e3]
  exact hX
