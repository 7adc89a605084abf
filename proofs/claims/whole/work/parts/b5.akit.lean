/-! LAYER 2: kitchen: the call; a text that is refused -/
theorem j_kit2 {F l p i : Nat} {σ : mMem} {b : Nat → Int} (hF : 2000 ≤ F) (hp : p = 3 ∨ p = 8) (hi : i = 0 ∨ i = 1) (hl : l ≤ 1600) (h1 : σ 1 1 = (l : Int)) (h2 : σ 2 = b) (hO : Own σ) (e1 : σ 86 1 = (l : Int)) (h87 : ∀ j, j < l → σ 87 j = b j ∧ 0 ≤ b j ∧ b j ≤ 255) (h13 : σ 86 13 = 1 - (i : Int)) : ∃ r σ', g_X6_readInto F p σ = some (r, σ') ∧ ∀ σC, σC 86 1 = σ 86 1 → σC 86 13 = σ 86 13 → σC 87 = σ 87 → ∃ τ0 τ' M, g_X12_kitchen F σC = g_X12_kitchen_b131 F M τ' ∧ Kst τ0 σC i ∧ EndK σ τ0 σ' τ' b l p i r M := by
  obtain ⟨τ0, -, a2, -⟩ := r_kst (F := F) (τ := σ) hl e1 h87 h13 hi
  obtain ⟨r, σ', -, -, c1, -, -⟩ := j_kit (F := F) (p := p) hF hp hi h1 h2 hO a2
  refine ⟨r, σ', c1, fun σC q1 q2 q3 => ?_⟩
  obtain ⟨τ1, b1, b2, b3⟩ := r_kst (F := F) (τ := σC) hl (by rw [q1]; exact e1) (fun j hj => by rw [q3]; exact h87 j hj) (by rw [q2]; exact h13) hi
  obtain ⟨r2, σ2, τ2, M, d1, d2, d3⟩ := j_kit (F := F) (p := p) hF hp hi h1 h2 hO b2
  rw [c1] at d1
  obtain ⟨x1, x2⟩ := some_inj d1
  subst x1
  subst x2
  exact ⟨τ1, τ2, M, b1 _ d2, b3, d3⟩
/-- what class and reference together leave, up to their ends -/
theorem kit_fr {σ σC τ0 τ' σ' : mMem} {b : Nat → Int} {l s i : Nat} {r M : Int} (hi : i = 0 ∨ i = 1) (k : Kst τ0 σC i) (e : EndK σ τ0 σ' τ' b l s i r M) (h86 : σC 86 = σ 86) (hb : ∀ q, 88 ≤ q → q ≤ 102 → σC q = σ q) (h13 : σ 86 13 = 1 - (i : Int)) : (∀ q, (q < 86 ∨ q = 87 ∨ 109 ≤ q) → τ' q = σC q) ∧ (∀ j, (j = 10 ∨ j = 11 ∨ j = 13 ∨ 45 ≤ j) → τ' 86 j = σ 86 j) ∧ τ' 86 1 = 0 ∧ (∀ q j, 88 ≤ q → q ≤ 102 → bw q * (σ 86 13).toNat ≤ j → j < bw q * (σ 86 13).toNat + bw q → τ' q j = σ q j) := by
  obtain ⟨k1, k2, k3, k4⟩ := k
  obtain ⟨-, ⟨e1, e2⟩, -, -⟩ := e
  have en : (σ 86 13).toNat = 1 - i := by omega
  refine ⟨fun q hq => by rw [e1.1 q hq]; exact k1 q (by omega) (by omega) (by omega) (by omega), fun j hj => ?_, by rw [e1.2 1 (by decide)]; exact k4, fun q j q1 q2 q3 q4 => ?_⟩
  · rw [e1.2 j (by omega), k3 j (by omega) (by omega) (by omega) (by omega) (by omega) (by omega) (by omega), h86]
  · rw [en] at q3 q4
    rw [e2 q j q1 q2 q3 q4, k2 q j q1 q2 q3 q4, hb q q1 q2]
theorem a_refused {F p s i l : Nat} {σ σ' : mMem} {N r0 fk fp : Int} (hN : N ≤ 10000) (r : Rel σ p s N) (hi : i = 0 ∨ i = 1) (h13 : σ 86 13 = 1 - (i : Int)) (cl : g_X6_readInto F s σ = some (r0, σ')) (fo : ∀ q, q ≠ 13 → ¬ (14 ≤ q ∧ q ≤ 19 ∧ q ≠ 15) → ¬ (s ≤ q ∧ q ≤ s + 4) → σ' q = σ q) (dd : DdC σ' fk fp) (kk : ∀ σC, σC 86 1 = σ 86 1 → σC 86 13 = σ 86 13 → σC 87 = σ 87 → ∃ τ0 τ' M, g_X12_kitchen F σC = g_X12_kitchen_b131 F M τ' ∧ Kst τ0 σC i ∧ EndK σ τ0 σ' τ' (σ 2) l s i r0 M) : Alk (g_X11_kitchen F) (g_X12_kitchen F) σ N := by
  obtain ⟨r1, r2, r3, r4, r5, r6, r7, r8, r9⟩ := id r
  obtain ⟨hps, ⟨h08, h09, h203⟩, -⟩ := id r5
  have dk := dd.1
  have s38 : s = 3 ∨ s = 8 := by omega
  have ts : ((s : Int)).toNat = s := by omega
  obtain ⟨σ6, e6⟩ : ∃ y, y = mup (mup (mup σ' 1 1 0) 0 10 fk) 0 11 fp := ⟨_, rfl⟩
  have o6 : ∀ q, q ≠ 0 → q ≠ 1 → σ6 q = σ' q := fun q q1 q2 => by rw [e6, mup_off q1, mup_off q1, mup_off q2]
  obtain ⟨σC, eC⟩ : ∃ y, y = mup σ6 85 1 (σ6 85 1 + 1) := ⟨_, rfl⟩
  have oC : ∀ q, q ≠ 85 → σC q = σ6 q := fun q hq => by rw [eC, mup_off hq]
  have f85 : σ6 85 = σ 85 := by rw [o6 85 (by decide) (by decide)]; exact fo 85 (by decide) (by decide) (by omega)
  have cls : g_X11_kitchen F σ = some (-1, σC) := by
    unfold g_X11_kitchen
    rw [h09, ts]
    refine e_t (by omega) (e_mob cl (e_mem (e_mem ?_)))
    rw [mup_off (o := 1) (q := 14) (by decide), dd.2.1]
    refine e_mem ?_
    rw [mup_off (o := 0) (q := 14) (by decide), mup_off (o := 1) (q := 14) (by decide), dd.2.2.1, ← e6]
    have v10 : σ6 0 10 = fk := by rw [e6, mup_ne (by decide), mup_at rfl rfl]
    rw [v10]
    refine e_f (by rw [mw_id (by omega) (by omega)]; omega) (e_mob (σ := σC) (r := -1) ?_ rfl)
    unfold g_X11_refuse g_X11_refuse_b23
    refine e_f (by decide) (e_f (by decide) (e_t (by decide) (e_t (by decide) (e_mem ?_))))
    rw [eC]
    rfl
  have c86 : σC 86 = σ 86 := by rw [oC 86 (by decide), o6 86 (by decide) (by decide)]; exact fo 86 (by decide) (by decide) (by omega)
  have cq : ∀ q, (88 ≤ q → q ≤ 125 → σC q = σ q) := fun q q1 q2 => by rw [oC q (by omega), o6 q (by omega) (by omega)]; exact fo q (by omega) (by omega) (by omega)
  obtain ⟨τ0, τ', M, k1, k2, k3⟩ := kk σC (by rw [c86]) (by rw [c86]) (by rw [oC 87 (by decide), o6 87 (by decide) (by decide)]; exact fo 87 (by decide) (by decide) (by omega))
  obtain ⟨g1, g2, g3, g4⟩ := kit_fr hi k2 k3 c86 (fun q q1 q2 => cq q q1 (by omega)) h13
  have t89 : τ' 86 8 = fk ∧ τ' 86 9 = fp := by
    rcases k3.2.2.2 with ⟨c, -⟩ | ⟨fk', fp', d', e8, e9⟩
    · exact (c.nd dd).elim
    · have x1 : fk' = fk := d'.2.1.symm.trans dd.2.1
      have x2 : fp' = fp := d'.2.2.1.symm.trans dd.2.2.1
      rw [x1] at e8
      rw [x2] at e9
      exact ⟨e8, e9⟩
  obtain ⟨ω0, eo⟩ : ∃ y, y = mup (mup τ' 86 10 fk) 86 11 fp := ⟨_, rfl⟩
  obtain ⟨ω, ew⟩ : ∃ y, y = mup ω0 109 1 (ω0 109 1 + 1) := ⟨_, rfl⟩
  have ref : g_X12_kitchen F σC = some (-1, ω) := by
    rw [k1]
    unfold g_X12_kitchen_b131
    rw [t89.1]
    refine e_mem ?_
    rw [mup_ne (o := 86) (j := 9) (by decide), t89.2]
    refine e_mem ?_
    rw [← eo, show ω0 86 8 = fk by rw [eo, mup_ne (by decide), mup_ne (by decide)]; exact t89.1]
    refine e_f (by rw [mw_id (by omega) (by omega)]; omega) (e_mob (σ := ω) (r := -1) ?_ rfl)
    unfold g_X12_refuses
    refine e_t (by decide) (e_t (by decide) (e_mem ?_))
    rw [ew]
    rfl
  have wo : ∀ q, q ≠ 86 → q ≠ 109 → ω q = τ' q := fun q q1 q2 => by rw [ew, mup_off q2, eo, mup_off q1, mup_off q1]
  have w86 : ∀ j, j ≠ 10 → j ≠ 11 → ω 86 j = τ' 86 j := fun j j1 j2 => by rw [ew, mup_off (by decide), eo, mup_ne (by omega), mup_ne (by omega)]
  have wC : ∀ q, (q < 86 ∨ q = 87 ∨ 110 ≤ q) → ω q = σC q := fun q hq => by rw [wo q (by omega) (by omega)]; exact g1 q (by omega)
  have ws : ∀ q, (q < 85 ∨ q = 87 ∨ 110 ≤ q) → 2 ≤ q → q ≠ 13 → ¬ (14 ≤ q ∧ q ≤ 19 ∧ q ≠ 15) → ¬ (s ≤ q ∧ q ≤ s + 4) → ω q = σ q := fun q h1 h2 h3 h4 h5 => by
    rw [wC q (by omega), oC q (by omega), o6 q (by omega) (by omega)]
    exact fo q h3 h4 h5
  have w0 : ∀ j, ω 0 j = σ6 0 j := fun j => by rw [wC 0 (by decide), oC 0 (by decide)]
  refine ⟨-1, σC, ω, p, s, cls, ref, r.spare (by omega) (fun q hq => ws q (by omega) (by omega) (by omega) (by omega) (by omega)) (fun j hj => ?_) (fun j hj => by rw [w86 j (by omega) (by omega)]; exact g2 j (by omega)) (fun q j q1 q2 q3 q4 => by rw [wo q (by omega) (by omega)]; exact g4 q j q1 q2 q3 q4) ⟨?_, ?_, fun j hj => ?_⟩ (fun j hj => ?_) ⟨⟨?_, ?_⟩, ?_, ?_⟩⟩
  · rw [w0, e6, mup_ne (by omega), mup_ne (by omega), mup_off (by decide), fo 0 (by decide) (by decide) (by omega)]
  · rw [w86 1 (by decide) (by decide), g3, wC 1 (by decide), oC 1 (by decide), e6, mup_off (by decide), mup_off (by decide), mup_at rfl rfl]
  · rw [wC 1 (by decide), oC 1 (by decide), e6, mup_off (by decide), mup_off (by decide), mup_at rfl rfl]; decide
  · rw [wC 1 (by decide), oC 1 (by decide), e6, mup_off (by decide), mup_off (by decide), mup_at rfl rfl] at hj; omega
  · have h := r2 j hj
    have w85 : ω 85 = σC 85 := wC 85 (by decide)
    have w109 : ω0 109 = σ 109 := by rw [eo, mup_off (by decide), mup_off (by decide), g1 109 (by decide)]; exact cq 109 (by decide) (by decide)
    rw [w85, eC, ew, w109, f85]
    by_cases c : j = 1
    · rw [c, mup_at rfl rfl, mup_at rfl rfl]
      rw [c] at h
      omega
    · rw [mup_ne (by omega), mup_ne (by omega), f85, w109]
      omega
  · have x10 : ω 86 10 = fk := by rw [ew, mup_off (by decide), eo, mup_ne (by decide), mup_at rfl rfl]
    rw [x10, w0, e6, mup_ne (by decide), mup_at rfl rfl]
  · rw [w0, e6, mup_ne (by decide), mup_at rfl rfl]
    unfold sml
    omega
  · have x11 : ω 86 11 = fp := by rw [ew, mup_off (by decide), eo, mup_at rfl rfl]
    rw [x11, w0, e6, mup_at rfl rfl]
  · rw [w0, e6, mup_at rfl rfl]
    unfold sml
    omega
