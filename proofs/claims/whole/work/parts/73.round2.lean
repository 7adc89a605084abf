/-! LAYER 2: round, whole -/
theorem BR.sml3 {C R : Int} {B : Nat → Int} (h : BR C R B) (hC : C ≤ 9) (hR : R ≤ 9) : ∀ f, f < 3 → sml (B f) := by
  intro f hf
  obtain ⟨b0, b2, -⟩ := h
  rcases (by omega : f = 0 ∨ f = 1 ∨ f = 2) with rfl | rfl | rfl <;> omega
theorem zc_round {F p n b : Nat} {σ : mMem} {lamp step last : Int} (hF : 2000 ≤ F) (hn : n ≤ 6) (hb : b < n) (hp : p = 3 ∨ p = 8) (hP : PlC σ p) (h11 : σ p 11 = (n : Int)) (h3 : σ 20 3 = (p : Int)) (h4 : σ 20 4 = step) (h5 : σ 20 5 = lamp) (hl : 0 ≤ lamp ∧ lamp ≤ 9) (hst : 0 ≤ step ∧ step ≤ 999) (hA : ∀ j, j < n → BR (σ p 9) (σ p 10) (cB σ 21 j)) (hlast : last = min 80 (999 - step)) :
    ∃ σ', g_X0_stepsRound F 20 (b : Int) σ = some (xFst (fun m => xSame (xIt σ p n lamp step 0 (cB σ 21) m b) (cB σ 21 b)) last.toNat 1, σ') ∧ ∀ q, ¬ (29 ≤ q ∧ q ≤ 34) → σ' q = σ q := by
  have key : ∀ (d m fuel : Nat) (υ : mMem), (d : Int) + m = last → d < fuel → CR σ p n lamp step 0 (cB σ 21) m 29 υ σ → ∃ σ', g_X0_stepsRound_h18 F 20 fuel (b : Int) last ((m + 1 : Nat) : Int) υ = some (xFst (fun m => xSame (xIt σ p n lamp step 0 (cB σ 21) m b) (cB σ 21 b)) d (m + 1), σ') ∧ ∀ q, ¬ (29 ≤ q ∧ q ≤ 34) → σ' q = σ q := by
    intro d
    induction d with
    | zero =>
      intro m fuel υ h1 h2 h
      obtain ⟨f, rfl⟩ : ∃ f, fuel = f + 1 := ⟨fuel - 1, by omega⟩
      refine ⟨υ, ?_, h.1⟩
      unfold g_X0_stepsRound_h18
      exact e_t (by rw [mw_id (by omega) (by omega), mw_id (by omega) (by omega)]; omega) rfl
    | succ d ih =>
      intro m fuel υ h1 h2 h
      obtain ⟨f, rfl⟩ : ∃ f, fuel = f + 1 := ⟨fuel - 1, by omega⟩
      obtain ⟨υ1, a1, a2, -⟩ := zc_try (F := F) (p := p) (n := n) (m := m) (o := 29) (π := σ) (σ := υ) (σ0 := σ) (lamp := lamp) (step := step) (delay := 0) (made := 0) (A := cB σ 21) hn hF hp (by decide) PEq.rfl' hP h11 hl (by omega) (by decide) (by decide) (fun _ _ => made0) hA h
      have e21 : ∀ j, cB υ1 21 j = cB σ 21 j := fun j => by
        funext g
        dsimp only [cB]
        rw [a2.1 21 (by omega)]
      have b1 := a2.2.1 b hb
      have hs1 : ∀ g, g < 3 → sml (cB υ1 30 b g) := ((xIt_BR hA (m + 1) b hb).congr b1).sml3 hP.1.2 hP.2.1.2
      have as := zc_asIn (F := F) (b := b) (σ := υ1) (by omega) hs1 (by rw [e21]; exact (hA b hb).sml3 hP.1.2 hP.2.1.2)
      have iff : xSame (cB υ1 30 b) (cB υ1 21 b) ↔ xSame (xIt σ p n lamp step 0 (cB σ 21) (m + 1) b) (cB σ 21 b) := by
        unfold xSame
        rw [e21, show cB υ1 30 b 0 = _ from b1 0 (by decide), show cB υ1 30 b 1 = _ from b1 1 (by decide), show cB υ1 30 b 2 = _ from b1 2 (by decide)]
      unfold xFst
      by_cases c : xSame (xIt σ p n lamp step 0 (cB σ 21) (m + 1) b) (cB σ 21 b)
      · rw [mb_t (iff.mpr c)] at as
        refine ⟨υ1, ?_, a2.1⟩
        unfold g_X0_stepsRound_h18
        refine e_f (by rw [mw_id (by omega) (by omega), mw_id (by omega) (by omega)]; omega) (e_mob a1 (e_mob as (e_f (by decide) ?_)))
        rw [if_pos c]
      · rw [mb_f (fun q => c (iff.mp q))] at as
        obtain ⟨σ', t1, t2⟩ := ih (m + 1) f υ1 (by omega) (by omega) a2
        refine ⟨σ', ?_, t2⟩
        rw [if_neg c, ← t1]
        conv => lhs; unfold g_X0_stepsRound_h18
        refine e_f (by rw [mw_id (by omega) (by omega), mw_id (by omega) (by omega)]; omega) (e_mob a1 (e_mob as (e_t (by decide) ?_)))
        rw [show ((m + 1 + 1 : Nat) : Int) = ((m + 1 : Nat) : Int) + 1 by omega]
  obtain ⟨υ, s1, s2, -⟩ := zc_start (F := F) (p := p) (n := n) (o := 29) (σ := σ) (π := σ) (delay := 0) (Or.inl rfl) hn hp h3 h4 h5
  obtain ⟨σ', t1, t2⟩ := key last.toNat 0 F υ (by omega) (by omega) s2
  refine ⟨σ', ?_, t2⟩
  unfold g_X0_stepsRound
  have ec : g_X10_comingSteps F 20 80 υ = some (last, υ) := by
    have e20 : υ 20 4 = step := by rw [s2.1 20 (by omega), h4]
    unfold g_X10_comingSteps
    rw [e20]
    refine e_mob (z_min (by omega)) ?_
    rw [hlast]
  exact e_mob s1 (e_mob ec t1)
