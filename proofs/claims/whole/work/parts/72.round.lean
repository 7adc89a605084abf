/-! LAYER 2: round -/
theorem zr_startA {F p n : Nat} {π τ : mMem} {lamp step delay T : Int} {ring : Nat → Int} {A : Nat → Nat → Int} (hF : 2000 ≤ F) (hn : n ≤ 6) (hst : τ 110 0 = step) (hla : τ 111 0 = lamp) (hK : KRel τ 0 T ring) (hc : ∀ j, j < n → 0 ≤ τ 112 j ∧ τ 112 j ≤ 80) (hA : ∀ j, j < n → BEq (A j) (rB τ 0 j)) : ∃ τ', g_X12_copies F 1 0 τ = some (0, τ') ∧ LR π p n lamp step delay A 0 τ' τ := by
  obtain ⟨τ', a1, a2, a3, a4⟩ := zr_start (F := F) (p := p) (π := π) (delay := delay) hF hn hst hla hK hc
  refine ⟨τ', a1, a2, fun j hj => ⟨fun g hg => ?_, (a3 j hj).2⟩, a4⟩
  rw [(a3 j hj).1 g hg]
  exact (hA j hj g hg).symm
/-- the first of d numbers from k on of which P holds; -1 -/
def xFst (P : Nat → Prop) [DecidablePred P] : Nat → Nat → Int
  | 0, _ => -1
  | d + 1, k => if P k then (k : Int) else xFst P d (k + 1)
theorem made0 {k m : Nat} : ((k : Int) * 0 ≤ 0) ↔ ((k : Int) * 0 ≤ (m : Int)) := by
  rw [Int.mul_zero]
  omega
abbrev xSame (B C : Nat → Int) : Prop := B 0 = C 0 ∧ B 1 = C 1 ∧ B 2 = C 2
theorem zc_asIn {F b : Nat} {σ : mMem} (hb : b < 6) (h1 : ∀ f, f < 3 → sml (cB σ 30 b f)) (h2 : ∀ f, f < 3 → sml (cB σ 21 b f)) : g_X0_isAsIn F 20 (b : Int) σ = some (mb (xSame (cB σ 30 b) (cB σ 21 b)), σ) := by
  have p0 : sml (σ (29 + 1) (10 * b + 0)) := h1 0 (by decide)
  have p1 : sml (σ (29 + 1) (10 * b + 1)) := h1 1 (by decide)
  have p2 : sml (σ (29 + 1) (10 * b + 2)) := h1 2 (by decide)
  have q0 : sml (σ (20 + 1) (10 * b + 0)) := h2 0 (by decide)
  have q1 : sml (σ (20 + 1) (10 * b + 1)) := h2 1 (by decide)
  have q2 : sml (σ (20 + 1) (10 * b + 2)) := h2 2 (by decide)
  unfold g_X0_isAsIn g_X0_isAsIn_b58 g_X0_isAsIn_b59
  refine e_mob (zo_0 hb) (e_mob (zo_0 hb) ?_)
  rw [mw_id (z := σ (29 + 1) (10 * b + 0)) (by omega) (by omega), mw_id (z := σ (20 + 1) (10 * b + 0)) (by omega) (by omega)]
  by_cases c0 : σ (29 + 1) (10 * b + 0) = σ (20 + 1) (10 * b + 0)
  · refine e_f (fun q => q c0) (e_mob (zo_1 hb) (e_mob (zo_1 hb) ?_))
    rw [mw_id (z := σ (29 + 1) (10 * b + 1)) (by omega) (by omega), mw_id (z := σ (20 + 1) (10 * b + 1)) (by omega) (by omega)]
    by_cases c1 : σ (29 + 1) (10 * b + 1) = σ (20 + 1) (10 * b + 1)
    · refine e_f (fun q => q c1) (e_mob (zo_2 hb) (e_mob (zo_2 hb) ?_))
      rw [mw_id (z := σ (29 + 1) (10 * b + 2)) (by omega) (by omega), mw_id (z := σ (20 + 1) (10 * b + 2)) (by omega) (by omega)]
      by_cases c2 : σ (29 + 1) (10 * b + 2) = σ (20 + 1) (10 * b + 2)
      · rw [mb_t ⟨c0, c1, c2⟩]
        exact e_f (fun q => q c2) (e_t (by decide) rfl)
      · rw [mb_f (fun q => c2 q.2.2)]
        exact e_t c2 (e_t (by decide) rfl)
    · rw [mb_f (fun q => c1 q.2.1)]
      exact e_t c1 (e_t (by decide) rfl)
  · rw [mb_f (fun q => c0 q.1)]
    exact e_t c0 (e_t (by decide) rfl)
