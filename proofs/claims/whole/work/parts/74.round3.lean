/-! LAYER 2: round, the reference and both -/
theorem zr_round {F p n b : Nat} {π τ : mMem} {lamp step last : Int} {A : Nat → Nat → Int} (hF : 2000 ≤ F) (hn : n ≤ 6) (hb : b < n) (hR : PlR π p τ) (hP : PlC π p) (h11 : π p 11 = (n : Int)) (h4 : τ 110 0 = step) (hl : 0 ≤ lamp ∧ lamp ≤ 9) (hst : 0 ≤ step ∧ step ≤ 999) (h57 : sml (τ 86 57)) (h60 : sml (τ 86 60)) (h62 : τ 86 62 = 0) (hA : ∀ j, j < n → BR (π p 9) (π p 10) (A j)) (hAr : ∀ j, j < n → BEq (A j) (rB τ 0 j)) (hc : ∀ j, j < n → 0 ≤ τ 112 j ∧ τ 112 j ≤ 80) (hlast : last = min 80 (999 - step)) (υ0 : mMem) (h0 : LR π p n lamp step 0 A 0 υ0 τ) :
    ∃ τ', g_X12_round_h18 F F (b : Int) 1 υ0 = some (xFst (fun m => xSame (xIt π p n lamp step 0 A m b) (A b)) last.toNat 1, τ') ∧ TryF τ' τ := by
  have key : ∀ (d m fuel : Nat) (υ : mMem), (d : Int) + m = last → d < fuel → LR π p n lamp step 0 A m υ τ → ∃ τ', g_X12_round_h18 F fuel (b : Int) ((m + 1 : Nat) : Int) υ = some (xFst (fun m => xSame (xIt π p n lamp step 0 A m b) (A b)) d (m + 1), τ') ∧ TryF τ' τ := by
    intro d
    induction d with
    | zero =>
      intro m fuel υ h1 h2 h
      obtain ⟨f, rfl⟩ : ∃ f, fuel = f + 1 := ⟨fuel - 1, by omega⟩
      have e0 : υ 110 0 = step := by rw [h.1.2.2.2.1 110 (by omega) 0 (by decide), h4]
      refine ⟨υ, ?_, h.1⟩
      unfold g_X12_round_h18
      refine e_mob (zr_ahead (by omega) (by omega) (by decide) (by decide)) ?_
      rw [mb_f (by rw [e0]; omega)]
      exact e_t (by decide) rfl
    | succ d ih =>
      intro m fuel υ h1 h2 h
      obtain ⟨f, rfl⟩ : ∃ f, fuel = f + 1 := ⟨fuel - 1, by omega⟩
      have e0 : υ 110 0 = step := by rw [h.1.2.2.2.1 110 (by omega) 0 (by decide), h4]
      obtain ⟨υ1, a1, a2, -⟩ := zr_try (F := F) (p := p) (n := n) (m := m) (π := π) (τ := υ) (τ0 := τ) (lamp := lamp) (step := step) (delay := 0) (A := A) hn hF hR hP h11 hl (by omega) h57 h60 h62 (by decide) hA h
      have b1 := (a2.2.1 b hb).1
      have cr1 := (a2.2.1 b hb).2
      have cr0 := hc b hb
      have c0 : υ1 112 b = τ 112 b := a2.1.2.2.2.2.1 112 (by decide) (by decide) b (by omega)
      have w0 : υ1 113 b = τ 113 b := a2.1.2.2.2.2.1 113 (by decide) (by decide) b (by omega)
      have x0 := b1 0 (by decide)
      have x1 := b1 1 (by decide)
      have x2 := b1 2 (by decide)
      have y0 := hAr b hb 0 (by decide)
      have y1 := hAr b hb 1 (by decide)
      have y2 := hAr b hb 2 (by decide)
      rw [rB_0, show 6 * 1 + b = 6 + b by omega] at x0
      rw [rB_1, show 6 * 1 + b = 6 + b by omega] at x1
      rw [rB_2, show 6 * 1 + b = 6 + b by omega] at x2
      rw [rB_0, show 6 * 0 + b = b by omega] at y0
      rw [rB_1, show 6 * 0 + b = b by omega] at y1
      rw [rB_2, show 6 * 0 + b = b by omega] at y2
      have wr1 := (xIt_BR (lamp := lamp) (step := step) (delay := 0) hA (m + 1) b hb).2.1
      have wr0 := (hA b hb).2.1
      have iff : (υ1 112 (6 + b) = τ 112 b ∧ υ1 113 (6 + b) = τ 113 b) ↔ xSame (xIt π p n lamp step 0 A (m + 1) b) (A b) := by
        unfold xSame
        omega
      have head : ∀ X, (if ¬ υ1 112 (6 + b) = τ 112 b then (g_X12_round_b75 F (g_X12_round_h18 F f) (b : Int) ((m + 1 : Nat) : Int) υ1) else (if ¬ υ1 113 (6 + b) = τ 113 b then (g_X12_round_b75 F (g_X12_round_h18 F f) (b : Int) ((m + 1 : Nat) : Int) υ1) else (some (((m + 1 : Nat) : Int), υ1)))) = X → g_X12_round_h18 F (f + 1) (b : Int) ((m + 1 : Nat) : Int) υ = X := by
        intro X hX
        unfold g_X12_round_h18
        refine e_mob (zr_ahead (by omega) (by omega) (by decide) (by decide)) ?_
        rw [mb_t (by rw [e0]; omega), show ((m + 1 : Nat) : Int) - 1 = (m : Int) by omega]
        refine e_f (by decide) (e_mob a1 ?_)
        rw [mwN (i := b) (by omega), mw_id (z := 6 + (b : Int)) (by omega) (by omega), show (6 + (b : Int)).toNat = 6 + b by omega, c0, w0, mw_id (z := υ1 112 (6 + b)) (by omega) (by omega), mw_id (z := τ 112 b) (by omega) (by omega), mw_id (z := υ1 113 (6 + b)) (by omega) (by omega), mw_id (z := τ 113 b) (by omega) (by omega)]
        refine e_t (by omega) (e_t (mwR (by omega) (by decide)) ?_)
        rw [← hX]
        by_cases k1 : υ1 112 (6 + b) = τ 112 b
        · refine e_f (fun q => q k1) (e_t (by omega) (e_t (mwR (by omega) (by decide)) ?_))
          exact (if_neg (fun q => q k1)).symm
        · exact (if_pos k1).trans (if_pos k1).symm
      unfold xFst
      by_cases c : xSame (xIt π p n lamp step 0 A (m + 1) b) (A b)
      · have k := iff.mpr c
        refine ⟨υ1, head _ (e_f (fun q => q k.1) (e_f (fun q => q k.2) ?_)), a2.1⟩
        rw [if_pos c]
      · obtain ⟨τ', t1, t2⟩ := ih (m + 1) f υ1 (by omega) (by omega) a2
        have nx : g_X12_round_b75 F (g_X12_round_h18 F f) (b : Int) ((m + 1 : Nat) : Int) υ1 = some (xFst (fun m => xSame (xIt π p n lamp step 0 A m b) (A b)) d (m + 1 + 1), τ') := by
          rw [← t1]
          show g_X12_round_h18 F f (b : Int) (((m + 1 : Nat) : Int) + 1) υ1 = _
          rw [show ((m + 1 + 1 : Nat) : Int) = ((m + 1 : Nat) : Int) + 1 by omega]
        refine ⟨τ', head _ ?_, t2⟩
        rw [if_neg c]
        by_cases k1 : υ1 112 (6 + b) = τ 112 b
        · exact e_f (fun q => q k1) (e_t (fun q => c (iff.mp ⟨k1, q⟩)) nx)
        · exact e_t k1 nx
  exact key last.toNat 0 F υ0 (by omega) (by omega) h0
