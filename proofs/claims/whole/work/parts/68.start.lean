/-! LAYER 2: may so many steps come; a try begins -/
theorem zc_may {F o : Nat} {σ : mMem} {x a b : Int} (hx : i32 x) (h4 : 0 ≤ σ o 4 ∧ σ o 4 ≤ 999) (ha : 0 ≤ a ∧ a ≤ 1000) (hb : 0 ≤ b ∧ b ≤ 1000) : g_X10_mayPass F o x a b σ = some (mb (a ≤ x ∧ x ≤ b ∧ σ o 4 ≤ 999 - x), σ) := by
  have ec : g_X10_comingSteps F o b σ = some (min b (999 - σ o 4), σ) := e_mob (z_min (by omega)) rfl
  unfold g_X10_mayPass g_X10_mayPass_b18 g_X10_mayPass_b19
  rw [mw_id (z := x) (by omega) (by omega), mw_id (z := a) (by omega) (by omega)]
  by_cases c : a ≤ x ∧ x ≤ b ∧ σ o 4 ≤ 999 - x
  · rw [mb_t c]
    refine e_f (by omega) (e_mob ec ?_)
    exact e_f (by rw [mw_id (by omega) (by omega)]; omega) (e_t (by decide) rfl)
  · rw [mb_f c]
    by_cases c0 : x < a
    · exact e_t c0 (e_t (by decide) rfl)
    · refine e_f c0 (e_mob ec ?_)
      exact e_t (by rw [mw_id (by omega) (by omega)]; omega) (e_t (by decide) rfl)
theorem zr_ahead {F : Nat} {τ : mMem} {x a b : Int} (hx : i32 x) (h4 : 0 ≤ τ 110 0 ∧ τ 110 0 ≤ 999) (ha : 0 ≤ a ∧ a ≤ 1000) (hb : 0 ≤ b ∧ b ≤ 1000) : g_X12_isAhead F x a b τ = some (mb (a ≤ x ∧ x ≤ b ∧ τ 110 0 ≤ 999 - x), τ) := by
  unfold g_X12_isAhead g_X12_isAhead_b27 g_X12_isAhead_b28
  refine e_mob (zr_isi (by omega)) ?_
  by_cases c : a ≤ x ∧ x ≤ b
  · rw [mb_t c, show (mw 0).toNat = 0 by decide]
    refine e_f (by decide) (e_t (by decide) ?_)
    rw [mw_id (z := 999 - x) (by omega) (by omega), mw_id (z := τ 110 0) (by omega) (by omega)]
    by_cases c2 : τ 110 0 ≤ 999 - x
    · rw [mb_t (by omega)]
      exact e_f (by omega) (e_t (by decide) rfl)
    · rw [mb_f (by omega)]
      exact e_t (by omega) (e_t (by decide) rfl)
  · rw [mb_f c, mb_f (by omega)]
    exact e_t (by decide) (e_t (by decide) rfl)
theorem KRel.copy {τ τ' : mMem} {a b : Nat} {T : Int} {ring : Nat → Int} (h : KRel τ b T ring) (e7 : τ' 117 a = τ 117 b) (e8 : ∀ k : Nat, (k : Int) < 4 * τ 117 b → τ' 118 (240 * a + k) = τ 118 (240 * b + k)) : KRel τ' a T ring := by
  obtain ⟨h1, h2, h3⟩ := h
  refine ⟨h1, e7.trans h2, fun i hi => ?_⟩
  have := h3 i hi
  rw [Nat.add_assoc, Nat.add_assoc, Nat.add_assoc, e8 (4 * i) (by omega), e8 (4 * i + 1) (by omega), e8 (4 * i + 2) (by omega), e8 (4 * i + 3) (by omega)]
  exact this
theorem rB_copy {τ τ' : mMem} {a b k : Nat} (h86 : τ' 86 = τ 86) (h94 : τ' 94 = τ 94) (h95 : τ' 95 = τ 95) (h96 : τ' 96 = τ 96) (hq : ∀ q, 112 ≤ q → q ≤ 116 → τ' q (6 * a + k) = τ q (6 * b + k)) : rB τ' a k = rB τ b k := by
  funext f
  unfold rB
  rw [h86, h94, h95, h96, hq 112 (by omega) (by omega), hq 113 (by omega) (by omega), hq 114 (by omega) (by omega), hq 115 (by omega) (by omega), hq 116 (by omega) (by omega)]
theorem zr_start {F p n : Nat} {π τ : mMem} {lamp step delay T : Int} {ring : Nat → Int} (hF : 2000 ≤ F) (hn : n ≤ 6) (hst : τ 110 0 = step) (hla : τ 111 0 = lamp) (hK : KRel τ 0 T ring) (hc : ∀ j, j < n → 0 ≤ τ 112 j ∧ τ 112 j ≤ 80) : ∃ τ', g_X12_copies F 1 0 τ = some (0, τ') ∧ LR π p n lamp step delay (rB τ 0) 0 τ' τ := by
  obtain ⟨k1, k2, -⟩ := id hK
  obtain ⟨τ', a1, a2, a3, a4, a5, a6, a7, a8⟩ := zr_copies (F := F) (a := 1) (b := 0) (τ := τ) hF (by decide) (by decide) (by decide) (by omega)
  refine ⟨τ', a1, ⟨fun q q1 _ => a2 q (by omega), fun q q1 => a2 q (by omega), fun j _ _ => by rw [a2 86 (by omega)], ?_, ?_, ?_⟩, ?_, ?_, ?_, T, ring, ?_⟩
  · intro q hq j hj
    rcases hq with rfl | rfl | rfl
    · rw [a3, mup1_ne hj]
    · rw [a4, mup1_ne hj]
    · rw [a5, mup1_ne hj]
  · intro q q1 q2 j hj
    exact (a6 q q1 q2).1 j (by omega)
  · intro j hj
    exact a7 j (by omega)
  · intro j hj
    refine ⟨fun g _ => ?_, ?_⟩
    · show rB τ' 1 j g = rB τ 0 j g
      rw [rB_copy (a2 86 (by omega)) (a2 94 (by omega)) (a2 95 (by omega)) (a2 96 (by omega)) (fun q q1 q2 => (a6 q q1 q2).2 j (by omega))]
    · have e := (a6 112 (by decide) (by decide)).2 j (by omega)
      rw [show 6 * 1 + j = 6 + j by omega, show 6 * 0 + j = j by omega] at e
      rw [e]
      exact hc j hj
  · rw [a3, mup1_at rfl, hst]
    omega
  · rw [a4, mup1_at rfl, hla]
  · exact hK.copy (by rw [a5, mup1_at rfl]) a8
