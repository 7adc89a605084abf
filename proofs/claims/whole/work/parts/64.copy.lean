/-! LAYER 2: the reference copies a layer -/
theorem zr_copies {F a b : Nat} {τ : mMem} (hF : 2000 ≤ F) (ha : a < 22) (hb : b < 22) (hab : a ≠ b) (hm : 0 ≤ τ 117 b ∧ τ 117 b ≤ 60) :
    ∃ τ', g_X12_copies F (a : Int) (b : Int) τ = some (0, τ') ∧ (∀ q, q < 110 ∨ 118 < q → τ' q = τ q) ∧ τ' 110 = mup1 (τ 110) a (τ 110 b) ∧ τ' 111 = mup1 (τ 111) a (τ 111 b) ∧ τ' 117 = mup1 (τ 117) a (τ 117 b) ∧ (∀ q, 112 ≤ q → q ≤ 116 → (∀ j, ¬ (6 * a ≤ j ∧ j < 6 * a + 6) → τ' q j = τ q j) ∧ ∀ k, k < 6 → τ' q (6 * a + k) = τ q (6 * b + k)) ∧ (∀ j, ¬ (240 * a ≤ j ∧ j < 240 * a + 240) → τ' 118 j = τ 118 j) ∧ ∀ k : Nat, (k : Int) < 4 * τ 117 b → τ' 118 (240 * a + k) = τ 118 (240 * b + k) := by
  obtain ⟨m, em⟩ : ∃ m : Nat, τ 117 b = (m : Int) := ⟨(τ 117 b).toNat, by omega⟩
  -- what is kept
  have kl : ∀ (ω : mMem), ω 117 b = (m : Int) → ∀ (d k fuel : Nat) (υ : mMem), d + k = 4 * m → d < fuel → (∀ q, q ≠ 118 → υ q = ω q) → (∀ j, υ 118 j = if 240 * a ≤ j ∧ j < 240 * a + k then ω 118 (240 * b + (j - 240 * a)) else ω 118 j) →
      ∃ τ', g_X12_copies_h162 F fuel (a : Int) (b : Int) (k : Int) υ = some (0, τ') ∧ (∀ q, q ≠ 118 → τ' q = ω q) ∧ (∀ j, τ' 118 j = if 240 * a ≤ j ∧ j < 240 * a + 4 * m then ω 118 (240 * b + (j - 240 * a)) else ω 118 j) := by
    intro ω wm d
    induction d with
    | zero =>
      intro k fuel υ h1 h2 i1 i2
      obtain ⟨f, rfl⟩ : ∃ f, fuel = f + 1 := ⟨fuel - 1, by omega⟩
      have e : k = 4 * m := by omega
      subst e
      refine ⟨υ, ?_, i1, i2⟩
      unfold g_X12_copies_h162
      rw [mwN (i := b) (by omega), i1 117 (by decide), wm]
      exact e_t (mwR (by omega) (by decide)) (e_t (by rw [mw_id (by omega) (by omega), mw_id (by omega) (by omega)]; omega) rfl)
    | succ d ih =>
      intro k fuel υ h1 h2 i1 i2
      obtain ⟨f, rfl⟩ : ∃ f, fuel = f + 1 := ⟨fuel - 1, by omega⟩
      have e : υ 118 (240 * b + k) = ω 118 (240 * b + k) := by rw [i2, if_neg (by omega)]
      obtain ⟨τ', t1, t2⟩ := ih (k + 1) f (mup υ 118 (240 * a + k) (ω 118 (240 * b + k))) (by omega) (by omega) (fun q hq => by rw [mup_off hq, i1 q hq]) (fun j => by
        rw [mup_row]
        by_cases ej : j = 240 * a + k
        · rw [mup1_at ej, if_pos (by omega), ej]
          exact congrArg (ω 118) (by omega)
        · rw [mup1_ne ej, i2]
          by_cases c : 240 * a ≤ j ∧ j < 240 * a + k
          · rw [if_pos c, if_pos (by omega)]
          · rw [if_neg c, if_neg (by omega)])
      refine ⟨τ', ?_, t2⟩
      rw [← t1]
      conv => lhs; unfold g_X12_copies_h162
      rw [mwN (i := b) (by omega), i1 117 (by decide), wm, mw_id (z := 240 * (b : Int) + (k : Int)) (by omega) (by omega), mw_id (z := 240 * (a : Int) + (k : Int)) (by omega) (by omega), show (240 * (b : Int) + (k : Int)).toNat = 240 * b + k by omega, show (240 * (a : Int) + (k : Int)).toNat = 240 * a + k by omega, e]
      refine e_t (mwR (by omega) (by decide)) (e_f (by rw [mw_id (by omega) (by omega), mw_id (by omega) (by omega)]; omega) (e_t (by omega) (e_t (by omega) (e_mem ?_))))
      rw [show ((k + 1 : Nat) : Int) = (k : Int) + 1 by omega]
  -- the boxes
  have bl : ∀ (ω : mMem), ω 117 = τ 117 → ω 118 = τ 118 → ∀ (d k fuel : Nat) (υ : mMem), d + k = 6 → d < fuel → (∀ q, q < 112 ∨ 116 < q → υ q = ω q) → (∀ q, 112 ≤ q → q ≤ 116 → ∀ j, υ q j = if 6 * a ≤ j ∧ j < 6 * a + k then ω q (6 * b + (j - 6 * a)) else ω q j) →
      ∃ τ', g_X12_copies_h26 F fuel (a : Int) (b : Int) (k : Int) υ = some (0, τ') ∧ (∀ q, q < 112 ∨ 118 < q → τ' q = ω q) ∧ τ' 117 = mup1 (τ 117) a (τ 117 b) ∧ (∀ q, 112 ≤ q → q ≤ 116 → ∀ j, τ' q j = if 6 * a ≤ j ∧ j < 6 * a + 6 then ω q (6 * b + (j - 6 * a)) else ω q j) ∧ (∀ j, τ' 118 j = if 240 * a ≤ j ∧ j < 240 * a + 4 * m then τ 118 (240 * b + (j - 240 * a)) else τ 118 j) := by
    intro ω w7 w8 d
    induction d with
    | zero =>
      intro k fuel υ h1 h2 i1 i2
      obtain ⟨f, rfl⟩ : ∃ f, fuel = f + 1 := ⟨fuel - 1, by omega⟩
      have e : k = 6 := by omega
      subst e
      have v7 : υ 117 = τ 117 := by rw [i1 117 (by omega), w7]
      have v8 : υ 118 = τ 118 := by rw [i1 118 (by omega), w8]
      obtain ⟨τ', t1, t2, t3⟩ := kl (mup υ 117 a (τ 117 b)) (by rw [mup_ne (by omega), v7, em]) (4 * m) 0 F (mup υ 117 a (τ 117 b)) (by omega) (by omega) (fun _ _ => rfl) (fun j => by rw [if_neg (by omega)])
      refine ⟨τ', ?_, fun q hq => by rw [t2 q (by omega), mup_off (by omega), i1 q (by omega)], by rw [t2 117 (by decide), mup_row, v7], fun q q1 q2 j => by rw [t2 q (by omega), mup_off (by omega)]; exact i2 q q1 q2 j, fun j => by rw [t3, mup_off (by decide), v8]⟩
      unfold g_X12_copies_h26
      rw [mwN (i := b) (by omega), mwN (i := a) (by omega), v7]
      exact e_t (by decide) (e_t (mwR (by omega) (by decide)) (e_t (mwR (by omega) (by decide)) (e_mem t1)))
    | succ d ih =>
      intro k fuel υ h1 h2 i1 i2
      obtain ⟨f, rfl⟩ : ∃ f, fuel = f + 1 := ⟨fuel - 1, by omega⟩
      have e : ∀ q, 112 ≤ q → q ≤ 116 → υ q (6 * b + k) = ω q (6 * b + k) := fun q q1 q2 => by rw [i2 q q1 q2, if_neg (by omega)]
      generalize hψ : mup (mup (mup (mup (mup υ 112 (6 * a + k) (υ 112 (6 * b + k))) 113 (6 * a + k) (υ 113 (6 * b + k))) 114 (6 * a + k) (υ 114 (6 * b + k))) 115 (6 * a + k) (υ 115 (6 * b + k))) 116 (6 * a + k) (υ 116 (6 * b + k)) = ψ
      have pq : ∀ q, 112 ≤ q → q ≤ 116 → ψ q = mup1 (υ q) (6 * a + k) (υ q (6 * b + k)) := by
        intro q q1 q2
        rw [← hψ]
        rcases (by omega : q = 112 ∨ q = 113 ∨ q = 114 ∨ q = 115 ∨ q = 116) with rfl | rfl | rfl | rfl | rfl
        · rw [mup_off (by decide), mup_off (by decide), mup_off (by decide), mup_off (by decide), mup_row]
        · rw [mup_off (by decide), mup_off (by decide), mup_off (by decide), mup_row, mup_off (by decide)]
        · rw [mup_off (by decide), mup_off (by decide), mup_row, mup_off (by decide), mup_off (by decide)]
        · rw [mup_off (by decide), mup_row, mup_off (by decide), mup_off (by decide), mup_off (by decide)]
        · rw [mup_row, mup_off (by decide), mup_off (by decide), mup_off (by decide), mup_off (by decide)]
      obtain ⟨τ', t1, t2⟩ := ih (k + 1) f ψ (by omega) (by omega) (fun q hq => by rw [← hψ, mup_off (by omega), mup_off (by omega), mup_off (by omega), mup_off (by omega), mup_off (by omega), i1 q hq]) (fun q q1 q2 j => by
        rw [pq q q1 q2]
        by_cases ej : j = 6 * a + k
        · rw [mup1_at ej, if_pos (by omega), ej, e q q1 q2]
          exact congrArg (ω q) (by omega)
        · rw [mup1_ne ej, i2 q q1 q2]
          by_cases c : 6 * a ≤ j ∧ j < 6 * a + k
          · rw [if_pos c, if_pos (by omega)]
          · rw [if_neg c, if_neg (by omega)])
      refine ⟨τ', ?_, t2⟩
      rw [← t1]
      conv => lhs; unfold g_X12_copies_h26
      rw [mw_id (z := 6 * (b : Int) + (k : Int)) (by omega) (by omega), mw_id (z := 6 * (a : Int) + (k : Int)) (by omega) (by omega), show (6 * (b : Int) + (k : Int)).toNat = 6 * b + k by omega, show (6 * (a : Int) + (k : Int)).toNat = 6 * a + k by omega]
      refine e_f (by rw [mw_id (by omega) (by omega), mw_id (by omega) (by omega)]; omega) (e_t (by omega) (e_t (by omega) (e_mem (e_t (by omega) (e_t (by omega) (e_mem (e_t (by omega) (e_t (by omega) (e_mem (e_t (by omega) (e_t (by omega) (e_mem (e_t (by omega) (e_t (by omega) (e_mem ?_)))))))))))))))
      rw [← hψ, show ((k + 1 : Nat) : Int) = (k : Int) + 1 by omega]
      rfl
  have w2q : ∀ q, q ≠ 110 → q ≠ 111 → (mup (mup τ 110 a (τ 110 b)) 111 a (τ 111 b)) q = τ q := fun q q1 q2 => by rw [mup_off q2, mup_off q1]
  obtain ⟨τ', t1, t2, t3, t4, t5⟩ := bl (mup (mup τ 110 a (τ 110 b)) 111 a (τ 111 b)) (w2q 117 (by decide) (by decide)) (w2q 118 (by decide) (by decide)) 6 0 F (mup (mup τ 110 a (τ 110 b)) 111 a (τ 111 b)) (by omega) (by omega) (fun _ _ => rfl) (fun q _ _ j => by rw [if_neg (by omega)])
  refine ⟨τ', ?_, ?_, ?_, ?_, t3, ?_, ?_, ?_⟩
  · unfold g_X12_copies
    rw [mwN (i := b) (by omega), mwN (i := a) (by omega)]
    refine e_t (mwR (by omega) (by decide)) (e_t (mwR (by omega) (by decide)) (e_mem (e_t (mwR (by omega) (by decide)) (e_t (mwR (by omega) (by decide)) (e_mem ?_)))))
    rw [mup_off (show (111 : Nat) ≠ 110 by decide)]
    exact t1
  · intro q hq
    rw [t2 q (by omega), w2q q (by omega) (by omega)]
  · rw [t2 110 (by omega), mup_off (by decide), mup_row]
  · rw [t2 111 (by omega), mup_row, mup_off (by decide)]
  · intro q q1 q2
    refine ⟨fun j hj => by rw [t4 q q1 q2, if_neg hj, w2q q (by omega) (by omega)], fun k hk => ?_⟩
    rw [t4 q q1 q2, if_pos (by omega), w2q q (by omega) (by omega)]
    exact congrArg (τ q) (by omega)
  · intro j hj
    rw [t5, if_neg (by omega)]
  · intro k hk
    rw [t5, if_pos (by omega)]
    exact congrArg (τ 118) (by omega)
