/-! LAYER 2: wheel, the steps that tell -/
theorem and1 (x : Int) : mand x 1 = (((mI x).toBitVec.toNat % 2 : Nat) : Int) := by
  have e : (mI x &&& mI 1).toBitVec.toNat = (mI x).toBitVec.toNat % 2 := by
    rw [Int32.toBitVec_and, BitVec.toNat_and, show (mI 1).toBitVec.toNat = 1 by decide, Nat.and_one_is_mod]
  unfold mand
  rw [← Int32.toInt_toBitVec, BitVec.toInt_eq_toNat_of_lt (by rw [e]; omega), e]
theorem and1_both (a c : Int) : mand (mand a c) 1 = 1 ↔ mand a 1 = 1 ∧ mand c 1 = 1 := by
  rw [and1, and1 a, and1 c]
  have e : (mI (mand a c)).toBitVec.toNat = (mI a).toBitVec.toNat &&& (mI c).toBitVec.toNat := by
    unfold mand
    rw [mI_of, Int32.toBitVec_and, BitVec.toNat_and]
  rw [e]
  have m := Nat.and_mod_two_pow (a := (mI a).toBitVec.toNat) (b := (mI c).toBitVec.toNat) (n := 1)
  rw [show (2 : Nat) ^ 1 = 2 from rfl] at m
  rw [m]
  have ha : (mI a).toBitVec.toNat % 2 = 0 ∨ (mI a).toBitVec.toNat % 2 = 1 := by omega
  have hc : (mI c).toBitVec.toNat % 2 = 0 ∨ (mI c).toBitVec.toNat % 2 = 1 := by omega
  rcases ha with h1 | h1 <;> rcases hc with h2 | h2 <;> rw [h1, h2] <;> decide
theorem and1_rng (x : Int) : 0 ≤ mand x 1 ∧ mand x 1 ≤ 1 := by
  rw [and1]
  omega
theorem j_cn {F i a : Nat} {σ τ : mMem} {P : Nat → Nat → Int} {D best : Int} (hi : i ≤ 40) (ha : a < 10) (hP : ∀ w, w < 10 → (σ (38 + w) i = P w i ∧ τ 124 (41 * w + i) = P w i) ∧ -1 ≤ P w i ∧ P w i ≤ 100) : ∀ (d c fuel : Nat) (cnt : Int), d + c = 10 → d < fuel → 0 ≤ cnt ∧ cnt ≤ c → ∃ v : Int, (0 ≤ v ∧ v ≤ 10) ∧ (∀ k5, g_X9_mostLeft_h28 F k5 fuel D (i : Int) best (a : Int) cnt (c : Int) σ = mob (g_J9_max_7cf53 F best v σ) (fun r301 σ302 => k5 D (i : Int) r301 ((a : Int) + 1) σ302)) ∧ ∀ k81 k103 x4 x5 x7, g_X12_wheel_h116 F k81 k103 fuel D x4 x5 (i : Int) x7 (a : Int) cnt (c : Int) τ = (if mw v ≤ mw x7 then (g_X12_wheel_b202 F k81 k103 D x4 x5 (i : Int) (a : Int) x7 τ) else (g_X12_wheel_b202 F k81 k103 D x4 x5 (i : Int) (a : Int) v τ)) := by
  intro d
  induction d with
  | zero =>
    intro c fuel cnt e1 e2 e3
    obtain ⟨f, rfl⟩ : ∃ f, fuel = f + 1 := ⟨fuel - 1, by omega⟩
    refine ⟨cnt, by omega, fun k5 => ?_, fun k81 k103 x4 x5 x7 => ?_⟩
    · unfold g_X9_mostLeft_h28
      exact e_t (by rw [mw_id (by omega) (by omega), mw_id (by omega) (by omega)]; omega) rfl
    · unfold g_X12_wheel_h116
      exact e_t (by rw [mw_id (by omega) (by omega), mw_id (by omega) (by omega)]; omega) rfl
  | succ d ih =>
    intro c fuel cnt e1 e2 e3
    obtain ⟨f, rfl⟩ : ∃ f, fuel = f + 1 := ⟨fuel - 1, by omega⟩
    obtain ⟨⟨pa1, pa2⟩, pa3, pa4⟩ := hP a ha
    obtain ⟨⟨pc1, pc2⟩, pc3, pc4⟩ := hP c (by omega)
    have lt : ¬ mw 10 ≤ mw (c : Int) := by rw [mw_id (by omega) (by omega), mw_id (by omega) (by omega)]; omega
    have rA := and1_rng (mshr D (a : Int))
    have rC := and1_rng (mshr D (c : Int))
    have rB' := and1_rng (mand (mshr D (a : Int)) (mshr D (c : Int)))
    have both := and1_both (mshr D (a : Int)) (mshr D (c : Int))
    obtain ⟨t, ht01, hc, hr⟩ : ∃ t : Int, (t = 0 ∨ t = 1) ∧ (∀ k5 X, g_X9_mostLeft_h28 F k5 f D (i : Int) best (a : Int) (cnt + t) ((c : Int) + 1) σ = X → g_X9_mostLeft_h28 F k5 (f + 1) D (i : Int) best (a : Int) cnt (c : Int) σ = X) ∧ ∀ k81 k103 x4 x5 x7 X, g_X12_wheel_h116 F k81 k103 f D x4 x5 (i : Int) x7 (a : Int) (cnt + t) ((c : Int) + 1) τ = X → g_X12_wheel_h116 F k81 k103 (f + 1) D x4 x5 (i : Int) x7 (a : Int) cnt (c : Int) τ = X := by
      by_cases cb : mand (mshr D (a : Int)) 1 = 1 ∧ mand (mshr D (c : Int)) 1 = 1
      · have cb' := both.mpr cb
        by_cases cp : P a i = P c i
        · refine ⟨1, Or.inr rfl, fun k5 X hX => ?_, fun k81 k103 x4 x5 x7 X hX => ?_⟩
          · unfold g_X9_mostLeft_h28 g_X9_mostLeft_b55 g_X9_mostLeft_b89 g_X9_mostLeft_b90
            rw [cb', mwN (i := a) (by omega), mwN (i := c) (by omega), mwN (i := i) (by omega), show 37 + 1 + a = 38 + a by omega, show 37 + 1 + c = 38 + c by omega, pa1, pc1, cp]
            exact e_f lt (e_f (fun e => e rfl) (e_f (by decide) (e_t (mwR (by omega) (by decide)) (e_t (mwR (by omega) (by decide)) (e_t (mwR (by omega) (by decide)) (e_t (mwR (by omega) (by decide)) (e_f (fun e => e rfl) (e_let hX))))))))
          · unfold g_X12_wheel_h116 g_X12_wheel_b178 g_X12_wheel_b179
            rw [cb.1, cb.2, show 41 * (a : Int) + (i : Int) = ((41 * a + i : Nat) : Int) by omega, show 41 * (c : Int) + (i : Int) = ((41 * c + i : Nat) : Int) by omega, mwN (i := 41 * a + i) (by omega), mwN (i := 41 * c + i) (by omega), pa2, pc2, cp]
            exact e_f lt (e_f (fun e => e rfl) (e_f (fun e => e rfl) (e_t (mwR (by omega) (by decide)) (e_t (mwR (by omega) (by decide)) (e_f (fun e => e rfl) (e_let hX))))))
        · refine ⟨0, Or.inl rfl, fun k5 X hX => ?_, fun k81 k103 x4 x5 x7 X hX => ?_⟩
          · unfold g_X9_mostLeft_h28 g_X9_mostLeft_b55 g_X9_mostLeft_b89 g_X9_mostLeft_b90
            rw [cb', mwN (i := a) (by omega), mwN (i := c) (by omega), mwN (i := i) (by omega), show 37 + 1 + a = 38 + a by omega, show 37 + 1 + c = 38 + c by omega, pa1, pc1, mw_id (z := P a i) (by omega) (by omega), mw_id (z := P c i) (by omega) (by omega)]
            exact e_f lt (e_f (fun e => e rfl) (e_f (by decide) (e_t (mwR (by omega) (by decide)) (e_t (mwR (by omega) (by decide)) (e_t (mwR (by omega) (by decide)) (e_t (mwR (by omega) (by decide)) (e_t cp (e_let hX))))))))
          · unfold g_X12_wheel_h116 g_X12_wheel_b178 g_X12_wheel_b179
            rw [cb.1, cb.2, show 41 * (a : Int) + (i : Int) = ((41 * a + i : Nat) : Int) by omega, show 41 * (c : Int) + (i : Int) = ((41 * c + i : Nat) : Int) by omega, mwN (i := 41 * a + i) (by omega), mwN (i := 41 * c + i) (by omega), pa2, pc2, mw_id (z := P a i) (by omega) (by omega), mw_id (z := P c i) (by omega) (by omega)]
            exact e_f lt (e_f (fun e => e rfl) (e_f (fun e => e rfl) (e_t (mwR (by omega) (by decide)) (e_t (mwR (by omega) (by decide)) (e_t cp (e_let hX))))))
      · have cb' : ¬ mand (mand (mshr D (a : Int)) (mshr D (c : Int))) 1 = 1 := fun e => cb (both.mp e)
        refine ⟨0, Or.inl rfl, fun k5 X hX => ?_, fun k81 k103 x4 x5 x7 X hX => ?_⟩
        · unfold g_X9_mostLeft_h28 g_X9_mostLeft_b55 g_X9_mostLeft_b89 g_X9_mostLeft_b90
          exact e_f lt (e_t (by rw [mw1', mw_id (by omega) (by omega)]; exact cb') (e_t (by decide) (e_let hX)))
        · unfold g_X12_wheel_h116 g_X12_wheel_b178 g_X12_wheel_b179
          refine e_f lt ?_
          by_cases c1 : mand (mshr D (a : Int)) 1 = 1
          · exact e_f (by rw [c1]; exact fun e => e rfl) (e_t (by rw [mw1', mw_id (by omega) (by omega)]; exact fun e => cb ⟨c1, e⟩) (e_let hX))
          · exact e_t (by rw [mw1', mw_id (by omega) (by omega)]; exact c1) (e_let hX)
    obtain ⟨v, v1, v2, v3⟩ := ih (c + 1) f (cnt + t) (by omega) (by omega) (by omega)
    refine ⟨v, v1, fun k5 => hc k5 _ ?_, fun k81 k103 x4 x5 x7 => hr k81 k103 x4 x5 x7 _ ?_⟩
    · rw [← v2 k5, show ((c + 1 : Nat) : Int) = (c : Int) + 1 by omega]
    · rw [← v3 k81 k103 x4 x5 x7, show ((c + 1 : Nat) : Int) = (c : Int) + 1 by omega]
theorem j_ms {F i : Nat} {σ τ : mMem} {P : Nat → Nat → Int} {D : Int} (hF : 2000 ≤ F) (hi : i ≤ 40) (hP : ∀ w, w < 10 → (σ (38 + w) i = P w i ∧ τ 124 (41 * w + i) = P w i) ∧ -1 ≤ P w i ∧ P w i ≤ 100) : ∀ (d a fuel : Nat) (best : Int), d + a = 10 → d < fuel → 0 ≤ best ∧ best ≤ 10 → ∃ v : Int, (0 ≤ v ∧ v ≤ 10) ∧ g_X9_mostLeft_h5 F fuel D (i : Int) best (a : Int) σ = some (v, σ) ∧ ∀ k81 x4 x5, g_X12_wheel_h103 F k81 fuel D x4 x5 (i : Int) best (a : Int) τ = (if mw v < mw x5 then (g_X12_wheel_b228 F k81 D (i : Int) v (i : Int) τ) else (g_X12_wheel_b228 F k81 D x4 x5 (i : Int) τ)) := by
  intro d
  induction d with
  | zero =>
    intro a fuel best e1 e2 e3
    obtain ⟨f, rfl⟩ : ∃ f, fuel = f + 1 := ⟨fuel - 1, by omega⟩
    refine ⟨best, e3, ?_, fun k81 x4 x5 => ?_⟩
    · unfold g_X9_mostLeft_h5 g_X9_mostLeft_b112
      exact e_t (by rw [mw_id (by omega) (by omega), mw_id (by omega) (by omega)]; omega) rfl
    · unfold g_X12_wheel_h103
      exact e_t (by rw [mw_id (by omega) (by omega), mw_id (by omega) (by omega)]; omega) rfl
  | succ d ih =>
    intro a fuel best e1 e2 e3
    obtain ⟨f, rfl⟩ : ∃ f, fuel = f + 1 := ⟨fuel - 1, by omega⟩
    obtain ⟨v, v1, v2, v3⟩ := j_cn (F := F) (i := i) (a := a) (σ := σ) (τ := τ) (P := P) (D := D) (best := best) hi (by omega) hP 10 0 F 0 (by omega) (by omega) (by decide)
    obtain ⟨u, u1, u2, u3⟩ := ih (a + 1) f (max best v) (by omega) (by omega) (by omega)
    refine ⟨u, u1, ?_, fun k81 x4 x5 => ?_⟩
    · rw [← u2]
      conv => lhs; unfold g_X9_mostLeft_h5
      refine e_f (by rw [mw_id (by omega) (by omega), mw_id (by omega) (by omega)]; omega) (e_f (by rw [mw_id (by omega) (by omega)]; omega) (e_f (by rw [mw_id (by omega) (by omega), mw_id (by omega) (by omega)]; omega) ((v2 _).trans (e_mob (z_max (by omega)) ?_))))
      rw [show ((a + 1 : Nat) : Int) = (a : Int) + 1 by omega]
    · rw [← u3 k81 x4 x5]
      conv => lhs; unfold g_X12_wheel_h103
      refine e_f (by rw [mw_id (by omega) (by omega), mw_id (by omega) (by omega)]; omega) ((v3 _ _ _ _ _).trans ?_)
      unfold g_X12_wheel_b202
      rw [mw_id (z := v) (by omega) (by omega), mw_id (z := best) (by omega) (by omega), show ((a + 1 : Nat) : Int) = (a : Int) + 1 by omega]
      by_cases c : v ≤ best
      · rw [if_pos c, show max best v = best by omega]
      · rw [if_neg c, show max best v = v by omega]
theorem j_te {F : Nat} {σ τ : mMem} {P : Nat → Nat → Int} {D last step : Int} (hF : 2000 ≤ F) (hst : 0 ≤ step ∧ step ≤ 999) (h110 : τ 110 0 = step) (hlast : last = min 40 (999 - step)) (hP : ∀ w, w < 10 → ∀ i, i ≤ 40 → (σ (38 + w) i = P w i ∧ τ 124 (41 * w + i) = P w i) ∧ -1 ≤ P w i ∧ P w i ≤ 100) : ∀ (d i fuel : Nat) (x4 x5 y5 : Int), (d : Int) + i = last → d < fuel → ((x5 = 11 ∧ y5 = 100000000) ∨ (x5 = y5 ∧ 0 ≤ x5 ∧ x5 ≤ 10)) → ∃ v : Int, g_X9_tellingSteps_h29 F 20 fuel D x4 x5 last ((i + 1 : Nat) : Int) σ = some (v, σ) ∧ g_X12_wheel_h81 F fuel D x4 y5 ((i + 1 : Nat) : Int) τ = some (v, τ) := by
  intro d
  induction d with
  | zero =>
    intro i fuel x4 x5 y5 e1 e2 e3
    obtain ⟨f, rfl⟩ : ∃ f, fuel = f + 1 := ⟨fuel - 1, by omega⟩
    refine ⟨x4, ?_, ?_⟩
    · unfold g_X9_tellingSteps_h29 g_X9_tellingSteps_b70
      by_cases c : mw D = 0
      · exact e_t c rfl
      · exact e_f c (e_t (by rw [mw_id (by omega) (by omega), mw_id (by omega) (by omega)]; omega) rfl)
    · unfold g_X12_wheel_h81 g_X12_wheel_b234
      refine e_mob (zr_ahead (by omega) (by omega) (by decide) (by decide)) ?_
      rw [h110, mb_f (by omega)]
      exact e_t (by decide) rfl
  | succ d ih =>
    intro i fuel x4 x5 y5 e1 e2 e3
    obtain ⟨f, rfl⟩ : ∃ f, fuel = f + 1 := ⟨fuel - 1, by omega⟩
    by_cases c : mw D = 0
    · refine ⟨x4, ?_, ?_⟩
      · unfold g_X9_tellingSteps_h29 g_X9_tellingSteps_b70
        exact e_t c rfl
      · unfold g_X12_wheel_h81 g_X12_wheel_b234
        refine e_mob (zr_ahead (by omega) (by omega) (by decide) (by decide)) ?_
        rw [h110, mb_t (by omega)]
        exact e_f (by decide) (e_t c rfl)
    · obtain ⟨v, v1, v2, v3⟩ := j_ms (F := F) (i := i + 1) (σ := σ) (τ := τ) (P := P) (D := D) hF (by omega) (fun w hw => hP w hw (i + 1) (by omega)) 10 0 F 0 (by omega) (by omega) (by decide)
      have hc : ∀ X, (if x5 ≤ v then (g_X9_tellingSteps_h29 F 20 f D x4 x5 last (((i + 1 : Nat) : Int) + 1) σ) else (g_X9_tellingSteps_h29 F 20 f D ((i + 1 : Nat) : Int) v last (((i + 1 : Nat) : Int) + 1) σ)) = X → g_X9_tellingSteps_h29 F 20 (f + 1) D x4 x5 last ((i + 1 : Nat) : Int) σ = X := by
        intro X hX
        conv => lhs; unfold g_X9_tellingSteps_h29 g_X9_tellingSteps_b64
        refine e_f c (e_f (by rw [mw_id (by omega) (by omega), mw_id (by omega) (by omega)]; omega) (e_mob (v2 : g_X9_mostLeft F D ((i + 1 : Nat) : Int) σ = some (v, σ)) ?_))
        rw [mw_id (z := x5) (by omega) (by omega), mw_id (z := v) (by omega) (by omega)]
        exact hX
      have hr : ∀ X, (if v < y5 then (g_X12_wheel_h81 F f D ((i + 1 : Nat) : Int) v (((i + 1 : Nat) : Int) + 1) τ) else (g_X12_wheel_h81 F f D x4 y5 (((i + 1 : Nat) : Int) + 1) τ)) = X → g_X12_wheel_h81 F (f + 1) D x4 y5 ((i + 1 : Nat) : Int) τ = X := by
        intro X hX
        conv => lhs; unfold g_X12_wheel_h81
        refine e_mob (zr_ahead (by omega) (by omega) (by decide) (by decide)) ?_
        rw [h110, mb_t (by omega)]
        refine e_f (by decide) (e_f c ((v3 _ _ _).trans ?_))
        unfold g_X12_wheel_b228
        rw [mw_id (z := y5) (by omega) (by omega), mw_id (z := v) (by omega) (by omega)]
        exact hX
      rw [show ((i + 1 : Nat) : Int) + 1 = ((i + 1 + 1 : Nat) : Int) by omega] at hc hr
      by_cases cv : x5 ≤ v
      · obtain ⟨u, u1, u2⟩ := ih (i + 1) f x4 x5 y5 (by omega) (by omega) e3
        exact ⟨u, hc _ ((if_pos cv).trans u1), hr _ ((if_neg (by omega)).trans u2)⟩
      · obtain ⟨u, u1, u2⟩ := ih (i + 1) f ((i + 1 : Nat) : Int) v v (by omega) (by omega) (Or.inr ⟨rfl, v1⟩)
        exact ⟨u, hc _ ((if_neg cv).trans u1), hr _ ((if_pos (by omega)).trans u2)⟩
