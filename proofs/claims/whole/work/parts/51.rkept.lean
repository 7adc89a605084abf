/-! LAYER 2: the reference writes down what is kept -/
def KApp (τ τ' : mMem) (v : Nat) (a b c d : Int) : Prop := τ' 117 = mup1 (τ 117) v (min 60 (τ 117 v + 1)) ∧ (∀ j, ¬ (240 * v ≤ j ∧ j < 240 * v + 240) → τ' 118 j = τ 118 j) ∧ (∀ i f : Nat, (i : Int) + 1 < min 60 (τ 117 v + 1) → f < 4 → τ' 118 (240 * v + 4 * i + f) = τ 118 (240 * v + 4 * (if τ 117 v = 60 then i + 1 else i) + f)) ∧
  τ' 118 (240 * v + 4 * (min 60 (τ 117 v + 1) - 1).toNat) = a ∧ τ' 118 (240 * v + 4 * (min 60 (τ 117 v + 1) - 1).toNat + 1) = b ∧ τ' 118 (240 * v + 4 * (min 60 (τ 117 v + 1) - 1).toNat + 2) = c ∧ τ' 118 (240 * v + 4 * (min 60 (τ 117 v + 1) - 1).toNat + 3) = d
theorem zr_b62 {F v k m : Nat} {τ : mMem} (hv : v < 22) (hk : k < 6) (hm : τ 117 v = (m : Int)) (hm2 : m < 60) (hcell : 0 ≤ τ 112 (6 * v + k) ∧ τ 112 (6 * v + k) ≤ 80) :
    g_X12_writesDown_b62 F (v : Int) (k : Int) τ = some (0, mup (mup (mup (mup (mup τ 118 (240 * v + 4 * m) (τ 110 v)) 118 (240 * v + 4 * m + 1) (k : Int)) 118 (240 * v + 4 * m + 2) (τ 112 (6 * v + k) % 9)) 118 (240 * v + 4 * m + 3) (τ 112 (6 * v + k) / 9)) 117 v ((m : Int) + 1)) := by
  have ev : ∀ X Y : mRs, X = Y → X = Y := fun _ _ h => h
  unfold g_X12_writesDown_b62
  rw [mw_id (z := (v : Int)) (by omega) (by omega), show ((v : Int)).toNat = v by omega, hm]
  refine e_t (by omega) ?_
  refine e_le (240 * (v : Int) + 4 * (m : Int)) (by omega) ?_
  rw [mw_id (z := 240 * (v : Int) + 4 * (m : Int)) (by omega) (by omega), mw_id (z := 240 * (v : Int) + 4 * (m : Int) + 1) (by omega) (by omega), mw_id (z := 240 * (v : Int) + 4 * (m : Int) + 2) (by omega) (by omega), mw_id (z := 240 * (v : Int) + 4 * (m : Int) + 3) (by omega) (by omega), mw_id (z := 6 * (v : Int) + (k : Int)) (by omega) (by omega)]
  rw [show (240 * (v : Int) + 4 * (m : Int)).toNat = 240 * v + 4 * m by omega, show (240 * (v : Int) + 4 * (m : Int) + 1).toNat = 240 * v + 4 * m + 1 by omega, show (240 * (v : Int) + 4 * (m : Int) + 2).toNat = 240 * v + 4 * m + 2 by omega, show (240 * (v : Int) + 4 * (m : Int) + 3).toNat = 240 * v + 4 * m + 3 by omega, show (6 * (v : Int) + (k : Int)).toNat = 6 * v + k by omega]
  refine e_t (by omega) (e_t (by omega) (e_mem (e_t (by omega) (e_mem (e_t (by omega) (e_f (by decide) (e_t (by omega) (e_mem (e_t (by omega) (e_f (by decide) (e_t (by omega) (e_mem (e_t (by omega) (e_t (by omega) (e_mem ?_)))))))))))))))
  rw [mup_off (show (112 : Nat) ≠ 118 by decide), mup_off (show (112 : Nat) ≠ 118 by decide), mup_off (show (112 : Nat) ≠ 118 by decide), mup_off (show (112 : Nat) ≠ 118 by decide), mup_off (show (112 : Nat) ≠ 118 by decide), mup_off (show (117 : Nat) ≠ 118 by decide), mup_off (show (117 : Nat) ≠ 118 by decide), mup_off (show (117 : Nat) ≠ 118 by decide), mup_off (show (117 : Nat) ≠ 118 by decide), hm]
  rw [show (mw (τ 112 (6 * v + k))).tmod (mw 9) = τ 112 (6 * v + k) % 9 by simp (disch := omega) only [mw_id, mwl_id, mtmod, mtdiv], show (mw (τ 112 (6 * v + k))).tdiv (mw 9) = τ 112 (6 * v + k) / 9 by simp (disch := omega) only [mw_id, mwl_id, mtmod, mtdiv]]
theorem zr_shift {F v k : Nat} {τ : mMem} (hv : v < 22) : ∀ (d x fuel : Nat) (υ : mMem), d + x = 240 * v + 236 → 240 * v ≤ x → d < fuel → (∀ j, υ 118 j = if 240 * v ≤ j ∧ j < x then τ 118 (j + 4) else τ 118 j) → (∀ q, q ≠ 118 → υ q = τ q) →
    ∃ ω : mMem, (∀ j, ω 118 j = if 240 * v ≤ j ∧ j < 240 * v + 236 then τ 118 (j + 4) else τ 118 j) ∧ (∀ q, q ≠ 118 → ω q = τ q) ∧ g_X12_writesDown_h17 F fuel (v : Int) (k : Int) (x : Int) υ = g_X12_writesDown_b62 F (v : Int) (k : Int) (mup ω 117 v (ω 117 v - 1)) := by
  intro d
  induction d with
  | zero =>
    intro x fuel υ hd hx hf h1 h2
    obtain ⟨f, rfl⟩ : ∃ f, fuel = f + 1 := ⟨fuel - 1, by omega⟩
    have e : x = 240 * v + 236 := by omega
    subst e
    refine ⟨υ, h1, h2, ?_⟩
    unfold g_X12_writesDown_h17
    refine e_t (by rw [mw_id (by omega) (by omega), mw_id (by omega) (by omega)]; omega) ?_
    rw [mw_id (z := (v : Int)) (by omega) (by omega), show ((v : Int)).toNat = v by omega]
    exact e_t (by omega) (e_t (by omega) (e_mem rfl))
  | succ d ih =>
    intro x fuel υ hd hx hf h1 h2
    obtain ⟨f, rfl⟩ : ∃ f, fuel = f + 1 := ⟨fuel - 1, by omega⟩
    have e4 : υ 118 (x + 4) = τ 118 (x + 4) := by rw [h1, if_neg (by omega)]
    obtain ⟨ω, o1, o2, o3⟩ := ih (x + 1) f (mup υ 118 x (τ 118 (x + 4))) (by omega) (by omega) (by omega)
      (fun j => by
        rw [mup_row]
        by_cases ej : j = x
        · rw [mup1_at ej, if_pos (by omega), ej]
        · rw [mup1_ne ej, h1]
          by_cases c : 240 * v ≤ j ∧ j < x
          · rw [if_pos c, if_pos (by omega)]
          · rw [if_neg c, if_neg (by omega)])
      (fun q hq => by rw [mup_off hq]; exact h2 q hq)
    refine ⟨ω, o1, o2, ?_⟩
    rw [← o3]
    conv => lhs; unfold g_X12_writesDown_h17
    refine e_f (by rw [mw_id (by omega) (by omega), mw_id (by omega) (by omega)]; omega) ?_
    rw [mw_id (z := (x : Int) + 4) (by omega) (by omega), mw_id (z := (x : Int)) (by omega) (by omega), show ((x : Int) + 4).toNat = x + 4 by omega, show ((x : Int)).toNat = x by omega, e4]
    exact e_t (by omega) (e_t (by omega) (e_mem rfl))
theorem zr_writes {F v k : Nat} {τ : mMem} (hv : v < 22) (hk : k < 6) (hF : 2000 ≤ F) (hm : 0 ≤ τ 117 v ∧ τ 117 v ≤ 60) (hcell : 0 ≤ τ 112 (6 * v + k) ∧ τ 112 (6 * v + k) ≤ 80) :
    ∃ τ', g_X12_writesDown F (v : Int) (k : Int) τ = some (0, τ') ∧ (∀ q, q ≠ 117 → q ≠ 118 → τ' q = τ q) ∧ KApp τ τ' v (τ 110 v) (k : Int) (τ 112 (6 * v + k) % 9) (τ 112 (6 * v + k) / 9) := by
  obtain ⟨m, em⟩ : ∃ m : Nat, τ 117 v = (m : Int) := ⟨(τ 117 v).toNat, by omega⟩
  have hd : ∀ X, (if ¬ mw (τ 117 v) = mw 60 then (g_X12_writesDown_b62 F (v : Int) (k : Int) τ) else (mlet (240 * (v : Int)) (fun y1 => g_X12_writesDown_h17 F F (v : Int) (k : Int) y1 τ))) = X → g_X12_writesDown F (v : Int) (k : Int) τ = X := by
    intro X hX
    unfold g_X12_writesDown
    rw [mw_id (z := (v : Int)) (by omega) (by omega), show ((v : Int)).toNat = v by omega]
    exact e_t (by omega) hX
  by_cases h60 : τ 117 v = 60
  · obtain ⟨ω, o1, o2, o3⟩ := zr_shift (F := F) (k := k) (τ := τ) hv 236 (240 * v) F τ (by omega) (by omega) (by omega) (fun j => by rw [if_neg (by omega)]) (fun _ _ => rfl)
    have w117 : ω 117 v = 60 := by rw [o2 _ (by decide)]; exact h60
    have wm : (mup ω 117 v (ω 117 v - 1)) 117 v = ((59 : Nat) : Int) := by rw [mup_at rfl rfl, w117]; rfl
    have wq : ∀ q, q ≠ 117 → (mup ω 117 v (ω 117 v - 1)) q = ω q := fun q hq => mup_off hq
    have w1 : (mup ω 117 v (ω 117 v - 1)) 117 = mup1 (τ 117) v 59 := by rw [mup_row, w117, o2 _ (by decide)]; rfl
    generalize hυ : mup ω 117 v (ω 117 v - 1) = υ at *
    have u112 : υ 112 = τ 112 := by rw [wq _ (by decide), o2 _ (by decide)]
    have u110 : υ 110 = τ 110 := by rw [wq _ (by decide), o2 _ (by decide)]
    have e := zr_b62 (F := F) (v := v) (k := k) (m := 59) (τ := υ) hv hk wm (by omega) (by rw [u112]; exact hcell)
    rw [u112, u110] at e
    refine ⟨mup (mup (mup (mup (mup υ 118 (240 * v + 4 * 59) (τ 110 v)) 118 (240 * v + 4 * 59 + 1) (k : Int)) 118 (240 * v + 4 * 59 + 2) (τ 112 (6 * v + k) % 9)) 118 (240 * v + 4 * 59 + 3) (τ 112 (6 * v + k) / 9)) 117 v (((59 : Nat) : Int) + 1), ?_, ?_, ?_⟩
    · apply hd
      refine e_f (by rw [h60]; exact fun q => q rfl) (e_let ?_)
      rw [show 240 * (v : Int) = ((240 * v : Nat) : Int) by omega, o3]
      exact e
    · intro q q7 q8
      rw [mup_off q7, mup_off q8, mup_off q8, mup_off q8, mup_off q8, wq q q7, o2 q q8]
    · have r8 : ∀ j, mup (mup (mup (mup (mup υ 118 (240 * v + 4 * 59) (τ 110 v)) 118 (240 * v + 4 * 59 + 1) (k : Int)) 118 (240 * v + 4 * 59 + 2) (τ 112 (6 * v + k) % 9)) 118 (240 * v + 4 * 59 + 3) (τ 112 (6 * v + k) / 9)) 117 v (((59 : Nat) : Int) + 1) 118 j = mup1 (mup1 (mup1 (mup1 (ω 118) (240 * v + 4 * 59) (τ 110 v)) (240 * v + 4 * 59 + 1) (k : Int)) (240 * v + 4 * 59 + 2) (τ 112 (6 * v + k) % 9)) (240 * v + 4 * 59 + 3) (τ 112 (6 * v + k) / 9) j := by
        intro j
        rw [mup_off (show (118 : Nat) ≠ 117 by decide), mup_row, mup_row, mup_row, mup_row, wq _ (by decide)]
      have em60 : min 60 (τ 117 v + 1) = 60 := by omega
      unfold KApp
      rw [em60, show ((60 : Int) - 1).toNat = 59 by decide]
      refine ⟨?_, fun j hj => ?_, fun i f hi hf => ?_, ?_, ?_, ?_, ?_⟩
      · rw [mup_row, mup_off (show (117 : Nat) ≠ 118 by decide), mup_off (show (117 : Nat) ≠ 118 by decide), mup_off (show (117 : Nat) ≠ 118 by decide), mup_off (show (117 : Nat) ≠ 118 by decide), w1]
        funext j
        unfold mup1
        split <;> rfl
      · rw [r8, mup1_ne (by omega), mup1_ne (by omega), mup1_ne (by omega), mup1_ne (by omega), o1, if_neg (by omega)]
      · rw [r8, mup1_ne (by omega), mup1_ne (by omega), mup1_ne (by omega), mup1_ne (by omega), o1, if_pos (by omega), if_pos h60]
        exact congrArg (τ 118) (by omega)
      · rw [r8, mup1_ne (by omega), mup1_ne (by omega), mup1_ne (by omega), mup1_at rfl]
      · rw [r8, mup1_ne (by omega), mup1_ne (by omega), mup1_at rfl]
      · rw [r8, mup1_ne (by omega), mup1_at rfl]
      · rw [r8, mup1_at rfl]
  · have e := zr_b62 (F := F) (v := v) (k := k) (m := m) (τ := τ) hv hk em (by omega) hcell
    refine ⟨mup (mup (mup (mup (mup τ 118 (240 * v + 4 * m) (τ 110 v)) 118 (240 * v + 4 * m + 1) (k : Int)) 118 (240 * v + 4 * m + 2) (τ 112 (6 * v + k) % 9)) 118 (240 * v + 4 * m + 3) (τ 112 (6 * v + k) / 9)) 117 v ((m : Int) + 1), ?_, ?_, ?_⟩
    · apply hd
      exact e_t (by rw [mw_id (by omega) (by omega), mw_id (by omega) (by omega)]; exact h60) e
    · intro q q7 q8
      rw [mup_off q7, mup_off q8, mup_off q8, mup_off q8, mup_off q8]
    · have r8 : ∀ j, mup (mup (mup (mup (mup τ 118 (240 * v + 4 * m) (τ 110 v)) 118 (240 * v + 4 * m + 1) (k : Int)) 118 (240 * v + 4 * m + 2) (τ 112 (6 * v + k) % 9)) 118 (240 * v + 4 * m + 3) (τ 112 (6 * v + k) / 9)) 117 v ((m : Int) + 1) 118 j = mup1 (mup1 (mup1 (mup1 (τ 118) (240 * v + 4 * m) (τ 110 v)) (240 * v + 4 * m + 1) (k : Int)) (240 * v + 4 * m + 2) (τ 112 (6 * v + k) % 9)) (240 * v + 4 * m + 3) (τ 112 (6 * v + k) / 9) j := by
        intro j
        rw [mup_off (show (118 : Nat) ≠ 117 by decide), mup_row, mup_row, mup_row, mup_row]
      have em60 : min 60 (τ 117 v + 1) = (m : Int) + 1 := by omega
      unfold KApp
      rw [em60, show ((m : Int) + 1 - 1).toNat = m by omega]
      refine ⟨?_, fun j hj => ?_, fun i f hi hf => ?_, ?_, ?_, ?_, ?_⟩
      · rw [mup_row, mup_off (show (117 : Nat) ≠ 118 by decide), mup_off (show (117 : Nat) ≠ 118 by decide), mup_off (show (117 : Nat) ≠ 118 by decide), mup_off (show (117 : Nat) ≠ 118 by decide)]
      · rw [r8, mup1_ne (by omega), mup1_ne (by omega), mup1_ne (by omega), mup1_ne (by omega)]
      · rw [r8, mup1_ne (by omega), mup1_ne (by omega), mup1_ne (by omega), mup1_ne (by omega), if_neg h60]
      · rw [r8, mup1_ne (by omega), mup1_ne (by omega), mup1_ne (by omega), mup1_at rfl]
      · rw [r8, mup1_ne (by omega), mup1_ne (by omega), mup1_at rfl]
      · rw [r8, mup1_ne (by omega), mup1_at rfl]
      · rw [r8, mup1_at rfl]
