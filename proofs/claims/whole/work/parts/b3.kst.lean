/-! LAYER 2: kitchen: the reference's start -/
/-- what the reference's start leaves alone -/
def Kst (τ0 τ : mMem) (i : Nat) : Prop := (∀ q, q ≠ 86 → q ≠ 91 → q ≠ 97 → q ≠ 98 → τ0 q = τ q) ∧ BF τ0 τ i ∧ (∀ j, j ≠ 1 → j ≠ 2 → j ≠ 5 → j ≠ 8 → j ≠ 9 → j ≠ 29 → j ≠ 30 → τ0 86 j = τ 86 j) ∧ τ0 86 1 = 0
theorem r_kst {F l i : Nat} {τ : mMem} {b : Nat → Int} (hl : l ≤ 1600) (h1 : τ 86 1 = (l : Int)) (h87 : ∀ j, j < l → τ 87 j = b j ∧ 0 ≤ b j ∧ b j ≤ 255) (h13 : τ 86 13 = 1 - (i : Int)) (hi : i = 0 ∨ i = 1) : ∃ τ0, (∀ X, kRun F τ0 = X → g_X12_kitchen F τ = X) ∧ St0 τ0 b l i ∧ Kst τ0 τ i := by
  obtain ⟨τa, ea⟩ : ∃ y, y = mup (mup (mup (mup (mup (mup τ 86 2 (l : Int)) 86 1 0) 86 5 0) 86 8 0) 86 9 (-1)) 86 30 (i : Int) := ⟨_, rfl⟩
  have ao : ∀ q, q ≠ 86 → τa q = τ q := fun q hq => by rw [ea, mup_off hq, mup_off hq, mup_off hq, mup_off hq, mup_off hq, mup_off hq]
  obtain ⟨τb, eb⟩ : ∃ y, y = mup (mup (mup (mup τa 91 i 0) 97 (3 * i) 500) 97 (3 * i + 1) 0) 97 (3 * i + 2) 0 := ⟨_, rfl⟩
  obtain ⟨τ0, e0⟩ : ∃ y, y = mup (mup (mup τb 98 (2 * i) (-1)) 98 (2 * i + 1) (-1)) 86 29 0 := ⟨_, rfl⟩
  have bo : ∀ q, q ≠ 91 → q ≠ 97 → τb q = τa q := fun q q1 q2 => by rw [eb, mup_off q2, mup_off q2, mup_off q2, mup_off q1]
  have oo : ∀ q, q ≠ 86 → q ≠ 98 → τ0 q = τb q := fun q q1 q2 => by rw [e0, mup_off q1, mup_off q2, mup_off q2]
  have s0 : ∀ j, j ≠ 29 → τ0 86 j = τa 86 j := fun j hj => by rw [e0, mup_ne (by omega), mup_off (by decide), mup_off (by decide), bo 86 (by decide) (by decide)]
  have sa : ∀ j, j ≠ 1 → j ≠ 2 → j ≠ 5 → j ≠ 8 → j ≠ 9 → j ≠ 30 → τa 86 j = τ 86 j := fun j j1 j2 j3 j4 j5 j6 => by rw [ea, mup_ne (by omega), mup_ne (by omega), mup_ne (by omega), mup_ne (by omega), mup_ne (by omega), mup_ne (by omega)]
  have a30 : τa 86 30 = (i : Int) := by rw [ea, mup_at rfl rfl]
  have a9 : τa 86 9 = -1 := by rw [ea, mup_ne (by decide), mup_at rfl rfl]
  have a8 : τa 86 8 = 0 := by rw [ea, mup_ne (by decide), mup_ne (by decide), mup_at rfl rfl]
  have a5 : τa 86 5 = 0 := by rw [ea, mup_ne (by decide), mup_ne (by decide), mup_ne (by decide), mup_at rfl rfl]
  have a1 : τa 86 1 = 0 := by rw [ea, mup_ne (by decide), mup_ne (by decide), mup_ne (by decide), mup_ne (by decide), mup_at rfl rfl]
  have a2 : τa 86 2 = (l : Int) := by rw [ea, mup_ne (by decide), mup_ne (by decide), mup_ne (by decide), mup_ne (by decide), mup_ne (by decide), mup_at rfl rfl]
  have b30 : τb 86 30 = (i : Int) := by rw [bo 86 (by decide) (by decide)]; exact a30
  refine ⟨τ0, fun X hX => ?_, ⟨⟨hl, by rw [s0 2 (by decide)]; exact a2, fun j hj => by rw [oo 87 (by decide) (by decide), bo 87 (by decide) (by decide), ao 87 (by decide)]; exact h87 j hj⟩, ⟨by rw [s0 5 (by decide)]; exact a5, by rw [s0 8 (by decide)]; exact a8, by rw [s0 9 (by decide)]; exact a9, by rw [e0, mup_at rfl rfl], by rw [s0 30 (by decide)]; exact a30⟩, ?_, ⟨?_, ?_, ?_⟩, ?_, ?_⟩, fun q q1 q2 q3 q4 => by rw [oo q q1 q4, bo q q2 q3, ao q q1], ?_, fun j j1 j2 j3 j4 j5 j6 j7 => by rw [s0 j j6]; exact sa j j1 j2 j3 j4 j5 j7, by rw [s0 1 (by decide)]; exact a1⟩
  · unfold g_X12_kitchen
    refine e_mem (e_mem (e_mem (e_mem (e_mem (e_mem ?_)))))
    rw [h1]
    have e13 : 1 - (mup (mup (mup (mup (mup τ 86 2 (l : Int)) 86 1 0) 86 5 0) 86 8 0) 86 9 (-1)) 86 13 = (i : Int) := by
      rw [mup_ne (by decide), mup_ne (by decide), mup_ne (by decide), mup_ne (by decide), mup_ne (by decide), h13]
      omega
    rw [e13, ← ea, a30, mwN (i := i) (by omega)]
    refine e_t (mwR (by omega) (by decide)) (e_mem ?_)
    have c30 : mup τa 91 i 0 86 30 = (i : Int) := by rw [mup_off (by decide)]; exact a30
    rw [c30]
    have m3 : ∀ x : Nat, x < 3 → mw (3 * (i : Int) + (x : Int)) = ((3 * i + x : Nat) : Int) := fun x hx => by rw [mw_id (by omega) (by omega)]; omega
    have m2 : mw (2 * (i : Int)) = ((2 * i : Nat) : Int) := by rw [mw_id (by omega) (by omega)]; omega
    have m21 : mw (2 * (i : Int) + 1) = ((2 * i + 1 : Nat) : Int) := by rw [mw_id (by omega) (by omega)]; omega
    have df : g_X12_isDefault F (i : Int) (mup τa 91 i 0) = some (0, τb) := by
      unfold g_X12_isDefault
      have x0 := m3 0 (by decide)
      have x1 := m3 1 (by decide)
      have x2 := m3 2 (by decide)
      have x0' : mw (3 * (i : Int) + 0) = ((3 * i + 0 : Nat) : Int) := x0
      have x1' : mw (3 * (i : Int) + 1) = ((3 * i + 1 : Nat) : Int) := x1
      have x2' : mw (3 * (i : Int) + 2) = ((3 * i + 2 : Nat) : Int) := x2
      rw [x0', x1', x2', Int.toNat_natCast, Int.toNat_natCast, Int.toNat_natCast]
      refine e_t (by omega) (e_mem (e_t (by omega) (e_mem (e_t (by omega) (e_mem ?_)))))
      rw [eb]
      rfl
    refine e_mob df ?_
    rw [b30, m2, Int.toNat_natCast]
    refine e_t (by omega) (e_mem ?_)
    have d30 : mup τb 98 (2 * i) (-1) 86 30 = (i : Int) := by rw [mup_off (by decide)]; exact b30
    rw [d30, m21, Int.toNat_natCast]
    refine e_t (by omega) (e_mem (e_mem ?_))
    rw [← e0]
    exact hX
  · rw [oo 91 (by decide) (by decide), eb, mup_off (by decide), mup_off (by decide), mup_off (by decide), mup_at rfl rfl]
  · rw [oo 97 (by decide) (by decide), eb, mup_ne (by omega), mup_ne (by omega), mup_at rfl rfl]
  · rw [oo 97 (by decide) (by decide), eb, mup_ne (by omega), mup_at rfl rfl]
  · rw [oo 97 (by decide) (by decide), eb, mup_at rfl rfl]
  · rw [e0, mup_off (by decide), mup_ne (by omega), mup_at rfl rfl]
  · rw [e0, mup_off (by decide), mup_at rfl rfl]
  · have f1 : BF (mup τa 91 i 0) τ i := BF.upe (o := 91) (x := 0) (BF.of (fun q q1 q2 => ao q (by omega))) hi (show i = 1 * i + 0 by omega) (by decide)
    have f4 : BF τb τ i := by
      rw [eb]
      exact BF.upe (o := 97) (x := 2) (BF.upe (o := 97) (x := 1) (BF.upe (o := 97) (x := 0) f1 hi (show 3 * i = 3 * i + 0 by omega) (by decide)) hi rfl (by decide)) hi rfl (by decide)
    intro q j q1 q2 q3 q4
    rw [e0, mup_off (by omega)]
    exact BF.upe (o := 98) (x := 1) (BF.upe (o := 98) (x := 0) f4 hi (show 2 * i = 2 * i + 0 by omega) (by decide)) hi rfl (by decide) q j q1 q2 q3 q4
