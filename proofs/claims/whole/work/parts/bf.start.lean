/-! THE START: what stands when both are made -/
def mM0 : mMem := i_86 (mupo (i_0 (mupo (fun _ _ => 0) 0 (mNew 11))) 86 (mNew 12))
def mRfs (σ : mMem) : Prop := ∀ o, o < 126 → (mSh o).1 < 13 → ∀ k, k < (mFt (mSh o).1).length → ((mFt (mSh o).1).getD k 0 = 2 → σ o k = ((mFx (mSh o).1 o k : Nat) : Int)) ∧ (3 ≤ (mFt (mSh o).1).getD k 0 → 0 ≤ σ o k)
theorem sh_le : ∀ o, o < 126 → (mSh o).1 ≤ 16 := by decide +kernel
set_option maxRecDepth 100000 in
theorem m0_refs : mRfs mM0 := by
  unfold mRfs
  decide +kernel
theorem mWs_ft {cy : Nat → ClassId} {ad : Nat → Nat} {σ : mMem} (h : mRfs σ) : mWs cy ad false mN σ = mWs cy ad true mN σ := by
  unfold mWs
  apply List.map_congr_left
  intro o ho
  have ho : o < 126 := List.mem_range.mp ho
  have hle := sh_le o ho
  have e : mCell cy ad false (σ o) o = mCell cy ad true (σ o) o := by
    unfold mCell
    by_cases c1 : (mSh o).1 = 13
    · rw [if_pos c1, if_pos c1]
    · rw [if_neg c1, if_neg c1]
      by_cases c2 : (mSh o).1 = 14
      · rw [if_pos c2, if_pos c2]
      · rw [if_neg c2, if_neg c2]
        by_cases c3 : (mSh o).1 = 15
        · rw [if_pos c3, if_pos c3]
        · rw [if_neg c3, if_neg c3]
          by_cases c4 : (mSh o).1 = 16
          · rw [if_pos c4, if_pos c4]
          · rw [if_neg c4, if_neg c4]
            have hlt : (mSh o).1 < 13 := by omega
            have e2 : mFs ad false (σ o) (mSh o).1 o = mFs ad true (σ o) (mSh o).1 o := by
              unfold mFs
              apply List.map_congr_left
              intro k hk
              have hk := List.mem_range.mp hk
              obtain ⟨h1, h2⟩ := h o ho hlt k hk
              unfold mFv
              by_cases d0 : (mFt (mSh o).1).getD k 0 = 0
              · rw [if_pos d0, if_pos d0]
              · rw [if_neg d0, if_neg d0]
                by_cases d1 : (mFt (mSh o).1).getD k 0 = 1
                · rw [if_pos d1, if_pos d1]
                · rw [if_neg d1, if_neg d1, if_pos rfl, if_neg (by decide)]
                  unfold mRf
                  by_cases d2 : (mFt (mSh o).1).getD k 0 = 2
                  · rw [if_pos d2, h1 d2, if_neg (by omega), Int.toNat_natCast]
                  · have := h2 (by omega)
                    rw [if_neg d2, if_neg (by omega)]
            rw [e2]
  rw [e]
theorem m0_own : Own mM0 := by
  unfold Own
  decide +kernel
theorem m0_rel : Rel mM0 3 8 0 := by
  have e1 : mM0 1 1 = 0 := by decide +kernel
  have e2 : (mM0 3 11).toNat = 0 := by decide +kernel
  have e3 : mM0 54 4 = 0 := by decide +kernel
  have e4 : mM0 35 3 = 0 := by decide +kernel
  have e5 : mM0 77 1 = 0 := by decide +kernel
  have e6 : mM0 54 2 = 0 := by decide +kernel
  refine ⟨⟨by decide +kernel, by decide +kernel, fun j hj => ?_⟩, ?_, ?_, ?_, ⟨Or.inl ⟨rfl, rfl⟩, by decide +kernel, ⟨by decide +kernel, by decide +kernel, by decide +kernel, by decide +kernel, by decide +kernel, Or.inl (by decide +kernel), Or.inl (by decide +kernel)⟩, ⟨Or.inl (by decide +kernel), by decide +kernel, by decide +kernel, by decide +kernel, by decide +kernel, Or.inl (by decide +kernel), Or.inl (by decide +kernel)⟩, by decide +kernel, fun k hk => ?_⟩, ⟨⟨fun k hk => ?_, by decide +kernel, by decide +kernel, ⟨by decide +kernel, by decide +kernel, fun j hj => ?_⟩, by decide +kernel⟩, by decide +kernel, by decide +kernel, by decide +kernel⟩, ⟨by decide +kernel, by decide +kernel, by decide +kernel, by decide +kernel, fun j hj => ?_⟩, ⟨by decide +kernel, by decide +kernel, fun j hj => ?_⟩, ⟨by decide +kernel, by decide +kernel, fun j hj => ?_⟩⟩
  · rw [e1] at hj; omega
  · unfold RF; decide +kernel
  · unfold RX; decide +kernel
  · unfold RS; decide +kernel
  · rw [e2] at hk; omega
  · rw [e2] at hk; omega
  · rw [e6] at hj; omega
  · rw [e3] at hj; omega
  · rw [e4] at hj; omega
  · rw [e5] at hj; omega
