/-! LAYER 2: the reference tries, on layer 1 -/
/-- what trying leaves as it was -/
def TryF (τ τ0 : mMem) : Prop := (∀ q, q < 110 → q ≠ 86 → τ q = τ0 q) ∧ (∀ q, 120 < q → τ q = τ0 q) ∧ (∀ j, j ≠ 63 → j ≠ 64 → τ 86 j = τ0 86 j) ∧ (∀ q, (q = 110 ∨ q = 111 ∨ q = 117) → ∀ j, j ≠ 1 → τ q j = τ0 q j) ∧ (∀ q, 112 ≤ q → q ≤ 116 → ∀ j, (j < 6 ∨ 12 ≤ j) → τ q j = τ0 q j) ∧ ∀ j, (j < 240 ∨ 480 ≤ j) → τ 118 j = τ0 118 j
def LR (π : mMem) (p n : Nat) (lamp step delay : Int) (A : Nat → Nat → Int) (m : Nat) (τ τ0 : mMem) : Prop := TryF τ τ0 ∧ (∀ j, j < n → BEq (rB τ 1 j) (xIt π p n lamp step delay A m j) ∧ 0 ≤ τ 112 (6 + j) ∧ τ 112 (6 + j) ≤ 80) ∧ τ 110 1 = step + m ∧ τ 111 1 = lamp ∧ ∃ T ring, KRel τ 1 T ring
theorem zr_try {F p n m : Nat} {π τ τ0 : mMem} {lamp step delay : Int} {A : Nat → Nat → Int} (hn : n ≤ 6) (hF : 2000 ≤ F) (hR : PlR π p τ0) (hP : PlC π p) (h11 : π p 11 = (n : Int)) (hl : 0 ≤ lamp ∧ lamp ≤ 9) (hst : 0 ≤ step ∧ step + m ≤ 999) (h57 : sml (τ0 86 57)) (h60 : sml (τ0 86 60)) (hd : τ0 86 62 = delay) (hd2 : 0 ≤ delay ∧ delay ≤ 9) (hA : ∀ j, j < n → BR (π p 9) (π p 10) (A j)) (h : LR π p n lamp step delay A m τ τ0) :
    ∃ τ', g_X12_passes F 1 (m : Int) τ = some (0, τ') ∧ LR π p n lamp step delay A (m + 1) τ' τ0 ∧ τ' 86 63 = xBits (xWf π p lamp (step + m) m delay (xIt π p n lamp step delay A m)) n ∧ τ' 86 64 = xBits (xKf π p lamp (step + m) m delay (xIt π p n lamp step delay A m)) n := by
  obtain ⟨⟨f1, f2, f3, f4, f5, f6⟩, h1, h2, h3, T, ring, hK⟩ := h
  have pn : (π p 11).toNat = n := by omega
  have hc : ∀ k, k < n → BEq (rB τ 1 k) (xIt π p n lamp step delay A m k) := fun k hk => (h1 k hk).1
  obtain ⟨τ', a1, a2, a3, a4, a5, a6, a7, a8, a9, a10, a11, a12, a13⟩ := zr_passes (F := F) (p := p) (v := 1) (n := n) (π := π) (τ := τ) (lamp := lamp) (step := step + m) (made := (m : Int)) (delay := delay) (T := T) (ring := ring) (by decide) hn hF (hR.same (fun q q1 q2 => f1 q (by omega) (by omega)) (f3 13 (by decide) (by decide))) hP h11 h3 h2 hl (by omega) (by rw [f3 57 (by decide) (by decide)]; exact h57) (by rw [f3 60 (by decide) (by decide)]; exact h60)
    (fun j hj => ⟨(h1 j hj).2, (xIt_BR hA m j hj).congr (h1 j hj).1⟩) (by omega) (by rw [f3 62 (by decide) (by decide)]; exact hd) hd2 hK
  have cp := xPs_c (π := π) (π' := π) (lamp := lamp) (step := step + m) (made := (m : Int)) (made' := (m : Int)) (delay := delay) PEq.rfl' pn (fun _ _ => Iff.rfl) hc
  have cw := fun k (hk : k < n) => xWf_c (π := π) (π' := π) (lamp := lamp) (step := step + m) (made := (m : Int)) (made' := (m : Int)) (delay := delay) PEq.rfl' pn (fun _ _ => Iff.rfl) hc hk
  have bc : ∀ (f g : Nat → Int) (k : Nat), (∀ j, j < k → f j = g j) → xBits f k = xBits g k := by
    intro f g k
    induction k with
    | zero => intro _; rfl
    | succ k ih =>
      intro h
      show xBits f k + f k * 2 ^ k = xBits g k + g k * 2 ^ k
      rw [ih (fun j hj => h j (by omega)), h k (by omega)]
  refine ⟨τ', a1, ⟨⟨?_, ?_, ?_, ?_, ?_, ?_⟩, ?_, ?_, ?_, _, _, a11⟩, ?_, ?_⟩
  · intro q q1 q2
    rw [a2 q (by omega) q2 (by omega), f1 q q1 q2]
  · intro q q1
    rw [a3 q q1, f2 q q1]
  · intro j j1 j2
    rw [a4 j j1 j2, f3 j j1 j2]
  · intro q hq j hj
    rcases hq with rfl | rfl | rfl
    · rw [a5, mup1_ne hj, f4 110 (by omega) j hj]
    · rw [a2 111 (by decide) (by decide) (by decide), f4 111 (by omega) j hj]
    · rw [a12 j hj, f4 117 (by omega) j hj]
  · intro q q1 q2 j hj
    rw [a6 q q1 q2 j (by omega), f5 q q1 q2 j hj]
  · intro j hj
    rw [a13 j (by omega), f6 j hj]
  · intro j hj
    refine ⟨fun g hg => ?_, a8 j hj⟩
    rw [a7 j hj g hg]
    exact cp n (by omega) j hj g hg
  · rw [a5, mup1_at rfl]
    omega
  · rw [a2 111 (by decide) (by decide) (by decide), h3]
  · rw [a9]
    exact bc _ _ n (fun j hj => (cw j hj).1)
  · rw [a10]
    exact bc _ _ n (fun j hj => (cw j hj).2)
