/-! LAYER 2: the class tries, on a World of its own -/
def CR (π : mMem) (p n : Nat) (lamp step delay : Int) (A : Nat → Nat → Int) (m o : Nat) (σ σ0 : mMem) : Prop := (∀ q, ¬ (o ≤ q ∧ q ≤ o + 5) → σ q = σ0 q) ∧ (∀ j, j < n → BEq (cB σ (o + 1) j) (xIt π p n lamp step delay A m j)) ∧ σ o 3 = (p : Int) ∧ σ o 4 = step + m ∧ σ o 5 = lamp
theorem zc_try {F p n m o : Nat} {π σ σ0 : mMem} {lamp step delay made : Int} {A : Nat → Nat → Int} (hn : n ≤ 6) (hF : 2000 ≤ F) (hp : p = 3 ∨ p = 8) (ho : 20 ≤ o) (hπ : PEq σ0 π p) (hP : PlC π p) (h11 : π p 11 = (n : Int)) (hl : 0 ≤ lamp ∧ lamp ≤ 9) (hst : 0 ≤ step ∧ step + m + 1 ≤ 999) (hd2 : 0 ≤ delay ∧ delay ≤ 9) (hmd : 0 ≤ made ∧ made ≤ 1000) (hm : ∀ k : Nat, k < n → (((k : Int) * delay ≤ made) ↔ ((k : Int) * delay ≤ (m : Int)))) (hA : ∀ j, j < n → BR (π p 9) (π p 10) (A j)) (h : CR π p n lamp step delay A m o σ σ0) :
    ∃ σ', g_X10_pass F o made delay σ = some (0, σ') ∧ CR π p n lamp step delay A (m + 1) o σ' σ0 ∧ (∀ j, j < n → σ' (o + 2) j = xWf π p lamp (step + m) m delay (xIt π p n lamp step delay A m) j) ∧ (∀ j, j < n → σ' (o + 1) (10 * j + 9) = σ (o + 1) (10 * j + 9) + xKf π p lamp (step + m) m delay (xIt π p n lamp step delay A m) j) ∧ σ' o 6 = xSum (xWf π p lamp (step + m) m delay (xIt π p n lamp step delay A m)) n ∧ σ' o 7 = xSum (xKf π p lamp (step + m) m delay (xIt π p n lamp step delay A m)) n := by
  obtain ⟨f1, h1, h3, h4, h5⟩ := h
  have pe : PEq σ π p := ⟨(f1 p (by omega)).trans hπ.1, (f1 (p + 1) (by omega)).trans hπ.2.1, (f1 (p + 4) (by omega)).trans hπ.2.2⟩
  have pe2 : PEq π σ p := ⟨pe.1.symm, pe.2.1.symm, pe.2.2.symm⟩
  have hP2 : PlC σ p := hP.same pe.1 pe.2.1 pe.2.2
  have pn : (σ p 11).toNat = n := by rw [pe.1]; omega
  obtain ⟨σ', a1, a2, a3, a4, a5, a6, a7, a8, a9, a10, a11⟩ := z_pass (F := F) (o := o) (n := n) (p := p) (σ := σ) (lamp := lamp) (step := step + m) (made := made) (delay := delay) hn ho hF (by omega) (by omega) hP2 (by rw [pe.1]; exact h11) (fun j hj => by rw [pe.1]; exact (xIt_BR hA m j hj).congr (h1 j hj)) h5 h4 hl (by omega) hmd hd2
  have cp := xPs_c (π := σ) (π' := π) (lamp := lamp) (step := step + m) (made := made) (made' := (m : Int)) (delay := delay) pe pn hm h1
  have cw := fun k (hk : k < n) => xWf_c (π := σ) (π' := π) (lamp := lamp) (step := step + m) (made := made) (made' := (m : Int)) (delay := delay) pe pn hm h1 hk
  refine ⟨σ', a1, ⟨?_, ?_, ?_, ?_, a9⟩, ?_, ?_, ?_, ?_⟩
  · intro q hq
    rw [a2 q (by omega) (by omega) (by omega) (by omega) (by omega), f1 q hq]
  · intro j hj g hg
    rw [a3 j hj g hg]
    exact cp n (by omega) j hj g hg
  · rw [a7, h3]
  · rw [a8]
    omega
  · intro j hj
    rw [a4 j hj, (cw j hj).1]
  · intro j hj
    rw [a5 j hj, (cw j hj).2]
  · rw [a10]
    exact xSum_congr (fun k hk => (cw k hk).1)
  · rw [a11]
    exact xSum_congr (fun k hk => (cw k hk).2)
theorem zc_copyFrom {F o w : Nat} {σ : mMem} (h : σ w 3 = 3 ∨ σ w 3 = 8) (hw : w + 5 < o ∨ o + 5 < w) : ∃ σ', g_X10_copyFrom F o w σ = some (0, σ') ∧ (∀ q, q ≠ o → q ≠ o + 1 → σ' q = σ q) ∧ (∀ j, j < 60 → σ' (o + 1) j = σ (w + 1) j) ∧ σ' o 3 = σ w 3 ∧ σ' o 4 = σ w 4 ∧ σ' o 5 = σ w 5 := by
  have hn : (((σ w 3).toNat : Nat) : Int) = σ w 3 := by omega
  generalize hυ : mup (mup (mup σ o 3 (σ w 3)) o 4 (σ w 4)) o 5 (σ w 5) = υ
  have uq : ∀ q, q ≠ o → υ q = σ q := fun q hq => by rw [← hυ, mup_off hq, mup_off hq, mup_off hq]
  have uo : υ o = mup1 (mup1 (mup1 (σ o) 3 (σ w 3)) 4 (σ w 4)) 5 (σ w 5) := by rw [← hυ, mup_row, mup_row, mup_row]
  refine ⟨mupo υ (o + 1) (mcpy (υ (w + 1)) (υ (o + 1)) 0 0 60), ?_, ?_, ?_, ?_, ?_, ?_⟩
  · unfold g_X10_copyFrom
    refine e_t h (e_mem (e_mem (e_mem (e_t (by decide) (e_mem ?_)))))
    rw [hn, mup_off (show w ≠ o by omega), mup_off (show w ≠ o by omega), mup_off (show w ≠ o by omega), hυ, show (mw 0).toNat = 0 by decide, show (mw 60).toNat = 60 by decide]
  · intro q h1 h2
    funext j
    rw [mupo_ne h2, uq q h1]
  · intro j hj
    rw [mupo_at rfl]
    unfold mcpy
    rw [if_pos (by omega), uq (w + 1) (by omega)]
    exact congrArg (σ (w + 1)) (by omega)
  · rw [mupo_ne (by omega), uo, mup1_ne (by decide), mup1_ne (by decide), mup1_at rfl]
  · rw [mupo_ne (by omega), uo, mup1_ne (by decide), mup1_at rfl]
  · rw [mupo_ne (by omega), uo, mup1_at rfl]
