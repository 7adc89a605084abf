/-! LAYER 2: a try leaves the relation alone -/
theorem xIt_c {π π' : mMem} {p n : Nat} {lamp step delay : Int} {A A' : Nat → Nat → Int} (hp : PEq π π' p) (hn : (π p 11).toNat = n) (hA : ∀ k, k < n → BEq (A k) (A' k)) : ∀ m k, k < n → BEq (xIt π p n lamp step delay A m k) (xIt π' p n lamp step delay A' m k)
  | 0, k, hk => hA k hk
  | m + 1, k, hk => xPs_c hp hn (fun _ _ => Iff.rfl) (xIt_c hp hn hA m) n (by omega) k hk
theorem TryF.rd {τ τ0 : mMem} (h : TryF τ τ0) : (∀ q j, Rd q j → τ q j = τ0 q j) ∧ (∀ q j, Rs q j → τ q j = τ0 q j) := by
  obtain ⟨f1, f2, f3, f4, f5, f6⟩ := h
  have g : ∀ q j, q < 110 → (q = 86 → j ≠ 63 ∧ j ≠ 64) → τ q j = τ0 q j := by
    intro q j q1 q2
    by_cases e : q = 86
    · rw [e]
      exact f3 j (q2 e).1 (q2 e).2
    · rw [f1 q q1 e]
  constructor
  · intro q j hq
    rcases hq with hq | hq | hq | hq | hq | hq | hq
    · exact g q j (by omega) (by omega)
    · exact f4 q hq.1 j hq.2
    · exact f5 q hq.1.1 hq.1.2 j hq.2
    · rw [hq.1]
      exact f6 j hq.2
    · exact g q j (by omega) (by omega)
    · exact g q j (by omega) (by omega)
    · exact g q j (by omega) (by omega)
  · intro q j hq
    rcases hq with hq | hq | hq | hq | hq | hq | hq | hq | hq | hq | hq | hq | hq | hq
    · exact g q j (by omega) (by omega)
    · exact g q j (by omega) (by omega)
    · exact g q j (by omega) (by omega)
    · exact g q j (by omega) (by omega)
    · exact g q j (by omega) (by omega)
    · exact g q j (by omega) (by omega)
    · rw [f2 q (by omega)]
    · rw [f2 q (by omega)]
    · rw [f2 q (by omega)]
    · exact g q j (by omega) (by omega)
    · exact g q j (by omega) (by omega)
    · exact g q j (by omega) (by omega)
    · exact g q j (by omega) (by omega)
    · exact g q j (by omega) (by omega)
theorem wld_rd {σ σ0 : mMem} {o : Nat} (ho : o = 29 ∨ o = 48 ∨ o = 79) (h : ∀ q, ¬ (o ≤ q ∧ q ≤ o + 5) → σ q = σ0 q) : (∀ q j, Rd q j → σ q j = σ0 q j) ∧ (∀ q j, Rs q j → σ q j = σ0 q j) := by
  constructor
  · intro q j hq
    rw [h q ?_]
    rcases hq with hq | hq | hq | hq | hq | hq | hq <;> omega
  · intro q j hq
    rw [h q ?_]
    rcases hq with hq | hq | hq | hq | hq | hq | hq | hq | hq | hq | hq | hq | hq | hq <;> omega
