/-! LAYER 2: a step, told of two that are alike -/
theorem xAct_c {made made' delay : Int} {A A' : Nat → Nat → Int} {k : Nat} (hA : BEq (A k) (A' k)) (hm : ((k : Int) * delay ≤ made) ↔ ((k : Int) * delay ≤ made')) : xAct made delay A k ↔ xAct made' delay A' k := by
  unfold xAct
  rw [hA 3 (by decide), hm]
theorem xPs_c {π π' : mMem} {p n : Nat} {lamp step made made' delay : Int} {A A' : Nat → Nat → Int} (hp : PEq π π' p) (hn : (π p 11).toNat = n) (hm : ∀ k : Nat, k < n → (((k : Int) * delay ≤ made) ↔ ((k : Int) * delay ≤ made'))) (hA : ∀ k, k < n → BEq (A k) (A' k)) :
    ∀ m, m ≤ n → ∀ k, k < n → BEq (xPs π p lamp step made delay m A k) (xPs π' p lamp step made' delay m A' k)
  | 0, _, k, hk => hA k hk
  | m + 1, hmn, k, hk => by
    have ih := xPs_c (lamp := lamp) (step := step) hp hn hm hA m (by omega)
    have ia := xAct_c (made := made) (made' := made') (delay := delay) (ih m (by omega)) (hm m (by omega))
    rw [xPs_s, xPs_s]
    by_cases c : k = m ∧ xAct made delay (xPs π p lamp step made delay m A) m
    · rw [if_pos c, if_pos ⟨c.1, ia.mp c.2⟩]
      exact xNew_c hp (fun j hj => ⟨ih j (by omega) 0 (by decide), ih j (by omega) 1 (by decide)⟩) (ih m (by omega))
    · rw [if_neg c, if_neg (fun q => c ⟨q.1, ia.mpr q.2⟩)]
      exact ih k hk
theorem xWf_c {π π' : mMem} {p n : Nat} {lamp step made made' delay : Int} {A A' : Nat → Nat → Int} (hp : PEq π π' p) (hn : (π p 11).toNat = n) (hm : ∀ k : Nat, k < n → (((k : Int) * delay ≤ made) ↔ ((k : Int) * delay ≤ made'))) (hA : ∀ k, k < n → BEq (A k) (A' k)) {k : Nat} (hk : k < n) : xWf π p lamp step made delay A k = xWf π' p lamp step made' delay A' k ∧ xKf π p lamp step made delay A k = xKf π' p lamp step made' delay A' k := by
  have ih := xPs_c (lamp := lamp) (step := step) hp hn hm hA k (by omega)
  have ia := xAct_c (made := made) (made' := made') (delay := delay) (ih k hk) (hm k hk)
  have iw := xWent_c (lamp := lamp) (step := step) hp (fun j hj => ⟨ih j (by omega) 0 (by decide), ih j (by omega) 1 (by decide)⟩) (ih k hk)
  have ik := xBlk_c (lamp := lamp) (step := step) hp (fun j hj => ⟨ih j (by omega) 0 (by decide), ih j (by omega) 1 (by decide)⟩) (ih k hk)
  unfold xWf xKf
  exact ⟨mb_congr (by rw [ia, iw]), mb_congr (by rw [ia, ik])⟩
theorem xPs_hi {π : mMem} {p : Nat} {lamp step made delay : Int} {A : Nat → Nat → Int} {k : Nat} : ∀ d, xPs π p lamp step made delay (k + 1 + d) A k = xPs π p lamp step made delay (k + 1) A k
  | 0 => rfl
  | d + 1 => by
    show xPs π p lamp step made delay (k + 1 + d + 1) A k = _
    rw [xPs_s, if_neg (by omega), xPs_hi d]
/-- m steps, of which the first is made when none has gone by -/
def xIt (π : mMem) (p n : Nat) (lamp step delay : Int) (A : Nat → Nat → Int) : Nat → Nat → Nat → Int
  | 0 => A
  | m + 1 => xPs π p lamp (step + m) m delay n (xIt π p n lamp step delay A m)
theorem xIt_BR {π : mMem} {p n : Nat} {lamp step delay : Int} {A : Nat → Nat → Int} (h : ∀ j, j < n → BR (π p 9) (π p 10) (A j)) : ∀ m, ∀ j, j < n → BR (π p 9) (π p 10) (xIt π p n lamp step delay A m j)
  | 0, j, hj => h j hj
  | m + 1, j, hj => xPs_BR (xIt_BR h m) n j hj
