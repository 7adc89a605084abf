/-! LAYER 2: kitchen: one statement -/
def Sk (σ τ σ' τ' : mMem) (b : Nat → Int) (l p i : Nat) : Prop := Sj σ τ σ' τ' b l p i ∧ ∀ s', CTk σ' b l s' → σ' p 4 ≤ (xCt b s' : Int)
theorem Sk.of {σ τ σ' τ' : mMem} {b : Nat → Int} {l p i s : Nat} {q : mRs} (h : Sj σ τ σ' τ' b l p i) (e : q = some (0, σ')) (m : Mono q σ) (e4 : σ' p 4 = σ p 4) (c : CTk σ b l s) (hx : σ p 4 ≤ (xCt b s : Int)) : Sk σ τ σ' τ' b l p i := ⟨h, fun s' c' => by
  have h1 := m _ _ e
  have h2 := c.2.2.1
  have h3 := c'.2.2.1
  omega⟩
theorem Sk.dead {σ τ σ' τ' : mMem} {b : Nat → Int} {l p i : Nat} {fk fp : Int} (f : FN σ' σ) (r : FR τ' τ) (hm : Mt σ τ b l) (d : DdC σ' fk fp) (e8 : τ' 86 8 = fk) (e9 : τ' 86 9 = fp) : Sk σ τ σ' τ' b l p i := ⟨⟨f.pc, ⟨r.pr, r.bf⟩, ⟨hm.1.fr r, Or.inr ⟨fk, fp, d, Or.inl ⟨e8, e9⟩⟩⟩, fun ⟨s, c⟩ => (c.nd d).elim⟩, fun s' c => (c.nd d).elim⟩
/-- one too many -/
theorem c_66 {F : Nat} {σ : mMem} {x y t : Int} (hx : x = 0 ∨ x = 1) (hy : y = 0 ∨ y = 1) (ht : t = 0 ∨ t = 1) : g_X6_refuseOneTooMany_b66 F x y t σ = if x = 0 ∧ y = 0 ∧ t = 0 then some (0, σ) else mob (g_X8_refuseHere F 6 σ) (fun _ σ' => some (0, σ')) := by
  unfold g_X6_refuseOneTooMany_b66 g_X6_refuseOneTooMany_b81 g_X6_refuseOneTooMany_b90
  rcases hx with rfl | rfl <;> rcases hy with rfl | rfl <;> rcases ht with rfl | rfl <;> rfl
theorem c_one {F : Nat} {σ : mMem} {x : Int} (h : -1 ≤ x ∧ x ≤ 27) (n3 : ¬ x = 3) (n10 : ¬ x = 10) (n11 : ¬ x = 11) : g_X6_refuseOneTooMany F x σ = some (0, σ) := by
  unfold g_X6_refuseOneTooMany g_X6_refuseOneTooMany_b21 g_X6_refuseOneTooMany_b22 g_X6_refuseOneTooMany_b43 g_X6_refuseOneTooMany_b44 g_X6_refuseOneTooMany_b65
  rw [mw_id (z := x) (by omega) (by omega), show mw 3 = 3 by decide, show mw 10 = 10 by decide, show mw 11 = 11 by decide]
  refine e_t n3 (e_t n10 (e_t n11 ?_))
  rw [c_66 (Or.inl rfl) (Or.inl rfl) (Or.inl rfl)]
  rfl
theorem c_one3 {F p : Nat} {σ : mMem} (hp : p = 3 ∨ p = 8) (h13 : σ 13 2 = (p : Int)) (h11 : 0 ≤ σ p 11 ∧ σ p 11 ≤ 6) : g_X6_refuseOneTooMany F 3 σ = if σ p 11 = 6 then mob (g_X8_refuseHere F 6 σ) (fun _ σ' => some (0, σ')) else some (0, σ) := by
  unfold g_X6_refuseOneTooMany g_X6_refuseOneTooMany_b21 g_X6_refuseOneTooMany_b22 g_X6_refuseOneTooMany_b43 g_X6_refuseOneTooMany_b44 g_X6_refuseOneTooMany_b65
  rw [h13, show ((p : Int)).toNat = p by omega, mw_id (z := σ p 11) (by omega) (by omega), show mw 6 = 6 by decide]
  refine e_f (fun q => q rfl) (e_t (by omega) ?_)
  by_cases c : σ p 11 = 6
  · rw [if_pos c]
    refine e_f (fun q => q c) (e_t (by decide) (e_t (by decide) ?_))
    rw [c_66 (Or.inr rfl) (Or.inl rfl) (Or.inl rfl)]
    rfl
  · rw [if_neg c]
    refine e_t c (e_t (by decide) (e_t (by decide) ?_))
    rw [c_66 (Or.inl rfl) (Or.inl rfl) (Or.inl rfl)]
    rfl
theorem c_oneS {F p : Nat} {σ : mMem} (hp : p = 3 ∨ p = 8) (h13 : σ 13 2 = (p : Int)) (h5 : 0 ≤ σ p 5 ∧ σ p 5 ≤ 1600) (h6 : 0 ≤ σ p 6 ∧ σ p 6 ≤ 1600) : g_X6_refuseOneTooMany F 10 σ = if σ p 6 ≤ σ p 5 then some (0, σ) else mob (g_X8_refuseHere F 6 σ) (fun _ σ' => some (0, σ')) := by
  have hs : g_X5_hasSteers F p σ = some (if σ p 6 ≤ σ p 5 then 0 else 1, σ) := by
    unfold g_X5_hasSteers g_X5_hasSteers_b16
    rw [mw_id (z := σ p 5) (by omega) (by omega), mw_id (z := σ p 6) (by omega) (by omega)]
    by_cases c : σ p 6 ≤ σ p 5
    · rw [if_pos c, if_pos c]; rfl
    · rw [if_neg c, if_neg c]; rfl
  unfold g_X6_refuseOneTooMany g_X6_refuseOneTooMany_b21 g_X6_refuseOneTooMany_b22 g_X6_refuseOneTooMany_b43 g_X6_refuseOneTooMany_b44 g_X6_refuseOneTooMany_b65
  rw [h13, show ((p : Int)).toNat = p by omega]
  refine e_t (by decide) (e_f (fun q => q rfl) (e_t (by omega) (e_mob hs ?_)))
  by_cases c : σ p 6 ≤ σ p 5
  · rw [if_pos c, if_pos c]
    refine e_t (by decide) (e_t (by decide) ?_)
    rw [c_66 (Or.inl rfl) (Or.inl rfl) (Or.inl rfl)]
    rfl
  · rw [if_neg c, if_neg c]
    refine e_f (by decide) (e_t (by decide) ?_)
    rw [c_66 (Or.inl rfl) (Or.inr rfl) (Or.inl rfl)]
    rfl
theorem c_oneG {F p : Nat} {σ : mMem} (hp : p = 3 ∨ p = 8) (h13 : σ 13 2 = (p : Int)) (h5 : 0 ≤ σ p 7 ∧ σ p 7 ≤ 1600) (h6 : 0 ≤ σ p 8 ∧ σ p 8 ≤ 1600) : g_X6_refuseOneTooMany F 11 σ = if σ p 8 ≤ σ p 7 then some (0, σ) else mob (g_X8_refuseHere F 6 σ) (fun _ σ' => some (0, σ')) := by
  have hs : g_X5_hasGoes F p σ = some (if σ p 8 ≤ σ p 7 then 0 else 1, σ) := by
    unfold g_X5_hasGoes g_X5_hasGoes_b16
    rw [mw_id (z := σ p 7) (by omega) (by omega), mw_id (z := σ p 8) (by omega) (by omega)]
    by_cases c : σ p 8 ≤ σ p 7
    · rw [if_pos c, if_pos c]; rfl
    · rw [if_neg c, if_neg c]; rfl
  unfold g_X6_refuseOneTooMany g_X6_refuseOneTooMany_b21 g_X6_refuseOneTooMany_b22 g_X6_refuseOneTooMany_b43 g_X6_refuseOneTooMany_b44 g_X6_refuseOneTooMany_b65
  rw [h13, show ((p : Int)).toNat = p by omega]
  refine e_t (by decide) (e_t (by decide) (e_f (fun q => q rfl) (e_t (by omega) (e_mob hs ?_))))
  by_cases c : σ p 8 ≤ σ p 7
  · rw [if_pos c, if_pos c]
    refine e_t (by decide) ?_
    rw [c_66 (Or.inl rfl) (Or.inl rfl) (Or.inl rfl)]
    rfl
  · rw [if_neg c, if_neg c]
    refine e_f (by decide) ?_
    rw [c_66 (Or.inl rfl) (Or.inl rfl) (Or.inr rfl)]
    rfl
/-- a statement's word -/
theorem c_st {F : Nat} {σ : mMem} {k : Int} {X : mRs} (hw : wd σ k) (hk : 1 ≤ k ∧ k ≤ 27) (h : g_X6_readStatement_b33 F k 0 0 σ = X) : g_X6_readStatement F 0 σ = X := by
  unfold g_X6_readStatement g_X6_readStatement_b22
  rw [hw.1, hw.2]
  exact e_f (fun q => q rfl) (e_t (by rw [mw_id (by omega) (by omega)]; omega) h)
theorem c_stb {F : Nat} {σ : mMem} {x : Int} (hx : -1 ≤ x ∧ x ≤ 27) (n : ¬ x = 0 ∧ ¬ x = 2 ∧ ¬ x = 3 ∧ ¬ x = 6 ∧ ¬ x = 9 ∧ ¬ x = 10 ∧ ¬ x = 11 ∧ ¬ x = 12 ∧ ¬ x = 13 ∧ ¬ x = 14) : g_X6_readStatement_b33 F x 0 0 σ = mob (g_X8_refuseHere F 1 σ) (fun _ σ' => some (0, σ')) := by
  have hb : g_X6_readStatement_b175 F x σ = mob (g_X8_refuseHere F 1 σ) (fun _ σ' => some (0, σ')) := by
    unfold g_X6_readStatement_b175 g_X6_readStatement_b180 g_X6_readSetting g_X6_readSetting_b108
    rw [mw_id (z := x) (by omega) (by omega), show mw 12 = 12 by decide, show mw 13 = 13 by decide, show mw 14 = 14 by decide, if_pos (by omega), if_pos (by omega), if_pos (by omega)]
    cases g_X8_refuseHere F 1 σ with
    | none => rfl
    | some y => rfl
  unfold g_X6_readStatement_b33
  refine e_t rfl (e_mob (c_one hx (by omega) (by omega) (by omega)) ?_)
  rw [mw_id (z := x) (by omega) (by omega)]
  refine e_f (by omega) ?_
  by_cases c1 : x = 1
  · exact e_t c1 hb
  refine e_f c1 (e_f (by omega) (e_f (by omega) ?_))
  by_cases c4 : x = 4
  · exact e_t c4 hb
  refine e_f c4 ?_
  by_cases c5 : x = 5
  · exact e_t c5 hb
  refine e_f c5 (e_f (by omega) ?_)
  by_cases c7 : x = 7
  · exact e_t c7 hb
  refine e_f c7 ?_
  by_cases c8 : x = 8
  · exact e_t c8 hb
  exact e_f c8 (e_f (by omega) (e_f (by omega) (e_f (by omega) hb)))
/-- the reference's words -/
theorem r_st {F l s : Nat} {σ τ : mMem} {b : Nat → Int} (c : CTk σ b l s) (hm : Mt σ τ b l) : (∀ τ', wd σ 2 → g_X12_greying F τ = some (0, τ') → g_X12_statement F τ = some (0, τ')) ∧ (∀ τ', wd σ 3 → g_X12_boxing F τ = some (0, τ') → g_X12_statement F τ = some (0, τ')) ∧ (∀ τ', wd σ 6 → g_X12_eyeing F τ = some (0, τ') → g_X12_statement F τ = some (0, τ')) ∧ (∀ τ', wd σ 9 → g_X12_biasing F τ = some (0, τ') → g_X12_statement F τ = some (0, τ')) ∧ (∀ τ', wd σ 10 → g_X12_reading F 0 τ = some (0, τ') → g_X12_statement F τ = some (0, τ')) ∧ (∀ τ', wd σ 11 → g_X12_reading F 1 τ = some (0, τ') → g_X12_statement F τ = some (0, τ')) ∧ (∀ τ', wd σ 12 → g_X12_telling F 0 999 τ = some (0, τ') → g_X12_statement F τ = some (0, τ')) ∧ (∀ τ', wd σ 13 → g_X12_telling F 1 9 τ = some (0, τ') → g_X12_statement F τ = some (0, τ')) ∧ (∀ τ', wd σ 14 → g_X12_telling F 2 100 τ = some (0, τ') → g_X12_statement F τ = some (0, τ')) ∧ (∀ τ', (¬ wd σ 2 ∧ ¬ wd σ 3 ∧ ¬ wd σ 6 ∧ ¬ wd σ 9 ∧ ¬ wd σ 10 ∧ ¬ wd σ 11 ∧ ¬ wd σ 12 ∧ ¬ wd σ 13 ∧ ¬ wd σ 14) → g_X12_blame F 1 (τ 86 4) τ = some (0, τ') → g_X12_statement F τ = some (0, τ')) := by
  obtain ⟨lx, v, e8⟩ := r_lexl (F := F) c hm
  have w2 := r_isW (F := F) (k := 2) v (by decide)
  have w3 := r_isW (F := F) (k := 3) v (by decide)
  have w6 := r_isW (F := F) (k := 6) v (by decide)
  have w9 := r_isW (F := F) (k := 9) v (by decide)
  have w10 := r_isW (F := F) (k := 10) v (by decide)
  have w11 := r_isW (F := F) (k := 11) v (by decide)
  have w12 := r_isW (F := F) (k := 12) v (by decide)
  have w13 := r_isW (F := F) (k := 13) v (by decide)
  have w14 := r_isW (F := F) (k := 14) v (by decide)
  have nw : ∀ c d : Int, wd σ c → ¬ c = d → ¬ wd σ d := fun c d h q e => q (h.2.symm.trans e.2)
  refine ⟨fun τ' h hX => ?_, fun τ' h hX => ?_, fun τ' h hX => ?_, fun τ' h hX => ?_, fun τ' h hX => ?_, fun τ' h hX => ?_, fun τ' h hX => ?_, fun τ' h hX => ?_, fun τ' h hX => ?_, fun τ' h hX => ?_⟩
  · unfold g_X12_statement g_X12_statement_b186
    refine e_mob lx ?_
    rw [e8]
    exact e_t (by decide) (e_mob w2 (e_f (mb_n0 h) (e_mob hX rfl)))
  · unfold g_X12_statement g_X12_statement_b186
    refine e_mob lx ?_
    rw [e8]
    exact e_t (by decide) (e_mob w2 (e_t (mb_e0 (nw _ _ h (by decide))) (e_mob w3 (e_f (mb_n0 h) (e_mob hX rfl)))))
  · unfold g_X12_statement g_X12_statement_b186
    refine e_mob lx ?_
    rw [e8]
    exact e_t (by decide) (e_mob w2 (e_t (mb_e0 (nw _ _ h (by decide))) (e_mob w3 (e_t (mb_e0 (nw _ _ h (by decide))) (e_mob w6 (e_f (mb_n0 h) (e_mob hX rfl)))))))
  · unfold g_X12_statement g_X12_statement_b186
    refine e_mob lx ?_
    rw [e8]
    exact e_t (by decide) (e_mob w2 (e_t (mb_e0 (nw _ _ h (by decide))) (e_mob w3 (e_t (mb_e0 (nw _ _ h (by decide))) (e_mob w6 (e_t (mb_e0 (nw _ _ h (by decide))) (e_mob w9 (e_f (mb_n0 h) (e_mob hX rfl)))))))))
  · unfold g_X12_statement g_X12_statement_b186
    refine e_mob lx ?_
    rw [e8]
    exact e_t (by decide) (e_mob w2 (e_t (mb_e0 (nw _ _ h (by decide))) (e_mob w3 (e_t (mb_e0 (nw _ _ h (by decide))) (e_mob w6 (e_t (mb_e0 (nw _ _ h (by decide))) (e_mob w9 (e_t (mb_e0 (nw _ _ h (by decide))) (e_mob w10 (e_f (mb_n0 h) (e_mob hX rfl)))))))))))
  · unfold g_X12_statement g_X12_statement_b186
    refine e_mob lx ?_
    rw [e8]
    exact e_t (by decide) (e_mob w2 (e_t (mb_e0 (nw _ _ h (by decide))) (e_mob w3 (e_t (mb_e0 (nw _ _ h (by decide))) (e_mob w6 (e_t (mb_e0 (nw _ _ h (by decide))) (e_mob w9 (e_t (mb_e0 (nw _ _ h (by decide))) (e_mob w10 (e_t (mb_e0 (nw _ _ h (by decide))) (e_mob w11 (e_f (mb_n0 h) (e_mob hX rfl)))))))))))))
  · unfold g_X12_statement g_X12_statement_b186
    refine e_mob lx ?_
    rw [e8]
    exact e_t (by decide) (e_mob w2 (e_t (mb_e0 (nw _ _ h (by decide))) (e_mob w3 (e_t (mb_e0 (nw _ _ h (by decide))) (e_mob w6 (e_t (mb_e0 (nw _ _ h (by decide))) (e_mob w9 (e_t (mb_e0 (nw _ _ h (by decide))) (e_mob w10 (e_t (mb_e0 (nw _ _ h (by decide))) (e_mob w11 (e_t (mb_e0 (nw _ _ h (by decide))) (e_mob w12 (e_f (mb_n0 h) (e_mob hX rfl)))))))))))))))
  · unfold g_X12_statement g_X12_statement_b186
    refine e_mob lx ?_
    rw [e8]
    exact e_t (by decide) (e_mob w2 (e_t (mb_e0 (nw _ _ h (by decide))) (e_mob w3 (e_t (mb_e0 (nw _ _ h (by decide))) (e_mob w6 (e_t (mb_e0 (nw _ _ h (by decide))) (e_mob w9 (e_t (mb_e0 (nw _ _ h (by decide))) (e_mob w10 (e_t (mb_e0 (nw _ _ h (by decide))) (e_mob w11 (e_t (mb_e0 (nw _ _ h (by decide))) (e_mob w12 (e_t (mb_e0 (nw _ _ h (by decide))) (e_mob w13 (e_f (mb_n0 h) (e_mob hX rfl)))))))))))))))))
  · unfold g_X12_statement g_X12_statement_b186
    refine e_mob lx ?_
    rw [e8]
    exact e_t (by decide) (e_mob w2 (e_t (mb_e0 (nw _ _ h (by decide))) (e_mob w3 (e_t (mb_e0 (nw _ _ h (by decide))) (e_mob w6 (e_t (mb_e0 (nw _ _ h (by decide))) (e_mob w9 (e_t (mb_e0 (nw _ _ h (by decide))) (e_mob w10 (e_t (mb_e0 (nw _ _ h (by decide))) (e_mob w11 (e_t (mb_e0 (nw _ _ h (by decide))) (e_mob w12 (e_t (mb_e0 (nw _ _ h (by decide))) (e_mob w13 (e_t (mb_e0 (nw _ _ h (by decide))) (e_mob w14 (e_f (mb_n0 h) (e_mob hX rfl)))))))))))))))))))
  · unfold g_X12_statement g_X12_statement_b186
    refine e_mob lx ?_
    rw [e8]
    exact e_t (by decide) (e_mob w2 (e_t (mb_e0 h.1) (e_mob w3 (e_t (mb_e0 h.2.1) (e_mob w6 (e_t (mb_e0 h.2.2.1) (e_mob w9 (e_t (mb_e0 h.2.2.2.1) (e_mob w10 (e_t (mb_e0 h.2.2.2.2.1) (e_mob w11 (e_t (mb_e0 h.2.2.2.2.2.1) (e_mob w12 (e_t (mb_e0 h.2.2.2.2.2.2.1) (e_mob w13 (e_t (mb_e0 h.2.2.2.2.2.2.2.1) (e_mob w14 (e_t (mb_e0 h.2.2.2.2.2.2.2.2) (e_mob hX rfl)))))))))))))))))))
