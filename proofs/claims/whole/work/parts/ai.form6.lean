/-! LAYER 2: kitchen, formulas: what stands where a value must be -/
theorem r_oph {F l i D o s : Nat} {σ τ : mMem} {b : Nat → Int} {k ph bg bse : Int} {S : List Int} {X : mRs} (c : CTk σ b l s) (hm : Mt σ τ b l) (hf : Fr τ i D o k ph bg bse S) (hk : 0 ≤ k ∧ k ≤ 6) (hbg : bg = 0 ∨ bg = 1) (hD : D ≤ 15) : ((isT k → bg = 0 ∨ (¬ wd σ 24 ∧ ¬ mk σ 91 ∧ ¬ wd σ 25)) → g_X12_operand_b171 F (mup τ 105 D 0) = X → g_X12_operand F τ = X) ∧ ((isT k ∧ bg = 1) → (wd σ 24 → (if ¬ mw (τ 86 38) = mw 7 then (g_X12_operand_b79 F τ) else (mob (g_X12_blame F 5 (τ 86 4) τ) (fun r108 σ109 => g_X12_operand_b79 F σ109))) = X → g_X12_operand F τ = X) ∧ (mk σ 91 → mob (g_X12_opens F 5 (mup τ 105 D 0)) (fun r313 σ314 => if mw 0 = 0 ∨ mw 0 = 1 then some (0, σ314) else none) = X → g_X12_operand F τ = X) ∧ (wd σ 25 → mob (g_X12_add F 30 0 (mup τ 105 D 0)) (fun r522 σ523 => mlm (mup σ523 104 D 2) (fun σ524 => mob (g_X12_ahead F σ524) (fun r525 σ526 => if mw 1 = 0 ∨ mw 1 = 1 then some (1, σ526) else none))) = X → g_X12_operand F τ = X)) := by
  obtain ⟨l1, v, e8⟩ := r_lexl (F := F) c hm
  have hm0 : Mt σ (mup τ 105 D 0) b l := hm.row (by decide)
  obtain ⟨-, v0, -⟩ := r_lexl (F := F) c hm0
  obtain ⟨⟨f1, -⟩, ⟨f5, f6, f7, -⟩, -⟩ := hf
  have hD1 : (D : Int) + 1 - 1 = (D : Int) := by omega
  have mD : (mw (D : Int)).toNat = D := (mwD hD).1
  have rD : 0 ≤ mw (D : Int) ∧ mw (D : Int) < 20 := (mwD hD).2
  have rD2 : 0 ≤ mw (D : Int) ∧ mw (D : Int) < 20 ∧ (mw 0 = 0 ∨ mw 0 = 1) := ⟨rD.1, rD.2, by decide⟩
  have hd : ∀ Y, (if mw (mb (isT k)) = 0 then (g_X12_operand_b45 F (D : Int) τ) else (if mw bg = 0 then (g_X12_operand_b45 F (D : Int) τ) else (g_X12_operand_b46 F (D : Int) 1 τ))) = Y → g_X12_operand F τ = Y := by
    intro Y hY
    unfold g_X12_operand
    refine e_mob l1 ?_
    rw [e8, f1, hD1]
    refine e_t (by decide) (e_let ?_)
    rw [mD, f5]
    refine e_t rD (e_mob (r_isT hk) ?_)
    rw [f7]
    by_cases ct : isT k
    · rw [if_neg (mb_n0 ct)] at hY
      exact e_f (mb_n0 ct) (e_t rD hY)
    · rw [if_pos (mb_e0 ct)] at hY
      exact e_t (mb_e0 ct) hY
  have b45 : ∀ Y, g_X12_operand_b171 F (mup τ 105 D 0) = Y → g_X12_operand_b45 F (D : Int) τ = Y := by
    intro Y hY
    unfold g_X12_operand_b45 g_X12_operand_b46 g_X12_operand_b110 g_X12_operand_b137
    rw [mD]
    exact e_t (by decide) (e_t rD2 (e_mem (e_t (by decide) (e_t (by decide) hY))))
  have b110 : ∀ Y, (mob (g_X12_isSign F 91 (mup τ 105 D 0)) (fun r311 σ312 => if mw r311 = 0 then (g_X12_operand_b137 F (D : Int) 1 σ312) else (mob (g_X12_opens F 5 σ312) (fun r313 σ314 => if mw 0 = 0 ∨ mw 0 = 1 then some (0, σ314) else none)))) = Y → g_X12_operand_b110 F (D : Int) 1 τ = Y := by
    intro Y hY
    unfold g_X12_operand_b110
    rw [mD]
    exact e_t rD2 (e_mem (e_f (by decide) hY))
  refine ⟨fun h hX => hd _ ?_, fun h => ⟨fun hw hX => hd _ ?_, fun hw hX => hd _ ?_, fun hw hX => hd _ ?_⟩⟩
  · by_cases ct : isT k
    · refine e_f (mb_n0 ct) ?_
      rcases hbg with hb0 | hb1
      · exact e_t (by rw [hb0]; decide) (b45 _ hX)
      · refine e_f (by rw [hb1]; decide) ?_
        have nn : ¬ wd σ 24 ∧ ¬ mk σ 91 ∧ ¬ wd σ 25 := by
          rcases h ct with q | q
          · rw [hb1] at q; exact absurd q (by decide)
          · exact q
        unfold g_X12_operand_b46
        refine e_f (by decide) (e_mob (r_isW (k := 24) v (by decide)) (e_t (mb_e0 nn.1) (b110 _ (e_mob (r_isS v0 (by decide)) (e_t (mb_e0 nn.2.1) ?_)))))
        unfold g_X12_operand_b137
        exact e_f (by decide) (e_mob (r_isW (k := 25) v0 (by decide)) (e_t (mb_e0 nn.2.2) hX))
    · exact e_t (mb_e0 ct) (b45 _ hX)
  · refine e_f (mb_n0 h.1) (e_f (by rw [h.2]; decide) ?_)
    unfold g_X12_operand_b46
    exact e_f (by decide) (e_mob (r_isW (k := 24) v (by decide)) (e_f (mb_n0 hw) hX))
  · refine e_f (mb_n0 h.1) (e_f (by rw [h.2]; decide) ?_)
    unfold g_X12_operand_b46
    exact e_f (by decide) (e_mob (r_isW (k := 24) v (by decide)) (e_t (mb_e0 (by omega)) (b110 _ (e_mob (r_isS v0 (by decide)) (e_f (mb_n0 hw) hX)))))
  · refine e_f (mb_n0 h.1) (e_f (by rw [h.2]; decide) ?_)
    unfold g_X12_operand_b46
    refine e_f (by decide) (e_mob (r_isW (k := 24) v (by decide)) (e_t (mb_e0 (by omega)) (b110 _ (e_mob (r_isS v0 (by decide)) (e_t (mb_e0 (by omega)) ?_)))))
    unfold g_X12_operand_b137
    refine e_f (by decide) (e_mob (r_isW (k := 25) v0 (by decide)) (e_f (mb_n0 hw) ?_))
    rw [mD]
    simp only [if_pos rD]
    exact hX
theorem r_171 {F : Nat} {σ τ : mMem} {X : mRs} (v : Vw σ τ) : (mk σ 40 → mob (g_X12_opens F 2 τ) (fun r649 σ650 => if mw 0 = 0 ∨ mw 0 = 1 then some (0, σ650) else none) = X → g_X12_operand_b171 F τ = X) ∧ (wd σ 26 → g_X12_operand_b249 F 36 τ = X → g_X12_operand_b171 F τ = X) ∧ (wd σ 27 → g_X12_operand_b249 F 37 τ = X → g_X12_operand_b171 F τ = X) ∧ (wd σ 21 → g_X12_operand_b249 F 44 τ = X → g_X12_operand_b171 F τ = X) ∧ (σ 14 7 = 3 → g_X12_operand_b426 F 0 τ = X → g_X12_operand_b171 F τ = X) ∧ (∀ w : Int, wd σ w → (15 ≤ w ∧ w ≤ 20) → g_X12_operand_b426 F (w - 14) τ = X → g_X12_operand_b171 F τ = X) ∧ (wd σ 12 → g_X12_operand_b426 F 7 τ = X → g_X12_operand_b171 F τ = X) ∧ ((¬ mk σ 40 ∧ ¬ wd σ 26 ∧ ¬ wd σ 27 ∧ ¬ wd σ 21 ∧ ¬ σ 14 7 = 3 ∧ (∀ w : Int, wd σ w → ¬ (15 ≤ w ∧ w ≤ 20)) ∧ ¬ wd σ 12) → g_X12_operand_b426 F (-1) τ = X → g_X12_operand_b171 F τ = X) := by
  have vn := v.num
  have s40 := r_isS (F := F) (c := 40) v (by decide)
  have w26 := r_isW (F := F) (k := 26) v (by decide)
  have w27 := r_isW (F := F) (k := 27) v (by decide)
  have w21 := r_isW (F := F) (k := 21) v (by decide)
  have w15 := r_isW (F := F) (k := 15) v (by decide)
  have w16 := r_isW (F := F) (k := 16) v (by decide)
  have w17 := r_isW (F := F) (k := 17) v (by decide)
  have w18 := r_isW (F := F) (k := 18) v (by decide)
  have w19 := r_isW (F := F) (k := 19) v (by decide)
  have w20 := r_isW (F := F) (k := 20) v (by decide)
  have w12 := r_isW (F := F) (k := 12) v (by decide)
  have m3 : mw (τ 86 3) = τ 86 3 := mw_id (by omega) (by omega)
  have m2 : mw 2 = 2 := by decide
  have num : ∀ (n1 : ¬ mk σ 40) (n2 : ¬ wd σ 26) (n3 : ¬ wd σ 27) (n4 : ¬ wd σ 21) (Y : mRs), (if ¬ τ 86 3 = 2 then (mob (g_X12_isWord F 1818584692 τ) (fun r635 σ636 => if mw r635 = 0 then (mob (g_X12_isWord F 491394656372 σ636) (fun r637 σ638 => if mw r637 = 0 then (mob (g_X12_isWord F 7170404 σ638) (fun r639 σ640 => if mw r639 = 0 then (mob (g_X12_isWord F 1819243380 σ640) (fun r641 σ642 => if mw r641 = 0 then (mob (g_X12_isWord F 1937007984 σ642) (fun r643 σ644 => if mw r643 = 0 then (mob (g_X12_isWord F 128047779833188 σ644) (fun r645 σ646 => if mw r645 = 0 then (mob (g_X12_isWord F 482906432882 σ646) (fun r647 σ648 => if mw r647 = 0 then (g_X12_operand_b426 F (-1) σ648) else (g_X12_operand_b426 F 7 σ648))) else (g_X12_operand_b426 F 6 σ646))) else (g_X12_operand_b426 F 5 σ644))) else (g_X12_operand_b426 F 4 σ642))) else (g_X12_operand_b426 F 3 σ640))) else (g_X12_operand_b426 F 2 σ638))) else (g_X12_operand_b426 F 1 σ636))) else (g_X12_operand_b426 F 0 τ)) = Y → g_X12_operand_b171 F τ = Y := by
    intro n1 n2 n3 n4 Y hY
    unfold g_X12_operand_b171
    refine e_mob s40 (e_t (mb_e0 n1) (e_mob w26 (e_f (mb_nn0 n2) (e_mob w27 (e_f (mb_nn0 n3) (e_mob w21 (e_t (mb_e0 n4) ?_)))))))
    rw [m3, m2]
    exact hY
  have n21 : ∀ c : Int, wd σ c → ¬ mk σ 40 := fun c h q => by omega
  have nw : ∀ c d : Int, wd σ c → ¬ c = d → ¬ wd σ d := fun c d h q e => by omega
  have t3 : σ 14 7 = 2 → ¬ τ 86 3 = 2 := fun h q => by have := vn.1.mp q; omega
  refine ⟨fun h hX => ?_, fun h hX => ?_, fun h hX => ?_, fun h hX => ?_, fun h hX => ?_, fun w h hw hX => ?_, fun h hX => ?_, fun h hX => ?_⟩
  · unfold g_X12_operand_b171
    exact e_mob s40 (e_f (mb_n0 h) hX)
  · unfold g_X12_operand_b171 g_X12_operand_b217
    exact e_mob s40 (e_t (mb_e0 (n21 _ h)) (e_mob w26 (e_t (mb_n0 h) (e_mob w26 (e_f (mb_n0 h) hX)))))
  · unfold g_X12_operand_b171 g_X12_operand_b217
    exact e_mob s40 (e_t (mb_e0 (n21 _ h)) (e_mob w26 (e_f (mb_nn0 (nw _ _ h (by decide))) (e_mob w27 (e_t (mb_n0 h) (e_mob w26 (e_t (mb_e0 (nw _ _ h (by decide))) (e_mob w27 (e_f (mb_n0 h) hX)))))))))
  · unfold g_X12_operand_b171 g_X12_operand_b217
    exact e_mob s40 (e_t (mb_e0 (n21 _ h)) (e_mob w26 (e_f (mb_nn0 (nw _ _ h (by decide))) (e_mob w27 (e_f (mb_nn0 (nw _ _ h (by decide))) (e_mob w21 (e_f (mb_n0 h) (e_mob w26 (e_t (mb_e0 (nw _ _ h (by decide))) (e_mob w27 (e_t (mb_e0 (nw _ _ h (by decide))) hX)))))))))))
  · exact num (fun q => by omega) (fun q => by omega) (fun q => by omega) (fun q => by omega) _ (e_f (fun q => q (vn.1.mpr h)) hX)
  · rcases (by omega : w = 15 ∨ w = 16 ∨ w = 17 ∨ w = 18 ∨ w = 19 ∨ w = 20) with rfl | rfl | rfl | rfl | rfl | rfl
    · exact num (n21 _ h) (nw _ _ h (by decide)) (nw _ _ h (by decide)) (nw _ _ h (by decide)) _ (e_t (t3 h.1) (e_mob w15 (e_f (mb_n0 h) hX)))
    · exact num (n21 _ h) (nw _ _ h (by decide)) (nw _ _ h (by decide)) (nw _ _ h (by decide)) _ (e_t (t3 h.1) (e_mob w15 (e_t (mb_e0 (nw _ _ h (by decide))) (e_mob w16 (e_f (mb_n0 h) hX)))))
    · exact num (n21 _ h) (nw _ _ h (by decide)) (nw _ _ h (by decide)) (nw _ _ h (by decide)) _ (e_t (t3 h.1) (e_mob w15 (e_t (mb_e0 (nw _ _ h (by decide))) (e_mob w16 (e_t (mb_e0 (nw _ _ h (by decide))) (e_mob w17 (e_f (mb_n0 h) hX)))))))
    · exact num (n21 _ h) (nw _ _ h (by decide)) (nw _ _ h (by decide)) (nw _ _ h (by decide)) _ (e_t (t3 h.1) (e_mob w15 (e_t (mb_e0 (nw _ _ h (by decide))) (e_mob w16 (e_t (mb_e0 (nw _ _ h (by decide))) (e_mob w17 (e_t (mb_e0 (nw _ _ h (by decide))) (e_mob w18 (e_f (mb_n0 h) hX)))))))))
    · exact num (n21 _ h) (nw _ _ h (by decide)) (nw _ _ h (by decide)) (nw _ _ h (by decide)) _ (e_t (t3 h.1) (e_mob w15 (e_t (mb_e0 (nw _ _ h (by decide))) (e_mob w16 (e_t (mb_e0 (nw _ _ h (by decide))) (e_mob w17 (e_t (mb_e0 (nw _ _ h (by decide))) (e_mob w18 (e_t (mb_e0 (nw _ _ h (by decide))) (e_mob w19 (e_f (mb_n0 h) hX)))))))))))
    · exact num (n21 _ h) (nw _ _ h (by decide)) (nw _ _ h (by decide)) (nw _ _ h (by decide)) _ (e_t (t3 h.1) (e_mob w15 (e_t (mb_e0 (nw _ _ h (by decide))) (e_mob w16 (e_t (mb_e0 (nw _ _ h (by decide))) (e_mob w17 (e_t (mb_e0 (nw _ _ h (by decide))) (e_mob w18 (e_t (mb_e0 (nw _ _ h (by decide))) (e_mob w19 (e_t (mb_e0 (nw _ _ h (by decide))) (e_mob w20 (e_f (mb_n0 h) hX)))))))))))))
  · exact num (n21 _ h) (nw _ _ h (by decide)) (nw _ _ h (by decide)) (nw _ _ h (by decide)) _ (e_t (t3 h.1) (e_mob w15 (e_t (mb_e0 (nw _ _ h (by decide))) (e_mob w16 (e_t (mb_e0 (nw _ _ h (by decide))) (e_mob w17 (e_t (mb_e0 (nw _ _ h (by decide))) (e_mob w18 (e_t (mb_e0 (nw _ _ h (by decide))) (e_mob w19 (e_t (mb_e0 (nw _ _ h (by decide))) (e_mob w20 (e_t (mb_e0 (nw _ _ h (by decide))) (e_mob w12 (e_f (mb_n0 h) hX)))))))))))))))
  · exact num h.1 h.2.1 h.2.2.1 h.2.2.2.1 _ (e_t (fun q => h.2.2.2.2.1 (vn.1.mp q)) (e_mob w15 (e_t (mb_e0 (fun q => h.2.2.2.2.2.1 _ q (by decide))) (e_mob w16 (e_t (mb_e0 (fun q => h.2.2.2.2.2.1 _ q (by decide))) (e_mob w17 (e_t (mb_e0 (fun q => h.2.2.2.2.2.1 _ q (by decide))) (e_mob w18 (e_t (mb_e0 (fun q => h.2.2.2.2.2.1 _ q (by decide))) (e_mob w19 (e_t (mb_e0 (fun q => h.2.2.2.2.2.1 _ q (by decide))) (e_mob w20 (e_t (mb_e0 (fun q => h.2.2.2.2.2.1 _ q (by decide))) (e_mob w12 (e_t (mb_e0 h.2.2.2.2.2.2) hX)))))))))))))))
/-- the class: what is known -/
theorem c_kOf {F : Nat} {σ : mMem} {w : Int} (h : 0 ≤ w ∧ w ≤ 2000000000) : g_X1_knownOf F w σ = some (if w = 12 then 6 else if 15 ≤ w ∧ w ≤ 20 then w - 15 else -1, σ) := by
  unfold g_X1_knownOf g_X1_knownOf_b28 g_X1_knownOf_b29
  rw [mw_id (z := w) (by omega) (by omega), show mw 12 = 12 by decide, show mw 15 = 15 by decide, show mw 20 = 20 by decide]
  by_cases c1 : w = 12
  · rw [if_pos c1]; exact e_f (fun q => q c1) rfl
  · rw [if_neg c1]
    refine e_t c1 ?_
    by_cases c2 : 15 ≤ w ∧ w ≤ 20
    · rw [if_pos c2]; exact e_f (by omega) (e_f (by omega) rfl)
    · rw [if_neg c2]
      by_cases c3 : w < 15
      · exact e_t c3 rfl
      · exact e_f c3 (e_t (by omega) rfl)
/-- a value known by a word: its number; whether it may stand here -/
def knW (σ : mMem) (m x : Int) : Prop := (wd σ 12 ∧ x = 6 ∧ m = 7) ∨ (∃ w : Int, wd σ w ∧ (15 ≤ w ∧ w ≤ 20) ∧ x = w - 15 ∧ (w = 20 → m = 7))
theorem c_known {F : Nat} {σ : mMem} {m : Int} (rg : (0 ≤ σ 14 7 ∧ σ 14 7 ≤ 4) ∧ 0 ≤ σ 14 9 ∧ σ 14 9 ≤ 2000000000) (hm : (m = 5 ∧ σ 19 2 = 0) ∨ (m = 7 ∧ σ 19 2 = 1)) : (∀ x, knW σ m x → g_X1_known F σ = g_X1_known_b68 F x σ) ∧ ((∀ x, ¬ knW σ m x) → g_X1_known F σ = g_X1_known_b59 F σ) := by
  have m7 : mw (σ 14 7) = σ 14 7 := mw_id (by omega) (by omega)
  have m2 : mw 2 = 2 := by decide
  have b42 : ∀ (x t : Int), (0 ≤ x ∧ x ≤ 6) → (t = 0 ∨ (t = 1 ∧ m = 7)) → g_X1_known_b42 F x t σ = g_X1_known_b68 F x σ := by
    intro x t hx ht
    unfold g_X1_known_b42
    rw [mw_id (z := x) (by omega) (by omega), mw_m1]
    refine e_f (by omega) ?_
    rcases ht with rfl | ⟨rfl, h7⟩
    · exact e_t (by decide) rfl
    · have : σ 19 2 = 1 := by omega
      rw [this]
      exact e_f (by decide) (e_t (by decide) rfl)
  have b42n : ∀ (x t : Int), (0 ≤ x ∧ x ≤ 6) → t = 1 → m = 5 → g_X1_known_b42 F x t σ = g_X1_known_b59 F σ := by
    intro x t hx ht h5
    unfold g_X1_known_b42
    have : σ 19 2 = 0 := by omega
    rw [mw_id (z := x) (by omega) (by omega), mw_m1, ht, this]
    exact e_f (by omega) (e_f (by decide) (e_f (fun q => q (by decide)) rfl))
  have b42m : g_X1_known_b25 F (-1) σ = g_X1_known_b59 F σ := by
    unfold g_X1_known_b25 g_X1_known_b42
    exact e_f (by decide) (e_t (by decide) (e_t (by decide) rfl))
  have b25 : ∀ x : Int, (0 ≤ x ∧ x ≤ 4) → g_X1_known_b25 F x σ = g_X1_known_b68 F x σ := by
    intro x hx
    unfold g_X1_known_b25
    rw [mw_id (z := x) (by omega) (by omega), show mw 5 = 5 by decide, show mw 6 = 6 by decide]
    exact e_f (by omega) (e_t (by omega) (b42 x 0 (by omega) (Or.inl rfl)))
  have b25b : ∀ x : Int, (x = 5 ∨ x = 6) → g_X1_known_b25 F x σ = g_X1_known_b42 F x 1 σ := by
    intro x hx
    unfold g_X1_known_b25 g_X1_known_b37
    rcases hx with rfl | rfl
    · exact e_t (by decide) rfl
    · exact e_f (by decide) (e_f (by decide) rfl)
  constructor
  · intro x hx
    unfold g_X1_known
    rw [m7, m2]
    rcases hx with ⟨hw, rfl, h7⟩ | ⟨w, hw, h1, rfl, h2⟩
    · refine e_f (fun q => q hw.1) (e_mob (c_kOf rg.2) ?_)
      rw [if_pos hw.2, b25b 6 (Or.inr rfl)]
      exact b42 6 1 (by decide) (Or.inr ⟨rfl, h7⟩)
    · refine e_f (fun q => q hw.1) (e_mob (c_kOf rg.2) ?_)
      rw [if_neg (by omega), if_pos (by omega), hw.2]
      by_cases c : w = 20
      · rw [b25b _ (by omega)]
        exact b42 _ 1 (by omega) (Or.inr ⟨rfl, h2 c⟩)
      · exact b25 _ (by omega)
  · intro hn
    unfold g_X1_known
    rw [m7, m2]
    by_cases c2 : σ 14 7 = 2
    · refine e_f (fun q => q c2) (e_mob (c_kOf rg.2) ?_)
      by_cases c12 : σ 14 9 = 12
      · have m5 : m = 5 := by
          by_cases c : m = 7
          · exact absurd (Or.inl ⟨⟨c2, c12⟩, rfl, c⟩) (hn 6)
          · omega
        rw [if_pos c12, b25b 6 (Or.inr rfl)]
        exact b42n 6 1 (by decide) rfl m5
      · rw [if_neg c12]
        by_cases c15 : 15 ≤ σ 14 9 ∧ σ 14 9 ≤ 20
        · have c20 : σ 14 9 = 20 ∧ m = 5 := by
            by_cases c : σ 14 9 = 20
            · refine ⟨c, ?_⟩
              by_cases c7 : m = 7
              · exact absurd (Or.inr ⟨σ 14 9, ⟨c2, rfl⟩, c15, rfl, fun _ => c7⟩) (hn _)
              · omega
            · exact absurd (Or.inr ⟨σ 14 9, ⟨c2, rfl⟩, c15, rfl, fun q => absurd q c⟩) (hn _)
          rw [if_pos c15, b25b _ (by omega)]
          exact b42n _ 1 (by omega) rfl c20.2
        · rw [if_neg c15]
          exact b42m
    · exact e_t c2 b42m
