/-! LAYER 2: kitchen: how reading begins -/
theorem xCt_none {b : Nat → Int} : ∀ {k : Nat}, (∀ j, j < k → ¬ xSg b j) → xCt b k = 0 := by
  intro k
  induction k with
  | zero => intro _; rfl
  | succ k ih =>
    intro h
    rw [xCt_n (h k (by omega))]
    exact ih (fun j hj => h j (by omega))
theorem c_next0 {F l s' : Nat} {σ : mMem} {b : Nat → Int} (hb : ∀ j, j < l → 0 ≤ b j ∧ b j ≤ 255) (h0 : l ≤ 1600) (h01 : σ 1 1 = (l : Int)) (h1 : σ 14 10 = 0) (h2 : σ 14 6 = -1) (h3 : LexG σ b l ∨ ∃ k s, LexB σ b l k s) (hn1 : s' ≤ l) (hn2 : s' = l ∨ xSg b s') (hn3 : ∀ j, j < s' → ¬ xSg b j) : ∃ σ', g_X8_next F σ = some (0, σ') ∧ FN σ' σ ∧ (CTk σ' b l s' ∨ (∃ k : Nat, (k < l ∧ s' < l ∧ xWrg b k s') ∧ DdC σ' 1 (k : Int))) := by
  have ct : xCt b s' = 0 := xCt_none hn3
  have cl := (xCt_le (b := b) (j := 0) (k := s') (by omega)).2
  have z0 : xCt b 0 = 0 := rfl
  obtain ⟨σ1, e1⟩ : ∃ y, y = mup σ 14 6 (xCt b s' : Int) := ⟨_, rfl⟩
  have f1 : FN σ1 σ := by rw [e1]; exact FN.rfl'.up (by decide)
  have v6 : σ1 14 6 = (xCt b s' : Int) := by rw [e1, mup_at rfl rfl]
  have head : ∀ X, (if mw (σ1 14 6) < 0 then (g_X8_next_b48 F σ1) else (if mw (σ1 14 5) ≤ mw (σ1 14 6) then (g_X8_next_b48 F σ1) else (if mw (σ1 14 6) < mw 1600 then (if 0 ≤ mw (σ1 14 6) ∧ mw (σ1 14 6) < (1600 : Int) then mlm (mup σ1 14 7 (σ1 16 (mw (σ1 14 6)).toNat)) (fun σ2 => if 0 ≤ mw (σ2 14 6) ∧ mw (σ2 14 6) < (1600 : Int) then mlm (mup σ2 14 8 (σ2 17 (mw (σ2 14 6)).toNat)) (fun σ3 => if 0 ≤ mw (σ3 14 6) ∧ mw (σ3 14 6) < (1600 : Int) then mlm (mup σ3 14 9 (σ3 18 (mw (σ3 14 6)).toNat)) (fun σ4 => if ¬ mw (σ4 14 7) = mw 5 then (g_X8_next_b130 F σ4) else (mlm (mup σ4 14 8 (σ4 14 9)) (fun σ5 => mob (g_X8_refuseHere F 1 σ5) (fun r6 σ7 => g_X8_next_b130 F σ7)))) else none) else none) else none) else (g_X8_next_b48 F σ1)))) = X → g_X8_next F σ = X := by
    intro X hX
    unfold g_X8_next
    rw [h1, h2, show (-1 : Int) + 1 = (xCt b s' : Int) by omega]
    refine e_t (by decide) (e_mem ?_)
    rw [← e1]
    exact hX
  have idx : ∀ (K V S : Int), σ 16 (xCt b s') = K → σ 17 (xCt b s') = S → σ 18 (xCt b s') = V → (xCt b s' : Int) < σ 14 5 → σ 14 5 ≤ 1600 → ∀ X, (if ¬ mw K = mw 5 then (some (0, mup (mup (mup σ1 14 7 K) 14 8 S) 14 9 V)) else (mob (g_X8_refuseHere F 1 (mup (mup (mup (mup σ1 14 7 K) 14 8 S) 14 9 V) 14 8 V)) (fun r6 σ7 => some (0, σ7)))) = X → g_X8_next F σ = X := by
    intro K V S k1 k2 k3 k4 k5 X hX
    refine head X ?_
    unfold g_X8_next_b130
    have o16 : σ1 16 = σ 16 := f1.1 16 (by decide)
    have o17 : σ1 17 = σ 17 := f1.1 17 (by decide)
    have o18 : σ1 18 = σ 18 := f1.1 18 (by decide)
    rw [f1.2 5 (by decide), v6, mwN (i := xCt b s') (by omega), o16, k1]
    refine e_f (by rw [mw_id (by omega) (by omega)]; omega) (e_f (by rw [mw_id (by omega) (by omega), mw_id (by omega) (by omega)]; omega) (e_t (by rw [mw_id (by omega) (by omega), mw_id (by omega) (by omega)]; omega) (e_t (mwR (by omega) (by decide)) (e_mem ?_))))
    rw [mup_ne (o := 14) (by decide), v6, mwN (i := xCt b s') (by omega), mup_off (o := 14) (q := 17) (by decide), o17, k2]
    refine e_t (mwR (by omega) (by decide)) (e_mem ?_)
    rw [mup_ne (o := 14) (by decide), mup_ne (o := 14) (by decide), v6, mwN (i := xCt b s') (by omega), mup_off (o := 14) (q := 18) (by decide), mup_off (o := 14) (q := 18) (by decide), o18, k3]
    refine e_t (mwR (by omega) (by decide)) (e_mem ?_)
    rw [mup_ne (o := 14) (j := 7) (k := 9) (by decide), mup_ne (o := 14) (j := 7) (k := 8) (by decide), mup_at (o := 14) (j := 7) rfl rfl, mup_at (o := 14) (j := 9) rfl rfl]
    exact hX
  -- a good sign at s'
  have good : s' < l → xSg b s' → TokM σ b s' (xCt b s') l → Lx σ b l s' → (xCt b s' : Int) < σ 14 5 → σ 14 5 ≤ 1600 → ∃ σ', g_X8_next F σ = some (0, σ') ∧ FN σ' σ ∧ (CTk σ' b l s' ∨ (∃ k : Nat, (k < l ∧ s' < l ∧ xWrg b k s') ∧ DdC σ' 1 (k : Int))) := by
    intro sl sg' T lx lt5 le5
    obtain ⟨σ4, e4⟩ : ∃ y, y = mup (mup (mup σ1 14 7 (σ 16 (xCt b s'))) 14 8 (s' : Int)) 14 9 (σ 18 (xCt b s')) := ⟨_, rfl⟩
    have f4 : FN σ4 σ := by rw [e4]; exact ((f1.up (by decide)).up (by decide)).up (by decide)
    have rg := T.rng (hb s' sl)
    refine ⟨σ4, idx _ _ _ rfl T.1 rfl lt5 le5 _ (e_t (by rw [mw_id (by omega) (by omega), mw_id (by omega) (by omega)]; omega) (by rw [← e4])), f4, Or.inl ⟨⟨h0, by rw [f4.1 1 (by decide)]; exact h01⟩, ?_, ?_, ?_, ?_, Or.inr ⟨⟨sl, sg'⟩, ?_, ?_⟩⟩⟩
    · rw [e4, mup_ne (by decide), mup_ne (by decide), mup_ne (by decide), e1, mup_ne (by decide)]; exact h1
    · rw [e4, mup_ne (by decide), mup_ne (by decide), mup_ne (by decide), v6]
    · rcases lx with g | ⟨k, sb, g, g2⟩
      · exact Or.inl (g.fn f4)
      · exact Or.inr ⟨k, sb, g.fn f4, g2⟩
    · rw [e4, mup_ne (by decide), mup_at rfl rfl]
    · rw [f4.1 16 (by decide), e4, mup_ne (by decide), mup_ne (by decide), mup_at rfl rfl]
    · rw [f4.1 18 (by decide), e4, mup_at rfl rfl]
  have cle := (xCt_le (b := b) (j := 0) (k := l) (by omega)).2
  rcases h3 with g | ⟨k, sb, g⟩
  · by_cases cs : s' = l
    · -- the end
      obtain ⟨σ4, e4⟩ : ∃ y, y = mup (mup (mup σ1 14 7 0) 14 8 (l : Int)) 14 9 0 := ⟨_, rfl⟩
      have f4 : FN σ4 σ := by rw [e4]; exact ((f1.up (by decide)).up (by decide)).up (by decide)
      refine ⟨σ4, head _ ?_, f4, Or.inl ⟨⟨h0, by rw [f4.1 1 (by decide)]; exact h01⟩, ?_, ?_, Or.inl (g.fn f4), ?_, Or.inl ⟨cs, ?_, ?_⟩⟩⟩
      · rw [f1.2 5 (by decide), g.1, v6, cs]
        refine e_f (by rw [mw_id (by omega) (by omega)]; omega) (e_t (Int.le_refl _) ?_)
        unfold g_X8_next_b48
        refine e_mem (e_mem (e_mem ?_))
        rw [mup_off (o := 14) (q := 1) (by decide), f1.1 1 (by decide), h01, ← e4]
      · rw [e4, mup_ne (by decide), mup_ne (by decide), mup_ne (by decide), e1, mup_ne (by decide)]; exact h1
      · rw [e4, mup_ne (by decide), mup_ne (by decide), mup_ne (by decide), v6]
      · rw [e4, mup_ne (by decide), mup_at rfl rfl, cs]
      · rw [e4, mup_ne (by decide), mup_ne (by decide), mup_at rfl rfl]
      · rw [e4, mup_at rfl rfl]
    · have sg' : xSg b s' := by
        rcases hn2 with e | e
        · exact absurd e cs
        · exact e
      have sl : s' < l := by have := hn1; omega
      have lt := xCt_lt sl sg'
      exact good sl sg' (g.2 s' sl sg') (Or.inl g) (by rw [g.1]; omega) (by rw [g.1]; omega)
  · have sbl : sb < l := by have := g.1; omega
    have sle : s' ≤ sb := by
      by_cases c : s' ≤ sb
      · exact c
      · exact absurd g.1.1 (hn3 sb (by omega))
    have sg' : xSg b s' := by
      rcases hn2 with e | e
      · omega
      · exact e
    have csb := (xCt_le (b := b) (j := 0) (k := sb) (by omega)).2
    by_cases cs : s' = sb
    · subst cs
      have kl : k < l := g.1.2.2
      obtain ⟨q1, q2, q3⟩ := g.2.2.1
      obtain ⟨σ5, e5⟩ : ∃ y, y = mup (mup (mup (mup σ1 14 7 5) 14 8 (s' : Int)) 14 9 (k : Int)) 14 8 (k : Int) := ⟨_, rfl⟩
      have f5 : FN σ5 σ := by rw [e5]; exact (((f1.up (by decide)).up (by decide)).up (by decide)).up (by decide)
      have w8 : σ5 14 8 = (k : Int) := by rw [e5, mup_at rfl rfl]
      have w10 : σ5 14 10 = 0 := by rw [e5, mup_ne (by decide), mup_ne (by decide), mup_ne (by decide), mup_ne (by decide), e1, mup_ne (by decide)]; exact h1
      obtain ⟨σ7, e7⟩ : ∃ y, y = mup (mup (mup (mup σ5 14 10 1) 14 11 (k : Int)) 14 7 0) 14 9 0 := ⟨_, rfl⟩
      have f7 : FN σ7 σ := by rw [e7]; exact (((f5.up (by decide)).up (by decide)).up (by decide)).up (by decide)
      refine ⟨σ7, idx _ _ _ q1 q2 q3 (by rw [g.2.1]; omega) (by rw [g.2.1]; omega) _ (e_f (fun e => e rfl) ?_), f7, Or.inr ⟨k, ⟨g.1.2.2, sbl, g.2.2.2.2⟩, by omega, ?_, ?_, ?_, ?_⟩⟩
      · rw [← e5]
        refine e_mob (r := 0) ?_ rfl
        unfold g_X8_refuseHere g_X8_refuseHere_b20
        rw [w10]
        refine e_f (fun e => e rfl) (e_mem (e_mem ?_))
        rw [mup_ne (o := 14) (j := 8) (by decide), w8]
        refine e_mem (e_mem ?_)
        rw [← e7]
      · rw [e7, mup_ne (by decide), mup_ne (by decide), mup_ne (by decide), mup_at rfl rfl]
      · rw [e7, mup_ne (by decide), mup_ne (by decide), mup_at rfl rfl]
      · rw [e7, mup_ne (by decide), mup_at rfl rfl]
      · rw [e7, mup_at rfl rfl]
    · have lt := xCt_lt (show s' < sb by omega) sg'
      exact good (by omega) sg' (g.2.2.2.1 s' (by omega) sg') (Or.inr ⟨k, sb, g, by omega⟩) (by rw [g.2.1]; omega) (by rw [g.2.1]; omega)

/-- the plan is cleared -/
theorem c_clear {F p : Nat} {σ : mMem} (hF : 2000 ≤ F) (hp : p = 3 ∨ p = 8) : ∃ σ', g_X5_clear F p σ = some (0, σ') ∧ (∀ q, ¬ (p ≤ q ∧ q ≤ p + 3) → σ' q = σ q) ∧ (∀ j, j < 81 → σ' (p + 1) j = 0) ∧ (∀ j, j < 60 → σ' (p + 3) j = 0) ∧ ((σ' p 4 = 0 ∧ σ' p 5 = 0 ∧ σ' p 6 = 0 ∧ σ' p 7 = 0 ∧ σ' p 8 = 0) ∧ σ' p 11 = 0 ∧ σ' p 12 = 500 ∧ σ' p 13 = 0 ∧ σ' p 14 = 0) := by
  obtain ⟨σ1, a1, a2, a3⟩ := zc_fill (F := F) (a := p + 1) (v := 0) (L := 81) (σ := σ) hF (by decide)
  obtain ⟨σ2, b1, b2, b3⟩ := zc_fill (F := F) (a := p + 2) (v := 0) (L := 6) (σ := σ1) hF (by decide)
  obtain ⟨σ3, c1, c2, c3⟩ := zc_fill (F := F) (a := p + 3) (v := 0) (L := 60) (σ := σ2) hF (by decide)
  obtain ⟨σ', e⟩ : ∃ y, y = mup (mup (mup (mup (mup (mup (mup (mup (mup (mup (mup σ3 p 4 0) p 5 0) p 6 0) p 7 0) p 8 0) p 9 0) p 10 0) p 11 0) p 12 500) p 13 0) p 14 0 := ⟨_, rfl⟩
  have o : ∀ q, q ≠ p → σ' q = σ3 q := fun q hq => by rw [e, mup_off hq, mup_off hq, mup_off hq, mup_off hq, mup_off hq, mup_off hq, mup_off hq, mup_off hq, mup_off hq, mup_off hq, mup_off hq]
  refine ⟨σ', ?_, fun q hq => ?_, fun j hj => ?_, fun j hj => ?_, ⟨?_, ?_, ?_, ?_, ?_⟩, ?_, ?_, ?_, ?_⟩
  · unfold g_X5_clear
    refine e_mob a1 (e_mob b1 (e_mob c1 ?_))
    rw [e]
    rfl
  · rw [o q (by omega), c2 q (by omega), b2 q (by omega), a2 q (by omega)]
  · rw [o (p + 1) (by omega), c2 (p + 1) (by omega), b2 (p + 1) (by omega)]; exact a3 j hj
  · rw [o (p + 3) (by omega)]; exact c3 j hj
  · rw [e, mup_ne (by omega), mup_ne (by omega), mup_ne (by omega), mup_ne (by omega), mup_ne (by omega), mup_ne (by omega), mup_ne (by omega), mup_ne (by omega), mup_ne (by omega), mup_ne (by omega), mup_at rfl rfl]
  · rw [e, mup_ne (by omega), mup_ne (by omega), mup_ne (by omega), mup_ne (by omega), mup_ne (by omega), mup_ne (by omega), mup_ne (by omega), mup_ne (by omega), mup_ne (by omega), mup_at rfl rfl]
  · rw [e, mup_ne (by omega), mup_ne (by omega), mup_ne (by omega), mup_ne (by omega), mup_ne (by omega), mup_ne (by omega), mup_ne (by omega), mup_ne (by omega), mup_at rfl rfl]
  · rw [e, mup_ne (by omega), mup_ne (by omega), mup_ne (by omega), mup_ne (by omega), mup_ne (by omega), mup_ne (by omega), mup_ne (by omega), mup_at rfl rfl]
  · rw [e, mup_ne (by omega), mup_ne (by omega), mup_ne (by omega), mup_ne (by omega), mup_ne (by omega), mup_ne (by omega), mup_at rfl rfl]
  · rw [e, mup_ne (by omega), mup_ne (by omega), mup_ne (by omega), mup_at rfl rfl]
  · rw [e, mup_ne (by omega), mup_ne (by omega), mup_at rfl rfl]
  · rw [e, mup_ne (by omega), mup_at rfl rfl]
  · rw [e, mup_at rfl rfl]
