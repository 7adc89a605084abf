/-! LAYER 2: kitchen, on to the next sign -/
def FN (σ' σ : mMem) : Prop := (∀ q, q ≠ 14 → σ' q = σ q) ∧ ∀ j, (j < 6 ∨ 11 < j) → σ' 14 j = σ 14 j
theorem FN.rfl' {σ : mMem} : FN σ σ := ⟨fun _ _ => rfl, fun _ _ => rfl⟩
theorem FN.tr {a b c : mMem} (h : FN a b) (g : FN b c) : FN a c := ⟨fun q hq => (h.1 q hq).trans (g.1 q hq), fun j hj => (h.2 j hj).trans (g.2 j hj)⟩
theorem FN.up {σ' σ : mMem} {j : Nat} {z : Int} (h : FN σ' σ) (hj : 6 ≤ j ∧ j ≤ 11) : FN (mup σ' 14 j z) σ := ⟨fun q hq => by rw [mup_off hq]; exact h.1 q hq, fun i hi => by rw [mup_ne (by omega)]; exact h.2 i hi⟩
theorem LexG.fn {σ σ' : mMem} {b : Nat → Int} {l : Nat} (h : LexG σ b l) (f : FN σ' σ) : LexG σ' b l := ⟨by rw [f.2 5 (by decide)]; exact h.1, fun s hs hg => (h.2 s hs hg).same (by rw [f.1 16 (by decide)]) (by rw [f.1 17 (by decide)]) (by rw [f.1 18 (by decide)])⟩
theorem LexB.fn {σ σ' : mMem} {b : Nat → Int} {l k s : Nat} (h : LexB σ b l k s) (f : FN σ' σ) : LexB σ' b l k s := ⟨h.1, by rw [f.2 5 (by decide)]; exact h.2.1, by rw [f.1 16 (by decide), f.1 17 (by decide), f.1 18 (by decide)]; exact h.2.2.1, fun s' hs hg => (h.2.2.2.1 s' hs hg).same (by rw [f.1 16 (by decide)]) (by rw [f.1 17 (by decide)]) (by rw [f.1 18 (by decide)]), h.2.2.2.2⟩
/-- a fault, and nothing more -/
def DdC (σ : mMem) (fk fp : Int) : Prop := (1 ≤ fk ∧ fk ≤ 6 ∧ 0 ≤ fp ∧ fp ≤ 2000) ∧ σ 14 10 = fk ∧ σ 14 11 = fp ∧ σ 14 7 = 0 ∧ σ 14 9 = 0
def DdR (τ : mMem) (fk fp : Int) : Prop := (τ 86 8 = fk ∧ τ 86 9 = fp) ∨ (τ 86 8 = 0 ∧ fk = 1 ∧ τ 86 12 = fp)
theorem TokM.rng {σ : mMem} {b : Nat → Int} {s i l : Nat} (h : TokM σ b s i l) (hb : 0 ≤ b s ∧ b s ≤ 255) : (0 ≤ σ 18 i ∧ σ 18 i ≤ 2000000000) ∧ 1 ≤ σ 16 i ∧ σ 16 i ≤ 4 := by
  obtain ⟨-, -, h3⟩ := h
  rcases h3 with ⟨-, -, h4, h5⟩ | ⟨n, n1, n2, -, h4⟩ | ⟨n, n1, n2, -, h4, h5⟩
  · rw [h4, h5]; omega
  · have := xPk_b n1.2.1 n2
    rcases h4 with ⟨-, k2, k3⟩ | ⟨k, k1, -, k3, k4⟩
    · rw [k2, k3]; omega
    · rw [k3, k4]; omega
  · have := xNu_b n1.2.1 n2
    rw [h4, h5]; omega
theorem c_next {F l s s' : Nat} {σ : mMem} {b : Nat → Int} (hb : ∀ j, j < l → 0 ≤ b j ∧ b j ≤ 255) (h : CTk σ b l s) (hs : s < l) (hn : Nx b l s s') : ∃ σ', g_X8_next F σ = some (0, σ') ∧ FN σ' σ ∧ (CTk σ' b l s' ∨ (∃ k : Nat, (k < l ∧ s' < l ∧ xWrg b k s') ∧ DdC σ' 1 (k : Int))) := by
  obtain ⟨⟨h0, h01⟩, h1, h2, h3, h4, h5⟩ := h
  have sg : xSg b s := by
    rcases h5 with ⟨e, -⟩ | ⟨⟨-, e⟩, -⟩
    · omega
    · exact e
  have ct := xCt_gap sg hn.1.1 hn.2.2
  have cl := (xCt_le (b := b) (j := 0) (k := s') (by omega)).2
  have z0 : xCt b 0 = 0 := rfl
  obtain ⟨σ1, e1⟩ : ∃ y, y = mup σ 14 6 (xCt b s' : Int) := ⟨_, rfl⟩
  have f1 : FN σ1 σ := by rw [e1]; exact FN.rfl'.up (by decide)
  have v6 : σ1 14 6 = (xCt b s' : Int) := by rw [e1, mup_at rfl rfl]
  have head : ∀ X, (if mw (σ1 14 6) < 0 then (g_X8_next_b48 F σ1) else (if mw (σ1 14 5) ≤ mw (σ1 14 6) then (g_X8_next_b48 F σ1) else (if mw (σ1 14 6) < mw 1600 then (if 0 ≤ mw (σ1 14 6) ∧ mw (σ1 14 6) < (1600 : Int) then mlm (mup σ1 14 7 (σ1 16 (mw (σ1 14 6)).toNat)) (fun σ2 => if 0 ≤ mw (σ2 14 6) ∧ mw (σ2 14 6) < (1600 : Int) then mlm (mup σ2 14 8 (σ2 17 (mw (σ2 14 6)).toNat)) (fun σ3 => if 0 ≤ mw (σ3 14 6) ∧ mw (σ3 14 6) < (1600 : Int) then mlm (mup σ3 14 9 (σ3 18 (mw (σ3 14 6)).toNat)) (fun σ4 => if ¬ mw (σ4 14 7) = mw 5 then (g_X8_next_b130 F σ4) else (mlm (mup σ4 14 8 (σ4 14 9)) (fun σ5 => mob (g_X8_refuseHere F 1 σ5) (fun r6 σ7 => g_X8_next_b130 F σ7)))) else none) else none) else none) else (g_X8_next_b48 F σ1)))) = X → g_X8_next F σ = X := by
    intro X hX
    unfold g_X8_next
    rw [h1, h2, show (xCt b s : Int) + 1 = (xCt b s' : Int) by omega]
    refine e_t (by decide) (e_mem ?_)
    rw [← e1]
    exact hX
  have idx : ∀ (K V S : Int), σ 16 (xCt b s') = K → σ 17 (xCt b s') = S → σ 18 (xCt b s') = V → (xCt b s' : Int) < σ 14 5 → σ 14 5 ≤ 1600 → ∀ X, (if ¬ mw K = mw 5 then (some (0, mup (mup (mup σ1 14 7 K) 14 8 S) 14 9 V)) else (mob (g_X8_refuseHere F 1 (mup (mup (mup (mup σ1 14 7 K) 14 8 S) 14 9 V) 14 8 V)) (fun r6 σ7 => some (0, σ7)))) = X → g_X8_next F σ = X := by
    intro K V S k1 k2 k3 k4 k5 X hX
    refine head X ?_
    unfold g_X8_next_b130
    have o16 : σ1 16 = σ 16 := f1.1 16 (by decide)
    have o17 : σ1 17 = σ 17 := f1.1 17 (by decide)
    have o18 : σ1 18 = σ 18 := f1.1 18 (by decide)
    rw [f1.2 5 (by decide), v6, mwN (i := xCt b s') (by omega), o16, k1]
    refine e_f (by rw [mw_id (by omega) (by omega)]; omega) (e_f (by rw [mw_id (by omega) (by omega), mw_id (by omega) (by omega)]; omega) (e_t (by rw [mw_id (by omega) (by omega), mw_id (by omega) (by omega)]; omega) (e_t (mwR (by omega) (by decide)) (e_mem ?_))))
    rw [mup_ne (o := 14) (by decide), v6, mwN (i := xCt b s') (by omega), mup_off (o := 14) (q := 17) (by decide), o17, k2]
    refine e_t (mwR (by omega) (by decide)) (e_mem ?_)
    rw [mup_ne (o := 14) (by decide), mup_ne (o := 14) (by decide), v6, mwN (i := xCt b s') (by omega), mup_off (o := 14) (q := 18) (by decide), mup_off (o := 14) (q := 18) (by decide), o18, k3]
    refine e_t (mwR (by omega) (by decide)) (e_mem ?_)
    rw [mup_ne (o := 14) (j := 7) (k := 9) (by decide), mup_ne (o := 14) (j := 7) (k := 8) (by decide), mup_at (o := 14) (j := 7) rfl rfl, mup_at (o := 14) (j := 9) rfl rfl]
    exact hX
  -- a good sign at s'
  have good : s' < l → xSg b s' → TokM σ b s' (xCt b s') l → Lx σ b l s' → (xCt b s' : Int) < σ 14 5 → σ 14 5 ≤ 1600 → ∃ σ', g_X8_next F σ = some (0, σ') ∧ FN σ' σ ∧ (CTk σ' b l s' ∨ (∃ k : Nat, (k < l ∧ s' < l ∧ xWrg b k s') ∧ DdC σ' 1 (k : Int))) := by
    intro sl sg' T lx lt5 le5
    obtain ⟨σ4, e4⟩ : ∃ y, y = mup (mup (mup σ1 14 7 (σ 16 (xCt b s'))) 14 8 (s' : Int)) 14 9 (σ 18 (xCt b s')) := ⟨_, rfl⟩
    have f4 : FN σ4 σ := by rw [e4]; exact ((f1.up (by decide)).up (by decide)).up (by decide)
    have rg := T.rng (hb s' sl)
    refine ⟨σ4, idx _ _ _ rfl T.1 rfl lt5 le5 _ (e_t (by rw [mw_id (by omega) (by omega), mw_id (by omega) (by omega)]; omega) (by rw [← e4])), f4, Or.inl ⟨⟨h0, by rw [f4.1 1 (by decide)]; exact h01⟩, ?_, ?_, ?_, ?_, Or.inr ⟨⟨sl, sg'⟩, ?_, ?_⟩⟩⟩
    · rw [e4, mup_ne (by decide), mup_ne (by decide), mup_ne (by decide), e1, mup_ne (by decide)]; exact h1
    · rw [e4, mup_ne (by decide), mup_ne (by decide), mup_ne (by decide), v6]
    · rcases lx with g | ⟨k, sb, g, g2⟩
      · exact Or.inl (g.fn f4)
      · exact Or.inr ⟨k, sb, g.fn f4, g2⟩
    · rw [e4, mup_ne (by decide), mup_at rfl rfl]
    · rw [f4.1 16 (by decide), e4, mup_ne (by decide), mup_ne (by decide), mup_at rfl rfl]
    · rw [f4.1 18 (by decide), e4, mup_at rfl rfl]
  have cle := (xCt_le (b := b) (j := 0) (k := l) (by omega)).2
  rcases h3 with g | ⟨k, sb, g, g2⟩
  · by_cases cs : s' = l
    · -- the end
      obtain ⟨σ4, e4⟩ : ∃ y, y = mup (mup (mup σ1 14 7 0) 14 8 (l : Int)) 14 9 0 := ⟨_, rfl⟩
      have f4 : FN σ4 σ := by rw [e4]; exact ((f1.up (by decide)).up (by decide)).up (by decide)
      refine ⟨σ4, head _ ?_, f4, Or.inl ⟨⟨h0, by rw [f4.1 1 (by decide)]; exact h01⟩, ?_, ?_, Or.inl (g.fn f4), ?_, Or.inl ⟨cs, ?_, ?_⟩⟩⟩
      · rw [f1.2 5 (by decide), g.1, v6, cs]
        refine e_f (by rw [mw_id (by omega) (by omega)]; omega) (e_t (Int.le_refl _) ?_)
        unfold g_X8_next_b48
        refine e_mem (e_mem (e_mem ?_))
        rw [mup_off (o := 14) (q := 1) (by decide), f1.1 1 (by decide), h01, ← e4]
      · rw [e4, mup_ne (by decide), mup_ne (by decide), mup_ne (by decide), e1, mup_ne (by decide)]; exact h1
      · rw [e4, mup_ne (by decide), mup_ne (by decide), mup_ne (by decide), v6]
      · rw [e4, mup_ne (by decide), mup_at rfl rfl, cs]
      · rw [e4, mup_ne (by decide), mup_ne (by decide), mup_at rfl rfl]
      · rw [e4, mup_at rfl rfl]
    · have sg' : xSg b s' := by
        rcases hn.2.1 with e | e
        · exact absurd e cs
        · exact e
      have sl : s' < l := by have := hn.1.2; omega
      have lt := xCt_lt sl sg'
      exact good sl sg' (g.2 s' sl sg') (Or.inl g) (by rw [g.1]; omega) (by rw [g.1]; omega)
  · have sbl : sb < l := by have := g.1; omega
    have sle : s' ≤ sb := by
      by_cases c : s' ≤ sb
      · exact c
      · exact absurd g.1.1 (hn.2.2 sb g2 (by omega))
    have sg' : xSg b s' := by
      rcases hn.2.1 with e | e
      · omega
      · exact e
    have csb := (xCt_le (b := b) (j := 0) (k := sb) (by omega)).2
    by_cases cs : s' = sb
    · subst cs
      have kl : k < l := g.1.2.2
      obtain ⟨q1, q2, q3⟩ := g.2.2.1
      obtain ⟨σ5, e5⟩ : ∃ y, y = mup (mup (mup (mup σ1 14 7 5) 14 8 (s' : Int)) 14 9 (k : Int)) 14 8 (k : Int) := ⟨_, rfl⟩
      have f5 : FN σ5 σ := by rw [e5]; exact (((f1.up (by decide)).up (by decide)).up (by decide)).up (by decide)
      have w8 : σ5 14 8 = (k : Int) := by rw [e5, mup_at rfl rfl]
      have w10 : σ5 14 10 = 0 := by rw [e5, mup_ne (by decide), mup_ne (by decide), mup_ne (by decide), mup_ne (by decide), e1, mup_ne (by decide)]; exact h1
      obtain ⟨σ7, e7⟩ : ∃ y, y = mup (mup (mup (mup σ5 14 10 1) 14 11 (k : Int)) 14 7 0) 14 9 0 := ⟨_, rfl⟩
      have f7 : FN σ7 σ := by rw [e7]; exact (((f5.up (by decide)).up (by decide)).up (by decide)).up (by decide)
      refine ⟨σ7, idx _ _ _ q1 q2 q3 (by rw [g.2.1]; omega) (by rw [g.2.1]; omega) _ (e_f (fun e => e rfl) ?_), f7, Or.inr ⟨k, ⟨g.1.2.2, sbl, g.2.2.2.2⟩, by omega, ?_, ?_, ?_, ?_⟩⟩
      · rw [← e5]
        refine e_mob (r := 0) ?_ rfl
        unfold g_X8_refuseHere g_X8_refuseHere_b20
        rw [w10]
        refine e_f (fun e => e rfl) (e_mem (e_mem ?_))
        rw [mup_ne (o := 14) (j := 8) (by decide), w8]
        refine e_mem (e_mem ?_)
        rw [← e7]
      · rw [e7, mup_ne (by decide), mup_ne (by decide), mup_ne (by decide), mup_at rfl rfl]
      · rw [e7, mup_ne (by decide), mup_ne (by decide), mup_at rfl rfl]
      · rw [e7, mup_ne (by decide), mup_at rfl rfl]
      · rw [e7, mup_at rfl rfl]
    · have lt := xCt_lt (show s' < sb by omega) sg'
      exact good (by omega) sg' (g.2.2.2.1 s' (by omega) sg') (Or.inr ⟨k, sb, g, by omega⟩) (by rw [g.2.1]; omega) (by rw [g.2.1]; omega)
