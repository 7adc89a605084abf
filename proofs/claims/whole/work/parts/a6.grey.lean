/-! LAYER 2: kitchen, greys -/
theorem FlK.cg {σ σ' τ τ' : mMem} {p i : Nat} (h : FlK σ τ p i) (a9 : σ' p 9 = σ p 9) (a10 : σ' p 10 = σ p 10) (a1 : σ' (p + 1) = σ (p + 1)) (t : ∀ q, 88 ≤ q → q ≤ 90 → τ' q = τ q) : FlK σ' τ' p i := by
  unfold FlK at *
  rw [a9, a10, a1, t 88 (by decide) (by decide), t 89 (by decide) (by decide), t 90 (by decide) (by decide)]
  exact h
theorem BsK.cg {σ σ' τ τ' : mMem} {p i : Nat} (h : BsK σ τ p i) (a9 : σ' p 9 = σ p 9) (a10 : σ' p 10 = σ p 10) (a11 : σ' p 11 = σ p 11) (a2 : σ' (p + 2) = σ (p + 2)) (a3 : σ' (p + 3) = σ (p + 3)) (t : ∀ q, (91 ≤ q ∧ q ≤ 96) ∨ q = 102 → τ' q = τ q) : BsK σ' τ' p i := by
  unfold BsK BxK at *
  rw [a9, a10, a11, a2, a3, t 91 (by decide), t 92 (by decide), t 93 (by decide), t 94 (by decide), t 95 (by decide), t 96 (by decide), t 102 (by decide)]
  exact h
theorem TdK.cg {σ σ' τ τ' : mMem} {p i : Nat} (h : TdK σ τ p i) (a : ∀ j, 12 ≤ j → j ≤ 14 → σ' p j = σ p j) (t : τ' 97 = τ 97) : TdK σ' τ' p i := by
  unfold TdK at *
  rw [a 12 (by decide) (by decide), a 13 (by decide) (by decide), a 14 (by decide) (by decide), t]
  exact h
theorem CdK.cg {σ σ' τ τ' : mMem} {p i : Nat} (h : CdK σ τ p i) (a : ∀ j, 4 ≤ j → j ≤ 8 → σ' p j = σ p j) (a4 : σ' (p + 4) = σ (p + 4)) (t9 : τ' 86 29 = τ 86 29) (t : ∀ q, 98 ≤ q → q ≤ 101 → τ' q = τ q) : CdK σ' τ' p i := by
  unfold CdK FoK at *
  rw [a 4 (by decide) (by decide), a 5 (by decide) (by decide), a (5 + 1) (by decide) (by decide), a 7 (by decide) (by decide), a (7 + 1) (by decide) (by decide), a4, t9, t 98 (by decide) (by decide), t 99 (by decide) (by decide), t 100 (by decide) (by decide), t 101 (by decide) (by decide)]
  exact h
/-- what a statement leaves -/
def Sj (σ τ σ' τ' : mMem) (b : Nat → Int) (l p i : Nat) : Prop := FPc σ' σ p ∧ (FPr τ' τ ∧ BF τ' τ i) ∧ Mt σ' τ' b l ∧ ((∃ s, CTk σ' b l s) → PlK σ' τ' p i)
theorem Mt.e8 {σ τ : mMem} {b : Nat → Int} {l : Nat} (h : Mt σ τ b l) (n : ¬ τ 86 8 = 0) : (1 ≤ τ 86 8 ∧ τ 86 8 ≤ 6) ∧ ¬ ∃ s, CTk σ b l s := by
  rcases h.2 with ⟨s, c, -, e⟩ | ⟨fk, fp, d, r⟩
  · exact absurd e n
  · refine ⟨?_, fun ⟨s, c⟩ => c.nd d⟩
    have := d.1
    rcases r with ⟨r1, -⟩ | ⟨r1, -⟩
    · omega
    · exact absurd r1 n
theorem Mt.st {σ τ : mMem} {b : Nat → Int} {l : Nat} (h : Mt σ τ b l) : StC σ b l := by
  rcases h.2 with ⟨s, c, -⟩ | ⟨fk, fp, d, -⟩
  · exact Or.inl ⟨s, c⟩
  · exact Or.inr ⟨fk, fp, d⟩
theorem c_grey {F p : Nat} {σ : mMem} {x y v : Int} (h9 : 2 ≤ σ p 9 ∧ σ p 9 ≤ 9) (h10 : 2 ≤ σ p 10 ∧ σ p 10 ≤ 9) (hx : 0 ≤ x ∧ x < σ p 9) (hy : 0 ≤ y ∧ y < σ p 10) : g_X5_setGrey F p x y v σ = some (0, mup σ (p + 1) (9 * y + x).toNat v) := by
  unfold g_X5_setGrey g_X5_setGrey_b35
  refine e_let (e_mob (z_hasCelli (by unfold i32; omega) (by unfold i32; omega) (by unfold i32; omega) (by unfold i32; omega)) ?_)
  rw [mb_t (by unfold sOn; omega), mw_id (z := y * 9 + x) (by omega) (by omega)]
  refine e_f (by decide) (e_f (by rw [show mw 81 = 81 by decide]; omega) (e_t (by omega) (e_mem ?_)))
  rw [show (y * 9 + x).toNat = (9 * y + x).toNat by omega]
theorem j_grey {F l p i s : Nat} {σ τ : mMem} {b : Nat → Int} (hF : 2000 ≤ F) (hb : ∀ j, j < l → 0 ≤ b j ∧ b j ≤ 255) (c : CTk σ b l s) (hs : s < l) (hm : Mt σ τ b l) (hk : PlK σ τ p i) : ∃ σ' τ', g_X6_readGrey F σ = some (0, σ') ∧ g_X12_greying F τ = some (0, τ') ∧ Sj σ τ σ' τ' b l p i := by
  obtain ⟨⟨hp, hi, h13, h30⟩, ⟨⟨w1, w2⟩, ⟨w3, w4⟩, w5⟩, w6, w7, w8⟩ := id hk
  obtain ⟨σ1, a1, a2, a3, a4⟩ := j_adv (F := F) hF hb c hs
  obtain ⟨τ1, y1, y2, y3, y4⟩ := r_cnt (F := F) c a4 τ hm
  obtain ⟨x, σ2, b1, b2, b3, b4, b5, b6⟩ := j_num (F := F) (x := 0) (y := σ p 9 - 1) hF hb (by decide) (by omega) a3
  obtain ⟨x', τ2, z1, z2, z3, z4⟩ := b6 τ1 (σ p 9 - 1) y3 (fun _ => rfl)
  obtain ⟨y, σ3, d1, d2, d3, d4, d5, d6⟩ := j_num (F := F) (x := 0) (y := σ p 10 - 1) hF hb (by decide) (by omega) b3
  obtain ⟨y', τ3, v1, v2, v3, v4⟩ := d6 τ2 (σ p 10 - 1) z3 (fun _ => rfl)
  obtain ⟨v, σ4, e1, e2, e3, e4, e5, e6⟩ := j_num (F := F) (x := 0) (y := 9) hF hb (by decide) (by decide) d3
  obtain ⟨v', τ4, u1, u2, u3, u4⟩ := e6 τ3 9 v3 (fun _ => rfl)
  have f1 : FN σ1 σ := a2
  have f2 : FN σ2 σ := b2.tr f1
  have f3 : FN σ3 σ := d2.tr f2
  have f4 : FN σ4 σ := e2.tr f3
  have g2 : FR τ2 τ := z2.tr y2
  have g3 : FR τ3 τ := v2.tr g2
  have g4 : FR τ4 τ := u2.tr g3
  have np : p ≠ 14 := by omega
  obtain ⟨σ5, e5'⟩ : ∃ q, q = mup σ4 (p + 1) (9 * y + x).toNat v := ⟨_, rfl⟩
  have o5 : ∀ q, q ≠ p + 1 → σ5 q = σ4 q := fun q hq => by rw [e5', mup_off hq]
  have keep : ∀ q, q = 1 ∨ (14 ≤ q ∧ q ≤ 18) → σ5 q = σ4 q := fun q hq => o5 q (by omega)
  have cls : g_X6_readGrey F σ = some (0, σ5) := by
    unfold g_X6_readGrey
    refine e_mob a1 ?_
    rw [show σ1 13 2 = (p : Int) by rw [f1.1 13 (by decide)]; exact h13, show ((p : Int)).toNat = p by omega, show σ1 p = σ p from f1.1 p np]
    refine e_t (by omega) (e_mob b1 ?_)
    rw [show σ2 13 2 = (p : Int) by rw [f2.1 13 (by decide)]; exact h13, show ((p : Int)).toNat = p by omega, show σ2 p = σ p from f2.1 p np]
    refine e_t (by omega) (e_mob d1 ?_)
    rw [show σ3 13 2 = (p : Int) by rw [f3.1 13 (by decide)]; exact h13, show ((p : Int)).toNat = p by omega]
    refine e_t (by omega) (e_mob e1 (e_mob (c_grey ?_ ?_ ?_ ?_) ?_))
    · rw [f4.1 p np]; exact w2
    · rw [f4.1 p np]; exact w4
    · rw [f4.1 p np]; omega
    · rw [f4.1 p np]; omega
    · rw [← e5']
  have i2 : ∀ ρ : mMem, FR ρ τ → (mw (ρ 86 30)).toNat = i ∧ (0 ≤ mw (ρ 86 30) ∧ mw (ρ 86 30) < 2) := fun ρ g => by
    rw [g.2 30 (by decide), h30]
    exact ⟨mwN (by omega), mwR (by omega) (by decide)⟩
  have head : ∀ X, (if ¬ mw (τ4 86 8) = 0 then (g_X12_greying_b78 F τ4) else (if 0 ≤ mw (((81 * (τ4 86 30)) + (9 * y')) + x') ∧ mw (((81 * (τ4 86 30)) + (9 * y')) + x') < (162 : Int) then mlm (mup τ4 90 (mw (((81 * (τ4 86 30)) + (9 * y')) + x')).toNat v') (fun σ9 => g_X12_greying_b78 F σ9) else none)) = X → g_X12_greying F τ = X := by
    intro X hX
    unfold g_X12_greying
    refine e_mob y1 (e_t (by decide) ?_)
    rw [(i2 τ1 y2).1, show τ1 88 = τ 88 from y2.1 88 (by decide), ← w1]
    refine e_t (i2 τ1 y2).2 (e_mob z1 ?_)
    rw [(i2 τ2 g2).1, show τ2 89 = τ 89 from g2.1 89 (by decide), ← w3]
    exact e_t (i2 τ2 g2).2 (e_mob v1 (e_mob u1 hX))
  by_cases c8 : τ4 86 8 = 0
  · obtain ⟨q1, q2, q3, -⟩ := u4 c8
    obtain ⟨q4, q5, q6, -⟩ := v4 q3
    obtain ⟨q7, q8, q9, -⟩ := z4 q6
    obtain ⟨τ5, e6'⟩ : ∃ q, q = mup τ4 90 (81 * i + (9 * y + x).toNat) v := ⟨_, rfl⟩
    have t5 : ∀ q, q ≠ 90 → τ5 q = τ4 q := fun q hq => by rw [e6', mup_off hq]
    refine ⟨σ5, τ5, cls, head _ ?_, ?_, ⟨?_, ?_⟩, u3.cg keep (t5 87 (by decide)) (fun j _ => by rw [t5 86 (by decide)]), fun _ => ?_⟩
    · rw [c8, show 81 * τ4 86 30 + 9 * y' + x' = ((81 * i + (9 * y + x).toNat : Nat) : Int) by rw [g4.2 30 (by decide), h30, q4, q7]; omega, mwN (by omega), q1, ← e6']
      exact e_f (fun e => e rfl) (e_t (mwR (by omega) (by decide)) (e_mem rfl))
    · rw [e5']; exact (f4.pc).up (by omega)
    · rw [e6']; exact (g4.pr).up (by decide)
    · rw [e6']; exact BF.up (o := 90) (x := (9 * y + x).toNat) g4.bf hi (show _ < 81 by omega)
    · obtain ⟨k1, k2, k3, k4, k5⟩ := hk.fn f4 g4
      refine ⟨⟨k1.1, k1.2.1, by rw [o5 13 (by omega)]; exact k1.2.2.1, by rw [t5 86 (by decide)]; exact k1.2.2.2⟩, ?_, k3.cg (by rw [o5 p (by omega)]) (by rw [o5 p (by omega)]) (by rw [o5 p (by omega)]) (o5 _ (by omega)) (o5 _ (by omega)) (fun q hq => t5 q (by omega)), k4.cg (fun j _ _ => by rw [o5 p (by omega)]) (t5 97 (by decide)), k5.cg (fun j _ _ => by rw [o5 p (by omega)]) (o5 _ (by omega)) (by rw [t5 86 (by decide)]) (fun q _ _ => t5 q (by omega))⟩
      obtain ⟨m1, m2, m3⟩ := k2
      refine ⟨by rw [o5 p (by omega), t5 88 (by decide)]; exact m1, by rw [o5 p (by omega), t5 89 (by decide)]; exact m2, fun j hj => ?_⟩
      by_cases ej : j = (9 * y + x).toNat
      · rw [e5', e6', mup_at rfl ej, mup_at rfl (by rw [ej])]
        exact ⟨rfl, q2⟩
      · rw [e5', e6', mup_ne (by omega), mup_ne (by omega)]
        exact m3 j hj
  · refine ⟨σ5, τ4, cls, head _ ?_, ?_, ⟨g4.pr, g4.bf⟩, u3.cg keep rfl (fun _ _ => rfl), fun lv => ?_⟩
    · exact e_t (by rw [mw_id (by have := (u3.e8 c8).1; omega) (by have := (u3.e8 c8).1; omega)]; exact c8) rfl
    · rw [e5']; exact (f4.pc).up (by omega)
    · exact absurd (CTk.of keep lv) (u3.e8 c8).2
