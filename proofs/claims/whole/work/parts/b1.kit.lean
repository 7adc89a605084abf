/-! LAYER 2: kitchen: a whole text -/
def St0 (τ : mMem) (b : Nat → Int) (l i : Nat) : Prop := RTx τ b l ∧ (τ 86 5 = 0 ∧ τ 86 8 = 0 ∧ τ 86 9 = -1 ∧ τ 86 29 = 0 ∧ τ 86 30 = (i : Int)) ∧ τ 91 i = 0 ∧ (τ 97 (3 * i) = 500 ∧ τ 97 (3 * i + 1) = 0 ∧ τ 97 (3 * i + 2) = 0) ∧ τ 98 (2 * i) = -1 ∧ τ 98 (2 * i + 1) = -1
def kRun (F : Nat) (τ : mMem) : mRs := mob (g_X12_ahead F τ) (fun _ σ14 => mob (g_X12_begins F σ14) (fun _ σ16 => mob (g_X12_finishes F 1 σ16) (fun _ σ18 => g_X12_kitchen_h102 F F 1 σ18)))
def EndK (σ τ σ' τ' : mMem) (b : Nat → Int) (l p i : Nat) (r M : Int) : Prop := (∀ q, q ≠ 13 → ¬ (14 ≤ q ∧ q ≤ 19 ∧ q ≠ 15) → ¬ (p ≤ q ∧ q ≤ p + 4) → σ' q = σ q) ∧ (FPr τ' τ ∧ BF τ' τ i) ∧ RTx τ' b l ∧ ((CTk σ' b l l ∧ PlK σ' τ' p i ∧ τ' 86 8 = 0 ∧ τ' 86 9 = -1 ∧ σ' 14 11 = -1 ∧ r = M) ∨ ∃ fk fp, DdC σ' fk fp ∧ τ' 86 8 = fk ∧ τ' 86 9 = fp)
theorem FA.pr {τ' τ : mMem} {i : Nat} (h : FA τ' τ) : FPr τ' τ ∧ BF τ' τ i := ⟨⟨fun q hq => h.1 q (by omega), fun j hj => h.2 j (by omega) (by omega) (by omega) (by omega) (by omega) (by omega)⟩, BF.of (fun q q1 _ => h.1 q (by omega))⟩
theorem j_kit {F l p i : Nat} {σ τ : mMem} {b : Nat → Int} (hF : 2000 ≤ F) (hp : p = 3 ∨ p = 8) (hi : i = 0 ∨ i = 1) (h1 : σ 1 1 = (l : Int)) (h2 : σ 2 = b) (hO : Own σ) (st : St0 τ b l i) : ∃ r σ' τ' M, g_X6_readInto F p σ = some (r, σ') ∧ kRun F τ = g_X12_kitchen_b131 F M τ' ∧ EndK σ τ σ' τ' b l p i r M := by
  obtain ⟨rtx, ⟨t5, t8, t9, t29, t30⟩, t91, ⟨t97a, t97b, t97c⟩, t98a, t98b⟩ := st
  have hl := rtx.1
  have hb : ∀ j, j < l → 0 ≤ b j ∧ b j ≤ 255 := fun j hj => (rtx.2.2 j hj).2
  have tn : ((p : Int)).toNat = p := by omega
  -- the class
  obtain ⟨σa, ea⟩ : ∃ y, y = mup σ 13 2 (p : Int) := ⟨_, rfl⟩
  have a13 : σa 13 2 = (p : Int) := by rw [ea, mup_at rfl rfl]
  have ao : ∀ q, q ≠ 13 → σa q = σ q := fun q hq => by rw [ea, mup_off hq]
  obtain ⟨σb, b1, b2, b3, b4, ⟨⟨b54, b55, b56, b57, b58⟩, b511, b512, b513, b514⟩⟩ := c_clear (F := F) (σ := σa) hF hp
  have bO : Own σb := fun k hk => by rw [b2 15 (by omega), ao 15 (by decide)]; exact hO k hk
  obtain ⟨σ3, c1, c2, c3, c4, c5, c6⟩ := c_open (F := F) (σ := σb) (l := l) (b := b) hF hl (by rw [b2 1 (by omega), ao 1 (by decide)]; exact h1) (by rw [b2 2 (by omega), ao 2 (by decide)]; exact h2) hb bO
  -- the reference
  obtain ⟨s0, τ1, d1, d2, d3, d4, d5⟩ := r_ahead (F := F) (e := 0) (l := l) (τ := τ) (b := b) hF hl (by omega) rtx.2.1 t5 rtx.2.2
  have sg0 : s0 = l ∨ xSg b s0 := by
    rcases d5 with ⟨q, -⟩ | ⟨⟨q1, q2, -⟩, -⟩
    · exact Or.inl q
    · refine Or.inr ⟨q2, fun q => ?_, fun q => ?_⟩
      · have := d4 (s0 - 1) (by omega) (by omega)
        have := q.2.2
        omega
      · have := d4 (s0 - 1) (by omega) (by omega)
        have := q.2.2
        omega
  have no0 : ∀ j, j < s0 → ¬ xSg b j := fun j hj q => q.1 (d4 j (by omega) hj)
  obtain ⟨σc, n1, n2, n3⟩ := c_next0 (F := F) (s' := s0) hb hl (by rw [c1 1 (by decide) (by decide) (by decide) (by decide), b2 1 (by omega), ao 1 (by decide)]; exact h1) c3 c5 c2 d3.2 sg0 no0
  have co : ∀ q, q ≠ 13 → ¬ (14 ≤ q ∧ q ≤ 19 ∧ q ≠ 15) → ¬ (p ≤ q ∧ q ≤ p + 4) → σc q = σ q := fun q q1 q2 q3 => by
    rw [n2.1 q (by omega), c1 q (by omega) (by omega) (by omega) (by omega), b2 q (by omega), ao q q1]
  have cb : ∀ q, (q = 13 ∨ (p ≤ q ∧ q ≤ p + 4)) → σc q = σb q := fun q hq => by
    rw [n2.1 q (by omega), c1 q (by omega) (by omega) (by omega) (by omega)]
  have e8 : τ1 86 8 = 0 := by rw [d2.fkr.1]; exact t8
  have hm : Mt σc τ1 b l := by
    refine ⟨rtx.fa d2, ?_⟩
    rcases n3 with c | ⟨k, ⟨k1, k2, k3⟩, d⟩
    · exact Or.inl ⟨s0, c, d5, e8⟩
    · exact Or.inr ⟨1, (k : Int), d, Or.inr ⟨e8, rfl, d5.bad k2 k1 k3⟩⟩
  have u29 : τ1 86 29 = 0 := by rw [d2.2 29 (by decide) (by decide) (by decide) (by decide) (by decide) (by decide)]; exact t29
  have hz : PlZ σc τ1 p i := by
    refine ⟨⟨hp, hi, by rw [cb 13 (Or.inl rfl), b2 13 (by omega)]; exact a13, by rw [d2.2 30 (by decide) (by decide) (by decide) (by decide) (by decide) (by decide)]; exact t30⟩, fun j hj => by rw [cb (p + 1) (by omega)]; exact b3 j hj, by rw [cb p (by omega)]; exact b511, ⟨⟨?_, ?_, ?_⟩, fun k hk => ?_, fun k f _ hk hf => ?_⟩, ⟨⟨?_, ?_, ?_⟩, ⟨?_, ?_, ?_⟩, ?_, ?_, ?_⟩, ⟨⟨?_, ?_, ?_⟩, fun j hj => ?_, Or.inl ⟨?_, ?_, ?_⟩, Or.inl ⟨?_, ?_, ?_⟩⟩⟩
    · rw [cb p (by omega), b511, d2.1 91 (by decide)]; exact t91.symm
    · rw [cb p (by omega), b511]; decide
    · rw [cb p (by omega), b511]; decide
    · rw [cb p (by omega), b511] at hk; omega
    · rw [cb (p + 3) (by omega)]; exact b4 _ (by omega)
    · rw [cb p (by omega), b512, d2.1 97 (by decide)]; exact t97a
    · rw [cb p (by omega), b512]; decide
    · rw [cb p (by omega), b512]; decide
    · rw [cb p (by omega), b513, d2.1 97 (by decide)]; exact t97b
    · rw [cb p (by omega), b513]; decide
    · rw [cb p (by omega), b513]; decide
    · rw [cb p (by omega), b514, d2.1 97 (by decide)]; exact t97c
    · rw [cb p (by omega), b514]; decide
    · rw [cb p (by omega), b514]; decide
    · rw [cb p (by omega), b54]; exact u29
    · rw [cb p (by omega), b54]; decide
    · rw [cb p (by omega), b54]; decide
    · rw [cb p (by omega), b54] at hj; omega
    · rw [cb p (by omega)]; exact b55
    · rw [cb p (by omega)]; exact b56
    · rw [d2.1 98 (by decide)]; exact t98a
    · rw [cb p (by omega)]; exact b57
    · rw [cb p (by omega)]; exact b58
    · rw [d2.1 98 (by decide)]; exact t98b
  obtain ⟨σ1, τ2, x1, x2, x3⟩ := j_first (F := F) hF hb hm hz
  obtain ⟨σ2, τ3, y1, y2, y3⟩ := j_fin (F := F) (N := 1) hF hb x3.2.2.1 (by decide)
  have sk : Sk σc τ1 σ1 τ2 b l p i := ⟨x3, fun s' c' => by
    have k := (x3.2.2.2 ⟨s', c'⟩).2.2.2.2.1.1
    have k2 := f_X12_begins x2 86 29 (by unfold T_X12_begins; decide)
    omega⟩
  have kc : KI true σ2 := k_fin y1 (k_X6_readStatement x1 (k_X8_next n1 ⟨fun _ _ => c4, fun q => by cases q⟩))
  have kr0 : KI false τ1 := ⟨fun q => (by cases q), fun _ _ => by rw [d2.2 9 (by decide) (by decide) (by decide) (by decide) (by decide) (by decide)]; exact t9⟩
  have kr : KI false τ3 := k_X12_finishes y2 (k_X12_begins x2 kr0)
  obtain ⟨bt, w1, w2, w3⟩ := Bt.step (F := F) hp sk y3 y1 kc kr
  obtain ⟨n', eF⟩ : ∃ n', F = n' + 1 := ⟨F - 1, by omega⟩
  obtain ⟨r, σ', τ', M, z1, z2, z3⟩ := j_loop (F := F) (p := p) (i := i) hF hb 79 1 n' F σ2 τ3 (by decide) (by decide) (by omega) (by omega) bt
  refine ⟨r, σ', τ', M, ?_, ?_, fun q q1 q2 q3 => ?_, ⟨(z3.2.1.1.tr w2).tr (d2.pr (i := i)).1, BF.tr (BF.tr z3.2.1.2 w3) (d2.pr (i := i)).2⟩, z3.2.2⟩
  · unfold g_X6_readInto
    refine e_mem ?_
    rw [← ea, a13, tn]
    refine e_t (by omega) (e_mob b1 (e_mob (c6 _ (e_mob n1 rfl)) ?_))
    have h21 : ∀ n, g_X6_readInto_h21 F p (n + 1) 0 σc = g_X6_readInto_b31 F p (g_X6_readInto_h21 F p n) 0 1 σc := fun n => by
      conv => lhs; unfold g_X6_readInto_h21
      exact e_f (fun q => q (by decide)) rfl
    have run := c_b31 (F := F) (p := p) (k21 := g_X6_readInto_h21 F p n') (x := 0) x1 (show cFin F (0 + 1) σ1 = some (0, σ2) from y1) (show ctail F p (g_X6_readInto_h21 F p n') (0 + 1) σ2 = some (r, σ') from z1)
    rw [← h21 n', ← eF] at run
    exact run
  · unfold kRun
    exact e_mob d1 (e_mob x2 (e_mob y2 z2))
  · rw [z3.1 q (by omega) (by omega) q3, w1 q (by omega) (by omega) q3]
    exact co q q1 q2 q3
