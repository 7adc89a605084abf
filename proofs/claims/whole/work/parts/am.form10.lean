/-! LAYER 2: kitchen, formulas: openings, FACT -/
theorem Adv.opErr {F l i D s : Nat} {σ1 τ τd : mMem} {b : Nat → Int} {R : mMem → Prop} {fk fp r : Int} (h41 : τ 86 41 = 0) (d : DdC σ1 fk fp) (g : g_X12_operand F τ = some (r, τd)) (hr : r = 0 ∨ r = 1) (fh : FH τd τ i D) (e8 : τd 86 8 = fk) (e9 : τd 86 9 = fp) : Adv F σ1 τ b l i D s R := by
  have dk := d.1
  refine Or.inr ⟨fk, fp, mup τd 86 41 r, d, fun n => ?_, fh.u86 (by decide), by rw [mup_ne (by decide)]; exact e8, by rw [mup_ne (by decide)]; exact e9⟩
  rw [show n + 3 = (n + 1) + 2 by omega]
  exact l_opd h41 g hr (by rw [e8]; omega)
theorem Go.back {p F l i D s s1 : Nat} {q : mRs} {σ τ : mMem} {b : Nat → Int} {Q : mMem → Nat → mMem → Prop} (h : Go p q σ F τ b l i D s1 Q) (e : xCt b s ≤ xCt b s1) : Go p q σ F τ b l i D s Q := by
  obtain ⟨σ', a1, a2, a3, a4⟩ := h
  refine ⟨σ', a1, a2, a3, ?_⟩
  rcases a4 with ⟨s', τ', b1, b2, b3, ⟨k, b4, b5⟩, b6, b7⟩ | ⟨fk, fp, τ', d1, ⟨k, d2, d3⟩, d4⟩
  · exact Or.inl ⟨s', τ', b1, b2, b3, ⟨k, by omega, b5⟩, b6, b7⟩
  · exact Or.inr ⟨fk, fp, τ', d1, ⟨k, by omega, d3⟩, d4⟩
theorem c_pass {F o : Nat} {σ σ1 : mMem} (ho : o < 7) (n : g_X8_next F σ = some (0, σ1)) : g_X1_passOpening F (o : Int) σ = some (1, σ1) := by
  unfold g_X1_passOpening
  exact e_t (by rw [mw_id (by omega) (by omega), show mw 7 = 7 by decide]; omega) (e_mob n (e_t (by decide) rfl))
theorem c_pass7 {F l s : Nat} {σ : mMem} {b : Nat → Int} (ct : CTk σ b l s) : ∃ σ1, g_X1_passOpening F ((7 : Nat) : Int) σ = some (0, σ1) ∧ FN σ1 σ ∧ DdC σ1 5 (s : Int) := by
  obtain ⟨σ1, a1, a2, a3⟩ := c_ref (F := F) (x := 5) ct (by decide) ct.le
  refine ⟨σ1, ?_, a2, a3⟩
  unfold g_X1_passOpening
  exact e_f (by decide) (e_mob a1 (e_t (by decide) rfl))
/-- a new frame -/
theorem r_push {F i D o : Nat} {τ : mMem} {k ph bg bse kd : Int} {S : List Int} (hf : Fr τ i D o k ph bg bse S) (hD : D ≤ 14) (hl : S.length ≤ 400) : ∃ τ', g_X12_pushes F kd τ = some (0, τ') ∧ Fr τ' i (D + 1) o kd 0 1 (S.length : Int) S ∧ FH τ' τ i (D + 1) ∧ FK τ' τ ∧ (τ' 86 29 = τ 86 29 ∧ τ' 100 = τ 100 ∧ τ' 101 = τ 101) := by
  obtain ⟨⟨f1, f2, f3, f4⟩, f5, f9⟩ := hf
  have f1' : τ 86 37 = ((D + 1 : Nat) : Int) := by rw [f1]; omega
  have hD1 : D + 1 ≤ 15 := by omega
  have mD : (mw ((D + 1 : Nat) : Int)).toNat = D + 1 := (mwD hD1).1
  have rD : 0 ≤ mw ((D + 1 : Nat) : Int) ∧ mw ((D + 1 : Nat) : Int) < 20 := (mwD hD1).2
  obtain ⟨τ', e'⟩ : ∃ y, y = mup (mup (mup (mup (mup τ 103 (D + 1) kd) 104 (D + 1) 0) 105 (D + 1) 1) 107 (D + 1) (S.length : Int)) 86 37 (((D + 1 : Nat) : Int) + 1) := ⟨_, rfl⟩
  have o' : ∀ q, q ≠ 86 → q ≠ 103 → q ≠ 104 → q ≠ 105 → q ≠ 107 → τ' q = τ q := fun q q1 q2 q3 q4 q5 => by rw [e', mup_off q1, mup_off q5, mup_off q4, mup_off q3, mup_off q2]
  have s' : ∀ j, j ≠ 37 → τ' 86 j = τ 86 j := fun j hj => by rw [e', mup_ne (by omega), mup_off (by decide), mup_off (by decide), mup_off (by decide), mup_off (by decide)]
  refine ⟨τ', ?_, ⟨⟨by rw [e', mup_at rfl rfl], by rw [s' 38 (by decide)]; exact f2, by rw [s' 40 (by decide)]; exact f3, by rw [s' 30 (by decide)]; exact f4⟩, ⟨?_, ?_, ?_, ?_⟩, ?_⟩, ?_, fun j hj => s' j (by omega), s' 29 (by decide), o' 100 (by decide) (by decide) (by decide) (by decide) (by decide), o' 101 (by decide) (by decide) (by decide) (by decide) (by decide)⟩
  · unfold g_X12_pushes
    rw [f1', mD]
    refine e_t rD (e_mem ?_)
    rw [mup_off (o := 103) (q := 86) (by decide), f1', mD]
    refine e_t rD (e_mem ?_)
    rw [mup_off (o := 104) (q := 86) (by decide), mup_off (o := 103) (q := 86) (by decide), f1', mD]
    refine e_t ⟨rD.1, rD.2, by decide⟩ (e_mem ?_)
    rw [mup_off (o := 105) (q := 86) (by decide), mup_off (o := 104) (q := 86) (by decide), mup_off (o := 103) (q := 86) (by decide), f1', mD, f3]
    refine e_t rD (e_mem (e_mem ?_))
    rw [mup_off (o := 107) (q := 86) (by decide), mup_off (o := 105) (q := 86) (by decide), mup_off (o := 104) (q := 86) (by decide), mup_off (o := 103) (q := 86) (by decide), f1', ← e']
  · rw [e', mup_off (by decide), mup_off (by decide), mup_off (by decide), mup_off (by decide), mup_at rfl rfl]
  · rw [e', mup_off (by decide), mup_off (by decide), mup_off (by decide), mup_at rfl rfl]
  · rw [e', mup_off (by decide), mup_off (by decide), mup_at rfl rfl]
  · rw [e', mup_off (by decide), mup_at rfl rfl]
  · rw [o' 108 (by decide) (by decide) (by decide) (by decide) (by decide)]; exact f9
  · rw [e']
    exact ((((FH.rfl'.urow (q := 103) (by decide) (Or.inl (Nat.le_refl _))).urow (q := 104) (by decide) (Or.inl (Nat.le_refl _))).urow (q := 105) (by decide) (Or.inl (Nat.le_refl _))).urow (q := 107) (by decide) (Or.inl (Nat.le_refl _))).u86 (by decide)
theorem r_open {F l p i D o : Nat} {σ σ1 τ : mMem} {b : Nat → Int} {k ph bg bse kd : Int} {S : List Int} (n2 : FN σ1 σ) (hp : p = 3 ∨ p = 8) (n4 : ∀ τ, Mt σ τ b l → ∃ τ', g_X12_ahead F τ = some (0, τ') ∧ FA τ' τ ∧ Mt σ1 τ' b l) (hm : Mt σ τ b l) (hf : Fr τ i D o k ph bg bse S) (ho : o < 7) (hD : D ≤ 14) (hl : S.length ≤ 400) (e8 : τ 86 8 = 0) (hcd : Cd σ τ p i []) : ∃ τf, g_X12_opens F kd τ = some (0, τf) ∧ Mt σ1 τf b l ∧ FH τf τ i (D + 1) ∧ Fr τf i (D + 1) (o + 1) kd 0 1 (S.length : Int) S ∧ τf 86 8 = 0 ∧ Cd σ1 τf p i [] := by
  obtain ⟨τ1, e1⟩ : ∃ y, y = mup τ 86 38 ((o : Int) + 1) := ⟨_, rfl⟩
  have hm1 : Mt σ τ1 b l := by rw [e1]; exact hm.s41 (by decide)
  obtain ⟨τ2, a1, a2, a3⟩ := n4 τ1 hm1
  have fr1 : Fr τ1 i D (o + 1) k ph bg bse S := by
    obtain ⟨⟨f1, f2, f3, f4⟩, f5, f9⟩ := hf
    rw [e1]
    exact ⟨⟨by rw [mup_ne (by decide)]; exact f1, mup_at rfl rfl, by rw [mup_ne (by decide)]; exact f3, by rw [mup_ne (by decide)]; exact f4⟩, by rw [mup_off (by decide), mup_off (by decide), mup_off (by decide), mup_off (by decide)]; exact f5, by rw [mup_off (by decide)]; exact f9⟩
  obtain ⟨τ3, b1, b2, b3, b4, b5⟩ := r_push (F := F) (kd := kd) (fr1.fa a2) hD hl
  have f38 : τ 86 38 = (o : Int) := hf.1.2.1
  have g1 : FH τ1 τ i (D + 1) := by rw [e1]; exact FH.rfl'.u86 (by decide)
  refine ⟨τ3, ?_, a3.fk b3 b4, b3.tr ((a2.fr.fh).tr g1), b2, ?_, ?_⟩
  · unfold g_X12_opens g_X12_opens_b18
    rw [f38, e8]
    refine e_t (by rw [mw_id (by omega) (by omega), show mw 7 = 7 by decide]; omega) (e_t (by decide) (e_mem ?_))
    rw [← e1]
    exact e_mob a1 (e_mob b1 rfl)
  · rw [b4 8 (by decide), a2.fkr.1, e1, mup_ne (by decide)]; exact e8
  · refine Cd.fn (Cd.cgr (Cd.fa ?_ a2) b5.1 b5.2.1 b5.2.2) n2 hp
    rw [e1]
    exact hcd.s41 (by decide)
theorem r_open7 {F l i D s : Nat} {σ σ1 τ : mMem} {b : Nat → Int} {k ph bg bse kd : Int} {S : List Int} (ct : CTk σ b l s) (hm : Mt σ τ b l) (hf : Fr τ i D 7 k ph bg bse S) (d : DdC σ1 5 (s : Int)) : ∃ τd, g_X12_opens F kd τ = some (0, τd) ∧ FR τd τ ∧ τd 86 8 = 5 ∧ τd 86 9 = (s : Int) := by
  obtain ⟨τd, d1, d2, d3, d4, -⟩ := r_die2 (F := F) hm ct d
  refine ⟨τd, ?_, d2, d3, d4⟩
  have f38 : τ 86 38 = ((7 : Nat) : Int) := hf.1.2.1
  unfold g_X12_opens g_X12_opens_b18
  rw [f38]
  refine e_f (fun q => q (by decide)) (e_mob d1 ?_)
  rw [d3]
  exact e_f (by decide) rfl
theorem j_not {F l p i D o s : Nat} {σ τ : mMem} {b : Nat → Int} {k ph bse : Int} {S : List Int} (hF : 2000 ≤ F) (hb : ∀ j, j < l → 0 ≤ b j ∧ b j ≤ 255) (hp : p = 3 ∨ p = 8) (ct : CTk σ b l s) (hm : Mt σ τ b l) (h41 : τ 86 41 = 0) (hc : wd σ 24) (hf : Fr τ i D o k ph 1 bse S) (hcd : Cd σ τ p i []) (hk : isT k) (hD : D ≤ 15) (ho : o < 7) (hl : S.length ≤ 400) : ∃ σ1, g_X1_passOpening F (o : Int) σ = some (1, σ1) ∧ FN σ1 σ ∧ Adv F σ1 τ b l i D s (fun τ1 => τ1 86 41 = 0 ∧ Fr τ1 i D (o + 1) k ph 1 bse (43 :: S) ∧ Cd σ1 τ1 p i []) := by
  obtain ⟨σ1, n1, n2, n3, n4⟩ := j_adv2 (F := F) hF hb ct (ct.lt (by have := hc.1; omega))
  refine ⟨σ1, c_pass ho n1, n2, ?_⟩
  obtain ⟨-, v, e8⟩ := r_lexl (F := F) ct hm
  have f38 : τ 86 38 = (o : Int) := hf.1.2.1
  obtain ⟨τ1, e1⟩ : ∃ y, y = mup τ 86 38 ((o : Int) + 1) := ⟨_, rfl⟩
  have hm1 : Mt σ τ1 b l := by rw [e1]; exact hm.s41 (by decide)
  have fr1 : Fr τ1 i D (o + 1) k ph 1 bse S := by
    obtain ⟨⟨f1, f2, f3, f4⟩, f5, f9⟩ := hf
    rw [e1]
    exact ⟨⟨by rw [mup_ne (by decide)]; exact f1, mup_at rfl rfl, by rw [mup_ne (by decide)]; exact f3, by rw [mup_ne (by decide)]; exact f4⟩, by rw [mup_off (by decide), mup_off (by decide), mup_off (by decide), mup_off (by decide)]; exact f5, by rw [mup_off (by decide)]; exact f9⟩
  obtain ⟨τ2, h1, h2, h3, h4, h5⟩ := r_hold (F := F) (a := 43) hl fr1
  have hm2 : Mt σ τ2 b l := hm1.fk h3 h4
  obtain ⟨τ3, a1, a2, a3⟩ := n4 τ2 hm2
  obtain ⟨-, -, e82⟩ := r_lexl (F := F) ct hm2
  have op : g_X12_operand F τ = some (0, τ3) := by
    refine ((r_oph (F := F) ct hm hf (isT_r hk) (Or.inr rfl) hD).2 ⟨hk, rfl⟩).1 hc ?_
    rw [f38]
    refine e_t (by rw [mw_id (by omega) (by omega), show mw 7 = 7 by decide]; omega) ?_
    unfold g_X12_operand_b79
    rw [e8, f38]
    refine e_t (by decide) (e_mem ?_)
    rw [← e1]
    exact e_mob h1 (e_mob a1 (e_t (by decide) rfl))
  obtain ⟨τ4, e4⟩ : ∃ y, y = mup τ3 86 41 0 := ⟨_, rfl⟩
  refine Adv.of n3 (τf := τ4) (by rw [e4]; exact a3.s41 (by decide)) (fun n => by rw [e4]; exact l_op h41 op (Or.inl rfl) (by rw [a2.fkr.1]; exact e82)) ?_ (Or.inl (by rw [e4, mup_at rfl rfl])) ⟨by rw [e4, mup_at rfl rfl], ?_, ?_⟩
  · rw [e4]
    refine ((a2.fr.fh).tr (h3.tr ?_)).u86 (by decide)
    rw [e1]
    exact FH.rfl'.u86 (by decide)
  · rw [e4]
    exact (h2.fa a2).s41 (Or.inl rfl)
  · rw [e4]
    refine Cd.s41 (Cd.fn (Cd.fa (Cd.cgr ?_ h5.1 h5.2.1 h5.2.2) a2) n2 hp) (by decide)
    rw [e1]
    exact hcd.s41 (by decide)
theorem j_not7 {F l i D s : Nat} {σ τ : mMem} {b : Nat → Int} {k ph bse : Int} {S : List Int} {R : mMem → Prop} (ct : CTk σ b l s) (hm : Mt σ τ b l) (h41 : τ 86 41 = 0) (hc : wd σ 24) (hf : Fr τ i D 7 k ph 1 bse S) (hk : isT k) (hD : D ≤ 15) : ∃ σ1, g_X1_passOpening F ((7 : Nat) : Int) σ = some (0, σ1) ∧ FN σ1 σ ∧ Adv F σ1 τ b l i D s R := by
  obtain ⟨σ1, a1, a2, a3⟩ := c_pass7 (F := F) ct
  obtain ⟨τd, d1, d2, d3, d4, -⟩ := r_die2 (F := F) hm ct a3
  have f38 : τ 86 38 = ((7 : Nat) : Int) := hf.1.2.1
  refine ⟨σ1, a1, a2, Adv.opErr (r := 1) h41 a3 ?_ (Or.inr rfl) d2.fh d3 d4⟩
  refine ((r_oph (F := F) ct hm hf (isT_r hk) (Or.inr rfl) hD).2 ⟨hk, rfl⟩).1 hc ?_
  rw [f38]
  refine e_f (fun q => q (by decide)) (e_mob d1 ?_)
  unfold g_X12_operand_b79
  rw [d3]
  exact e_f (by decide) (e_t (by decide) rfl)
/-- a bracket opens: by the head of operand that leads there -/
theorem j_opn {F l p i D o s : Nat} {σ τ : mMem} {b : Nat → Int} {k ph bg bse kd : Int} {S : List Int} (hF : 2000 ≤ F) (hb : ∀ j, j < l → 0 ≤ b j ∧ b j ≤ 255) (hp : p = 3 ∨ p = 8) (ct : CTk σ b l s) (sl : s < l) (hm : Mt σ τ b l) (h41 : τ 86 41 = 0) (hf : Fr τ i D o k ph bg bse S) (hcd : Cd σ τ p i []) (hD : D ≤ 14) (ho : o < 7) (hl : S.length ≤ 400) (hop : ∀ X, mob (g_X12_opens F kd (mup τ 105 D 0)) (fun _ σ314 => if mw 0 = 0 ∨ mw 0 = 1 then some (0, σ314) else none) = X → g_X12_operand F τ = X) : ∃ σ1, g_X1_passOpening F (o : Int) σ = some (1, σ1) ∧ FN σ1 σ ∧ Adv F σ1 τ b l i D s (fun τ1 => τ1 86 41 = 0 ∧ Fr τ1 i (D + 1) (o + 1) kd 0 1 (S.length : Int) S ∧ Cd σ1 τ1 p i [] ∧ (τ1 103 D = k ∧ τ1 104 D = ph ∧ τ1 105 D = 0 ∧ τ1 107 D = bse)) := by
  obtain ⟨σ1, n1, n2, n3, n4⟩ := j_adv2 (F := F) hF hb ct sl
  refine ⟨σ1, c_pass ho n1, n2, ?_⟩
  have hm0 : Mt σ (mup τ 105 D 0) b l := hm.row (by decide)
  obtain ⟨-, -, e80⟩ := r_lexl (F := F) ct hm0
  obtain ⟨τf, b1, b2, b3, b4, b5, b6⟩ := r_open (F := F) (p := p) (kd := kd) n2 hp n4 hm0 hf.bg ho hD hl e80 (hcd.row (by decide))
  have op : g_X12_operand F τ = some (0, τf) := hop _ (e_mob b1 (e_t (by decide) rfl))
  obtain ⟨τ4, e4⟩ : ∃ y, y = mup τf 86 41 0 := ⟨_, rfl⟩
  have row : ∀ q, 103 ≤ q → q ≤ 107 → τ4 q D = mup τ 105 D 0 q D := fun q q1 q2 => by
    rw [e4, mup_off (by omega)]
    exact b3.2.2.2.1 q D q1 q2 (by omega)
  obtain ⟨-, ⟨g1, g2, g3, g4⟩, -⟩ := hf
  refine Adv.of n3 (τf := τ4) (by rw [e4]; exact b2.s41 (by decide)) (fun n => by rw [e4]; exact l_op h41 op (Or.inl rfl) b5) ?_ (Or.inl (by rw [e4, mup_at rfl rfl])) ⟨by rw [e4, mup_at rfl rfl], ?_, ?_, ?_, ?_, ?_, ?_⟩
  · rw [e4]
    exact (b3.up.tr (FH.rfl'.urow (q := 105) (by decide) (Or.inl (Nat.le_refl _)))).u86 (by decide)
  · rw [e4]
    exact b4.s41 (Or.inl rfl)
  · rw [e4]
    exact b6.s41 (by decide)
  · rw [row 103 (by decide) (by decide), mup_off (by decide)]; exact g1
  · rw [row 104 (by decide) (by decide), mup_off (by decide)]; exact g2
  · rw [row 105 (by decide) (by decide), mup_at rfl rfl]
  · rw [row 107 (by decide) (by decide), mup_off (by decide)]; exact g4
theorem j_opn7 {F l i D s : Nat} {σ τ : mMem} {b : Nat → Int} {k ph bg bse kd : Int} {S : List Int} {R : mMem → Prop} (ct : CTk σ b l s) (hm : Mt σ τ b l) (h41 : τ 86 41 = 0) (hf : Fr τ i D 7 k ph bg bse S) (hop : ∀ X, mob (g_X12_opens F kd (mup τ 105 D 0)) (fun _ σ314 => if mw 0 = 0 ∨ mw 0 = 1 then some (0, σ314) else none) = X → g_X12_operand F τ = X) : ∃ σ1, g_X1_passOpening F ((7 : Nat) : Int) σ = some (0, σ1) ∧ FN σ1 σ ∧ Adv F σ1 τ b l i D s R := by
  obtain ⟨σ1, a1, a2, a3⟩ := c_pass7 (F := F) ct
  have hm0 : Mt σ (mup τ 105 D 0) b l := hm.row (by decide)
  obtain ⟨τd, d1, d2, d3, d4⟩ := r_open7 (F := F) (kd := kd) ct hm0 hf.bg a3
  exact ⟨σ1, a1, a2, Adv.opErr (r := 0) h41 a3 (hop _ (e_mob d1 (e_t (by decide) rfl))) (Or.inl rfl) (d2.fh.tr (FH.rfl'.urow (q := 105) (by decide) (Or.inl (Nat.le_refl _)))) d3 d4⟩
/-- all -/
theorem j_all {F l p i D o s : Nat} {σ τ : mMem} {b : Nat → Int} {k ph bse : Int} {S : List Int} (hF : 2000 ≤ F) (hb : ∀ j, j < l → 0 ≤ b j ∧ b j ≤ 255) (hp : p = 3 ∨ p = 8) (hi : i = 0 ∨ i = 1) (ct : CTk σ b l s) (hm : Mt σ τ b l) (h41 : τ 86 41 = 0) (hc : wd σ 25) (hf : Fr τ i D o k ph 1 bse S) (hcd : Cd σ τ p i []) (hk : isT k) (hD : D ≤ 15) (h4 : σ p 4 < 1600) : ∃ σ1, g_X8_next F σ = some (0, σ1) ∧ FN σ1 σ ∧ Adv F σ1 τ b l i D s (fun τ1 => τ1 86 41 = 1 ∧ Fr τ1 i D o k 2 0 bse S ∧ ∀ σ2, σ2 = mup (mup σ1 (p + 4) (σ1 p 4).toNat (1 * 16 + 0)) p 4 (σ1 p 4 + 1) → Cd σ2 τ1 p i []) := by
  obtain ⟨σ1, n1, n2, n3, n4⟩ := j_adv2 (F := F) hF hb ct (ct.lt (by have := hc.1; omega))
  refine ⟨σ1, n1, n2, ?_⟩
  have c0 : Cd σ (mup τ 105 D 0) p i [] := hcd.row (by decide)
  obtain ⟨n, m1, m2, m3, m4, m5⟩ := id c0
  have nlt : n < 1600 := by have m2' : σ p 4 = (n : Int) + 0 := m2; omega
  obtain ⟨τ1, e1⟩ : ∃ y, y = xAdd (mup τ 105 D 0) i n 30 0 := ⟨_, rfl⟩
  have add := r_add (F := F) (τ := mup τ 105 D 0) (a := 30) (v := 0) hi hf.bg.1.2.2.2 m1 nlt
  have hm0 : Mt σ (mup τ 105 D 0) b l := hm.row (by decide)
  have hm1 : Mt σ τ1 b l := hm0.cg (fun _ _ => rfl) (by rw [e1, xAdd_off (by decide)]) (fun j hj => by rw [e1, xAdd_86 (by omega)])
  obtain ⟨τ2, e2⟩ : ∃ y, y = mup τ1 104 D 2 := ⟨_, rfl⟩
  have hm2 : Mt σ τ2 b l := by rw [e2]; exact hm1.row (by decide)
  obtain ⟨τ3, a1, a2, a3⟩ := n4 τ2 hm2
  obtain ⟨-, -, e82⟩ := r_lexl (F := F) ct hm2
  have op : g_X12_operand F τ = some (1, τ3) := by
    refine ((r_oph (F := F) ct hm hf (isT_r hk) (Or.inr rfl) hD).2 ⟨hk, rfl⟩).2.2 hc (e_mob add (e_mem ?_))
    rw [show mup (mup (mup (mup τ 105 D 0) 100 (1600 * i + n) 30) 101 (1600 * i + n) 0) 86 29 ((n : Int) + 1) = τ1 from e1.symm, ← e2]
    exact e_mob a1 (e_t (by decide) rfl)
  obtain ⟨τ4, e4⟩ : ∃ y, y = mup τ3 86 41 1 := ⟨_, rfl⟩
  have fr1 : Fr τ1 i D o k ph 0 bse S := hf.bg.cg (fun j hj => by rw [e1, xAdd_86 (by omega)]) (fun q q1 q2 => by rw [e1, xAdd_off (by omega)])
  refine Adv.of n3 (τf := τ4) (by rw [e4]; exact a3.s41 (by decide)) (fun n => by rw [e4]; exact l_op h41 op (Or.inr rfl) (by rw [a2.fkr.1]; exact e82)) ?_ (Or.inr (by rw [e4, mup_at rfl rfl])) ⟨by rw [e4, mup_at rfl rfl], ?_, ?_⟩
  · rw [e4]
    refine ((a2.fr.fh).tr ?_).u86 (by decide)
    rw [e2]
    refine FH.urow (FH.tr ?_ (FH.rfl'.urow (q := 105) (x := D) (z := 0) (by decide) (Or.inl (Nat.le_refl _)))) (by decide) (Or.inl (Nat.le_refl _))
    rw [e1]
    exact xAdd_fh nlt m1
  · rw [e4]
    refine Fr.s41 (Fr.fa ?_ a2) (Or.inl rfl)
    rw [e2]
    exact fr1.ph
  · intro σ2 es
    obtain ⟨n', x1, x2, x3⟩ := (c0.fn n2 hp).both (a := 30) (v := 0) (by rw [n2.1 p (np14 hp)]; exact h4) es (Or.inr (Or.inr (by decide)))
    have en : n' = n := by omega
    rw [en, ← e1] at x3
    rw [e4]
    refine Cd.s41 (Cd.fa ?_ a2) (by decide)
    rw [e2]
    exact x3.row (by decide)
