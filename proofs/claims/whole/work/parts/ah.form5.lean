/-! LAYER 2: kitchen, formulas: a comma, a bracket, the end -/
theorem np14 {p : Nat} (hp : p = 3 ∨ p = 8) : p ≠ 14 := by omega
theorem j_comma {F l p i D o s : Nat} {σ τ : mMem} {b : Nat → Int} {k ph bg : Int} {P S : List Int} (hF : 2000 ≤ F) (hb : ∀ j, j < l → 0 ≤ b j ∧ b j ≤ 255) (hp : p = 3 ∨ p = 8) (hi : i = 0 ∨ i = 1) (ct : CTk σ b l s) (hm : Mt σ τ b l) (h41 : τ 86 41 = 1) (hf : Fr τ i D (o + nots P) k ph bg (S.length : Int) (P ++ S)) (hcd : Cd σ τ p i P) (hP : ∀ x, x ∈ P → (31 ≤ x ∧ x ≤ 43) ∧ 1 ≤ rk x) (hk : k = 3 ∨ k = 6) (hph : 0 ≤ ph ∧ ph ≤ 2) (na : ¬ Ar σ ∨ ph = 2) (ht : isT k → ph ≠ 0 ∧ ¬ wd σ 23 ∧ ¬ wd σ 22) (hD : D ≤ 15) (ho : o ≤ 100) (hl : P.length + S.length ≤ 399) : ∃ σ1, g_X8_takeMark F 44 σ = some (0, σ1) ∧ FN σ1 σ ∧ Adv F σ1 τ b l i D s (fun τ1 => τ1 86 41 = 0 ∧ Fr τ1 i D o (if k = 3 then 4 else 3) 0 bg (S.length : Int) S ∧ Cd σ1 τ1 p i []) := by
  have hk6 : 0 ≤ k ∧ k ≤ 6 := by clear na ht; omega
  obtain ⟨-, v, e8⟩ := r_lexl (F := F) ct hm
  have mD : (mw (D : Int)).toNat = D := (mwD hD).1
  have rD : 0 ≤ mw (D : Int) ∧ mw (D : Int) < 20 := (mwD hD).2
  have to452 : ∀ X, g_X12_goesOn_b452 F (D : Int) k τ = X → g_X12_goesOn F τ = X := by
    intro X hX
    refine r_go422 ct hm hf hk6 hph hD na ht ?_
    unfold g_X12_goesOn_b422
    rcases hk with rfl | rfl
    · exact e_t (by decide) (e_t (by decide) hX)
    · exact e_t (by decide) (e_f (by decide) (e_f (by decide) hX))
  by_cases c : mk σ 44
  · obtain ⟨σ1, n1, n2, n3, n4⟩ := j_adv2 (F := F) hF hb ct (ct.lt (by have := c.1; omega))
    refine ⟨σ1, c_tm (ct.rg hb) (by decide) c n1, n2, ?_⟩
    obtain ⟨τ1, j1, j2, j3, j4, j5⟩ := r_joins (F := F) (σ := σ) (p := p) (r := 1) hi hD (by omega) (by decide) (Or.inl rfl) P o F τ (by omega) (by omega) ho hf hcd hP
    have hm1 : Mt σ τ1 b l := hm.fk j4 j5
    obtain ⟨τ2, e2⟩ : ∃ y, y = mup (mup τ1 103 D (if k = 3 then 4 else 3)) 104 D 0 := ⟨_, rfl⟩
    have hm2 : Mt σ τ2 b l := by rw [e2]; exact (hm1.row (by decide)).row (by decide)
    obtain ⟨τ3, a1, a2, a3⟩ := n4 τ2 hm2
    obtain ⟨-, -, e82⟩ := r_lexl (F := F) ct hm2
    obtain ⟨τ4, e4⟩ : ∃ y, y = mup τ3 86 41 0 := ⟨_, rfl⟩
    have goal : g_X12_goesOn F τ = some (1, τ4) := by
      refine to452 _ ?_
      have b499 : g_X12_goesOn_b499 F (D : Int) (D : Int) (if k = 3 then 4 else 3) τ1 = some (1, τ4) := by
        unfold g_X12_goesOn_b499
        rw [mD]
        refine e_t rD (e_mem (e_t rD (e_mem ?_)))
        rw [← e2]
        refine e_mob a1 (e_t (by decide) (e_mem ?_))
        rw [← e4]
        exact e_t (by decide) rfl
      unfold g_X12_goesOn_b452 g_X12_goesOn_b470
      refine e_mob (r_isS v (by decide)) (e_t (mb_n0 c) ?_)
      rw [e8]
      refine e_t (by decide) (e_mob (show g_X12_joins F 1 τ = some (0, τ1) from j1) ?_)
      rcases hk with rfl | rfl
      · exact e_f (by decide) b499
      · exact e_t (by decide) b499
    refine Adv.of n3 (by rw [e4]; exact a3.s41 (by decide)) (fun n => l_go h41 goal (by rw [e4, mup_ne (by decide), a2.fkr.1]; exact e82)) ?_ (Or.inl (by rw [e4, mup_at rfl rfl])) ⟨by rw [e4, mup_at rfl rfl], ?_, ?_⟩
    · rw [e4]
      refine ((a2.fr.fh).tr ?_).u86 (by decide)
      rw [e2]
      exact (j4.urow (q := 103) (by decide) (Or.inl (Nat.le_refl _))).urow (q := 104) (by decide) (Or.inl (Nat.le_refl _))
    · rw [e4]
      refine Fr.s41 (Fr.fa ?_ a2) (Or.inl rfl)
      rw [e2]
      exact j2.kd.ph
    · rw [e4]
      refine Cd.s41 (Cd.fn (Cd.fa ?_ a2) n2 hp) (by decide)
      rw [e2]
      exact (j3.row (by decide)).row (by decide)
  · obtain ⟨σ1, n1, n2, n3⟩ := c_tn (F := F) hb ct (by decide) c
    obtain ⟨τd, d1, d2, d3, d4, d5, d6⟩ := r_die2 (F := F) hm ct n3
    refine ⟨σ1, n1, n2, Adv.err h41 n3 (to452 _ ?_) d2.fh d3 d4⟩
    unfold g_X12_goesOn_b452 g_X12_goesOn_b470
    refine e_mob (r_isS v (by decide)) (e_f (mb_nn0 c) (e_mob d1 ?_))
    rw [d3]
    exact e_f (by decide) (e_t (by decide) rfl)
theorem j_close {F l p i D o s : Nat} {σ τ : mMem} {b : Nat → Int} {k ph bg k0 ph0 bg0 bse0 a c : Int} {P S : List Int} (hF : 2000 ≤ F) (hb : ∀ j, j < l → 0 ≤ b j ∧ b j ≤ 255) (hp : p = 3 ∨ p = 8) (hi : i = 0 ∨ i = 1) (ct : CTk σ b l s) (hm : Mt σ τ b l) (h41 : τ 86 41 = 1) (hf : Fr τ i (D + 1) (o + 1 + nots P) k ph bg (S.length : Int) (P ++ S)) (hf0 : τ 103 D = k0 ∧ τ 104 D = ph0 ∧ τ 105 D = bg0 ∧ τ 107 D = bse0) (hcd : Cd σ τ p i P) (hP : ∀ x, x ∈ P → (31 ≤ x ∧ x ≤ 43) ∧ 1 ≤ rk x) (hk : (k = 2 ∧ c = 41) ∨ (k = 4 ∧ c = 41) ∨ (k = 5 ∧ c = 93)) (hph : 0 ≤ ph ∧ ph ≤ 2) (na : ¬ Ar σ ∨ ph = 2) (ht : isT k → ph ≠ 0 ∧ ¬ wd σ 23 ∧ ¬ wd σ 22) (hD : D + 1 ≤ 15) (ho : o + 1 ≤ 100) (hl : P.length + S.length ≤ 399) (h4 : σ p 4 < 1600) (ha : k = 4 → τ 106 (D + 1) = a ∧ 30 ≤ a ∧ a ≤ 44) : ∃ σ1, g_X8_takeMark F c σ = some (0, σ1) ∧ FN σ1 σ ∧ Adv F σ1 τ b l i D s (fun τ1 => τ1 86 41 = 1 ∧ Fr τ1 i D o k0 (if k = 5 then 2 else ph0) bg0 bse0 S ∧ (k ≠ 4 → Cd σ1 τ1 p i []) ∧ (k = 4 → ∀ σ2, σ2 = mup (mup σ1 (p + 4) (σ1 p 4).toNat (trc a 0)) p 4 (σ1 p 4 + 1) → Cd σ2 τ1 p i [])) := by
  have hk6 : 0 ≤ k ∧ k ≤ 6 := by clear na ht; omega
  have hc : 0 ≤ c ∧ c ≤ 255 := by clear na ht; omega
  obtain ⟨-, v, e8⟩ := r_lexl (F := F) ct hm
  have mD : (mw ((D + 1 : Nat) : Int)).toNat = D + 1 := (mwD hD).1
  have rD : 0 ≤ mw ((D + 1 : Nat) : Int) ∧ mw ((D + 1 : Nat) : Int) < 20 := (mwD hD).2
  have mD0 : (mw ((D : Nat) : Int)).toNat = D := (mwD (Nat.le_trans (Nat.le_succ D) hD)).1
  have rD0 : 0 ≤ mw ((D : Nat) : Int) ∧ mw ((D : Nat) : Int) < 20 := (mwD (Nat.le_trans (Nat.le_succ D) hD)).2
  have to531 : ∀ X, g_X12_goesOn_b531 F ((D + 1 : Nat) : Int) k c τ = X → g_X12_goesOn F τ = X := by
    intro X hX
    refine r_go422 ct hm hf hk6 hph hD na ht ?_
    unfold g_X12_goesOn_b422
    rcases hk with ⟨rfl, rfl⟩ | ⟨rfl, rfl⟩ | ⟨rfl, rfl⟩
    · exact e_t (by decide) (e_f (by decide) (e_t (by decide) (e_t (by decide) hX)))
    · exact e_t (by decide) (e_f (by decide) (e_t (by decide) (e_t (by decide) hX)))
    · exact e_t (by decide) (e_f (by decide) (e_t (by decide) (e_f (by decide) hX)))
  by_cases cc : mk σ c
  · obtain ⟨σ1, n1, n2, n3, n4⟩ := j_adv2 (F := F) hF hb ct (ct.lt (by have := cc.1; clear na ht; omega))
    refine ⟨σ1, c_tm (ct.rg hb) hc cc n1, n2, ?_⟩
    obtain ⟨τ1, j1, j2, j3, j4, j5⟩ := r_joins (F := F) (σ := σ) (p := p) (r := 1) hi hD (by omega) (by decide) (Or.inl rfl) P (o + 1) F τ (by clear na ht; omega) (by clear na ht; omega) ho hf hcd hP
    have hm1 : Mt σ τ1 b l := hm.fk j4 j5
    obtain ⟨⟨f1, f2, f3, f4⟩, -, f9⟩ := id j2
    obtain ⟨τ3, e3⟩ : ∃ y, y = mup (mup τ1 86 37 ((D : Int) + 1)) 86 38 (o : Int) := ⟨_, rfl⟩
    have hm3 : Mt σ τ3 b l := by rw [e3]; exact (hm1.s41 (by decide)).s41 (by decide)
    have o3 : ∀ q, q ≠ 86 → τ3 q = τ1 q := fun q hq => by rw [e3, mup_off hq, mup_off hq]
    have s3 : ∀ j, j ≠ 37 → j ≠ 38 → τ3 86 j = τ1 86 j := fun j q1 q2 => by rw [e3, mup_ne (by clear na ht; omega), mup_ne (by clear na ht; omega)]
    have c3 : Cd σ τ3 p i [] := by rw [e3]; exact (j3.s41 (by decide)).s41 (by decide)
    obtain ⟨n, m1, m2, m3, m4, m5⟩ := id c3
    have nlt : n < 1600 := by have m2' : σ p 4 = (n : Int) + 0 := m2; clear na ht; omega
    obtain ⟨τ4, e4⟩ : ∃ y, y = (if k = 4 then xAdd τ3 i n a 0 else τ3) := ⟨_, rfl⟩
    have o4 : ∀ q, q ≠ 86 → q ≠ 100 → q ≠ 101 → τ4 q = τ3 q := fun q q1 q2 q3 => by
      rw [e4]
      by_cases c4 : k = 4
      · rw [if_pos c4, xAdd_off ⟨q2, q3, q1⟩]
      · rw [if_neg c4]
    have s4 : ∀ j, j ≠ 29 → τ4 86 j = τ3 86 j := fun j hj => by
      rw [e4]
      by_cases c4 : k = 4
      · rw [if_pos c4, xAdd_86 hj]
      · rw [if_neg c4]
    have hm4 : Mt σ τ4 b l := hm3.cg (fun _ _ => rfl) (o4 87 (by decide) (by decide) (by decide)) (fun j hj => s4 j (by clear na ht; omega))
    obtain ⟨τ5, e5⟩ : ∃ y, y = (if k = 5 then mup τ4 104 D 2 else τ4) := ⟨_, rfl⟩
    have o5 : ∀ q, q ≠ 104 → τ5 q = τ4 q := fun q q1 => by
      rw [e5]
      by_cases c4 : k = 5
      · rw [if_pos c4, mup_off q1]
      · rw [if_neg c4]
    have hm5 : Mt σ τ5 b l := hm4.cg (fun _ _ => rfl) (o5 87 (by decide)) (fun j _ => by rw [o5 86 (by decide)])
    obtain ⟨τ6, a1, a2, a3⟩ := n4 τ5 hm5
    obtain ⟨-, -, e85⟩ := r_lexl (F := F) ct hm5
    have a106 : k = 4 → τ3 106 (D + 1) = a := fun c4 => by rw [o3 106 (by decide), j4.2.2.2.2.1]; exact (ha c4).1
    have v37 : τ4 86 37 = (D : Int) + 1 := by rw [s4 37 (by decide), e3, mup_ne (by decide), mup_at rfl rfl]
    have goal : g_X12_goesOn F τ = some (1, τ6) := by
      refine to531 _ ?_
      unfold g_X12_goesOn_b531 g_X12_goesOn_b546
      refine e_mob (r_isS v hc) (e_t (mb_n0 cc) ?_)
      rw [e8]
      refine e_t (by decide) (e_mob (show g_X12_joins F 1 τ = some (0, τ1) from j1) (e_mem (e_mem ?_)))
      rw [f1, mup_ne (o := 86) (j := 38) (by decide), f2, show ((D + 1 : Nat) : Int) + 1 - 1 = (D : Int) + 1 by clear na ht; omega, show ((o + 1 : Nat) : Int) - 1 = (o : Int) by clear na ht; omega, ← e3]
      have b613 : g_X12_goesOn_b613 F τ5 = some (1, τ6) := by
        unfold g_X12_goesOn_b613
        exact e_mob a1 (e_t (by decide) rfl)
      have b596 : g_X12_goesOn_b596 F k τ4 = some (1, τ6) := by
        unfold g_X12_goesOn_b596
        rw [v37, show (D : Int) + 1 - 1 = (D : Int) by clear na ht; omega, mD0, mw_id (z := k) (by clear na ht; omega) (by clear na ht; omega), show mw 5 = 5 by decide]
        by_cases c5 : k = 5
        · rw [if_pos c5] at e5
          refine e_f (fun q => q c5) (e_t rD0 (e_mem ?_))
          rw [← e5]
          exact b613
        · rw [if_neg c5] at e5
          refine e_t c5 ?_
          rw [← e5]
          exact b613
      rw [mD, mw_id (z := k) (by clear na ht; omega) (by clear na ht; omega), show mw 4 = 4 by decide]
      by_cases c4 : k = 4
      · rw [if_pos c4] at e4
        rw [a106 c4]
        refine e_f (fun q => q c4) (e_t rD (e_mob (r_add (n := n) hi (by rw [s3 30 (by decide) (by decide)]; exact f4) m1 nlt) ?_))
        rw [show mup (mup (mup τ3 100 (1600 * i + n) a) 101 (1600 * i + n) 0) 86 29 ((n : Int) + 1) = τ4 from e4.symm]
        exact b596
      · rw [if_neg c4] at e4
        refine e_t c4 ?_
        rw [← e4]
        exact b596
    have fh3 : FH τ3 τ i (D + 1) := by rw [e3]; exact (j4.u86 (by decide)).u86 (by decide)
    have fh4 : FH τ4 τ i (D + 1) := by
      rw [e4]
      by_cases c4 : k = 4
      · rw [if_pos c4]; exact (xAdd_fh nlt m1).tr fh3
      · rw [if_neg c4]; exact fh3
    have fh5 : FH τ5 τ i D := by
      rw [e5]
      by_cases c5 : k = 5
      · rw [if_pos c5]; exact fh4.up.urow (q := 104) (by decide) (Or.inl (Nat.le_refl _))
      · rw [if_neg c5]; exact fh4.up
    have row4 : ∀ q, 103 ≤ q → q ≤ 107 → τ4 q D = τ q D := fun q q1 q2 => fh4.2.2.2.1 q D q1 q2 (by omega)
    have h41' : τ6 86 41 = 1 := by
      rw [a2.fkr.2.1, o5 86 (by decide), s4 41 (by decide), s3 41 (by decide) (by decide), j5 41 (by decide)]; exact h41
    have cd6 : k ≠ 4 → Cd σ1 τ6 p i [] := fun c4 => by
      refine Cd.fn (Cd.fa ?_ a2) n2 hp
      rw [if_neg c4] at e4
      rw [e4] at o5
      exact c3.cgr (by rw [o5 86 (by decide)]) (o5 100 (by decide)) (o5 101 (by decide))
    have cd6b : k = 4 → ∀ σ2, σ2 = mup (mup σ1 (p + 4) (σ1 p 4).toNat (trc a 0)) p 4 (σ1 p 4 + 1) → Cd σ2 τ6 p i [] := fun c4 σ2 e2 => by
      have c31 : Cd σ1 τ3 p i [] := c3.fn n2 hp
      obtain ⟨n', x1, x2, x3⟩ := c31.both (by rw [n2.1 p (np14 hp)]; exact h4) e2 (Or.inr (Or.inr (ha c4).2))
      have en : n' = n := by clear na ht; omega
      rw [en] at x3
      rw [if_pos c4] at e4
      rw [← e4] at x3
      exact Cd.fa (x3.cgr (by rw [o5 86 (by decide)]) (o5 100 (by decide)) (o5 101 (by decide))) a2
    refine Adv.of n3 a3 (fun m => l_go h41 goal (by rw [a2.fkr.1]; exact e85)) ((a2.fr.fh).tr fh5) (Or.inr h41') ⟨h41', ?_, cd6, cd6b⟩
    refine Fr.fa ⟨⟨by rw [o5 86 (by decide)]; exact v37, ?_, ?_, ?_⟩, ⟨?_, ?_, ?_, ?_⟩, ?_⟩ a2
    · rw [o5 86 (by decide), s4 38 (by decide), e3, mup_at rfl rfl]
    · rw [o5 86 (by decide), s4 40 (by decide), s3 40 (by decide) (by decide)]; exact f3
    · rw [o5 86 (by decide), s4 30 (by decide), s3 30 (by decide) (by decide)]; exact f4
    · rw [o5 103 (by decide), row4 103 (by decide) (by decide)]; exact hf0.1
    · rw [e5]
      by_cases c5 : k = 5
      · rw [if_pos c5, if_pos c5, mup_at rfl rfl]
      · rw [if_neg c5, if_neg c5, row4 104 (by decide) (by decide)]; exact hf0.2.1
    · rw [o5 105 (by decide), row4 105 (by decide) (by decide)]; exact hf0.2.2.1
    · rw [o5 107 (by decide), row4 107 (by decide) (by decide)]; exact hf0.2.2.2
    · rw [o5 108 (by decide), o4 108 (by decide) (by decide) (by decide), o3 108 (by decide)]; exact f9
  · obtain ⟨σ1, n1, n2, n3⟩ := c_tn (F := F) hb ct hc cc
    obtain ⟨τd, d1, d2, d3, d4, d5, d6⟩ := r_die2 (F := F) hm ct n3
    refine ⟨σ1, n1, n2, Adv.err h41 n3 (to531 _ ?_) d2.fh d3 d4⟩
    unfold g_X12_goesOn_b531 g_X12_goesOn_b546
    refine e_mob (r_isS v hc) (e_f (mb_nn0 cc) (e_mob d1 ?_))
    rw [d3]
    exact e_f (by decide) (e_t (by decide) rfl)
/-- the end of a formula -/
theorem j_end {F l p i D o s : Nat} {σ τ : mMem} {b : Nat → Int} {k ph bg : Int} {P S : List Int} (hF : 2000 ≤ F) (hi : i = 0 ∨ i = 1) (ct : CTk σ b l s) (hm : Mt σ τ b l) (h41 : τ 86 41 = 1) (hf : Fr τ i D (o + nots P) k ph bg (S.length : Int) (P ++ S)) (hcd : Cd σ τ p i P) (hP : ∀ x, x ∈ P → (31 ≤ x ∧ x ≤ 43) ∧ 1 ≤ rk x) (hk : k = 0 ∨ k = 1) (hph : 0 ≤ ph ∧ ph ≤ 2) (na : ¬ Ar σ ∨ ph = 2) (ht : isT k → ph ≠ 0 ∧ ¬ wd σ 23 ∧ ¬ wd σ 22) (hD : D ≤ 15) (ho : o ≤ 100) (hl : P.length + S.length ≤ 399) : ∃ τ1, (∀ n, g_X12_reads_h43 F (n + 2) 1 τ = some (0, τ1)) ∧ Mt σ τ1 b l ∧ FH τ1 τ i D ∧ Cd σ τ1 p i [] := by
  have hk6 : 0 ≤ k ∧ k ≤ 6 := by clear na ht; omega
  obtain ⟨-, v, e8⟩ := r_lexl (F := F) ct hm
  obtain ⟨τ1, j1, j2, j3, j4, j5⟩ := r_joins (F := F) (σ := σ) (p := p) (r := 1) hi hD (by omega) (by decide) (Or.inl rfl) P o F τ (by clear na ht; omega) (by clear na ht; omega) ho hf hcd hP
  refine ⟨τ1, fun n => l_gd h41 (r_go422 ct hm hf hk6 hph hD na ht ?_), hm.fk j4 j5, j4, j3⟩
  unfold g_X12_goesOn_b422 g_X12_goesOn_b439
  rw [e8]
  have nk : ¬ mw 2 ≤ mw k := by rcases hk with rfl | rfl <;> decide
  exact e_f nk (e_f (fun q => q (by decide)) (e_mob (show g_X12_joins F 1 τ = some (0, τ1) from j1) (e_t (by decide) rfl)))
