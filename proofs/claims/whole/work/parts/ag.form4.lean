/-! LAYER 2: kitchen, formulas: comparisons, and, or, what ends a part -/
theorem Adv.err {F l i D s : Nat} {σ1 τ τd : mMem} {b : Nat → Int} {R : mMem → Prop} {fk fp : Int} (h41 : τ 86 41 = 1) (d : DdC σ1 fk fp) (g : g_X12_goesOn F τ = some (0, τd)) (fh : FH τd τ i D) (e8 : τd 86 8 = fk) (e9 : τd 86 9 = fp) : Adv F σ1 τ b l i D s R := Or.inr ⟨fk, fp, τd, d, fun n => by rw [show n + 3 = (n + 1) + 2 by omega]; exact l_gd h41 g, fh, e8, e9⟩
/-- the reference blames what the class refused -/
theorem r_die2 {F l s : Nat} {σ σ' τ : mMem} {b : Nat → Int} {x : Int} (hm : Mt σ τ b l) (c : CTk σ b l s) (d : DdC σ' x (s : Int)) : ∃ τ', g_X12_blame F x (τ 86 4) τ = some (0, τ') ∧ FR τ' τ ∧ τ' 86 8 = x ∧ τ' 86 9 = (s : Int) ∧ (∀ j, j ≠ 8 → j ≠ 9 → τ' 86 j = τ 86 j) ∧ (1 ≤ x ∧ x ≤ 6) := by
  obtain ⟨-, v, e8⟩ := r_lexl (F := F) c hm
  have e4 : τ 86 4 = (s : Int) := by rw [← v.1]; exact c.2.2.2.2.1
  have dk := d.1
  refine ⟨mup (mup τ 86 8 x) 86 9 (s : Int), by rw [e4, r_bl e8], (FR.rfl'.up (by decide)).up (by decide), by rw [mup_ne (by decide), mup_at rfl rfl], mup_at rfl rfl, fun j j1 j2 => by rw [mup_ne (by omega), mup_ne (by omega)], by omega⟩
theorem c_tm {F : Nat} {σ σ1 : mMem} {c : Int} (r : (0 ≤ σ 14 7 ∧ σ 14 7 ≤ 4) ∧ 0 ≤ σ 14 9 ∧ σ 14 9 ≤ 2000000000) (hc : 0 ≤ c ∧ c ≤ 255) (h : mk σ c) (n : g_X8_next F σ = some (0, σ1)) : g_X8_takeMark F c σ = some (0, σ1) := by
  unfold g_X8_takeMark g_X8_takeMark_b13
  exact e_mob (c_isM r hc) (e_t (mb_n0 h) (e_mob n rfl))
theorem c_tn {F l s : Nat} {σ : mMem} {b : Nat → Int} {c : Int} (hb : ∀ j, j < l → 0 ≤ b j ∧ b j ≤ 255) (ct : CTk σ b l s) (hc : 0 ≤ c ∧ c ≤ 255) (h : ¬ mk σ c) : ∃ σ1, g_X8_takeMark F c σ = some (0, σ1) ∧ FN σ1 σ ∧ DdC σ1 1 (s : Int) := by
  obtain ⟨σ1, a1, a2, a3⟩ := c_ref (F := F) (x := 1) ct (by decide) ct.le
  refine ⟨σ1, ?_, a2, a3⟩
  unfold g_X8_takeMark g_X8_takeMark_b13
  exact e_mob (c_isM (ct.rg hb) hc) (e_f (mb_nn0 h) (e_mob a1 (e_mob (c_nextd a3) rfl)))
def cmOf (c a op : Int) : Prop := (c = 60 ∧ a = 38 ∧ op = 10) ∨ (c = 62 ∧ a = 39 ∧ op = 11) ∨ (c = 61 ∧ a = 40 ∧ op = 12)
theorem cm_nar {σ : mMem} {c a op : Int} (ha : cmOf c a op) (hc : mk σ c) : ¬ Ar σ := by
  unfold cmOf at ha
  rcases ha with ⟨rfl, -, -⟩ | ⟨rfl, -, -⟩ | ⟨rfl, -, -⟩ <;> omega
theorem wd_nar {σ : mMem} {c : Int} (hc : wd σ c) : ¬ Ar σ := by omega
theorem isT_r {k : Int} (h : isT k) : 0 ≤ k ∧ k ≤ 6 := by omega
theorem mwD {D : Nat} (h : D ≤ 15) : (mw (D : Int)).toNat = D ∧ (0 ≤ mw (D : Int) ∧ mw (D : Int) < 20) := ⟨mwN (by omega), mwR (by omega) (by decide)⟩
/-- phase and begin of a frame are set -/
theorem Fr.ph {τ : mMem} {i D o : Nat} {k ph bg bse z : Int} {S : List Int} (h : Fr τ i D o k ph bg bse S) : Fr (mup τ 104 D z) i D o k z bg bse S := by
  obtain ⟨h1, ⟨h2, h3, h4, h5⟩, h6⟩ := h
  exact ⟨by rw [mup_off (by decide)]; exact h1, ⟨by rw [mup_off (by decide)]; exact h2, mup_at rfl rfl, by rw [mup_off (by decide)]; exact h4, by rw [mup_off (by decide)]; exact h5⟩, by rw [mup_off (by decide)]; exact h6⟩
theorem Fr.bg {τ : mMem} {i D o : Nat} {k ph bg bse z : Int} {S : List Int} (h : Fr τ i D o k ph bg bse S) : Fr (mup τ 105 D z) i D o k ph z bse S := by
  obtain ⟨h1, ⟨h2, h3, h4, h5⟩, h6⟩ := h
  exact ⟨by rw [mup_off (by decide)]; exact h1, ⟨by rw [mup_off (by decide)]; exact h2, by rw [mup_off (by decide)]; exact h3, mup_at rfl rfl, by rw [mup_off (by decide)]; exact h5⟩, by rw [mup_off (by decide)]; exact h6⟩
theorem Fr.kd {τ : mMem} {i D o : Nat} {k ph bg bse z : Int} {S : List Int} (h : Fr τ i D o k ph bg bse S) : Fr (mup τ 103 D z) i D o z ph bg bse S := by
  obtain ⟨h1, ⟨h2, h3, h4, h5⟩, h6⟩ := h
  exact ⟨by rw [mup_off (by decide)]; exact h1, ⟨mup_at rfl rfl, by rw [mup_off (by decide)]; exact h3, by rw [mup_off (by decide)]; exact h4, by rw [mup_off (by decide)]; exact h5⟩, by rw [mup_off (by decide)]; exact h6⟩
theorem Mt.row {σ τ : mMem} {b : Nat → Int} {l q x : Nat} {z : Int} (h : Mt σ τ b l) (hq : 103 ≤ q ∧ q ≤ 108) : Mt σ (mup τ q x z) b l := h.cg (fun _ _ => rfl) (by rw [mup_off (by omega)]) (fun j _ => by rw [mup_off (by omega)])
theorem Cd.row {σ τ : mMem} {p i q x : Nat} {z : Int} {P : List Int} (h : Cd σ τ p i P) (hq : 103 ≤ q ∧ q ≤ 108) : Cd σ (mup τ q x z) p i P := h.cgr (by rw [mup_off (by omega)]) (by rw [mup_off (by omega)]) (by rw [mup_off (by omega)])
theorem Fr.s41 {τ : mMem} {i D o j : Nat} {k ph bg bse z : Int} {S : List Int} (h : Fr τ i D o k ph bg bse S) (hj : j = 41 ∨ j = 8 ∨ j = 9) : Fr (mup τ 86 j z) i D o k ph bg bse S := h.cg (fun y hy => by rw [mup_ne (by omega)]) (fun q q1 q2 => by rw [mup_off (by omega)])
theorem Cd.s41 {σ τ : mMem} {p i j : Nat} {z : Int} {P : List Int} (h : Cd σ τ p i P) (hj : j ≠ 29) : Cd σ (mup τ 86 j z) p i P := h.cgr (by rw [mup_ne (by omega)]) (by rw [mup_off (by decide)]) (by rw [mup_off (by decide)])
theorem Mt.s41 {σ τ : mMem} {b : Nat → Int} {l j : Nat} {z : Int} (h : Mt σ τ b l) (hj : j = 37 ∨ j = 38 ∨ j = 40 ∨ j = 41) : Mt σ (mup τ 86 j z) b l := h.cg (fun _ _ => rfl) (by rw [mup_off (by decide)]) (fun y hy => by rw [mup_ne (by omega)])
theorem j_cmp {F l p i D o s : Nat} {σ τ : mMem} {b : Nat → Int} {k bg bse c a op : Int} {P S : List Int} (hF : 2000 ≤ F) (hb : ∀ j, j < l → 0 ≤ b j ∧ b j ≤ 255) (hp : p = 3 ∨ p = 8) (hi : i = 0 ∨ i = 1) (ct : CTk σ b l s) (hm : Mt σ τ b l) (h41 : τ 86 41 = 1) (ha : cmOf c a op) (hc : mk σ c) (hf : Fr τ i D (o + nots P) k 0 bg bse (P ++ S)) (hcd : Cd σ τ p i P) (hP : ∀ x, x ∈ P → (31 ≤ x ∧ x ≤ 43) ∧ 5 ≤ rk x) (hs : Jst S bse 5) (hbs : 0 ≤ bse) (hk : isT k) (hD : D ≤ 15) (ho : o ≤ 100) (hl : P.length + S.length ≤ 399) : ∃ σ1, g_X8_next F σ = some (0, σ1) ∧ FN σ1 σ ∧ Adv F σ1 τ b l i D s (fun τ1 => τ1 86 41 = 0 ∧ Fr τ1 i D o k 1 bg bse (a :: S) ∧ Cd σ1 τ1 p i []) := by
  obtain ⟨σ1, n1, n2, n3, n4⟩ := j_adv2 (F := F) hF hb ct (ct.lt (by have := hc.1; omega))
  refine ⟨σ1, n1, n2, ?_⟩
  obtain ⟨τ1, j1, j2, j3, j4, j5⟩ := r_joins (F := F) (σ := σ) (p := p) (r := 5) hi hD hbs (by decide) hs P o F τ (by omega) (by omega) ho hf hcd hP
  have hm1 : Mt σ τ1 b l := hm.fk j4 j5
  obtain ⟨τ2, h1, h2, h3, h4, h5⟩ := r_hold (F := F) (a := a) (by omega) j2
  obtain ⟨τ2b, e2⟩ : ∃ y, y = mup τ2 104 D 1 := ⟨_, rfl⟩
  have hm2 : Mt σ τ2b b l := by rw [e2]; exact (hm1.fk h3 h4).row (by decide)
  obtain ⟨τ3, a1, a2, a3⟩ := n4 τ2b hm2
  obtain ⟨-, v, e8⟩ := r_lexl (F := F) ct hm
  obtain ⟨-, v1, e81⟩ := r_lexl (F := F) ct hm1
  obtain ⟨-, -, e82⟩ := r_lexl (F := F) ct hm2
  obtain ⟨τ4, e4⟩ : ∃ y, y = mup τ3 86 41 0 := ⟨_, rfl⟩
  have mD : (mw (D : Int)).toNat = D := (mwD hD).1
  have rD : 0 ≤ mw (D : Int) ∧ mw (D : Int) < 20 := (mwD hD).2
  have hph : τ 104 D = 0 := hf.2.1.2.1
  have nar : ¬ Ar σ := cm_nar ha hc
  have goal : g_X12_goesOn F τ = some (1, τ4) := by
    refine (r_goh (F := F) ct hm hf (isT_r hk) (by decide) hD).1 (Or.inl nar) ?_
    have b264 : g_X12_goesOn_b264 F (D : Int) a τ1 = some (1, τ4) := by
      unfold g_X12_goesOn_b264
      refine e_mob h1 (e_t rD (e_mem ?_))
      rw [mD, ← e2]
      refine e_mob a1 (e_t (by decide) (e_mem ?_))
      rw [← e4]
      exact e_t (by decide) rfl
    have tail : g_X12_goesOn_b228 F (D : Int) τ = some (1, τ4) := by
      unfold g_X12_goesOn_b228
      refine e_mob (show g_X12_joins F 5 τ = some (0, τ1) from j1) (e_mob (r_isS v1 (by decide)) ?_)
      unfold cmOf at ha
      rcases ha with ⟨rfl, rfl, -⟩ | ⟨rfl, rfl, -⟩ | ⟨rfl, rfl, -⟩
      · exact e_f (mb_n0 hc) b264
      · exact e_t (mb_e0 (by omega)) (e_mob (r_isS v1 (by decide)) (e_f (mb_n0 hc) b264))
      · exact e_t (mb_e0 (by omega)) (e_mob (r_isS v1 (by decide)) (e_t (mb_e0 (by omega)) b264))
    unfold g_X12_goesOn_b188
    rw [mD, hph]
    refine e_f (mb_n0 hk) (e_t rD (e_f (fun q => q (by decide)) (e_mob (r_isS v (by decide)) ?_)))
    unfold cmOf at ha
    rcases ha with ⟨rfl, rfl, -⟩ | ⟨rfl, rfl, -⟩ | ⟨rfl, rfl, -⟩
    · exact e_t (mb_n0 hc) tail
    · exact e_f (mb_nn0 (by omega)) (e_mob (r_isS v (by decide)) (e_t (mb_n0 hc) tail))
    · exact e_f (mb_nn0 (by omega)) (e_mob (r_isS v (by decide)) (e_f (mb_nn0 (by omega)) (e_mob (r_isS v (by decide)) (e_f (mb_n0 hc) tail))))
  refine Adv.of n3 (by rw [e4]; exact a3.s41 (by decide)) (fun n => l_go h41 goal (by rw [e4, mup_ne (by decide), a2.fkr.1]; exact e82)) ?_ (Or.inl (by rw [e4, mup_at rfl rfl])) ⟨by rw [e4, mup_at rfl rfl], ?_, ?_⟩
  · rw [e4]
    refine ((a2.fr.fh).tr ?_).u86 (by decide)
    rw [e2]
    exact (h3.tr j4).urow (q := 104) (by decide) (Or.inl (Nat.le_refl _))
  · rw [e4]
    refine Fr.s41 (Fr.fa ?_ a2) (Or.inl rfl)
    rw [e2]
    exact h2.ph
  · rw [e4]
    refine Cd.s41 (Cd.fn (Cd.fa ?_ a2) n2 hp) (by decide)
    rw [e2]
    exact (j3.cgr h5.1 h5.2.1 h5.2.2).row (by decide)
def aoOf (w : Nat) (a r op : Int) : Prop := (w = 23 ∧ a = 41 ∧ r = 2 ∧ op = 13) ∨ (w = 22 ∧ a = 42 ∧ r = 1 ∧ op = 14)
theorem j_ao {F l p i D o s w : Nat} {σ τ : mMem} {b : Nat → Int} {k ph bg bse a r op : Int} {P S : List Int} (hF : 2000 ≤ F) (hb : ∀ j, j < l → 0 ≤ b j ∧ b j ≤ 255) (hp : p = 3 ∨ p = 8) (hi : i = 0 ∨ i = 1) (ct : CTk σ b l s) (hm : Mt σ τ b l) (h41 : τ 86 41 = 1) (ha : aoOf w a r op) (hc : wd σ (w : Int)) (hf : Fr τ i D (o + nots P) k ph bg bse (P ++ S)) (hph : ph = 1 ∨ ph = 2) (hcd : Cd σ τ p i P) (hP : ∀ x, x ∈ P → (31 ≤ x ∧ x ≤ 43) ∧ r ≤ rk x) (hs : Jst S bse r) (hbs : 0 ≤ bse) (hk : isT k) (hD : D ≤ 15) (ho : o ≤ 100) (hl : P.length + S.length ≤ 399) : ∃ σ1, g_X8_next F σ = some (0, σ1) ∧ FN σ1 σ ∧ Adv F σ1 τ b l i D s (fun τ1 => τ1 86 41 = 0 ∧ Fr τ1 i D o k 0 1 bse (a :: S) ∧ Cd σ1 τ1 p i []) := by
  obtain ⟨σ1, n1, n2, n3, n4⟩ := j_adv2 (F := F) hF hb ct (ct.lt (by have := hc.1; omega))
  refine ⟨σ1, n1, n2, ?_⟩
  have hr : 1 ≤ r ∧ r ≤ 6 := by unfold aoOf at ha; omega
  obtain ⟨τ1, j1, j2, j3, j4, j5⟩ := r_joins (F := F) (σ := σ) (p := p) (r := r) hi hD hbs hr hs P o F τ (by omega) (by omega) ho hf hcd hP
  have hm1 : Mt σ τ1 b l := hm.fk j4 j5
  obtain ⟨τ2, h1, h2, h3, h4, h5⟩ := r_hold (F := F) (a := a) (by omega) j2
  obtain ⟨τ2b, e2⟩ : ∃ y, y = mup (mup τ2 104 D 0) 105 D 1 := ⟨_, rfl⟩
  have hm2 : Mt σ τ2b b l := by rw [e2]; exact ((hm1.fk h3 h4).row (by decide)).row (by decide)
  obtain ⟨τ3, a1, a2, a3⟩ := n4 τ2b hm2
  obtain ⟨-, v, e8⟩ := r_lexl (F := F) ct hm
  obtain ⟨-, v1, e81⟩ := r_lexl (F := F) ct hm1
  obtain ⟨-, -, e82⟩ := r_lexl (F := F) ct hm2
  obtain ⟨τ4, e4⟩ : ∃ y, y = mup τ3 86 41 0 := ⟨_, rfl⟩
  have mD : (mw (D : Int)).toNat = D := (mwD hD).1
  have rD : 0 ≤ mw (D : Int) ∧ mw (D : Int) < 20 := (mwD hD).2
  have hph' : τ 104 D = ph := hf.2.1.2.1
  have nph : ¬ mw ph = 0 := by rw [mw_id (by omega) (by omega)]; omega
  have nar : ¬ Ar σ := wd_nar hc
  have goal : g_X12_goesOn F τ = some (1, τ4) := by
    refine (r_goh (F := F) ct hm hf (isT_r hk) (by omega) hD).1 (Or.inl nar) ?_
    have b372 : g_X12_goesOn_b372 F (D : Int) a τ1 = some (1, τ4) := by
      unfold g_X12_goesOn_b372
      refine e_mob h1 (e_t rD (e_mem ?_))
      rw [mD]
      refine e_t ⟨rD.1, rD.2, by decide⟩ (e_mem ?_)
      rw [← e2]
      refine e_mob a1 (e_t (by decide) (e_mem ?_))
      rw [← e4]
      exact e_t (by decide) rfl
    have b309 : g_X12_goesOn_b309 F (D : Int) τ = some (1, τ4) := by
      unfold g_X12_goesOn_b309
      rw [mD, hph']
      refine e_t rD (e_t nph ?_)
      unfold g_X12_goesOn_b327
      rw [e8]
      refine e_t (by decide) (e_mob (r_isW (k := 23) v (by decide)) ?_)
      unfold aoOf at ha
      unfold g_X12_goesOn_b356
      rcases ha with ⟨rfl, rfl, rfl, -⟩ | ⟨rfl, rfl, rfl, -⟩
      · exact e_f (mb_n0 hc) (e_mob (show g_X12_joins F 2 τ = some (0, τ1) from j1) (e_f (mb_n0 hc) b372))
      · exact e_t (mb_e0 (by omega)) (e_mob (show g_X12_joins F 1 τ = some (0, τ1) from j1) (e_t (mb_e0 (by omega)) b372))
    unfold g_X12_goesOn_b188 g_X12_goesOn_b285
    rw [mD, hph']
    refine e_f (mb_n0 hk) (e_t rD (e_t nph (e_f (mb_n0 hk) (e_mob (r_isW (k := 23) v (by decide)) ?_))))
    unfold aoOf at ha
    rcases ha with ⟨rfl, rfl, rfl, -⟩ | ⟨rfl, rfl, rfl, -⟩
    · exact e_t (mb_n0 hc) b309
    · exact e_f (mb_nn0 (by omega)) (e_mob (r_isW (k := 22) v (by decide)) (e_f (mb_n0 hc) b309))
  refine Adv.of n3 (by rw [e4]; exact a3.s41 (by decide)) (fun n => l_go h41 goal (by rw [e4, mup_ne (by decide), a2.fkr.1]; exact e82)) ?_ (Or.inl (by rw [e4, mup_at rfl rfl])) ⟨by rw [e4, mup_at rfl rfl], ?_, ?_⟩
  · rw [e4]
    refine ((a2.fr.fh).tr ?_).u86 (by decide)
    rw [e2]
    exact ((h3.tr j4).urow (q := 104) (by decide) (Or.inl (Nat.le_refl _))).urow (q := 105) (by decide) (Or.inl (Nat.le_refl _))
  · rw [e4]
    refine Fr.s41 (Fr.fa ?_ a2) (Or.inl rfl)
    rw [e2]
    exact h2.ph.bg
  · rw [e4]
    refine Cd.s41 (Cd.fn (Cd.fa ?_ a2) n2 hp) (by decide)
    rw [e2]
    exact ((j3.cgr h5.1 h5.2.1 h5.2.2).row (by decide)).row (by decide)
/-- b422 with a fault: it ends -/
theorem r_422d {F D : Nat} {σ τ : mMem} {k : Int} (v : Vw σ τ) (hk : 0 ≤ k ∧ k ≤ 6) (e8 : 1 ≤ τ 86 8 ∧ τ 86 8 ≤ 6) : g_X12_goesOn_b422 F (D : Int) k τ = some (0, τ) := by
  have n0 : ¬ mw (τ 86 8) = 0 := by rw [mw_id (by omega) (by omega)]; omega
  have n1 : ¬ mw (τ 86 8) ≤ 0 := by rw [mw_id (by omega) (by omega)]; omega
  have b470 : g_X12_goesOn_b470 F (D : Int) k τ = some (0, τ) := by
    unfold g_X12_goesOn_b470
    exact e_f n1 (e_t (by decide) rfl)
  have b546 : g_X12_goesOn_b546 F (D : Int) k τ = some (0, τ) := by
    unfold g_X12_goesOn_b546
    exact e_f n1 (e_t (by decide) rfl)
  have b452 : g_X12_goesOn_b452 F (D : Int) k τ = some (0, τ) := by
    unfold g_X12_goesOn_b452
    refine e_mob (r_isS v (by decide)) ?_
    by_cases c : mk σ 44
    · exact e_t (mb_n0 c) b470
    · exact e_f (mb_nn0 c) (e_mob (r_bld rfl e8) b470)
  have b531 : ∀ x : Int, (0 ≤ x ∧ x ≤ 255) → g_X12_goesOn_b531 F (D : Int) k x τ = some (0, τ) := by
    intro x hx
    unfold g_X12_goesOn_b531
    refine e_mob (r_isS v hx) ?_
    by_cases c : mk σ x
    · exact e_t (mb_n0 c) b546
    · exact e_f (mb_nn0 c) (e_mob (r_bld rfl e8) b546)
  unfold g_X12_goesOn_b422 g_X12_goesOn_b439
  rcases (by omega : k = 0 ∨ k = 1 ∨ k = 2 ∨ k = 3 ∨ k = 4 ∨ k = 5 ∨ k = 6) with rfl | rfl | rfl | rfl | rfl | rfl | rfl
  · exact e_f (by decide) (e_t n0 (e_t (by decide) rfl))
  · exact e_f (by decide) (e_t n0 (e_t (by decide) rfl))
  · exact e_t (by decide) (e_f (by decide) (e_t (by decide) (e_t (by decide) (b531 41 (by decide)))))
  · exact e_t (by decide) (e_t (by decide) b452)
  · exact e_t (by decide) (e_f (by decide) (e_t (by decide) (e_t (by decide) (b531 41 (by decide)))))
  · exact e_t (by decide) (e_f (by decide) (e_t (by decide) (e_f (by decide) (b531 93 (by decide)))))
  · exact e_t (by decide) (e_f (by decide) (e_f (by decide) b452))
/-- blaming leaves what is seen -/
theorem Vw.bl {σ τ τ' : mMem} (v : Vw σ τ) (h : ∀ j, j ≠ 8 → j ≠ 9 → τ' 86 j = τ 86 j) : Vw σ τ' := by
  unfold Vw at *
  rw [h 4 (by decide) (by decide), h 12 (by decide) (by decide), h 3 (by decide) (by decide), h 6 (by decide) (by decide), h 7 (by decide) (by decide)]
  exact v
/-- no comparison where one must be -/
theorem j_nocmp {F l i D o s : Nat} {σ τ : mMem} {b : Nat → Int} {k bg bse : Int} {S : List Int} {R : mMem → Prop} (ct : CTk σ b l s) (hm : Mt σ τ b l) (h41 : τ 86 41 = 1) (hf : Fr τ i D o k 0 bg bse S) (hk : isT k) (hD : D ≤ 15) (na : ¬ Ar σ) (nc : ¬ mk σ 60 ∧ ¬ mk σ 62 ∧ ¬ mk σ 61) : ∃ σ1, g_X8_refuseHere F 1 σ = some (0, σ1) ∧ FN σ1 σ ∧ Adv F σ1 τ b l i D s R := by
  obtain ⟨σ1, a1, a2, a3⟩ := c_ref (F := F) (x := 1) ct (by decide) ct.le
  refine ⟨σ1, a1, a2, ?_⟩
  obtain ⟨-, v, e8⟩ := r_lexl (F := F) ct hm
  obtain ⟨τd, d1, d2, d3, d4, d5, d6⟩ := r_die2 (F := F) hm ct a3
  have vd : Vw σ τd := v.bl d5
  have mD : (mw (D : Int)).toNat = D := (mwD hD).1
  have rD : 0 ≤ mw (D : Int) ∧ mw (D : Int) < 20 := (mwD hD).2
  have hph : τ 104 D = 0 := hf.2.1.2.1
  refine Adv.err h41 a3 ?_ d2.fh d3 d4
  refine (r_goh (F := F) ct hm hf (isT_r hk) (by decide) hD).1 (Or.inl na) ?_
  have b309 : g_X12_goesOn_b309 F (D : Int) τ = some (0, τd) := by
    unfold g_X12_goesOn_b309 g_X12_goesOn_b327
    rw [mD, hph]
    refine e_t rD (e_f (fun q => q (by decide)) (e_mob d1 ?_))
    rw [d3]
    exact e_f (by decide) (e_t (by decide) rfl)
  have b400 : g_X12_goesOn_b400 F (D : Int) k (mb (isT k)) τ = some (0, τd) := by
    unfold g_X12_goesOn_b400
    rw [mD, hph]
    exact e_f (mb_n0 hk) (e_t rD (e_f (fun q => q (by decide)) (e_mob d1 (r_422d vd (isT_r hk) (by omega)))))
  unfold g_X12_goesOn_b188
  rw [mD, hph]
  refine e_f (mb_n0 hk) (e_t rD (e_f (fun q => q (by decide)) (e_mob (r_isS v (by decide)) (e_f (mb_nn0 nc.1) (e_mob (r_isS v (by decide)) (e_f (mb_nn0 nc.2.1) (e_mob (r_isS v (by decide)) (e_t (mb_e0 nc.2.2) ?_))))))))
  unfold g_X12_goesOn_b285
  refine e_f (mb_n0 hk) (e_mob (r_isW (k := 23) v (by decide)) ?_)
  by_cases c1 : wd σ 23
  · exact e_t (mb_n0 c1) b309
  refine e_f (mb_nn0 c1) (e_mob (r_isW (k := 22) v (by decide)) ?_)
  by_cases c2 : wd σ 22
  · exact e_f (mb_n0 c2) b309
  · exact e_t (mb_e0 c2) b400
/-- a part has ended: what its frame asks for -/
theorem r_go422 {F l i D o s : Nat} {σ τ : mMem} {b : Nat → Int} {k ph bg bse : Int} {S : List Int} {X : mRs} (ct : CTk σ b l s) (hm : Mt σ τ b l) (hf : Fr τ i D o k ph bg bse S) (hk : 0 ≤ k ∧ k ≤ 6) (hp : 0 ≤ ph ∧ ph ≤ 2) (hD : D ≤ 15) (na : ¬ Ar σ ∨ ph = 2) (ht : isT k → ph ≠ 0 ∧ ¬ wd σ 23 ∧ ¬ wd σ 22) (h : g_X12_goesOn_b422 F (D : Int) k τ = X) : g_X12_goesOn F τ = X := by
  obtain ⟨-, v, e8⟩ := r_lexl (F := F) ct hm
  have mD : (mw (D : Int)).toNat = D := (mwD hD).1
  have rD : 0 ≤ mw (D : Int) ∧ mw (D : Int) < 20 := (mwD hD).2
  have hph : τ 104 D = ph := hf.2.1.2.1
  refine (r_goh (F := F) ct hm hf hk hp hD).1 na ?_
  by_cases c : isT k
  · obtain ⟨t1, t2, t3⟩ := ht c
    have nph : ¬ mw ph = 0 := by rw [mw_id (by omega) (by omega)]; exact t1
    have b400 : g_X12_goesOn_b400 F (D : Int) k (mb (isT k)) τ = X := by
      unfold g_X12_goesOn_b400
      rw [mD, hph]
      exact e_f (mb_n0 c) (e_t rD (e_t nph h))
    unfold g_X12_goesOn_b188 g_X12_goesOn_b285
    rw [mD, hph]
    exact e_f (mb_n0 c) (e_t rD (e_t nph (e_f (mb_n0 c) (e_mob (r_isW (k := 23) v (by decide)) (e_f (mb_nn0 t2) (e_mob (r_isW (k := 22) v (by decide)) (e_t (mb_e0 t3) b400)))))))
  · unfold g_X12_goesOn_b188 g_X12_goesOn_b285 g_X12_goesOn_b400
    exact e_t (mb_e0 c) (e_t (mb_e0 c) (e_t (mb_e0 c) h))
