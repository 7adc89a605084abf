/-! LAYER 2: kitchen, the first statement -/
def PlZ (σ τ : mMem) (p i : Nat) : Prop := ((p = 3 ∨ p = 8) ∧ (i = 0 ∨ i = 1) ∧ σ 13 2 = (p : Int) ∧ τ 86 30 = (i : Int)) ∧ (∀ j, j < 81 → σ (p + 1) j = 0) ∧ σ p 11 = 0 ∧ BsK σ τ p i ∧ TdK σ τ p i ∧ CdK σ τ p i
theorem r_lexd {F : Nat} {τ : mMem} {fk fp : Int} (h : DdR τ fk fp) (hk : 1 ≤ fk ∧ fk ≤ 6) (hp : 0 ≤ fp ∧ fp ≤ 2000) : ∃ τ', g_X12_lex F τ = some (0, τ') ∧ FR τ' τ ∧ τ' 86 8 = fk ∧ τ' 86 9 = fp := by
  rcases h with ⟨r1, r2⟩ | ⟨r1, r2, r3⟩
  · refine ⟨τ, ?_, FR.rfl', r1, r2⟩
    unfold g_X12_lex g_X12_lex_b17
    by_cases c : mw (τ 86 12) = mw (-1)
    · exact e_t c rfl
    · exact e_f c (e_mob (r_bld r1 (by omega)) rfl)
  · refine ⟨mup (mup τ 86 8 1) 86 9 fp, ?_, (FR.rfl'.up (by decide)).up (by decide), by rw [mup_ne (by decide), mup_at rfl rfl, r2], mup_at rfl rfl⟩
    unfold g_X12_lex g_X12_lex_b17
    rw [r3]
    exact e_f (by rw [mw_id (by omega) (by omega), show mw (-1) = -1 by decide]; omega) (e_mob (r_bl r1) rfl)
theorem r_numd {F : Nat} {τ : mMem} {fk fp x y : Int} (h : DdR τ fk fp) (hk : 1 ≤ fk ∧ fk ≤ 6) (hp : 0 ≤ fp ∧ fp ≤ 2000) : ∃ τ', g_X12_number F x y τ = some (0, τ') ∧ FR τ' τ ∧ τ' 86 8 = fk ∧ τ' 86 9 = fp := by
  obtain ⟨τ1, t1, t2, t3, t4⟩ := r_lexd (F := F) h hk hp
  refine ⟨τ1, ?_, t2, t3, t4⟩
  unfold g_X12_number
  refine e_mob t1 ?_
  rw [t3]
  exact e_f (by rw [mw_id (by omega) (by omega)]; omega) rfl
theorem r_wordd {F : Nat} {τ : mMem} {fk fp x : Int} (h : DdR τ fk fp) (hk : 1 ≤ fk ∧ fk ≤ 6) (hp : 0 ≤ fp ∧ fp ≤ 2000) : ∃ τ', g_X12_must_ F x τ = some (0, τ') ∧ FR τ' τ ∧ τ' 86 8 = fk ∧ τ' 86 9 = fp := by
  obtain ⟨τ1, t1, t2, t3, t4⟩ := r_lexd (F := F) h hk hp
  refine ⟨τ1, ?_, t2, t3, t4⟩
  unfold g_X12_must_
  refine e_mob t1 ?_
  rw [t3]
  exact e_f (by rw [mw_id (by omega) (by omega)]; omega) rfl
theorem BF.upe {τ' τ : mMem} {i o x j : Nat} {z : Int} (h : BF τ' τ i) (hi : i = 0 ∨ i = 1) (hj : j = bw o * i + x) (hx : x < bw o) : BF (mup τ' o j z) τ i := by
  rw [hj]; exact h.up hi hx
/-- the reference clears the greys -/
theorem r_clr {F i : Nat} (hi : i = 0 ∨ i = 1) : ∀ (d k fuel : Nat) (τ : mMem), d + k = 81 → d < fuel → τ 86 30 = (i : Int) → ∃ τ', g_X12_begins_h48 F fuel (k : Int) τ = some (0, τ') ∧ (∀ q, q ≠ 90 → τ' q = τ q) ∧ (∀ j, k ≤ j → j < 81 → τ' 90 (81 * i + j) = 0) ∧ ∀ j, (j < 81 * i + k ∨ 81 * i + 81 ≤ j) → τ' 90 j = τ 90 j
  | 0, k, fuel + 1, τ, h1, _, h3 => by
    refine ⟨τ, ?_, fun _ _ => rfl, fun j _ _ => by omega, fun _ _ => rfl⟩
    unfold g_X12_begins_h48
    exact e_t (by rw [mw_id (z := 81) (by decide) (by decide), mw_id (z := (k : Int)) (by omega) (by omega)]; omega) rfl
  | d + 1, k, fuel + 1, τ, h1, h2, h3 => by
    obtain ⟨τ1, e1⟩ : ∃ q, q = mup τ 90 (81 * i + k) 0 := ⟨_, rfl⟩
    obtain ⟨τ', t1, t2, t3, t4⟩ := r_clr (F := F) hi d (k + 1) fuel τ1 (by omega) (by omega) (by rw [e1, mup_off (by decide)]; exact h3)
    refine ⟨τ', ?_, fun q hq => by rw [t2 q hq, e1, mup_off hq], fun j j1 j2 => ?_, fun j hj => by rw [t4 j (by omega), e1, mup_ne (by omega)]⟩
    · unfold g_X12_begins_h48
      refine e_f (by rw [mw_id (z := 81) (by decide) (by decide), mw_id (z := (k : Int)) (by omega) (by omega)]; omega) ?_
      rw [h3, show 81 * (i : Int) + (k : Int) = ((81 * i + k : Nat) : Int) by omega, mwN (by omega)]
      refine e_t (mwR (by omega) (by decide)) (e_mem ?_)
      rw [← e1, show (k : Int) + 1 = ((k + 1 : Nat) : Int) by omega]
      exact t1
    · by_cases ej : j = k
      · rw [t4 j (by omega) |> fun _ => t4 (81 * i + j) (by omega), e1, mup_at rfl (by rw [ej])]
      · exact t3 j (by omega) j2
theorem BsK.none {σ τ : mMem} {p i : Nat} (h : BsK σ τ p i) (h0 : σ p 11 = 0) {σ' τ' : mMem} (a11 : σ' p 11 = σ p 11) (a3 : σ' (p + 3) = σ (p + 3)) (t : τ' 91 = τ 91) : BsK σ' τ' p i := by
  obtain ⟨h1, -, h3⟩ := h
  refine ⟨by rw [a11, t]; exact h1, fun k hk => by omega, fun k f k1 k2 k3 => by rw [a3]; exact h3 k f (by omega) k2 k3⟩
theorem j_first {F l p i : Nat} {σ τ : mMem} {b : Nat → Int} (hF : 2000 ≤ F) (hb : ∀ j, j < l → 0 ≤ b j ∧ b j ≤ 255) (hm : Mt σ τ b l) (hz : PlZ σ τ p i) : ∃ σ' τ', g_X6_readStatement F 1 σ = some (0, σ') ∧ g_X12_begins F τ = some (0, τ') ∧ Sj σ τ σ' τ' b l p i := by
  obtain ⟨⟨hp, hi, h13, h30⟩, z1, z2, z3, z4, z5⟩ := hz
  have rg := (hm.st).rg hb
  -- the reference, from where it has the word
  have tail : ∀ (τ1 : mMem) (r1 r2 : Int) (τ2 τ3 τ4 : mMem), g_X12_must_ F 439905906546 τ = some (0, τ1) → FR τ1 τ → g_X12_number F 2 9 τ1 = some (r1, τ2) → FR τ2 τ1 → g_X12_must_ F 25209 (mup τ2 88 i r1) = some (0, τ3) → FR τ3 (mup τ2 88 i r1) → g_X12_number F 2 9 τ3 = some (r2, τ4) → FR τ4 τ3 → ∃ τ', g_X12_begins F τ = some (0, τ') ∧ (∀ q, q ≠ 90 → τ' q = mup τ4 89 i r2 q) ∧ (∀ j, j < 81 → τ' 90 (81 * i + j) = 0) ∧ FPr τ' τ ∧ BF τ' τ i := by
    intro τ1 r1 r2 τ2 τ3 τ4 k1 k2 k3 k4 k5 k6 k7 k8
    obtain ⟨τ5, e5⟩ : ∃ q, q = mup τ4 89 i r2 := ⟨_, rfl⟩
    have q1 : τ1 86 30 = (i : Int) := by rw [k2.2 30 (by decide)]; exact h30
    have q3 : τ3 86 30 = (i : Int) := by rw [k6.2 30 (by decide), mup_off (by decide), k4.2 30 (by decide)]; exact q1
    have q5 : τ5 86 30 = (i : Int) := by rw [e5, mup_off (by decide), k8.2 30 (by decide)]; exact q3
    obtain ⟨τ', t1, t2, t3, t4⟩ := r_clr (F := F) hi 81 0 F τ5 (by omega) (by omega) q5
    have pr5 : FPr τ5 τ := by rw [e5]; exact (k8.pr.tr (k6.pr.tr ((k4.tr k2).pr.up (by decide)))).up (by decide)
    have bf5 : BF τ5 τ i := by
      rw [e5]
      exact BF.upe (o := 89) (x := 0) (BF.tr k8.bf (BF.tr k6.bf (BF.upe (o := 88) (x := 0) (FR.bf (i := i) (k4.tr k2)) hi (show i = 1 * i + 0 by omega) (by decide)))) hi (show i = 1 * i + 0 by omega) (by decide)
    refine ⟨τ', ?_, fun q hq => by rw [t2 q hq, e5], fun j hj => t3 j (by omega) hj, ?_, ?_⟩
    · unfold g_X12_begins
      refine e_mob k1 (e_mob k3 ?_)
      rw [q1, mwN (i := i) (by omega)]
      refine e_t (mwR (by omega) (by decide)) (e_mem (e_mob k5 (e_mob k7 ?_)))
      rw [q3, mwN (i := i) (by omega)]
      refine e_t (mwR (by omega) (by decide)) (e_mem ?_)
      rw [← e5]
      exact t1
    · exact ⟨fun q hq => (t2 q (by omega)).trans (pr5.1 q hq), fun j hj => by rw [t2 86 (by decide)]; exact pr5.2 j hj⟩
    · refine BF.tr (fun q j q1 q2 j1 j2 => ?_) bf5
      by_cases e : q = 90
      · subst e
        simp only [bw, if_pos] at j1 j2
        exact t4 j (by rcases hi with rfl | rfl <;> omega)
      · rw [t2 q e]
  -- a dead class
  have dead : ∀ (σ1 τ1 : mMem) (fk fp : Int), g_X6_readStatement F 1 σ = some (0, σ1) → FN σ1 σ → DdC σ1 fk fp → g_X12_must_ F 439905906546 τ = some (0, τ1) → FR τ1 τ → DdR τ1 fk fp → RTx τ1 b l → ∃ σ' τ', g_X6_readStatement F 1 σ = some (0, σ') ∧ g_X12_begins F τ = some (0, τ') ∧ Sj σ τ σ' τ' b l p i := by
    intro σ1 τ1 fk fp k1 k2 k3 k4 k5 k6 k7
    have dk := k3.1
    obtain ⟨τ2, m1, m2, m3, m4⟩ := r_numd (F := F) (x := 2) (y := 9) k6 (by omega) (by omega)
    obtain ⟨τ3, n1, n2, n3, n4⟩ := r_wordd (F := F) (τ := mup τ2 88 i 0) (fk := fk) (fp := fp) (x := 25209) (Or.inl ⟨by rw [mup_off (by decide)]; exact m3, by rw [mup_off (by decide)]; exact m4⟩) (by omega) (by omega)
    obtain ⟨τ4, o1, o2, o3, o4⟩ := r_numd (F := F) (x := 2) (y := 9) (Or.inl ⟨n3, n4⟩) (by omega) (by omega)
    obtain ⟨τ', t1, t2, -, t4, t5⟩ := tail τ1 0 0 τ2 τ3 τ4 k4 k5 m1 m2 n1 n2 o1 o2
    have v8 : τ' 86 8 = fk := by rw [t2 86 (by decide), mup_off (by decide)]; exact o3
    have v9 : τ' 86 9 = fp := by rw [t2 86 (by decide), mup_off (by decide)]; exact o4
    refine ⟨σ1, τ', k1, t1, k2.pc, ⟨t4, t5⟩, ⟨⟨k7.1, ?_, fun j hj => ?_⟩, Or.inr ⟨fk, fp, k3, Or.inl ⟨v8, v9⟩⟩⟩, fun ⟨s, c⟩ => (c.nd k3).elim⟩
    · rw [t4.2 2 (by decide), ← k5.2 2 (by decide)]; exact k7.2.1
    · rw [t4.1 87 (by decide), ← k5.1 87 (by decide)]; exact k7.2.2 j hj
  have notw : ∀ σ1 fk fp, ¬ (σ 14 7 = 2 ∧ σ 14 9 = 0) → g_X8_refuseHere F 1 σ = some (0, σ1) → DdC σ1 fk fp → g_X6_readStatement F 1 σ = some (0, σ1) := by
    intro σ1 fk fp n k1 k2
    have b33 : ∀ x t1 : Int, (t1 = 0) → g_X6_readStatement_b33 F x 1 t1 σ = some (0, σ1) := by
      intro x t1 e
      unfold g_X6_readStatement_b33
      rw [e]
      exact e_f (by decide) (e_mob k1 rfl)
    unfold g_X6_readStatement
    rw [mw_id (z := σ 14 7) (by omega) (by omega), show mw 2 = 2 by decide]
    by_cases c2 : σ 14 7 = 2
    · refine e_f (fun e => e c2) ?_
      unfold g_X6_readStatement_b22
      rw [mw_id (z := σ 14 9) (by omega) (by omega)]
      exact e_t (fun e => n ⟨c2, e⟩) (b33 _ 0 rfl)
    · refine e_t c2 ?_
      unfold g_X6_readStatement_b22
      exact e_t (by decide) (b33 _ 0 rfl)
  obtain ⟨τ0, l1, l2, l3, l4⟩ := r_lex (F := F) hm
  rcases l4 with ⟨s, c, e0, r, e8, vw⟩ | ⟨fk, fp, d, x8, x9⟩
  · subst e0
    by_cases cw : σ 14 7 = 2 ∧ σ 14 9 = 0
    · -- it stands there
      obtain ⟨σ1, a1, a2, a3, a4⟩ := j_adv (F := F) hF hb c (c.lt (by omega))
      obtain ⟨τ1, y1, y2, y3⟩ := a4 τ0 hm
      obtain ⟨x, σ2, b1, b2, b3, b4, b5, b6⟩ := j_num (F := F) (x := 2) (y := 9) hF hb (by decide) (by decide) a3
      obtain ⟨x', τ2, m1, m2, m3, m4⟩ := b6 τ1 9 y3 (fun _ => rfl)
      obtain ⟨σ3, e3⟩ : ∃ q, q = mup σ2 p 9 x := ⟨_, rfl⟩
      obtain ⟨τ3, e4⟩ : ∃ q, q = mup τ2 88 i x' := ⟨_, rfl⟩
      have s3 : StC σ3 b l := b3.cg (fun q hq => by rw [e3, mup_off (by omega)])
      have M3 : Mt σ3 τ3 b l := m3.cg (fun q hq => by rw [e3, mup_off (by omega)]) (by rw [e4, mup_off (by decide)]) (fun j _ => by rw [e4, mup_off (by decide)])
      obtain ⟨σ4, d1, d2, d3, d4⟩ := j_word (F := F) (k := 1) hF hb (by decide) s3
      obtain ⟨τ4, n1, n2, n3⟩ := d4 τ3 M3
      obtain ⟨y, σ5, g1, g2, g3, g4, g5, g6⟩ := j_num (F := F) (x := 2) (y := 9) hF hb (by decide) (by decide) d3
      obtain ⟨y', τ5, o1, o2, o3, o4⟩ := g6 τ4 9 n3 (fun _ => rfl)
      have must1 : g_X12_must_ F 439905906546 τ0 = some (0, τ1) := by
        unfold g_X12_must_ g_X12_must__b29 g_X12_must__b40
        refine e_mob l1 ?_
        rw [e8]
        refine e_t (by decide) (e_mob (r_isW (k := 0) vw (by decide)) ?_)
        rw [mb_t (show σ 14 7 = 2 ∧ σ 14 9 = ((0 : Nat) : Int) from cw), e8]
        exact e_t (by decide) (e_f (fun e => e rfl) (e_mob y1 rfl))
      obtain ⟨τ', t1, t2, t3, t4, t5⟩ := tail τ1 x' y' τ2 τ4 τ5 must1 y2.fr m1 m2 (by rw [← e4]; exact n1) (by rw [← e4]; exact n2) o1 o2
      obtain ⟨σ6, e6⟩ : ∃ q, q = mup σ5 p 10 y := ⟨_, rfl⟩
      have np : p ≠ 14 := by omega
      have f2 : FN σ2 σ := b2.tr a2
      have f5 : FN σ5 σ3 := g2.tr d2
      have keep : ∀ q, q = 1 ∨ (14 ≤ q ∧ q ≤ 18) → σ6 q = σ5 q := fun q hq => by rw [e6, mup_off (by omega)]
      have pc : FPc σ6 σ p := by rw [e6]; exact (f5.pc.tr (by rw [e3]; exact f2.pc.up (by omega))).up (by omega)
      refine ⟨σ6, τ', ?_, t1, pc, ⟨t4, t5⟩, o3.cg keep (by rw [t2 87 (by decide), mup_off (by decide)]) (fun j _ => by rw [t2 86 (by decide), mup_off (by decide)]), fun lv => ?_⟩
      · have r13 : ∀ ρ : mMem, (ρ 13 = σ 13) → ρ 13 2 = (p : Int) := fun ρ e => by rw [e]; exact h13
        unfold g_X6_readStatement
        rw [cw.1, cw.2]
        refine e_f (by decide) ?_
        unfold g_X6_readStatement_b22 g_X6_readStatement_b33
        refine e_f (by decide) (e_t (by decide) (e_mob (r := 0) (σ := σ) ?_ (e_t (by decide) (e_mob (r := 0) (σ := σ6) ?_ rfl))))
        · unfold g_X6_refuseOneTooMany g_X6_refuseOneTooMany_b21 g_X6_refuseOneTooMany_b22 g_X6_refuseOneTooMany_b43 g_X6_refuseOneTooMany_b44 g_X6_refuseOneTooMany_b65 g_X6_refuseOneTooMany_b66
          exact e_t (by decide) (e_t (by decide) (e_t (by decide) (e_f (by decide) (e_f (by decide) (e_t (by decide) rfl)))))
        · unfold g_X6_readFloor
          refine e_mob a1 ?_
          rw [r13 σ1 (a2.1 13 (by decide)), show ((p : Int)).toNat = p by omega]
          refine e_t (by omega) (e_mob b1 (e_mem ?_))
          rw [← e3]
          refine e_mob d1 ?_
          rw [r13 σ4 (by rw [d2.1 13 (by decide), e3, mup_off (by omega), f2.1 13 (by decide)]), show ((p : Int)).toNat = p by omega]
          refine e_t (by omega) (e_mob g1 (e_mem ?_))
          rw [← e6]
      · -- live to the end
        have lv5 := CTk.of keep lv
        obtain ⟨ry, lv4⟩ := g5 lv5
        obtain ⟨s5, c5⟩ := lv5
        have e85 : τ5 86 8 = 0 := (o3.live c5).2
        obtain ⟨oy, -, oz, -⟩ := o4 e85
        have lv3 : ∃ s, CTk σ3 b l s := by
          obtain ⟨s4, c4⟩ := lv4
          rcases M3.2 with ⟨s, c, -⟩ | ⟨fk, fp, d, -⟩
          · exact ⟨s, c⟩
          · have nd : DdC σ4 fk fp := by
              obtain ⟨σ9, q1, q2, q3⟩ := c_refd (F := F) (x := 1) d
              have : g_X8_takeWord F ((1 : Nat) : Int) σ3 = some (0, σ9) := by
                unfold g_X8_takeWord g_X8_takeWord_b13
                refine e_mob (c_isW (s3.rg hb) (by decide)) ?_
                rw [mb_f (by rw [d.2.2.2.1]; omega)]
                exact e_f (by decide) (e_mob q1 (e_mob (c_nextd q3) rfl))
              rw [this] at d1
              injection d1 with d1
              injection d1 with _ d1
              rw [← d1]; exact q3
            exact (c4.nd nd).elim
        obtain ⟨s3', c3⟩ := lv3
        have lv2 : ∃ s, CTk σ2 b l s := CTk.of (fun q hq => by rw [e3, mup_off (by omega)]) ⟨s3', c3⟩
        obtain ⟨rx, -⟩ := b5 lv2
        obtain ⟨s2, c2⟩ := lv2
        have e82 : τ2 86 8 = 0 := (m3.live c2).2
        obtain ⟨ox, -⟩ := m4 e82
        have v9 : σ6 p 9 = x := by rw [e6, mup_ne (by omega), f5.1 p np, e3, mup_at rfl rfl]
        have v10 : σ6 p 10 = y := by rw [e6, mup_at rfl rfl]
        have vp : ∀ j, j ≠ 9 → j ≠ 10 → σ6 p j = σ p j := fun j j1 j2 => by rw [e6, mup_ne (by omega), f5.1 p np, e3, mup_ne (by omega), f2.1 p np]
        have oq : ∀ q, q ≠ p → q ≠ 14 → σ6 q = σ q := fun q q1 q2 => by rw [e6, mup_off q1, f5.1 q q2, e3, mup_off q1, f2.1 q q2]
        have tq : ∀ q, q ≠ 86 → q ≠ 88 → q ≠ 89 → q ≠ 90 → τ' q = τ0 q := fun q q1 q2 q3 q4 => by rw [t2 q q4, mup_off q3, o2.1 q q1, n2.1 q q1, e4, mup_off q2, m2.1 q q1, y2.1 q q1]
        have t88 : τ' 88 i = x := by rw [t2 88 (by decide), mup_off (by decide), o2.1 88 (by decide), n2.1 88 (by decide), e4, mup_at rfl rfl, ox]
        have t89 : τ' 89 i = y := by rw [t2 89 (by decide), mup_at rfl rfl, oy]
        have t86 : ∀ j, j = 29 ∨ j = 30 → τ' 86 j = τ0 86 j := fun j hj => by rw [t2 86 (by decide), mup_off (by decide), o2.2 j (by omega), n2.2 j (by omega), e4, mup_off (by decide), m2.2 j (by omega), y2.fr.2 j (by omega)]
        refine ⟨⟨hp, hi, by rw [oq 13 (by omega) (by decide)]; exact h13, by rw [t86 30 (by decide)]; exact h30⟩, ⟨⟨by rw [v9, t88], by rw [v9]; exact rx⟩, ⟨by rw [v10, t89], by rw [v10]; exact ry⟩, fun j hj => ?_⟩, z3.none z2 (vp 11 (by decide) (by decide)) (oq _ (by omega) (by omega)) (tq 91 (by decide) (by decide) (by decide) (by decide)), z4.cg (fun j _ _ => vp j (by omega) (by omega)) (tq 97 (by decide) (by decide) (by decide) (by decide)), z5.cg (fun j _ _ => vp j (by omega) (by omega)) (oq _ (by omega) (by omega)) (t86 29 (by decide)) (fun q _ _ => tq q (by omega) (by omega) (by omega) (by omega))⟩
        rw [t3 j hj, oq (p + 1) (by omega) (by omega), z1 j hj]
        decide
    · obtain ⟨σ1, a1, a2, a3⟩ := c_ref (F := F) (x := 1) c (by decide) c.le
      obtain ⟨τ1, y1, y2, y3, y4⟩ := r_die (F := F) hm c a3
      refine dead σ1 τ1 1 (s : Int) (notw σ1 _ _ cw a1 a3) a2 a3 ?_ y2 (y3.dead a3) y3.1
      unfold g_X12_must_ g_X12_must__b29 g_X12_must__b40
      refine e_mob l1 ?_
      rw [e8]
      refine e_t (by decide) (e_mob (r_isW (k := 0) vw (by decide)) ?_)
      rw [mb_f (show ¬ (σ 14 7 = 2 ∧ σ 14 9 = ((0 : Nat) : Int)) from cw)]
      refine e_f (by decide) (e_mob y1 ?_)
      rw [y4]
      exact e_t (by decide) rfl
  · obtain ⟨σ1, a1, a2, a3⟩ := c_refd (F := F) (x := 1) d
    have dk := d.1
    refine dead σ1 τ0 fk fp (notw σ1 fk fp (fun q => by have := d.2.2.2.1; omega) a1 a3) a2 a3 ?_ l2 (Or.inl ⟨x8, x9⟩) l3.1
    unfold g_X12_must_
    refine e_mob l1 ?_
    rw [x8]
    exact e_f (by rw [mw_id (by omega) (by omega)]; omega) rfl
