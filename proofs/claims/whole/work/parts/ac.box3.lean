/-! LAYER 2: kitchen, a box, joined -/
theorem j_box {F l p i s n : Nat} {σ τ : mMem} {b : Nat → Int} (hF : 2000 ≤ F) (hb : ∀ j, j < l → 0 ≤ b j ∧ b j ≤ 255) (c : CTk σ b l s) (hs : s < l) (hm : Mt σ τ b l) (hk : PlK σ τ p i) (h11 : σ p 11 = (n : Int)) (hn : n < 6) : ∃ σ' τ', g_X6_readBox F σ = some (0, σ') ∧ g_X12_boxing F τ = some (0, τ') ∧ Sj σ τ σ' τ' b l p i := by
  obtain ⟨⟨hp, hi, h13, h30⟩, ⟨⟨w1, w2⟩, ⟨w3, w4⟩, w5⟩, ⟨⟨h91, -⟩, hB, -⟩, -, -⟩ := id hk
  have np : p ≠ 14 := by omega
  have hpI : (p : Int) = 3 ∨ (p : Int) = 8 := by omega
  obtain ⟨σ1, a1, a2, a3, a4⟩ := j_adv (F := F) hF hb c hs
  obtain ⟨τ1, y1, y2, y3, y4⟩ := r_cnt (F := F) c a4 τ hm
  have k1 : PlK σ1 τ1 p i := hk.fn a2 y2
  obtain ⟨x, σ2, b1, b2, b3, w, τ2, z1, z2, z3, z4⟩ := j_nn (F := F) hF hb y3 k1
  have f2 : FN σ2 σ := b2.tr a2
  have g2 : FR τ2 τ := z2.tr y2
  obtain ⟨τa, ea⟩ : ∃ q, q = mup τ2 102 (6 * i + n) w := ⟨_, rfl⟩
  have ka : PlK σ2 τa p i := by rw [ea]; exact (hk.fn f2 g2).bey (Or.inr rfl) (by rw [f2.1 p np, h11]; omega)
  have Ma : Mt σ2 τa b l := z3.cg (fun _ _ => rfl) (by rw [ea, mup_off (by decide)]) (fun j _ => by rw [ea, mup_off (by decide)])
  have pra : FPr τa τ := by rw [ea]; exact g2.pr.up (by decide)
  have bfa : BF τa τ i := by rw [ea]; exact BF.up (o := 102) (x := n) g2.bf hi hn
  obtain ⟨σ3, d1, d2, d3, d4⟩ := j_word (F := F) (k := 4) hF hb (by decide) Ma.st
  obtain ⟨τ3, u1, u2, u3⟩ := d4 τa Ma
  obtain ⟨cx, σ4, e1, e2, e3, e4, e5, e6⟩ := j_num (F := F) (x := 0) (y := σ p 9 - 1) hF hb (by decide) (by omega) d3
  obtain ⟨cx', τ4, v1, v2, v3, v4⟩ := e6 τ3 (σ p 9 - 1) u3 (fun _ => rfl)
  have f4 : FN σ4 σ2 := e2.tr d2
  have g4 : FR τ4 τa := v2.tr u2
  obtain ⟨τ5, l1, l2, l3, l4⟩ := r_lex (F := F) v3
  have g5 : FR τ5 τa := l2.tr g4
  have k5 : PlK σ4 τ5 p i := ka.fn f4 g5
  have ff : FN σ4 σ := f4.tr f2
  have p4 : σ4 p = σ p := ff.1 p np
  have r13 : σ4 13 2 = (p : Int) := by rw [ff.1 13 (by decide)]; exact h13
  have i30 : ∀ ρ : mMem, ρ 86 30 = (i : Int) → (mw (ρ 86 30)).toNat = i ∧ (0 ≤ mw (ρ 86 30) ∧ mw (ρ 86 30) < 2) := fun ρ e => by
    rw [e]; exact ⟨mwN (by omega), mwR (by omega) (by decide)⟩
  have t1 : τ1 86 30 = (i : Int) := by rw [y2.2 30 (by decide)]; exact h30
  have ta : τa 86 30 = (i : Int) := by rw [ea, mup_off (by decide), g2.2 30 (by decide)]; exact h30
  have t3 : τ3 86 30 = (i : Int) := by rw [u2.2 30 (by decide)]; exact ta
  have t5 : τ5 86 30 = (i : Int) := by rw [g5.2 30 (by decide)]; exact ta
  have q88 : ∀ ρ : mMem, FR ρ τa → ρ 88 i = σ p 9 ∧ ρ 89 i = σ p 10 := fun ρ g => by
    rw [g.1 88 (by decide), g.1 89 (by decide), ea, mup_off (by decide), mup_off (by decide), g2.1 88 (by decide), g2.1 89 (by decide)]
    exact ⟨w1.symm, w3.symm⟩
  have v91 : ∀ ρ : mMem, FR ρ τa → ρ 91 i = (n : Int) := fun ρ g => by
    rw [g.1 91 (by decide), ea, mup_off (by decide), g2.1 91 (by decide), ← h91, h11]
  have v92 : ∀ ρ : mMem, FR ρ τa → ρ 92 = τ 92 := fun ρ g => by
    rw [g.1 92 (by decide), ea, mup_off (by decide), g2.1 92 (by decide)]
  -- the reference's beginning
  have rhead : ∀ (ry' : Int) (τ6 : mMem) (X : mRs), g_X12_number F 0 (σ p 10 - 1) τ5 = some (ry', τ6) → g_X12_boxing_h109 F F ((6 * i + n : Nat) : Int) cx' (τ5 86 4) ry' 0 τ6 = X → g_X12_boxing F τ = X := by
    intro ry' τ6 X hr hX
    have x5 : (σ p 10 - 1) = τ5 89 i - 1 := by rw [(q88 τ5 g5).2]
    rw [x5] at hr
    have x3 : (σ p 9 - 1) = τ3 88 i - 1 := by rw [(q88 τ3 u2).1]
    rw [x3] at v1
    unfold g_X12_boxing g_X12_boxing_b20
    rw [(i30 τ h30).1, ← h91, h11]
    refine e_t (i30 τ h30).2 (e_t (by rw [mw_id (by omega) (by omega), mw_id (z := 6) (by decide) (by decide)]; omega) (e_mob y1 (e_t (by decide) ?_)))
    rw [(i30 τ1 t1).1, show τ1 91 i = (n : Int) by rw [y2.1 91 (by decide), ← h91, h11], t1, show 6 * (i : Int) + (n : Int) = ((6 * i + n : Nat) : Int) by omega]
    refine e_t (mwR (by omega) (by decide)) (e_let (e_mob z1 ?_))
    rw [mwN (i := 6 * i + n) (by omega), ← ea]
    refine e_t (mwR (by omega) (by decide)) (e_mem (e_mob u1 ?_))
    rw [(i30 τ3 t3).1]
    refine e_t (i30 τ3 t3).2 (e_mob v1 (e_mob l1 (e_let ?_)))
    rw [(i30 τ5 t5).1]
    exact e_t (i30 τ5 t5).2 (e_mob hr hX)
  have chead : ∀ X, (if ¬ mw (σ4 14 7) = mw 3 then (g_X6_readBox_b76 F x cx σ4) else (mob (g_X5_boxStartingOn F p cx (σ4 14 9) σ4) (fun r11 σ12 => if mw r11 = mw (-1) then (g_X6_readBox_b76 F x cx σ12) else (mob (g_X8_refuseHere F 4 σ12) (fun r13 σ14 => g_X6_readBox_b76 F x cx σ14))))) = X → g_X6_readBox F σ = X := by
    intro X hX
    unfold g_X6_readBox
    refine e_mob a1 (e_mob b1 (e_mob d1 ?_))
    rw [show σ3 13 2 = (p : Int) by rw [d2.1 13 (by decide), f2.1 13 (by decide)]; exact h13, show ((p : Int)).toNat = p by omega, show σ3 p = σ p by rw [d2.1 p np, f2.1 p np]]
    refine e_t hpI (e_mob e1 ?_)
    by_cases cc : mw (σ4 14 7) = mw 3
    · rw [if_neg (fun e => e cc)] at hX
      refine e_f (fun e => e cc) ?_
      rw [r13, show ((p : Int)).toNat = p by omega]
      exact e_t hpI hX
    · rw [if_pos cc] at hX
      exact e_t cc hX
  have b76 : ∀ (σ5 σ6 : mMem) (ry : Int) (X : mRs), FN σ5 σ4 → g_X8_takeNumber F 0 (σ p 10 - 1) σ5 = some (ry, σ6) → (mob (g_X8_takeWord F 5 σ6) (fun r118 σ119 => if σ119 13 2 = 3 ∨ σ119 13 2 = 8 then mob (g_X8_takeNumber F 0 3 σ119) (fun r121 σ122 => mob (g_X5_addBox F (σ119 13 2).toNat x cx ry r121 σ122) (fun r123 σ124 => some ((0 : Int), σ124))) else none)) = X → g_X6_readBox_b76 F x cx σ5 = X := by
    intro σ5 σ6 ry X f hr hX
    unfold g_X6_readBox_b76
    rw [show σ5 13 2 = (p : Int) by rw [f.1 13 (by decide)]; exact r13, show ((p : Int)).toNat = p by omega, show σ5 p = σ p by rw [f.1 p np, p4]]
    exact e_t hpI (e_mob hr hX)
  have fin : ∀ (σ6 τ6 σ' τ' : mMem), FN σ6 σ4 → FR τ6 τa → Sj σ6 τ6 σ' τ' b l p i → Sj σ τ σ' τ' b l p i := by
    intro σ6 τ6 σ' τ' f g ⟨s1, ⟨s2, s3⟩, s4, s5⟩
    exact ⟨s1.tr ((f.tr ff).pc), ⟨s2.tr (g.pr.tr pra), BF.tr s3 (BF.tr g.bf bfa)⟩, s4, s5⟩
  -- where both go on together
  have go : ∀ (ry ry' : Int) (σ6 τ6 : mMem), g_X6_readBox_b76 F x cx σ4 = g_X6_readBox F σ → g_X8_takeNumber F 0 (σ p 10 - 1) σ4 = some (ry, σ6) → FN σ6 σ4 → g_X12_number F 0 (σ p 10 - 1) τ5 = some (ry', τ6) → FR τ6 τ5 → Mt σ6 τ6 b l → g_X12_boxing_h109 F F ((6 * i + n : Nat) : Int) cx' (τ5 86 4) ry' 0 τ6 = g_X12_boxing_b167 F ((6 * i + n : Nat) : Int) cx' ry' τ6 → ((∃ s, CTk σ6 b l s) → ry' = ry ∧ (0 ≤ ry ∧ ry < σ p 10) ∧ ∃ s, CTk σ4 b l s) → ∃ σ' τ', g_X6_readBox F σ = some (0, σ') ∧ g_X12_boxing F τ = some (0, τ') ∧ Sj σ τ σ' τ' b l p i := by
    intro ry ry' σ6 τ6 q0 q1 q2 q3 q4 q5 q6 q7
    have g6 : FR τ6 τa := q4.tr g5
    obtain ⟨σ', τ', j1, j2, j3⟩ := j_btail (F := F) (n := n) (x := x) (cx := cx) (ry := ry) (cx' := cx') (ry' := ry') hF hb q5 (k5.fn q2 q4) hn (by rw [q2.1 p np, p4]; exact h11) (fun lv => by
      obtain ⟨r1, r2, r3⟩ := q7 lv
      obtain ⟨r4, lv3⟩ := e5 r3
      obtain ⟨s4, c4⟩ := r3
      have e84 : τ4 86 8 = 0 := (v3.live c4).2
      obtain ⟨r5, -, e83, -⟩ := v4 e84
      have lv2 : ∃ s, CTk σ2 b l s := by
        rcases Ma.2 with ⟨s, cc, -⟩ | ⟨fk, fp, d, -⟩
        · exact ⟨s, cc⟩
        · obtain ⟨s3, cc3⟩ := lv3
          obtain ⟨σ9, m1, m2, m3⟩ := c_wordd (F := F) (k := 4) d (by decide)
          have := (some_inj (m1.symm.trans d1)).2
          rw [this] at m3
          exact (cc3.nd m3).elim
      obtain ⟨s2, c2⟩ := lv2
      obtain ⟨nm, -⟩ := z4 (z3.live c2).2
      refine ⟨?_, ⟨r5, r1⟩, ?_, ?_⟩
      · rw [g6.1 102 (by decide), ea, mup_at rfl rfl]; exact nm
      · rw [q2.1 p np, p4]; omega
      · rw [q2.1 p np, p4]; exact r2)
    refine ⟨σ', τ', ?_, rhead ry' τ6 _ q3 (q6.trans j2), fin σ6 τ6 σ' τ' q2 g6 j3⟩
    rw [← q0]
    exact b76 σ4 σ6 ry _ FN.rfl' q1 j1
  have rg4 := e3.rg hb
  obtain ⟨ry, σ6, m1, m2, m3, m4, m5, m6⟩ := j_num (F := F) (x := 0) (y := σ p 10 - 1) hF hb (by decide) (by omega) e3
  obtain ⟨ry', τ6, n1, n2, n3, n4⟩ := m6 τ5 (σ p 10 - 1) l3 (fun _ => rfl)
  have lvq : (∃ s, CTk σ6 b l s) → ry' = ry ∧ (0 ≤ ry ∧ ry < σ p 10) ∧ ∃ s, CTk σ4 b l s := fun lv => by
    obtain ⟨s6, c6⟩ := lv
    obtain ⟨r1, r2, -, r3⟩ := n4 (n3.live c6).2
    exact ⟨r1, by omega, r3⟩
  obtain ⟨F', eF⟩ : ∃ F', F = F' + 1 := ⟨F - 1, by omega⟩
  have t6 : τ6 86 30 = (i : Int) := by rw [n2.2 30 (by decide)]; exact t5
  by_cases c7 : σ4 14 7 = 3
  · rcases l4 with ⟨s4, c4, et, rs, e8, vw⟩ | ⟨fk, fp, d, x8, x9⟩
    · have nr := vw.num.2.2 c7
      have cxr := e4
      have sb : g_X5_boxStartingOn F p cx (σ4 14 9) σ4 = some (xWho (cB σ4 (p + 3)) cx (σ4 14 9) n, σ4) := by
        unfold g_X5_boxStartingOn
        rw [show σ4 p 11 = (n : Int) by rw [p4]; exact h11]
        refine e_mob (z_boxIn rfl (by omega) (by omega) ⟨by omega, by omega⟩ ⟨by omega, by omega⟩ (fun k hk' => ?_)) rfl
        have := (hB k (by rw [h11]; omega)).2.2.1
        have e0 : σ4 (p + 3) = σ (p + 3) := ff.1 _ (by omega)
        unfold cB sml
        rw [e0]
        have h0 : σ (p + 3) (10 * k + 0) = σ (p + 3) (10 * k) := rfl
        rw [h0]
        omega
      have e92 : ∀ j, j < n → τ6 92 (6 * i + j) = 9 * σ4 (p + 3) (10 * j + 1) + σ4 (p + 3) (10 * j) ∧ (0 ≤ σ4 (p + 3) (10 * j) ∧ σ4 (p + 3) (10 * j) ≤ 8 ∧ 0 ≤ σ4 (p + 3) (10 * j + 1) ∧ σ4 (p + 3) (10 * j + 1) < σ p 10) := fun j hj => by
        have := hB j (by rw [h11]; omega)
        rw [v92 τ6 (n2.tr g5), ff.1 (p + 3) (by omega)]
        exact ⟨this.2.1, by have := this.2.2.1; omega⟩
      by_cases cw : xWho (cB σ4 (p + 3)) cx (σ4 14 9) n = -1
      · have bx : g_X6_readBox_b76 F x cx σ4 = g_X6_readBox F σ := (chead _ (e_f (fun e => e (by rw [c7])) (e_mob sb (e_t (by rw [cw]) rfl)))).symm
        refine go ry ry' σ6 τ6 bx m1 m2 n1 n2 n3 ?_ lvq
        by_cases d8 : τ6 86 8 = 0
        · obtain ⟨r1, r2, r3, r4⟩ := n4 d8
          by_cases inr : 0 ≤ σ4 14 9 ∧ σ4 14 9 ≤ σ p 10 - 1
          · obtain ⟨σv, q1, q2⟩ := j_numv (F := F) (x := 0) (y := σ p 10 - 1) hF hb (by decide) (by omega) c4 c7 inr
            have er := (some_inj (m1.symm.trans q1)).1
            have cxe : cx' = cx := by
              have e84 : τ4 86 8 = 0 := (v3.live c4).2
              exact (v4 e84).1
            refine (r_bx (F := F) hi (by omega) (by rw [cxe]; omega) (by omega) n 0 F τ6 (by omega) (by omega) t6 (v91 τ6 (n2.tr g5)) d8 (fun j hj => by have := e92 j hj; omega)).1 (fun j j1 j2 e => ?_)
            have := e92 j j2
            refine (xWho_no n).mp cw j j2 ⟨?_, ?_⟩
            · show σ4 (p + 3) (10 * j + 0) = cx
              rw [show 10 * j + 0 = 10 * j from rfl]
              omega
            · show σ4 (p + 3) (10 * j + 1) = σ4 14 9
              omega
          · exfalso
            obtain ⟨s6, c6⟩ := r4
            have cs : g_X8_takeNumber F 0 (σ p 10 - 1) σ4 = some (ry, σ6) := m1
            -- out of range: it is refused
            obtain ⟨σd, q1, q2, q3⟩ := c_ref (F := F) (x := 4) c4 (by decide) c4.le
            obtain ⟨τd, q4, q5, q6, q7⟩ := r_die (F := F) l3 c4 q3
            have : g_X12_number F 0 (σ p 10 - 1) τ5 = some (τd 86 6, τd) := by
              unfold g_X12_number g_X12_number_b30 g_X12_number_b58 g_X12_number_b74
              rw [et] at l1 q4 ⊢
              obtain ⟨τz, o1, o2, o3, o4⟩ := r_lex (F := F) v3
              have ez : τz = τ4 := by
                rcases o4 with ⟨s', q1', q2', -⟩ | ⟨fk, fp, d, -⟩
                · exact q2'
                · exact (c4.nd d).elim
              rw [ez] at o1
              refine e_mob o1 ?_
              rw [e8, vw.num.1.mpr c7, nr.1]
              refine e_t (by decide) (e_t (by decide) (e_f (fun e => e rfl) (e_mob (zr_isi (by omega)) ?_)))
              rw [mb_f inr]
              refine e_f (by decide) (e_mob q4 (e_let ?_))
              rw [q7]
              exact e_t (by decide) rfl
            have ee := (some_inj (n1.symm.trans this)).2
            rw [ee, q7] at d8
            omega
        · rw [eF]
          exact r_bxd hi t6 (n3.e8 d8).1
      · -- a box stands there
        have hit : ∃ k, k < n ∧ σ4 (p + 3) (10 * k) = cx ∧ σ4 (p + 3) (10 * k + 1) = σ4 14 9 := by
          have rgx := xWho_rng (A := cB σ4 (p + 3)) (c := cx) (r := σ4 14 9) n
          by_cases h : ∃ k, k < n ∧ σ4 (p + 3) (10 * k) = cx ∧ σ4 (p + 3) (10 * k + 1) = σ4 14 9
          · exact h
          · exact absurd ((xWho_no n).mpr (fun k hk' e => h ⟨k, hk', e⟩)) cw
        obtain ⟨k, hkn, hk0, hk1⟩ := hit
        have ek := e92 k hkn
        obtain ⟨σv, q1, q2⟩ := j_numv (F := F) (x := 0) (y := σ p 10 - 1) hF hb (by decide) (by omega) c4 c7 (by omega)
        obtain ⟨τv, q3, q4, q5, q6⟩ := q2 τ5 l3
        obtain ⟨σ5, o1, o2, o3⟩ := c_ref (F := F) (x := 4) c4 (by decide) c4.le
        obtain ⟨σ7, i1, i2, i3⟩ := c_numd (F := F) (x := 0) (y := σ p 10 - 1) o3
        have cxe : cx' = cx := by
          have e84 : τ4 86 8 = 0 := (v3.live c4).2
          exact (v4 e84).1
        obtain ⟨τw, ew⟩ : ∃ q, q = mup (mup τv 86 8 4) 86 9 (τ5 86 4) := ⟨_, rfl⟩
        have fw : FR τw τv := by rw [ew]; exact (FR.rfl'.up (by decide)).up (by decide)
        have w8 : τw 86 8 = 4 := by rw [ew, mup_ne (by decide), mup_at rfl rfl]
        have w9 : τw 86 9 = (s4 : Int) := by rw [ew, mup_at rfl rfl, et, ← vw.1]; exact c4.2.2.2.2.1
        have Mw : Mt σ7 τw b l := ⟨q5.1.fr fw, Or.inr ⟨4, (s4 : Int), i3, Or.inl ⟨w8, w9⟩⟩⟩
        have rb := (r_bx (F := F) (x1 := ((6 * i + n : Nat) : Int)) (y := τ5 86 4) (c := cx') (r := σ4 14 9) hi (by omega) (by rw [cxe]; omega) (by omega) n 0 F τv (by omega) (by omega) (by rw [q4.2 30 (by decide)]; exact t5) (v91 τv (q4.tr g5)) q6 (fun j hj => by
          have := e92 j hj
          rw [v92 τv (q4.tr g5), ← v92 τ6 (n2.tr g5)]; omega)).2 (fun h => h k (by omega) hkn (by
          rw [v92 τv (q4.tr g5), ← v92 τ6 (n2.tr g5), ek.1, hk0, hk1, cxe]))
        rw [← ew] at rb
        have f7 : FN σ7 σ4 := i2.tr o2
        obtain ⟨σ', τ', j1, j2, j3⟩ := j_btail (F := F) (n := n) (x := x) (cx := cx) (ry := 0) (cx' := cx') (ry' := σ4 14 9) hF hb Mw (k5.fn f7 (fw.tr q4)) hn (by rw [f7.1 p np, p4]; exact h11) (fun ⟨s', c'⟩ => (c'.nd i3).elim)
        refine ⟨σ', τ', chead _ (e_f (fun e => e (by rw [c7])) (e_mob sb (e_f ?_ (e_mob o1 (b76 σ5 σ7 0 _ o2 i1 j1))))), rhead _ τv _ q3 (rb.trans j2), fin σ7 τw σ' τ' f7 (fw.tr (q4.tr g5)) j3⟩
        have rgx := xWho_rng (A := cB σ4 (p + 3)) (c := cx) (r := σ4 14 9) n
        rw [mw_id (by omega) (by omega), show mw (-1) = -1 by decide]
        exact cw
    · have := d.2.2.2.1
      omega
  · have bx : g_X6_readBox_b76 F x cx σ4 = g_X6_readBox F σ := (chead _ (e_t (by rw [mw_id (by omega) (by omega), show mw 3 = 3 by decide]; exact c7) rfl)).symm
    refine go ry ry' σ6 τ6 bx m1 m2 n1 n2 n3 ?_ lvq
    have d8 : ¬ τ6 86 8 = 0 := by
      intro e
      obtain ⟨r1, r2, r3, s', c'⟩ := n4 e
      obtain ⟨rs, e8⟩ := l3.live c'
      have vw := c'.vw l3.1 rs
      obtain ⟨σd, q1, q2, q3⟩ := c_ref (F := F) (x := 1) c' (by decide) c'.le
      obtain ⟨τd, q4, q5, q6, q7⟩ := r_die (F := F) l3 c' q3
      have : g_X12_number F 0 (σ p 10 - 1) τ5 = some (τd 86 6, τd) := by
        obtain ⟨τz, o1, o2, o3, o4⟩ := r_lex (F := F) l3
        have ez : τz = τ5 := by
          rcases o4 with ⟨s'', q1', q2', -⟩ | ⟨fk, fp, d, -⟩
          · exact q2'
          · exact (c'.nd d).elim
        rw [ez] at o1
        have vn := vw.num
        unfold g_X12_number g_X12_number_b30 g_X12_number_b58 g_X12_number_b74
        refine e_mob o1 ?_
        rw [e8]
        refine e_t (by decide) (e_f (by rw [mw_id (by omega) (by omega), show mw 2 = 2 by decide]; exact fun e => c7 (vn.1.mp e)) (e_mob q4 ?_))
        rw [q7]
        exact e_t (by decide) (e_let (e_t (by decide) rfl))
      have ee := (some_inj (n1.symm.trans this)).2
      rw [ee, q7] at e
      omega
    rw [eF]
    exact r_bxd hi t6 (n3.e8 d8).1
/-- a box from a dead class -/
theorem c_boxd {F p : Nat} {σ : mMem} {fk fp : Int} (d : DdC σ fk fp) (hp : p = 3 ∨ p = 8) (h13 : σ 13 2 = (p : Int)) (h11 : σ p 11 = 6) : ∃ σ', g_X6_readBox F σ = some (0, σ') ∧ FN σ' σ ∧ DdC σ' fk fp := by
  have np : p ≠ 14 := by omega
  obtain ⟨σ1, a1, a2, a3⟩ := c_refd (F := F) (x := 1) d
  obtain ⟨σ2, b1, b2, b3⟩ := c_wordd (F := F) (k := 4) a3 (by decide)
  obtain ⟨σ3, c1, c2, c3⟩ := c_numd (F := F) (x := 0) (y := σ2 p 9 - 1) b3
  obtain ⟨σ4, d1, d2, d3⟩ := c_numd (F := F) (x := 0) (y := σ3 p 10 - 1) c3
  obtain ⟨σ5, e1, e2, e3⟩ := c_wordd (F := F) (k := 5) d3 (by decide)
  obtain ⟨σ6, f1, f2, f3⟩ := c_numd (F := F) (x := 0) (y := 3) e3
  have r2 : σ2 13 2 = (p : Int) := by rw [(b2.tr a2).1 13 (by decide)]; exact h13
  have r3 : σ3 13 2 = (p : Int) := by rw [c2.1 13 (by decide)]; exact r2
  have r5 : σ5 13 2 = (p : Int) := by rw [(e2.tr d2).1 13 (by decide)]; exact r3
  have ff : FN σ6 σ := f2.tr (e2.tr (d2.tr (c2.tr (b2.tr a2))))
  refine ⟨σ6, ?_, ff, f3⟩
  unfold g_X6_readBox
  refine e_mob (c_nextd d) (e_mob (r := 0) (σ := σ1) ?_ (e_mob b1 ?_))
  · unfold g_X6_takeNewName g_X6_takeNewName_b48
    rw [d.2.2.2.1]
    refine e_f (by decide) (e_mob a1 (e_let ?_))
    rw [a3.2.2.2.2]
    exact e_mob (c_nextd a3) rfl
  · rw [r2, show ((p : Int)).toNat = p by omega]
    refine e_t (by omega) (e_mob c1 ?_)
    rw [c3.2.2.2.1]
    refine e_t (by decide) ?_
    unfold g_X6_readBox_b76
    rw [r3, show ((p : Int)).toNat = p by omega]
    refine e_t (by omega) (e_mob d1 (e_mob e1 ?_))
    rw [r5, show ((p : Int)).toNat = p by omega]
    refine e_t (by omega) (e_mob f1 (e_mob (r := 0) (σ := σ6) ?_ rfl))
    unfold g_X5_addBox g_X5_addBox_b16
    rw [show σ6 p 11 = 6 by rw [ff.1 p np]; exact h11]
    exact e_f (by decide) (e_f (by decide) rfl)
