/-! LAYER 2: kitchen, a box, whole -/
theorem PlK.bey {σ τ : mMem} {p i q k : Nat} {z : Int} (h : PlK σ τ p i) (hq : (92 ≤ q ∧ q ≤ 96) ∨ q = 102) (hk : σ p 11 ≤ (k : Int)) : PlK σ (mup τ q (6 * i + k) z) p i := by
  obtain ⟨k1, k2, k3, k4, k5⟩ := h
  have ot : ∀ o, o ≠ q → mup τ q (6 * i + k) z o = τ o := fun o ho => mup_off ho
  refine ⟨⟨k1.1, k1.2.1, k1.2.2.1, by rw [ot 86 (by omega)]; exact k1.2.2.2⟩, k2.cg rfl rfl rfl (fun o _ _ => ot o (by omega)), ?_, k4.cg (fun _ _ _ => rfl) (ot 97 (by omega)), k5.cg (fun _ _ _ => rfl) rfl (by rw [ot 86 (by omega)]) (fun o _ _ => ot o (by omega))⟩
  obtain ⟨h1, h2, h3⟩ := k3
  refine ⟨by rw [ot 91 (by omega)]; exact h1, fun j hj => ?_, h3⟩
  have oj : ∀ o, mup τ q (6 * i + k) z o (6 * i + j) = τ o (6 * i + j) := fun o => mup_ne (by omega)
  have := h2 j hj
  unfold BxK at *
  rw [oj 102, oj 92, oj 93, oj 94, oj 95, oj 96]
  exact this
theorem j_btail {F l p i n : Nat} {σ τ : mMem} {b : Nat → Int} {x cx ry cx' ry' : Int} (hF : 2000 ≤ F) (hb : ∀ j, j < l → 0 ≤ b j ∧ b j ≤ 255) (hm : Mt σ τ b l) (hk : PlK σ τ p i) (hn : n < 6) (h11 : σ p 11 = (n : Int)) (hg : (∃ s, CTk σ b l s) → NmR x (τ 102 (6 * i + n)) ∧ (cx' = cx ∧ ry' = ry) ∧ (0 ≤ cx ∧ cx < σ p 9) ∧ (0 ≤ ry ∧ ry < σ p 10)) : ∃ σ' τ', (mob (g_X8_takeWord F 5 σ) (fun r118 σ119 => if σ119 13 2 = 3 ∨ σ119 13 2 = 8 then mob (g_X8_takeNumber F 0 3 σ119) (fun r121 σ122 => mob (g_X5_addBox F (σ119 13 2).toNat x cx ry r121 σ122) (fun r123 σ124 => some ((0 : Int), σ124))) else none)) = some (0, σ') ∧ g_X12_boxing_b167 F ((6 * i + n : Nat) : Int) cx' ry' τ = some (0, τ') ∧ Sj σ τ σ' τ' b l p i := by
  obtain ⟨hp, hi, h13, h30⟩ := hk.1
  have np : p ≠ 14 := by omega
  obtain ⟨τa, ea⟩ : ∃ q, q = mup τ 92 (6 * i + n) (9 * ry' + cx') := ⟨_, rfl⟩
  have Ma : Mt σ τa b l := hm.cg (fun _ _ => rfl) (by rw [ea, mup_off (by decide)]) (fun j _ => by rw [ea, mup_off (by decide)])
  obtain ⟨σ1, a1, a2, a3, a4⟩ := j_word (F := F) (k := 5) hF hb (by decide) Ma.st
  obtain ⟨τ1, y1, y2, y3⟩ := a4 τa Ma
  obtain ⟨w, σ2, b1, b2, b3, b4, b5, b6⟩ := j_num (F := F) (x := 0) (y := 3) hF hb (by decide) (by decide) a3
  obtain ⟨w', τ2, z1, z2, z3, z4⟩ := b6 τ1 3 y3 (fun _ => rfl)
  have f2 : FN σ2 σ := b2.tr a2
  have g2 : FR τ2 τa := z2.tr y2
  obtain ⟨σ3, c1, c2, c3, c4, c5, c6, ⟨c7, c8, c9, c10, c11⟩, c12⟩ := c_addB (F := F) (p := p) (n := n) (σ := σ2) (x := x) (c := cx) (r := ry) (w := w) hn (by rw [f2.1 p np]; exact h11)
  have cls : (mob (g_X8_takeWord F 5 σ) (fun r118 σ119 => if σ119 13 2 = 3 ∨ σ119 13 2 = 8 then mob (g_X8_takeNumber F 0 3 σ119) (fun r121 σ122 => mob (g_X5_addBox F (σ119 13 2).toNat x cx ry r121 σ122) (fun r123 σ124 => some ((0 : Int), σ124))) else none)) = some (0, σ3) := by
    refine e_mob a1 ?_
    rw [show σ1 13 2 = (p : Int) by rw [a2.1 13 (by decide)]; exact h13, show ((p : Int)).toNat = p by omega]
    exact e_t (by omega) (e_mob b1 (e_mob c1 rfl))
  have keep : ∀ q, q = 1 ∨ (14 ≤ q ∧ q ≤ 18) → σ3 q = σ2 q := fun q hq => c2 q (by omega) (by omega) (by omega)
  have pc : FPc σ3 σ p := fun q q1 q2 q3 => (c2 q (by omega) (by omega) (by omega)).trans (f2.1 q q1)
  obtain ⟨τ3, e3⟩ : ∃ q, q = mup (mup (mup (mup τ2 93 (6 * i + n) w') 94 (6 * i + n) 1) 95 (6 * i + n) 1) 96 (6 * i + n) 0 := ⟨_, rfl⟩
  have t3 : ∀ q, q ≠ 93 → q ≠ 94 → q ≠ 95 → q ≠ 96 → τ3 q = τ2 q := fun q q1 q2 q3 q4 => by rw [e3, mup_off q4, mup_off q3, mup_off q2, mup_off q1]
  have pr3 : FPr τ3 τ := by
    rw [e3]
    exact ((((g2.pr.tr (by rw [ea]; exact (FR.rfl'.pr).up (by decide))).up (by decide)).up (by decide)).up (by decide)).up (by decide)
  have bf3 : BF τ3 τ i := by
    rw [e3]
    exact BF.up (o := 96) (x := n) (BF.up (o := 95) (x := n) (BF.up (o := 94) (x := n) (BF.up (o := 93) (x := n) (BF.tr g2.bf (by rw [ea]; exact BF.up (o := 92) (x := n) (FR.rfl'.bf) hi hn)) hi hn) hi hn) hi hn) hi hn
  have head : ∀ X, (if ¬ mw (τ3 86 8) = 0 then (g_X12_boxing_b240 F τ3) else (if 0 ≤ mw (τ3 86 30) ∧ mw (τ3 86 30) < (2 : Int) then if 0 ≤ mw (τ3 86 30) ∧ mw (τ3 86 30) < (2 : Int) then mlm (mup τ3 91 (mw (τ3 86 30)).toNat ((τ3 91 (mw (τ3 86 30)).toNat) + 1)) (fun σ327 => g_X12_boxing_b240 F σ327) else none else none)) = X → g_X12_boxing_b167 F ((6 * i + n : Nat) : Int) cx' ry' τ = X := by
    intro X hX
    unfold g_X12_boxing_b167
    have iR : 0 ≤ mw ((6 * i + n : Nat) : Int) ∧ mw ((6 * i + n : Nat) : Int) < 12 := mwR (by omega) (by decide)
    rw [mwN (i := 6 * i + n) (by omega), ← ea]
    refine e_t iR (e_mem (e_mob y1 (e_mob z1 (e_t iR (e_mem (e_t iR (e_mem (e_t iR (e_mem (e_t iR (e_mem ?_)))))))))))
    rw [← e3]
    exact hX
  have v8 : τ3 86 8 = τ2 86 8 := by rw [t3 86 (by decide) (by decide) (by decide) (by decide)]
  by_cases d8 : τ2 86 8 = 0
  · obtain ⟨τ4, e4⟩ : ∃ q, q = mup τ3 91 i (τ3 91 i + 1) := ⟨_, rfl⟩
    have t4 : ∀ q, q ≠ 91 → τ4 q = τ3 q := fun q hq => by rw [e4, mup_off hq]
    have v30 : τ3 86 30 = (i : Int) := by rw [t3 86 (by decide) (by decide) (by decide) (by decide), g2.2 30 (by decide), ea, mup_off (by decide)]; exact h30
    refine ⟨σ3, τ4, cls, head _ ?_, pc, ⟨by rw [e4]; exact pr3.up (by decide), by rw [e4]; exact BF.upe (o := 91) (x := 0) bf3 hi (show i = 1 * i + 0 by omega) (by decide)⟩, z3.cg keep (by rw [t4 87 (by decide), t3 87 (by decide) (by decide) (by decide) (by decide)]) (fun j _ => by rw [t4 86 (by decide), t3 86 (by decide) (by decide) (by decide) (by decide)]), fun lv => ?_⟩
    · rw [v8, d8, v30, mwN (i := i) (by omega), ← e4]
      exact e_f (fun e => e rfl) (e_t (mwR (by omega) (by decide)) (e_t (mwR (by omega) (by decide)) (e_mem rfl)))
    · have lv2 := CTk.of keep lv
      obtain ⟨rw', lv1⟩ := b5 lv2
      have lv0 : ∃ s, CTk σ b l s := by
        rcases Ma.2 with ⟨s, cc, -⟩ | ⟨fk, fp, d, -⟩
        · exact ⟨s, cc⟩
        · obtain ⟨s1, cc1⟩ := lv1
          obtain ⟨σ9, q1, q2, q3⟩ := c_wordd (F := F) (k := 5) d (by decide)
          have := (some_inj (q1.symm.trans a1)).2
          rw [this] at q3
          exact (cc1.nd q3).elim
      obtain ⟨g1, ⟨g2', g3⟩, g4, g5⟩ := hg lv0
      obtain ⟨ew, -⟩ := z4 d8
      obtain ⟨k1, k2, ⟨⟨m1, m1'⟩, m2, m3⟩, k4, k5⟩ := hk.fn f2 (FR.rfl' (τ := τ))
      have tq : ∀ q, q ≠ 86 → q ≠ 91 → q ≠ 92 → q ≠ 93 → q ≠ 94 → q ≠ 95 → q ≠ 96 → τ4 q = τ q := fun q q0 q1 q2 q3 q4 q5 q6 => by rw [t4 q q1, t3 q q3 q4 q5 q6, g2.1 q q0, ea, mup_off q2]
      have t86 : ∀ j, j = 29 ∨ j = 30 → τ4 86 j = τ 86 j := fun j hj => by rw [t4 86 (by decide), t3 86 (by decide) (by decide) (by decide) (by decide), g2.2 j (by omega), ea, mup_off (by decide)]
      have p2 : σ2 p = σ p := f2.1 p np
      have v91 : τ4 91 i = (n : Int) + 1 := by
        rw [e4, mup_at rfl rfl, t3 91 (by decide) (by decide) (by decide) (by decide), g2.1 91 (by decide), ea, mup_off (by decide), ← m1, p2, h11]
      have other : ∀ q j, 92 ≤ q → q ≤ 96 → j ≠ 6 * i + n → τ4 q j = τ q j := fun q j q1 q2 hj => by
        rw [t4 q (by omega), e3, mup_ne (by omega), mup_ne (by omega), mup_ne (by omega), mup_ne (by omega), g2.1 q (by omega), ea, mup_ne (by omega)]
      have nw92 : τ4 92 (6 * i + n) = 9 * ry + cx := by rw [t4 92 (by decide), t3 92 (by decide) (by decide) (by decide) (by decide), g2.1 92 (by decide), ea, mup_at rfl rfl, g3, g2']
      have nw93 : τ4 93 (6 * i + n) = w := by rw [t4 93 (by decide), e3, mup_off (by decide), mup_off (by decide), mup_off (by decide), mup_at rfl rfl, ew]
      have nw94 : τ4 94 (6 * i + n) = 1 := by rw [t4 94 (by decide), e3, mup_off (by decide), mup_off (by decide), mup_at rfl rfl]
      have nw95 : τ4 95 (6 * i + n) = 1 := by rw [t4 95 (by decide), e3, mup_off (by decide), mup_at rfl rfl]
      have nw96 : τ4 96 (6 * i + n) = 0 := by rw [t4 96 (by decide), e3, mup_at rfl rfl]
      have t102 : τ4 102 = τ 102 := tq 102 (by decide) (by decide) (by decide) (by decide) (by decide) (by decide) (by decide)
      have z0 : ∀ f, f < 10 → σ2 (p + 3) (10 * n + f) = 0 := fun f hf => m3 n f (by rw [p2, h11]; omega) hn hf
      refine ⟨⟨hp, hi, by rw [c2 13 (by omega) (by omega) (by omega)]; exact k1.2.2.1, by rw [t86 30 (by decide)]; exact h30⟩, k2.cg (c3 9 (by decide)) (c3 10 (by decide)) (c2 _ (by omega) (by omega) (by omega)) (fun q q1 q2 => tq q (by omega) (by omega) (by omega) (by omega) (by omega) (by omega) (by omega)), ⟨⟨by rw [c4, v91], by rw [c4]; omega⟩, fun k hk' => ?_, fun k f h1 h2 h3 => ?_⟩, k4.cg (fun j _ _ => c3 j (by omega)) (tq 97 (by decide) (by decide) (by decide) (by decide) (by decide) (by decide) (by decide)), k5.cg (fun j _ _ => c3 j (by omega)) (c2 _ (by omega) (by omega) (by omega)) (t86 29 (by decide)) (fun q _ _ => tq q (by omega) (by omega) (by omega) (by omega) (by omega) (by omega) (by omega))⟩
      · rw [c4] at hk'
        by_cases ek : k = n
        · subst ek
          refine ⟨by rw [c5, t102]; exact g1, by rw [nw92, c7, c8], by rw [c7, c8, c3 9 (by decide), c3 10 (by decide), p2]; exact ⟨g4.1, g4.2, g5.1, g5.2⟩, by rw [nw93, c9]; exact ⟨rfl, rw'⟩, by rw [nw94, c10]; decide, by rw [nw95, c11]; decide, by rw [nw96, c12 _ (by omega) (by omega) (by omega) (by omega) (by omega), z0 7 (by decide)]; decide, by rw [c12 _ (by omega) (by omega) (by omega) (by omega) (by omega), z0 4 (by decide)], by rw [c12 _ (by omega) (by omega) (by omega) (by omega) (by omega), z0 8 (by decide)]⟩
        · have kn : k < n := by omega
          have := m2 k (by rw [p2, h11]; omega)
          have o3 : ∀ f, f < 10 → σ3 (p + 3) (10 * k + f) = σ2 (p + 3) (10 * k + f) := fun f hf => c12 _ (by omega) (by omega) (by omega) (by omega) (by omega)
          unfold BxK at *
          rw [c6 k ek, t102, other 92 _ (by decide) (by decide) (by omega), other 93 _ (by decide) (by decide) (by omega), other 94 _ (by decide) (by decide) (by omega), other 95 _ (by decide) (by decide) (by omega), other 96 _ (by decide) (by decide) (by omega), c3 9 (by decide), c3 10 (by decide), show σ3 (p + 3) (10 * k) = σ2 (p + 3) (10 * k) from o3 0 (by decide), o3 1 (by decide), o3 2 (by decide), o3 4 (by decide), o3 5 (by decide), o3 6 (by decide), o3 7 (by decide), o3 8 (by decide)]
          exact this
      · rw [c4] at h1
        rw [c12 _ (by omega) (by omega) (by omega) (by omega) (by omega)]
        exact m3 k f (by rw [p2, h11]; omega) h2 h3
  · refine ⟨σ3, τ3, cls, head _ ?_, pc, ⟨pr3, bf3⟩, z3.cg keep (by rw [t3 87 (by decide) (by decide) (by decide) (by decide)]) (fun j _ => by rw [t3 86 (by decide) (by decide) (by decide) (by decide)]), fun lv => absurd (CTk.of keep lv) (z3.e8 d8).2⟩
    rw [v8]
    exact e_t (by rw [mw_id (by have := (z3.e8 d8).1; omega) (by have := (z3.e8 d8).1; omega)]; exact d8) rfl
theorem r_bxd {F i fuel : Nat} {x1 c y r : Int} {τ : mMem} (hi : i = 0 ∨ i = 1) (h30 : τ 86 30 = (i : Int)) (hz : 1 ≤ τ 86 8 ∧ τ 86 8 ≤ 6) : g_X12_boxing_h109 F (fuel + 1) x1 c y r 0 τ = g_X12_boxing_b167 F x1 c r τ := by
  conv => lhs; unfold g_X12_boxing_h109
  rw [h30, mwN (i := i) (by omega)]
  refine e_t (mwR (by omega) (by decide)) ?_
  by_cases ck : mw (τ 91 i) ≤ mw 0
  · exact e_t ck rfl
  · exact e_f ck (e_t (by rw [mw_id (by omega) (by omega)]; omega) rfl)
theorem j_numv {F l s : Nat} {σ : mMem} {b : Nat → Int} {x y : Int} (hF : 2000 ≤ F) (hb : ∀ j, j < l → 0 ≤ b j ∧ b j ≤ 255) (hx : 0 ≤ x ∧ x ≤ 10000) (hy : -10000 ≤ y ∧ y ≤ 10000) (c : CTk σ b l s) (c3 : σ 14 7 = 3) (cr : x ≤ σ 14 9 ∧ σ 14 9 ≤ y) : ∃ σ', g_X8_takeNumber F x y σ = some (σ 14 9, σ') ∧ ∀ τ, Mt σ τ b l → ∃ τ', g_X12_number F x y τ = some (σ 14 9, τ') ∧ FR τ' τ ∧ Mt σ' τ' b l ∧ τ' 86 8 = 0 := by
  obtain ⟨r, σ', b1, b2, b3, b4, b5, b6⟩ := j_num (F := F) hF hb hx hy (Or.inl ⟨s, c⟩)
  obtain ⟨σ1, a1, a2, a3, a4⟩ := j_adv (F := F) hF hb c (c.lt (by omega))
  have cn : g_X8_takeNumber F x y σ = some (σ 14 9, σ1) := by
    unfold g_X8_takeNumber
    rw [mw_id (z := σ 14 7) (by omega) (by omega), mw_id (z := σ 14 9) (by omega) (by omega), mw_id (z := x) (by omega) (by omega), mw_id (z := y) (by omega) (by omega), mw_id (z := 3) (by decide) (by decide)]
    refine e_t c3 (e_f (by omega) (e_t cr.2 ?_))
    unfold g_X8_takeNumber_b37
    exact e_let (e_mob a1 rfl)
  refine ⟨σ1, cn, fun τ hm => ?_⟩
  obtain ⟨er, es⟩ := some_inj (b1.symm.trans cn)
  subst es
  obtain ⟨r', τ', z1, z2, z3, z4⟩ := b6 τ y hm (fun _ => rfl)
  obtain ⟨τ1, y1, y2, y3⟩ := a4 τ hm
  obtain ⟨rr, e8⟩ := hm.live c
  have y8 : τ1 86 8 = 0 := by rw [y2.2 8 (by decide) (by decide) (by decide) (by decide) (by decide) (by decide)]; exact e8
  have vw := c.vw hm.1 rr
  obtain ⟨v1, v2, v3⟩ := vw.num.2.2 c3
  have c2 : τ 86 3 = 2 := vw.num.1.mpr c3
  obtain ⟨τ0, l1, l2, l3, l4⟩ := r_lex (F := F) hm
  have e0 : τ0 = τ := by
    rcases l4 with ⟨s', q1, q2, -⟩ | ⟨fk, fp, d, -⟩
    · exact q2
    · exact (c.nd d).elim
  subst e0
  refine ⟨τ1, ?_, y2.fr, y3, y8⟩
  unfold g_X12_number g_X12_number_b30 g_X12_number_b58 g_X12_number_b74
  refine e_mob l1 ?_
  rw [e8, c2, v1]
  refine e_t (by decide) (e_t (by decide) (e_f (fun e => e rfl) (e_mob (zr_isi (by omega)) ?_)))
  rw [mb_t cr, v1, e8]
  exact e_t (by decide) (e_let (e_f (fun e => e rfl) (e_mob y1 rfl)))
