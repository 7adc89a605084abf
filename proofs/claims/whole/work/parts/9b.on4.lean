/-! LAYER 2: on, whole -/
theorem zc_h137_0 {F k : Nat} {υ : mMem} {x : Int} : g_X4_readInto_h137 F 20 (k + 1) 0 x υ = some (0, υ) := by
  unfold g_X4_readInto_h137 g_X4_readInto_b169 g_X4_readInto_b182
  exact e_t (by decide) (e_t (by decide) (e_t (by decide) rfl))
theorem j_on {F : Nat} {σ : mMem} {p s n l : Nat} {N : Int} (hF : 2000 ≤ F) (r : Rel σ p s N) (h11 : σ p 11 = (n : Int)) (h1 : σ 1 1 = (l : Int)) : ∃ (v : Int) (σr : mMem), (v = 0 ∨ v = 1) ∧ g_X4_readInto F 20 σ = some (v, σr) ∧ (v = 0 → FW σr σ) ∧ (v = 1 → (∀ q, q ≠ 20 → q ≠ 21 → ¬ (79 ≤ q ∧ q ≤ 84) → σr q = σ q) ∧ σr 20 3 = (p : Int) ∧ σr 20 4 = 256 * σ 2 0 + σ 2 1 ∧ σr 20 5 = σ 2 2 ∧ 256 * σ 2 0 + σ 2 1 ≤ 999 ∧ σ 2 2 ≤ 9 ∧ (l = 4 + 8 * n ∧ Tp (σ 2) l) ∧ (∀ j, j < n → ∀ f, f < 9 → cB σr 21 j f = xNw (σ 2) (cB σ 21) j f) ∧ ∀ j, j < n → okB (σ p 9) (σ p 10) (σ 2) j) ∧ ∀ τ0, PlR σ p τ0 → (∀ j, j < l → τ0 87 j = σ 2 j) → (0 ≤ τ0 117 0 ∧ τ0 117 0 ≤ 60) → ∃ τ', g_X12_comesOn F (l : Int) τ0 = some (v, τ') ∧ (∀ q, ¬ (110 ≤ q ∧ q ≤ 118) → τ' q = τ0 q) ∧ (∀ L, L < 22 → L ≠ 1 → LE τ' L τ0 L) ∧ (v = 1 → τ' 110 1 = 256 * σ 2 0 + σ 2 1 ∧ τ' 111 1 = σ 2 2 ∧ τ' 117 1 = 0 ∧ ∀ j, j < n → Bx τ' (σ 2) j) := by
  obtain ⟨hp, h08, h08n, h20, h20n, hP, hR, h11', h9, h10, hB, hst, hla, h57, h60, h62⟩ := r.now
  obtain ⟨t1, t2, t3⟩ := r.1
  have n6 : n ≤ 6 := by omega
  have hl16 : l ≤ 1600 := by omega
  have e20 : σ 20 3 = (p : Int) := by omega
  have head : ∀ X, (if (l : Int) - 1 = 3 + 8 * (n : Int) then (g_X4_readInto_h33 F 20 F ((l : Int) - 1) 179 0 σ) else (if mw 0 = 0 ∨ mw 0 = 1 then some (0, σ) else none)) = X → g_X4_readInto F 20 σ = X := by
    intro X hX
    unfold g_X4_readInto
    rw [h1]
    refine e_let ?_
    rw [h20n, h11, mw_id (z := (l : Int) - 1) (by omega) (by omega), mw_id (z := 3 + 8 * (n : Int)) (by omega) (by omega)]
    exact e_t h20 hX
  have rhead : ∀ τ0 X, PlR σ p τ0 → (if ¬ (l : Int) = 4 + 8 * (n : Int) then (g_X12_comesOn_b40 F τ0) else (mob (g_X12_twoBytes F 0 τ0) (fun r1 σ2 => if mw 999 < mw r1 then (g_X12_comesOn_b40 F σ2) else (if 0 ≤ mw 2 ∧ mw 2 < (1800 : Int) then if mw (σ2 87 (mw 2).toNat) ≤ mw 9 then (g_X12_comesOn_h48 F F (l : Int) 179 0 σ2) else (g_X12_comesOn_b40 F σ2) else none)))) = X → g_X12_comesOn F (l : Int) τ0 = X := by
    intro τ0 X hR0 hX
    have b13 := hR0.1
    unfold g_X12_comesOn
    rw [mw_id (z := τ0 86 13) (by omega) (by omega), hR0.2.2.2.1, h11, mw_id (z := (l : Int)) (by omega) (by omega), mw_id (z := 4 + 8 * (n : Int)) (by omega) (by omega)]
    exact e_t (by omega) hX
  by_cases c1 : l = 4 + 8 * n
  · have hT : Tp (σ 2) l := ⟨by omega, fun j hj => (t3 j (by omega)).2⟩
    have T := hT.2
    have q0 := T 0 (by omega)
    have q1 := T 1 (by omega)
    have q2 := T 2 (by omega)
    obtain ⟨m, hm⟩ : ∃ m, m + 1 = l := ⟨l - 1, by omega⟩
    have em : (l : Int) - 1 = (m : Int) := by omega
    have qm := T m (by omega)
    have ckr := xCk_rng (b := σ 2) m
    obtain ⟨f0, hf0⟩ := zc_ck (F := F) (l := l) (m := m) (σ := σ) (b := σ 2) (by omega) hm h1 (fun _ _ => rfl) hT m 0 F (by omega) (by omega)
    have at' : g_X7_at F (m : Int) σ = some (σ 2 m, σ) := zt_at (b := σ 2) (by omega) h1 rfl (by omega)
    obtain ⟨σc, s1, s2, s3, s4, s5, s6⟩ := zc_copyFrom (F := F) (o := 79) (w := 20) (σ := σ) h20 (by omega)
    obtain ⟨σ4, e4⟩ : ∃ y, y = mup (mup σc 79 4 (256 * σ 2 0 + σ 2 1)) 79 5 (σ 2 2) := ⟨_, rfl⟩
    have o4 : ∀ q, q ≠ 79 → q ≠ 80 → σ4 q = σ q := fun q g1 g2 => by rw [e4, mup_off g1, mup_off g1, s2 q g1 (by omega)]
    have v4 : σ4 79 4 = 256 * σ 2 0 + σ 2 1 := by rw [e4, mup_ne (by decide), mup_at rfl rfl]
    have v5 : σ4 79 5 = σ 2 2 := by rw [e4, mup_at rfl rfl]
    have v3 : σ4 79 3 = (p : Int) := by rw [e4, mup_ne (by decide), mup_ne (by decide), s4, e20]
    have v80 : ∀ j, j < 60 → σ4 80 j = σ 21 j := fun j hj => by rw [e4, mup_off (by decide), mup_off (by decide)]; exact s3 j hj
    have cl : ∀ X, (if xCk (σ 2) m = σ 2 m then (if (999 : Int) < 256 * σ 2 0 + σ 2 1 then (g_X4_readInto_h137 F 20 F 0 0 σ4) else (if (9 : Int) < σ 2 2 then (g_X4_readInto_h137 F 20 F 0 0 σ4) else (g_X4_readInto_h137 F 20 F 1 0 σ4))) else (some (0, σ))) = X → g_X4_readInto F 20 σ = X := by
      intro X hX
      refine head X ((if_pos (by omega)).trans ?_)
      rw [em]
      refine hf0.trans ?_
      unfold g_X4_readInto_h33 g_X4_readInto_b131 g_X4_readInto_b132
      refine e_t (Int.le_refl _) (e_mob at' ?_)
      rw [mw_id (z := xCk (σ 2) m) (by omega) (by omega), mw_id (z := σ 2 m) (by omega) (by omega)]
      by_cases c2 : xCk (σ 2) m = σ 2 m
      · rw [if_pos c2] at hX
        refine (if_pos c2).trans (e_mob s1 ?_)
        have p0 : g_X7_pairAt F 0 σc = some (256 * σ 2 0 + σ 2 1, σc) := zt_pair (F := F) (i := 0) (l := l) (μ := σc) (b := σ 2) (by omega) (by rw [s2 1 (by decide) (by decide)]; exact h1) (by rw [s2 2 (by decide) (by decide)]) (by rw [s2 2 (by decide) (by decide)]) (by omega)
        refine e_mob p0 (e_mem ?_)
        have p2 : g_X7_at F 2 (mup σc 79 4 (256 * σ 2 0 + σ 2 1)) = some (σ 2 2, mup σc 79 4 (256 * σ 2 0 + σ 2 1)) := zt_at (F := F) (i := 2) (l := l) (b := σ 2) (by omega) (by rw [mup_off (by decide), s2 1 (by decide) (by decide)]; exact h1) (by rw [mup_off (by decide), s2 2 (by decide) (by decide)]) (by omega)
        refine e_mob p2 (e_mem ?_)
        rw [← e4, v4, v5, mw_id (z := 256 * σ 2 0 + σ 2 1) (by omega) (by omega), mw_id (z := σ 2 2) (by omega) (by omega), mw_id (z := 999) (by decide) (by decide), mw_id (z := 9) (by decide) (by decide)]
        exact hX
      · rw [if_neg c2] at hX
        exact (if_neg c2).trans (e_t (by decide) hX)
    have rl : ∀ τ0 X, PlR σ p τ0 → (∀ j, j < l → τ0 87 j = σ 2 j) → (if (999 : Int) < 256 * σ 2 0 + σ 2 1 then some ((0 : Int), τ0) else (if σ 2 2 ≤ 9 then (if σ 2 m = xCk (σ 2) m then (mob (g_X12_copies F 1 0 τ0) (fun r203 σ204 => mob (g_X12_twoBytes F 0 σ204) (fun r205 σ206 => if 0 ≤ mw 1 ∧ mw 1 < (22 : Int) then mlm (mup σ206 110 (mw 1).toNat r205) (fun σ207 => if 0 ≤ mw 2 ∧ mw 2 < (1800 : Int) then if 0 ≤ mw 1 ∧ mw 1 < (22 : Int) then mlm (mup σ207 111 (mw 1).toNat (σ207 87 (mw 2).toNat)) (fun σ208 => if 0 ≤ mw 1 ∧ mw 1 < (22 : Int) then mlm (mup σ208 117 (mw 1).toNat 0) (fun σ209 => g_X12_comesOn_h128 F F 0 σ209) else none) else none else none) else none))) else some (0, τ0)) else some (0, τ0))) = X → g_X12_comesOn F (l : Int) τ0 = X := by
      intro τ0 X hR0 h87 hX
      refine rhead τ0 X hR0 ((if_neg (fun e => e (by omega))).trans ?_)
      refine e_mob (zr_two (i := 0) (b := σ 2) (by omega) (h87 0 (by omega)) (h87 1 (by omega)) q0 q1) ?_
      rw [show (mw 2).toNat = 2 by decide, h87 2 (by omega), show (0 : Nat) + 1 = 1 from rfl, mw_id (z := 256 * σ 2 0 + σ 2 1) (by omega) (by omega), mw_id (z := σ 2 2) (by omega) (by omega), mw_id (z := 999) (by decide) (by decide), mw_id (z := 9) (by decide) (by decide), ← hX]
      have b40 : g_X12_comesOn_b40 F τ0 = some (0, τ0) := e_t (by decide) rfl
      rw [b40]
      by_cases d1 : (999 : Int) < 256 * σ 2 0 + σ 2 1
      · exact (if_pos d1).trans (if_pos d1).symm
      · refine (if_neg d1).trans (Eq.trans ?_ (if_neg d1).symm)
        refine e_t (by decide) ?_
        by_cases d2 : σ 2 2 ≤ 9
        · refine (if_pos d2).trans (Eq.trans ?_ (if_pos d2).symm)
          obtain ⟨f1, hf1⟩ := zr_ck (F := F) (l := l) (m := m) (τ := τ0) (b := σ 2) (by omega) hm h87 hT m 0 F (by omega) (by omega)
          refine hf1.trans ?_
          conv => lhs; unfold g_X12_comesOn_h48
          rw [em, mwN (i := m) (by omega), h87 m (by omega), mw_id (z := xCk (σ 2) m) (by omega) (by omega), mw_id (z := σ 2 m) (by omega) (by omega)]
          refine e_t (Int.le_refl _) (e_t (mwR (by omega) (by decide)) ?_)
          by_cases d3 : σ 2 m = xCk (σ 2) m
          · exact (if_pos d3).trans (if_pos d3).symm
          · exact (if_neg d3).trans ((e_t (by decide) rfl).trans (if_neg d3).symm)
        · exact (if_neg d2).trans (if_neg d2).symm
    by_cases c2 : xCk (σ 2) m = σ 2 m
    · by_cases c3 : 256 * σ 2 0 + σ 2 1 ≤ 999 ∧ σ 2 2 ≤ 9
      · obtain ⟨v, υ', w1, w2, w3, w4, w5, w6⟩ := j_rb (F := F) (p := p) (n := n) (l := l) (σ := σ) (b := σ 2) hF n6 hp e20 h11 c1 h1 (fun _ _ => rfl) hT h9 h10 n 0 F σ4 (by omega) (by omega) (fun q hq => o4 q (by omega) (by omega)) v3 (fun j hj f hf => by
          rw [if_neg (by omega)]
          exact v80 (10 * j + f) (by omega)) (fun j hj => absurd hj (by omega))
        have ref : ∀ τ0, PlR σ p τ0 → (∀ j, j < l → τ0 87 j = σ 2 j) → (0 ≤ τ0 117 0 ∧ τ0 117 0 ≤ 60) → ∃ τ', g_X12_comesOn F (l : Int) τ0 = some (v, τ') ∧ (∀ q, ¬ (110 ≤ q ∧ q ≤ 118) → τ' q = τ0 q) ∧ (∀ L, L < 22 → L ≠ 1 → LE τ' L τ0 L) ∧ (v = 1 → τ' 110 1 = 256 * σ 2 0 + σ 2 1 ∧ τ' 111 1 = σ 2 2 ∧ τ' 117 1 = 0 ∧ ∀ j, j < n → Bx τ' (σ 2) j) := by
          intro τ0 hR0 h87 h17
          obtain ⟨τ1, b1, b2, b3, b4, b5, b6, b7, b8⟩ := zr_copies (F := F) (a := 1) (b := 0) (τ := τ0) hF (by decide) (by decide) (by decide) h17
          obtain ⟨τ2, e2⟩ : ∃ y, y = mup (mup (mup τ1 110 1 (256 * σ 2 0 + σ 2 1)) 111 1 (σ 2 2)) 117 1 0 := ⟨_, rfl⟩
          have o2 : ∀ q, q ≠ 110 → q ≠ 111 → q ≠ 117 → τ2 q = τ1 q := fun q g1 g2 g3 => by rw [e2, mup_off g3, mup_off g2, mup_off g1]
          have hR2 : PlR σ p τ2 := hR0.same (fun q g1 g2 => by rw [o2 q (by omega) (by omega) (by omega), b2 q (by omega)]) (by rw [o2 86 (by decide) (by decide) (by decide), b2 86 (by decide)])
          obtain ⟨τ', y1, y2, y3⟩ := w6 τ2 τ2 hR2 (fun j hj => by rw [o2 87 (by decide) (by decide) (by decide), b2 87 (by decide)]; exact h87 j hj) ⟨fun _ _ => rfl, fun _ _ _ _ _ => rfl⟩ (fun j hj => absurd hj (by omega))
          refine ⟨τ', rl τ0 _ hR0 h87 ((if_neg (by omega)).trans ((if_pos c3.2).trans ((if_pos c2.symm).trans (e_mob b1 ?_)))), fun q hq => by rw [y2.1 q (by omega), o2 q (by omega) (by omega) (by omega), b2 q (by omega)], fun L l1 l2 => ⟨by rw [y2.1 110 (by decide), e2, mup_off (by decide), mup_off (by decide), mup_ne (by omega), b3, mup1_ne (by omega)], by rw [y2.1 111 (by decide), e2, mup_off (by decide), mup_ne (by omega), mup_off (by decide), b4, mup1_ne (by omega)], by rw [y2.1 117 (by decide), e2, mup_ne (by omega), mup_off (by decide), mup_off (by decide), b5, mup1_ne (by omega)], fun q g1 g2 k hk => by rw [y2.2 q g1 g2 _ (by omega), o2 q (by omega) (by omega) (by omega), (b6 q g1 g2).1 _ (by omega)], fun k hk _ => by rw [y2.1 118 (by decide), o2 118 (by decide) (by decide) (by decide), b7 _ (by omega)]⟩, fun e => ⟨by rw [y2.1 110 (by decide), e2, mup_off (by decide), mup_off (by decide), mup_at rfl rfl], by rw [y2.1 111 (by decide), e2, mup_off (by decide), mup_at rfl rfl], by rw [y2.1 117 (by decide), e2, mup_at rfl rfl], y3 e⟩⟩
          refine e_mob (zr_two (i := 0) (b := σ 2) (by omega) (by rw [b2 87 (by decide)]; exact h87 0 (by omega)) (by rw [b2 87 (by decide)]; exact h87 1 (by omega)) q0 q1) (e_t (by decide) (e_mem (e_t (by decide) (e_t (by decide) (e_mem (e_t (by decide) (e_mem ?_)))))))
          rw [show (mw 1).toNat = 1 by decide, show (mw 2).toNat = 2 by decide, mup_off (o := 110) (q := 87) (by decide), b2 87 (by decide), h87 2 (by omega)]
          exact (congrArg (g_X12_comesOn_h128 F F 0) e2.symm).trans y1
        rcases w1 with rfl | rfl
        · refine ⟨0, υ', Or.inl rfl, cl _ ((if_pos c2).trans ((if_neg (by omega)).trans ((if_neg (by omega)).trans (w2.trans ?_)))), fun _ => w3, fun e => absurd e (by decide), ref⟩
          unfold g_X4_readInto_b169 g_X4_readInto_b182
          exact e_t (by decide) (e_t (by decide) rfl)
        · obtain ⟨σr, y1, y2, y3, y4, y5, y6⟩ := zc_copyFrom (F := F) (o := 20) (w := 79) (σ := υ') (by rw [w4, v3]; omega) (by omega)
          have w5' := w5 rfl
          refine ⟨1, σr, Or.inr rfl, cl _ ((if_pos c2).trans ((if_neg (by omega)).trans ((if_neg (by omega)).trans (w2.trans ?_)))), fun e => absurd e (by decide), fun _ => ⟨fun q g1 g2 g3 => by rw [y2 q g1 g2, w3 q g3], by rw [y4, w4, v3], by rw [y5, w4, v4], by rw [y6, w4, v5], c3.1, c3.2, ⟨c1, hT⟩, fun j hj f hf => ?_, w5'.2⟩, ref⟩
          · unfold g_X4_readInto_b169 g_X4_readInto_b182
            exact e_f (by decide) (e_mob y1 (e_t (by decide) rfl))
          · have e : cB σr 21 j f = cB υ' 80 j f := y3 (10 * j + f) (by omega)
            rw [e, w5'.1 j hj f hf, if_pos hj]
      · obtain ⟨F', hF'⟩ : ∃ k, F = k + 1 := ⟨F - 1, by omega⟩
        have z : g_X4_readInto_h137 F 20 F 0 0 σ4 = some (0, σ4) := by
          have : ∀ g, g = F' + 1 → g_X4_readInto_h137 F 20 g 0 0 σ4 = some (0, σ4) := fun g hg => by rw [hg]; exact zc_h137_0
          exact this F hF'
        refine ⟨0, σ4, Or.inl rfl, cl _ ((if_pos c2).trans ?_), fun _ q hq => o4 q (by omega) (by omega), fun e => absurd e (by decide), fun τ0 hR0 h87 _ => ⟨τ0, rl τ0 _ hR0 h87 ?_, fun _ _ => rfl, fun _ _ _ => LE.rfl', fun e => absurd e (by decide)⟩⟩
        · by_cases d1 : (999 : Int) < 256 * σ 2 0 + σ 2 1
          · exact (if_pos d1).trans z
          · exact (if_neg d1).trans ((if_pos (by omega)).trans z)
        · by_cases d1 : (999 : Int) < 256 * σ 2 0 + σ 2 1
          · exact if_pos d1
          · exact (if_neg d1).trans (if_neg (by omega))
    · refine ⟨0, σ, Or.inl rfl, cl _ (if_neg c2), fun _ _ _ => rfl, fun e => absurd e (by decide), fun τ0 hR0 h87 _ => ⟨τ0, rl τ0 _ hR0 h87 ?_, fun _ _ => rfl, fun _ _ _ => LE.rfl', fun e => absurd e (by decide)⟩⟩
      by_cases d1 : (999 : Int) < 256 * σ 2 0 + σ 2 1
      · exact if_pos d1
      · refine (if_neg d1).trans ?_
        by_cases d2 : σ 2 2 ≤ 9
        · exact (if_pos d2).trans (if_neg (fun e => c2 e.symm))
        · exact if_neg d2
  · refine ⟨0, σ, Or.inl rfl, head _ ((if_neg (by omega)).trans (e_t (by decide) rfl)), fun _ _ _ => rfl, fun e => absurd e (by decide), fun τ0 hR0 h87 _ => ⟨τ0, rhead τ0 _ hR0 ((if_pos (by omega)).trans ?_), fun _ _ => rfl, fun _ _ _ => LE.rfl', fun e => absurd e (by decide)⟩⟩
    exact e_t (by decide) rfl
