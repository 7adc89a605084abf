/-! LAYER 2: kitchen: a text that is taken -/
theorem a_taken {F p s i l : Nat} {σ σ' : mMem} {N r0 : Int} (hF : 2000 ≤ F) (r : Rel σ p s N) (hi : i = 0 ∨ i = 1) (h13 : σ 86 13 = 1 - (i : Int)) (cl : g_X6_readInto F s σ = some (r0, σ')) (fo : ∀ q, q ≠ 13 → ¬ (14 ≤ q ∧ q ≤ 19 ∧ q ≠ 15) → ¬ (s ≤ q ∧ q ≤ s + 4) → σ' q = σ q) (ck : σ' 14 10 = 0 ∧ σ' 14 11 = -1) (h11 : 0 ≤ σ' s 11 ∧ σ' s 11 ≤ 6) (kk : ∀ σC, σC 86 1 = σ 86 1 → σC 86 13 = σ 86 13 → σC 87 = σ 87 → ∃ τ0 τ' M, g_X12_kitchen F σC = g_X12_kitchen_b131 F M τ' ∧ Kst τ0 σC i ∧ EndK σ τ0 σ' τ' (σ 2) l s i r0 M) : Alk (g_X11_kitchen F) (g_X12_kitchen F) σ N := by
  have hps := r.2.2.2.2.1.1
  obtain ⟨h08, h09, h203⟩ := r.2.2.2.2.1.2.1
  have s38 : s = 3 ∨ s = 8 := by omega
  have p38 : p = 3 ∨ p = 8 := by omega
  have ts : ((s : Int)).toNat = s := by omega
  have tp : ((p : Int)).toNat = p := by omega
  obtain ⟨σ6, e6⟩ : ∃ y, y = mup (mup (mup σ' 1 1 0) 0 10 0) 0 11 (-1) := ⟨_, rfl⟩
  have o6 : ∀ q, q ≠ 0 → q ≠ 1 → σ6 q = σ' q := fun q q1 q2 => by rw [e6, mup_off q1, mup_off q1, mup_off q2]
  have f0 : σ' 0 = σ 0 := fo 0 (by decide) (by decide) (by omega)
  have z8 : σ6 0 8 = (p : Int) := by rw [e6, mup_ne (by decide), mup_ne (by decide), mup_off (by decide), f0, h08]
  have z9 : σ6 0 9 = (s : Int) := by rw [e6, mup_ne (by decide), mup_ne (by decide), mup_off (by decide), f0, h09]
  have z10 : σ6 0 10 = 0 := by rw [e6, mup_ne (by decide), mup_at rfl rfl]
  have z11 : σ6 0 11 = -1 := by rw [e6, mup_at rfl rfl]
  have z12 : σ6 0 12 = σ 0 12 := by rw [e6, mup_ne (by decide), mup_ne (by decide), mup_off (by decide), f0]
  have z1 : σ6 1 1 = 0 := by rw [e6, mup_off (by decide), mup_off (by decide), mup_at rfl rfl]
  obtain ⟨σ8, e8⟩ : ∃ y, y = mup (mup σ6 0 8 (s : Int)) 0 9 (p : Int) := ⟨_, rfl⟩
  have o8 : ∀ q, q ≠ 0 → σ8 q = σ6 q := fun q q1 => by rw [e8, mup_off q1, mup_off q1]
  have y8 : σ8 0 8 = (s : Int) := by rw [e8, mup_ne (by decide), mup_at rfl rfl]
  have y9 : σ8 0 9 = (p : Int) := by rw [e8, mup_at rfl rfl]
  have y0 : ∀ j, j ≠ 8 → j ≠ 9 → σ8 0 j = σ6 0 j := fun j j1 j2 => by rw [e8, mup_ne (by omega), mup_ne (by omega)]
  have o8s : ∀ q, q ≠ 0 → q ≠ 1 → σ8 q = σ' q := fun q q1 q2 => by rw [o8 q q1, o6 q q1 q2]
  obtain ⟨σB, b1, b2, b3, b4, b5, b6⟩ := zc_begin (F := F) (s := s) (n := (σ' s 11).toNat) (σ := σ8) hF s38 (by rw [o8s s (by omega) (by omega)]; omega) (by omega)
  obtain ⟨σC, eC⟩ : ∃ y, y = mup (mup (mup (mup σB 54 2 0) 54 3 0) 54 4 0) 35 3 0 := ⟨_, rfl⟩
  have oC : ∀ q, q ≠ 54 → q ≠ 35 → σC q = σB q := fun q q1 q2 => by rw [eC, mup_off q2, mup_off q1, mup_off q1, mup_off q1]
  have c8 : ∀ q, q ≠ 54 → q ≠ 35 → q ≠ 20 → q ≠ 21 → σC q = σ8 q := fun q q1 q2 q3 q4 => by rw [oC q q1 q2, b2 q q3 q4]
  have cls : g_X11_kitchen F σ = some (r0, σC) := by
    unfold g_X11_kitchen
    rw [h09, ts]
    refine e_t (by omega) (e_mob cl (e_mem (e_mem ?_)))
    rw [mup_off (o := 1) (q := 14) (by decide), ck.1]
    refine e_mem ?_
    rw [mup_off (o := 0) (q := 14) (by decide), mup_off (o := 1) (q := 14) (by decide), ck.2, ← e6, z8, z9, z10, ts, tp]
    refine e_t (by decide) (e_t (by omega) (e_t (by omega) (e_mem (e_mem ?_))))
    rw [← e8, y8, ts]
    refine e_t (by omega) (e_mob b1 (e_mob (r := 0) (σ := mup (mup (mup σB 54 2 0) 54 3 0) 54 4 0) rfl (e_mob (r := 0) (σ := σC) ?_ rfl)))
    rw [eC]
    rfl
  have cs : ∀ q, q ≠ 0 → q ≠ 1 → q ≠ 54 → q ≠ 35 → q ≠ 20 → q ≠ 21 → σC q = σ' q := fun q q1 q2 q3 q4 q5 q6 => by rw [c8 q q3 q4 q5 q6, o8s q q1 q2]
  have cq : ∀ q, 77 ≤ q → q ≤ 125 → σC q = σ q := fun q q1 q2 => by rw [cs q (by omega) (by omega) (by omega) (by omega) (by omega) (by omega)]; exact fo q (by omega) (by omega) (by omega)
  have c86 : σC 86 = σ 86 := cq 86 (by decide) (by decide)
  obtain ⟨τ0, τ', M, k1, k2, k3⟩ := kk σC (by rw [c86]) (by rw [c86]) (cq 87 (by decide) (by decide))
  obtain ⟨g1, g2, g3, -⟩ := kit_fr hi k2 k3 c86 (fun q q1 q2 => cq q (by omega) (by omega)) h13
  obtain ⟨pk, t8, t9, rM⟩ : PlK σ' τ' s i ∧ τ' 86 8 = 0 ∧ τ' 86 9 = -1 ∧ r0 = M := by
    rcases k3.2.2.2 with ⟨-, a2, a3, a4, -, a6⟩ | ⟨fk', fp', d', -⟩
    · exact ⟨a2, a3, a4, a6⟩
    · have x1 := d'.1.1
      have x2 := d'.2.1
      have x3 := ck.1
      omega
  clear k2 k3 kk
  obtain ⟨⟨-, -, -, t30⟩, pf, pb, pt, ⟨-, pc2⟩, pc3, pc4, pc5⟩ := pk
  obtain ⟨ω0, eo⟩ : ∃ y, y = mup (mup (mup τ' 86 10 0) 86 11 (-1)) 86 13 (i : Int) := ⟨_, rfl⟩
  have v0 : ∀ q, q ≠ 86 → ω0 q = τ' q := fun q hq => by rw [eo, mup_off hq, mup_off hq, mup_off hq]
  have v86 : ∀ j, j ≠ 10 → j ≠ 11 → j ≠ 13 → ω0 86 j = τ' 86 j := fun j j1 j2 j3 => by rw [eo, mup_ne (by omega), mup_ne (by omega), mup_ne (by omega)]
  have v13 : ω0 86 13 = (i : Int) := by rw [eo, mup_at rfl rfl]
  have v10 : ω0 86 10 = 0 := by rw [eo, mup_ne (by decide), mup_ne (by decide), mup_at rfl rfl]
  have v11 : ω0 86 11 = -1 := by rw [eo, mup_ne (by decide), mup_at rfl rfl]
  obtain ⟨ω, d1, d2, d3, d4, d5⟩ := zr_begin (F := F) (i := i) (τ := ω0) hF hi v13
  have ref : g_X12_kitchen F σC = some (r0, ω) := by
    rw [k1, rM]
    unfold g_X12_kitchen_b131
    rw [t8]
    refine e_mem ?_
    rw [mup_ne (o := 86) (j := 9) (by decide), t9]
    refine e_mem ?_
    rw [mup_ne (o := 86) (j := 8) (by decide), mup_ne (o := 86) (j := 8) (by decide), t8]
    refine e_t (by decide) ?_
    rw [mup_ne (o := 86) (j := 30) (by decide), mup_ne (o := 86) (j := 30) (by decide), t30]
    refine e_mem ?_
    rw [← eo]
    exact e_mob d1 rfl
  have wt : ∀ q, ((q < 86 ∨ (87 ≤ q ∧ q ≤ 109) ∨ 118 ≤ q)) → ω q = τ' q := fun q hq => by rw [d2 q hq, v0 q (by omega)]
  have wc : ∀ q, (q < 86 ∨ q = 109 ∨ 118 ≤ q) → ω q = σC q := fun q hq => by rw [wt q (by omega)]; exact g1 q (by omega)
  have w86 : ∀ j, j ≠ 10 → j ≠ 11 → j ≠ 13 → j ≠ 53 → j ≠ 66 → ω 86 j = τ' 86 j := fun j j1 j2 j3 j4 j5 => by rw [d3 j j4 j5, v86 j j1 j2 j3]
  have wp : ∀ q, s ≤ q → q ≤ s + 4 → ω q = σ' q := fun q q1 q2 => by rw [wc q (by omega), cs q (by omega) (by omega) (by omega) (by omega) (by omega) (by omega)]
  have ws : ω s = σ' s := wp s (by omega) (by omega)
  have ws1 : ω (s + 1) = σ' (s + 1) := wp _ (by omega) (by omega)
  have ws2 : ω (s + 2) = σ' (s + 2) := wp _ (by omega) (by omega)
  have ws3 : ω (s + 3) = σ' (s + 3) := wp _ (by omega) (by omega)
  have ws4 : ω (s + 4) = σ' (s + 4) := wp _ (by omega) (by omega)
  have w20 : ω 20 = σB 20 := by rw [wc 20 (by decide), oC 20 (by decide) (by decide)]
  have w21 : ω 21 = σB 21 := by rw [wc 21 (by decide), oC 21 (by decide) (by decide)]
  have w0 : ω 0 = σ8 0 := by rw [wc 0 (by decide), c8 0 (by decide) (by decide) (by decide) (by decide)]
  have wb : ∀ q, 88 ≤ q → q ≤ 102 → ω q = τ' q := fun q q1 q2 => wt q (by omega)
  have s8 : σ8 s = σ' s := o8s s (by omega) (by omega)
  refine ⟨r0, σC, ω, s, p, cls, ref, new_rel r hi (by rw [d3 13 (by decide) (by decide)]; exact v13) ?_ ?_ ?_ (by rw [ws]; exact pc2.2) ?_ ?_ ?_ ⟨by rw [w0]; exact y8, by rw [w0]; exact y9, by rw [w0, y0 12 (by decide) (by decide)]; exact z12, by rw [w0, y0 10 (by decide) (by decide)]; exact z10, by rw [w0, y0 11 (by decide) (by decide)]; exact z11⟩ ⟨by rw [w86 1 (by decide) (by decide) (by decide) (by decide) (by decide)]; exact g3, by rw [d3 10 (by decide) (by decide)]; exact v10, by rw [d3 11 (by decide) (by decide)]; exact v11, d4.1, d4.2.1⟩ (fun j hj => by rw [w86 j (by omega) (by omega) (by omega) (by omega) (by omega)]; exact g2 j (by omega)) (by rw [wc 1 (by decide), c8 1 (by decide) (by decide) (by decide) (by decide), o8 1 (by decide)]; exact z1) ⟨by rw [w20]; exact b3.1, by rw [w20]; exact b3.2.1, by rw [w20, ws, b3.2.2, s8]⟩ (fun k hk => ?_) (fun k f hk hf hf3 => ?_) ⟨?_, ?_, ?_⟩ ?_ (fun q hq => by rw [wc q (by omega)]; exact cq q (by omega) (by omega)) ⟨d4.2.2.1, ?_, d4.2.2.2.2⟩ (fun k hk => ?_)⟩
  · unfold FlK at *
    rw [ws, ws1, wb 88 (by decide) (by decide), wb 89 (by decide) (by decide), wb 90 (by decide) (by decide)]
    exact pf
  · unfold BsK BxK at *
    rw [ws, ws2, ws3, wb 91 (by decide) (by decide), wb 92 (by decide) (by decide), wb 93 (by decide) (by decide), wb 94 (by decide) (by decide), wb 95 (by decide) (by decide), wb 96 (by decide) (by decide), wb 102 (by decide) (by decide)]
    exact pb
  · unfold TdK at *
    rw [ws, wb 97 (by decide) (by decide)]
    exact pt
  · rw [ws, ws4, wb 100 (by decide) (by decide), wb 101 (by decide) (by decide)]
    exact pc3
  · unfold FoK at *
    rw [ws, ws4, wb 98 (by decide) (by decide), wb 99 (by decide) (by decide)]
    exact pc4
  · unfold FoK at *
    rw [ws, ws4, wb 98 (by decide) (by decide), wb 99 (by decide) (by decide)]
    exact pc5
  · rw [ws] at hk
    rw [w21, ws, b5 k (by omega), s8]
  · rw [ws] at hk
    rw [w21, ws3, b6 (10 * k + f) (by omega) (fun x hx => by omega), o8s (s + 3) (by omega) (by omega)]
  · rw [wc 54 (by decide), eC, mup_off (by decide), mup_ne (by decide), mup_ne (by decide), mup_at rfl rfl]
  · rw [wc 54 (by decide), eC, mup_off (by decide), mup_ne (by decide), mup_at rfl rfl]
  · rw [wc 54 (by decide), eC, mup_off (by decide), mup_at rfl rfl]
  · rw [wc 35 (by decide), eC, mup_at rfl rfl]
  · rw [d4.2.2.2.1, v0 97 (by decide), wb 97 (by decide) (by decide)]
  · rw [wb 92 (by decide) (by decide), wb 93 (by decide) (by decide), wb 97 (by decide) (by decide), ← v0 92 (by decide), ← v0 93 (by decide), ← v0 97 (by decide)]
    exact d5 k hk
theorem a_kitchen {F p s : Nat} {σ : mMem} {N : Int} (hF : 2000 ≤ F) (hN : N ≤ 10000) (hO : Own σ) (r : Rel σ p s N) : Alk (g_X11_kitchen F) (g_X12_kitchen F) σ N := by
  obtain ⟨t1, t2, t3⟩ := r.1
  have hps := r.2.2.2.2.1.1
  have h13 : σ 86 13 = 0 ∨ σ 86 13 = 1 := r.2.2.2.2.1.2.2.2.1.1
  obtain ⟨l, el⟩ : ∃ l : Nat, σ 1 1 = (l : Int) := ⟨(σ 1 1).toNat, by omega⟩
  obtain ⟨i, ei⟩ : ∃ i : Nat, i = 1 - (σ 86 13).toNat := ⟨_, rfl⟩
  have hi : i = 0 ∨ i = 1 := by omega
  have e13 : σ 86 13 = 1 - (i : Int) := by omega
  obtain ⟨r0, σ', cl, kk⟩ := j_kit2 (F := F) (l := l) (p := s) (i := i) (σ := σ) (b := σ 2) hF (by omega) hi (by omega) el rfl hO (by rw [t1]; exact el) (fun j hj => t3 j (by omega)) e13
  obtain ⟨τ0, τ', M, -, -, e1, -, -, e4⟩ := kk σ rfl rfl rfl
  rcases e4 with ⟨c, k, -, -, f, -⟩ | ⟨fk, fp, d, -⟩
  · exact a_taken hF r hi e13 cl e1 ⟨c.2.1, f⟩ k.2.2.1.1.2 kk
  · exact a_refused hN r hi e13 cl e1 d kk
