/-! LAYER 2: chance, whole -/
theorem j_chance {F p n k : Nat} {π σa : mMem} {lamp : Int} (hF : 2000 ≤ F) (hn : n ≤ 6) (hp : p = 3 ∨ p = 8) (h08 : σa 0 8 = (p : Int)) (hπ : PEq σa π p) (hP : PlC π p) (h11 : π p 11 = (n : Int)) (h14 : 0 ≤ π p 14 ∧ π p 14 ≤ 100) (hl : 0 ≤ lamp ∧ lamp ≤ 9) (hk : k ≤ 100) : ∀ (d m fuel : Nat) (step : Int) (A : Nat → Nat → Int) (T : Int) (ring : Nat → Int) (S : Int) (υ : mMem) (acc : Int), d + m = k → d < fuel → (0 ≤ step ∧ step + d ≤ 999) → (0 ≤ T ∧ T ≤ 10000000) → T + 6 * d ≤ 10000000 → (0 ≤ S ∧ S ≤ 2147483647) → (∀ j, j < n → BR (π p 9) (π p 10) (A j)) → CNw p n lamp step A T ring S υ σa → ∃ (x : Int) (σ1 : mMem) (step' : Int) (A' : Nat → Nat → Int) (T' : Int) (ring' : Nat → Int) (S' : Int), g_X11_chance_h35 F fuel (k : Int) acc (m : Int) υ = some (x, σ1) ∧ CNw p n lamp step' A' T' ring' S' σ1 σa ∧ (∀ j, j < n → BR (π p 9) (π p 10) (A' j)) ∧ (0 ≤ step' ∧ step' ≤ 999) ∧ T' ≤ T + 6 * d ∧ (0 ≤ S' ∧ S' ≤ 2147483647) ∧ ∀ τa τ, PlR π p τa → τa 97 (3 * (τa 86 13).toNat + 2) = π p 14 → τa 86 57 = -1 → τa 86 60 = -1 → τa 86 62 = 0 → RNw n lamp step A T ring S τ τa → ∃ τ', g_X12_chance_h25 F fuel (k : Int) acc (m : Int) τ = some (x, τ') ∧ RNw n lamp step' A' T' ring' S' τ' τa := by
  intro d
  induction d with
  | zero =>
    intro m fuel step A T ring S υ acc h1 h2 h3 h4 h5 hS h6 h
    obtain ⟨f, rfl⟩ : ∃ f, fuel = f + 1 := ⟨fuel - 1, by omega⟩
    refine ⟨acc, υ, step, A, T, ring, S, ?_, h, h6, by omega, by omega, hS, fun τa τ _ _ _ _ _ hr => ⟨τ, ?_, hr⟩⟩
    · unfold g_X11_chance_h35
      exact e_t (by rw [mw_id (by omega) (by omega), mw_id (by omega) (by omega)]; omega) rfl
    · unfold g_X12_chance_h25
      exact e_t (by rw [mw_id (by omega) (by omega), mw_id (by omega) (by omega)]; omega) rfl
  | succ d ih =>
    intro m fuel step A T ring S υ acc h1 h2 h3 h4 h5 hS h6 h
    obtain ⟨f, rfl⟩ : ∃ f, fuel = f + 1 := ⟨fuel - 1, by omega⟩
    obtain ⟨c, A1, S1, υ0, c01, z1, z2, z3, z4, z5⟩ := j_cat (F := F) (π := π) hn hp h08 hπ.1 h11 h14 hS h6 h
    obtain ⟨υ1, a1, a2⟩ := z2.step (F := F) (π := π) hF hn hp hπ hP h11 hl (by omega) (by omega) z3
    have xr : T ≤ (xK π p lamp step 0 0 A1 n (T, ring)).1 ∧ (xK π p lamp step 0 0 A1 n (T, ring)).1 ≤ T + n := xK_rng (π := π) (p := p) (lamp := lamp) (step := step) (made := 0) (delay := 0) (A := A1) (s := (T, ring)) n
    obtain ⟨x, σ1, step', A', T', ring', S', t1, t2, t3, t4, t5, t5', t6⟩ := ih (m + 1) f (step + 1) _ _ _ S1 υ1 (acc + c) (by omega) (by omega) (by omega) (by omega) (by omega) z4 (xPs_BR z3 n) a2
    have hlt : ¬ mw (k : Int) ≤ mw (m : Int) := by rw [mw_id (by omega) (by omega), mw_id (by omega) (by omega)]; omega
    refine ⟨x, σ1, step', A', T', ring', S', ?_, t2, t3, t4, by omega, t5', fun τa τ q1 q97 q2 q3 q4 hr => ?_⟩
    · rw [← t1]
      conv => lhs; unfold g_X11_chance_h35
      refine e_f hlt (e_mob z1 ?_)
      unfold g_X11_chance_b53
      rw [show ((m + 1 : Nat) : Int) = (m : Int) + 1 by omega]
      rcases c01 with rfl | rfl
      · exact e_t (by decide) (e_let (e_mob a1 rfl))
      · exact e_f (by decide) (e_let (e_mob a1 rfl))
    · obtain ⟨τ0, y1, y2⟩ := z5 τa τ q1 q97 hr
      obtain ⟨τ1, b1, b2, -⟩ := y1.step (F := F) (p := p) (m := m) (π := π) hF hn (by omega) q1 hP h11 hl (by omega) q2 q3 q4 z3
      obtain ⟨τ', u1, u2⟩ := t6 τa τ1 q1 q97 q2 q3 q4 b2
      refine ⟨τ', (y2 f _ _ _ hlt).trans ?_, u2⟩
      unfold g_X12_chance_b92
      refine e_mob b1 ?_
      rw [← u1, show ((m + 1 : Nat) : Int) = (m : Int) + 1 by omega]
theorem a_chance {F : Nat} {σ : mMem} {p s : Nat} {N x : Int} (hF : 2000 ≤ F) (hN : N ≤ 10000) (hx : i32 x) (r : Rel σ p s N) : Alk (g_X11_chance F x) (g_X12_chance F x) σ N := by
  obtain ⟨hp, h08, h08n, h20, h20n, hP, hR, h11, h9, h10, hB, hst, hla, h57, h60, h62⟩ := r.now
  obtain ⟨⟨s1, s2, s3, s4, s5⟩, -⟩ := r.2.2.2.2.2.1
  have h14 := r.2.2.2.2.1.2.2.2.2.1
  have hs := r.2.2.2.1
  obtain ⟨n, en⟩ : ∃ n : Nat, σ p 11 = (n : Int) := ⟨(σ p 11).toNat, by omega⟩
  unfold Alk g_X11_chance g_X12_chance
  by_cases c : 1 ≤ x ∧ x ≤ 100 ∧ σ 20 4 ≤ 999 - x
  · obtain ⟨k, ek⟩ : ∃ k : Nat, x = (k : Int) := ⟨x.toNat, by omega⟩
    subst ek
    obtain ⟨σa, a1, a2, a3, a4⟩ := r.do hF
    obtain ⟨bc, br⟩ := r.begin en a2 a3
    have pe : PEq σa σ p := ⟨a2 p (by omega) (by omega), a2 (p + 1) (by omega) (by omega), a2 (p + 4) (by omega) (by omega)⟩
    obtain ⟨w, σ1, step', A', T', ring', S', t1, t2, t3, t4, t5, t5', t6⟩ := j_chance (F := F) (p := p) (n := n) (k := k) (π := σ) (σa := σa) hF (by omega) hp (by rw [a2 0 (by decide) (by decide)]; omega) pe hP en h14.2 hla.2 (by omega) k 0 F (σ 20 4) (cB σ 21) (σ 54 2) (σ 76) (σ 0 12) σa 0 (by omega) (by omega) (by omega) ⟨s4.1, by omega⟩ (by omega) hs.2 (fun j hj => (hB j (by omega)).2.2) bc
    obtain ⟨τa, b1, b2, b3, b4, b5⟩ := a4 σ1 t2.2.2.2.2.2.2.2
    have low : ∀ q, 88 ≤ q → q ≤ 101 → τa q = σ q := fun q q1 q2 => by rw [b3 q (by omega), t2.2.2.2.2.2.2.2.1 q (by omega), a2 q (by omega) (by omega)]
    obtain ⟨rr, rp, r57, r60, r62⟩ := br τa b2 b4 low
    obtain ⟨τ', u1, u2⟩ := t6 τa τa rp (by rw [low 97 (by decide) (by decide), b4 13 (by decide) (by decide)]; exact h14.1) r57 r60 r62 rr
    obtain ⟨fS, fN⟩ := RN.fin (N := N + 1) hp (by omega) pe.1 en t3 t4 hla.2 (by omega) t5' t2 u2 b3 r57 r60 r62
    refine ⟨w, σ1, τ', p, s, e_mob (zc_may hx hst.2 (by decide) (by decide)) ?_, e_mob (zr_ahead hx (by rw [t2.2.2.2.2.2.2.2.1 110 (by decide), a2 110 (by decide) (by decide), hst.1]; exact hst.2) (by decide) (by decide)) ?_, b5 τ' u2.2.2.2.2.2 fS fN⟩
    · rw [mb_t c]
      exact e_t (by decide) (e_mob a1 t1)
    · rw [t2.2.2.2.2.2.2.2.1 110 (by decide), a2 110 (by decide) (by decide), hst.1, mb_t c]
      exact e_t (by decide) (e_mob b1 u1)
  · refine ⟨-1, mup σ 85 2 (σ 85 2 + 1), mup (mup σ 85 2 (σ 85 2 + 1)) 109 2 (σ 109 2 + 1), p, s, e_mob (zc_may hx hst.2 (by decide) (by decide)) ?_, e_mob (zr_ahead hx (by rw [mup_off (by decide), hst.1]; exact hst.2) (by decide) (by decide)) ?_, r.refuse⟩
    · rw [mb_f c]
      exact e_f (by decide) (e_mob (zc_refuse (k := 2) (by decide)) rfl)
    · rw [mup_off (by decide), hst.1, mb_f c]
      exact e_f (by decide) zr_ref2
