/-! LAYER 2: steps, whole -/
theorem j_steps {F p n k : Nat} {π σa : mMem} {lamp S : Int} (hF : 2000 ≤ F) (hn : n ≤ 6) (hp : p = 3 ∨ p = 8) (hπ : PEq σa π p) (hP : PlC π p) (h11 : π p 11 = (n : Int)) (hl : 0 ≤ lamp ∧ lamp ≤ 9) (hk : k ≤ 100) : ∀ (d m fuel : Nat) (step : Int) (A : Nat → Nat → Int) (T : Int) (ring : Nat → Int) (υ : mMem) (acc : Int), d + m = k → d < fuel → (0 ≤ step ∧ step + d ≤ 999) → (0 ≤ T ∧ T ≤ 10000000) → T + 6 * d ≤ 10000000 → (∀ j, j < n → BR (π p 9) (π p 10) (A j)) → CNw p n lamp step A T ring S υ σa → ∃ (x : Int) (σ1 : mMem) (step' : Int) (A' : Nat → Nat → Int) (T' : Int) (ring' : Nat → Int), g_X11_steps_h35 F fuel (k : Int) acc (m : Int) υ = some (x, σ1) ∧ CNw p n lamp step' A' T' ring' S σ1 σa ∧ (∀ j, j < n → BR (π p 9) (π p 10) (A' j)) ∧ (0 ≤ step' ∧ step' ≤ 999) ∧ T' ≤ T + 6 * d ∧ ∀ τa τ, PlR π p τa → τa 86 57 = -1 → τa 86 60 = -1 → τa 86 62 = 0 → RNw n lamp step A T ring S τ τa → ∃ τ', g_X12_steps_h25 F fuel (k : Int) acc (m : Int) τ = some (x, τ') ∧ RNw n lamp step' A' T' ring' S τ' τa := by
  intro d
  induction d with
  | zero =>
    intro m fuel step A T ring υ acc h1 h2 h3 h4 h5 h6 h
    obtain ⟨f, rfl⟩ : ∃ f, fuel = f + 1 := ⟨fuel - 1, by omega⟩
    refine ⟨acc, υ, step, A, T, ring, ?_, h, h6, by omega, by omega, fun τa τ _ _ _ _ hr => ⟨τ, ?_, hr⟩⟩
    · unfold g_X11_steps_h35
      exact e_t (by rw [mw_id (by omega) (by omega), mw_id (by omega) (by omega)]; omega) rfl
    · unfold g_X12_steps_h25
      exact e_t (by rw [mw_id (by omega) (by omega), mw_id (by omega) (by omega)]; omega) rfl
  | succ d ih =>
    intro m fuel step A T ring υ acc h1 h2 h3 h4 h5 h6 h
    obtain ⟨f, rfl⟩ : ∃ f, fuel = f + 1 := ⟨fuel - 1, by omega⟩
    obtain ⟨υ1, a1, a2⟩ := h.step (F := F) (π := π) hF hn hp hπ hP h11 hl (by omega) (by omega) h6
    have xr : T ≤ (xK π p lamp step 0 0 A n (T, ring)).1 ∧ (xK π p lamp step 0 0 A n (T, ring)).1 ≤ T + n := xK_rng (π := π) (p := p) (lamp := lamp) (step := step) (made := 0) (delay := 0) (A := A) (s := (T, ring)) n
    obtain ⟨x, σ1, step', A', T', ring', t1, t2, t3, t4, t5, t6⟩ := ih (m + 1) f (step + 1) _ _ _ υ1 (acc + xSum (xWf π p lamp step 0 0 A) n) (by omega) (by omega) (by omega) (by omega) (by omega) (xPs_BR h6 n) a2
    refine ⟨x, σ1, step', A', T', ring', ?_, t2, t3, t4, by omega, fun τa τ q1 q2 q3 q4 hr => ?_⟩
    · rw [← t1]
      conv => lhs; unfold g_X11_steps_h35
      refine e_f (by rw [mw_id (by omega) (by omega), mw_id (by omega) (by omega)]; omega) (e_mob a1 (e_let ?_))
      rw [show ((m + 1 : Nat) : Int) = (m : Int) + 1 by omega]
    · obtain ⟨τ1, b1, b2, b3⟩ := hr.step (F := F) (p := p) (m := m) (π := π) hF hn (by omega) q1 hP h11 hl (by omega) q2 q3 q4 h6
      obtain ⟨τ', u1, u2⟩ := t6 τa τ1 q1 q2 q3 q4 b2
      refine ⟨τ', ?_, u2⟩
      rw [← u1]
      conv => lhs; unfold g_X12_steps_h25
      have f01 : ∀ j, j < n → xWf π p lamp step 0 0 A j = 0 ∨ xWf π p lamp step 0 0 A j = 1 := fun j _ => xWf01
      have rg := xBits_rng f01
      have p6 := pow_le6 hn
      have pb := pc_bits hn f01
      have bt : g_X12_bits F (τ1 86 63) τ1 = some (xSum (xWf π p lamp step 0 0 A) n, τ1) := by
        rw [b3]
        unfold g_X12_bits
        have := zr_bits (F := F) (τ := τ1) (pc (xBits (xWf π p lamp step 0 0 A) n).toNat) (xBits (xWf π p lamp step 0 0 A) n).toNat F 0 rfl (by omega) (by
          have := xSum_rng f01
          omega)
        rw [show (((xBits (xWf π p lamp step 0 0 A) n).toNat : Nat) : Int) = xBits (xWf π p lamp step 0 0 A) n by omega, pb, Int.zero_add] at this
        exact this
      refine e_f (by rw [mw_id (by omega) (by omega), mw_id (by omega) (by omega)]; omega) (e_mob b1 (e_mob bt (e_let ?_)))
      rw [show ((m + 1 : Nat) : Int) = (m : Int) + 1 by omega]
/-- at the beginning of an act -/
theorem Rel.begin {σ σa : mMem} {p s n : Nat} {N : Int} (r : Rel σ p s N) (h11 : σ p 11 = (n : Int)) (a2 : ∀ q, ¬ (56 ≤ q ∧ q ≤ 75) → q ≠ 54 → σa q = σ q) (a3 : ∀ j, j ≠ 3 → j ≠ 4 → σa 54 j = σ 54 j) : CNw p n (σ 20 5) (σ 20 4) (cB σ 21) (σ 54 2) (σ 76) (σ 0 12) σa σa ∧ ∀ τa : mMem, LE τa 0 σ 0 → (∀ j, j ≠ 52 → j ≠ 53 → τa 86 j = σ 86 j) → (∀ q, 88 ≤ q → q ≤ 101 → τa q = σ q) → RNw n (σ 20 5) (σ 20 4) (cB σ 21) (σ 54 2) (σ 76) (σ 0 12) τa τa ∧ PlR σ p τa ∧ τa 86 57 = -1 ∧ τa 86 60 = -1 ∧ τa 86 62 = 0 := by
  obtain ⟨hp, h08, h08n, h20, h20n, hP, hR, h11', h9, h10, hB, hst, hla, h57, h60, h62⟩ := r.now
  obtain ⟨⟨s1, s2, s3, s4, s5⟩, -⟩ := r.2.2.2.2.2.1
  have hs := r.2.2.2.1
  have e20 : σa 20 = σ 20 := a2 20 (by decide) (by decide)
  refine ⟨⟨fun j _ g _ => by show σa 21 (10 * j + g) = σ 21 (10 * j + g); rw [a2 21 (by decide) (by decide)], by rw [e20]; omega, by rw [e20], by rw [e20], a3 2 (by decide) (by decide), a2 76 (by decide) (by decide), by rw [a2 0 (by decide) (by decide)], fun _ _ => rfl, fun _ _ => rfl, rfl, rfl, rfl⟩, fun τa le h86 hq => ?_⟩
  have e13 : τa 86 13 = σ 86 13 := h86 13 (by decide) (by decide)
  have e57 : τa 86 57 = -1 := by rw [h86 57 (by decide) (by decide)]; exact h57
  have e60 : τa 86 60 = -1 := by rw [h86 60 (by decide) (by decide)]; exact h60
  refine ⟨⟨fun j hj => ?_, by rw [le.1]; exact s2.1, by rw [le.2.1]; exact s3.1, s4.copy le.2.2.1 (fun k hk => le.2.2.2.2 k (by have := s4.2.1; omega) hk), by rw [h86 54 (by decide) (by decide)]; exact hs.1, fun _ _ _ => rfl, fun _ _ => rfl, fun _ _ _ _ => rfl, fun _ _ _ => LE.rfl'⟩, hR.same hq e13, e57, e60, by rw [h86 62 (by decide) (by decide)]; exact h62⟩
  have er : rB τa 0 j = rB σ 0 j := rB_pl h57 e57 h60 e60 e13 (hq 94 (by decide) (by decide)) (hq 95 (by decide) (by decide)) (hq 96 (by decide) (by decide)) (fun q q1 q2 => le.2.2.2.1 q q1 q2 j (by omega))
  have ec := le.2.2.2.1 112 (by decide) (by decide) j (by omega)
  have := (hB j (by omega)).2.1.1
  rw [show 6 * 0 + j = j by omega] at ec this
  rw [er, ec]
  exact ⟨fun g hg => ((hB j (by omega)).1 g hg).symm, this⟩
theorem zr_ref2 {F : Nat} {σ : mMem} : mob (g_X12_refuses F 2 (mup σ 85 2 (σ 85 2 + 1))) (fun r5 σ6 => some (r5, σ6)) = some (-1, mup (mup σ 85 2 (σ 85 2 + 1)) 109 2 (σ 109 2 + 1)) := by
  refine e_mob (zr_refuses (k := 2) (by decide)) ?_
  rw [mup_ne (o := 85) (by decide)]
theorem a_steps {F : Nat} {σ : mMem} {p s : Nat} {N x : Int} (hF : 2000 ≤ F) (hN : N ≤ 10000) (hx : i32 x) (r : Rel σ p s N) : Alk (g_X11_steps F x) (g_X12_steps F x) σ N := by
  obtain ⟨hp, h08, h08n, h20, h20n, hP, hR, h11, h9, h10, hB, hst, hla, h57, h60, h62⟩ := r.now
  obtain ⟨⟨s1, s2, s3, s4, s5⟩, -⟩ := r.2.2.2.2.2.1
  have hs := r.2.2.2.1
  obtain ⟨n, en⟩ : ∃ n : Nat, σ p 11 = (n : Int) := ⟨(σ p 11).toNat, by omega⟩
  unfold Alk g_X11_steps g_X12_steps
  by_cases c : 1 ≤ x ∧ x ≤ 100 ∧ σ 20 4 ≤ 999 - x
  · obtain ⟨k, ek⟩ : ∃ k : Nat, x = (k : Int) := ⟨x.toNat, by omega⟩
    subst ek
    obtain ⟨σa, a1, a2, a3, a4⟩ := r.do hF
    obtain ⟨bc, br⟩ := r.begin en a2 a3
    have pe : PEq σa σ p := ⟨a2 p (by omega) (by omega), a2 (p + 1) (by omega) (by omega), a2 (p + 4) (by omega) (by omega)⟩
    obtain ⟨w, σ1, step', A', T', ring', t1, t2, t3, t4, t5, t6⟩ := j_steps (F := F) (p := p) (n := n) (k := k) (π := σ) (σa := σa) hF (by omega) hp pe hP en hla.2 (by omega) k 0 F (σ 20 4) (cB σ 21) (σ 54 2) (σ 76) σa 0 (by omega) (by omega) (by omega) ⟨s4.1, by omega⟩ (by omega) (fun j hj => (hB j (by omega)).2.2) bc
    obtain ⟨τa, b1, b2, b3, b4, b5⟩ := a4 σ1 t2.2.2.2.2.2.2.2
    have low : ∀ q, 88 ≤ q → q ≤ 101 → τa q = σ q := fun q q1 q2 => by rw [b3 q (by omega), t2.2.2.2.2.2.2.2.1 q (by omega), a2 q (by omega) (by omega)]
    obtain ⟨rr, rp, r57, r60, r62⟩ := br τa b2 b4 low
    obtain ⟨τ', u1, u2⟩ := t6 τa τa rp r57 r60 r62 rr
    obtain ⟨fS, fN⟩ := RN.fin (N := N + 1) hp (by omega) pe.1 en t3 t4 hla.2 (by omega) hs.2 t2 u2 b3 r57 r60 r62
    refine ⟨w, σ1, τ', p, s, e_mob (zc_may hx hst.2 (by decide) (by decide)) ?_, e_mob (zr_ahead hx (by rw [t2.2.2.2.2.2.2.2.1 110 (by decide), a2 110 (by decide) (by decide), hst.1]; exact hst.2) (by decide) (by decide)) ?_, b5 τ' u2.2.2.2.2.2 fS fN⟩
    · rw [mb_t c]
      exact e_t (by decide) (e_mob a1 t1)
    · rw [t2.2.2.2.2.2.2.2.1 110 (by decide), a2 110 (by decide) (by decide), hst.1, mb_t c]
      exact e_t (by decide) (e_mob b1 u1)
  · refine ⟨-1, mup σ 85 2 (σ 85 2 + 1), mup (mup σ 85 2 (σ 85 2 + 1)) 109 2 (σ 109 2 + 1), p, s, e_mob (zc_may hx hst.2 (by decide) (by decide)) ?_, e_mob (zr_ahead hx (by rw [mup_off (by decide), hst.1]; exact hst.2) (by decide) (by decide)) ?_, r.refuse⟩
    · rw [mb_f c]
      exact e_f (by decide) (e_mob (zc_refuse (k := 2) (by decide)) rfl)
    · rw [mup_off (by decide), hst.1, mb_f c]
      exact e_f (by decide) zr_ref2
