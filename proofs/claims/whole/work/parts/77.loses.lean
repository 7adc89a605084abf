/-! LAYER 2: loses, jam, gap -/
theorem mob_sm {r : Int} {σ : mMem} {k : Int → mMem → mRs} : mob (some (r, σ)) k = k r σ := rfl
theorem mw1' : mw 1 = 1 := by decide
theorem mw0' : mw 0 = 0 := by decide
theorem i10 : ((1 : Int) = 0) = False := by simp
theorem xSum_rng {f : Nat → Int} : ∀ {n : Nat}, (∀ j, j < n → f j = 0 ∨ f j = 1) → 0 ≤ xSum f n ∧ xSum f n ≤ n
  | 0, _ => by unfold xSum; omega
  | n + 1, h => by
    have ih := xSum_rng (f := f) (n := n) (fun j hj => h j (by omega))
    unfold xSum
    rcases h n (by omega) with e | e <;> rw [e] <;> omega
theorem j_loses {F p n b : Nat} {π σ0 : mMem} {lamp step last v : Int} {A : Nat → Nat → Int} (hF : 2000 ≤ F) (q : QC π p n lamp step 0 A) (hσ : PEq σ0 π p) (hb : b < n) (hlast : last = min 80 (999 - step)) (hv : 1 ≤ v ∧ v ≤ 99) : ∀ (d m fuel : Nat) (υ : mMem), (d : Int) + m = last → d < fuel → CR π p n lamp step 0 A m 29 υ σ0 → ∃ x σ', g_X0_stepsToLoss_h19 F 20 fuel (b : Int) v last ((m + 1 : Nat) : Int) υ = some (x, σ') ∧ FC σ' σ0 ∧ ∀ τ0 τ, QR π p step 0 τ0 → LR π p n lamp step 0 A (m + 1) τ τ0 → ∃ τ', g_X12_loses_h28 F fuel (b : Int) v ((m + 1 : Nat) : Int) τ = some (x, τ') ∧ TryF τ' τ0 := by
  have n6 := q.1.1
  have hs := q.2.2.2.2.1
  intro d
  induction d with
  | zero =>
    intro m fuel υ h1 h2 h
    obtain ⟨f, rfl⟩ : ∃ f, fuel = f + 1 := ⟨fuel - 1, by omega⟩
    refine ⟨-1, υ, ?_, h.1, fun τ0 τ hr hL => ⟨τ, ?_, hL.1⟩⟩
    · unfold g_X0_stepsToLoss_h19
      exact e_t (by rw [mw_id (by omega) (by omega), mw_id (by omega) (by omega)]; omega) rfl
    · unfold g_X12_loses_h28
      have e0 := hL.s0 hr.2.2.2.2
      refine e_mob (zr_ahead (by omega) (by omega) (by decide) (by decide)) ?_
      rw [mb_f (by rw [e0]; omega)]
      exact e_t (by decide) rfl
  | succ d ih =>
    intro m fuel υ h1 h2 h
    obtain ⟨f, rfl⟩ : ∃ f, fuel = f + 1 := ⟨fuel - 1, by omega⟩
    obtain ⟨υ1, a1, a2, -⟩ := q.c (F := F) (made := 0) hF hσ (by omega) (by decide) (fun _ _ => made0) h
    have B4 : υ1 (29 + 1) (10 * b + 4) = xIt π p n lamp step 0 A (m + 1) b 4 := a2.2.1 b hb 4 (by decide)
    have R4 := (xIt_BR (lamp := lamp) (step := step) (delay := 0) q.2.2.2.2.2.2 (m + 1) b hb).2.2.2.1
    have hc : ∀ X, (if xIt π p n lamp step 0 A (m + 1) b 4 < v then (g_X0_stepsToLoss_h19 F 20 f (b : Int) v last ((m + 1 + 1 : Nat) : Int) υ1) else (some (((m + 1 : Nat) : Int), υ1))) = X → g_X0_stepsToLoss_h19 F 20 (f + 1) (b : Int) v last ((m + 1 : Nat) : Int) υ = X := by
      intro X hX
      unfold g_X0_stepsToLoss_h19 g_X0_stepsToLoss_b40
      refine e_f (by rw [mw_id (by omega) (by omega), mw_id (by omega) (by omega)]; omega) (e_f (by rw [mw_id (by omega) (by omega)]; omega) (e_mob a1 (e_mob (zo_4 (by omega)) ?_)))
      rw [B4, mw_id (z := xIt π p n lamp step 0 A (m + 1) b 4) (by omega) (by omega), mw_id (z := v) (by omega) (by omega), ← hX, show ((m + 1 + 1 : Nat) : Int) = ((m + 1 : Nat) : Int) + 1 by omega]
    have hl : ∀ τ0 τ X, QR π p step 0 τ0 → LR π p n lamp step 0 A (m + 1) τ τ0 → (if xIt π p n lamp step 0 A (m + 1) b 4 < v then (mob (g_X12_passes F 1 ((m + 1 : Nat) : Int) τ) (fun r209 σ210 => (g_X12_loses_h28 F f) (b : Int) v ((m + 1 + 1 : Nat) : Int) σ210)) else (some (((m + 1 : Nat) : Int), τ))) = X → g_X12_loses_h28 F (f + 1) (b : Int) v ((m + 1 : Nat) : Int) τ = X := by
      intro τ0 τ X hr hL hX
      have e0 := hL.s0 hr.2.2.2.2
      have b4 := (hL.2.1 b hb).1 4 (by decide)
      rw [rB_4, show 6 * 1 + b = 6 + b by omega] at b4
      unfold g_X12_loses_h28
      refine e_mob (zr_ahead (by omega) (by omega) (by decide) (by decide)) ?_
      rw [mb_t (by rw [e0]; omega)]
      refine e_f (by decide) ?_
      rw [mw_id (z := 6 + (b : Int)) (by omega) (by omega), show (6 + (b : Int)).toNat = 6 + b by omega, b4, mw_id (z := xIt π p n lamp step 0 A (m + 1) b 4) (by omega) (by omega), mw_id (z := v) (by omega) (by omega)]
      refine e_t (by omega) ?_
      rw [← hX, show ((m + 1 + 1 : Nat) : Int) = ((m + 1 : Nat) : Int) + 1 by omega]
    by_cases c : xIt π p n lamp step 0 A (m + 1) b 4 < v
    · obtain ⟨x, σ', t1, t2, t3⟩ := ih (m + 1) f υ1 (by omega) (by omega) a2
      refine ⟨x, σ', hc _ ((if_pos c).trans t1), t2, fun τ0 τ hr hL => ?_⟩
      obtain ⟨τ1, b1, b2, -⟩ := q.r (F := F) (m := m + 1) hF hr (by omega) hL
      obtain ⟨τ', u1, u2⟩ := t3 τ0 τ1 hr b2
      exact ⟨τ', hl τ0 τ _ hr hL ((if_pos c).trans (e_mob b1 u1)), u2⟩
    · exact ⟨((m + 1 : Nat) : Int), υ1, hc _ (if_neg c), a2.1, fun τ0 τ hr hL => ⟨τ, hl τ0 τ _ hr hL (if_neg c), hL.1⟩⟩
theorem zc_coming {F : Nat} {σ : mMem} {x : Int} (h : 0 ≤ σ 20 4 ∧ σ 20 4 ≤ 999) (hx : 0 ≤ x ∧ x ≤ 1000) : g_X10_comingSteps F 20 x σ = some (min x (999 - σ 20 4), σ) := by
  unfold g_X10_comingSteps
  exact e_mob (z_min (by omega)) rfl
theorem q_loses {F p n b : Nat} {σ : mMem} {v : Int} (hF : 2000 ≤ F) (q : QC σ p n (σ 20 5) (σ 20 4) 0 (cB σ 21)) (h3 : σ 20 3 = (p : Int)) (hb : b < n) (hv : 1 ≤ v ∧ v ≤ 99) : ∃ x σ1, g_X0_stepsToLoss F 20 (b : Int) v σ = some (x, σ1) ∧ FC σ1 σ ∧ ∀ τ0 τ, QR σ p (σ 20 4) 0 τ0 → LR σ p n (σ 20 5) (σ 20 4) 0 (cB σ 21) 0 τ τ0 → ∃ τ', g_X12_loses_h28 F F (b : Int) v 0 τ = some (x, τ') ∧ TryF τ' τ0 := by
  have hst := q.2.2.2.2.1
  have n6 := q.1.1
  obtain ⟨υ, s1, s2, -⟩ := zc_start (F := F) (p := p) (n := n) (o := 29) (σ := σ) (π := σ) (delay := 0) (Or.inl rfl) q.1.1 q.1.2 h3 rfl rfl
  have e20 : υ 20 = σ 20 := s2.1 20 (by omega)
  have B4 : υ (29 + 1) (10 * b + 4) = cB σ 21 b 4 := s2.2.1 b hb 4 (by decide)
  have R4 := (q.2.2.2.2.2.2 b hb).2.2.2.1
  obtain ⟨f, hf⟩ : ∃ f, F = f + 1 := ⟨F - 1, by omega⟩
  have hcl : ∀ X, (if cB σ 21 b 4 < v then (g_X0_stepsToLoss_h19 F 20 f (b : Int) v (min 80 (999 - σ 20 4)) ((0 + 1 : Nat) : Int) υ) else (some (0, υ))) = X → g_X0_stepsToLoss F 20 (b : Int) v σ = X := by
    intro X hX
    unfold g_X0_stepsToLoss
    refine e_mob s1 (e_mob (zc_coming (by rw [e20]; exact hst) (by decide)) ?_)
    rw [e20]
    have : ∀ g, g = f + 1 → g_X0_stepsToLoss_h19 F 20 g (b : Int) v (min 80 (999 - σ 20 4)) 0 υ = X := by
      intro g hg
      subst hg
      unfold g_X0_stepsToLoss_h19 g_X0_stepsToLoss_b40
      refine e_f (by rw [mw0', mw_id (by omega) (by omega)]; omega) (e_t (by decide) (e_mob (zo_4 (by omega)) ?_))
      rw [B4, mw_id (z := cB σ 21 b 4) (by omega) (by omega), mw_id (z := v) (by omega) (by omega), ← hX, show ((0 + 1 : Nat) : Int) = 0 + 1 by omega]
    exact this F hf
  have hl : ∀ τ0 τ X, QR σ p (σ 20 4) 0 τ0 → LR σ p n (σ 20 5) (σ 20 4) 0 (cB σ 21) 0 τ τ0 → (if cB σ 21 b 4 < v then (mob (g_X12_passes F 1 ((0 : Nat) : Int) τ) (fun r209 σ210 => (g_X12_loses_h28 F f) (b : Int) v ((0 + 1 : Nat) : Int) σ210)) else (some (0, τ))) = X → g_X12_loses_h28 F F (b : Int) v 0 τ = X := by
    intro τ0 τ X hr hL hX
    have e0 := hL.s0 hr.2.2.2.2
    have b4 : rB τ 1 b 4 = cB σ 21 b 4 := (hL.2.1 b hb).1 4 (by decide)
    rw [rB_4, show 6 * 1 + b = 6 + b by omega] at b4
    have : ∀ g, g = f + 1 → g_X12_loses_h28 F g (b : Int) v 0 τ = X := by
      intro g hg
      subst hg
      unfold g_X12_loses_h28
      refine e_mob (zr_ahead (by omega) (by omega) (by decide) (by decide)) ?_
      rw [mb_t (by rw [e0]; omega)]
      refine e_f (by decide) ?_
      rw [mw_id (z := 6 + (b : Int)) (by omega) (by omega), show (6 + (b : Int)).toNat = 6 + b by omega, b4, mw_id (z := cB σ 21 b 4) (by omega) (by omega), mw_id (z := v) (by omega) (by omega)]
      refine e_t (by omega) ?_
      rw [← hX, show ((0 + 1 : Nat) : Int) = 0 + 1 by omega]
      rfl
    exact this F hf
  by_cases c : cB σ 21 b 4 < v
  · obtain ⟨x, σ1, t1, t2, t3⟩ := j_loses (F := F) (b := b) (last := min 80 (999 - σ 20 4)) hF q PEq.rfl' hb rfl hv (min 80 (999 - σ 20 4)).toNat 0 f υ (by omega) (by omega) s2
    refine ⟨x, σ1, hcl _ ((if_pos c).trans t1), t2, fun τ0 τ hr hL => ?_⟩
    obtain ⟨τ1, b1, b2, -⟩ := q.r (F := F) (m := 0) hF hr (by omega) hL
    obtain ⟨τ', u1, u2⟩ := t3 τ0 τ1 hr b2
    exact ⟨τ', hl τ0 τ _ hr hL ((if_pos c).trans (e_mob b1 u1)), u2⟩
  · exact ⟨0, υ, hcl _ (if_neg c), s2.1, fun τ0 τ hr hL => ⟨τ, hl τ0 τ _ hr hL (if_neg c), hL.1⟩⟩
theorem a_loses {F : Nat} {σ : mMem} {p s : Nat} {N x v : Int} (hF : 2000 ≤ F) (hx : i32 x) (hv : i32 v) (r : Rel σ p s N) : Alk (g_X11_loses F x v) (g_X12_loses F x v) σ N := by
  have sm := r.same (N' := N + 1) (by omega) (fun _ _ _ => rfl) (fun _ _ _ => rfl)
  obtain ⟨hp, h08, h08n, h20, h20n, hP, hR, h11, h9, h10, hB, hst, hla, h57, h60, h62⟩ := r.now
  obtain ⟨n, q, h3, hE, hc, hq⟩ := r.q
  have n11 := q.2.2.1
  have f0 : FC σ σ := fun _ _ => rfl
  unfold Alk g_X11_loses g_X12_loses g_X11_loses_b22 g_X12_loses_b18
  rw [h08n]
  simp only [if_pos h08, zc_hasBox hx h11, mob_sm, mw_id hv.1 hv.2, mw1', show mw 99 = 99 by decide]
  by_cases c1 : 0 ≤ x ∧ x < σ p 11
  · obtain ⟨b, eb⟩ : ∃ b : Nat, x = (b : Int) := ⟨x.toNat, by omega⟩
    subst eb
    rw [mb_t c1, mw1', if_neg (by decide)]
    by_cases c2 : 1 ≤ v ∧ v ≤ 99
    · obtain ⟨w, σ1, t1, t2, t3⟩ := q_loses (F := F) (b := b) (v := v) hF q h3 (by omega) c2
      obtain ⟨u, us, uf⟩ := hq σ1 t2
      obtain ⟨τ, v1, v2⟩ := us F hF
      obtain ⟨τ', w1, w2⟩ := t3 σ1 τ u v2
      refine ⟨w, σ1, τ', p, s, e_f (by omega) (e_t c2.2 (e_mob t1 rfl)), e_mob (zr_isBox hx u.1 h11) ?_, uf τ' w2⟩
      rw [mb_t c1]
      refine e_f (by decide) (e_mob (zr_isi (by omega)) ?_)
      rw [mb_t c2]
      exact e_t (by decide) (e_mob v1 w1)
    · refine ⟨-1, σ, σ, p, s, ?_, e_mob (zr_isBox hx hR h11) ?_, sm⟩
      · by_cases c3 : v < 1
        · exact e_t c3 rfl
        · exact e_f c3 (e_f (by omega) rfl)
      · rw [mb_t c1]
        refine e_f (by decide) (e_mob (zr_isi (by omega)) ?_)
        rw [mb_f c2]
        exact e_f (by decide) rfl
  · refine ⟨-1, σ, σ, p, s, ?_, e_mob (zr_isBox hx hR h11) ?_, sm⟩
    · rw [mb_f c1]
      exact e_t (by decide) rfl
    · rw [mb_f c1]
      exact e_t (by decide) rfl
theorem j_jam {F p n : Nat} {π σ0 : mMem} {lamp step last : Int} {A : Nat → Nat → Int} (hF : 2000 ≤ F) (q : QC π p n lamp step 0 A) (hσ : PEq σ0 π p) (hlast : last = min 80 (999 - step)) : ∀ (d m fuel : Nat) (υ : mMem), (d : Int) + m = last → d < fuel → CR π p n lamp step 0 A m 29 υ σ0 → ∃ x σ', g_X0_firstJam_h17 F 20 fuel last ((m + 1 : Nat) : Int) υ = some (x, σ') ∧ FC σ' σ0 ∧ ∀ τ0 τ, QR π p step 0 τ0 → LR π p n lamp step 0 A m τ τ0 → ∃ τ', g_X12_jam_h8 F fuel ((m + 1 : Nat) : Int) τ = some (x, τ') ∧ TryF τ' τ0 := by
  have n6 := q.1.1
  have hs := q.2.2.2.2.1
  intro d
  induction d with
  | zero =>
    intro m fuel υ h1 h2 h
    obtain ⟨f, rfl⟩ : ∃ f, fuel = f + 1 := ⟨fuel - 1, by omega⟩
    refine ⟨-1, υ, ?_, h.1, fun τ0 τ hr hL => ⟨τ, ?_, hL.1⟩⟩
    · unfold g_X0_firstJam_h17
      exact e_t (by rw [mw_id (by omega) (by omega), mw_id (by omega) (by omega)]; omega) rfl
    · unfold g_X12_jam_h8
      have e0 := hL.s0 hr.2.2.2.2
      refine e_mob (zr_ahead (by omega) (by omega) (by decide) (by decide)) ?_
      rw [mb_f (by rw [e0]; omega)]
      exact e_t (by decide) rfl
  | succ d ih =>
    intro m fuel υ h1 h2 h
    obtain ⟨f, rfl⟩ : ∃ f, fuel = f + 1 := ⟨fuel - 1, by omega⟩
    obtain ⟨υ1, a1, a2, -, -, a6, a7⟩ := q.c (F := F) (made := 0) hF hσ (by omega) (by decide) (fun _ _ => made0) h
    have zw := xBits_zero (n := n) (fun j _ => xWf01 (π := π) (p := p) (lamp := lamp) (step := step + m) (made := (m : Int)) (delay := 0) (A := xIt π p n lamp step 0 A m) (k := j))
    have zk := xBits_zero (n := n) (fun j _ => xKf01 (π := π) (p := p) (lamp := lamp) (step := step + m) (made := (m : Int)) (delay := 0) (A := xIt π p n lamp step 0 A m) (k := j))
    have sw := xSum_rng (n := n) (fun j _ => xWf01 (π := π) (p := p) (lamp := lamp) (step := step + m) (made := (m : Int)) (delay := 0) (A := xIt π p n lamp step 0 A m) (k := j))
    have sk := xSum_rng (n := n) (fun j _ => xKf01 (π := π) (p := p) (lamp := lamp) (step := step + m) (made := (m : Int)) (delay := 0) (A := xIt π p n lamp step 0 A m) (k := j))
    have bw := xBits_rng (n := n) (fun j _ => xWf01 (π := π) (p := p) (lamp := lamp) (step := step + m) (made := (m : Int)) (delay := 0) (A := xIt π p n lamp step 0 A m) (k := j))
    have bk := xBits_rng (n := n) (fun j _ => xKf01 (π := π) (p := p) (lamp := lamp) (step := step + m) (made := (m : Int)) (delay := 0) (A := xIt π p n lamp step 0 A m) (k := j))
    have p6 := pow_le6 n6
    rw [← a6] at zw sw
    rw [← a7] at zk sk
    have hc : ∀ X, (if υ1 29 7 ≤ 0 then (g_X0_firstJam_h17 F 20 f last ((m + 1 + 1 : Nat) : Int) υ1) else (if ¬ υ1 29 6 = 0 then (g_X0_firstJam_h17 F 20 f last ((m + 1 + 1 : Nat) : Int) υ1) else (some (((m + 1 : Nat) : Int), υ1)))) = X → g_X0_firstJam_h17 F 20 (f + 1) last ((m + 1 : Nat) : Int) υ = X := by
      intro X hX
      unfold g_X0_firstJam_h17 g_X0_firstJam_b53
      refine e_f (by rw [mw_id (by omega) (by omega), mw_id (by omega) (by omega)]; omega) (e_mob a1 ?_)
      rw [mw_id (z := υ1 29 7) (by omega) (by omega), mw_id (z := υ1 29 6) (by omega) (by omega), ← hX, show ((m + 1 + 1 : Nat) : Int) = ((m + 1 : Nat) : Int) + 1 by omega]
    have hl : ∀ τ0 τ τ1 X, QR π p step 0 τ0 → LR π p n lamp step 0 A m τ τ0 → g_X12_passes F 1 (m : Int) τ = some (0, τ1) → τ1 86 63 = xBits (xWf π p lamp (step + m) m 0 (xIt π p n lamp step 0 A m)) n → τ1 86 64 = xBits (xKf π p lamp (step + m) m 0 (xIt π p n lamp step 0 A m)) n → (if υ1 29 7 ≤ 0 then (g_X12_jam_h8 F f ((m + 1 + 1 : Nat) : Int) τ1) else (if ¬ υ1 29 6 = 0 then (g_X12_jam_h8 F f ((m + 1 + 1 : Nat) : Int) τ1) else (some (((m + 1 : Nat) : Int), τ1)))) = X → g_X12_jam_h8 F (f + 1) ((m + 1 : Nat) : Int) τ = X := by
      intro τ0 τ τ1 X hr hL hp1 w3 w4 hX
      have e0 := hL.s0 hr.2.2.2.2
      unfold g_X12_jam_h8 g_X12_jam_b43
      refine e_mob (zr_ahead (by omega) (by omega) (by decide) (by decide)) ?_
      rw [mb_t (by rw [e0]; omega), show ((m + 1 : Nat) : Int) - 1 = (m : Int) by omega]
      refine e_f (by decide) (e_mob hp1 ?_)
      rw [mw_id (z := τ1 86 64) (by omega) (by omega), mw_id (z := τ1 86 63) (by omega) (by omega), ← hX, show ((m + 1 + 1 : Nat) : Int) = ((m + 1 : Nat) : Int) + 1 by omega]
      by_cases c1 : υ1 29 7 ≤ 0
      · exact (if_pos (by rw [w4]; exact zk.1.mpr (by omega))).trans (if_pos c1).symm
      · refine (if_neg (fun e => c1 (by rw [w4] at e; have := zk.1.mp e; omega))).trans (Eq.trans ?_ (if_neg c1).symm)
        by_cases c2 : υ1 29 6 = 0
        · exact (if_neg (fun e => e (by rw [w3]; exact zw.1.mpr c2))).trans (if_neg (fun e => e c2)).symm
        · exact (if_pos (fun e => c2 (by rw [w3] at e; exact zw.1.mp e))).trans (if_pos c2).symm
    by_cases c : υ1 29 7 ≤ 0 ∨ ¬ υ1 29 6 = 0
    · obtain ⟨x, σ', t1, t2, t3⟩ := ih (m + 1) f υ1 (by omega) (by omega) a2
      refine ⟨x, σ', hc _ ?_, t2, fun τ0 τ hr hL => ?_⟩
      · by_cases c1 : υ1 29 7 ≤ 0
        · exact (if_pos c1).trans t1
        · exact (if_neg c1).trans ((if_pos (by omega)).trans t1)
      · obtain ⟨τ1, b1, b2, b3, b4⟩ := q.r (F := F) hF hr (by omega) hL
        obtain ⟨τ', u1, u2⟩ := t3 τ0 τ1 hr b2
        refine ⟨τ', hl τ0 τ τ1 _ hr hL b1 b3 b4 ?_, u2⟩
        by_cases c1 : υ1 29 7 ≤ 0
        · exact (if_pos c1).trans u1
        · exact (if_neg c1).trans ((if_pos (by omega)).trans u1)
    · refine ⟨((m + 1 : Nat) : Int), υ1, hc _ ?_, a2.1, fun τ0 τ hr hL => ?_⟩
      · exact (if_neg (by omega)).trans (if_neg (by omega))
      · obtain ⟨τ1, b1, b2, b3, b4⟩ := q.r (F := F) hF hr (by omega) hL
        exact ⟨τ1, hl τ0 τ τ1 _ hr hL b1 b3 b4 ((if_neg (by omega)).trans (if_neg (by omega))), b2.1⟩
theorem a_jam {F : Nat} {σ : mMem} {p s : Nat} {N : Int} (hF : 2000 ≤ F) (r : Rel σ p s N) : Alk (g_X11_jam F) (g_X12_jam F) σ N := by
  obtain ⟨n, q, h3, hE, hc, hq⟩ := r.q
  have hst := q.2.2.2.2.1
  obtain ⟨υ, s1, s2, -⟩ := zc_start (F := F) (p := p) (n := n) (o := 29) (σ := σ) (π := σ) (delay := 0) (Or.inl rfl) q.1.1 q.1.2 h3 rfl rfl
  have e20 : υ 20 = σ 20 := s2.1 20 (by omega)
  obtain ⟨x, σ1, t1, t2, t3⟩ := j_jam (F := F) (last := min 80 (999 - σ 20 4)) hF q PEq.rfl' rfl (min 80 (999 - σ 20 4)).toNat 0 F υ (by omega) (by omega) s2
  obtain ⟨u, us, uf⟩ := hq σ1 t2
  obtain ⟨τ, v1, v2⟩ := us F hF
  obtain ⟨τ', w1, w2⟩ := t3 σ1 τ u v2
  refine ⟨x, σ1, τ', p, s, ?_, e_mob v1 w1, uf τ' w2⟩
  unfold g_X11_jam g_X0_firstJam
  refine e_mob (e_mob s1 (e_mob (zc_coming (by rw [e20]; exact hst) (by decide)) ?_)) rfl
  rw [e20]
  exact t1
