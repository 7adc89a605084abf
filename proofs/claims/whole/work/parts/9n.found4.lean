/-! LAYER 2: found, layer by layer -/
theorem zr_60 {F p n b : Nat} {σ τ : mMem} {a : Nat → Int} {d : Int} (q : QC σ p n (σ 20 5) (σ 20 4) 0 (cB σ 21)) (hR : PlR σ p τ) (h111 : τ 111 0 = σ 20 5) (hd : 0 ≤ d ∧ d ≤ 399) (ht : ∀ s, s < 324 → τ 121 s = a s ∧ -1 ≤ a s ∧ a s ≤ 400) (fl : ∀ s, s < 324 → a s = d → sOn (σ p 9) (σ p 10) ((s / 4 % 9 : Nat) : Int) ((s / 36 : Nat) : Int)) : ∀ (m k fuel : Nat), m + k = 324 → m < fuel → ((∃ s, k ≤ s ∧ s < 324 ∧ a s = d ∧ xBk (σ p 9) (σ p 10) (σ (p + 1)) (σ 20 5) s) → ∀ k51, g_X12_found_h60 F k51 fuel (b : Int) d (k : Int) τ = some (d, τ)) ∧ ((∀ s, k ≤ s → s < 324 → a s = d → ¬ xBk (σ p 9) (σ p 10) (σ (p + 1)) (σ 20 5) s) → ∀ k51, g_X12_found_h60 F k51 fuel (b : Int) d (k : Int) τ = g_X12_found_h98 F k51 F (b : Int) d 0 τ) := by
  intro m
  induction m with
  | zero =>
    intro k fuel e1 e2
    obtain ⟨f, rfl⟩ : ∃ f, fuel = f + 1 := ⟨fuel - 1, by omega⟩
    have ek : k = 324 := by omega
    subst ek
    refine ⟨fun ⟨s, s1, s2, _⟩ => absurd s1 (by omega), fun _ k51 => ?_⟩
    unfold g_X12_found_h60
    exact e_t (by decide) rfl
  | succ m ih =>
    intro k fuel e1 e2
    obtain ⟨f, rfl⟩ : ∃ f, fuel = f + 1 := ⟨fuel - 1, by omega⟩
    have k324 : k < 324 := by omega
    obtain ⟨v1, v2, v3⟩ := ht k k324
    obtain ⟨i1, i2⟩ := ih (k + 1) f (by omega) (by omega)
    have nk : ((k + 1 : Nat) : Int) = (k : Int) + 1 := by omega
    rw [nk] at i1 i2
    have skip : ¬ (a k = d ∧ xBk (σ p 9) (σ p 10) (σ (p + 1)) (σ 20 5) k) → ∀ k51, g_X12_found_h60 F k51 (f + 1) (b : Int) d (k : Int) τ = g_X12_found_h60 F k51 f (b : Int) d ((k : Int) + 1) τ := by
      intro nb k51
      conv => lhs; unfold g_X12_found_h60 g_X12_found_b90
      rw [mwN (i := k) (by omega), v1, mw_id (z := a k) (by omega) (by omega), mw_id (z := d) (by omega) (by omega), st_d4 k324]
      refine e_f (by rw [mw_id (by omega) (by omega), mw_id (by omega) (by omega)]; omega) (e_t (mwR (by omega) (by decide)) ?_)
      by_cases ca : a k = d
      · have on := fl k k324 ca
        have ib := zr_isBlack (F := F) (p := p) (v := 0) (π := σ) (τ := τ) (c := ((k / 4 % 9 : Nat) : Int)) (r := ((k / 36 : Nat) : Int)) (lamp := σ 20 5) (by decide) hR q.2.1 h111 q.2.2.2.1
        rw [if_pos on, show 9 * ((k / 36 : Nat) : Int) + ((k / 4 % 9 : Nat) : Int) = ((k / 4 : Nat) : Int) by omega] at ib
        refine e_f (fun e => e ca) (e_f (by decide) (e_mob ib ?_))
        rw [mb_f (fun h => nb ⟨ca, h⟩)]
        exact e_t (by decide) rfl
      · exact e_t ca rfl
    refine ⟨fun ⟨s, s1, s2, s3, s4⟩ k51 => ?_, fun nb k51 => ?_⟩
    · by_cases ck : a k = d ∧ xBk (σ p 9) (σ p 10) (σ (p + 1)) (σ 20 5) k
      · have on := fl k k324 ck.1
        have ib := zr_isBlack (F := F) (p := p) (v := 0) (π := σ) (τ := τ) (c := ((k / 4 % 9 : Nat) : Int)) (r := ((k / 36 : Nat) : Int)) (lamp := σ 20 5) (by decide) hR q.2.1 h111 q.2.2.2.1
        rw [if_pos on, show 9 * ((k / 36 : Nat) : Int) + ((k / 4 % 9 : Nat) : Int) = ((k / 4 : Nat) : Int) by omega] at ib
        unfold g_X12_found_h60
        rw [mwN (i := k) (by omega), v1, mw_id (z := a k) (by omega) (by omega), mw_id (z := d) (by omega) (by omega), st_d4 k324]
        refine e_f (by rw [mw_id (by omega) (by omega), mw_id (by omega) (by omega)]; omega) (e_t (mwR (by omega) (by decide)) (e_f (fun e => e ck.1) (e_f (by decide) (e_mob ib ?_))))
        rw [mb_t ck.2]
        exact e_f (by decide) rfl
      · rw [skip ck k51]
        refine i1 ⟨s, ?_, s2, s3, s4⟩ k51
        by_cases cs : s = k
        · exact absurd ⟨by rw [← cs]; exact s3, by rw [← cs]; exact s4⟩ ck
        · omega
    · rw [skip (fun h => nb k (by omega) k324 h.1 h.2) k51]
      exact i2 (fun s s1 s2 s3 => nb s (by omega) s2 s3) k51
theorem zc_seg {F p n b h t0 : Nat} {σ : mMem} {a : Nat → Int} {d : Int} {Q : Nat → Int} (hF : 2000 ≤ F) (q : QC σ p n (σ 20 5) (σ 20 4) 0 (cB σ 21)) (h3 : σ 20 3 = (p : Int)) (hb : b < n) (hd : 0 ≤ d ∧ d ≤ 399) (ha : ∀ s, s < 324 → -1 ≤ a s ∧ a s ≤ 400) (hQ : ∀ j, h ≤ j → j < t0 → ∃ s : Nat, s < 324 ∧ Q j = (s : Int) ∧ a s = d) : ∀ (m i : Nat) (υ : mMem), m + i = t0 → h ≤ i → FQ υ σ → PSX υ a d t0 Q (fun t => ∃ j s : Nat, h ≤ j ∧ j < i ∧ Q j = (s : Int) ∧ xE (σ p 9) (σ p 10) (cB σ 21) n b s t) → ((∃ j s : Nat, i ≤ j ∧ j < t0 ∧ Q j = (s : Int) ∧ xBk (σ p 9) (σ p 10) (σ (p + 1)) (σ 20 5) s) → ∃ σ', FQ σ' σ ∧ ∀ f, g_X0_fewestMoves_h38 F 20 (f + m) (b : Int) (i : Int) υ = some (d, σ')) ∧ ((∀ j s : Nat, i ≤ j → j < t0 → Q j = (s : Int) → ¬ xBk (σ p 9) (σ p 10) (σ (p + 1)) (σ 20 5) s) → ∃ υ', (∀ f, g_X0_fewestMoves_h38 F 20 (f + m) (b : Int) (i : Int) υ = g_X0_fewestMoves_h38 F 20 f (b : Int) (t0 : Int) υ') ∧ FQ υ' σ ∧ PSX υ' a d t0 Q (fun t => ∃ j s : Nat, h ≤ j ∧ j < t0 ∧ Q j = (s : Int) ∧ xE (σ p 9) (σ p 10) (cB σ 21) n b s t)) := by
  intro m
  induction m with
  | zero =>
    intro i υ e1 e2 e3 e4
    have ei : i = t0 := by omega
    subst ei
    exact ⟨fun ⟨j, s, j1, j2, _⟩ => absurd j1 (by omega), fun _ => ⟨υ, fun _ => rfl, e3, e4⟩⟩
  | succ m ih =>
    intro i υ e1 e2 e3 e4
    obtain ⟨s, s1, s2, s3⟩ := hQ i e2 (by omega)
    obtain ⟨p1, p2⟩ := zc_pop (F := F) (p := p) (n := n) (b := b) (i := i) (s := s) (t0 := t0) (σ := σ) (υ := υ) (a := a) (d := d) (Q := Q) hF q h3 hb e3 e4 hd ha (by omega) s2 s1 s3
    by_cases bk : xBk (σ p 9) (σ p 10) (σ (p + 1)) (σ 20 5) s
    · refine ⟨fun _ => ⟨υ, e3, fun f => p1 bk (f + m)⟩, fun nb => absurd bk (nb i s (by omega) (by omega) s2)⟩
    · obtain ⟨υ', u1, u2, u3⟩ := p2 bk
      have u4 : PSX υ' a d t0 Q (fun t => ∃ j s : Nat, h ≤ j ∧ j < i + 1 ∧ Q j = (s : Int) ∧ xE (σ p 9) (σ p 10) (cB σ 21) n b s t) := u3.congr (fun t _ => by
        constructor
        · rintro (⟨j, s', j1, j2, j3⟩ | k)
          · exact ⟨j, s', j1, by omega, j3⟩
          · exact ⟨i, s, e2, by omega, s2, k⟩
        · rintro ⟨j, s', j1, j2, j3, j4⟩
          by_cases cj : j = i
          · rw [cj, s2] at j3
            have : s' = s := by omega
            rw [this] at j4
            exact Or.inr j4
          · exact Or.inl ⟨j, s', j1, by omega, j3, j4⟩)
      obtain ⟨i1, i2⟩ := ih (i + 1) υ' (by omega) (by omega) u2 u4
      refine ⟨fun ⟨j, s', j1, j2, j3, j4⟩ => ?_, fun nb => ?_⟩
      · obtain ⟨σ', w1, w2⟩ := i1 ⟨j, s', by
          by_cases cj : j = i
          · rw [cj, s2] at j3
            have : s' = s := by omega
            rw [this] at j4
            exact absurd j4 bk
          · omega, j2, j3, j4⟩
        exact ⟨σ', w1, fun f => (u1 (f + m)).trans (w2 f)⟩
      · obtain ⟨υ'', w1, w2⟩ := i2 (fun j s' j1 j2 j3 => nb j s' (by omega) j2 j3)
        exact ⟨υ'', fun f => (u1 (f + m)).trans (w1 f), w2⟩
theorem xE_fl {C R : Int} {A : Nat → Nat → Int} {n b s t : Nat} (hC : C ≤ 9) (hR : R ≤ 9) (fl : sOn C R ((s / 4 % 9 : Nat) : Int) ((s / 36 : Nat) : Int)) (h : xE C R A n b s t) : sOn C R ((t / 4 % 9 : Nat) : Int) ((t / 36 : Nat) : Int) := by
  rcases h with h | h | ⟨h1, -, h3⟩
  · rw [show t / 4 % 9 = s / 4 % 9 by omega, show t / 36 = s / 36 by omega]; exact fl
  · rw [show t / 4 % 9 = s / 4 % 9 by omega, show t / 36 = s / 36 by omega]; exact fl
  · have k1 : ((t / 4 % 9 : Nat) : Int) = ((s / 4 % 9 : Nat) : Int) + sdc ((s % 4 : Nat) : Int) := by
      obtain ⟨C', eC⟩ : ∃ z : Int, z = ((s / 4 % 9 : Nat) : Int) + sdc ((s % 4 : Nat) : Int) := ⟨_, rfl⟩
      obtain ⟨R', eR⟩ : ∃ z : Int, z = ((s / 36 : Nat) : Int) + sdr ((s % 4 : Nat) : Int) := ⟨_, rfl⟩
      rw [← eC, ← eR] at h1 h3
      rw [← eC]
      omega
    have k2 : ((t / 36 : Nat) : Int) = ((s / 36 : Nat) : Int) + sdr ((s % 4 : Nat) : Int) := by
      obtain ⟨C', eC⟩ : ∃ z : Int, z = ((s / 4 % 9 : Nat) : Int) + sdc ((s % 4 : Nat) : Int) := ⟨_, rfl⟩
      obtain ⟨R', eR⟩ : ∃ z : Int, z = ((s / 36 : Nat) : Int) + sdr ((s % 4 : Nat) : Int) := ⟨_, rfl⟩
      rw [← eC, ← eR] at h1 h3
      rw [← eR]
      omega
    rw [k1, k2]
    exact h1
