/-! LAYER 2: track, whole -/
theorem j_track {F : Nat} {σ : mMem} {p s l : Nat} {N : Int} (hF : 2000 ≤ F) (r : Rel σ p s N) (h1 : σ 1 1 = (l : Int)) : (g_X9_takeRows F p σ = some (0, σ) ∧ ∀ τ0, PlR σ p τ0 → (∀ j, j < l → τ0 87 j = σ 2 j) → τ0 86 1 = (l : Int) → ∀ X, (mob (g_X12_refuses F 5 (mup τ0 86 1 0)) (fun r406 σ407 => some (r406, σ407))) = X → g_X12_track F τ0 = X) ∨ (∃ (m : Nat) (σr : mMem), (m ≤ 16 ∧ l = 3 * m) ∧ (∀ j, j < m → okT (σ p 9) (σ p 10) (σ 2) j ∧ (0 ≤ σ 2 (3 * j))) ∧ g_X9_takeRows F p σ = some (1, mup σr 35 3 (m : Int)) ∧ (∀ q, q ≠ 36 → σr q = σ q) ∧ (∀ j, j < 3 * m → σr 36 j = σ 2 j) ∧ ∀ τ0, PlR σ p τ0 → (∀ j, j < l → τ0 87 j = σ 2 j) → τ0 86 1 = (l : Int) → ∃ τ', g_X12_track F τ0 = some ((m : Int), τ') ∧ (∀ q, q ≠ 122 → q ≠ 123 → q ≠ 86 → τ' q = τ0 q) ∧ (∀ j, j ≠ 1 → j ≠ 66 → τ' 86 j = τ0 86 j) ∧ τ' 86 1 = 0 ∧ τ' 86 66 = (m : Int) ∧ ∀ j, j < m → τ' 122 j = σ 2 (3 * j) ∧ τ' 123 j = 9 * σ 2 (3 * j + 2) + σ 2 (3 * j + 1)) := by
  obtain ⟨hp, h08, h08n, h20, h20n, hP, hR, h11, h9, h10, hB, hst, hla, h57, h60, h62⟩ := r.now
  obtain ⟨t1, t2, t3⟩ := r.1
  have hl16 : l ≤ 1600 := by omega
  have hc : ∀ X, (if (l : Int) / 3 < 1 then some ((0 : Int), σ) else (if (16 : Int) < (l : Int) / 3 then some (0, σ) else (if (l : Int) / 3 * 3 = (l : Int) then (g_X9_takeRows_h33 F p F ((l : Int) / 3) 0 σ) else some (0, σ)))) = X → g_X9_takeRows F p σ = X := by
    intro X hX
    have b28 : g_X9_takeRows_b28 F p σ = some (0, σ) := e_t (by decide) rfl
    unfold g_X9_takeRows
    rw [h1, mw_id (z := (l : Int)) (by omega) (by omega), mw_id (z := 3) (by decide) (by decide), mtdiv (by omega), b28]
    refine e_f (by decide) (e_let ?_)
    rw [mw_id (z := (l : Int) / 3) (by omega) (by omega), mw_id (z := (l : Int) / 3 * 3) (by omega) (by omega), mw_id (z := 1) (by decide) (by decide), mw_id (z := 16) (by decide) (by decide)]
    exact hX
  have hr : ∀ τ0 X, τ0 86 1 = (l : Int) → (if (l : Int) ≤ 0 ∨ ¬ (l : Int) % 3 = 0 ∨ (48 : Int) < (l : Int) then (g_X12_track_h34 F F (l : Int) 0 0 (mup τ0 86 1 0)) else (g_X12_track_h34 F F (l : Int) 1 0 (mup τ0 86 1 0))) = X → g_X12_track F τ0 = X := by
    intro τ0 X e hX
    unfold g_X12_track g_X12_track_b30 g_X12_track_b31
    rw [e]
    refine e_let (e_mem ?_)
    rw [mw_id (z := (l : Int)) (by omega) (by omega), mw_id (z := 3) (by decide) (by decide), mtmod (by omega), mw_id (z := (l : Int) % 3) (by omega) (by omega), mw_id (z := 48) (by decide) (by decide), ← hX]
    by_cases c1 : (l : Int) ≤ 0
    · exact (if_pos c1).trans (if_pos (Or.inl c1)).symm
    · refine (if_neg c1).trans (e_f (by decide) ?_)
      by_cases c2 : (l : Int) % 3 = 0
      · refine (if_neg (fun e => e c2)).trans ?_
        by_cases c3 : (48 : Int) < (l : Int)
        · exact (if_pos c3).trans (if_pos (Or.inr (Or.inr c3))).symm
        · exact (if_neg c3).trans (if_neg (by omega)).symm
      · exact (if_pos c2).trans (if_pos (Or.inr (Or.inl c2))).symm
  have h34 : ∀ τ : mMem, g_X12_track_h34 F F (l : Int) 0 0 τ = (mob (g_X12_refuses F 5 τ) (fun r406 σ407 => some (r406, σ407))) := by
    intro τ
    obtain ⟨f, hf⟩ : ∃ f, F = f + 1 := ⟨F - 1, by omega⟩
    have : ∀ g, g = f + 1 → g_X12_track_h34 F g (l : Int) 0 0 τ = (mob (g_X12_refuses F 5 τ) (fun r406 σ407 => some (r406, σ407))) := by
      intro g hg
      subst hg
      unfold g_X12_track_h34 g_X12_track_b89
      by_cases c : mw (l : Int) ≤ mw 0
      · exact e_t c (e_f (by decide) rfl)
      · exact e_f c (e_t (by decide) (e_f (by decide) rfl))
    exact this F hf
  by_cases c : (l : Int) ≤ 0 ∨ ¬ (l : Int) % 3 = 0 ∨ (48 : Int) < (l : Int)
  · refine Or.inl ⟨hc _ ?_, fun τ0 _ _ e X hX => hr τ0 X e ((if_pos c).trans ((h34 _).trans hX))⟩
    by_cases d1 : (l : Int) / 3 < 1
    · exact if_pos d1
    · refine (if_neg d1).trans ?_
      by_cases d2 : (16 : Int) < (l : Int) / 3
      · exact if_pos d2
      · exact (if_neg d2).trans (if_neg (by omega))
  · obtain ⟨m, hm⟩ : ∃ m : Nat, l = 3 * m := ⟨l / 3, by omega⟩
    have m16 : m ≤ 16 := by omega
    have em : (l : Int) / 3 = (m : Int) := by omega
    have hT : Tp (σ 2) l := ⟨by omega, fun j hj => (t3 j (by omega)).2⟩
    obtain ⟨v, v01, v1, vc, vr⟩ := j_tk (F := F) (p := p) (m := m) (l := l) (σ := σ) (b := σ 2) hp m16 hm h1 (fun _ _ => rfl) hT h9 h10 m 0 F (by omega) (by omega) (fun j hj => absurd hj (by omega))
    have cc : g_X9_takeRows F p σ = (if v = 1 then g_X9_takeRows_h90 F p F (m : Int) 0 σ else some (0, σ)) := by
      refine hc _ ((if_neg (by omega)).trans ((if_neg (by omega)).trans ((if_pos (by omega)).trans ?_)))
      rw [em]
      exact vc
    have rr : ∀ τ0, PlR σ p τ0 → (∀ j, j < l → τ0 87 j = σ 2 j) → τ0 86 1 = (l : Int) → g_X12_track F τ0 = g_X12_track_b89 F (l : Int) v (mup τ0 86 1 0) := fun τ0 hR0 h87 e => hr τ0 _ e ((if_neg c).trans (vr (mup τ0 86 1 0) (hR0.same (fun q q1 q2 => mup_off (by omega)) (mup_ne (by decide))) (fun j hj => by rw [mup_off (by decide)]; exact h87 j hj)))
    rcases v01 with rfl | rfl
    · rw [if_neg (by decide)] at cc
      refine Or.inl ⟨cc, fun τ0 hR0 h87 e X hX => (rr τ0 hR0 h87 e).trans ?_⟩
      unfold g_X12_track_b89
      exact e_f (by decide) hX
    · rw [if_pos rfl] at cc
      obtain ⟨σr, w1, w2, w3⟩ := zc_tr (F := F) (p := p) (m := m) (l := l) (σ := σ) m16 hm h1 (3 * m) 0 F σ (by omega) (by omega) (fun _ _ => rfl) (fun j hj => absurd hj (by omega))
      refine Or.inr ⟨m, σr, ⟨m16, hm⟩, fun j hj => ⟨v1 rfl j hj, (hT.2 _ (by omega)).1⟩, cc.trans w1, w2, w3, fun τ0 hR0 h87 e => ?_⟩
      obtain ⟨τ1, e1⟩ : ∃ y, y = mup (mup τ0 86 1 0) 86 66 (m : Int) := ⟨_, rfl⟩
      obtain ⟨τ', y1, y2, y3⟩ := zr_tr (F := F) (m := m) (τ := τ1) (b := σ 2) m16 (by rw [e1, mup_at rfl rfl]) (fun j hj => by rw [e1, mup_off (by decide), mup_off (by decide)]; exact h87 j (by omega)) m 0 F τ1 (by omega) (by omega) (fun _ _ _ => rfl) (fun j hj => absurd hj (by omega))
      refine ⟨τ', (rr τ0 hR0 h87 e).trans ?_, fun q q1 q2 q3 => by rw [y2 q q1 q2, e1, mup_off q3, mup_off q3], fun j j1 j2 => by rw [y2 86 (by decide) (by decide), e1, mup_ne (by omega), mup_ne (by omega)], by rw [y2 86 (by decide) (by decide), e1, mup_ne (by decide), mup_at rfl rfl], by rw [y2 86 (by decide) (by decide), e1, mup_at rfl rfl], y3⟩
      unfold g_X12_track_b89
      rw [mw_id (z := (l : Int)) (by omega) (by omega), mw_id (z := 3) (by decide) (by decide), mtdiv (by omega), em, ← e1]
      exact e_t (by decide) (e_f (by decide) (e_mem y1))
theorem a_track {F : Nat} {σ : mMem} {p s : Nat} {N : Int} (hF : 2000 ≤ F) (r : Rel σ p s N) : Alk (g_X11_track F) (g_X12_track F) σ N := by
  obtain ⟨hp, h08, h08n, h20, h20n, hP, hR, h11, h9, h10, hB, hst, hla, h57, h60, h62⟩ := r.now
  obtain ⟨t1, t2, t3⟩ := r.1
  obtain ⟨l, el⟩ : ∃ l : Nat, σ 1 1 = (l : Int) := ⟨(σ 1 1).toNat, by omega⟩
  unfold Alk g_X11_track g_X11_track_b43
  rw [h08n]
  rcases j_track (F := F) hF r el with ⟨a1, a2⟩ | ⟨m, σr, ⟨m16, lm⟩, ok, a1, a2, a3, a4⟩
  · obtain ⟨σ1, e1⟩ : ∃ y, y = mup (mup σ 1 1 0) 85 5 (σ 85 5 + 1) := ⟨_, rfl⟩
    have o1 : ∀ q, q ≠ 1 → q ≠ 85 → σ1 q = σ q := fun q q1 q2 => by rw [e1, mup_off q2, mup_off q1]
    obtain ⟨τ, e2⟩ : ∃ y, y = mup (mup σ1 86 1 0) 109 5 (σ 109 5 + 1) := ⟨_, rfl⟩
    have o2 : ∀ q, q ≠ 1 → q ≠ 85 → q ≠ 86 → q ≠ 109 → τ q = σ q := fun q q1 q2 q3 q4 => by rw [e2, mup_off q4, mup_off q3, o1 q q1 q2]
    have t86 : ∀ j, j ≠ 1 → τ 86 j = σ 86 j := fun j hj => by rw [e2, mup_off (by decide), mup_ne (by omega), o1 86 (by decide) (by decide)]
    refine ⟨-1, σ1, τ, p, s, e_t h08 (e_mob a1 (e_mem (e_t (by decide) (e_mob (zc_refuse (k := 5) (by decide)) ?_)))), a2 σ1 (hR.same (fun q q1 q2 => o1 q (by omega) (by omega)) (by rw [o1 86 (by decide) (by decide)])) (fun j hj => by rw [o1 87 (by decide) (by decide)]; exact (t3 j (by omega)).1) (by rw [o1 86 (by decide) (by decide), t1, el]) _ (e_mob (zr_refuses (k := 5) (by decide)) ?_), r.upd (by omega) (fun q j hq => ?_) ⟨?_, ?_, fun j hj => ?_⟩ (r.2.1.bump (k := 5) ?_ ?_) (r.2.2.1.of (by rw [o2 0 (by decide) (by decide) (by decide) (by decide)]) (by rw [o2 0 (by decide) (by decide) (by decide) (by decide)]) (t86 10 (by decide)) (t86 11 (by decide))) (r.2.2.2.1.of (by rw [o2 0 (by decide) (by decide) (by decide) (by decide)]) (t86 54 (by decide))) (r.2.2.2.2.2.2.2.1.of (by rw [o2 35 (by decide) (by decide) (by decide) (by decide)]) (o2 36 (by decide) (by decide) (by decide) (by decide)) (t86 66 (by decide)) (o2 122 (by decide) (by decide) (by decide) (by decide)) (o2 123 (by decide) (by decide) (by decide) (by decide))) (r.2.2.2.2.2.2.2.2.of (by rw [o2 77 (by decide) (by decide) (by decide) (by decide)]) (o2 78 (by decide) (by decide) (by decide) (by decide)) (t86 71 (by decide)) (o2 125 (by decide) (by decide) (by decide) (by decide)))⟩
    · rw [mup_off (o := 1) (q := 85) (by decide), ← e1]
    · rw [mup_off (o := 86) (q := 109) (by decide), o1 109 (by decide) (by decide), ← e2]
    · by_cases c86 : q = 86
      · subst c86
        exact t86 j (by omega)
      · rw [o2 q (by omega) (by omega) c86 (by omega)]
    · rw [e2, mup_off (by decide), mup_at rfl rfl, mup_off (by decide), mup_off (by decide), e1, mup_off (by decide), mup_at rfl rfl]
    · rw [e2, mup_off (by decide), mup_off (by decide), e1, mup_off (by decide), mup_at rfl rfl]; decide
    · rw [e2, mup_off (by decide), mup_off (by decide), e1, mup_off (by decide), mup_at rfl rfl] at hj; omega
    · rw [e2, mup_off (by decide), mup_off (by decide), e1, mup_row, mup_off (by decide)]
    · rw [e2, mup_row, mup_off (by decide), o1 109 (by decide) (by decide)]
  · obtain ⟨σ1, e1⟩ : ∃ y, y = mup (mup σr 35 3 (m : Int)) 1 1 0 := ⟨_, rfl⟩
    have o1 : ∀ q, q ≠ 1 → q ≠ 35 → q ≠ 36 → σ1 q = σ q := fun q q1 q2 q3 => by rw [e1, mup_off q1, mup_off q2, a2 q q3]
    have v35 : σ1 35 3 = (m : Int) := by rw [e1, mup_off (by decide), mup_at rfl rfl]
    have v36 : ∀ j, j < 3 * m → σ1 36 j = σ 2 j := fun j hj => by rw [e1, mup_off (by decide), mup_off (by decide)]; exact a3 j hj
    obtain ⟨τ, b1, b2, b3, b4, b5, b6⟩ := a4 σ1 (hR.same (fun q q1 q2 => o1 q (by omega) (by omega) (by omega)) (by rw [o1 86 (by decide) (by decide) (by decide)])) (fun j hj => by rw [o1 87 (by decide) (by decide) (by decide)]; exact (t3 j (by omega)).1) (by rw [o1 86 (by decide) (by decide) (by decide), t1, el])
    have o2 : ∀ q, q ≠ 1 → q ≠ 35 → q ≠ 36 → q ≠ 122 → q ≠ 123 → q ≠ 86 → τ q = σ q := fun q q1 q2 q3 q4 q5 q6 => by rw [b2 q q4 q5 q6, o1 q q1 q2 q3]
    have t86 : ∀ j, j ≠ 1 → j ≠ 66 → τ 86 j = σ 86 j := fun j j1 j2 => by rw [b3 j j1 j2, o1 86 (by decide) (by decide) (by decide)]
    have w35 : τ 35 3 = (m : Int) := by rw [b2 35 (by decide) (by decide) (by decide), v35]
    have w36 : ∀ j, j < 3 * m → τ 36 j = σ 2 j := fun j hj => by rw [b2 36 (by decide) (by decide) (by decide)]; exact v36 j hj
    have z1 : τ 1 1 = 0 := by rw [b2 1 (by decide) (by decide) (by decide), e1, mup_at rfl rfl]
    refine ⟨(m : Int), σ1, τ, p, s, e_t h08 (e_mob a1 (e_mem (e_f (by decide) ?_))), b1, r.upd (by omega) (fun q j hq => ?_) ⟨by rw [b4, z1], by rw [z1]; decide, fun j hj => by rw [z1] at hj; omega⟩ (r.2.1.of (by omega) (o2 85 (by decide) (by decide) (by decide) (by decide) (by decide) (by decide)) (o2 109 (by decide) (by decide) (by decide) (by decide) (by decide) (by decide))) (r.2.2.1.of (by rw [o2 0 (by decide) (by decide) (by decide) (by decide) (by decide) (by decide)]) (by rw [o2 0 (by decide) (by decide) (by decide) (by decide) (by decide) (by decide)]) (t86 10 (by decide) (by decide)) (t86 11 (by decide) (by decide))) (r.2.2.2.1.of (by rw [o2 0 (by decide) (by decide) (by decide) (by decide) (by decide) (by decide)]) (t86 54 (by decide) (by decide))) ⟨by rw [b5, w35], by rw [w35]; omega, fun k hk => ?_⟩ (r.2.2.2.2.2.2.2.2.of (by rw [o2 77 (by decide) (by decide) (by decide) (by decide) (by decide) (by decide)]) (o2 78 (by decide) (by decide) (by decide) (by decide) (by decide) (by decide)) (t86 71 (by decide) (by decide)) (o2 125 (by decide) (by decide) (by decide) (by decide) (by decide) (by decide)))⟩
    · rw [← e1, v35]
    · by_cases c86 : q = 86
      · subst c86
        exact t86 j (by omega) (by omega)
      · rw [o2 q (by omega) (by omega) (by omega) (by omega) (by omega) c86]
    · rw [w35] at hk
      have km : k < m := by omega
      obtain ⟨⟨k1, k2⟩, k3⟩ := ok k km
      obtain ⟨y1, y2⟩ := b6 k km
      rw [y1, y2, w36 (3 * k) (by omega), w36 (3 * k + 1) (by omega), w36 (3 * k + 2) (by omega)]
      exact ⟨⟨rfl, k3, k1⟩, rfl, by omega, by omega⟩
